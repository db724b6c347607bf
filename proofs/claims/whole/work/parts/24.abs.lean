/-! The mathematical state: what both the desk and the reference stand for. -/
/-- T; contacts made; parcels; places of the nodes; open; goal, at, last, end (0 live, 3, 4, 5); nodes -/
abbrev aS : Type := Nat × Nat × Nat × (Nat → Option Nat) × (Nat → Nat → Nat → Bool) × (Nat → Nat) × (Nat → Nat) × (Nat → Nat) × (Nat → Nat) × (Nat → Nat → Nat)
def aS.T (A : aS) : Nat := A.1
def aS.nc (A : aS) : Nat := A.2.1
def aS.P (A : aS) : Nat := A.2.2.1
def aS.pl (A : aS) : Nat → Option Nat := A.2.2.2.1
def aS.op (A : aS) : Nat → Nat → Nat → Bool := A.2.2.2.2.1
def aS.go (A : aS) : Nat → Nat := A.2.2.2.2.2.1
def aS.at (A : aS) : Nat → Nat := A.2.2.2.2.2.2.1
def aS.la (A : aS) : Nat → Nat := A.2.2.2.2.2.2.2.1
def aS.fa (A : aS) : Nat → Nat := A.2.2.2.2.2.2.2.2.1
def aS.nd (A : aS) : Nat → Nat → Nat := A.2.2.2.2.2.2.2.2.2
def a_goes (A : aS) (h t a b : Nat) : Bool := decide (A.at h ≤ t) && (decide (t < A.la h) && (decide (A.nd h t = a) && decide (A.nd h (t + 1) = b)))
def a_used (A : aS) (t a b : Nat) : Nat := g_cnt (fun h => a_goes A h t a b) A.P
def a_fr (A : aS) (t a b : Nat) : Bool := if a = b then (match A.pl a with
  | some c => decide (a_used A t a a < c)
  | none => false) else A.op a b t && decide (a_used A t a b = 0)
def a_isn (A : aS) (x : Int32) : Bool := !decide (x < 0) && (decide (x < 8) && (A.pl x.toNatClampNeg).isSome)
def a_pair (A : aS) (x y : Int32) : Bool := a_isn A x && (a_isn A y && !decide (x = y))
def a_places (o : Option Nat) : Int32 := match o with
  | some c => nI c
  | none => -1
/-- numbers that stay small -/
def a_ok (A : aS) : Prop := A.T ≤ 64 ∧ A.nc ≤ 24 ∧ A.P ≤ 32 ∧ (∀ n c, A.pl n = some c → c ≤ 4) ∧ ∀ h, h < A.P → A.go h < 8 ∧ A.at h < 64 ∧ A.la h ≤ 64 ∧ ∀ i, i < 65 → A.nd h i < 8
/-- the reference holds A, but for the rows of nodes that no parcel has yet -/
def JR0 (w : mWd) (A : aS) : Prop :=
  w.f 6 = nI A.T ∧ w.f 7 = nI A.nc ∧ w.f 8 = nI A.P ∧ (∀ n, n < 8 → w.a 11 n = a_places (A.pl n)) ∧ (∀ a b t, a < 8 → b < 8 → t < 64 → w.a 12 (512 * a + 64 * b + t) = m_b2 (A.op a b t)) ∧
  (∀ h, h < A.P → w.a 13 h = nI (A.go h) ∧ w.a 14 h = nI (A.nd h (A.at h)) ∧ w.a 15 h = nI (A.at h) ∧ w.a 16 h = nI (A.fa h) ∧ w.a 17 h = nI (A.at h) ∧ w.a 18 h = nI (A.la h) ∧ ∀ i, i < 65 → w.a 19 (65 * h + i) = nI (A.nd h i)) ∧ True
/-- the reference holds A -/
def JR (w : mWd) (A : aS) : Prop := JR0 w A ∧ ∀ h, h < 32 → ∀ i, i < 65 → w.a 19 (65 * h + i) = nI (A.nd h i)
theorem a_places_neg (o : Option Nat) (h : ∀ c, o = some c → c ≤ 4) : (0 : Int32) ≤ a_places o ↔ o.isSome = true := by
  cases o with
  | none => simp only [a_places, Option.isSome_none, Bool.false_eq_true, iff_false]; decide
  | some c =>
    simp only [a_places, Option.isSome_some, iff_true]
    exact nI_pos' (by have := h c rfl; omega)
theorem a_isn_nI {A : aS} {n : Nat} (hn : n < 8) : a_isn A (nI n) = (A.pl n).isSome := by
  simp [a_isn, nI_pos (n := n) (by omega), show nI n < 8 from (nI_lt' (b := 8) (by omega) (by omega)).mpr hn, nI_clamp (n := n) (by omega)]
theorem a_isn_spec {A : aS} {x : Int32} (h : a_isn A x = true) : ∃ n, n < 8 ∧ x = nI n ∧ (A.pl n).isSome = true := by
  simp only [a_isn, Bool.and_eq_true, Bool.not_eq_true', decide_eq_false_iff_not, decide_eq_true_eq] at h
  exact ⟨x.toNatClampNeg, n_is_lt h.1 (k2_nle h.2.1), m_nat h.1, h.2.2⟩
theorem a_pair_spec {A : aS} {x y : Int32} (h : a_pair A x y = true) : ∃ a b, a < 8 ∧ b < 8 ∧ a ≠ b ∧ x = nI a ∧ y = nI b ∧ (A.pl a).isSome = true ∧ (A.pl b).isSome = true := by
  simp only [a_pair, Bool.and_eq_true, Bool.not_eq_true', decide_eq_false_iff_not] at h
  obtain ⟨a, ha, rfl, h1⟩ := a_isn_spec h.1
  obtain ⟨b, hb, rfl, h2⟩ := a_isn_spec h.2.1
  exact ⟨a, b, ha, hb, fun e => h.2.2 (by rw [e]), rfl, rfl, h1, h2⟩
theorem a_used_le (A : aS) (t a b : Nat) (h : A.P ≤ 32) : a_used A t a b ≤ 32 := Nat.le_trans (g_cnt_le _ _) h
