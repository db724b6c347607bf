/-! Parcels. Rows laid by wip/gen/parcel.py. A parcel lies at a later cell n, its row of nodes behind it. -/
/-- what time tells of a parcel: at t, last l, fate f, tick k -/
def p_state (t l f k : Int32) : Int32 := if f = 0 then (if t ≤ k then (if l ≤ k then 3 else 2) else 1) else f
def p_live (t l f k : Int32) : Bool := decide (p_state t l f k = 1) || decide (p_state t l f k = 2)
def p_node (nd : Nat → Int32) (t l k : Int32) : Int32 := if k < t then -1 else if l < k then -1 else nd k.toNatClampNeg
theorem p_max {a b : Nat} (ha : a < 2 ^ 31) (hb : b < 2 ^ 31) : (if nI a < nI b then nI b else nI a) = nI (max a b) := by
  by_cases h : a < b
  · rw [if_pos ((nI_lt' ha hb).mpr h), Nat.max_eq_right (by omega)]
  · rw [if_neg (fun q => h ((nI_lt' ha hb).mp q)), Nat.max_eq_left (by omega)]
theorem p_stateAt {X : mX} {C S : Nat} {Q : Outcome → mM → Prop} {w : mWd} {n : Nat} {g f : Int32} {t l k : Int32} (hp : w.d n = some (.inr (1, [.int g, .int (t), .ref (n + 24), .int (l), .int f]))) (hq : Q (.returned (some (.int (p_state t l f k)))) (mw w)) : Sp X 15 0 0 C S (0, [(0, .ref (n + 23)), (1, .int (k))], []) (mw w) Q := by
  refine Sp.go 1 (g := (1, [(0, .ref (n + 23)), (1, .int (k))], [.ref (n + 23)])) rfl ?_
  refine Sp.get (v := .int (f)) rfl hp rfl ?_
  refine Sp.if rfl (fun (h1 : (f : Int32) = (0 : Int32)) => ?_) (fun (h1 : ¬ ((f : Int32) = (0 : Int32))) => ?_)
  · skip
    refine Sp.go 2 (g := (14, [(0, .ref (n + 23)), (1, .int (k))], [.ref (n + 23), .int (k)])) rfl ?_
    refine Sp.get (v := .int (t)) rfl hp rfl ?_
    refine Sp.icmp rfl (fun (h2 : (t : Int32) ≤ (k : Int32)) => ?_) (fun (h2 : ¬ ((t : Int32) ≤ (k : Int32))) => ?_)
    · skip
      refine Sp.go 2 (g := (24, [(0, .ref (n + 23)), (1, .int (k))], [.ref (n + 23), .int (k)])) rfl ?_
      refine Sp.get (v := .int (l)) rfl hp rfl ?_
      refine Sp.icmp rfl (fun (h3 : (l : Int32) ≤ (k : Int32)) => ?_) (fun (h3 : ¬ ((l : Int32) ≤ (k : Int32))) => ?_)
      · skip
        refine Sp.go 1 (g := (35, [(0, .ref (n + 23)), (1, .int (k))], [.int 3])) rfl ?_
        refine Sp.iret rfl (Or.inl rfl) ?_
        unfold p_state at hq; rw [if_pos h1, if_pos h2, if_pos h3] at hq; exact hq
      · skip
        refine Sp.go 2 (g := (35, [(0, .ref (n + 23)), (1, .int (k))], [.int 2])) rfl ?_
        refine Sp.iret rfl (Or.inl rfl) ?_
        unfold p_state at hq; rw [if_pos h1, if_pos h2, if_neg h3] at hq; exact hq
    · skip
      refine Sp.go 1 (g := (21, [(0, .ref (n + 23)), (1, .int (k))], [.int 1])) rfl ?_
      refine Sp.iret rfl (Or.inl rfl) ?_
      unfold p_state at hq; rw [if_pos h1, if_neg h2] at hq; exact hq
  · skip
    refine Sp.go 1 (g := (8, [(0, .ref (n + 23)), (1, .int (k))], [.ref (n + 23)])) rfl ?_
    refine Sp.get (v := .int (f)) rfl hp rfl ?_
    refine Sp.iret rfl (Or.inl rfl) ?_
    unfold p_state at hq; rw [if_neg h1] at hq; exact hq
theorem p_isUnderWay {X : mX} {C S : Nat} {Q : Outcome → mM → Prop} {w : mWd} {n : Nat} {g f : Int32} {t l k : Int32} (hp : w.d n = some (.inr (1, [.int g, .int (t), .ref (n + 24), .int (l), .int f]))) (hq : Q (.returned (some (.int (m_b2 (p_live t l f k))))) (mw w)) : Sp X 16 1 21 C S (0, [(0, .ref (n + 23)), (1, .int (k))], []) (mw w) Q := by
  refine Sp.go 2 (g := (2, [(0, .ref (n + 23)), (1, .int (k))], [.int (k), .ref (n + 23)])) rfl ?_
  refine Sp.vr (some (.int (p_state (t) (l) (f) (k)))) (mw (w)) (k' := 15) (F' := 0) (N' := 0) (C' := 0) (S' := 0) (vs := [.int (k)]) (st := []) rfl hp rfl rfl (Nat.le_of_ble_eq_true rfl) (Nat.le_of_ble_eq_true rfl) (by decide) (by decide) (Nat.zero_le _) (Nat.zero_le _) (fun Q' h => p_stateAt hp h) ?_
  refine Sp.go 3 (g := (8, [(2, .int (p_state (t) (l) (f) (k))), (0, .ref (n + 23)), (1, .int (k))], [.int 1, .int (p_state (t) (l) (f) (k))])) rfl ?_
  refine Sp.icmp rfl (fun (h1 : (p_state (t) (l) (f) (k) : Int32) = (1 : Int32)) => ?_) (fun (h1 : ¬ ((p_state (t) (l) (f) (k) : Int32) = (1 : Int32))) => ?_)
  · skip
    refine Sp.go 2 (g := (21, [(2, .int (p_state (t) (l) (f) (k))), (0, .ref (n + 23)), (1, .int (k))], [.int 1])) rfl ?_
    refine Sp.iret rfl (Or.inr ⟨rfl, Or.inr rfl⟩) ?_
    rw [show p_live t l f k = true by simp [p_live, h1]] at hq; exact hq
  · skip
    refine Sp.go 2 (g := (13, [(2, .int (p_state (t) (l) (f) (k))), (0, .ref (n + 23)), (1, .int (k))], [.int 2, .int (p_state (t) (l) (f) (k))])) rfl ?_
    refine Sp.icmp rfl (fun (h2 : ¬ (p_state (t) (l) (f) (k) : Int32) = (2 : Int32)) => ?_) (fun (h2 : ¬ (¬ (p_state (t) (l) (f) (k) : Int32) = (2 : Int32))) => ?_)
    · skip
      refine Sp.go 1 (g := (21, [(2, .int (p_state (t) (l) (f) (k))), (0, .ref (n + 23)), (1, .int (k))], [.int 0])) rfl ?_
      refine Sp.iret rfl (Or.inr ⟨rfl, Or.inl rfl⟩) ?_
      rw [show p_live t l f k = false by simp [p_live, h1, h2]] at hq; exact hq
    · skip
      refine Sp.go 2 (g := (21, [(2, .int (p_state (t) (l) (f) (k))), (0, .ref (n + 23)), (1, .int (k))], [.int 1])) rfl ?_
      refine Sp.iret rfl (Or.inr ⟨rfl, Or.inr rfl⟩) ?_
      rw [show p_live t l f k = true by simp [p_live, Classical.not_not.mp h2]] at hq; exact hq
theorem p_idx {t l k : Int32} {e : Nat} (h0 : ¬ t < 0) (h1 : ¬ k < t) (h2 : ¬ l < k) (hl : l ≤ nI e) (he : e < 65) : k = nI k.toNatClampNeg ∧ k.toNatClampNeg < 65 := by
  have a1 : ¬ k < 0 := by
    rw [Int32.lt_iff_toInt_lt] at h0 h1 ⊢
    rw [Int32.toInt_zero] at h0 ⊢
    omega
  have a2 := m_nat a1
  refine ⟨a2, ?_⟩
  have a3 : k.toNatClampNeg < 2 ^ 31 := by
    have := Int32.toInt_lt k
    show k.toInt.toNat < 2 ^ 31
    omega
  have a4 : k ≤ nI e := by
    rw [Int32.lt_iff_toInt_lt] at h2
    rw [Int32.le_iff_toInt_le] at hl ⊢
    omega
  rw [a2, nI_le' a3 (by omega)] at a4
  omega
theorem p_nodeFor {X : mX} {C S : Nat} {Q : Outcome → mM → Prop} {w : mWd} {n : Nat} {g f : Int32} {nd : Nat → Int32} {t l k : Int32} {e : Nat} (h0 : ¬ t < 0) (hl : l ≤ nI e) (he : e < 65) (hp : w.d n = some (.inr (1, [.int g, .int (t), .ref (n + 24), .int (l), .int f]))) (hn : w.d (n + 1) = some (.inl (0, 65, .inl nd))) (hq : Q (.returned (some (.int (p_node nd t l k)))) (mw w)) : Sp X 17 0 0 C S (0, [(0, .ref (n + 23)), (1, .int (k))], []) (mw w) Q := by
  refine Sp.go 2 (g := (2, [(0, .ref (n + 23)), (1, .int (k))], [.ref (n + 23), .int (k)])) rfl ?_
  refine Sp.get (v := .int (t)) rfl hp rfl ?_
  refine Sp.icmp rfl (fun (h1 : (k : Int32) < (t : Int32)) => ?_) (fun (h1 : ¬ ((k : Int32) < (t : Int32))) => ?_)
  · skip
    refine Sp.go 1 (g := (26, [(0, .ref (n + 23)), (1, .int (k))], [.int (-1)])) rfl ?_
    refine Sp.iret rfl (Or.inl rfl) ?_
    unfold p_node at hq; rw [if_pos h1] at hq; exact hq
  · skip
    refine Sp.go 2 (g := (10, [(0, .ref (n + 23)), (1, .int (k))], [.ref (n + 23), .int (k)])) rfl ?_
    refine Sp.get (v := .int (l)) rfl hp rfl ?_
    refine Sp.icmp rfl (fun (h2 : (l : Int32) < (k : Int32)) => ?_) (fun (h2 : ¬ ((l : Int32) < (k : Int32))) => ?_)
    · skip
      refine Sp.go 1 (g := (26, [(0, .ref (n + 23)), (1, .int (k))], [.int (-1)])) rfl ?_
      refine Sp.iret rfl (Or.inl rfl) ?_
      unfold p_node at hq; rw [if_neg h1, if_pos h2] at hq; exact hq
    · skip
      refine Sp.go 1 (g := (17, [(0, .ref (n + 23)), (1, .int (k))], [.ref (n + 23)])) rfl ?_
      refine Sp.get (v := .ref (n + 24)) rfl hp rfl ?_
      refine Sp.go 1 (g := (21, [(0, .ref (n + 23)), (1, .int (k))], [.int (k), .ref (n + 24)])) rfl ?_
      refine Sp.iald (f := nd) (j := k.toNatClampNeg) rfl hn (m_ix_of (p_idx h0 h1 h2 hl he).1 (p_idx h0 h1 h2 hl he).2 (by omega)) ?_
      refine Sp.go 1 (g := (26, [(0, .ref (n + 23)), (1, .int (k))], [.int (nd (k.toNatClampNeg))])) rfl ?_
      refine Sp.iret rfl (Or.inl rfl) ?_
      unfold p_node at hq; rw [if_neg h1, if_neg h2] at hq; exact hq
def p_step (nd : Nat → Int32) (a b : Int32) (i : Nat) : Bool := (decide (nd i = a) && decide (nd (i + 1) = b)) || (decide (nd i = b) && decide (nd (i + 1) = a))
theorem p_uses_loop {X : mX} {C S : Nat} {Q : Outcome → mM → Prop} {w : mWd} {n : Nat} {g f : Int32} {nd : Nat → Int32} {a b v3 t : Int32} {e : Nat} (he : e ≤ 64) (hp : w.d n = some (.inr (1, [.int g, .int (t), .ref (n + 24), .int (nI e), .int f]))) (hn : w.d (n + 1) = some (.inl (0, 65, .inl nd)))  : ∀ (d i : Nat), i < 65 → i + d = max i e → Q (.returned (some (.int (m_b2 (m_any (p_step nd a b) i d))))) (mw w) → Sp X 18 1 21 C S (10, [(4, .int (nI i)), (0, .ref (n + 23)), (1, .int (a)), (2, .int (b)), (3, .int (v3))], []) (mw w) Q := by
  intro d
  induction d with
  | zero =>
    intro i h65 hi hq
    refine Sp.go 2 (g := (13, [(4, .int (nI i)), (0, .ref (n + 23)), (1, .int (a)), (2, .int (b)), (3, .int (v3))], [.ref (n + 23), .int (nI i)])) rfl ?_
    refine Sp.get (v := .int (nI e)) rfl hp rfl ?_
    refine Sp.icmp rfl (fun u1 => ?_) (fun u1 => absurd ((nI_le' (a := e) (b := i) (by omega) (by omega)).mpr (by omega)) u1)
    refine Sp.go 1 (g := (100, [(4, .int (nI i)), (0, .ref (n + 23)), (1, .int (a)), (2, .int (b)), (3, .int (v3))], [.int 0])) rfl ?_
    refine Sp.iret rfl (Or.inr ⟨rfl, Or.inl rfl⟩) ?_
    exact hq
  | succ d ih =>
    intro i h65 hi hq
    have hie : i < e := by omega
    simp only [m_any] at hq
    refine Sp.go 2 (g := (13, [(4, .int (nI i)), (0, .ref (n + 23)), (1, .int (a)), (2, .int (b)), (3, .int (v3))], [.ref (n + 23), .int (nI i)])) rfl ?_
    refine Sp.get (v := .int (nI e)) rfl hp rfl ?_
    refine Sp.icmp rfl (fun u1 => absurd u1 (fun q => absurd ((nI_le' (a := e) (b := i) (by omega) (by omega)).mp q) (by omega))) (fun u1 => ?_)
    refine Sp.go 1 (g := (20, [(4, .int (nI i)), (0, .ref (n + 23)), (1, .int (a)), (2, .int (b)), (3, .int (v3))], [.ref (n + 23)])) rfl ?_
    refine Sp.get (v := .ref (n + 24)) rfl hp rfl ?_
    refine Sp.go 1 (g := (25, [(4, .int (nI i)), (0, .ref (n + 23)), (1, .int (a)), (2, .int (b)), (3, .int (v3))], [.int (nI i), .ref (n + 24)])) rfl ?_
    refine Sp.iald (f := nd) (j := i) rfl hn (m_ix_of (by simp only [nI, Int32.ofNat_add, Int32.ofNat_mul] <;> rfl) (by omega) (by omega)) ?_
    refine Sp.go 1 (g := (27, [(4, .int (nI i)), (0, .ref (n + 23)), (1, .int (a)), (2, .int (b)), (3, .int (v3))], [.int (a), .int (nd i)])) rfl ?_
    refine Sp.icmp rfl (fun (h2 : ¬ (nd i : Int32) = (a : Int32)) => ?_) (fun (h2 : ¬ (¬ (nd i : Int32) = (a : Int32))) => ?_)
    · skip
      refine Sp.go 3 (g := (51, [(5, .int 0), (4, .int (nI i)), (0, .ref (n + 23)), (1, .int (a)), (2, .int (b)), (3, .int (v3))], [.ref (n + 23)])) rfl ?_
      refine Sp.get (v := .ref (n + 24)) rfl hp rfl ?_
      refine Sp.go 1 (g := (56, [(5, .int 0), (4, .int (nI i)), (0, .ref (n + 23)), (1, .int (a)), (2, .int (b)), (3, .int (v3))], [.int (nI i), .ref (n + 24)])) rfl ?_
      refine Sp.iald (f := nd) (j := i) rfl hn (m_ix_of (by simp only [nI, Int32.ofNat_add, Int32.ofNat_mul] <;> rfl) (by omega) (by omega)) ?_
      refine Sp.go 1 (g := (58, [(5, .int 0), (4, .int (nI i)), (0, .ref (n + 23)), (1, .int (a)), (2, .int (b)), (3, .int (v3))], [.int (b), .int (nd i)])) rfl ?_
      refine Sp.icmp rfl (fun (h3 : ¬ (nd i : Int32) = (b : Int32)) => ?_) (fun (h3 : ¬ (¬ (nd i : Int32) = (b : Int32))) => ?_)
      · skip
        refine Sp.go 3 (g := (83, [(6, .int 0), (5, .int 0), (4, .int (nI i)), (0, .ref (n + 23)), (1, .int (a)), (2, .int (b)), (3, .int (v3))], [.int 0])) rfl ?_
        refine Sp.if rfl (fun (h4 : ¬ (0 : Int32) = (0 : Int32)) => ?_) (fun (h4 : ¬ (¬ (0 : Int32) = (0 : Int32))) => ?_)
        · skip
          refine Sp.go 1 (g := (92, [(6, .int 0), (5, .int 0), (4, .int (nI i)), (0, .ref (n + 23)), (1, .int (a)), (2, .int (b)), (3, .int (v3))], [.int 1])) rfl ?_
          refine Sp.iret rfl (Or.inr ⟨rfl, Or.inr rfl⟩) ?_
          have hps : p_step nd a b i = true := by unfold p_step; simp_all
          rw [hps] at hq
          exact hq
        · skip
          refine Sp.go 1 (g := (88, [(6, .int 0), (5, .int 0), (4, .int (nI i)), (0, .ref (n + 23)), (1, .int (a)), (2, .int (b)), (3, .int (v3))], [.int 0])) rfl ?_
          refine Sp.if rfl (fun (h5 : (0 : Int32) = (0 : Int32)) => ?_) (fun (h5 : ¬ ((0 : Int32) = (0 : Int32))) => ?_)
          · skip
            refine Sp.go 2 (g := (10, [(4, .int (nI i + 1)), (6, .int 0), (5, .int 0), (0, .ref (n + 23)), (1, .int (a)), (2, .int (b)), (3, .int (v3))], [])) rfl ?_
            rw [← nI_succ]
            refine Sp.lsub [0, 3, 4, 5, 6] (ls' := [(4, .int (nI (i + 1))), (0, .ref (n + 23)), (1, .int (a)), (2, .int (b)), (3, .int (v3))]) rfl ?_
            refine ih (i + 1) (by omega) (by omega) ?_
            have hps : p_step nd a b i = false := by unfold p_step; simp_all
            rw [hps] at hq
            exact hq
          · skip
            refine Sp.go 1 (g := (92, [(6, .int 0), (5, .int 0), (4, .int (nI i)), (0, .ref (n + 23)), (1, .int (a)), (2, .int (b)), (3, .int (v3))], [.int 1])) rfl ?_
            refine Sp.iret rfl (Or.inr ⟨rfl, Or.inr rfl⟩) ?_
            have hps : p_step nd a b i = true := by unfold p_step; simp_all
            rw [hps] at hq
            exact hq
      · skip
        refine Sp.go 1 (g := (62, [(5, .int 0), (4, .int (nI i)), (0, .ref (n + 23)), (1, .int (a)), (2, .int (b)), (3, .int (v3))], [.ref (n + 23)])) rfl ?_
        refine Sp.get (v := .ref (n + 24)) rfl hp rfl ?_
        refine Sp.go 3 (g := (69, [(5, .int 0), (4, .int (nI i)), (0, .ref (n + 23)), (1, .int (a)), (2, .int (b)), (3, .int (v3))], [.int ((nI i) + 1), .ref (n + 24)])) rfl ?_
        refine Sp.iald (f := nd) (j := i + 1) rfl hn (m_ix_of (by simp only [nI, Int32.ofNat_add, Int32.ofNat_mul] <;> rfl) (by omega) (by omega)) ?_
        refine Sp.go 1 (g := (71, [(5, .int 0), (4, .int (nI i)), (0, .ref (n + 23)), (1, .int (a)), (2, .int (b)), (3, .int (v3))], [.int (a), .int (nd (i + 1))])) rfl ?_
        refine Sp.icmp rfl (fun (h6 : ¬ (nd (i + 1) : Int32) = (a : Int32)) => ?_) (fun (h6 : ¬ (¬ (nd (i + 1) : Int32) = (a : Int32))) => ?_)
        · skip
          refine Sp.go 3 (g := (83, [(6, .int 0), (5, .int 0), (4, .int (nI i)), (0, .ref (n + 23)), (1, .int (a)), (2, .int (b)), (3, .int (v3))], [.int 0])) rfl ?_
          refine Sp.if rfl (fun (h7 : ¬ (0 : Int32) = (0 : Int32)) => ?_) (fun (h7 : ¬ (¬ (0 : Int32) = (0 : Int32))) => ?_)
          · skip
            refine Sp.go 1 (g := (92, [(6, .int 0), (5, .int 0), (4, .int (nI i)), (0, .ref (n + 23)), (1, .int (a)), (2, .int (b)), (3, .int (v3))], [.int 1])) rfl ?_
            refine Sp.iret rfl (Or.inr ⟨rfl, Or.inr rfl⟩) ?_
            have hps : p_step nd a b i = true := by unfold p_step; simp_all
            rw [hps] at hq
            exact hq
          · skip
            refine Sp.go 1 (g := (88, [(6, .int 0), (5, .int 0), (4, .int (nI i)), (0, .ref (n + 23)), (1, .int (a)), (2, .int (b)), (3, .int (v3))], [.int 0])) rfl ?_
            refine Sp.if rfl (fun (h8 : (0 : Int32) = (0 : Int32)) => ?_) (fun (h8 : ¬ ((0 : Int32) = (0 : Int32))) => ?_)
            · skip
              refine Sp.go 2 (g := (10, [(4, .int (nI i + 1)), (6, .int 0), (5, .int 0), (0, .ref (n + 23)), (1, .int (a)), (2, .int (b)), (3, .int (v3))], [])) rfl ?_
              rw [← nI_succ]
              refine Sp.lsub [0, 3, 4, 5, 6] (ls' := [(4, .int (nI (i + 1))), (0, .ref (n + 23)), (1, .int (a)), (2, .int (b)), (3, .int (v3))]) rfl ?_
              refine ih (i + 1) (by omega) (by omega) ?_
              have hps : p_step nd a b i = false := by unfold p_step; simp_all
              rw [hps] at hq
              exact hq
            · skip
              refine Sp.go 1 (g := (92, [(6, .int 0), (5, .int 0), (4, .int (nI i)), (0, .ref (n + 23)), (1, .int (a)), (2, .int (b)), (3, .int (v3))], [.int 1])) rfl ?_
              refine Sp.iret rfl (Or.inr ⟨rfl, Or.inr rfl⟩) ?_
              have hps : p_step nd a b i = true := by unfold p_step; simp_all
              rw [hps] at hq
              exact hq
        · skip
          refine Sp.go 4 (g := (83, [(6, .int 1), (5, .int 0), (4, .int (nI i)), (0, .ref (n + 23)), (1, .int (a)), (2, .int (b)), (3, .int (v3))], [.int 0])) rfl ?_
          refine Sp.if rfl (fun (h9 : ¬ (0 : Int32) = (0 : Int32)) => ?_) (fun (h9 : ¬ (¬ (0 : Int32) = (0 : Int32))) => ?_)
          · skip
            refine Sp.go 1 (g := (92, [(6, .int 1), (5, .int 0), (4, .int (nI i)), (0, .ref (n + 23)), (1, .int (a)), (2, .int (b)), (3, .int (v3))], [.int 1])) rfl ?_
            refine Sp.iret rfl (Or.inr ⟨rfl, Or.inr rfl⟩) ?_
            have hps : p_step nd a b i = true := by unfold p_step; simp_all
            rw [hps] at hq
            exact hq
          · skip
            refine Sp.go 1 (g := (88, [(6, .int 1), (5, .int 0), (4, .int (nI i)), (0, .ref (n + 23)), (1, .int (a)), (2, .int (b)), (3, .int (v3))], [.int 1])) rfl ?_
            refine Sp.if rfl (fun (h10 : (1 : Int32) = (0 : Int32)) => ?_) (fun (h10 : ¬ ((1 : Int32) = (0 : Int32))) => ?_)
            · skip
              refine Sp.go 2 (g := (10, [(4, .int (nI i + 1)), (6, .int 1), (5, .int 0), (0, .ref (n + 23)), (1, .int (a)), (2, .int (b)), (3, .int (v3))], [])) rfl ?_
              rw [← nI_succ]
              refine Sp.lsub [0, 3, 4, 5, 6] (ls' := [(4, .int (nI (i + 1))), (0, .ref (n + 23)), (1, .int (a)), (2, .int (b)), (3, .int (v3))]) rfl ?_
              refine ih (i + 1) (by omega) (by omega) ?_
              have hps : p_step nd a b i = false := by unfold p_step; simp_all
              rw [hps] at hq
              exact hq
            · skip
              refine Sp.go 1 (g := (92, [(6, .int 1), (5, .int 0), (4, .int (nI i)), (0, .ref (n + 23)), (1, .int (a)), (2, .int (b)), (3, .int (v3))], [.int 1])) rfl ?_
              refine Sp.iret rfl (Or.inr ⟨rfl, Or.inr rfl⟩) ?_
              have hps : p_step nd a b i = true := by unfold p_step; simp_all
              rw [hps] at hq
              exact hq
    · skip
      refine Sp.go 1 (g := (31, [(4, .int (nI i)), (0, .ref (n + 23)), (1, .int (a)), (2, .int (b)), (3, .int (v3))], [.ref (n + 23)])) rfl ?_
      refine Sp.get (v := .ref (n + 24)) rfl hp rfl ?_
      refine Sp.go 3 (g := (38, [(4, .int (nI i)), (0, .ref (n + 23)), (1, .int (a)), (2, .int (b)), (3, .int (v3))], [.int ((nI i) + 1), .ref (n + 24)])) rfl ?_
      refine Sp.iald (f := nd) (j := i + 1) rfl hn (m_ix_of (by simp only [nI, Int32.ofNat_add, Int32.ofNat_mul] <;> rfl) (by omega) (by omega)) ?_
      refine Sp.go 1 (g := (40, [(4, .int (nI i)), (0, .ref (n + 23)), (1, .int (a)), (2, .int (b)), (3, .int (v3))], [.int (b), .int (nd (i + 1))])) rfl ?_
      refine Sp.icmp rfl (fun (h11 : ¬ (nd (i + 1) : Int32) = (b : Int32)) => ?_) (fun (h11 : ¬ (¬ (nd (i + 1) : Int32) = (b : Int32))) => ?_)
      · skip
        refine Sp.go 3 (g := (51, [(5, .int 0), (4, .int (nI i)), (0, .ref (n + 23)), (1, .int (a)), (2, .int (b)), (3, .int (v3))], [.ref (n + 23)])) rfl ?_
        refine Sp.get (v := .ref (n + 24)) rfl hp rfl ?_
        refine Sp.go 1 (g := (56, [(5, .int 0), (4, .int (nI i)), (0, .ref (n + 23)), (1, .int (a)), (2, .int (b)), (3, .int (v3))], [.int (nI i), .ref (n + 24)])) rfl ?_
        refine Sp.iald (f := nd) (j := i) rfl hn (m_ix_of (by simp only [nI, Int32.ofNat_add, Int32.ofNat_mul] <;> rfl) (by omega) (by omega)) ?_
        refine Sp.go 1 (g := (58, [(5, .int 0), (4, .int (nI i)), (0, .ref (n + 23)), (1, .int (a)), (2, .int (b)), (3, .int (v3))], [.int (b), .int (nd i)])) rfl ?_
        refine Sp.icmp rfl (fun (h12 : ¬ (nd i : Int32) = (b : Int32)) => ?_) (fun (h12 : ¬ (¬ (nd i : Int32) = (b : Int32))) => ?_)
        · skip
          refine Sp.go 3 (g := (83, [(6, .int 0), (5, .int 0), (4, .int (nI i)), (0, .ref (n + 23)), (1, .int (a)), (2, .int (b)), (3, .int (v3))], [.int 0])) rfl ?_
          refine Sp.if rfl (fun (h13 : ¬ (0 : Int32) = (0 : Int32)) => ?_) (fun (h13 : ¬ (¬ (0 : Int32) = (0 : Int32))) => ?_)
          · skip
            refine Sp.go 1 (g := (92, [(6, .int 0), (5, .int 0), (4, .int (nI i)), (0, .ref (n + 23)), (1, .int (a)), (2, .int (b)), (3, .int (v3))], [.int 1])) rfl ?_
            refine Sp.iret rfl (Or.inr ⟨rfl, Or.inr rfl⟩) ?_
            have hps : p_step nd a b i = true := by unfold p_step; simp_all
            rw [hps] at hq
            exact hq
          · skip
            refine Sp.go 1 (g := (88, [(6, .int 0), (5, .int 0), (4, .int (nI i)), (0, .ref (n + 23)), (1, .int (a)), (2, .int (b)), (3, .int (v3))], [.int 0])) rfl ?_
            refine Sp.if rfl (fun (h14 : (0 : Int32) = (0 : Int32)) => ?_) (fun (h14 : ¬ ((0 : Int32) = (0 : Int32))) => ?_)
            · skip
              refine Sp.go 2 (g := (10, [(4, .int (nI i + 1)), (6, .int 0), (5, .int 0), (0, .ref (n + 23)), (1, .int (a)), (2, .int (b)), (3, .int (v3))], [])) rfl ?_
              rw [← nI_succ]
              refine Sp.lsub [0, 3, 4, 5, 6] (ls' := [(4, .int (nI (i + 1))), (0, .ref (n + 23)), (1, .int (a)), (2, .int (b)), (3, .int (v3))]) rfl ?_
              refine ih (i + 1) (by omega) (by omega) ?_
              have hps : p_step nd a b i = false := by unfold p_step; simp_all
              rw [hps] at hq
              exact hq
            · skip
              refine Sp.go 1 (g := (92, [(6, .int 0), (5, .int 0), (4, .int (nI i)), (0, .ref (n + 23)), (1, .int (a)), (2, .int (b)), (3, .int (v3))], [.int 1])) rfl ?_
              refine Sp.iret rfl (Or.inr ⟨rfl, Or.inr rfl⟩) ?_
              have hps : p_step nd a b i = true := by unfold p_step; simp_all
              rw [hps] at hq
              exact hq
        · skip
          refine Sp.go 1 (g := (62, [(5, .int 0), (4, .int (nI i)), (0, .ref (n + 23)), (1, .int (a)), (2, .int (b)), (3, .int (v3))], [.ref (n + 23)])) rfl ?_
          refine Sp.get (v := .ref (n + 24)) rfl hp rfl ?_
          refine Sp.go 3 (g := (69, [(5, .int 0), (4, .int (nI i)), (0, .ref (n + 23)), (1, .int (a)), (2, .int (b)), (3, .int (v3))], [.int ((nI i) + 1), .ref (n + 24)])) rfl ?_
          refine Sp.iald (f := nd) (j := i + 1) rfl hn (m_ix_of (by simp only [nI, Int32.ofNat_add, Int32.ofNat_mul] <;> rfl) (by omega) (by omega)) ?_
          refine Sp.go 1 (g := (71, [(5, .int 0), (4, .int (nI i)), (0, .ref (n + 23)), (1, .int (a)), (2, .int (b)), (3, .int (v3))], [.int (a), .int (nd (i + 1))])) rfl ?_
          refine Sp.icmp rfl (fun (h15 : ¬ (nd (i + 1) : Int32) = (a : Int32)) => ?_) (fun (h15 : ¬ (¬ (nd (i + 1) : Int32) = (a : Int32))) => ?_)
          · skip
            refine Sp.go 3 (g := (83, [(6, .int 0), (5, .int 0), (4, .int (nI i)), (0, .ref (n + 23)), (1, .int (a)), (2, .int (b)), (3, .int (v3))], [.int 0])) rfl ?_
            refine Sp.if rfl (fun (h16 : ¬ (0 : Int32) = (0 : Int32)) => ?_) (fun (h16 : ¬ (¬ (0 : Int32) = (0 : Int32))) => ?_)
            · skip
              refine Sp.go 1 (g := (92, [(6, .int 0), (5, .int 0), (4, .int (nI i)), (0, .ref (n + 23)), (1, .int (a)), (2, .int (b)), (3, .int (v3))], [.int 1])) rfl ?_
              refine Sp.iret rfl (Or.inr ⟨rfl, Or.inr rfl⟩) ?_
              have hps : p_step nd a b i = true := by unfold p_step; simp_all
              rw [hps] at hq
              exact hq
            · skip
              refine Sp.go 1 (g := (88, [(6, .int 0), (5, .int 0), (4, .int (nI i)), (0, .ref (n + 23)), (1, .int (a)), (2, .int (b)), (3, .int (v3))], [.int 0])) rfl ?_
              refine Sp.if rfl (fun (h17 : (0 : Int32) = (0 : Int32)) => ?_) (fun (h17 : ¬ ((0 : Int32) = (0 : Int32))) => ?_)
              · skip
                refine Sp.go 2 (g := (10, [(4, .int (nI i + 1)), (6, .int 0), (5, .int 0), (0, .ref (n + 23)), (1, .int (a)), (2, .int (b)), (3, .int (v3))], [])) rfl ?_
                rw [← nI_succ]
                refine Sp.lsub [0, 3, 4, 5, 6] (ls' := [(4, .int (nI (i + 1))), (0, .ref (n + 23)), (1, .int (a)), (2, .int (b)), (3, .int (v3))]) rfl ?_
                refine ih (i + 1) (by omega) (by omega) ?_
                have hps : p_step nd a b i = false := by unfold p_step; simp_all
                rw [hps] at hq
                exact hq
              · skip
                refine Sp.go 1 (g := (92, [(6, .int 0), (5, .int 0), (4, .int (nI i)), (0, .ref (n + 23)), (1, .int (a)), (2, .int (b)), (3, .int (v3))], [.int 1])) rfl ?_
                refine Sp.iret rfl (Or.inr ⟨rfl, Or.inr rfl⟩) ?_
                have hps : p_step nd a b i = true := by unfold p_step; simp_all
                rw [hps] at hq
                exact hq
          · skip
            refine Sp.go 4 (g := (83, [(6, .int 1), (5, .int 0), (4, .int (nI i)), (0, .ref (n + 23)), (1, .int (a)), (2, .int (b)), (3, .int (v3))], [.int 0])) rfl ?_
            refine Sp.if rfl (fun (h18 : ¬ (0 : Int32) = (0 : Int32)) => ?_) (fun (h18 : ¬ (¬ (0 : Int32) = (0 : Int32))) => ?_)
            · skip
              refine Sp.go 1 (g := (92, [(6, .int 1), (5, .int 0), (4, .int (nI i)), (0, .ref (n + 23)), (1, .int (a)), (2, .int (b)), (3, .int (v3))], [.int 1])) rfl ?_
              refine Sp.iret rfl (Or.inr ⟨rfl, Or.inr rfl⟩) ?_
              have hps : p_step nd a b i = true := by unfold p_step; simp_all
              rw [hps] at hq
              exact hq
            · skip
              refine Sp.go 1 (g := (88, [(6, .int 1), (5, .int 0), (4, .int (nI i)), (0, .ref (n + 23)), (1, .int (a)), (2, .int (b)), (3, .int (v3))], [.int 1])) rfl ?_
              refine Sp.if rfl (fun (h19 : (1 : Int32) = (0 : Int32)) => ?_) (fun (h19 : ¬ ((1 : Int32) = (0 : Int32))) => ?_)
              · skip
                refine Sp.go 2 (g := (10, [(4, .int (nI i + 1)), (6, .int 1), (5, .int 0), (0, .ref (n + 23)), (1, .int (a)), (2, .int (b)), (3, .int (v3))], [])) rfl ?_
                rw [← nI_succ]
                refine Sp.lsub [0, 3, 4, 5, 6] (ls' := [(4, .int (nI (i + 1))), (0, .ref (n + 23)), (1, .int (a)), (2, .int (b)), (3, .int (v3))]) rfl ?_
                refine ih (i + 1) (by omega) (by omega) ?_
                have hps : p_step nd a b i = false := by unfold p_step; simp_all
                rw [hps] at hq
                exact hq
              · skip
                refine Sp.go 1 (g := (92, [(6, .int 1), (5, .int 0), (4, .int (nI i)), (0, .ref (n + 23)), (1, .int (a)), (2, .int (b)), (3, .int (v3))], [.int 1])) rfl ?_
                refine Sp.iret rfl (Or.inr ⟨rfl, Or.inr rfl⟩) ?_
                have hps : p_step nd a b i = true := by unfold p_step; simp_all
                rw [hps] at hq
                exact hq
      · skip
        refine Sp.go 4 (g := (51, [(5, .int 1), (4, .int (nI i)), (0, .ref (n + 23)), (1, .int (a)), (2, .int (b)), (3, .int (v3))], [.ref (n + 23)])) rfl ?_
        refine Sp.get (v := .ref (n + 24)) rfl hp rfl ?_
        refine Sp.go 1 (g := (56, [(5, .int 1), (4, .int (nI i)), (0, .ref (n + 23)), (1, .int (a)), (2, .int (b)), (3, .int (v3))], [.int (nI i), .ref (n + 24)])) rfl ?_
        refine Sp.iald (f := nd) (j := i) rfl hn (m_ix_of (by simp only [nI, Int32.ofNat_add, Int32.ofNat_mul] <;> rfl) (by omega) (by omega)) ?_
        refine Sp.go 1 (g := (58, [(5, .int 1), (4, .int (nI i)), (0, .ref (n + 23)), (1, .int (a)), (2, .int (b)), (3, .int (v3))], [.int (b), .int (nd i)])) rfl ?_
        refine Sp.icmp rfl (fun (h20 : ¬ (nd i : Int32) = (b : Int32)) => ?_) (fun (h20 : ¬ (¬ (nd i : Int32) = (b : Int32))) => ?_)
        · skip
          refine Sp.go 3 (g := (83, [(6, .int 0), (5, .int 1), (4, .int (nI i)), (0, .ref (n + 23)), (1, .int (a)), (2, .int (b)), (3, .int (v3))], [.int 1])) rfl ?_
          refine Sp.if rfl (fun (h21 : ¬ (1 : Int32) = (0 : Int32)) => ?_) (fun (h21 : ¬ (¬ (1 : Int32) = (0 : Int32))) => ?_)
          · skip
            refine Sp.go 1 (g := (92, [(6, .int 0), (5, .int 1), (4, .int (nI i)), (0, .ref (n + 23)), (1, .int (a)), (2, .int (b)), (3, .int (v3))], [.int 1])) rfl ?_
            refine Sp.iret rfl (Or.inr ⟨rfl, Or.inr rfl⟩) ?_
            have hps : p_step nd a b i = true := by unfold p_step; simp_all
            rw [hps] at hq
            exact hq
          · skip
            refine Sp.go 1 (g := (88, [(6, .int 0), (5, .int 1), (4, .int (nI i)), (0, .ref (n + 23)), (1, .int (a)), (2, .int (b)), (3, .int (v3))], [.int 0])) rfl ?_
            refine Sp.if rfl (fun (h22 : (0 : Int32) = (0 : Int32)) => ?_) (fun (h22 : ¬ ((0 : Int32) = (0 : Int32))) => ?_)
            · skip
              refine Sp.go 2 (g := (10, [(4, .int (nI i + 1)), (6, .int 0), (5, .int 1), (0, .ref (n + 23)), (1, .int (a)), (2, .int (b)), (3, .int (v3))], [])) rfl ?_
              rw [← nI_succ]
              refine Sp.lsub [0, 3, 4, 5, 6] (ls' := [(4, .int (nI (i + 1))), (0, .ref (n + 23)), (1, .int (a)), (2, .int (b)), (3, .int (v3))]) rfl ?_
              refine ih (i + 1) (by omega) (by omega) ?_
              have hps : p_step nd a b i = false := by unfold p_step; simp_all
              rw [hps] at hq
              exact hq
            · skip
              refine Sp.go 1 (g := (92, [(6, .int 0), (5, .int 1), (4, .int (nI i)), (0, .ref (n + 23)), (1, .int (a)), (2, .int (b)), (3, .int (v3))], [.int 1])) rfl ?_
              refine Sp.iret rfl (Or.inr ⟨rfl, Or.inr rfl⟩) ?_
              have hps : p_step nd a b i = true := by unfold p_step; simp_all
              rw [hps] at hq
              exact hq
        · skip
          refine Sp.go 1 (g := (62, [(5, .int 1), (4, .int (nI i)), (0, .ref (n + 23)), (1, .int (a)), (2, .int (b)), (3, .int (v3))], [.ref (n + 23)])) rfl ?_
          refine Sp.get (v := .ref (n + 24)) rfl hp rfl ?_
          refine Sp.go 3 (g := (69, [(5, .int 1), (4, .int (nI i)), (0, .ref (n + 23)), (1, .int (a)), (2, .int (b)), (3, .int (v3))], [.int ((nI i) + 1), .ref (n + 24)])) rfl ?_
          refine Sp.iald (f := nd) (j := i + 1) rfl hn (m_ix_of (by simp only [nI, Int32.ofNat_add, Int32.ofNat_mul] <;> rfl) (by omega) (by omega)) ?_
          refine Sp.go 1 (g := (71, [(5, .int 1), (4, .int (nI i)), (0, .ref (n + 23)), (1, .int (a)), (2, .int (b)), (3, .int (v3))], [.int (a), .int (nd (i + 1))])) rfl ?_
          refine Sp.icmp rfl (fun (h23 : ¬ (nd (i + 1) : Int32) = (a : Int32)) => ?_) (fun (h23 : ¬ (¬ (nd (i + 1) : Int32) = (a : Int32))) => ?_)
          · skip
            refine Sp.go 3 (g := (83, [(6, .int 0), (5, .int 1), (4, .int (nI i)), (0, .ref (n + 23)), (1, .int (a)), (2, .int (b)), (3, .int (v3))], [.int 1])) rfl ?_
            refine Sp.if rfl (fun (h24 : ¬ (1 : Int32) = (0 : Int32)) => ?_) (fun (h24 : ¬ (¬ (1 : Int32) = (0 : Int32))) => ?_)
            · skip
              refine Sp.go 1 (g := (92, [(6, .int 0), (5, .int 1), (4, .int (nI i)), (0, .ref (n + 23)), (1, .int (a)), (2, .int (b)), (3, .int (v3))], [.int 1])) rfl ?_
              refine Sp.iret rfl (Or.inr ⟨rfl, Or.inr rfl⟩) ?_
              have hps : p_step nd a b i = true := by unfold p_step; simp_all
              rw [hps] at hq
              exact hq
            · skip
              refine Sp.go 1 (g := (88, [(6, .int 0), (5, .int 1), (4, .int (nI i)), (0, .ref (n + 23)), (1, .int (a)), (2, .int (b)), (3, .int (v3))], [.int 0])) rfl ?_
              refine Sp.if rfl (fun (h25 : (0 : Int32) = (0 : Int32)) => ?_) (fun (h25 : ¬ ((0 : Int32) = (0 : Int32))) => ?_)
              · skip
                refine Sp.go 2 (g := (10, [(4, .int (nI i + 1)), (6, .int 0), (5, .int 1), (0, .ref (n + 23)), (1, .int (a)), (2, .int (b)), (3, .int (v3))], [])) rfl ?_
                rw [← nI_succ]
                refine Sp.lsub [0, 3, 4, 5, 6] (ls' := [(4, .int (nI (i + 1))), (0, .ref (n + 23)), (1, .int (a)), (2, .int (b)), (3, .int (v3))]) rfl ?_
                refine ih (i + 1) (by omega) (by omega) ?_
                have hps : p_step nd a b i = false := by unfold p_step; simp_all
                rw [hps] at hq
                exact hq
              · skip
                refine Sp.go 1 (g := (92, [(6, .int 0), (5, .int 1), (4, .int (nI i)), (0, .ref (n + 23)), (1, .int (a)), (2, .int (b)), (3, .int (v3))], [.int 1])) rfl ?_
                refine Sp.iret rfl (Or.inr ⟨rfl, Or.inr rfl⟩) ?_
                have hps : p_step nd a b i = true := by unfold p_step; simp_all
                rw [hps] at hq
                exact hq
          · skip
            refine Sp.go 4 (g := (83, [(6, .int 1), (5, .int 1), (4, .int (nI i)), (0, .ref (n + 23)), (1, .int (a)), (2, .int (b)), (3, .int (v3))], [.int 1])) rfl ?_
            refine Sp.if rfl (fun (h26 : ¬ (1 : Int32) = (0 : Int32)) => ?_) (fun (h26 : ¬ (¬ (1 : Int32) = (0 : Int32))) => ?_)
            · skip
              refine Sp.go 1 (g := (92, [(6, .int 1), (5, .int 1), (4, .int (nI i)), (0, .ref (n + 23)), (1, .int (a)), (2, .int (b)), (3, .int (v3))], [.int 1])) rfl ?_
              refine Sp.iret rfl (Or.inr ⟨rfl, Or.inr rfl⟩) ?_
              have hps : p_step nd a b i = true := by unfold p_step; simp_all
              rw [hps] at hq
              exact hq
            · skip
              refine Sp.go 1 (g := (88, [(6, .int 1), (5, .int 1), (4, .int (nI i)), (0, .ref (n + 23)), (1, .int (a)), (2, .int (b)), (3, .int (v3))], [.int 1])) rfl ?_
              refine Sp.if rfl (fun (h27 : (1 : Int32) = (0 : Int32)) => ?_) (fun (h27 : ¬ ((1 : Int32) = (0 : Int32))) => ?_)
              · skip
                refine Sp.go 2 (g := (10, [(4, .int (nI i + 1)), (6, .int 1), (5, .int 1), (0, .ref (n + 23)), (1, .int (a)), (2, .int (b)), (3, .int (v3))], [])) rfl ?_
                rw [← nI_succ]
                refine Sp.lsub [0, 3, 4, 5, 6] (ls' := [(4, .int (nI (i + 1))), (0, .ref (n + 23)), (1, .int (a)), (2, .int (b)), (3, .int (v3))]) rfl ?_
                refine ih (i + 1) (by omega) (by omega) ?_
                have hps : p_step nd a b i = false := by unfold p_step; simp_all
                rw [hps] at hq
                exact hq
              · skip
                refine Sp.go 1 (g := (92, [(6, .int 1), (5, .int 1), (4, .int (nI i)), (0, .ref (n + 23)), (1, .int (a)), (2, .int (b)), (3, .int (v3))], [.int 1])) rfl ?_
                refine Sp.iret rfl (Or.inr ⟨rfl, Or.inr rfl⟩) ?_
                have hps : p_step nd a b i = true := by unfold p_step; simp_all
                rw [hps] at hq
                exact hq
theorem p_usesPairFrom {X : mX} {C S : Nat} {Q : Outcome → mM → Prop} {w : mWd} {n : Nat} {g f : Int32} {nd : Nat → Int32} {a b : Int32} {t s e : Nat} (ht : t < 65) (hs : s < 65) (he : e ≤ 64) (hp : w.d n = some (.inr (1, [.int g, .int (nI t), .ref (n + 24), .int (nI e), .int f]))) (hn : w.d (n + 1) = some (.inl (0, 65, .inl nd))) (hq : Q (.returned (some (.int (m_b2 (m_any (p_step nd a b) (max t s) (e - max t s)))))) (mw w)) : Sp X 18 1 21 C S (0, [(0, .ref (n + 23)), (1, .int (a)), (2, .int (b)), (3, .int (nI s))], []) (mw w) Q := by
  refine Sp.go 1 (g := (1, [(0, .ref (n + 23)), (1, .int (a)), (2, .int (b)), (3, .int (nI s))], [.ref (n + 23)])) rfl ?_
  refine Sp.get (v := .int (nI t)) rfl hp rfl ?_
  refine Sp.go 1 (g := (5, [(0, .ref (n + 23)), (1, .int (a)), (2, .int (b)), (3, .int (nI s))], [.int (nI s), .int (nI t)])) rfl ?_
  refine Sp.max rfl (by decide) (Nat.le_of_ble_eq_true rfl) ?_
  rw [p_max (by omega) (by omega)]
  refine Sp.go 1 (g := (10, [(4, .int (nI (max t s))), (0, .ref (n + 23)), (1, .int (a)), (2, .int (b)), (3, .int (nI s))], [])) rfl ?_
  exact p_uses_loop he hp hn (e - max t s) (max t s) (by omega) (by omega) hq
