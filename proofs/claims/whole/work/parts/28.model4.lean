/-! The reference: what it shows. Rows laid by wip/gen/model4.py. -/
theorem nI_eq0 {n : Nat} (h : n < 2 ^ 31) : nI n = 0 ↔ n = 0 := nI_inj (b := 0) h (by omega)
theorem nI_le0 {n : Nat} (h : n < 2 ^ 31) : nI n ≤ 0 ↔ n = 0 := (nI_le' (b := 0) h (by omega)).trans (by omega)
theorem i_nlt {a b : Int32} (h : ¬ a < b) : b ≤ a := by rw [Int32.lt_iff_toInt_lt] at h; rw [Int32.le_iff_toInt_le]; omega
theorem i_nlt2 {a b : Int32} (h : b ≤ a) : ¬ a < b := by rw [Int32.lt_iff_toInt_lt]; rw [Int32.le_iff_toInt_le] at h; omega
theorem JR0.t {w : mWd} {A : aS} {v : Int32} (h : JR0 w A) : JR0 (w.sf 5 v) A := h
theorem JR0.now {w : mWd} {A : aS} (h : JR0 w A) : w.f 6 = nI A.T := h.1
theorem JR0.cs {w : mWd} {A : aS} (h : JR0 w A) : w.f 7 = nI A.nc := h.2.1
theorem JR0.ps {w : mWd} {A : aS} (h : JR0 w A) : w.f 8 = nI A.P := h.2.2.1
theorem JR0.pl {w : mWd} {A : aS} (h : JR0 w A) {n : Nat} (hn : n < 8) : w.a 11 n = a_places (A.pl n) := h.2.2.2.1 n hn
theorem JR0.go {w : mWd} {A : aS} (h : JR0 w A) {n : Nat} (hn : n < A.P) : w.a 13 n = nI (A.go n) := (h.2.2.2.2.2.1 n hn).1
theorem JR0.src {w : mWd} {A : aS} (h : JR0 w A) {n : Nat} (hn : n < A.P) : w.a 14 n = nI (A.nd n (A.at n)) := (h.2.2.2.2.2.1 n hn).2.1
theorem JR0.sta {w : mWd} {A : aS} (h : JR0 w A) {n : Nat} (hn : n < A.P) : w.a 15 n = nI (A.at n) := (h.2.2.2.2.2.1 n hn).2.2.1
theorem JR0.fa {w : mWd} {A : aS} (h : JR0 w A) {n : Nat} (hn : n < A.P) : w.a 16 n = nI (A.fa n) := (h.2.2.2.2.2.1 n hn).2.2.2.1
theorem JR0.fir {w : mWd} {A : aS} (h : JR0 w A) {n : Nat} (hn : n < A.P) : w.a 17 n = nI (A.at n) := (h.2.2.2.2.2.1 n hn).2.2.2.2.1
theorem JR0.la {w : mWd} {A : aS} (h : JR0 w A) {n : Nat} (hn : n < A.P) : w.a 18 n = nI (A.la n) := (h.2.2.2.2.2.1 n hn).2.2.2.2.2.1
theorem JR0.nd {w : mWd} {A : aS} (h : JR0 w A) {n i : Nat} (hn : n < A.P) (hi : i < 65) : w.a 19 (65 * n + i) = nI (A.nd n i) := (h.2.2.2.2.2.1 n hn).2.2.2.2.2.2 i hi
/-- is x a handle -/
def a_in (A : aS) (x : Int32) : Bool := !decide (x < 0) && decide (x < nI A.P)
theorem a_in_nI {A : aS} {h : Nat} (ho : a_ok A) (hh : h < A.P) : a_in A (nI h) = true := by
  have := ho.2.2.1
  simp [a_in, nI_pos (n := h) (by omega), (nI_lt' (a := h) (b := A.P) (by omega) (by omega)).mpr hh]
theorem a_in_spec {A : aS} {x : Int32} (ho : a_ok A) (h : a_in A x = true) : ∃ n, n < A.P ∧ x = nI n := by
  have := ho.2.2.1
  simp only [a_in, Bool.and_eq_true, Bool.not_eq_true', decide_eq_false_iff_not, decide_eq_true_eq] at h
  refine ⟨x.toNatClampNeg, ?_, m_nat h.1⟩
  have h1 := h.2
  rw [m_nat h.1] at h1
  have h2 : x.toNatClampNeg < 2 ^ 31 := by
    have := Int32.toInt_lt x
    show x.toInt.toNat < 2 ^ 31
    omega
  exact (nI_lt' h2 (by omega)).mp h1
theorem a_in_out {A : aS} {x : Int32} (h : a_in A x = false) : x < 0 ∨ nI A.P ≤ x := by
  by_cases h0 : x < 0
  · exact Or.inl h0
  · right
    simp only [a_in, h0, decide_false, Bool.not_false, Bool.true_and, decide_eq_false_iff_not] at h
    exact i_nlt h
def a_state (A : aS) (h : Nat) : Int32 := if A.fa h = 0 then (if A.T < A.at h then 1 else 2) else nI (A.fa h)
def a_where (A : aS) (h : Nat) : Int32 := if A.fa h = 0 ∧ A.at h ≤ A.T then nI (A.nd h A.T) else -1
def a_arrival (A : aS) (h : Nat) : Int32 := if A.fa h = 0 ∨ A.fa h = 3 then nI (A.la h) else -1
def a_step (A : aS) (h : Nat) (x : Int32) : Int32 := if nI (A.at h) ≤ x ∧ x ≤ nI (A.la h) then nI (A.nd h x.toNatClampNeg) else -1
theorem d_noParcel {X : mX} {C S : Nat} {Q : Outcome → mM → Prop} {w : mWd} {A : aS} (ho : a_ok A) (hj : JR0 w A) {x : Int32} (hq : Q (.returned (some (.int (m_b2 (!a_in A x))))) (mw w)) : Sp X 71 0 0 C S (0, [(0, .ref 10), (1, .int (x))], []) (mw w) Q := by
  refine Sp.go 1 (g := (1, [(0, .ref 10), (1, .int (x))], [.int (x)])) rfl ?_
  refine Sp.if rfl (fun (h1 : (x : Int32) < (0 : Int32)) => ?_) (fun (h1 : ¬ ((x : Int32) < (0 : Int32))) => ?_)
  · skip
    refine Sp.go 2 (g := (17, [(0, .ref 10), (1, .int (x))], [.int 1])) rfl ?_
    refine Sp.iret rfl (Or.inr ⟨rfl, Or.inr rfl⟩) ?_
    rw [show a_in A x = false by simp [a_in, h1]] at hq; exact hq
  · skip
    refine Sp.go 2 (g := (6, [(0, .ref 10), (1, .int (x))], [.ref 10, .int (x)])) rfl ?_
    refine Sp.get (v := .int (nI (A.P))) rfl rfl (by rw [← hj.ps]; rfl) ?_
    refine Sp.icmp rfl (fun (h2 : (x : Int32) < (nI (A.P) : Int32)) => ?_) (fun (h2 : ¬ ((x : Int32) < (nI (A.P) : Int32))) => ?_)
    · skip
      refine Sp.go 1 (g := (17, [(0, .ref 10), (1, .int (x))], [.int 0])) rfl ?_
      refine Sp.iret rfl (Or.inr ⟨rfl, Or.inl rfl⟩) ?_
      rw [show a_in A x = true by simp [a_in, h1, h2]] at hq; exact hq
    · skip
      refine Sp.go 2 (g := (17, [(0, .ref 10), (1, .int (x))], [.int 1])) rfl ?_
      refine Sp.iret rfl (Or.inr ⟨rfl, Or.inr rfl⟩) ?_
      rw [show a_in A x = false by simp [a_in, h2]] at hq; exact hq
theorem d_isLive {X : mX} {C S : Nat} {Q : Outcome → mM → Prop} {w : mWd} {A : aS} (ho : a_ok A) (hj : JR0 w A) {h : Nat} (hh : h < A.P) (hf : A.fa h ≤ 5) (hq : Q (.returned (some (.int (m_b2 (decide (A.fa h = 0)))))) (mw w)) : Sp X 72 1 21 C S (0, [(0, .ref 10), (1, .int (nI h))], []) (mw w) Q := by
  have h32 := ho.2.2.1
  refine Sp.go 2 (g := (2, [(0, .ref 10), (1, .int (nI h))], [.int (nI h), .ref 10])) rfl ?_
  refine Sp.vr (some (.int (m_b2 (!a_in A (nI h))))) (mw (w)) (k' := 71) (F' := 0) (N' := 0) (C' := 0) (S' := 0) (vs := [.int (nI h)]) (st := []) rfl rfl rfl rfl (Nat.le_of_ble_eq_true rfl) (Nat.le_of_ble_eq_true rfl) (by decide) (by decide) (Nat.zero_le _) (Nat.zero_le _) (fun Q' h => d_noParcel ho hj h) ?_
  refine Sp.ifbn rfl (fun u1 => absurd u1 (by rw [a_in_nI ho hh]; decide)) (fun u1 => ?_)
  refine Sp.go 1 (g := (9, [(0, .ref 10), (1, .int (nI h))], [.ref 10])) rfl ?_
  refine Sp.get (v := .ref 16) rfl rfl rfl ?_
  refine Sp.go 1 (g := (13, [(0, .ref 10), (1, .int (nI h))], [.int (nI h), .ref 16])) rfl ?_
  refine Sp.iald (f := w.a 16) (j := h) rfl rfl (m_ix_of (by simp only [nI, Int32.ofNat_add, Int32.ofNat_mul] <;> rfl) (by omega) (by omega)) ?_
  rw [hj.fa hh]
  refine Sp.if rfl (fun (h2 : ¬ (nI (A.fa h) : Int32) = (0 : Int32)) => ?_) (fun (h2 : ¬ (¬ (nI (A.fa h) : Int32) = (0 : Int32))) => ?_)
  · skip
    refine Sp.go 1 (g := (22, [(0, .ref 10), (1, .int (nI h))], [.int 0])) rfl ?_
    refine Sp.iret rfl (Or.inr ⟨rfl, Or.inl rfl⟩) ?_
    rw [show decide (A.fa h = 0) = false by rw [nI_eq0 (by omega)] at h2; simp [h2]] at hq; exact hq
  · skip
    refine Sp.go 2 (g := (22, [(0, .ref 10), (1, .int (nI h))], [.int 1])) rfl ?_
    refine Sp.iret rfl (Or.inr ⟨rfl, Or.inr rfl⟩) ?_
    rw [show decide (A.fa h = 0) = true by rw [Classical.not_not] at h2; have h2 := (nI_inj (b := 0) (by omega) (by omega)).mp h2; simp [h2]] at hq; exact hq
theorem d_isLive_out {X : mX} {C S : Nat} {Q : Outcome → mM → Prop} {w : mWd} {A : aS} (ho : a_ok A) (hj : JR0 w A) {x : Int32} (hx : a_in A x = false) (hq : Q (.returned (some (.int 0))) (mw w)) : Sp X 72 1 21 C S (0, [(0, .ref 10), (1, .int (x))], []) (mw w) Q := by
  refine Sp.go 2 (g := (2, [(0, .ref 10), (1, .int (x))], [.int (x), .ref 10])) rfl ?_
  refine Sp.vr (some (.int (m_b2 (!a_in A (x))))) (mw (w)) (k' := 71) (F' := 0) (N' := 0) (C' := 0) (S' := 0) (vs := [.int (x)]) (st := []) rfl rfl rfl rfl (Nat.le_of_ble_eq_true rfl) (Nat.le_of_ble_eq_true rfl) (by decide) (by decide) (Nat.zero_le _) (Nat.zero_le _) (fun Q' h => d_noParcel ho hj h) ?_
  refine Sp.ifbn rfl (fun u1 => ?_) (fun u1 => absurd u1 (by rw [hx]; decide))
  refine Sp.go 1 (g := (22, [(0, .ref 10), (1, .int (x))], [.int 0])) rfl ?_
  refine Sp.iret rfl (Or.inr ⟨rfl, Or.inl rfl⟩) ?_
  exact hq
theorem d_now {X : mX} {C S : Nat} {Q : Outcome → mM → Prop} {w : mWd} {A : aS} (ho : a_ok A) (hj : JR0 w A) (hq : Q (.returned (some (.int (nI A.T)))) (mw (w.sf 5 0))) : Sp X 67 0 0 C S (0, [(0, .ref 10)], []) (mw w) Q := by
  refine Sp.go 2 (g := (2, [(0, .ref 10)], [.int 0, .ref 10])) rfl ?_
  refine Sp.pf5 rfl ?_
  refine Sp.go 1 (g := (6, [(0, .ref 10)], [.ref 10])) rfl ?_
  refine Sp.get (v := .int (nI (A.T))) rfl rfl (by rw [← hj.now]; rfl) ?_
  refine Sp.iret rfl (Or.inl rfl) ?_
  exact hq
theorem d_state {X : mX} {C S : Nat} {Q : Outcome → mM → Prop} {w : mWd} {A : aS} (ho : a_ok A) (hj : JR0 w A) {h : Nat} (hh : h < A.P) (hf : A.fa h ≤ 5) (hq : Q (.returned (some (.int (a_state A h)))) (mw (w.sf 5 0))) : Sp X 77 1 21 C S (0, [(0, .ref 10), (1, .int (nI h))], []) (mw w) Q := by
  have h32 := ho.2.2.1
  have hb4 := ho.2.2.2.2 h hh
  have hT := ho.1
  refine Sp.go 2 (g := (2, [(0, .ref 10), (1, .int (nI h))], [.int 0, .ref 10])) rfl ?_
  refine Sp.pf5 rfl ?_
  refine Sp.go 2 (g := (7, [(0, .ref 10), (1, .int (nI h))], [.int (nI h), .ref 10])) rfl ?_
  refine Sp.vr (some (.int (m_b2 (!a_in A (nI h))))) (mw (w.sf 5 (0))) (k' := 71) (F' := 0) (N' := 0) (C' := 0) (S' := 0) (vs := [.int (nI h)]) (st := []) rfl rfl rfl rfl (Nat.le_of_ble_eq_true rfl) (Nat.le_of_ble_eq_true rfl) (by decide) (by decide) (Nat.zero_le _) (Nat.zero_le _) (fun Q' h => d_noParcel ho hj.t h) ?_
  refine Sp.ifb rfl (fun u1 => ?_) (fun u1 => absurd u1 (by rw [a_in_nI ho hh]; decide))
  refine Sp.go 1 (g := (18, [(0, .ref 10), (1, .int (nI h))], [.ref 10])) rfl ?_
  refine Sp.get (v := .ref 16) rfl rfl rfl ?_
  refine Sp.go 1 (g := (22, [(0, .ref 10), (1, .int (nI h))], [.int (nI h), .ref 16])) rfl ?_
  refine Sp.iald (f := w.a 16) (j := h) rfl rfl (m_ix_of (by simp only [nI, Int32.ofNat_add, Int32.ofNat_mul] <;> rfl) (by omega) (by omega)) ?_
  rw [hj.fa hh]
  refine Sp.if rfl (fun (h2 : (nI (A.fa h) : Int32) ≤ (0 : Int32)) => ?_) (fun (h2 : ¬ ((nI (A.fa h) : Int32) ≤ (0 : Int32))) => ?_)
  · skip
    refine Sp.go 1 (g := (36, [(0, .ref 10), (1, .int (nI h))], [.ref 10])) rfl ?_
    refine Sp.get (v := .int (nI (A.T))) rfl rfl (by rw [← hj.now]; rfl) ?_
    refine Sp.go 1 (g := (40, [(0, .ref 10), (1, .int (nI h))], [.ref 10, .int (nI (A.T))])) rfl ?_
    refine Sp.get (v := .ref 15) rfl rfl rfl ?_
    refine Sp.go 1 (g := (44, [(0, .ref 10), (1, .int (nI h))], [.int (nI h), .ref 15, .int (nI (A.T))])) rfl ?_
    refine Sp.iald (f := w.a 15) (j := h) rfl rfl (m_ix_of (by simp only [nI, Int32.ofNat_add, Int32.ofNat_mul] <;> rfl) (by omega) (by omega)) ?_
    rw [hj.sta hh]
    refine Sp.icmp rfl (fun (h3 : (nI (A.at h) : Int32) ≤ (nI (A.T) : Int32)) => ?_) (fun (h3 : ¬ ((nI (A.at h) : Int32) ≤ (nI (A.T) : Int32))) => ?_)
    · skip
      refine Sp.go 1 (g := (53, [(0, .ref 10), (1, .int (nI h))], [.int 2])) rfl ?_
      refine Sp.iret rfl (Or.inl rfl) ?_
      rw [show a_state A h = (if A.T < A.at h then 1 else 2) from if_pos (by rw [nI_le0 (by omega)] at h2; omega), if_neg (by rw [nI_le' (by omega) (by omega)] at h3; omega)] at hq; exact hq
    · skip
      refine Sp.go 2 (g := (53, [(0, .ref 10), (1, .int (nI h))], [.int 1])) rfl ?_
      refine Sp.iret rfl (Or.inl rfl) ?_
      rw [show a_state A h = (if A.T < A.at h then 1 else 2) from if_pos (by rw [nI_le0 (by omega)] at h2; omega), if_pos (by rw [nI_le' (by omega) (by omega)] at h3; omega)] at hq; exact hq
  · skip
    refine Sp.go 1 (g := (27, [(0, .ref 10), (1, .int (nI h))], [.ref 10])) rfl ?_
    refine Sp.get (v := .ref 16) rfl rfl rfl ?_
    refine Sp.go 1 (g := (31, [(0, .ref 10), (1, .int (nI h))], [.int (nI h), .ref 16])) rfl ?_
    refine Sp.iald (f := w.a 16) (j := h) rfl rfl (m_ix_of (by simp only [nI, Int32.ofNat_add, Int32.ofNat_mul] <;> rfl) (by omega) (by omega)) ?_
    rw [hj.fa hh]
    refine Sp.go 1 (g := (53, [(0, .ref 10), (1, .int (nI h))], [.int (nI (A.fa h))])) rfl ?_
    refine Sp.iret rfl (Or.inl rfl) ?_
    rw [show a_state A h = nI (A.fa h) from if_neg (by rw [nI_le0 (by omega)] at h2; omega)] at hq; exact hq
theorem d_state_out {X : mX} {C S : Nat} {Q : Outcome → mM → Prop} {w : mWd} {A : aS} (ho : a_ok A) (hj : JR0 w A) {x : Int32} (hx : a_in A x = false) (hq : Q (.returned (some (.int 0))) (mw (w.sf 5 0))) : Sp X 77 1 21 C S (0, [(0, .ref 10), (1, .int (x))], []) (mw w) Q := by
  refine Sp.go 2 (g := (2, [(0, .ref 10), (1, .int (x))], [.int 0, .ref 10])) rfl ?_
  refine Sp.pf5 rfl ?_
  refine Sp.go 2 (g := (7, [(0, .ref 10), (1, .int (x))], [.int (x), .ref 10])) rfl ?_
  refine Sp.vr (some (.int (m_b2 (!a_in A (x))))) (mw (w.sf 5 (0))) (k' := 71) (F' := 0) (N' := 0) (C' := 0) (S' := 0) (vs := [.int (x)]) (st := []) rfl rfl rfl rfl (Nat.le_of_ble_eq_true rfl) (Nat.le_of_ble_eq_true rfl) (by decide) (by decide) (Nat.zero_le _) (Nat.zero_le _) (fun Q' h => d_noParcel ho hj.t h) ?_
  refine Sp.ifb rfl (fun u1 => absurd u1 (by rw [hx]; decide)) (fun u1 => ?_)
  refine Sp.go 2 (g := (53, [(0, .ref 10), (1, .int (x))], [.int 0])) rfl ?_
  refine Sp.iret rfl (Or.inl rfl) ?_
  exact hq
theorem d_where {X : mX} {C S : Nat} {Q : Outcome → mM → Prop} {w : mWd} {A : aS} (ho : a_ok A) (hj : JR0 w A) {h : Nat} (hh : h < A.P) (hf : A.fa h ≤ 5) (hq : Q (.returned (some (.int (a_where A h)))) (mw (w.sf 5 0))) : Sp X 78 2 42 C S (0, [(0, .ref 10), (1, .int (nI h))], []) (mw w) Q := by
  have h32 := ho.2.2.1
  have hb4 := ho.2.2.2.2 h hh
  have hT := ho.1
  refine Sp.go 2 (g := (2, [(0, .ref 10), (1, .int (nI h))], [.int 0, .ref 10])) rfl ?_
  refine Sp.pf5 rfl ?_
  refine Sp.go 2 (g := (7, [(0, .ref 10), (1, .int (nI h))], [.int (nI h), .ref 10])) rfl ?_
  refine Sp.vr (some (.int (m_b2 (decide (A.fa h = 0))))) (mw (w.sf 5 (0))) (k' := 72) (F' := 1) (N' := 21) (C' := 0) (S' := 0) (vs := [.int (nI h)]) (st := []) rfl rfl rfl rfl (Nat.le_of_ble_eq_true rfl) (Nat.le_of_ble_eq_true rfl) (by decide) (by decide) (Nat.zero_le _) (Nat.zero_le _) (fun Q' h => d_isLive ho hj.t hh hf h) ?_
  refine Sp.ifb rfl (fun h1 => ?_) (fun h1 => ?_)
  · skip
    refine Sp.go 1 (g := (44, [(0, .ref 10), (1, .int (nI h))], [.int (-1)])) rfl ?_
    refine Sp.iret rfl (Or.inl rfl) ?_
    rw [show a_where A h = -1 from if_neg (fun z => absurd h1 (by simp [z.1]))] at hq; exact hq
  · skip
    refine Sp.go 1 (g := (14, [(0, .ref 10), (1, .int (nI h))], [.ref 10])) rfl ?_
    refine Sp.get (v := .int (nI (A.T))) rfl rfl (by rw [← hj.now]; rfl) ?_
    refine Sp.go 1 (g := (18, [(0, .ref 10), (1, .int (nI h))], [.ref 10, .int (nI (A.T))])) rfl ?_
    refine Sp.get (v := .ref 15) rfl rfl rfl ?_
    refine Sp.go 1 (g := (22, [(0, .ref 10), (1, .int (nI h))], [.int (nI h), .ref 15, .int (nI (A.T))])) rfl ?_
    refine Sp.iald (f := w.a 15) (j := h) rfl rfl (m_ix_of (by simp only [nI, Int32.ofNat_add, Int32.ofNat_mul] <;> rfl) (by omega) (by omega)) ?_
    rw [hj.sta hh]
    refine Sp.icmp rfl (fun (h2 : (nI (A.T) : Int32) < (nI (A.at h) : Int32)) => ?_) (fun (h2 : ¬ ((nI (A.T) : Int32) < (nI (A.at h) : Int32))) => ?_)
    · skip
      refine Sp.go 1 (g := (44, [(0, .ref 10), (1, .int (nI h))], [.int (-1)])) rfl ?_
      refine Sp.iret rfl (Or.inl rfl) ?_
      rw [show a_where A h = -1 from if_neg (fun z => by rw [nI_lt' (by omega) (by omega)] at h2; omega)] at hq; exact hq
    · skip
      refine Sp.go 1 (g := (27, [(0, .ref 10), (1, .int (nI h))], [.ref 10])) rfl ?_
      refine Sp.get (v := .ref 19) rfl rfl rfl ?_
      refine Sp.go 4 (g := (35, [(0, .ref 10), (1, .int (nI h))], [.ref 10, .int (65 * (nI h)), .ref 19])) rfl ?_
      refine Sp.get (v := .int (nI (A.T))) rfl rfl (by rw [← hj.now]; rfl) ?_
      refine Sp.go 1 (g := (39, [(0, .ref 10), (1, .int (nI h))], [.int ((65 * (nI h)) + (nI (A.T))), .ref 19])) rfl ?_
      refine Sp.iald (f := w.a 19) (j := (65 * h) + (A.T)) rfl rfl (m_ix_of (by simp only [nI, Int32.ofNat_add, Int32.ofNat_mul] <;> rfl) (by omega) (by omega)) ?_
      rw [hj.nd hh (by omega)]
      refine Sp.go 1 (g := (44, [(0, .ref 10), (1, .int (nI h))], [.int (nI (A.nd h A.T))])) rfl ?_
      refine Sp.iret rfl (Or.inl rfl) ?_
      rw [show a_where A h = nI (A.nd h A.T) from if_pos ⟨of_decide_eq_true h1, by rw [nI_lt' (by omega) (by omega)] at h2; omega⟩] at hq; exact hq
theorem d_where_out {X : mX} {C S : Nat} {Q : Outcome → mM → Prop} {w : mWd} {A : aS} (ho : a_ok A) (hj : JR0 w A) {x : Int32} (hx : a_in A x = false) (hq : Q (.returned (some (.int (-1)))) (mw (w.sf 5 0))) : Sp X 78 2 42 C S (0, [(0, .ref 10), (1, .int (x))], []) (mw w) Q := by
  refine Sp.go 2 (g := (2, [(0, .ref 10), (1, .int (x))], [.int 0, .ref 10])) rfl ?_
  refine Sp.pf5 rfl ?_
  refine Sp.go 2 (g := (7, [(0, .ref 10), (1, .int (x))], [.int (x), .ref 10])) rfl ?_
  refine Sp.vr (some (.int 0)) (mw (w.sf 5 (0))) (k' := 72) (F' := 1) (N' := 21) (C' := 0) (S' := 0) (vs := [.int (x)]) (st := []) rfl rfl rfl rfl (Nat.le_of_ble_eq_true rfl) (Nat.le_of_ble_eq_true rfl) (by decide) (by decide) (Nat.zero_le _) (Nat.zero_le _) (fun Q' h => d_isLive_out ho hj.t hx h) ?_
  refine Sp.if rfl (fun u1 => ?_) (fun u1 => absurd rfl u1)
  refine Sp.go 1 (g := (44, [(0, .ref 10), (1, .int (x))], [.int (-1)])) rfl ?_
  refine Sp.iret rfl (Or.inl rfl) ?_
  exact hq
theorem d_arrival {X : mX} {C S : Nat} {Q : Outcome → mM → Prop} {w : mWd} {A : aS} (ho : a_ok A) (hj : JR0 w A) {h : Nat} (hh : h < A.P) (hf : A.fa h ≤ 5) (hq : Q (.returned (some (.int (a_arrival A h)))) (mw (w.sf 5 0))) : Sp X 79 2 42 C S (0, [(0, .ref 10), (1, .int (nI h))], []) (mw w) Q := by
  have h32 := ho.2.2.1
  have hb4 := ho.2.2.2.2 h hh
  have hT := ho.1
  refine Sp.go 2 (g := (2, [(0, .ref 10), (1, .int (nI h))], [.int 0, .ref 10])) rfl ?_
  refine Sp.pf5 rfl ?_
  refine Sp.go 2 (g := (7, [(0, .ref 10), (1, .int (nI h))], [.int (nI h), .ref 10])) rfl ?_
  refine Sp.vr (some (.int (m_b2 (decide (A.fa h = 0))))) (mw (w.sf 5 (0))) (k' := 72) (F' := 1) (N' := 21) (C' := 0) (S' := 0) (vs := [.int (nI h)]) (st := []) rfl rfl rfl rfl (Nat.le_of_ble_eq_true rfl) (Nat.le_of_ble_eq_true rfl) (by decide) (by decide) (Nat.zero_le _) (Nat.zero_le _) (fun Q' h => d_isLive ho hj.t hh hf h) ?_
  refine Sp.ifbn rfl (fun h1 => ?_) (fun h1 => ?_)
  · skip
    refine Sp.go 1 (g := (32, [(0, .ref 10), (1, .int (nI h))], [.ref 10])) rfl ?_
    refine Sp.get (v := .ref 18) rfl rfl rfl ?_
    refine Sp.go 1 (g := (36, [(0, .ref 10), (1, .int (nI h))], [.int (nI h), .ref 18])) rfl ?_
    refine Sp.iald (f := w.a 18) (j := h) rfl rfl (m_ix_of (by simp only [nI, Int32.ofNat_add, Int32.ofNat_mul] <;> rfl) (by omega) (by omega)) ?_
    rw [hj.la hh]
    refine Sp.go 1 (g := (41, [(0, .ref 10), (1, .int (nI h))], [.int (nI (A.la h))])) rfl ?_
    refine Sp.iret rfl (Or.inl rfl) ?_
    rw [show a_arrival A h = nI (A.la h) from if_pos (Or.inl (of_decide_eq_true h1))] at hq; exact hq
  · skip
    refine Sp.go 2 (g := (15, [(0, .ref 10), (1, .int (nI h))], [.int (nI h), .ref 10])) rfl ?_
    refine Sp.vr (some (.int (m_b2 (!a_in A (nI h))))) (mw (w.sf 5 (0))) (k' := 71) (F' := 0) (N' := 0) (C' := 0) (S' := 0) (vs := [.int (nI h)]) (st := []) rfl rfl rfl rfl (Nat.le_of_ble_eq_true rfl) (Nat.le_of_ble_eq_true rfl) (by decide) (by decide) (Nat.zero_le _) (Nat.zero_le _) (fun Q' h => d_noParcel ho hj.t h) ?_
    refine Sp.ifbn rfl (fun u2 => absurd u2 (by rw [a_in_nI ho hh]; decide)) (fun u2 => ?_)
    refine Sp.go 1 (g := (22, [(0, .ref 10), (1, .int (nI h))], [.ref 10])) rfl ?_
    refine Sp.get (v := .ref 16) rfl rfl rfl ?_
    refine Sp.go 1 (g := (26, [(0, .ref 10), (1, .int (nI h))], [.int (nI h), .ref 16])) rfl ?_
    refine Sp.iald (f := w.a 16) (j := h) rfl rfl (m_ix_of (by simp only [nI, Int32.ofNat_add, Int32.ofNat_mul] <;> rfl) (by omega) (by omega)) ?_
    rw [hj.fa hh]
    refine Sp.go 1 (g := (28, [(0, .ref 10), (1, .int (nI h))], [.int 3, .int (nI (A.fa h))])) rfl ?_
    refine Sp.icmp rfl (fun (h3 : ¬ (nI (A.fa h) : Int32) = (3 : Int32)) => ?_) (fun (h3 : ¬ (¬ (nI (A.fa h) : Int32) = (3 : Int32))) => ?_)
    · skip
      refine Sp.go 1 (g := (41, [(0, .ref 10), (1, .int (nI h))], [.int (-1)])) rfl ?_
      refine Sp.iret rfl (Or.inl rfl) ?_
      rw [show a_arrival A h = -1 from if_neg (fun z => z.elim (fun z => absurd h1 (by simp [z])) (fun z => h3 (by rw [z]; rfl)))] at hq; exact hq
    · skip
      refine Sp.go 1 (g := (32, [(0, .ref 10), (1, .int (nI h))], [.ref 10])) rfl ?_
      refine Sp.get (v := .ref 18) rfl rfl rfl ?_
      refine Sp.go 1 (g := (36, [(0, .ref 10), (1, .int (nI h))], [.int (nI h), .ref 18])) rfl ?_
      refine Sp.iald (f := w.a 18) (j := h) rfl rfl (m_ix_of (by simp only [nI, Int32.ofNat_add, Int32.ofNat_mul] <;> rfl) (by omega) (by omega)) ?_
      rw [hj.la hh]
      refine Sp.go 1 (g := (41, [(0, .ref 10), (1, .int (nI h))], [.int (nI (A.la h))])) rfl ?_
      refine Sp.iret rfl (Or.inl rfl) ?_
      rw [show a_arrival A h = nI (A.la h) from if_pos (Or.inr ((nI_inj (b := 3) (by omega) (by omega)).mp (Classical.not_not.mp h3)))] at hq; exact hq
theorem d_arrival_out {X : mX} {C S : Nat} {Q : Outcome → mM → Prop} {w : mWd} {A : aS} (ho : a_ok A) (hj : JR0 w A) {x : Int32} (hx : a_in A x = false) (hq : Q (.returned (some (.int (-1)))) (mw (w.sf 5 0))) : Sp X 79 2 42 C S (0, [(0, .ref 10), (1, .int (x))], []) (mw w) Q := by
  refine Sp.go 2 (g := (2, [(0, .ref 10), (1, .int (x))], [.int 0, .ref 10])) rfl ?_
  refine Sp.pf5 rfl ?_
  refine Sp.go 2 (g := (7, [(0, .ref 10), (1, .int (x))], [.int (x), .ref 10])) rfl ?_
  refine Sp.vr (some (.int 0)) (mw (w.sf 5 (0))) (k' := 72) (F' := 1) (N' := 21) (C' := 0) (S' := 0) (vs := [.int (x)]) (st := []) rfl rfl rfl rfl (Nat.le_of_ble_eq_true rfl) (Nat.le_of_ble_eq_true rfl) (by decide) (by decide) (Nat.zero_le _) (Nat.zero_le _) (fun Q' h => d_isLive_out ho hj.t hx h) ?_
  refine Sp.if rfl (fun u1 => absurd u1 (fun z => z rfl)) (fun u1 => ?_)
  refine Sp.go 2 (g := (15, [(0, .ref 10), (1, .int (x))], [.int (x), .ref 10])) rfl ?_
  refine Sp.vr (some (.int (m_b2 (!a_in A (x))))) (mw (w.sf 5 (0))) (k' := 71) (F' := 0) (N' := 0) (C' := 0) (S' := 0) (vs := [.int (x)]) (st := []) rfl rfl rfl rfl (Nat.le_of_ble_eq_true rfl) (Nat.le_of_ble_eq_true rfl) (by decide) (by decide) (Nat.zero_le _) (Nat.zero_le _) (fun Q' h => d_noParcel ho hj.t h) ?_
  refine Sp.ifbn rfl (fun u2 => ?_) (fun u2 => absurd u2 (by rw [hx]; decide))
  refine Sp.go 1 (g := (41, [(0, .ref 10), (1, .int (x))], [.int (-1)])) rfl ?_
  refine Sp.iret rfl (Or.inl rfl) ?_
  exact hq
theorem a_step_ix {A : aS} {h : Nat} {x : Int32} (hl : A.la h ≤ 64) (h1 : ¬ x < nI (A.at h)) (h2 : x ≤ nI (A.la h)) (ha : A.at h < 64) : ∃ i, i < 65 ∧ x = nI i ∧ A.at h ≤ i ∧ i ≤ A.la h := by
  have h0 : ¬ x < 0 := by
    intro z
    rw [Int32.lt_iff_toInt_lt] at h1 z
    rw [nI_toInt (by omega)] at h1
    have : (0 : Int32).toInt = 0 := by decide
    omega
  have hx := m_nat h0
  have h3 : x.toNatClampNeg < 2 ^ 31 := by
    have := Int32.toInt_lt x
    show x.toInt.toNat < 2 ^ 31
    omega
  rw [hx] at h1 h2
  rw [nI_lt' h3 (by omega)] at h1
  rw [nI_le' h3 (by omega)] at h2
  exact ⟨x.toNatClampNeg, by omega, hx, by omega, h2⟩
theorem d_step1 {X : mX} {C S : Nat} {Q : Outcome → mM → Prop} {w : mWd} {A : aS} (ho : a_ok A) (hj : JR0 w A) {h : Nat} (hh : h < A.P) (hf : A.fa h ≤ 5) {x : Int32} (hx : ¬ (nI (A.at h) ≤ x ∧ x ≤ nI (A.la h))) (hq : Q (.returned (some (.int (-1)))) (mw (w.sf 5 0))) : Sp X 80 1 21 C S (0, [(0, .ref 10), (1, .int (nI h)), (2, .int (x))], []) (mw w) Q := by
  have h32 := ho.2.2.1
  have hb4 := ho.2.2.2.2 h hh
  have hT := ho.1
  refine Sp.go 2 (g := (2, [(0, .ref 10), (1, .int (nI h)), (2, .int (x))], [.int 0, .ref 10])) rfl ?_
  refine Sp.pf5 rfl ?_
  refine Sp.go 2 (g := (7, [(0, .ref 10), (1, .int (nI h)), (2, .int (x))], [.int (nI h), .ref 10])) rfl ?_
  refine Sp.vr (some (.int (m_b2 (!a_in A (nI h))))) (mw (w.sf 5 (0))) (k' := 71) (F' := 0) (N' := 0) (C' := 0) (S' := 0) (vs := [.int (nI h)]) (st := []) rfl rfl rfl rfl (Nat.le_of_ble_eq_true rfl) (Nat.le_of_ble_eq_true rfl) (by decide) (by decide) (Nat.zero_le _) (Nat.zero_le _) (fun Q' h => d_noParcel ho hj.t h) ?_
  refine Sp.ifbn rfl (fun u1 => absurd u1 (by rw [a_in_nI ho hh]; decide)) (fun u1 => ?_)
  refine Sp.go 2 (g := (15, [(0, .ref 10), (1, .int (nI h)), (2, .int (x))], [.ref 10, .int (x)])) rfl ?_
  refine Sp.get (v := .ref 17) rfl rfl rfl ?_
  refine Sp.go 1 (g := (19, [(0, .ref 10), (1, .int (nI h)), (2, .int (x))], [.int (nI h), .ref 17, .int (x)])) rfl ?_
  refine Sp.iald (f := w.a 17) (j := h) rfl rfl (m_ix_of (by simp only [nI, Int32.ofNat_add, Int32.ofNat_mul] <;> rfl) (by omega) (by omega)) ?_
  rw [hj.fir hh]
  refine Sp.icmp rfl (fun (h2 : (x : Int32) < (nI (A.at h) : Int32)) => ?_) (fun (h2 : ¬ ((x : Int32) < (nI (A.at h) : Int32))) => ?_)
  · skip
    refine Sp.go 2 (g := (48, [(0, .ref 10), (1, .int (nI h)), (2, .int (x))], [.int (-1)])) rfl ?_
    refine Sp.iret rfl (Or.inl rfl) ?_
    exact hq
  · skip
    refine Sp.go 2 (g := (25, [(0, .ref 10), (1, .int (nI h)), (2, .int (x))], [.ref 10, .int (x)])) rfl ?_
    refine Sp.get (v := .ref 18) rfl rfl rfl ?_
    refine Sp.go 1 (g := (29, [(0, .ref 10), (1, .int (nI h)), (2, .int (x))], [.int (nI h), .ref 18, .int (x)])) rfl ?_
    refine Sp.iald (f := w.a 18) (j := h) rfl rfl (m_ix_of (by simp only [nI, Int32.ofNat_add, Int32.ofNat_mul] <;> rfl) (by omega) (by omega)) ?_
    rw [hj.la hh]
    refine Sp.icmp rfl (fun u3 => absurd u3 (fun z => hx ⟨i_nlt h2, z⟩)) (fun u3 => ?_)
    refine Sp.go 2 (g := (48, [(0, .ref 10), (1, .int (nI h)), (2, .int (x))], [.int (-1)])) rfl ?_
    refine Sp.iret rfl (Or.inl rfl) ?_
    exact hq
theorem d_step2 {X : mX} {C S : Nat} {Q : Outcome → mM → Prop} {w : mWd} {A : aS} (ho : a_ok A) (hj : JR0 w A) {h : Nat} (hh : h < A.P) (hf : A.fa h ≤ 5) {i : Nat} (h1 : A.at h ≤ i) (h2 : i ≤ A.la h) (hq : Q (.returned (some (.int (nI (A.nd h i))))) (mw (w.sf 5 0))) : Sp X 80 1 21 C S (0, [(0, .ref 10), (1, .int (nI h)), (2, .int (nI i))], []) (mw w) Q := by
  have h32 := ho.2.2.1
  have hb4 := ho.2.2.2.2 h hh
  have hT := ho.1
  refine Sp.go 2 (g := (2, [(0, .ref 10), (1, .int (nI h)), (2, .int (nI i))], [.int 0, .ref 10])) rfl ?_
  refine Sp.pf5 rfl ?_
  refine Sp.go 2 (g := (7, [(0, .ref 10), (1, .int (nI h)), (2, .int (nI i))], [.int (nI h), .ref 10])) rfl ?_
  refine Sp.vr (some (.int (m_b2 (!a_in A (nI h))))) (mw (w.sf 5 (0))) (k' := 71) (F' := 0) (N' := 0) (C' := 0) (S' := 0) (vs := [.int (nI h)]) (st := []) rfl rfl rfl rfl (Nat.le_of_ble_eq_true rfl) (Nat.le_of_ble_eq_true rfl) (by decide) (by decide) (Nat.zero_le _) (Nat.zero_le _) (fun Q' h => d_noParcel ho hj.t h) ?_
  refine Sp.ifbn rfl (fun u1 => absurd u1 (by rw [a_in_nI ho hh]; decide)) (fun u1 => ?_)
  refine Sp.go 2 (g := (15, [(0, .ref 10), (1, .int (nI h)), (2, .int (nI i))], [.ref 10, .int (nI i)])) rfl ?_
  refine Sp.get (v := .ref 17) rfl rfl rfl ?_
  refine Sp.go 1 (g := (19, [(0, .ref 10), (1, .int (nI h)), (2, .int (nI i))], [.int (nI h), .ref 17, .int (nI i)])) rfl ?_
  refine Sp.iald (f := w.a 17) (j := h) rfl rfl (m_ix_of (by simp only [nI, Int32.ofNat_add, Int32.ofNat_mul] <;> rfl) (by omega) (by omega)) ?_
  rw [hj.fir hh]
  refine Sp.icmp rfl (fun u2 => absurd u2 (fun z => absurd ((nI_lt' (by omega) (by omega)).mp z) (by omega))) (fun u2 => ?_)
  refine Sp.go 2 (g := (25, [(0, .ref 10), (1, .int (nI h)), (2, .int (nI i))], [.ref 10, .int (nI i)])) rfl ?_
  refine Sp.get (v := .ref 18) rfl rfl rfl ?_
  refine Sp.go 1 (g := (29, [(0, .ref 10), (1, .int (nI h)), (2, .int (nI i))], [.int (nI h), .ref 18, .int (nI i)])) rfl ?_
  refine Sp.iald (f := w.a 18) (j := h) rfl rfl (m_ix_of (by simp only [nI, Int32.ofNat_add, Int32.ofNat_mul] <;> rfl) (by omega) (by omega)) ?_
  rw [hj.la hh]
  refine Sp.icmp rfl (fun u3 => ?_) (fun u3 => absurd ((nI_le' (by omega) (by omega)).mpr (by omega)) u3)
  refine Sp.go 1 (g := (38, [(0, .ref 10), (1, .int (nI h)), (2, .int (nI i))], [.ref 10])) rfl ?_
  refine Sp.get (v := .ref 19) rfl rfl rfl ?_
  refine Sp.go 5 (g := (47, [(0, .ref 10), (1, .int (nI h)), (2, .int (nI i))], [.int ((65 * (nI h)) + (nI i)), .ref 19])) rfl ?_
  refine Sp.iald (f := w.a 19) (j := (65 * h) + i) rfl rfl (m_ix_of (by simp only [nI, Int32.ofNat_add, Int32.ofNat_mul] <;> rfl) (by omega) (by omega)) ?_
  rw [hj.nd hh (by omega)]
  refine Sp.iret rfl (Or.inl rfl) ?_
  exact hq
theorem d_step {X : mX} {C S : Nat} {Q : Outcome → mM → Prop} {w : mWd} {A : aS} (ho : a_ok A) (hj : JR0 w A) {h : Nat} (hh : h < A.P) (hf : A.fa h ≤ 5) {x : Int32} (hq : Q (.returned (some (.int (a_step A h x)))) (mw (w.sf 5 0))) : Sp X 80 1 21 C S (0, [(0, .ref 10), (1, .int (nI h)), (2, .int (x))], []) (mw w) Q := by
  by_cases hx : nI (A.at h) ≤ x ∧ x ≤ nI (A.la h)
  · rw [show a_step A h x = _ from if_pos hx] at hq
    obtain ⟨i, hi, rfl, h1, h2⟩ := a_step_ix (ho.2.2.2.2 h hh).2.2.1 (i_nlt2 hx.1) hx.2 (ho.2.2.2.2 h hh).2.1
    rw [nI_clamp (by omega)] at hq
    exact d_step2 ho hj hh hf h1 h2 hq
  · rw [show a_step A h x = _ from if_neg hx] at hq
    exact d_step1 ho hj hh hf hx hq
theorem d_step_out {X : mX} {C S : Nat} {Q : Outcome → mM → Prop} {w : mWd} {A : aS} (ho : a_ok A) (hj : JR0 w A) {x y : Int32} (hx : a_in A x = false) (hq : Q (.returned (some (.int (-1)))) (mw (w.sf 5 0))) : Sp X 80 1 21 C S (0, [(0, .ref 10), (1, .int (x)), (2, .int (y))], []) (mw w) Q := by
  refine Sp.go 2 (g := (2, [(0, .ref 10), (1, .int (x)), (2, .int (y))], [.int 0, .ref 10])) rfl ?_
  refine Sp.pf5 rfl ?_
  refine Sp.go 2 (g := (7, [(0, .ref 10), (1, .int (x)), (2, .int (y))], [.int (x), .ref 10])) rfl ?_
  refine Sp.vr (some (.int (m_b2 (!a_in A (x))))) (mw (w.sf 5 (0))) (k' := 71) (F' := 0) (N' := 0) (C' := 0) (S' := 0) (vs := [.int (x)]) (st := []) rfl rfl rfl rfl (Nat.le_of_ble_eq_true rfl) (Nat.le_of_ble_eq_true rfl) (by decide) (by decide) (Nat.zero_le _) (Nat.zero_le _) (fun Q' h => d_noParcel ho hj.t h) ?_
  refine Sp.ifbn rfl (fun u1 => ?_) (fun u1 => absurd u1 (by rw [hx]; decide))
  refine Sp.go 2 (g := (48, [(0, .ref 10), (1, .int (x)), (2, .int (y))], [.int (-1)])) rfl ?_
  refine Sp.iret rfl (Or.inl rfl) ?_
  exact hq
theorem d_linkUsed {X : mX} {C S : Nat} {Q : Outcome → mM → Prop} {w : mWd} {A : aS} (ho : a_ok A) (hj : JR0 w A) {a b t : Nat} (ha : a < 8) (hb : b < 8) (ht : t < 64) (hp : a_pair A (nI a) (nI b) = true) (hq : Q (.returned (some (.int (nI (a_used A t a b))))) (mw (w.sf 5 0))) : Sp X 81 2 49 C S (0, [(0, .ref 10), (1, .int (nI a)), (2, .int (nI b)), (3, .int (nI t))], []) (mw w) Q := by
  refine Sp.go 2 (g := (2, [(0, .ref 10), (1, .int (nI a)), (2, .int (nI b)), (3, .int (nI t))], [.int 0, .ref 10])) rfl ?_
  refine Sp.pf5 rfl ?_
  refine Sp.go 3 (g := (8, [(0, .ref 10), (1, .int (nI a)), (2, .int (nI b)), (3, .int (nI t))], [.int (nI b), .int (nI a), .ref 10])) rfl ?_
  refine Sp.vr (some (.int (m_b2 (!a_pair A (nI a) (nI b))))) (mw (w.sf 5 (0))) (k' := 55) (F' := 1) (N' := 21) (C' := 0) (S' := 0) (vs := [.int (nI a), .int (nI b)]) (st := []) rfl rfl rfl rfl (Nat.le_of_ble_eq_true rfl) (Nat.le_of_ble_eq_true rfl) (by decide) (by decide) (Nat.zero_le _) (Nat.zero_le _) (fun Q' h => d_noPair ho hj.t h) ?_
  refine Sp.ifbn rfl (fun u1 => absurd u1 (by rw [hp]; decide)) (fun u1 => ?_)
  refine Sp.go 1 (g := (15, [(0, .ref 10), (1, .int (nI a)), (2, .int (nI b)), (3, .int (nI t))], [.int (nI t)])) rfl ?_
  refine Sp.sr (some (.int (m_b2 (!r_tick (nI t))))) (mw (w.sf 5 (0))) (k' := 56) (F' := 0) (N' := 0) (C' := 0) (S' := 0) (vs := [.int (nI t)]) (st := []) rfl (by decide) rfl (Nat.le_of_ble_eq_true rfl) (Nat.le_of_ble_eq_true rfl) (by decide) (by decide) (Nat.zero_le _) (Nat.zero_le _) (fun Q' h => d_noTick h) ?_
  refine Sp.ifb rfl (fun u2 => ?_) (fun u2 => absurd u2 (by rw [r_tick_nI ht]; decide))
  refine Sp.go 4 (g := (29, [(0, .ref 10), (1, .int (nI a)), (2, .int (nI b)), (3, .int (nI t))], [.int (nI b), .int (nI a), .int (nI t), .ref 10])) rfl ?_
  refine Sp.vr (some (.int (nI (a_used A t a b)))) (mw (w.sf 5 (0))) (k' := 60) (F' := 1) (N' := 24) (C' := 0) (S' := 0) (vs := [.int (nI t), .int (nI a), .int (nI b)]) (st := []) rfl rfl rfl rfl (Nat.le_of_ble_eq_true rfl) (Nat.le_of_ble_eq_true rfl) (by decide) (by decide) (Nat.zero_le _) (Nat.zero_le _) (fun Q' h => d_used ho hj.t (by omega) (by omega) (by omega) h) ?_
  refine Sp.iret rfl (Or.inl rfl) ?_
  exact hq
theorem d_open {X : mX} {C S : Nat} {Q : Outcome → mM → Prop} {w : mWd} {A : aS} (ho : a_ok A) (hj : JR0 w A) {a b t : Nat} (ha : a < 8) (hb : b < 8) (ht : t < 64) (hp : a_pair A (nI a) (nI b) = true) (hq : Q (.returned (some (.int (m_b2 (A.op a b t))))) (mw (w.sf 5 0))) : Sp X 83 2 43 C S (0, [(0, .ref 10), (1, .int (nI a)), (2, .int (nI b)), (3, .int (nI t))], []) (mw w) Q := by
  refine Sp.go 2 (g := (2, [(0, .ref 10), (1, .int (nI a)), (2, .int (nI b)), (3, .int (nI t))], [.int 0, .ref 10])) rfl ?_
  refine Sp.pf5 rfl ?_
  refine Sp.go 3 (g := (8, [(0, .ref 10), (1, .int (nI a)), (2, .int (nI b)), (3, .int (nI t))], [.int (nI b), .int (nI a), .ref 10])) rfl ?_
  refine Sp.vr (some (.int (m_b2 (!a_pair A (nI a) (nI b))))) (mw (w.sf 5 (0))) (k' := 55) (F' := 1) (N' := 21) (C' := 0) (S' := 0) (vs := [.int (nI a), .int (nI b)]) (st := []) rfl rfl rfl rfl (Nat.le_of_ble_eq_true rfl) (Nat.le_of_ble_eq_true rfl) (by decide) (by decide) (Nat.zero_le _) (Nat.zero_le _) (fun Q' h => d_noPair ho hj.t h) ?_
  refine Sp.ifbn rfl (fun u1 => absurd u1 (by rw [hp]; decide)) (fun u1 => ?_)
  refine Sp.go 1 (g := (15, [(0, .ref 10), (1, .int (nI a)), (2, .int (nI b)), (3, .int (nI t))], [.int (nI t)])) rfl ?_
  refine Sp.sr (some (.int (m_b2 (!r_tick (nI t))))) (mw (w.sf 5 (0))) (k' := 56) (F' := 0) (N' := 0) (C' := 0) (S' := 0) (vs := [.int (nI t)]) (st := []) rfl (by decide) rfl (Nat.le_of_ble_eq_true rfl) (Nat.le_of_ble_eq_true rfl) (by decide) (by decide) (Nat.zero_le _) (Nat.zero_le _) (fun Q' h => d_noTick h) ?_
  refine Sp.ifbn rfl (fun u2 => absurd u2 (by rw [r_tick_nI ht]; decide)) (fun u2 => ?_)
  refine Sp.go 4 (g := (25, [(0, .ref 10), (1, .int (nI a)), (2, .int (nI b)), (3, .int (nI t))], [.int (nI t), .int (nI b), .int (nI a), .ref 10])) rfl ?_
  refine Sp.vr (some (.int (m_b2 (A.op a b t)))) (mw (w.sf 5 (0))) (k' := 57) (F' := 0) (N' := 0) (C' := 0) (S' := 0) (vs := [.int (nI a), .int (nI b), .int (nI t)]) (st := []) rfl rfl rfl rfl (Nat.le_of_ble_eq_true rfl) (Nat.le_of_ble_eq_true rfl) (by decide) (by decide) (Nat.zero_le _) (Nat.zero_le _) (fun Q' h => d_isOpen ho hj.t (by omega) (by omega) (by omega) h) ?_
  refine Sp.ifb rfl (fun h3 => ?_) (fun h3 => ?_)
  · skip
    refine Sp.go 1 (g := (36, [(0, .ref 10), (1, .int (nI a)), (2, .int (nI b)), (3, .int (nI t))], [.int 0])) rfl ?_
    refine Sp.iret rfl (Or.inr ⟨rfl, Or.inl rfl⟩) ?_
    rw [h3] at hq; exact hq
  · skip
    refine Sp.go 2 (g := (36, [(0, .ref 10), (1, .int (nI a)), (2, .int (nI b)), (3, .int (nI t))], [.int 1])) rfl ?_
    refine Sp.iret rfl (Or.inr ⟨rfl, Or.inr rfl⟩) ?_
    rw [h3] at hq; exact hq
theorem d_stored {X : mX} {C S : Nat} {Q : Outcome → mM → Prop} {w : mWd} {A : aS} (ho : a_ok A) (hj : JR0 w A) {a t : Nat} (ha : a < 8) (ht : t < 64) (hp : a_isn A (nI a) = true) (hq : Q (.returned (some (.int (nI (a_used A t a a))))) (mw (w.sf 5 0))) : Sp X 82 2 49 C S (0, [(0, .ref 10), (1, .int (nI a)), (2, .int (nI t))], []) (mw w) Q := by
  refine Sp.go 2 (g := (2, [(0, .ref 10), (1, .int (nI a)), (2, .int (nI t))], [.int 0, .ref 10])) rfl ?_
  refine Sp.pf5 rfl ?_
  refine Sp.go 2 (g := (7, [(0, .ref 10), (1, .int (nI a)), (2, .int (nI t))], [.int (nI a), .ref 10])) rfl ?_
  refine Sp.vr (some (.int (m_b2 (!a_isn A (nI a))))) (mw (w.sf 5 (0))) (k' := 54) (F' := 0) (N' := 0) (C' := 0) (S' := 0) (vs := [.int (nI a)]) (st := []) rfl rfl rfl rfl (Nat.le_of_ble_eq_true rfl) (Nat.le_of_ble_eq_true rfl) (by decide) (by decide) (Nat.zero_le _) (Nat.zero_le _) (fun Q' h => d_noNode ho hj.t h) ?_
  refine Sp.ifbn rfl (fun u1 => absurd u1 (by rw [hp]; decide)) (fun u1 => ?_)
  refine Sp.go 1 (g := (14, [(0, .ref 10), (1, .int (nI a)), (2, .int (nI t))], [.int (nI t)])) rfl ?_
  refine Sp.sr (some (.int (m_b2 (!r_tick (nI t))))) (mw (w.sf 5 (0))) (k' := 56) (F' := 0) (N' := 0) (C' := 0) (S' := 0) (vs := [.int (nI t)]) (st := []) rfl (by decide) rfl (Nat.le_of_ble_eq_true rfl) (Nat.le_of_ble_eq_true rfl) (by decide) (by decide) (Nat.zero_le _) (Nat.zero_le _) (fun Q' h => d_noTick h) ?_
  refine Sp.ifb rfl (fun u2 => ?_) (fun u2 => absurd u2 (by rw [r_tick_nI ht]; decide))
  refine Sp.go 4 (g := (28, [(0, .ref 10), (1, .int (nI a)), (2, .int (nI t))], [.int (nI a), .int (nI a), .int (nI t), .ref 10])) rfl ?_
  refine Sp.vr (some (.int (nI (a_used A t a a)))) (mw (w.sf 5 (0))) (k' := 60) (F' := 1) (N' := 24) (C' := 0) (S' := 0) (vs := [.int (nI t), .int (nI a), .int (nI a)]) (st := []) rfl rfl rfl rfl (Nat.le_of_ble_eq_true rfl) (Nat.le_of_ble_eq_true rfl) (by decide) (by decide) (Nat.zero_le _) (Nat.zero_le _) (fun Q' h => d_used ho hj.t (by omega) (by omega) (by omega) h) ?_
  refine Sp.iret rfl (Or.inl rfl) ?_
  exact hq
theorem d_free {X : mX} {C S : Nat} {Q : Outcome → mM → Prop} {w : mWd} {A : aS} (ho : a_ok A) (hj : JR0 w A) {a t : Nat} (ha : a < 8) (ht : t < 64) (hp : a_isn A (nI a) = true) (hq : Q (.returned (some (.int (a_places (A.pl a) - nI (a_used A t a a))))) (mw (w.sf 5 0))) : Sp X 84 2 49 C S (0, [(0, .ref 10), (1, .int (nI a)), (2, .int (nI t))], []) (mw w) Q := by
  refine Sp.go 2 (g := (2, [(0, .ref 10), (1, .int (nI a)), (2, .int (nI t))], [.int 0, .ref 10])) rfl ?_
  refine Sp.pf5 rfl ?_
  refine Sp.go 2 (g := (7, [(0, .ref 10), (1, .int (nI a)), (2, .int (nI t))], [.int (nI a), .ref 10])) rfl ?_
  refine Sp.vr (some (.int (m_b2 (!a_isn A (nI a))))) (mw (w.sf 5 (0))) (k' := 54) (F' := 0) (N' := 0) (C' := 0) (S' := 0) (vs := [.int (nI a)]) (st := []) rfl rfl rfl rfl (Nat.le_of_ble_eq_true rfl) (Nat.le_of_ble_eq_true rfl) (by decide) (by decide) (Nat.zero_le _) (Nat.zero_le _) (fun Q' h => d_noNode ho hj.t h) ?_
  refine Sp.ifbn rfl (fun u1 => absurd u1 (by rw [hp]; decide)) (fun u1 => ?_)
  refine Sp.go 1 (g := (14, [(0, .ref 10), (1, .int (nI a)), (2, .int (nI t))], [.int (nI t)])) rfl ?_
  refine Sp.sr (some (.int (m_b2 (!r_tick (nI t))))) (mw (w.sf 5 (0))) (k' := 56) (F' := 0) (N' := 0) (C' := 0) (S' := 0) (vs := [.int (nI t)]) (st := []) rfl (by decide) rfl (Nat.le_of_ble_eq_true rfl) (Nat.le_of_ble_eq_true rfl) (by decide) (by decide) (Nat.zero_le _) (Nat.zero_le _) (fun Q' h => d_noTick h) ?_
  refine Sp.ifb rfl (fun u2 => ?_) (fun u2 => absurd u2 (by rw [r_tick_nI ht]; decide))
  refine Sp.go 1 (g := (25, [(0, .ref 10), (1, .int (nI a)), (2, .int (nI t))], [.ref 10])) rfl ?_
  refine Sp.get (v := .ref 11) rfl rfl rfl ?_
  refine Sp.go 1 (g := (29, [(0, .ref 10), (1, .int (nI a)), (2, .int (nI t))], [.int (nI a), .ref 11])) rfl ?_
  refine Sp.iald (f := w.a 11) (j := a) rfl rfl (m_ix_of (by simp only [nI, Int32.ofNat_add, Int32.ofNat_mul] <;> rfl) (by omega) (by omega)) ?_
  rw [hj.pl (by omega)]
  refine Sp.go 4 (g := (34, [(0, .ref 10), (1, .int (nI a)), (2, .int (nI t))], [.int (nI a), .int (nI a), .int (nI t), .ref 10, .int (a_places (A.pl a))])) rfl ?_
  refine Sp.vr (some (.int (nI (a_used A t a a)))) (mw (w.sf 5 (0))) (k' := 60) (F' := 1) (N' := 24) (C' := 0) (S' := 0) (vs := [.int (nI t), .int (nI a), .int (nI a)]) (st := [.int (a_places (A.pl a))]) rfl rfl rfl rfl (Nat.le_of_ble_eq_true rfl) (Nat.le_of_ble_eq_true rfl) (by decide) (by decide) (Nat.zero_le _) (Nat.zero_le _) (fun Q' h => d_used ho hj.t (by omega) (by omega) (by omega) h) ?_
  refine Sp.go 1 (g := (38, [(0, .ref 10), (1, .int (nI a)), (2, .int (nI t))], [.int ((a_places (A.pl a)) - (nI (a_used A t a a)))])) rfl ?_
  refine Sp.iret rfl (Or.inl rfl) ?_
  exact hq
theorem d_linkUsed_o1 {X : mX} {C S : Nat} {Q : Outcome → mM → Prop} {w : mWd} {A : aS} (ho : a_ok A) (hj : JR0 w A) {x y z : Int32} (hp : a_pair A x y = false) (hq : Q (.returned (some (.int (0)))) (mw (w.sf 5 0))) : Sp X 81 2 49 C S (0, [(0, .ref 10), (1, .int (x)), (2, .int (y)), (3, .int (z))], []) (mw w) Q := by
  refine Sp.go 2 (g := (2, [(0, .ref 10), (1, .int (x)), (2, .int (y)), (3, .int (z))], [.int 0, .ref 10])) rfl ?_
  refine Sp.pf5 rfl ?_
  refine Sp.go 3 (g := (8, [(0, .ref 10), (1, .int (x)), (2, .int (y)), (3, .int (z))], [.int (y), .int (x), .ref 10])) rfl ?_
  refine Sp.vr (some (.int (m_b2 (!a_pair A (x) (y))))) (mw (w.sf 5 (0))) (k' := 55) (F' := 1) (N' := 21) (C' := 0) (S' := 0) (vs := [.int (x), .int (y)]) (st := []) rfl rfl rfl rfl (Nat.le_of_ble_eq_true rfl) (Nat.le_of_ble_eq_true rfl) (by decide) (by decide) (Nat.zero_le _) (Nat.zero_le _) (fun Q' h => d_noPair ho hj.t h) ?_
  refine Sp.ifbn rfl (fun u1 => ?_) (fun u1 => absurd u1 (by rw [hp]; decide))
  refine Sp.go 2 (g := (32, [(0, .ref 10), (1, .int (x)), (2, .int (y)), (3, .int (z))], [.int 0])) rfl ?_
  refine Sp.iret rfl (Or.inl rfl) ?_
  exact hq
theorem d_linkUsed_o2 {X : mX} {C S : Nat} {Q : Outcome → mM → Prop} {w : mWd} {A : aS} (ho : a_ok A) (hj : JR0 w A) {x y z : Int32} (hp : a_pair A x y = true) (ht : r_tick z = false) (hq : Q (.returned (some (.int (0)))) (mw (w.sf 5 0))) : Sp X 81 2 49 C S (0, [(0, .ref 10), (1, .int (x)), (2, .int (y)), (3, .int (z))], []) (mw w) Q := by
  refine Sp.go 2 (g := (2, [(0, .ref 10), (1, .int (x)), (2, .int (y)), (3, .int (z))], [.int 0, .ref 10])) rfl ?_
  refine Sp.pf5 rfl ?_
  refine Sp.go 3 (g := (8, [(0, .ref 10), (1, .int (x)), (2, .int (y)), (3, .int (z))], [.int (y), .int (x), .ref 10])) rfl ?_
  refine Sp.vr (some (.int (m_b2 (!a_pair A (x) (y))))) (mw (w.sf 5 (0))) (k' := 55) (F' := 1) (N' := 21) (C' := 0) (S' := 0) (vs := [.int (x), .int (y)]) (st := []) rfl rfl rfl rfl (Nat.le_of_ble_eq_true rfl) (Nat.le_of_ble_eq_true rfl) (by decide) (by decide) (Nat.zero_le _) (Nat.zero_le _) (fun Q' h => d_noPair ho hj.t h) ?_
  refine Sp.ifbn rfl (fun u1 => absurd u1 (by rw [hp]; decide)) (fun u1 => ?_)
  refine Sp.go 1 (g := (15, [(0, .ref 10), (1, .int (x)), (2, .int (y)), (3, .int (z))], [.int (z)])) rfl ?_
  refine Sp.sr (some (.int (m_b2 (!r_tick (z))))) (mw (w.sf 5 (0))) (k' := 56) (F' := 0) (N' := 0) (C' := 0) (S' := 0) (vs := [.int (z)]) (st := []) rfl (by decide) rfl (Nat.le_of_ble_eq_true rfl) (Nat.le_of_ble_eq_true rfl) (by decide) (by decide) (Nat.zero_le _) (Nat.zero_le _) (fun Q' h => d_noTick h) ?_
  refine Sp.ifb rfl (fun u2 => absurd u2 (by rw [ht]; decide)) (fun u2 => ?_)
  refine Sp.go 2 (g := (32, [(0, .ref 10), (1, .int (x)), (2, .int (y)), (3, .int (z))], [.int 0])) rfl ?_
  refine Sp.iret rfl (Or.inl rfl) ?_
  exact hq
theorem d_open_o1 {X : mX} {C S : Nat} {Q : Outcome → mM → Prop} {w : mWd} {A : aS} (ho : a_ok A) (hj : JR0 w A) {x y z : Int32} (hp : a_pair A x y = false) (hq : Q (.returned (some (.int (0)))) (mw (w.sf 5 0))) : Sp X 83 2 43 C S (0, [(0, .ref 10), (1, .int (x)), (2, .int (y)), (3, .int (z))], []) (mw w) Q := by
  refine Sp.go 2 (g := (2, [(0, .ref 10), (1, .int (x)), (2, .int (y)), (3, .int (z))], [.int 0, .ref 10])) rfl ?_
  refine Sp.pf5 rfl ?_
  refine Sp.go 3 (g := (8, [(0, .ref 10), (1, .int (x)), (2, .int (y)), (3, .int (z))], [.int (y), .int (x), .ref 10])) rfl ?_
  refine Sp.vr (some (.int (m_b2 (!a_pair A (x) (y))))) (mw (w.sf 5 (0))) (k' := 55) (F' := 1) (N' := 21) (C' := 0) (S' := 0) (vs := [.int (x), .int (y)]) (st := []) rfl rfl rfl rfl (Nat.le_of_ble_eq_true rfl) (Nat.le_of_ble_eq_true rfl) (by decide) (by decide) (Nat.zero_le _) (Nat.zero_le _) (fun Q' h => d_noPair ho hj.t h) ?_
  refine Sp.ifbn rfl (fun u1 => ?_) (fun u1 => absurd u1 (by rw [hp]; decide))
  refine Sp.go 1 (g := (36, [(0, .ref 10), (1, .int (x)), (2, .int (y)), (3, .int (z))], [.int 0])) rfl ?_
  refine Sp.iret rfl (Or.inr ⟨rfl, Or.inl rfl⟩) ?_
  exact hq
theorem d_open_o2 {X : mX} {C S : Nat} {Q : Outcome → mM → Prop} {w : mWd} {A : aS} (ho : a_ok A) (hj : JR0 w A) {x y z : Int32} (hp : a_pair A x y = true) (ht : r_tick z = false) (hq : Q (.returned (some (.int (0)))) (mw (w.sf 5 0))) : Sp X 83 2 43 C S (0, [(0, .ref 10), (1, .int (x)), (2, .int (y)), (3, .int (z))], []) (mw w) Q := by
  refine Sp.go 2 (g := (2, [(0, .ref 10), (1, .int (x)), (2, .int (y)), (3, .int (z))], [.int 0, .ref 10])) rfl ?_
  refine Sp.pf5 rfl ?_
  refine Sp.go 3 (g := (8, [(0, .ref 10), (1, .int (x)), (2, .int (y)), (3, .int (z))], [.int (y), .int (x), .ref 10])) rfl ?_
  refine Sp.vr (some (.int (m_b2 (!a_pair A (x) (y))))) (mw (w.sf 5 (0))) (k' := 55) (F' := 1) (N' := 21) (C' := 0) (S' := 0) (vs := [.int (x), .int (y)]) (st := []) rfl rfl rfl rfl (Nat.le_of_ble_eq_true rfl) (Nat.le_of_ble_eq_true rfl) (by decide) (by decide) (Nat.zero_le _) (Nat.zero_le _) (fun Q' h => d_noPair ho hj.t h) ?_
  refine Sp.ifbn rfl (fun u1 => absurd u1 (by rw [hp]; decide)) (fun u1 => ?_)
  refine Sp.go 1 (g := (15, [(0, .ref 10), (1, .int (x)), (2, .int (y)), (3, .int (z))], [.int (z)])) rfl ?_
  refine Sp.sr (some (.int (m_b2 (!r_tick (z))))) (mw (w.sf 5 (0))) (k' := 56) (F' := 0) (N' := 0) (C' := 0) (S' := 0) (vs := [.int (z)]) (st := []) rfl (by decide) rfl (Nat.le_of_ble_eq_true rfl) (Nat.le_of_ble_eq_true rfl) (by decide) (by decide) (Nat.zero_le _) (Nat.zero_le _) (fun Q' h => d_noTick h) ?_
  refine Sp.ifbn rfl (fun u2 => ?_) (fun u2 => absurd u2 (by rw [ht]; decide))
  refine Sp.go 1 (g := (36, [(0, .ref 10), (1, .int (x)), (2, .int (y)), (3, .int (z))], [.int 0])) rfl ?_
  refine Sp.iret rfl (Or.inr ⟨rfl, Or.inl rfl⟩) ?_
  exact hq
theorem d_stored_o1 {X : mX} {C S : Nat} {Q : Outcome → mM → Prop} {w : mWd} {A : aS} (ho : a_ok A) (hj : JR0 w A) {x z : Int32} (hp : a_isn A x = false) (hq : Q (.returned (some (.int (0)))) (mw (w.sf 5 0))) : Sp X 82 2 49 C S (0, [(0, .ref 10), (1, .int (x)), (2, .int (z))], []) (mw w) Q := by
  refine Sp.go 2 (g := (2, [(0, .ref 10), (1, .int (x)), (2, .int (z))], [.int 0, .ref 10])) rfl ?_
  refine Sp.pf5 rfl ?_
  refine Sp.go 2 (g := (7, [(0, .ref 10), (1, .int (x)), (2, .int (z))], [.int (x), .ref 10])) rfl ?_
  refine Sp.vr (some (.int (m_b2 (!a_isn A (x))))) (mw (w.sf 5 (0))) (k' := 54) (F' := 0) (N' := 0) (C' := 0) (S' := 0) (vs := [.int (x)]) (st := []) rfl rfl rfl rfl (Nat.le_of_ble_eq_true rfl) (Nat.le_of_ble_eq_true rfl) (by decide) (by decide) (Nat.zero_le _) (Nat.zero_le _) (fun Q' h => d_noNode ho hj.t h) ?_
  refine Sp.ifbn rfl (fun u1 => ?_) (fun u1 => absurd u1 (by rw [hp]; decide))
  refine Sp.go 2 (g := (31, [(0, .ref 10), (1, .int (x)), (2, .int (z))], [.int 0])) rfl ?_
  refine Sp.iret rfl (Or.inl rfl) ?_
  exact hq
theorem d_stored_o2 {X : mX} {C S : Nat} {Q : Outcome → mM → Prop} {w : mWd} {A : aS} (ho : a_ok A) (hj : JR0 w A) {x z : Int32} (hp : a_isn A x = true) (ht : r_tick z = false) (hq : Q (.returned (some (.int (0)))) (mw (w.sf 5 0))) : Sp X 82 2 49 C S (0, [(0, .ref 10), (1, .int (x)), (2, .int (z))], []) (mw w) Q := by
  refine Sp.go 2 (g := (2, [(0, .ref 10), (1, .int (x)), (2, .int (z))], [.int 0, .ref 10])) rfl ?_
  refine Sp.pf5 rfl ?_
  refine Sp.go 2 (g := (7, [(0, .ref 10), (1, .int (x)), (2, .int (z))], [.int (x), .ref 10])) rfl ?_
  refine Sp.vr (some (.int (m_b2 (!a_isn A (x))))) (mw (w.sf 5 (0))) (k' := 54) (F' := 0) (N' := 0) (C' := 0) (S' := 0) (vs := [.int (x)]) (st := []) rfl rfl rfl rfl (Nat.le_of_ble_eq_true rfl) (Nat.le_of_ble_eq_true rfl) (by decide) (by decide) (Nat.zero_le _) (Nat.zero_le _) (fun Q' h => d_noNode ho hj.t h) ?_
  refine Sp.ifbn rfl (fun u1 => absurd u1 (by rw [hp]; decide)) (fun u1 => ?_)
  refine Sp.go 1 (g := (14, [(0, .ref 10), (1, .int (x)), (2, .int (z))], [.int (z)])) rfl ?_
  refine Sp.sr (some (.int (m_b2 (!r_tick (z))))) (mw (w.sf 5 (0))) (k' := 56) (F' := 0) (N' := 0) (C' := 0) (S' := 0) (vs := [.int (z)]) (st := []) rfl (by decide) rfl (Nat.le_of_ble_eq_true rfl) (Nat.le_of_ble_eq_true rfl) (by decide) (by decide) (Nat.zero_le _) (Nat.zero_le _) (fun Q' h => d_noTick h) ?_
  refine Sp.ifb rfl (fun u2 => absurd u2 (by rw [ht]; decide)) (fun u2 => ?_)
  refine Sp.go 2 (g := (31, [(0, .ref 10), (1, .int (x)), (2, .int (z))], [.int 0])) rfl ?_
  refine Sp.iret rfl (Or.inl rfl) ?_
  exact hq
theorem d_free_o1 {X : mX} {C S : Nat} {Q : Outcome → mM → Prop} {w : mWd} {A : aS} (ho : a_ok A) (hj : JR0 w A) {x z : Int32} (hp : a_isn A x = false) (hq : Q (.returned (some (.int (-1)))) (mw (w.sf 5 0))) : Sp X 84 2 49 C S (0, [(0, .ref 10), (1, .int (x)), (2, .int (z))], []) (mw w) Q := by
  refine Sp.go 2 (g := (2, [(0, .ref 10), (1, .int (x)), (2, .int (z))], [.int 0, .ref 10])) rfl ?_
  refine Sp.pf5 rfl ?_
  refine Sp.go 2 (g := (7, [(0, .ref 10), (1, .int (x)), (2, .int (z))], [.int (x), .ref 10])) rfl ?_
  refine Sp.vr (some (.int (m_b2 (!a_isn A (x))))) (mw (w.sf 5 (0))) (k' := 54) (F' := 0) (N' := 0) (C' := 0) (S' := 0) (vs := [.int (x)]) (st := []) rfl rfl rfl rfl (Nat.le_of_ble_eq_true rfl) (Nat.le_of_ble_eq_true rfl) (by decide) (by decide) (Nat.zero_le _) (Nat.zero_le _) (fun Q' h => d_noNode ho hj.t h) ?_
  refine Sp.ifbn rfl (fun u1 => ?_) (fun u1 => absurd u1 (by rw [hp]; decide))
  refine Sp.go 2 (g := (38, [(0, .ref 10), (1, .int (x)), (2, .int (z))], [.int (-1)])) rfl ?_
  refine Sp.iret rfl (Or.inl rfl) ?_
  exact hq
theorem d_free_o2 {X : mX} {C S : Nat} {Q : Outcome → mM → Prop} {w : mWd} {A : aS} (ho : a_ok A) (hj : JR0 w A) {x z : Int32} (hp : a_isn A x = true) (ht : r_tick z = false) (hq : Q (.returned (some (.int (-1)))) (mw (w.sf 5 0))) : Sp X 84 2 49 C S (0, [(0, .ref 10), (1, .int (x)), (2, .int (z))], []) (mw w) Q := by
  refine Sp.go 2 (g := (2, [(0, .ref 10), (1, .int (x)), (2, .int (z))], [.int 0, .ref 10])) rfl ?_
  refine Sp.pf5 rfl ?_
  refine Sp.go 2 (g := (7, [(0, .ref 10), (1, .int (x)), (2, .int (z))], [.int (x), .ref 10])) rfl ?_
  refine Sp.vr (some (.int (m_b2 (!a_isn A (x))))) (mw (w.sf 5 (0))) (k' := 54) (F' := 0) (N' := 0) (C' := 0) (S' := 0) (vs := [.int (x)]) (st := []) rfl rfl rfl rfl (Nat.le_of_ble_eq_true rfl) (Nat.le_of_ble_eq_true rfl) (by decide) (by decide) (Nat.zero_le _) (Nat.zero_le _) (fun Q' h => d_noNode ho hj.t h) ?_
  refine Sp.ifbn rfl (fun u1 => absurd u1 (by rw [hp]; decide)) (fun u1 => ?_)
  refine Sp.go 1 (g := (14, [(0, .ref 10), (1, .int (x)), (2, .int (z))], [.int (z)])) rfl ?_
  refine Sp.sr (some (.int (m_b2 (!r_tick (z))))) (mw (w.sf 5 (0))) (k' := 56) (F' := 0) (N' := 0) (C' := 0) (S' := 0) (vs := [.int (z)]) (st := []) rfl (by decide) rfl (Nat.le_of_ble_eq_true rfl) (Nat.le_of_ble_eq_true rfl) (by decide) (by decide) (Nat.zero_le _) (Nat.zero_le _) (fun Q' h => d_noTick h) ?_
  refine Sp.ifb rfl (fun u2 => absurd u2 (by rw [ht]; decide)) (fun u2 => ?_)
  refine Sp.go 2 (g := (38, [(0, .ref 10), (1, .int (x)), (2, .int (z))], [.int (-1)])) rfl ?_
  refine Sp.iret rfl (Or.inl rfl) ?_
  exact hq
