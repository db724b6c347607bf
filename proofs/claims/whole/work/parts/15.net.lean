/-! The network's methods. Rows laid by wip/gen/net.py. -/
theorem n_inSet {X : mX} {C S : Nat} {Q : Outcome → mM → Prop} {x : Int32} {n : Nat} {M : mM} (hn : n < 32) (hq : Q (.returned (some (.int (m_b2 (bt x n))))) M) : Sp X 44 0 0 C S (0, [(0, .int (x)), (1, .int (nI n))], []) M Q := by
  refine Sp.go 5 (g := (5, [(0, .int (x)), (1, .int (nI n))], [.int ((x >>> ((nI n) &&& 31)) &&& 1)])) rfl ?_
  refine Sp.if rfl (fun (h1 : ((x >>> ((nI n) &&& 31)) &&& 1 : Int32) = (0 : Int32)) => ?_) (fun (h1 : ¬ (((x >>> ((nI n) &&& 31)) &&& 1 : Int32) = (0 : Int32))) => ?_)
  · skip
    refine Sp.go 1 (g := (13, [(0, .int (x)), (1, .int (nI n))], [.int 0])) rfl ?_
    refine Sp.iret rfl (Or.inr ⟨rfl, Or.inl rfl⟩) ?_
    rw [(m_bit x hn).mp h1] at hq; exact hq
  · skip
    refine Sp.go 2 (g := (13, [(0, .int (x)), (1, .int (nI n))], [.int 1])) rfl ?_
    refine Sp.iret rfl (Or.inr ⟨rfl, Or.inr rfl⟩) ?_
    rw [(by cases hb : bt x n with | true => rfl | false => exact absurd ((m_bit x hn).mpr hb) h1 : bt x n = true)] at hq; exact hq
theorem n_cell {X : mX} {C S : Nat} {Q : Outcome → mM → Prop} {n t : Int32} {M : mM} (hq : Q (.returned (some (.int (t * 8 + n)))) M) : Sp X 1 0 0 C S (0, [(0, .int (n)), (1, .int (t))], []) M Q := by
  refine Sp.go 5 (g := (6, [(0, .int (n)), (1, .int (t))], [.int ((t * 8) + n)])) rfl ?_
  refine Sp.iret rfl (Or.inl rfl) ?_
  exact hq
/-- is there a node x, by the set of the nodes -/
def n_is (made : Int32) (x : Int32) : Bool := !decide (x < 0) && (decide (x < 8) && bt made x.toNatClampNeg)
theorem n_is_lt {x : Int32} (h0 : ¬ x < 0) (h : ¬ (8 : Int32) ≤ x) : x.toNatClampNeg < 8 := by
  have h1 := m_nat h0
  rw [h1] at h
  have h2 : x.toNatClampNeg < 2 ^ 31 := by
    have := Int32.toInt_lt x
    show x.toInt.toNat < 2 ^ 31
    omega
  have h3 : ¬ nI 8 ≤ nI x.toNatClampNeg := h
  rw [nI_le' (by omega) h2] at h3
  omega
theorem n_isNode {X : mX} {C S : Nat} {Q : Outcome → mM → Prop} {w : mWd} {x : Int32} (hq : Q (.returned (some (.int (m_b2 (n_is (w.f 2) x))))) (mw w)) : Sp X 2 1 21 C S (0, [(0, .ref 1), (1, .int (x))], []) (mw w) Q := by
  by_cases h0 : x < 0
  · rw [show n_is (w.f 2) x = false by simp [n_is, h0]] at hq
    refine Sp.go 1 (g := (1, [(0, .ref 1), (1, .int x)], [.int x])) rfl ?_
    refine Sp.if rfl (fun _ => ?_) (fun h => absurd h0 h)
    refine Sp.go 1 (g := (26, [(0, .ref 1), (1, .int x)], [.int 0])) rfl ?_
    exact Sp.iret rfl (Or.inr ⟨rfl, Or.inl rfl⟩) hq
  refine Sp.go 1 (g := (1, [(0, .ref 1), (1, .int x)], [.int x])) rfl ?_
  refine Sp.if rfl (fun h => absurd h h0) (fun _ => ?_)
  refine Sp.go 2 (g := (7, [(0, .ref 1), (1, .int x)], [.int 8, .int x])) rfl ?_
  refine Sp.icmp rfl (fun h8 => ?_) (fun h8 => ?_)
  · have h8' : (8 : Int32) ≤ x := h8
    rw [show n_is (w.f 2) x = false by simp [n_is, h0, show ¬ x < 8 from k2_nlt h8']] at hq
    refine Sp.go 1 (g := (26, [(0, .ref 1), (1, .int x)], [.int 0])) rfl ?_
    exact Sp.iret rfl (Or.inr ⟨rfl, Or.inl rfl⟩) hq
  have h8' : ¬ (8 : Int32) ≤ x := h8
  have hlt := n_is_lt h0 h8'
  rw [show n_is (w.f 2) x = bt (w.f 2) x.toNatClampNeg by simp [n_is, h0, show x < 8 from k2_lt h8']] at hq
  have hx := m_nat h0
  generalize x.toNatClampNeg = n at hx hlt hq
  subst hx
  refine Sp.go 1 (g := (11, [(0, .ref 1), (1, .int (nI n))], [.ref 1])) rfl ?_
  refine Sp.get (v := .int (w.f 2)) rfl rfl rfl ?_
  refine Sp.go 1 (g := (15, [(0, .ref 1), (1, .int (nI n))], [.int (nI n), .int (w.f 2)])) rfl ?_
  refine Sp.sr (some (.int (m_b2 (bt (w.f 2) n)))) (mw (w)) (k' := 44) (F' := 0) (N' := 0) (C' := 0) (S' := 0) (vs := [.int (w.f 2), .int (nI n)]) (st := []) rfl (by decide) rfl (Nat.le_of_ble_eq_true rfl) (Nat.le_of_ble_eq_true rfl) (by decide) (by decide) (Nat.zero_le _) (Nat.zero_le _) (fun Q' h => n_inSet (by omega) h) ?_
  refine Sp.ifb rfl (fun h1 => ?_) (fun h1 => ?_)
  · skip
    refine Sp.go 1 (g := (26, [(0, .ref 1), (1, .int (nI n))], [.int 0])) rfl ?_
    refine Sp.iret rfl (Or.inr ⟨rfl, Or.inl rfl⟩) ?_
    first | (rw [‹bt (w.f 2) n = false›] at hq; exact hq) | (rw [‹bt (w.f 2) n = true›] at hq; exact hq)
  · skip
    refine Sp.go 2 (g := (26, [(0, .ref 1), (1, .int (nI n))], [.int 1])) rfl ?_
    refine Sp.iret rfl (Or.inr ⟨rfl, Or.inr rfl⟩) ?_
    first | (rw [‹bt (w.f 2) n = false›] at hq; exact hq) | (rw [‹bt (w.f 2) n = true›] at hq; exact hq)
def n_pair (made : Int32) (x y : Int32) : Bool := n_is made x && (n_is made y && !decide (x = y))
theorem n_isPair {X : mX} {C S : Nat} {Q : Outcome → mM → Prop} {w : mWd} {x y : Int32} (hq : Q (.returned (some (.int (m_b2 (n_pair (w.f 2) x y))))) (mw w)) : Sp X 3 2 42 C S (0, [(0, .ref 1), (1, .int (x)), (2, .int (y))], []) (mw w) Q := by
  refine Sp.go 2 (g := (2, [(0, .ref 1), (1, .int (x)), (2, .int (y))], [.int (x), .ref 1])) rfl ?_
  refine Sp.vr (some (.int (m_b2 (n_is (w.f 2) x)))) (mw (w)) (k' := 2) (F' := 1) (N' := 21) (C' := 0) (S' := 0) (vs := [.int (x)]) (st := []) rfl rfl rfl rfl (Nat.le_of_ble_eq_true rfl) (Nat.le_of_ble_eq_true rfl) (by decide) (by decide) (Nat.zero_le _) (Nat.zero_le _) (fun Q' h => n_isNode h) ?_
  refine Sp.ifb rfl (fun h1 => ?_) (fun h1 => ?_)
  · skip
    refine Sp.go 1 (g := (26, [(0, .ref 1), (1, .int (x)), (2, .int (y))], [.int 0])) rfl ?_
    refine Sp.iret rfl (Or.inr ⟨rfl, Or.inl rfl⟩) ?_
    rw [show n_pair (w.f 2) x y = false by simp [n_pair, h1]] at hq; exact hq
  · skip
    refine Sp.go 2 (g := (10, [(0, .ref 1), (1, .int (x)), (2, .int (y))], [.int (y), .ref 1])) rfl ?_
    refine Sp.vr (some (.int (m_b2 (n_is (w.f 2) y)))) (mw (w)) (k' := 2) (F' := 1) (N' := 21) (C' := 0) (S' := 0) (vs := [.int (y)]) (st := []) rfl rfl rfl rfl (Nat.le_of_ble_eq_true rfl) (Nat.le_of_ble_eq_true rfl) (by decide) (by decide) (Nat.zero_le _) (Nat.zero_le _) (fun Q' h => n_isNode h) ?_
    refine Sp.ifb rfl (fun h2 => ?_) (fun h2 => ?_)
    · skip
      refine Sp.go 1 (g := (26, [(0, .ref 1), (1, .int (x)), (2, .int (y))], [.int 0])) rfl ?_
      refine Sp.iret rfl (Or.inr ⟨rfl, Or.inl rfl⟩) ?_
      rw [show n_pair (w.f 2) x y = false by simp [n_pair, h2]] at hq; exact hq
    · skip
      refine Sp.go 2 (g := (18, [(0, .ref 1), (1, .int (x)), (2, .int (y))], [.int (y), .int (x)])) rfl ?_
      refine Sp.icmp rfl (fun (h3 : (x : Int32) = (y : Int32)) => ?_) (fun (h3 : ¬ ((x : Int32) = (y : Int32))) => ?_)
      · skip
        refine Sp.go 1 (g := (26, [(0, .ref 1), (1, .int (x)), (2, .int (y))], [.int 0])) rfl ?_
        refine Sp.iret rfl (Or.inr ⟨rfl, Or.inl rfl⟩) ?_
        rw [show n_pair (w.f 2) x y = false by simp [n_pair, show x = y from h3]] at hq; exact hq
      · skip
        refine Sp.go 2 (g := (26, [(0, .ref 1), (1, .int (x)), (2, .int (y))], [.int 1])) rfl ?_
        refine Sp.iret rfl (Or.inr ⟨rfl, Or.inr rfl⟩) ?_
        rw [show n_pair (w.f 2) x y = true by simp [n_pair, h1, h2, show ¬ x = y from h3]] at hq; exact hq
theorem n_makeNode {X : mX} {C S : Nat} {Q : Outcome → mM → Prop} {w : mWd} {n : Nat} {c : Int32} (hn : n < 8) (hq : Q (.returned none) (mw (((w.sa 2 (upd (w.a 2) n c)).sf 2 (w.f 2 ||| ((1 : Int32) <<< (nI n &&& 31)))).sf 0 (w.f 0 + 1)))) : Sp X 4 0 0 C S (0, [(0, .ref 1), (1, .int (nI n)), (2, .int (c))], []) (mw w) Q := by
  refine Sp.go 1 (g := (1, [(0, .ref 1), (1, .int (nI n)), (2, .int (c))], [.ref 1])) rfl ?_
  refine Sp.get (v := .ref 2) rfl rfl rfl ?_
  refine Sp.go 2 (g := (6, [(0, .ref 1), (1, .int (nI n)), (2, .int (c))], [.int (c), .int (nI n), .ref 2])) rfl ?_
  refine Sp.pa2 (j := n) rfl (m_ix_of (by simp only [nI, Int32.ofNat_add, Int32.ofNat_mul] <;> rfl) (by omega) (by omega)) ?_
  refine Sp.go 2 (g := (9, [(0, .ref 1), (1, .int (nI n)), (2, .int (c))], [.ref 1, .ref 1])) rfl ?_
  refine Sp.get (v := .int (w.f 2)) rfl rfl rfl ?_
  refine Sp.go 4 (g := (16, [(0, .ref 1), (1, .int (nI n)), (2, .int (c))], [.int ((w.f 2) ||| ((1 : Int32) <<< ((nI n) &&& 31))), .ref 1])) rfl ?_
  refine Sp.pf2 rfl ?_
  refine Sp.go 2 (g := (21, [(0, .ref 1), (1, .int (nI n)), (2, .int (c))], [.ref 1, .ref 1])) rfl ?_
  refine Sp.get (v := .int (w.f 0)) rfl rfl rfl ?_
  refine Sp.go 2 (g := (26, [(0, .ref 1), (1, .int (nI n)), (2, .int (c))], [.int ((w.f 0) + 1), .ref 1])) rfl ?_
  refine Sp.pf0 rfl ?_
  refine Sp.vret rfl rfl ?_
  exact hq
theorem n_usersOfLink {X : mX} {C S : Nat} {Q : Outcome → mM → Prop} {w : mWd} {a b t : Nat} (ha : a < 8) (hb : b < 8) (ht : t < 64) (hq : Q (.returned (some (.int (m_b2 (bt (w.a 4 (t * 8 + a)) b))))) (mw w)) : Sp X 8 1 21 C S (0, [(0, .ref 1), (1, .int (nI a)), (2, .int (nI b)), (3, .int (nI t))], []) (mw w) Q := by
  refine Sp.go 1 (g := (1, [(0, .ref 1), (1, .int (nI a)), (2, .int (nI b)), (3, .int (nI t))], [.ref 1])) rfl ?_
  refine Sp.get (v := .ref 4) rfl rfl rfl ?_
  refine Sp.go 2 (g := (6, [(0, .ref 1), (1, .int (nI a)), (2, .int (nI b)), (3, .int (nI t))], [.int (nI t), .int (nI a), .ref 4])) rfl ?_
  refine Sp.sr (some (.int ((nI t) * 8 + (nI a)))) (mw (w)) (k' := 1) (F' := 0) (N' := 0) (C' := 0) (S' := 0) (vs := [.int (nI a), .int (nI t)]) (st := [.ref 4]) rfl (by decide) rfl (Nat.le_of_ble_eq_true rfl) (Nat.le_of_ble_eq_true rfl) (by decide) (by decide) (Nat.zero_le _) (Nat.zero_le _) (fun Q' h => n_cell h) ?_
  refine Sp.iald (f := w.a 4) (j := t * 8 + a) rfl rfl (m_ix_of (by simp only [nI, Int32.ofNat_add, Int32.ofNat_mul] <;> rfl) (by omega) (by omega)) ?_
  refine Sp.go 1 (g := (11, [(0, .ref 1), (1, .int (nI a)), (2, .int (nI b)), (3, .int (nI t))], [.int (nI b), .int (w.a 4 (t * 8 + a))])) rfl ?_
  refine Sp.sr (some (.int (m_b2 (bt (w.a 4 (t * 8 + a)) b)))) (mw (w)) (k' := 44) (F' := 0) (N' := 0) (C' := 0) (S' := 0) (vs := [.int (w.a 4 (t * 8 + a)), .int (nI b)]) (st := []) rfl (by decide) rfl (Nat.le_of_ble_eq_true rfl) (Nat.le_of_ble_eq_true rfl) (by decide) (by decide) (Nat.zero_le _) (Nat.zero_le _) (fun Q' h => n_inSet (by omega) h) ?_
  refine Sp.ifb rfl (fun h1 => ?_) (fun h1 => ?_)
  · skip
    refine Sp.go 1 (g := (22, [(0, .ref 1), (1, .int (nI a)), (2, .int (nI b)), (3, .int (nI t))], [.int 0])) rfl ?_
    refine Sp.iret rfl (Or.inl rfl) ?_
    rw [h1] at hq; exact hq
  · skip
    refine Sp.go 2 (g := (22, [(0, .ref 1), (1, .int (nI a)), (2, .int (nI b)), (3, .int (nI t))], [.int 1])) rfl ?_
    refine Sp.iret rfl (Or.inl rfl) ?_
    rw [h1] at hq; exact hq
theorem n_usersOfPlaces {X : mX} {C S : Nat} {Q : Outcome → mM → Prop} {w : mWd} {n t : Nat} (hn : n < 8) (ht : t < 64) (hq : Q (.returned (some (.int (w.a 5 (t * 8 + n))))) (mw w)) : Sp X 9 1 21 C S (0, [(0, .ref 1), (1, .int (nI n)), (2, .int (nI t))], []) (mw w) Q := by
  refine Sp.go 1 (g := (1, [(0, .ref 1), (1, .int (nI n)), (2, .int (nI t))], [.ref 1])) rfl ?_
  refine Sp.get (v := .ref 5) rfl rfl rfl ?_
  refine Sp.go 2 (g := (6, [(0, .ref 1), (1, .int (nI n)), (2, .int (nI t))], [.int (nI t), .int (nI n), .ref 5])) rfl ?_
  refine Sp.sr (some (.int ((nI t) * 8 + (nI n)))) (mw (w)) (k' := 1) (F' := 0) (N' := 0) (C' := 0) (S' := 0) (vs := [.int (nI n), .int (nI t)]) (st := [.ref 5]) rfl (by decide) rfl (Nat.le_of_ble_eq_true rfl) (Nat.le_of_ble_eq_true rfl) (by decide) (by decide) (Nat.zero_le _) (Nat.zero_le _) (fun Q' h => n_cell h) ?_
  refine Sp.iald (f := w.a 5) (j := t * 8 + n) rfl rfl (m_ix_of (by simp only [nI, Int32.ofNat_add, Int32.ofNat_mul] <;> rfl) (by omega) (by omega)) ?_
  refine Sp.iret rfl (Or.inl rfl) ?_
  exact hq
theorem n_placesLeft {X : mX} {C S : Nat} {Q : Outcome → mM → Prop} {w : mWd} {n t : Nat} (hn : n < 8) (ht : t < 64) (hq : Q (.returned (some (.int (w.a 2 n - w.a 5 (t * 8 + n))))) (mw w)) : Sp X 10 1 21 C S (0, [(0, .ref 1), (1, .int (nI n)), (2, .int (nI t))], []) (mw w) Q := by
  refine Sp.go 1 (g := (1, [(0, .ref 1), (1, .int (nI n)), (2, .int (nI t))], [.ref 1])) rfl ?_
  refine Sp.get (v := .ref 2) rfl rfl rfl ?_
  refine Sp.go 1 (g := (5, [(0, .ref 1), (1, .int (nI n)), (2, .int (nI t))], [.int (nI n), .ref 2])) rfl ?_
  refine Sp.iald (f := w.a 2) (j := n) rfl rfl (m_ix_of (by simp only [nI, Int32.ofNat_add, Int32.ofNat_mul] <;> rfl) (by omega) (by omega)) ?_
  refine Sp.go 1 (g := (7, [(0, .ref 1), (1, .int (nI n)), (2, .int (nI t))], [.ref 1, .int (w.a 2 n)])) rfl ?_
  refine Sp.get (v := .ref 5) rfl rfl rfl ?_
  refine Sp.go 2 (g := (12, [(0, .ref 1), (1, .int (nI n)), (2, .int (nI t))], [.int (nI t), .int (nI n), .ref 5, .int (w.a 2 n)])) rfl ?_
  refine Sp.sr (some (.int ((nI t) * 8 + (nI n)))) (mw (w)) (k' := 1) (F' := 0) (N' := 0) (C' := 0) (S' := 0) (vs := [.int (nI n), .int (nI t)]) (st := [.ref 5, .int (w.a 2 n)]) rfl (by decide) rfl (Nat.le_of_ble_eq_true rfl) (Nat.le_of_ble_eq_true rfl) (by decide) (by decide) (Nat.zero_le _) (Nat.zero_le _) (fun Q' h => n_cell h) ?_
  refine Sp.iald (f := w.a 5) (j := t * 8 + n) rfl rfl (m_ix_of (by simp only [nI, Int32.ofNat_add, Int32.ofNat_mul] <;> rfl) (by omega) (by omega)) ?_
  refine Sp.go 1 (g := (17, [(0, .ref 1), (1, .int (nI n)), (2, .int (nI t))], [.int ((w.a 2 n) - (w.a 5 (t * 8 + n)))])) rfl ?_
  refine Sp.iret rfl (Or.inl rfl) ?_
  exact hq
/-- the nodes that can follow n at t, as a set -/
def n_on (op us st pl : Nat → Int32) (n t : Nat) : Int32 := if pl n ≤ st (t * 8 + n) then op (t * 8 + n) &&& (us (t * 8 + n) ^^^ -1) else (op (t * 8 + n) &&& (us (t * 8 + n) ^^^ -1)) ||| ((1 : Int32) <<< (nI n &&& 31))
theorem n_onward {X : mX} {C S : Nat} {Q : Outcome → mM → Prop} {w : mWd} {n t : Nat} (hn : n < 8) (ht : t < 64) (hq : Q (.returned (some (.int (n_on (w.a 3) (w.a 4) (w.a 5) (w.a 2) n t)))) (mw w)) : Sp X 11 1 21 C S (0, [(0, .ref 1), (1, .int (nI n)), (2, .int (nI t))], []) (mw w) Q := by
  refine Sp.go 2 (g := (2, [(0, .ref 1), (1, .int (nI n)), (2, .int (nI t))], [.int (nI t), .int (nI n)])) rfl ?_
  refine Sp.sr (some (.int ((nI t) * 8 + (nI n)))) (mw (w)) (k' := 1) (F' := 0) (N' := 0) (C' := 0) (S' := 0) (vs := [.int (nI n), .int (nI t)]) (st := []) rfl (by decide) rfl (Nat.le_of_ble_eq_true rfl) (Nat.le_of_ble_eq_true rfl) (by decide) (by decide) (Nat.zero_le _) (Nat.zero_le _) (fun Q' h => n_cell h) ?_
  refine Sp.go 2 (g := (7, [(3, .int ((nI t) * 8 + (nI n))), (0, .ref 1), (1, .int (nI n)), (2, .int (nI t))], [.ref 1])) rfl ?_
  refine Sp.get (v := .ref 3) rfl rfl rfl ?_
  refine Sp.go 1 (g := (11, [(3, .int ((nI t) * 8 + (nI n))), (0, .ref 1), (1, .int (nI n)), (2, .int (nI t))], [.int ((nI t) * 8 + (nI n)), .ref 3])) rfl ?_
  refine Sp.iald (f := w.a 3) (j := t * 8 + n) rfl rfl (m_ix_of (by simp only [nI, Int32.ofNat_add, Int32.ofNat_mul] <;> rfl) (by omega) (by omega)) ?_
  refine Sp.go 1 (g := (13, [(3, .int ((nI t) * 8 + (nI n))), (0, .ref 1), (1, .int (nI n)), (2, .int (nI t))], [.ref 1, .int (w.a 3 (t * 8 + n))])) rfl ?_
  refine Sp.get (v := .ref 4) rfl rfl rfl ?_
  refine Sp.go 1 (g := (17, [(3, .int ((nI t) * 8 + (nI n))), (0, .ref 1), (1, .int (nI n)), (2, .int (nI t))], [.int ((nI t) * 8 + (nI n)), .ref 4, .int (w.a 3 (t * 8 + n))])) rfl ?_
  refine Sp.iald (f := w.a 4) (j := t * 8 + n) rfl rfl (m_ix_of (by simp only [nI, Int32.ofNat_add, Int32.ofNat_mul] <;> rfl) (by omega) (by omega)) ?_
  refine Sp.go 5 (g := (24, [(4, .int ((w.a 3 (t * 8 + n)) &&& ((w.a 4 (t * 8 + n)) ^^^ (-1)))), (3, .int ((nI t) * 8 + (nI n))), (0, .ref 1), (1, .int (nI n)), (2, .int (nI t))], [.ref 1])) rfl ?_
  refine Sp.get (v := .ref 5) rfl rfl rfl ?_
  refine Sp.go 1 (g := (28, [(4, .int ((w.a 3 (t * 8 + n)) &&& ((w.a 4 (t * 8 + n)) ^^^ (-1)))), (3, .int ((nI t) * 8 + (nI n))), (0, .ref 1), (1, .int (nI n)), (2, .int (nI t))], [.int ((nI t) * 8 + (nI n)), .ref 5])) rfl ?_
  refine Sp.iald (f := w.a 5) (j := t * 8 + n) rfl rfl (m_ix_of (by simp only [nI, Int32.ofNat_add, Int32.ofNat_mul] <;> rfl) (by omega) (by omega)) ?_
  refine Sp.go 1 (g := (30, [(4, .int ((w.a 3 (t * 8 + n)) &&& ((w.a 4 (t * 8 + n)) ^^^ (-1)))), (3, .int ((nI t) * 8 + (nI n))), (0, .ref 1), (1, .int (nI n)), (2, .int (nI t))], [.ref 1, .int (w.a 5 (t * 8 + n))])) rfl ?_
  refine Sp.get (v := .ref 2) rfl rfl rfl ?_
  refine Sp.go 1 (g := (34, [(4, .int ((w.a 3 (t * 8 + n)) &&& ((w.a 4 (t * 8 + n)) ^^^ (-1)))), (3, .int ((nI t) * 8 + (nI n))), (0, .ref 1), (1, .int (nI n)), (2, .int (nI t))], [.int (nI n), .ref 2, .int (w.a 5 (t * 8 + n))])) rfl ?_
  refine Sp.iald (f := w.a 2) (j := n) rfl rfl (m_ix_of (by simp only [nI, Int32.ofNat_add, Int32.ofNat_mul] <;> rfl) (by omega) (by omega)) ?_
  refine Sp.icmp rfl (fun (h1 : (w.a 2 n : Int32) ≤ (w.a 5 (t * 8 + n) : Int32)) => ?_) (fun (h1 : ¬ ((w.a 2 n : Int32) ≤ (w.a 5 (t * 8 + n) : Int32))) => ?_)
  · skip
    refine Sp.go 1 (g := (49, [(4, .int ((w.a 3 (t * 8 + n)) &&& ((w.a 4 (t * 8 + n)) ^^^ (-1)))), (3, .int ((nI t) * 8 + (nI n))), (0, .ref 1), (1, .int (nI n)), (2, .int (nI t))], [.int ((w.a 3 (t * 8 + n)) &&& ((w.a 4 (t * 8 + n)) ^^^ (-1)))])) rfl ?_
    refine Sp.iret rfl (Or.inl rfl) ?_
    unfold n_on at hq; rw [if_pos h1] at hq; exact hq
  · skip
    refine Sp.go 6 (g := (49, [(4, .int ((w.a 3 (t * 8 + n)) &&& ((w.a 4 (t * 8 + n)) ^^^ (-1)))), (3, .int ((nI t) * 8 + (nI n))), (0, .ref 1), (1, .int (nI n)), (2, .int (nI t))], [.int (((w.a 3 (t * 8 + n)) &&& ((w.a 4 (t * 8 + n)) ^^^ (-1))) ||| ((1 : Int32) <<< ((nI n) &&& 31)))])) rfl ?_
    refine Sp.iret rfl (Or.inl rfl) ?_
    unfold n_on at hq; rw [if_neg h1] at hq; exact hq
def n_tk5 (st : Nat → Int32) (n m t : Nat) : Nat → Int32 := if n = m then upd st (t * 8 + n) (st (t * 8 + n) + 1) else st
def n_tk4 (us : Nat → Int32) (n m t : Nat) : Nat → Int32 := if n = m then us else upd us (t * 8 + n) (us (t * 8 + n) ||| ((1 : Int32) <<< (nI m &&& 31)))
def n_gb5 (st : Nat → Int32) (n m t : Nat) : Nat → Int32 := if n = m then upd st (t * 8 + n) (st (t * 8 + n) - 1) else st
def n_gb4 (us : Nat → Int32) (n m t : Nat) : Nat → Int32 := if n = m then us else upd us (t * 8 + n) (us (t * 8 + n) &&& (((1 : Int32) <<< (nI m &&& 31)) ^^^ -1))
theorem mWd.sa_self (w : mWd) (i : Nat) : w.sa i (w.a i) = w := by
  unfold mWd.sa mWd.a
  have : va_up w.2.1 i (w.2.1 i) = w.2.1 := by
    funext j
    by_cases h : j = i
    · subst h; simp [va_up]
    · simp [va_up, h]
  rw [this]
theorem n_take {X : mX} {C S : Nat} {Q : Outcome → mM → Prop} {w : mWd} {n m t : Nat} (hn : n < 8) (hm : m < 8) (ht : t < 64) (hq : Q (.returned none) (mw ((w.sa 4 (n_tk4 (w.a 4) n m t)).sa 5 (n_tk5 (w.a 5) n m t)))) : Sp X 12 1 21 C S (0, [(0, .ref 1), (1, .int (nI n)), (2, .int (nI m)), (3, .int (nI t))], []) (mw w) Q := by
  refine Sp.go 2 (g := (2, [(0, .ref 1), (1, .int (nI n)), (2, .int (nI m)), (3, .int (nI t))], [.int (nI m), .int (nI n)])) rfl ?_
  refine Sp.icmp rfl (fun (h1 : ¬ (nI n : Int32) = (nI m : Int32)) => ?_) (fun (h1 : ¬ (¬ (nI n : Int32) = (nI m : Int32))) => ?_)
  · skip
    refine Sp.go 1 (g := (23, [(0, .ref 1), (1, .int (nI n)), (2, .int (nI m)), (3, .int (nI t))], [.ref 1])) rfl ?_
    refine Sp.get (v := .ref 4) rfl rfl rfl ?_
    refine Sp.go 2 (g := (28, [(0, .ref 1), (1, .int (nI n)), (2, .int (nI m)), (3, .int (nI t))], [.int (nI t), .int (nI n), .ref 4])) rfl ?_
    refine Sp.sr (some (.int ((nI t) * 8 + (nI n)))) (mw (w)) (k' := 1) (F' := 0) (N' := 0) (C' := 0) (S' := 0) (vs := [.int (nI n), .int (nI t)]) (st := [.ref 4]) rfl (by decide) rfl (Nat.le_of_ble_eq_true rfl) (Nat.le_of_ble_eq_true rfl) (by decide) (by decide) (Nat.zero_le _) (Nat.zero_le _) (fun Q' h => n_cell h) ?_
    refine Sp.go 1 (g := (32, [(0, .ref 1), (1, .int (nI n)), (2, .int (nI m)), (3, .int (nI t))], [.int ((nI t) * 8 + (nI n)), .ref 4, .int ((nI t) * 8 + (nI n)), .ref 4])) rfl ?_
    refine Sp.iald (f := w.a 4) (j := t * 8 + n) rfl rfl (m_ix_of (by simp only [nI, Int32.ofNat_add, Int32.ofNat_mul] <;> rfl) (by omega) (by omega)) ?_
    refine Sp.go 4 (g := (37, [(0, .ref 1), (1, .int (nI n)), (2, .int (nI m)), (3, .int (nI t))], [.int ((w.a 4 (t * 8 + n)) ||| ((1 : Int32) <<< ((nI m) &&& 31))), .int ((nI t) * 8 + (nI n)), .ref 4])) rfl ?_
    refine Sp.pa4 (j := t * 8 + n) rfl (m_ix_of (by simp only [nI, Int32.ofNat_add, Int32.ofNat_mul] <;> rfl) (by omega) (by omega)) ?_
    refine Sp.vret rfl rfl ?_
    have hne : ¬ n = m := fun e => h1 (by rw [e]); rw [show n_tk4 (w.a 4) n m t = upd (w.a 4) (t * 8 + n) (w.a 4 (t * 8 + n) ||| ((1 : Int32) <<< (nI m &&& 31))) by simp [n_tk4, hne], show n_tk5 (w.a 5) n m t = w.a 5 by simp [n_tk5, hne]] at hq; refine Eq.mp (congrArg (fun z => Q _ (mw z)) ?_) hq; exact mWd.sa_self _ 5
  · skip
    refine Sp.go 1 (g := (6, [(0, .ref 1), (1, .int (nI n)), (2, .int (nI m)), (3, .int (nI t))], [.ref 1])) rfl ?_
    refine Sp.get (v := .ref 5) rfl rfl rfl ?_
    refine Sp.go 2 (g := (11, [(0, .ref 1), (1, .int (nI n)), (2, .int (nI m)), (3, .int (nI t))], [.int (nI t), .int (nI n), .ref 5])) rfl ?_
    refine Sp.sr (some (.int ((nI t) * 8 + (nI n)))) (mw (w)) (k' := 1) (F' := 0) (N' := 0) (C' := 0) (S' := 0) (vs := [.int (nI n), .int (nI t)]) (st := [.ref 5]) rfl (by decide) rfl (Nat.le_of_ble_eq_true rfl) (Nat.le_of_ble_eq_true rfl) (by decide) (by decide) (Nat.zero_le _) (Nat.zero_le _) (fun Q' h => n_cell h) ?_
    refine Sp.go 1 (g := (15, [(0, .ref 1), (1, .int (nI n)), (2, .int (nI m)), (3, .int (nI t))], [.int ((nI t) * 8 + (nI n)), .ref 5, .int ((nI t) * 8 + (nI n)), .ref 5])) rfl ?_
    refine Sp.iald (f := w.a 5) (j := t * 8 + n) rfl rfl (m_ix_of (by simp only [nI, Int32.ofNat_add, Int32.ofNat_mul] <;> rfl) (by omega) (by omega)) ?_
    refine Sp.go 2 (g := (18, [(0, .ref 1), (1, .int (nI n)), (2, .int (nI m)), (3, .int (nI t))], [.int ((w.a 5 (t * 8 + n)) + 1), .int ((nI t) * 8 + (nI n)), .ref 5])) rfl ?_
    refine Sp.pa5 (j := t * 8 + n) rfl (m_ix_of (by simp only [nI, Int32.ofNat_add, Int32.ofNat_mul] <;> rfl) (by omega) (by omega)) ?_
    refine Sp.go 1 (g := (38, [(0, .ref 1), (1, .int (nI n)), (2, .int (nI m)), (3, .int (nI t))], [])) rfl ?_
    refine Sp.vret rfl rfl ?_
    rw [show n_tk4 (w.a 4) n m t = w.a 4 by simp [n_tk4, (nI_inj (by omega) (by omega)).mp (Classical.not_not.mp h1)], mWd.sa_self, show n_tk5 (w.a 5) n m t = upd (w.a 5) (t * 8 + n) (w.a 5 (t * 8 + n) + 1) by simp [n_tk5, (nI_inj (by omega) (by omega)).mp (Classical.not_not.mp h1)]] at hq; exact hq
theorem n_giveBack {X : mX} {C S : Nat} {Q : Outcome → mM → Prop} {w : mWd} {n m t : Nat} (hn : n < 8) (hm : m < 8) (ht : t < 64) (hq : Q (.returned none) (mw ((w.sa 4 (n_gb4 (w.a 4) n m t)).sa 5 (n_gb5 (w.a 5) n m t)))) : Sp X 13 1 21 C S (0, [(0, .ref 1), (1, .int (nI n)), (2, .int (nI m)), (3, .int (nI t))], []) (mw w) Q := by
  refine Sp.go 2 (g := (2, [(0, .ref 1), (1, .int (nI n)), (2, .int (nI m)), (3, .int (nI t))], [.int (nI m), .int (nI n)])) rfl ?_
  refine Sp.icmp rfl (fun (h1 : ¬ (nI n : Int32) = (nI m : Int32)) => ?_) (fun (h1 : ¬ (¬ (nI n : Int32) = (nI m : Int32))) => ?_)
  · skip
    refine Sp.go 1 (g := (23, [(0, .ref 1), (1, .int (nI n)), (2, .int (nI m)), (3, .int (nI t))], [.ref 1])) rfl ?_
    refine Sp.get (v := .ref 4) rfl rfl rfl ?_
    refine Sp.go 2 (g := (28, [(0, .ref 1), (1, .int (nI n)), (2, .int (nI m)), (3, .int (nI t))], [.int (nI t), .int (nI n), .ref 4])) rfl ?_
    refine Sp.sr (some (.int ((nI t) * 8 + (nI n)))) (mw (w)) (k' := 1) (F' := 0) (N' := 0) (C' := 0) (S' := 0) (vs := [.int (nI n), .int (nI t)]) (st := [.ref 4]) rfl (by decide) rfl (Nat.le_of_ble_eq_true rfl) (Nat.le_of_ble_eq_true rfl) (by decide) (by decide) (Nat.zero_le _) (Nat.zero_le _) (fun Q' h => n_cell h) ?_
    refine Sp.go 1 (g := (32, [(0, .ref 1), (1, .int (nI n)), (2, .int (nI m)), (3, .int (nI t))], [.int ((nI t) * 8 + (nI n)), .ref 4, .int ((nI t) * 8 + (nI n)), .ref 4])) rfl ?_
    refine Sp.iald (f := w.a 4) (j := t * 8 + n) rfl rfl (m_ix_of (by simp only [nI, Int32.ofNat_add, Int32.ofNat_mul] <;> rfl) (by omega) (by omega)) ?_
    refine Sp.go 6 (g := (39, [(0, .ref 1), (1, .int (nI n)), (2, .int (nI m)), (3, .int (nI t))], [.int ((w.a 4 (t * 8 + n)) &&& (((1 : Int32) <<< ((nI m) &&& 31)) ^^^ (-1))), .int ((nI t) * 8 + (nI n)), .ref 4])) rfl ?_
    refine Sp.pa4 (j := t * 8 + n) rfl (m_ix_of (by simp only [nI, Int32.ofNat_add, Int32.ofNat_mul] <;> rfl) (by omega) (by omega)) ?_
    refine Sp.vret rfl rfl ?_
    have hne : ¬ n = m := fun e => h1 (by rw [e]); rw [show n_gb4 (w.a 4) n m t = upd (w.a 4) (t * 8 + n) (w.a 4 (t * 8 + n) &&& (((1 : Int32) <<< (nI m &&& 31)) ^^^ -1)) by simp [n_gb4, hne], show n_gb5 (w.a 5) n m t = w.a 5 by simp [n_gb5, hne]] at hq; refine Eq.mp (congrArg (fun z => Q _ (mw z)) ?_) hq; exact mWd.sa_self _ 5
  · skip
    refine Sp.go 1 (g := (6, [(0, .ref 1), (1, .int (nI n)), (2, .int (nI m)), (3, .int (nI t))], [.ref 1])) rfl ?_
    refine Sp.get (v := .ref 5) rfl rfl rfl ?_
    refine Sp.go 2 (g := (11, [(0, .ref 1), (1, .int (nI n)), (2, .int (nI m)), (3, .int (nI t))], [.int (nI t), .int (nI n), .ref 5])) rfl ?_
    refine Sp.sr (some (.int ((nI t) * 8 + (nI n)))) (mw (w)) (k' := 1) (F' := 0) (N' := 0) (C' := 0) (S' := 0) (vs := [.int (nI n), .int (nI t)]) (st := [.ref 5]) rfl (by decide) rfl (Nat.le_of_ble_eq_true rfl) (Nat.le_of_ble_eq_true rfl) (by decide) (by decide) (Nat.zero_le _) (Nat.zero_le _) (fun Q' h => n_cell h) ?_
    refine Sp.go 1 (g := (15, [(0, .ref 1), (1, .int (nI n)), (2, .int (nI m)), (3, .int (nI t))], [.int ((nI t) * 8 + (nI n)), .ref 5, .int ((nI t) * 8 + (nI n)), .ref 5])) rfl ?_
    refine Sp.iald (f := w.a 5) (j := t * 8 + n) rfl rfl (m_ix_of (by simp only [nI, Int32.ofNat_add, Int32.ofNat_mul] <;> rfl) (by omega) (by omega)) ?_
    refine Sp.go 2 (g := (18, [(0, .ref 1), (1, .int (nI n)), (2, .int (nI m)), (3, .int (nI t))], [.int ((w.a 5 (t * 8 + n)) - 1), .int ((nI t) * 8 + (nI n)), .ref 5])) rfl ?_
    refine Sp.pa5 (j := t * 8 + n) rfl (m_ix_of (by simp only [nI, Int32.ofNat_add, Int32.ofNat_mul] <;> rfl) (by omega) (by omega)) ?_
    refine Sp.go 1 (g := (40, [(0, .ref 1), (1, .int (nI n)), (2, .int (nI m)), (3, .int (nI t))], [])) rfl ?_
    refine Sp.vret rfl rfl ?_
    rw [show n_gb4 (w.a 4) n m t = w.a 4 by simp [n_gb4, (nI_inj (by omega) (by omega)).mp (Classical.not_not.mp h1)], mWd.sa_self, show n_gb5 (w.a 5) n m t = upd (w.a 5) (t * 8 + n) (w.a 5 (t * 8 + n) - 1) by simp [n_gb5, (nI_inj (by omega) (by omega)).mp (Classical.not_not.mp h1)]] at hq; exact hq
