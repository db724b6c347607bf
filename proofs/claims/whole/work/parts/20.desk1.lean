/-! The desk: its small methods. Rows laid by wip/gen/desk1.py. -/
section WP
variable {X : mX} {k F N C S : Nat} {pc : Nat} {ls : List (Nat × Value)} {st : List Value} {w : mWd} {Q : Outcome → mM → Prop}
theorem Sp.pl {n idx j : Nat} {fs : List Value} {x : Int32} (hi : m_i k pc = some (.putfield idx, 1, j)) (hm : w.d n = some (.inr (1, fs))) (hj : j < fs.length) (hf : m_fit (m_ty 1 j) (.int x) = true) (kk : Sp X k F N C S (pc + 3, ls, st) (mw (w.sd n (.inr (1, fs.set j (.int x))))) Q) : Sp X k F N C S (pc, ls, .int x :: .ref (n + 23) :: st) (mw w) Q :=
  Sp.put (a := n + 23) (fs := fs) (v := .int x) hi hm hj hf (by rw [mw_d]; exact kk)
theorem Sp.pn {n j x0 y0 : Nat} {i x : Int32} {f : Nat → Int32} (hi : m_i k pc = some (.iastore, x0, y0)) (hm : w.d (n + 1) = some (.inl (0, 65, .inl f))) (hj : m_ix i j 65) (kk : Sp X k F N C S (pc + 1, ls, st) (mw (w.sd (n + 1) (.inl (0, 65, .inl (upd f j x))))) Q) : Sp X k F N C S (pc, ls, .int x :: .int i :: .ref (n + 24) :: st) (mw w) Q :=
  Sp.iast (a := n + 1 + 23) hi hm hj (by rw [mw_d]; exact kk)
end WP
/-- the parcels in the world: P of them; where each lies; goal, at, last, fate; its nodes -/
def c_P (w : mWd) (P : Nat) (q : Nat → Nat) (g t l f : Nat → Int32) (nd : Nat → Nat → Int32) : Prop :=
  (∀ h, h < P → w.p h = some (q h + 23) ∧ w.d (q h) = some (.inr (1, [.int (g h), .int (t h), .ref (q h + 24), .int (l h), .int (f h)])) ∧ w.d (q h + 1) = some (.inl (0, 65, .inl (nd h))) ∧ q h + 25 ≤ w.nx) ∧ ∀ h h', h < P → h' < P → h ≠ h' → q h ≠ q h' ∧ q h ≠ q h' + 1
def r_tick (x : Int32) : Bool := !decide (x < 0) && decide (x < 64)
theorem r_tick_spec {x : Int32} (h : r_tick x = true) : ∃ t, t < 64 ∧ x = nI t := by
  simp only [r_tick, Bool.and_eq_true, Bool.not_eq_true', decide_eq_false_iff_not, decide_eq_true_eq] at h
  refine ⟨x.toNatClampNeg, ?_, m_nat h.1⟩
  have h1 := h.2
  rw [m_nat h.1] at h1
  have h2 : x.toNatClampNeg < 2 ^ 31 := by
    have := Int32.toInt_lt x
    show x.toInt.toNat < 2 ^ 31
    omega
  exact (nI_lt' (b := 64) h2 (by omega)).mp h1
theorem n_is_spec {m x : Int32} (h : n_is m x = true) : ∃ n, n < 8 ∧ x = nI n ∧ bt m n = true := by
  simp only [n_is, Bool.and_eq_true, Bool.not_eq_true', decide_eq_false_iff_not, decide_eq_true_eq] at h
  exact ⟨x.toNatClampNeg, n_is_lt h.1 (k2_nle h.2.1), m_nat h.1, h.2.2⟩
theorem n_pair_spec {m x y : Int32} (h : n_pair m x y = true) : ∃ a b, a < 8 ∧ b < 8 ∧ a ≠ b ∧ x = nI a ∧ y = nI b ∧ bt m a = true ∧ bt m b = true := by
  simp only [n_pair, Bool.and_eq_true, Bool.not_eq_true', decide_eq_false_iff_not] at h
  obtain ⟨a, ha, rfl, h1⟩ := n_is_spec h.1
  obtain ⟨b, hb, rfl, h2⟩ := n_is_spec h.2.1
  exact ⟨a, b, ha, hb, fun e => h.2.2 (by rw [e]), rfl, rfl, h1, h2⟩
theorem r_isTick {X : mX} {C S : Nat} {Q : Outcome → mM → Prop} {x : Int32} {w : mWd} (hq : Q (.returned (some (.int (m_b2 (r_tick x))))) (mw w)) : Sp X 43 0 0 C S (0, [(0, .int (x))], []) (mw w) Q := by
  refine Sp.go 1 (g := (1, [(0, .int (x))], [.int (x)])) rfl ?_
  refine Sp.if rfl (fun (h1 : (x : Int32) < (0 : Int32)) => ?_) (fun (h1 : ¬ ((x : Int32) < (0 : Int32))) => ?_)
  · skip
    refine Sp.go 1 (g := (15, [(0, .int (x))], [.int 0])) rfl ?_
    refine Sp.iret rfl (Or.inr ⟨rfl, Or.inl rfl⟩) ?_
    rw [show r_tick x = false by simp [r_tick, h1]] at hq; exact hq
  · skip
    refine Sp.go 2 (g := (7, [(0, .int (x))], [.int 64, .int (x)])) rfl ?_
    refine Sp.icmp rfl (fun (h2 : (64 : Int32) ≤ (x : Int32)) => ?_) (fun (h2 : ¬ ((64 : Int32) ≤ (x : Int32))) => ?_)
    · skip
      refine Sp.go 1 (g := (15, [(0, .int (x))], [.int 0])) rfl ?_
      refine Sp.iret rfl (Or.inr ⟨rfl, Or.inl rfl⟩) ?_
      rw [show r_tick x = false by simp [r_tick, k2_nlt h2]] at hq; exact hq
    · skip
      refine Sp.go 2 (g := (15, [(0, .int (x))], [.int 1])) rfl ?_
      refine Sp.iret rfl (Or.inr ⟨rfl, Or.inr rfl⟩) ?_
      rw [show r_tick x = true by simp [r_tick, h1, k2_lt h2]] at hq; exact hq
theorem r_now {X : mX} {C S : Nat} {Q : Outcome → mM → Prop} {w : mWd} (hq : Q (.returned (some (.int (w.f 4)))) (mw w)) : Sp X 29 0 0 C S (0, [(0, .ref 0)], []) (mw w) Q := by
  refine Sp.go 1 (g := (1, [(0, .ref 0)], [.ref 0])) rfl ?_
  refine Sp.get (v := .int (w.f 4)) rfl rfl rfl ?_
  refine Sp.iret rfl (Or.inl rfl) ?_
  exact hq
theorem r_parcelOf_in {X : mX} {C S : Nat} {Q : Outcome → mM → Prop} {w : mWd} {P h v : Nat} (hP : w.f 3 = nI P) (h32 : P ≤ 32) (hh : h < P) (hp : w.p h = some v) (hq : Q (.returned (some (.ref v))) (mw w)) : Sp X 45 0 0 C S (0, [(0, .ref 0), (1, .int (nI h))], []) (mw w) Q := by
  refine Sp.go 1 (g := (1, [(0, .ref 0), (1, .int (nI h))], [.int (nI h)])) rfl ?_
  refine Sp.if rfl (fun u1 => absurd u1 (nI_pos (by omega))) (fun u1 => ?_)
  refine Sp.go 2 (g := (6, [(0, .ref 0), (1, .int (nI h))], [.ref 0, .int (nI h)])) rfl ?_
  refine Sp.get (v := .int (w.f 3)) rfl rfl rfl ?_
  refine Sp.icmp rfl (fun u2 => absurd u2 (by rw [hP]; exact fun q => absurd ((nI_le' (by omega) (by omega)).mp q) (by omega))) (fun u2 => ?_)
  refine Sp.go 1 (g := (13, [(0, .ref 0), (1, .int (nI h))], [.ref 0])) rfl ?_
  refine Sp.get (v := .ref 9) rfl rfl rfl ?_
  refine Sp.go 1 (g := (17, [(0, .ref 0), (1, .int (nI h))], [.int (nI h), .ref 9])) rfl ?_
  refine Sp.aald (f := w.p) (j := h) rfl rfl (m_ix_of (by simp only [nI, Int32.ofNat_add, Int32.ofNat_mul] <;> rfl) (by omega) (by omega)) ?_
  rw [hp]
  refine Sp.go 1 (g := (22, [(0, .ref 0), (1, .int (nI h))], [.ref (v)])) rfl ?_
  refine Sp.aret rfl rfl (Or.inr ⟨_, rfl⟩) ?_
  exact hq
theorem r_parcelOf_out {X : mX} {C S : Nat} {Q : Outcome → mM → Prop} {w : mWd} {x : Int32} (hx : x < 0 ∨ w.f 3 ≤ x) (hq : Q (.returned (some .null)) (mw w)) : Sp X 45 0 0 C S (0, [(0, .ref 0), (1, .int (x))], []) (mw w) Q := by
  by_cases h0 : x < 0
  · refine Sp.go 1 (g := (1, [(0, .ref 0), (1, .int x)], [.int x])) rfl ?_
    refine Sp.if rfl (fun _ => ?_) (fun h => absurd h0 h)
    refine Sp.go 1 (g := (22, [(0, .ref 0), (1, .int x)], [.null])) rfl ?_
    exact Sp.aret rfl rfl (Or.inl rfl) hq
  have h1 : w.f 3 ≤ x := hx.resolve_left h0
  refine Sp.go 1 (g := (1, [(0, .ref 0), (1, .int x)], [.int x])) rfl ?_
  refine Sp.if rfl (fun h => absurd h h0) (fun _ => ?_)
  refine Sp.go 2 (g := (6, [(0, .ref 0), (1, .int x)], [.ref 0, .int x])) rfl ?_
  refine Sp.get (v := .int (w.f 3)) rfl rfl rfl ?_
  refine Sp.icmp rfl (fun _ => ?_) (fun h => absurd h1 h)
  refine Sp.go 1 (g := (22, [(0, .ref 0), (1, .int x)], [.null])) rfl ?_
  exact Sp.aret rfl rfl (Or.inl rfl) hq
theorem r_state_in {X : mX} {C S : Nat} {Q : Outcome → mM → Prop} {w : mWd} {P hd : Nat} {q : Nat → Nat} {g t l f : Nat → Int32} {nd : Nat → Nat → Int32} (hP : w.f 3 = nI P) (h32 : P ≤ 32) (hh : hd < P) (hc : c_P w P q g t l f nd) (hq : Q (.returned (some (.int (p_state (t hd) (l hd) (f hd) (w.f 4))))) (mw w)) : Sp X 35 1 21 C S (0, [(0, .ref 0), (1, .int (nI hd))], []) (mw w) Q := by
  refine Sp.go 2 (g := (2, [(0, .ref 0), (1, .int (nI hd))], [.int (nI hd), .ref 0])) rfl ?_
  refine Sp.vr (some (.ref (q hd + 23))) (mw (w)) (k' := 45) (F' := 0) (N' := 0) (C' := 0) (S' := 0) (vs := [.int (nI hd)]) (st := []) rfl rfl rfl rfl (Nat.le_of_ble_eq_true rfl) (Nat.le_of_ble_eq_true rfl) (by decide) (by decide) (Nat.zero_le _) (Nat.zero_le _) (fun Q' h => r_parcelOf_in hP h32 hh (hc.1 hd hh).1 h) ?_
  refine Sp.go 5 (g := (16, [(2, .ref (q hd + 23)), (0, .ref 0), (1, .int (nI hd))], [.ref 0, .ref (q hd + 23)])) rfl ?_
  refine Sp.get (v := .int (w.f 4)) rfl rfl rfl ?_
  refine Sp.vr (some (.int (p_state (t hd) (l hd) (f hd) (w.f 4)))) (mw (w)) (k' := 15) (F' := 0) (N' := 0) (C' := 0) (S' := 0) (vs := [.int (w.f 4)]) (st := []) rfl (hc.1 hd hh).2.1 rfl rfl (Nat.le_of_ble_eq_true rfl) (Nat.le_of_ble_eq_true rfl) (by decide) (by decide) (Nat.zero_le _) (Nat.zero_le _) (fun Q' h => p_stateAt (hc.1 hd hh).2.1 h) ?_
  refine Sp.iret rfl (Or.inl rfl) ?_
  exact hq
theorem r_state_out {X : mX} {C S : Nat} {Q : Outcome → mM → Prop} {w : mWd} {x : Int32} (hx : x < 0 ∨ w.f 3 ≤ x) (hq : Q (.returned (some (.int 0))) (mw w)) : Sp X 35 1 21 C S (0, [(0, .ref 0), (1, .int (x))], []) (mw w) Q := by
  refine Sp.go 2 (g := (2, [(0, .ref 0), (1, .int (x))], [.int (x), .ref 0])) rfl ?_
  refine Sp.vr (some (.null)) (mw (w)) (k' := 45) (F' := 0) (N' := 0) (C' := 0) (S' := 0) (vs := [.int (x)]) (st := []) rfl rfl rfl rfl (Nat.le_of_ble_eq_true rfl) (Nat.le_of_ble_eq_true rfl) (by decide) (by decide) (Nat.zero_le _) (Nat.zero_le _) (fun Q' h => r_parcelOf_out hx h) ?_
  refine Sp.go 5 (g := (22, [(2, .null), (0, .ref 0), (1, .int (x))], [.int 0])) rfl ?_
  refine Sp.iret rfl (Or.inl rfl) ?_
  exact hq
theorem r_where_in {X : mX} {C S : Nat} {Q : Outcome → mM → Prop} {w : mWd} {P hd : Nat} {q : Nat → Nat} {g t l f : Nat → Int32} {nd : Nat → Nat → Int32} (hP : w.f 3 = nI P) (h32 : P ≤ 32) (hh : hd < P) (hc : c_P w P q g t l f nd) (h0 : ¬ t hd < 0) {e : Nat} (hl : l hd ≤ nI e) (he : e < 65) (hq : Q (.returned (some (.int (if p_state (t hd) (l hd) (f hd) (w.f 4) = 2 then p_node (nd hd) (t hd) (l hd) (w.f 4) else -1)))) (mw w)) : Sp X 36 1 21 C S (0, [(0, .ref 0), (1, .int (nI hd))], []) (mw w) Q := by
  refine Sp.go 2 (g := (2, [(0, .ref 0), (1, .int (nI hd))], [.int (nI hd), .ref 0])) rfl ?_
  refine Sp.vr (some (.ref (q hd + 23))) (mw (w)) (k' := 45) (F' := 0) (N' := 0) (C' := 0) (S' := 0) (vs := [.int (nI hd)]) (st := []) rfl rfl rfl rfl (Nat.le_of_ble_eq_true rfl) (Nat.le_of_ble_eq_true rfl) (by decide) (by decide) (Nat.zero_le _) (Nat.zero_le _) (fun Q' h => r_parcelOf_in hP h32 hh (hc.1 hd hh).1 h) ?_
  refine Sp.go 5 (g := (12, [(2, .ref (q hd + 23)), (0, .ref 0), (1, .int (nI hd))], [.ref 0, .ref (q hd + 23)])) rfl ?_
  refine Sp.get (v := .int (w.f 4)) rfl rfl rfl ?_
  refine Sp.vr (some (.int (p_state (t hd) (l hd) (f hd) (w.f 4)))) (mw (w)) (k' := 15) (F' := 0) (N' := 0) (C' := 0) (S' := 0) (vs := [.int (w.f 4)]) (st := []) rfl (hc.1 hd hh).2.1 rfl rfl (Nat.le_of_ble_eq_true rfl) (Nat.le_of_ble_eq_true rfl) (by decide) (by decide) (Nat.zero_le _) (Nat.zero_le _) (fun Q' h => p_stateAt (hc.1 hd hh).2.1 h) ?_
  refine Sp.go 1 (g := (19, [(2, .ref (q hd + 23)), (0, .ref 0), (1, .int (nI hd))], [.int 2, .int (p_state (t hd) (l hd) (f hd) (w.f 4))])) rfl ?_
  refine Sp.icmp rfl (fun (h1 : ¬ (p_state (t hd) (l hd) (f hd) (w.f 4) : Int32) = (2 : Int32)) => ?_) (fun (h1 : ¬ (¬ (p_state (t hd) (l hd) (f hd) (w.f 4) : Int32) = (2 : Int32))) => ?_)
  · skip
    refine Sp.go 1 (g := (34, [(2, .ref (q hd + 23)), (0, .ref 0), (1, .int (nI hd))], [.int (-1)])) rfl ?_
    refine Sp.iret rfl (Or.inl rfl) ?_
    rw [if_neg h1] at hq; exact hq
  · skip
    refine Sp.go 2 (g := (24, [(2, .ref (q hd + 23)), (0, .ref 0), (1, .int (nI hd))], [.ref 0, .ref (q hd + 23)])) rfl ?_
    refine Sp.get (v := .int (w.f 4)) rfl rfl rfl ?_
    refine Sp.vr (some (.int (p_node (nd hd) (t hd) (l hd) (w.f 4)))) (mw (w)) (k' := 17) (F' := 0) (N' := 0) (C' := 0) (S' := 0) (vs := [.int (w.f 4)]) (st := []) rfl (hc.1 hd hh).2.1 rfl rfl (Nat.le_of_ble_eq_true rfl) (Nat.le_of_ble_eq_true rfl) (by decide) (by decide) (Nat.zero_le _) (Nat.zero_le _) (fun Q' h => p_nodeFor h0 hl he (hc.1 hd hh).2.1 (hc.1 hd hh).2.2.1 h) ?_
    refine Sp.go 1 (g := (34, [(2, .ref (q hd + 23)), (0, .ref 0), (1, .int (nI hd))], [.int (p_node (nd hd) (t hd) (l hd) (w.f 4))])) rfl ?_
    refine Sp.iret rfl (Or.inl rfl) ?_
    rw [if_pos (Classical.not_not.mp h1)] at hq; exact hq
theorem r_where_out {X : mX} {C S : Nat} {Q : Outcome → mM → Prop} {w : mWd} {x : Int32} (hx : x < 0 ∨ w.f 3 ≤ x) (hq : Q (.returned (some (.int (-1)))) (mw w)) : Sp X 36 1 21 C S (0, [(0, .ref 0), (1, .int (x))], []) (mw w) Q := by
  refine Sp.go 2 (g := (2, [(0, .ref 0), (1, .int (x))], [.int (x), .ref 0])) rfl ?_
  refine Sp.vr (some (.null)) (mw (w)) (k' := 45) (F' := 0) (N' := 0) (C' := 0) (S' := 0) (vs := [.int (x)]) (st := []) rfl rfl rfl rfl (Nat.le_of_ble_eq_true rfl) (Nat.le_of_ble_eq_true rfl) (by decide) (by decide) (Nat.zero_le _) (Nat.zero_le _) (fun Q' h => r_parcelOf_out hx h) ?_
  refine Sp.go 4 (g := (34, [(2, .null), (0, .ref 0), (1, .int (x))], [.int (-1)])) rfl ?_
  refine Sp.iret rfl (Or.inl rfl) ?_
  exact hq
theorem r_arrival_in {X : mX} {C S : Nat} {Q : Outcome → mM → Prop} {w : mWd} {P hd : Nat} {q : Nat → Nat} {g t l f : Nat → Int32} {nd : Nat → Nat → Int32} (hP : w.f 3 = nI P) (h32 : P ≤ 32) (hh : hd < P) (hc : c_P w P q g t l f nd) (hq : Q (.returned (some (.int (if f hd = 0 then l hd else -1)))) (mw w)) : Sp X 37 1 21 C S (0, [(0, .ref 0), (1, .int (nI hd))], []) (mw w) Q := by
  refine Sp.go 2 (g := (2, [(0, .ref 0), (1, .int (nI hd))], [.int (nI hd), .ref 0])) rfl ?_
  refine Sp.vr (some (.ref (q hd + 23))) (mw (w)) (k' := 45) (F' := 0) (N' := 0) (C' := 0) (S' := 0) (vs := [.int (nI hd)]) (st := []) rfl rfl rfl rfl (Nat.le_of_ble_eq_true rfl) (Nat.le_of_ble_eq_true rfl) (by decide) (by decide) (Nat.zero_le _) (Nat.zero_le _) (fun Q' h => r_parcelOf_in hP h32 hh (hc.1 hd hh).1 h) ?_
  refine Sp.go 4 (g := (11, [(2, .ref (q hd + 23)), (0, .ref 0), (1, .int (nI hd))], [.ref (q hd + 23)])) rfl ?_
  refine Sp.get (v := .int (f hd)) rfl (hc.1 hd hh).2.1 rfl ?_
  refine Sp.if rfl (fun (h1 : ¬ (f hd : Int32) = (0 : Int32)) => ?_) (fun (h1 : ¬ (¬ (f hd : Int32) = (0 : Int32))) => ?_)
  · skip
    refine Sp.go 1 (g := (25, [(2, .ref (q hd + 23)), (0, .ref 0), (1, .int (nI hd))], [.int (-1)])) rfl ?_
    refine Sp.iret rfl (Or.inl rfl) ?_
    rw [if_neg h1] at hq; exact hq
  · skip
    refine Sp.go 1 (g := (18, [(2, .ref (q hd + 23)), (0, .ref 0), (1, .int (nI hd))], [.ref (q hd + 23)])) rfl ?_
    refine Sp.get (v := .int (l hd)) rfl (hc.1 hd hh).2.1 rfl ?_
    refine Sp.go 1 (g := (25, [(2, .ref (q hd + 23)), (0, .ref 0), (1, .int (nI hd))], [.int (l hd)])) rfl ?_
    refine Sp.iret rfl (Or.inl rfl) ?_
    rw [if_pos (Classical.not_not.mp h1)] at hq; exact hq
theorem r_arrival_out {X : mX} {C S : Nat} {Q : Outcome → mM → Prop} {w : mWd} {x : Int32} (hx : x < 0 ∨ w.f 3 ≤ x) (hq : Q (.returned (some (.int (-1)))) (mw w)) : Sp X 37 1 21 C S (0, [(0, .ref 0), (1, .int (x))], []) (mw w) Q := by
  refine Sp.go 2 (g := (2, [(0, .ref 0), (1, .int (x))], [.int (x), .ref 0])) rfl ?_
  refine Sp.vr (some (.null)) (mw (w)) (k' := 45) (F' := 0) (N' := 0) (C' := 0) (S' := 0) (vs := [.int (x)]) (st := []) rfl rfl rfl rfl (Nat.le_of_ble_eq_true rfl) (Nat.le_of_ble_eq_true rfl) (by decide) (by decide) (Nat.zero_le _) (Nat.zero_le _) (fun Q' h => r_parcelOf_out hx h) ?_
  refine Sp.go 4 (g := (25, [(2, .null), (0, .ref 0), (1, .int (x))], [.int (-1)])) rfl ?_
  refine Sp.iret rfl (Or.inl rfl) ?_
  exact hq
theorem r_step_in {X : mX} {C S : Nat} {Q : Outcome → mM → Prop} {w : mWd} {P hd : Nat} {q : Nat → Nat} {g t l f : Nat → Int32} {nd : Nat → Nat → Int32} (hP : w.f 3 = nI P) (h32 : P ≤ 32) (hh : hd < P) (hc : c_P w P q g t l f nd) (h0 : ¬ t hd < 0) {e : Nat} (hl : l hd ≤ nI e) (he : e < 65) {k : Int32} (hq : Q (.returned (some (.int (p_node (nd hd) (t hd) (l hd) k)))) (mw w)) : Sp X 38 1 21 C S (0, [(0, .ref 0), (1, .int (nI hd)), (2, .int (k))], []) (mw w) Q := by
  refine Sp.go 2 (g := (2, [(0, .ref 0), (1, .int (nI hd)), (2, .int (k))], [.int (nI hd), .ref 0])) rfl ?_
  refine Sp.vr (some (.ref (q hd + 23))) (mw (w)) (k' := 45) (F' := 0) (N' := 0) (C' := 0) (S' := 0) (vs := [.int (nI hd)]) (st := []) rfl rfl rfl rfl (Nat.le_of_ble_eq_true rfl) (Nat.le_of_ble_eq_true rfl) (by decide) (by decide) (Nat.zero_le _) (Nat.zero_le _) (fun Q' h => r_parcelOf_in hP h32 hh (hc.1 hd hh).1 h) ?_
  refine Sp.go 5 (g := (16, [(3, .ref (q hd + 23)), (0, .ref 0), (1, .int (nI hd)), (2, .int (k))], [.int (k), .ref (q hd + 23)])) rfl ?_
  refine Sp.vr (some (.int (p_node (nd hd) (t hd) (l hd) (k)))) (mw (w)) (k' := 17) (F' := 0) (N' := 0) (C' := 0) (S' := 0) (vs := [.int (k)]) (st := []) rfl (hc.1 hd hh).2.1 rfl rfl (Nat.le_of_ble_eq_true rfl) (Nat.le_of_ble_eq_true rfl) (by decide) (by decide) (Nat.zero_le _) (Nat.zero_le _) (fun Q' h => p_nodeFor h0 hl he (hc.1 hd hh).2.1 (hc.1 hd hh).2.2.1 h) ?_
  refine Sp.iret rfl (Or.inl rfl) ?_
  exact hq
theorem r_step_out {X : mX} {C S : Nat} {Q : Outcome → mM → Prop} {w : mWd} {x k : Int32} (hx : x < 0 ∨ w.f 3 ≤ x) (hq : Q (.returned (some (.int (-1)))) (mw w)) : Sp X 38 1 21 C S (0, [(0, .ref 0), (1, .int (x)), (2, .int (k))], []) (mw w) Q := by
  refine Sp.go 2 (g := (2, [(0, .ref 0), (1, .int (x)), (2, .int (k))], [.int (x), .ref 0])) rfl ?_
  refine Sp.vr (some (.null)) (mw (w)) (k' := 45) (F' := 0) (N' := 0) (C' := 0) (S' := 0) (vs := [.int (x)]) (st := []) rfl rfl rfl rfl (Nat.le_of_ble_eq_true rfl) (Nat.le_of_ble_eq_true rfl) (by decide) (by decide) (Nat.zero_le _) (Nat.zero_le _) (fun Q' h => r_parcelOf_out hx h) ?_
  refine Sp.go 5 (g := (19, [(3, .null), (0, .ref 0), (1, .int (x)), (2, .int (k))], [.int (-1)])) rfl ?_
  refine Sp.iret rfl (Or.inl rfl) ?_
  exact hq
theorem r_tick_nI {t : Nat} (h : t < 64) : r_tick (nI t) = true := by
  simp only [r_tick, Bool.and_eq_true, Bool.not_eq_true', decide_eq_false_iff_not, decide_eq_true_eq]
  exact ⟨nI_pos (by omega), (nI_lt' (b := 64) (by omega) (by omega)).mpr h⟩
theorem r_linkUsed_in {X : mX} {C S : Nat} {Q : Outcome → mM → Prop} {w : mWd} {a b t : Nat} (ha : a < 8) (hb : b < 8) (ht : t < 64) (hp : n_pair (w.f 2) (nI a) (nI b) = true) (hq : Q (.returned (some (.int (m_b2 (bt (w.a 4 (t * 8 + a)) b))))) (mw w)) : Sp X 39 3 64 C S (0, [(0, .ref 0), (1, .int (nI a)), (2, .int (nI b)), (3, .int (nI t))], []) (mw w) Q := by
  refine Sp.go 1 (g := (1, [(0, .ref 0), (1, .int (nI a)), (2, .int (nI b)), (3, .int (nI t))], [.ref 0])) rfl ?_
  refine Sp.get (v := .ref 1) rfl rfl rfl ?_
  refine Sp.go 2 (g := (6, [(0, .ref 0), (1, .int (nI a)), (2, .int (nI b)), (3, .int (nI t))], [.int (nI b), .int (nI a), .ref 1])) rfl ?_
  refine Sp.vr (some (.int (m_b2 (n_pair (w.f 2) (nI a) (nI b))))) (mw (w)) (k' := 3) (F' := 2) (N' := 42) (C' := 0) (S' := 0) (vs := [.int (nI a), .int (nI b)]) (st := []) rfl rfl rfl rfl (Nat.le_of_ble_eq_true rfl) (Nat.le_of_ble_eq_true rfl) (by decide) (by decide) (Nat.zero_le _) (Nat.zero_le _) (fun Q' h => n_isPair h) ?_
  refine Sp.ifb rfl (fun u1 => absurd u1 (by rw [hp]; decide)) (fun u1 => ?_)
  refine Sp.go 1 (g := (13, [(0, .ref 0), (1, .int (nI a)), (2, .int (nI b)), (3, .int (nI t))], [.int (nI t)])) rfl ?_
  refine Sp.sr (some (.int (m_b2 (r_tick (nI t))))) (mw (w)) (k' := 43) (F' := 0) (N' := 0) (C' := 0) (S' := 0) (vs := [.int (nI t)]) (st := []) rfl (by decide) rfl (Nat.le_of_ble_eq_true rfl) (Nat.le_of_ble_eq_true rfl) (by decide) (by decide) (Nat.zero_le _) (Nat.zero_le _) (fun Q' h => r_isTick h) ?_
  refine Sp.ifb rfl (fun u2 => absurd u2 (by rw [r_tick_nI ht]; decide)) (fun u2 => ?_)
  refine Sp.go 1 (g := (20, [(0, .ref 0), (1, .int (nI a)), (2, .int (nI b)), (3, .int (nI t))], [.ref 0])) rfl ?_
  refine Sp.get (v := .ref 1) rfl rfl rfl ?_
  refine Sp.go 3 (g := (26, [(0, .ref 0), (1, .int (nI a)), (2, .int (nI b)), (3, .int (nI t))], [.int (nI t), .int (nI b), .int (nI a), .ref 1])) rfl ?_
  refine Sp.vr (some (.int (m_b2 (bt (w.a 4 (t * 8 + a)) b)))) (mw (w)) (k' := 8) (F' := 1) (N' := 21) (C' := 0) (S' := 0) (vs := [.int (nI a), .int (nI b), .int (nI t)]) (st := []) rfl rfl rfl rfl (Nat.le_of_ble_eq_true rfl) (Nat.le_of_ble_eq_true rfl) (by decide) (by decide) (Nat.zero_le _) (Nat.zero_le _) (fun Q' h => n_usersOfLink (by omega) (by omega) (by omega) h) ?_
  refine Sp.go 1 (g := (33, [(0, .ref 0), (1, .int (nI a)), (2, .int (nI b)), (3, .int (nI t))], [.int (m_b2 (bt (w.a 4 (t * 8 + a)) b))])) rfl ?_
  refine Sp.iret rfl (Or.inl rfl) ?_
  exact hq
theorem r_open1 {X : mX} {C S : Nat} {Q : Outcome → mM → Prop} {w : mWd} {a b t : Nat} (ha : a < 8) (hb : b < 8) (ht : t < 64) (hq : Q (.returned (some (.int (m_b2 (bt (w.a 3 (t * 8 + a)) b))))) (mw w)) : Sp X 5 1 21 C S (0, [(0, .ref 1), (1, .int (nI a)), (2, .int (nI b)), (3, .int (nI t)), (4, .int (nI t + 1))], []) (mw w) Q := by
  rw [← nI_succ]
  refine n_isOpenWithin ha hb (by omega) (by omega) ?_
  rw [show t + 1 - t = 1 by omega]
  simpa only [m_any, Bool.or_false] using hq
theorem r_open_in {X : mX} {C S : Nat} {Q : Outcome → mM → Prop} {w : mWd} {a b t : Nat} (ha : a < 8) (hb : b < 8) (ht : t < 64) (hp : n_pair (w.f 2) (nI a) (nI b) = true) (hq : Q (.returned (some (.int (m_b2 (bt (w.a 3 (t * 8 + a)) b))))) (mw w)) : Sp X 41 3 64 C S (0, [(0, .ref 0), (1, .int (nI a)), (2, .int (nI b)), (3, .int (nI t))], []) (mw w) Q := by
  refine Sp.go 1 (g := (1, [(0, .ref 0), (1, .int (nI a)), (2, .int (nI b)), (3, .int (nI t))], [.ref 0])) rfl ?_
  refine Sp.get (v := .ref 1) rfl rfl rfl ?_
  refine Sp.go 2 (g := (6, [(0, .ref 0), (1, .int (nI a)), (2, .int (nI b)), (3, .int (nI t))], [.int (nI b), .int (nI a), .ref 1])) rfl ?_
  refine Sp.vr (some (.int (m_b2 (n_pair (w.f 2) (nI a) (nI b))))) (mw (w)) (k' := 3) (F' := 2) (N' := 42) (C' := 0) (S' := 0) (vs := [.int (nI a), .int (nI b)]) (st := []) rfl rfl rfl rfl (Nat.le_of_ble_eq_true rfl) (Nat.le_of_ble_eq_true rfl) (by decide) (by decide) (Nat.zero_le _) (Nat.zero_le _) (fun Q' h => n_isPair h) ?_
  refine Sp.ifb rfl (fun u1 => absurd u1 (by rw [hp]; decide)) (fun u1 => ?_)
  refine Sp.go 1 (g := (13, [(0, .ref 0), (1, .int (nI a)), (2, .int (nI b)), (3, .int (nI t))], [.int (nI t)])) rfl ?_
  refine Sp.sr (some (.int (m_b2 (r_tick (nI t))))) (mw (w)) (k' := 43) (F' := 0) (N' := 0) (C' := 0) (S' := 0) (vs := [.int (nI t)]) (st := []) rfl (by decide) rfl (Nat.le_of_ble_eq_true rfl) (Nat.le_of_ble_eq_true rfl) (by decide) (by decide) (Nat.zero_le _) (Nat.zero_le _) (fun Q' h => r_isTick h) ?_
  refine Sp.ifb rfl (fun u2 => absurd u2 (by rw [r_tick_nI ht]; decide)) (fun u2 => ?_)
  refine Sp.go 1 (g := (20, [(0, .ref 0), (1, .int (nI a)), (2, .int (nI b)), (3, .int (nI t))], [.ref 0])) rfl ?_
  refine Sp.get (v := .ref 1) rfl rfl rfl ?_
  refine Sp.go 6 (g := (29, [(0, .ref 0), (1, .int (nI a)), (2, .int (nI b)), (3, .int (nI t))], [.int ((nI t) + 1), .int (nI t), .int (nI b), .int (nI a), .ref 1])) rfl ?_
  refine Sp.vr (some (.int (m_b2 (bt (w.a 3 (t * 8 + a)) b)))) (mw (w)) (k' := 5) (F' := 1) (N' := 21) (C' := 0) (S' := 0) (vs := [.int (nI a), .int (nI b), .int (nI t), .int ((nI t) + 1)]) (st := []) rfl rfl rfl rfl (Nat.le_of_ble_eq_true rfl) (Nat.le_of_ble_eq_true rfl) (by decide) (by decide) (Nat.zero_le _) (Nat.zero_le _) (fun Q' h => r_open1 (by omega) (by omega) (by omega) h) ?_
  refine Sp.ifb rfl (fun h3 => ?_) (fun h3 => ?_)
  · skip
    refine Sp.go 1 (g := (40, [(0, .ref 0), (1, .int (nI a)), (2, .int (nI b)), (3, .int (nI t))], [.int 0])) rfl ?_
    refine Sp.iret rfl (Or.inr ⟨rfl, Or.inl rfl⟩) ?_
    rw [h3] at hq; exact hq
  · skip
    refine Sp.go 2 (g := (40, [(0, .ref 0), (1, .int (nI a)), (2, .int (nI b)), (3, .int (nI t))], [.int 1])) rfl ?_
    refine Sp.iret rfl (Or.inr ⟨rfl, Or.inr rfl⟩) ?_
    rw [h3] at hq; exact hq
theorem r_linkUsed_out {X : mX} {C S : Nat} {Q : Outcome → mM → Prop} {w : mWd} {x y z : Int32} (hn : n_pair (w.f 2) x y = false ∨ r_tick z = false) (hq : Q (.returned (some (.int 0))) (mw w)) : Sp X 39 3 64 C S (0, [(0, .ref 0), (1, .int (x)), (2, .int (y)), (3, .int (z))], []) (mw w) Q := by
  cases hp : n_pair (w.f 2) x y with
  | false =>
    refine Sp.go 1 (g := (1, [(0, .ref 0), (1, .int (x)), (2, .int (y)), (3, .int (z))], [.ref 0])) rfl ?_
    refine Sp.get (v := .ref 1) rfl rfl rfl ?_
    refine Sp.go 2 (g := (6, [(0, .ref 0), (1, .int (x)), (2, .int (y)), (3, .int (z))], [.int (y), .int (x), .ref 1])) rfl ?_
    refine Sp.vr (some (.int (m_b2 (n_pair (w.f 2) (x) (y))))) (mw (w)) (k' := 3) (F' := 2) (N' := 42) (C' := 0) (S' := 0) (vs := [.int (x), .int (y)]) (st := []) rfl rfl rfl rfl (Nat.le_of_ble_eq_true rfl) (Nat.le_of_ble_eq_true rfl) (by decide) (by decide) (Nat.zero_le _) (Nat.zero_le _) (fun Q' h => n_isPair h) ?_
    refine Sp.ifb rfl (fun u1 => ?_) (fun u1 => absurd u1 (by rw [hp]; decide))
    refine Sp.go 1 (g := (33, [(0, .ref 0), (1, .int (x)), (2, .int (y)), (3, .int (z))], [.int 0])) rfl ?_
    refine Sp.iret rfl (Or.inl rfl) ?_
    exact hq
  | true =>
    have ht : r_tick z = false := hn.resolve_left (by rw [hp]; decide)
    refine Sp.go 1 (g := (1, [(0, .ref 0), (1, .int (x)), (2, .int (y)), (3, .int (z))], [.ref 0])) rfl ?_
    refine Sp.get (v := .ref 1) rfl rfl rfl ?_
    refine Sp.go 2 (g := (6, [(0, .ref 0), (1, .int (x)), (2, .int (y)), (3, .int (z))], [.int (y), .int (x), .ref 1])) rfl ?_
    refine Sp.vr (some (.int (m_b2 (n_pair (w.f 2) (x) (y))))) (mw (w)) (k' := 3) (F' := 2) (N' := 42) (C' := 0) (S' := 0) (vs := [.int (x), .int (y)]) (st := []) rfl rfl rfl rfl (Nat.le_of_ble_eq_true rfl) (Nat.le_of_ble_eq_true rfl) (by decide) (by decide) (Nat.zero_le _) (Nat.zero_le _) (fun Q' h => n_isPair h) ?_
    refine Sp.ifb rfl (fun u1 => absurd u1 (by rw [hp]; decide)) (fun u1 => ?_)
    refine Sp.go 1 (g := (13, [(0, .ref 0), (1, .int (x)), (2, .int (y)), (3, .int (z))], [.int (z)])) rfl ?_
    refine Sp.sr (some (.int (m_b2 (r_tick (z))))) (mw (w)) (k' := 43) (F' := 0) (N' := 0) (C' := 0) (S' := 0) (vs := [.int (z)]) (st := []) rfl (by decide) rfl (Nat.le_of_ble_eq_true rfl) (Nat.le_of_ble_eq_true rfl) (by decide) (by decide) (Nat.zero_le _) (Nat.zero_le _) (fun Q' h => r_isTick h) ?_
    refine Sp.ifb rfl (fun u2 => ?_) (fun u2 => absurd u2 (by rw [ht]; decide))
    refine Sp.go 1 (g := (33, [(0, .ref 0), (1, .int (x)), (2, .int (y)), (3, .int (z))], [.int 0])) rfl ?_
    refine Sp.iret rfl (Or.inl rfl) ?_
    exact hq
theorem r_open_out {X : mX} {C S : Nat} {Q : Outcome → mM → Prop} {w : mWd} {x y z : Int32} (hn : n_pair (w.f 2) x y = false ∨ r_tick z = false) (hq : Q (.returned (some (.int 0))) (mw w)) : Sp X 41 3 64 C S (0, [(0, .ref 0), (1, .int (x)), (2, .int (y)), (3, .int (z))], []) (mw w) Q := by
  cases hp : n_pair (w.f 2) x y with
  | false =>
    refine Sp.go 1 (g := (1, [(0, .ref 0), (1, .int (x)), (2, .int (y)), (3, .int (z))], [.ref 0])) rfl ?_
    refine Sp.get (v := .ref 1) rfl rfl rfl ?_
    refine Sp.go 2 (g := (6, [(0, .ref 0), (1, .int (x)), (2, .int (y)), (3, .int (z))], [.int (y), .int (x), .ref 1])) rfl ?_
    refine Sp.vr (some (.int (m_b2 (n_pair (w.f 2) (x) (y))))) (mw (w)) (k' := 3) (F' := 2) (N' := 42) (C' := 0) (S' := 0) (vs := [.int (x), .int (y)]) (st := []) rfl rfl rfl rfl (Nat.le_of_ble_eq_true rfl) (Nat.le_of_ble_eq_true rfl) (by decide) (by decide) (Nat.zero_le _) (Nat.zero_le _) (fun Q' h => n_isPair h) ?_
    refine Sp.ifb rfl (fun u1 => ?_) (fun u1 => absurd u1 (by rw [hp]; decide))
    refine Sp.go 1 (g := (40, [(0, .ref 0), (1, .int (x)), (2, .int (y)), (3, .int (z))], [.int 0])) rfl ?_
    refine Sp.iret rfl (Or.inr ⟨rfl, Or.inl rfl⟩) ?_
    exact hq
  | true =>
    have ht : r_tick z = false := hn.resolve_left (by rw [hp]; decide)
    refine Sp.go 1 (g := (1, [(0, .ref 0), (1, .int (x)), (2, .int (y)), (3, .int (z))], [.ref 0])) rfl ?_
    refine Sp.get (v := .ref 1) rfl rfl rfl ?_
    refine Sp.go 2 (g := (6, [(0, .ref 0), (1, .int (x)), (2, .int (y)), (3, .int (z))], [.int (y), .int (x), .ref 1])) rfl ?_
    refine Sp.vr (some (.int (m_b2 (n_pair (w.f 2) (x) (y))))) (mw (w)) (k' := 3) (F' := 2) (N' := 42) (C' := 0) (S' := 0) (vs := [.int (x), .int (y)]) (st := []) rfl rfl rfl rfl (Nat.le_of_ble_eq_true rfl) (Nat.le_of_ble_eq_true rfl) (by decide) (by decide) (Nat.zero_le _) (Nat.zero_le _) (fun Q' h => n_isPair h) ?_
    refine Sp.ifb rfl (fun u1 => absurd u1 (by rw [hp]; decide)) (fun u1 => ?_)
    refine Sp.go 1 (g := (13, [(0, .ref 0), (1, .int (x)), (2, .int (y)), (3, .int (z))], [.int (z)])) rfl ?_
    refine Sp.sr (some (.int (m_b2 (r_tick (z))))) (mw (w)) (k' := 43) (F' := 0) (N' := 0) (C' := 0) (S' := 0) (vs := [.int (z)]) (st := []) rfl (by decide) rfl (Nat.le_of_ble_eq_true rfl) (Nat.le_of_ble_eq_true rfl) (by decide) (by decide) (Nat.zero_le _) (Nat.zero_le _) (fun Q' h => r_isTick h) ?_
    refine Sp.ifb rfl (fun u2 => ?_) (fun u2 => absurd u2 (by rw [ht]; decide))
    refine Sp.go 1 (g := (40, [(0, .ref 0), (1, .int (x)), (2, .int (y)), (3, .int (z))], [.int 0])) rfl ?_
    refine Sp.iret rfl (Or.inr ⟨rfl, Or.inl rfl⟩) ?_
    exact hq
theorem r_stored_in {X : mX} {C S : Nat} {Q : Outcome → mM → Prop} {w : mWd} {a t : Nat} (ha : a < 8) (ht : t < 64) (hp : n_is (w.f 2) (nI a) = true) (hq : Q (.returned (some (.int (w.a 5 (t * 8 + a))))) (mw w)) : Sp X 40 2 43 C S (0, [(0, .ref 0), (1, .int (nI a)), (2, .int (nI t))], []) (mw w) Q := by
  refine Sp.go 1 (g := (1, [(0, .ref 0), (1, .int (nI a)), (2, .int (nI t))], [.ref 0])) rfl ?_
  refine Sp.get (v := .ref 1) rfl rfl rfl ?_
  refine Sp.go 1 (g := (5, [(0, .ref 0), (1, .int (nI a)), (2, .int (nI t))], [.int (nI a), .ref 1])) rfl ?_
  refine Sp.vr (some (.int (m_b2 (n_is (w.f 2) (nI a))))) (mw (w)) (k' := 2) (F' := 1) (N' := 21) (C' := 0) (S' := 0) (vs := [.int (nI a)]) (st := []) rfl rfl rfl rfl (Nat.le_of_ble_eq_true rfl) (Nat.le_of_ble_eq_true rfl) (by decide) (by decide) (Nat.zero_le _) (Nat.zero_le _) (fun Q' h => n_isNode h) ?_
  refine Sp.ifb rfl (fun u1 => absurd u1 (by rw [hp]; decide)) (fun u1 => ?_)
  refine Sp.go 1 (g := (12, [(0, .ref 0), (1, .int (nI a)), (2, .int (nI t))], [.int (nI t)])) rfl ?_
  refine Sp.sr (some (.int (m_b2 (r_tick (nI t))))) (mw (w)) (k' := 43) (F' := 0) (N' := 0) (C' := 0) (S' := 0) (vs := [.int (nI t)]) (st := []) rfl (by decide) rfl (Nat.le_of_ble_eq_true rfl) (Nat.le_of_ble_eq_true rfl) (by decide) (by decide) (Nat.zero_le _) (Nat.zero_le _) (fun Q' h => r_isTick h) ?_
  refine Sp.ifb rfl (fun u2 => absurd u2 (by rw [r_tick_nI ht]; decide)) (fun u2 => ?_)
  refine Sp.go 1 (g := (19, [(0, .ref 0), (1, .int (nI a)), (2, .int (nI t))], [.ref 0])) rfl ?_
  refine Sp.get (v := .ref 1) rfl rfl rfl ?_
  refine Sp.go 2 (g := (24, [(0, .ref 0), (1, .int (nI a)), (2, .int (nI t))], [.int (nI t), .int (nI a), .ref 1])) rfl ?_
  refine Sp.vr (some (.int (w.a 5 (t * 8 + a)))) (mw (w)) (k' := 9) (F' := 1) (N' := 21) (C' := 0) (S' := 0) (vs := [.int (nI a), .int (nI t)]) (st := []) rfl rfl rfl rfl (Nat.le_of_ble_eq_true rfl) (Nat.le_of_ble_eq_true rfl) (by decide) (by decide) (Nat.zero_le _) (Nat.zero_le _) (fun Q' h => n_usersOfPlaces (by omega) (by omega) h) ?_
  refine Sp.go 1 (g := (31, [(0, .ref 0), (1, .int (nI a)), (2, .int (nI t))], [.int (w.a 5 (t * 8 + a))])) rfl ?_
  refine Sp.iret rfl (Or.inl rfl) ?_
  exact hq
theorem r_free_in {X : mX} {C S : Nat} {Q : Outcome → mM → Prop} {w : mWd} {a t : Nat} (ha : a < 8) (ht : t < 64) (hp : n_is (w.f 2) (nI a) = true) (hq : Q (.returned (some (.int (w.a 2 a - w.a 5 (t * 8 + a))))) (mw w)) : Sp X 42 2 43 C S (0, [(0, .ref 0), (1, .int (nI a)), (2, .int (nI t))], []) (mw w) Q := by
  refine Sp.go 1 (g := (1, [(0, .ref 0), (1, .int (nI a)), (2, .int (nI t))], [.ref 0])) rfl ?_
  refine Sp.get (v := .ref 1) rfl rfl rfl ?_
  refine Sp.go 1 (g := (5, [(0, .ref 0), (1, .int (nI a)), (2, .int (nI t))], [.int (nI a), .ref 1])) rfl ?_
  refine Sp.vr (some (.int (m_b2 (n_is (w.f 2) (nI a))))) (mw (w)) (k' := 2) (F' := 1) (N' := 21) (C' := 0) (S' := 0) (vs := [.int (nI a)]) (st := []) rfl rfl rfl rfl (Nat.le_of_ble_eq_true rfl) (Nat.le_of_ble_eq_true rfl) (by decide) (by decide) (Nat.zero_le _) (Nat.zero_le _) (fun Q' h => n_isNode h) ?_
  refine Sp.ifb rfl (fun u1 => absurd u1 (by rw [hp]; decide)) (fun u1 => ?_)
  refine Sp.go 1 (g := (12, [(0, .ref 0), (1, .int (nI a)), (2, .int (nI t))], [.int (nI t)])) rfl ?_
  refine Sp.sr (some (.int (m_b2 (r_tick (nI t))))) (mw (w)) (k' := 43) (F' := 0) (N' := 0) (C' := 0) (S' := 0) (vs := [.int (nI t)]) (st := []) rfl (by decide) rfl (Nat.le_of_ble_eq_true rfl) (Nat.le_of_ble_eq_true rfl) (by decide) (by decide) (Nat.zero_le _) (Nat.zero_le _) (fun Q' h => r_isTick h) ?_
  refine Sp.ifb rfl (fun u2 => absurd u2 (by rw [r_tick_nI ht]; decide)) (fun u2 => ?_)
  refine Sp.go 1 (g := (19, [(0, .ref 0), (1, .int (nI a)), (2, .int (nI t))], [.ref 0])) rfl ?_
  refine Sp.get (v := .ref 1) rfl rfl rfl ?_
  refine Sp.go 2 (g := (24, [(0, .ref 0), (1, .int (nI a)), (2, .int (nI t))], [.int (nI t), .int (nI a), .ref 1])) rfl ?_
  refine Sp.vr (some (.int (w.a 2 a - w.a 5 (t * 8 + a)))) (mw (w)) (k' := 10) (F' := 1) (N' := 21) (C' := 0) (S' := 0) (vs := [.int (nI a), .int (nI t)]) (st := []) rfl rfl rfl rfl (Nat.le_of_ble_eq_true rfl) (Nat.le_of_ble_eq_true rfl) (by decide) (by decide) (Nat.zero_le _) (Nat.zero_le _) (fun Q' h => n_placesLeft (by omega) (by omega) h) ?_
  refine Sp.go 1 (g := (31, [(0, .ref 0), (1, .int (nI a)), (2, .int (nI t))], [.int (w.a 2 a - w.a 5 (t * 8 + a))])) rfl ?_
  refine Sp.iret rfl (Or.inl rfl) ?_
  exact hq
theorem r_stored_out {X : mX} {C S : Nat} {Q : Outcome → mM → Prop} {w : mWd} {x z : Int32} (hn : n_is (w.f 2) x = false ∨ r_tick z = false) (hq : Q (.returned (some (.int 0))) (mw w)) : Sp X 40 2 43 C S (0, [(0, .ref 0), (1, .int (x)), (2, .int (z))], []) (mw w) Q := by
  cases hp : n_is (w.f 2) x with
  | false =>
    refine Sp.go 1 (g := (1, [(0, .ref 0), (1, .int (x)), (2, .int (z))], [.ref 0])) rfl ?_
    refine Sp.get (v := .ref 1) rfl rfl rfl ?_
    refine Sp.go 1 (g := (5, [(0, .ref 0), (1, .int (x)), (2, .int (z))], [.int (x), .ref 1])) rfl ?_
    refine Sp.vr (some (.int (m_b2 (n_is (w.f 2) x)))) (mw (w)) (k' := 2) (F' := 1) (N' := 21) (C' := 0) (S' := 0) (vs := [.int (x)]) (st := []) rfl rfl rfl rfl (Nat.le_of_ble_eq_true rfl) (Nat.le_of_ble_eq_true rfl) (by decide) (by decide) (Nat.zero_le _) (Nat.zero_le _) (fun Q' h => n_isNode h) ?_
    refine Sp.ifb rfl (fun u1 => ?_) (fun u1 => absurd u1 (by rw [hp]; decide))
    refine Sp.go 1 (g := (31, [(0, .ref 0), (1, .int (x)), (2, .int (z))], [.int 0])) rfl ?_
    refine Sp.iret rfl (Or.inl rfl) ?_
    exact hq
  | true =>
    have ht : r_tick z = false := hn.resolve_left (by rw [hp]; decide)
    refine Sp.go 1 (g := (1, [(0, .ref 0), (1, .int (x)), (2, .int (z))], [.ref 0])) rfl ?_
    refine Sp.get (v := .ref 1) rfl rfl rfl ?_
    refine Sp.go 1 (g := (5, [(0, .ref 0), (1, .int (x)), (2, .int (z))], [.int (x), .ref 1])) rfl ?_
    refine Sp.vr (some (.int (m_b2 (n_is (w.f 2) x)))) (mw (w)) (k' := 2) (F' := 1) (N' := 21) (C' := 0) (S' := 0) (vs := [.int (x)]) (st := []) rfl rfl rfl rfl (Nat.le_of_ble_eq_true rfl) (Nat.le_of_ble_eq_true rfl) (by decide) (by decide) (Nat.zero_le _) (Nat.zero_le _) (fun Q' h => n_isNode h) ?_
    refine Sp.ifb rfl (fun u1 => absurd u1 (by rw [hp]; decide)) (fun u1 => ?_)
    refine Sp.go 1 (g := (12, [(0, .ref 0), (1, .int (x)), (2, .int (z))], [.int (z)])) rfl ?_
    refine Sp.sr (some (.int (m_b2 (r_tick (z))))) (mw (w)) (k' := 43) (F' := 0) (N' := 0) (C' := 0) (S' := 0) (vs := [.int (z)]) (st := []) rfl (by decide) rfl (Nat.le_of_ble_eq_true rfl) (Nat.le_of_ble_eq_true rfl) (by decide) (by decide) (Nat.zero_le _) (Nat.zero_le _) (fun Q' h => r_isTick h) ?_
    refine Sp.ifb rfl (fun u2 => ?_) (fun u2 => absurd u2 (by rw [ht]; decide))
    refine Sp.go 1 (g := (31, [(0, .ref 0), (1, .int (x)), (2, .int (z))], [.int 0])) rfl ?_
    refine Sp.iret rfl (Or.inl rfl) ?_
    exact hq
theorem r_free_out {X : mX} {C S : Nat} {Q : Outcome → mM → Prop} {w : mWd} {x z : Int32} (hn : n_is (w.f 2) x = false ∨ r_tick z = false) (hq : Q (.returned (some (.int (-1)))) (mw w)) : Sp X 42 2 43 C S (0, [(0, .ref 0), (1, .int (x)), (2, .int (z))], []) (mw w) Q := by
  cases hp : n_is (w.f 2) x with
  | false =>
    refine Sp.go 1 (g := (1, [(0, .ref 0), (1, .int (x)), (2, .int (z))], [.ref 0])) rfl ?_
    refine Sp.get (v := .ref 1) rfl rfl rfl ?_
    refine Sp.go 1 (g := (5, [(0, .ref 0), (1, .int (x)), (2, .int (z))], [.int (x), .ref 1])) rfl ?_
    refine Sp.vr (some (.int (m_b2 (n_is (w.f 2) x)))) (mw (w)) (k' := 2) (F' := 1) (N' := 21) (C' := 0) (S' := 0) (vs := [.int (x)]) (st := []) rfl rfl rfl rfl (Nat.le_of_ble_eq_true rfl) (Nat.le_of_ble_eq_true rfl) (by decide) (by decide) (Nat.zero_le _) (Nat.zero_le _) (fun Q' h => n_isNode h) ?_
    refine Sp.ifb rfl (fun u1 => ?_) (fun u1 => absurd u1 (by rw [hp]; decide))
    refine Sp.go 1 (g := (31, [(0, .ref 0), (1, .int (x)), (2, .int (z))], [.int (-1)])) rfl ?_
    refine Sp.iret rfl (Or.inl rfl) ?_
    exact hq
  | true =>
    have ht : r_tick z = false := hn.resolve_left (by rw [hp]; decide)
    refine Sp.go 1 (g := (1, [(0, .ref 0), (1, .int (x)), (2, .int (z))], [.ref 0])) rfl ?_
    refine Sp.get (v := .ref 1) rfl rfl rfl ?_
    refine Sp.go 1 (g := (5, [(0, .ref 0), (1, .int (x)), (2, .int (z))], [.int (x), .ref 1])) rfl ?_
    refine Sp.vr (some (.int (m_b2 (n_is (w.f 2) x)))) (mw (w)) (k' := 2) (F' := 1) (N' := 21) (C' := 0) (S' := 0) (vs := [.int (x)]) (st := []) rfl rfl rfl rfl (Nat.le_of_ble_eq_true rfl) (Nat.le_of_ble_eq_true rfl) (by decide) (by decide) (Nat.zero_le _) (Nat.zero_le _) (fun Q' h => n_isNode h) ?_
    refine Sp.ifb rfl (fun u1 => absurd u1 (by rw [hp]; decide)) (fun u1 => ?_)
    refine Sp.go 1 (g := (12, [(0, .ref 0), (1, .int (x)), (2, .int (z))], [.int (z)])) rfl ?_
    refine Sp.sr (some (.int (m_b2 (r_tick (z))))) (mw (w)) (k' := 43) (F' := 0) (N' := 0) (C' := 0) (S' := 0) (vs := [.int (z)]) (st := []) rfl (by decide) rfl (Nat.le_of_ble_eq_true rfl) (Nat.le_of_ble_eq_true rfl) (by decide) (by decide) (Nat.zero_le _) (Nat.zero_le _) (fun Q' h => r_isTick h) ?_
    refine Sp.ifb rfl (fun u2 => ?_) (fun u2 => absurd u2 (by rw [ht]; decide))
    refine Sp.go 1 (g := (31, [(0, .ref 0), (1, .int (x)), (2, .int (z))], [.int (-1)])) rfl ?_
    refine Sp.iret rfl (Or.inl rfl) ?_
    exact hq
