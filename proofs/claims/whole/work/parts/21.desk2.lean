/-! The desk: checks, node, contact, whatIf, tick. Rows laid by wip/gen/desk2.py. -/
theorem r_checkPair_ok {X : mX} {C S : Nat} {Q : Outcome → mM → Prop} {w : mWd} {x y : Int32} (hp : n_pair (w.f 2) x y = true) (hq : Q (.returned none) (mw w)) : Sp X 46 6 82 C S (0, [(0, .ref 0), (1, .int (x)), (2, .int (y))], []) (mw w) Q := by
  refine Sp.go 1 (g := (1, [(0, .ref 0), (1, .int (x)), (2, .int (y))], [.ref 0])) rfl ?_
  refine Sp.get (v := .ref 1) rfl rfl rfl ?_
  refine Sp.go 2 (g := (6, [(0, .ref 0), (1, .int (x)), (2, .int (y))], [.int (y), .int (x), .ref 1])) rfl ?_
  refine Sp.vr (some (.int (m_b2 (n_pair (w.f 2) (x) (y))))) (mw (w)) (k' := 3) (F' := 2) (N' := 42) (C' := 0) (S' := 0) (vs := [.int (x), .int (y)]) (st := []) rfl rfl rfl rfl (Nat.le_of_ble_eq_true rfl) (Nat.le_of_ble_eq_true rfl) (by decide) (by decide) (Nat.zero_le _) (Nat.zero_le _) (fun Q' h => n_isPair h) ?_
  refine Sp.ifbn rfl (fun u1 => ?_) (fun u1 => absurd u1 (by rw [hp]; decide))
  refine Sp.vret rfl rfl ?_
  exact hq
theorem r_checkPair_bad {X : mX} {C S : Nat} {Q : Outcome → mM → Prop} {w : mWd} {x y : Int32} (hp : n_pair (w.f 2) x y = false) (hC : 1 ≤ C) (hS : 6 ≤ S) (hx : 23 ≤ w.nx) (hq : Q (.threw 0) (mw (w.mk none 6))) : Sp X 46 6 82 C S (0, [(0, .ref 0), (1, .int (x)), (2, .int (y))], []) (mw w) Q := by
  refine Sp.go 1 (g := (1, [(0, .ref 0), (1, .int (x)), (2, .int (y))], [.ref 0])) rfl ?_
  refine Sp.get (v := .ref 1) rfl rfl rfl ?_
  refine Sp.go 2 (g := (6, [(0, .ref 0), (1, .int (x)), (2, .int (y))], [.int (y), .int (x), .ref 1])) rfl ?_
  refine Sp.vr (some (.int (m_b2 (n_pair (w.f 2) (x) (y))))) (mw (w)) (k' := 3) (F' := 2) (N' := 42) (C' := 0) (S' := 0) (vs := [.int (x), .int (y)]) (st := []) rfl rfl rfl rfl (Nat.le_of_ble_eq_true rfl) (Nat.le_of_ble_eq_true rfl) (by decide) (by decide) (Nat.zero_le _) (Nat.zero_le _) (fun Q' h => n_isPair h) ?_
  refine Sp.ifbn rfl (fun u1 => absurd u1 (by rw [hp]; decide)) (fun u1 => ?_)
  refine Sp.th rfl (by decide) (Nat.le_of_ble_eq_true rfl) hC hS rfl hx ?_
  exact hq
theorem r_checkBooking_b0 {X : mX} {C S : Nat} {Q : Outcome → mM → Prop} {w : mWd} {x y z : Int32} (hp : n_pair (w.f 2) x y = false) (hC : 1 ≤ C) (hS : 6 ≤ S) (hx : 23 ≤ w.nx) (hq : Q (.threw 0) (mw (w.mk none 6))) : Sp X 47 7 104 C S (0, [(0, .ref 0), (1, .int (x)), (2, .int (y)), (3, .int (z))], []) (mw w) Q := by
  refine Sp.go 3 (g := (3, [(0, .ref 0), (1, .int (x)), (2, .int (y)), (3, .int (z))], [.int (y), .int (x), .ref 0])) rfl ?_
  refine Sp.vt 0 (mw (w.mk none 6)) (k' := 46) (F' := 6) (N' := 82) (C' := 1) (S' := 6) (vs := [.int (x), .int (y)]) (st := []) rfl rfl rfl rfl (Nat.le_of_ble_eq_true rfl) (Nat.le_of_ble_eq_true rfl) (by decide) (by decide) hC hS (by decide) (fun Q' h => r_checkPair_bad hp (by decide) (by decide) hx h) (Or.inl ⟨rfl, ?_⟩)
  exact hq
theorem r_checkBooking_b1 {X : mX} {C S : Nat} {Q : Outcome → mM → Prop} {w : mWd} {x y z : Int32} (hp : n_pair (w.f 2) x y = true) (hz : z < w.f 4 ∨ 64 ≤ z) (hC : 1 ≤ C) (hS : 6 ≤ S) (hx : 23 ≤ w.nx) (hq : Q (.threw 0) (mw (w.mk none 6))) : Sp X 47 7 104 C S (0, [(0, .ref 0), (1, .int (x)), (2, .int (y)), (3, .int (z))], []) (mw w) Q := by
  by_cases hn : z < w.f 4
  · skip
    refine Sp.go 3 (g := (3, [(0, .ref 0), (1, .int (x)), (2, .int (y)), (3, .int (z))], [.int (y), .int (x), .ref 0])) rfl ?_
    refine Sp.vr none (mw (w)) (k' := 46) (F' := 6) (N' := 82) (C' := 0) (S' := 0) (vs := [.int (x), .int (y)]) (st := []) rfl rfl rfl rfl (Nat.le_of_ble_eq_true rfl) (Nat.le_of_ble_eq_true rfl) (by decide) (by decide) (Nat.zero_le _) (Nat.zero_le _) (fun Q' h => r_checkPair_ok hp h) ?_
    refine Sp.go 2 (g := (8, [(0, .ref 0), (1, .int (x)), (2, .int (y)), (3, .int (z))], [.ref 0, .int (z)])) rfl ?_
    refine Sp.get (v := .int (w.f 4)) rfl rfl rfl ?_
    refine Sp.icmp rfl (fun u1 => ?_) (fun u1 => absurd hn u1)
    refine Sp.th rfl (by decide) (Nat.le_of_ble_eq_true rfl) hC hS rfl hx ?_
    exact hq
  · skip
    refine Sp.go 3 (g := (3, [(0, .ref 0), (1, .int (x)), (2, .int (y)), (3, .int (z))], [.int (y), .int (x), .ref 0])) rfl ?_
    refine Sp.vr none (mw (w)) (k' := 46) (F' := 6) (N' := 82) (C' := 0) (S' := 0) (vs := [.int (x), .int (y)]) (st := []) rfl rfl rfl rfl (Nat.le_of_ble_eq_true rfl) (Nat.le_of_ble_eq_true rfl) (by decide) (by decide) (Nat.zero_le _) (Nat.zero_le _) (fun Q' h => r_checkPair_ok hp h) ?_
    refine Sp.go 2 (g := (8, [(0, .ref 0), (1, .int (x)), (2, .int (y)), (3, .int (z))], [.ref 0, .int (z)])) rfl ?_
    refine Sp.get (v := .int (w.f 4)) rfl rfl rfl ?_
    refine Sp.icmp rfl (fun u1 => absurd u1 hn) (fun u1 => ?_)
    refine Sp.go 2 (g := (17, [(0, .ref 0), (1, .int (x)), (2, .int (y)), (3, .int (z))], [.int 64, .int (z)])) rfl ?_
    refine Sp.icmp rfl (fun u2 => absurd u2 (k2_nlt (hz.resolve_left hn))) (fun u2 => ?_)
    refine Sp.th rfl (by decide) (Nat.le_of_ble_eq_true rfl) hC hS rfl hx ?_
    exact hq
theorem r_checkBooking_b2 {X : mX} {C S : Nat} {Q : Outcome → mM → Prop} {w : mWd} {x y z : Int32} (hp : n_pair (w.f 2) x y = true) (hn : ¬ z < w.f 4) (h64 : z < 64) (hg : (32 : Int32) ≤ w.f 3) (hC : 1 ≤ C) (hS : 6 ≤ S) (hx : 23 ≤ w.nx) (hq : Q (.threw 1) (mw (w.mk none 6))) : Sp X 47 7 104 C S (0, [(0, .ref 0), (1, .int (x)), (2, .int (y)), (3, .int (z))], []) (mw w) Q := by
  refine Sp.go 3 (g := (3, [(0, .ref 0), (1, .int (x)), (2, .int (y)), (3, .int (z))], [.int (y), .int (x), .ref 0])) rfl ?_
  refine Sp.vr none (mw (w)) (k' := 46) (F' := 6) (N' := 82) (C' := 0) (S' := 0) (vs := [.int (x), .int (y)]) (st := []) rfl rfl rfl rfl (Nat.le_of_ble_eq_true rfl) (Nat.le_of_ble_eq_true rfl) (by decide) (by decide) (Nat.zero_le _) (Nat.zero_le _) (fun Q' h => r_checkPair_ok hp h) ?_
  refine Sp.go 2 (g := (8, [(0, .ref 0), (1, .int (x)), (2, .int (y)), (3, .int (z))], [.ref 0, .int (z)])) rfl ?_
  refine Sp.get (v := .int (w.f 4)) rfl rfl rfl ?_
  refine Sp.icmp rfl (fun u1 => absurd u1 hn) (fun u1 => ?_)
  refine Sp.go 2 (g := (17, [(0, .ref 0), (1, .int (x)), (2, .int (y)), (3, .int (z))], [.int 64, .int (z)])) rfl ?_
  refine Sp.icmp rfl (fun u2 => ?_) (fun u2 => absurd h64 u2)
  refine Sp.go 1 (g := (31, [(0, .ref 0), (1, .int (x)), (2, .int (y)), (3, .int (z))], [.ref 0])) rfl ?_
  refine Sp.get (v := .int (w.f 3)) rfl rfl rfl ?_
  refine Sp.go 1 (g := (36, [(0, .ref 0), (1, .int (x)), (2, .int (y)), (3, .int (z))], [.int 32, .int (w.f 3)])) rfl ?_
  refine Sp.icmp rfl (fun u3 => absurd u3 (k2_nlt hg)) (fun u3 => ?_)
  refine Sp.th rfl (by decide) (Nat.le_of_ble_eq_true rfl) hC hS rfl hx ?_
  exact hq
theorem r_checkBooking_ok {X : mX} {C S : Nat} {Q : Outcome → mM → Prop} {w : mWd} {x y z : Int32} (hp : n_pair (w.f 2) x y = true) (hn : ¬ z < w.f 4) (h64 : z < 64) (hg : w.f 3 < 32) (hq : Q (.returned none) (mw w)) : Sp X 47 7 104 C S (0, [(0, .ref 0), (1, .int (x)), (2, .int (y)), (3, .int (z))], []) (mw w) Q := by
  refine Sp.go 3 (g := (3, [(0, .ref 0), (1, .int (x)), (2, .int (y)), (3, .int (z))], [.int (y), .int (x), .ref 0])) rfl ?_
  refine Sp.vr none (mw (w)) (k' := 46) (F' := 6) (N' := 82) (C' := 0) (S' := 0) (vs := [.int (x), .int (y)]) (st := []) rfl rfl rfl rfl (Nat.le_of_ble_eq_true rfl) (Nat.le_of_ble_eq_true rfl) (by decide) (by decide) (Nat.zero_le _) (Nat.zero_le _) (fun Q' h => r_checkPair_ok hp h) ?_
  refine Sp.go 2 (g := (8, [(0, .ref 0), (1, .int (x)), (2, .int (y)), (3, .int (z))], [.ref 0, .int (z)])) rfl ?_
  refine Sp.get (v := .int (w.f 4)) rfl rfl rfl ?_
  refine Sp.icmp rfl (fun u1 => absurd u1 hn) (fun u1 => ?_)
  refine Sp.go 2 (g := (17, [(0, .ref 0), (1, .int (x)), (2, .int (y)), (3, .int (z))], [.int 64, .int (z)])) rfl ?_
  refine Sp.icmp rfl (fun u2 => ?_) (fun u2 => absurd h64 u2)
  refine Sp.go 1 (g := (31, [(0, .ref 0), (1, .int (x)), (2, .int (y)), (3, .int (z))], [.ref 0])) rfl ?_
  refine Sp.get (v := .int (w.f 3)) rfl rfl rfl ?_
  refine Sp.go 1 (g := (36, [(0, .ref 0), (1, .int (x)), (2, .int (y)), (3, .int (z))], [.int 32, .int (w.f 3)])) rfl ?_
  refine Sp.icmp rfl (fun u3 => ?_) (fun u3 => absurd hg u3)
  refine Sp.vret rfl rfl ?_
  exact hq
theorem r_node_b0 {X : mX} {C S : Nat} {Q : Outcome → mM → Prop} {w : mWd} {x y : Int32} (hb : x < 0 ∨ 8 ≤ x) (hC : 1 ≤ C) (hS : 6 ≤ S) (hx : 23 ≤ w.nx) (hq : Q (.threw 0) (mw (w.mk none 6))) : Sp X 27 6 82 C S (0, [(0, .ref 0), (1, .int (x)), (2, .int (y))], []) (mw w) Q := by
  by_cases h0 : x < 0
  · skip
    refine Sp.go 1 (g := (1, [(0, .ref 0), (1, .int (x)), (2, .int (y))], [.int (x)])) rfl ?_
    refine Sp.if rfl (fun u1 => ?_) (fun u1 => absurd h0 u1)
    refine Sp.th rfl (by decide) (Nat.le_of_ble_eq_true rfl) hC hS rfl hx ?_
    exact hq
  · skip
    refine Sp.go 1 (g := (1, [(0, .ref 0), (1, .int (x)), (2, .int (y))], [.int (x)])) rfl ?_
    refine Sp.if rfl (fun u1 => absurd u1 h0) (fun u1 => ?_)
    refine Sp.go 2 (g := (7, [(0, .ref 0), (1, .int (x)), (2, .int (y))], [.int 8, .int (x)])) rfl ?_
    refine Sp.icmp rfl (fun u2 => absurd u2 (k2_nlt (hb.resolve_left h0))) (fun u2 => ?_)
    refine Sp.th rfl (by decide) (Nat.le_of_ble_eq_true rfl) hC hS rfl hx ?_
    exact hq
theorem r_node_b1 {X : mX} {C S : Nat} {Q : Outcome → mM → Prop} {w : mWd} {n : Nat} {y : Int32} (hn : n < 8) (hb : y < 0 ∨ (4 : Int32) < y) (hC : 1 ≤ C) (hS : 6 ≤ S) (hx : 23 ≤ w.nx) (hq : Q (.threw 0) (mw (w.mk none 6))) : Sp X 27 6 82 C S (0, [(0, .ref 0), (1, .int (nI n)), (2, .int (y))], []) (mw w) Q := by
  by_cases h0 : y < 0
  · skip
    refine Sp.go 1 (g := (1, [(0, .ref 0), (1, .int (nI n)), (2, .int (y))], [.int (nI n)])) rfl ?_
    refine Sp.if rfl (fun u1 => absurd u1 (nI_pos (by omega))) (fun u1 => ?_)
    refine Sp.go 2 (g := (7, [(0, .ref 0), (1, .int (nI n)), (2, .int (y))], [.int 8, .int (nI n)])) rfl ?_
    refine Sp.icmp rfl (fun u2 => ?_) (fun u2 => absurd ((nI_lt' (b := 8) (by omega) (by omega)).mpr hn) u2)
    refine Sp.go 1 (g := (21, [(0, .ref 0), (1, .int (nI n)), (2, .int (y))], [.int (y)])) rfl ?_
    refine Sp.if rfl (fun u3 => ?_) (fun u3 => absurd h0 u3)
    refine Sp.th rfl (by decide) (Nat.le_of_ble_eq_true rfl) hC hS rfl hx ?_
    exact hq
  · skip
    refine Sp.go 1 (g := (1, [(0, .ref 0), (1, .int (nI n)), (2, .int (y))], [.int (nI n)])) rfl ?_
    refine Sp.if rfl (fun u1 => absurd u1 (nI_pos (by omega))) (fun u1 => ?_)
    refine Sp.go 2 (g := (7, [(0, .ref 0), (1, .int (nI n)), (2, .int (y))], [.int 8, .int (nI n)])) rfl ?_
    refine Sp.icmp rfl (fun u2 => ?_) (fun u2 => absurd ((nI_lt' (b := 8) (by omega) (by omega)).mpr hn) u2)
    refine Sp.go 1 (g := (21, [(0, .ref 0), (1, .int (nI n)), (2, .int (y))], [.int (y)])) rfl ?_
    refine Sp.if rfl (fun u3 => absurd u3 h0) (fun u3 => ?_)
    refine Sp.go 2 (g := (26, [(0, .ref 0), (1, .int (nI n)), (2, .int (y))], [.int 4, .int (y)])) rfl ?_
    refine Sp.icmp rfl (fun u4 => absurd u4 (k2_nle (hb.resolve_left h0))) (fun u4 => ?_)
    refine Sp.th rfl (by decide) (Nat.le_of_ble_eq_true rfl) hC hS rfl hx ?_
    exact hq
theorem n_is_nI {m : Int32} {n : Nat} (hn : n < 8) : n_is m (nI n) = bt m n := by
  simp [n_is, nI_pos (n := n) (by omega), show nI n < 8 from (nI_lt' (b := 8) (by omega) (by omega)).mpr hn, nI_clamp (n := n) (by omega)]
theorem r_node_b2 {X : mX} {C S : Nat} {Q : Outcome → mM → Prop} {w : mWd} {n : Nat} {y : Int32} (hn : n < 8) (h0 : ¬ y < 0) (h4 : y ≤ 4) (hm : bt (w.f 2) n = true) (hC : 1 ≤ C) (hS : 6 ≤ S) (hx : 23 ≤ w.nx) (hq : Q (.threw 1) (mw (w.mk none 6))) : Sp X 27 6 82 C S (0, [(0, .ref 0), (1, .int (nI n)), (2, .int (y))], []) (mw w) Q := by
  refine Sp.go 1 (g := (1, [(0, .ref 0), (1, .int (nI n)), (2, .int (y))], [.int (nI n)])) rfl ?_
  refine Sp.if rfl (fun u1 => absurd u1 (nI_pos (by omega))) (fun u1 => ?_)
  refine Sp.go 2 (g := (7, [(0, .ref 0), (1, .int (nI n)), (2, .int (y))], [.int 8, .int (nI n)])) rfl ?_
  refine Sp.icmp rfl (fun u2 => ?_) (fun u2 => absurd ((nI_lt' (b := 8) (by omega) (by omega)).mpr hn) u2)
  refine Sp.go 1 (g := (21, [(0, .ref 0), (1, .int (nI n)), (2, .int (y))], [.int (y)])) rfl ?_
  refine Sp.if rfl (fun u3 => absurd u3 h0) (fun u3 => ?_)
  refine Sp.go 2 (g := (26, [(0, .ref 0), (1, .int (nI n)), (2, .int (y))], [.int 4, .int (y)])) rfl ?_
  refine Sp.icmp rfl (fun u4 => ?_) (fun u4 => absurd h4 u4)
  refine Sp.go 1 (g := (40, [(0, .ref 0), (1, .int (nI n)), (2, .int (y))], [.ref 0])) rfl ?_
  refine Sp.get (v := .ref 1) rfl rfl rfl ?_
  refine Sp.go 1 (g := (44, [(0, .ref 0), (1, .int (nI n)), (2, .int (y))], [.int (nI n), .ref 1])) rfl ?_
  refine Sp.vr (some (.int (m_b2 (n_is (w.f 2) (nI n))))) (mw (w)) (k' := 2) (F' := 1) (N' := 21) (C' := 0) (S' := 0) (vs := [.int (nI n)]) (st := []) rfl rfl rfl rfl (Nat.le_of_ble_eq_true rfl) (Nat.le_of_ble_eq_true rfl) (by decide) (by decide) (Nat.zero_le _) (Nat.zero_le _) (fun Q' h => n_isNode h) ?_
  refine Sp.ifb rfl (fun u5 => absurd u5 (by rw [n_is_nI hn, hm]; decide)) (fun u5 => ?_)
  refine Sp.th rfl (by decide) (Nat.le_of_ble_eq_true rfl) hC hS rfl hx ?_
  exact hq
theorem r_node_b3 {X : mX} {C S : Nat} {Q : Outcome → mM → Prop} {w : mWd} {n : Nat} {y : Int32} (hn : n < 8) (h0 : ¬ y < 0) (h4 : y ≤ 4) (hm : bt (w.f 2) n = false) (hk : (0 : Int32) < w.f 1) (hC : 1 ≤ C) (hS : 6 ≤ S) (hx : 23 ≤ w.nx) (hq : Q (.threw 1) (mw (w.mk none 6))) : Sp X 27 6 82 C S (0, [(0, .ref 0), (1, .int (nI n)), (2, .int (y))], []) (mw w) Q := by
  refine Sp.go 1 (g := (1, [(0, .ref 0), (1, .int (nI n)), (2, .int (y))], [.int (nI n)])) rfl ?_
  refine Sp.if rfl (fun u1 => absurd u1 (nI_pos (by omega))) (fun u1 => ?_)
  refine Sp.go 2 (g := (7, [(0, .ref 0), (1, .int (nI n)), (2, .int (y))], [.int 8, .int (nI n)])) rfl ?_
  refine Sp.icmp rfl (fun u2 => ?_) (fun u2 => absurd ((nI_lt' (b := 8) (by omega) (by omega)).mpr hn) u2)
  refine Sp.go 1 (g := (21, [(0, .ref 0), (1, .int (nI n)), (2, .int (y))], [.int (y)])) rfl ?_
  refine Sp.if rfl (fun u3 => absurd u3 h0) (fun u3 => ?_)
  refine Sp.go 2 (g := (26, [(0, .ref 0), (1, .int (nI n)), (2, .int (y))], [.int 4, .int (y)])) rfl ?_
  refine Sp.icmp rfl (fun u4 => ?_) (fun u4 => absurd h4 u4)
  refine Sp.go 1 (g := (40, [(0, .ref 0), (1, .int (nI n)), (2, .int (y))], [.ref 0])) rfl ?_
  refine Sp.get (v := .ref 1) rfl rfl rfl ?_
  refine Sp.go 1 (g := (44, [(0, .ref 0), (1, .int (nI n)), (2, .int (y))], [.int (nI n), .ref 1])) rfl ?_
  refine Sp.vr (some (.int (m_b2 (n_is (w.f 2) (nI n))))) (mw (w)) (k' := 2) (F' := 1) (N' := 21) (C' := 0) (S' := 0) (vs := [.int (nI n)]) (st := []) rfl rfl rfl rfl (Nat.le_of_ble_eq_true rfl) (Nat.le_of_ble_eq_true rfl) (by decide) (by decide) (Nat.zero_le _) (Nat.zero_le _) (fun Q' h => n_isNode h) ?_
  refine Sp.ifb rfl (fun u5 => ?_) (fun u5 => absurd u5 (by rw [n_is_nI hn, hm]; decide))
  refine Sp.go 1 (g := (61, [(0, .ref 0), (1, .int (nI n)), (2, .int (y))], [.ref 0])) rfl ?_
  refine Sp.get (v := .ref 1) rfl rfl rfl ?_
  refine Sp.get (v := .int (w.f 1)) rfl rfl rfl ?_
  refine Sp.if rfl (fun u6 => absurd u6 (k2_nle hk)) (fun u6 => ?_)
  refine Sp.th rfl (by decide) (Nat.le_of_ble_eq_true rfl) hC hS rfl hx ?_
  exact hq
/-- behind node(n, y) -/
def r_nodeW (w : mWd) (n : Nat) (y : Int32) : mWd := ((w.sa 2 (upd (w.a 2) n y)).sf 2 (w.f 2 ||| ((1 : Int32) <<< (nI n &&& 31)))).sf 0 (w.f 0 + 1)
theorem r_node_ok {X : mX} {C S : Nat} {Q : Outcome → mM → Prop} {w : mWd} {n : Nat} {y : Int32} (hn : n < 8) (h0 : ¬ y < 0) (h4 : y ≤ 4) (hm : bt (w.f 2) n = false) (hk : w.f 1 ≤ 0) (hq : Q (.returned (some (.int (w.f 0 + 1)))) (mw (r_nodeW w n y))) : Sp X 27 6 82 C S (0, [(0, .ref 0), (1, .int (nI n)), (2, .int (y))], []) (mw w) Q := by
  refine Sp.go 1 (g := (1, [(0, .ref 0), (1, .int (nI n)), (2, .int (y))], [.int (nI n)])) rfl ?_
  refine Sp.if rfl (fun u1 => absurd u1 (nI_pos (by omega))) (fun u1 => ?_)
  refine Sp.go 2 (g := (7, [(0, .ref 0), (1, .int (nI n)), (2, .int (y))], [.int 8, .int (nI n)])) rfl ?_
  refine Sp.icmp rfl (fun u2 => ?_) (fun u2 => absurd ((nI_lt' (b := 8) (by omega) (by omega)).mpr hn) u2)
  refine Sp.go 1 (g := (21, [(0, .ref 0), (1, .int (nI n)), (2, .int (y))], [.int (y)])) rfl ?_
  refine Sp.if rfl (fun u3 => absurd u3 h0) (fun u3 => ?_)
  refine Sp.go 2 (g := (26, [(0, .ref 0), (1, .int (nI n)), (2, .int (y))], [.int 4, .int (y)])) rfl ?_
  refine Sp.icmp rfl (fun u4 => ?_) (fun u4 => absurd h4 u4)
  refine Sp.go 1 (g := (40, [(0, .ref 0), (1, .int (nI n)), (2, .int (y))], [.ref 0])) rfl ?_
  refine Sp.get (v := .ref 1) rfl rfl rfl ?_
  refine Sp.go 1 (g := (44, [(0, .ref 0), (1, .int (nI n)), (2, .int (y))], [.int (nI n), .ref 1])) rfl ?_
  refine Sp.vr (some (.int (m_b2 (n_is (w.f 2) (nI n))))) (mw (w)) (k' := 2) (F' := 1) (N' := 21) (C' := 0) (S' := 0) (vs := [.int (nI n)]) (st := []) rfl rfl rfl rfl (Nat.le_of_ble_eq_true rfl) (Nat.le_of_ble_eq_true rfl) (by decide) (by decide) (Nat.zero_le _) (Nat.zero_le _) (fun Q' h => n_isNode h) ?_
  refine Sp.ifb rfl (fun u5 => ?_) (fun u5 => absurd u5 (by rw [n_is_nI hn, hm]; decide))
  refine Sp.go 1 (g := (61, [(0, .ref 0), (1, .int (nI n)), (2, .int (y))], [.ref 0])) rfl ?_
  refine Sp.get (v := .ref 1) rfl rfl rfl ?_
  refine Sp.get (v := .int (w.f 1)) rfl rfl rfl ?_
  refine Sp.if rfl (fun u6 => ?_) (fun u6 => absurd hk u6)
  refine Sp.go 1 (g := (81, [(0, .ref 0), (1, .int (nI n)), (2, .int (y))], [.ref 0])) rfl ?_
  refine Sp.get (v := .ref 1) rfl rfl rfl ?_
  refine Sp.go 2 (g := (86, [(0, .ref 0), (1, .int (nI n)), (2, .int (y))], [.int (y), .int (nI n), .ref 1])) rfl ?_
  refine Sp.vr none (mw ((((w).sa 2 (upd (w.a 2) n y)).sf 2 (w.f 2 ||| ((1 : Int32) <<< (nI n &&& 31)))).sf 0 (w.f 0 + 1))) (k' := 4) (F' := 0) (N' := 0) (C' := 0) (S' := 0) (vs := [.int (nI n), .int (y)]) (st := []) rfl rfl rfl rfl (Nat.le_of_ble_eq_true rfl) (Nat.le_of_ble_eq_true rfl) (by decide) (by decide) (Nat.zero_le _) (Nat.zero_le _) (fun Q' h => n_makeNode (by omega) h) ?_
  refine Sp.go 1 (g := (90, [(0, .ref 0), (1, .int (nI n)), (2, .int (y))], [.ref 0])) rfl ?_
  refine Sp.get (v := .ref 1) rfl rfl rfl ?_
  refine Sp.get (v := .int (w.f 0 + 1)) rfl rfl rfl ?_
  refine Sp.iret rfl (Or.inl rfl) ?_
  exact hq
theorem r_contact_b0 {X : mX} {C S : Nat} {Q : Outcome → mM → Prop} {w : mWd} {x y z u : Int32} (hp : n_pair (w.f 2) x y = false) (hC : 1 ≤ C) (hS : 6 ≤ S) (hx : 23 ≤ w.nx) (hq : Q (.threw 0) (mw (w.mk none 6))) : Sp X 28 7 104 C S (0, [(0, .ref 0), (1, .int (x)), (2, .int (y)), (3, .int (z)), (4, .int (u))], []) (mw w) Q := by
  refine Sp.go 3 (g := (3, [(0, .ref 0), (1, .int (x)), (2, .int (y)), (3, .int (z)), (4, .int (u))], [.int (y), .int (x), .ref 0])) rfl ?_
  refine Sp.vt 0 (mw (w.mk none 6)) (k' := 46) (F' := 6) (N' := 82) (C' := 1) (S' := 6) (vs := [.int (x), .int (y)]) (st := []) rfl rfl rfl rfl (Nat.le_of_ble_eq_true rfl) (Nat.le_of_ble_eq_true rfl) (by decide) (by decide) hC hS (by decide) (fun Q' h => r_checkPair_bad hp (by decide) (by decide) hx h) (Or.inl ⟨rfl, ?_⟩)
  exact hq
theorem r_contact_b1 {X : mX} {C S : Nat} {Q : Outcome → mM → Prop} {w : mWd} {x y z u : Int32} (hp : n_pair (w.f 2) x y = true) (hb : z < w.f 4 ∨ u ≤ z ∨ (64 : Int32) < u) (hC : 1 ≤ C) (hS : 6 ≤ S) (hx : 23 ≤ w.nx) (hq : Q (.threw 0) (mw (w.mk none 6))) : Sp X 28 7 104 C S (0, [(0, .ref 0), (1, .int (x)), (2, .int (y)), (3, .int (z)), (4, .int (u))], []) (mw w) Q := by
  by_cases h1 : z < w.f 4
  · skip
    refine Sp.go 3 (g := (3, [(0, .ref 0), (1, .int (x)), (2, .int (y)), (3, .int (z)), (4, .int (u))], [.int (y), .int (x), .ref 0])) rfl ?_
    refine Sp.vr none (mw (w)) (k' := 46) (F' := 6) (N' := 82) (C' := 0) (S' := 0) (vs := [.int (x), .int (y)]) (st := []) rfl rfl rfl rfl (Nat.le_of_ble_eq_true rfl) (Nat.le_of_ble_eq_true rfl) (by decide) (by decide) (Nat.zero_le _) (Nat.zero_le _) (fun Q' h => r_checkPair_ok hp h) ?_
    refine Sp.go 2 (g := (8, [(0, .ref 0), (1, .int (x)), (2, .int (y)), (3, .int (z)), (4, .int (u))], [.ref 0, .int (z)])) rfl ?_
    refine Sp.get (v := .int (w.f 4)) rfl rfl rfl ?_
    refine Sp.icmp rfl (fun u21 => ?_) (fun u21 => absurd h1 u21)
    refine Sp.th rfl (by decide) (Nat.le_of_ble_eq_true rfl) hC hS rfl hx ?_
    exact hq
  by_cases h2 : u ≤ z
  · skip
    refine Sp.go 3 (g := (3, [(0, .ref 0), (1, .int (x)), (2, .int (y)), (3, .int (z)), (4, .int (u))], [.int (y), .int (x), .ref 0])) rfl ?_
    refine Sp.vr none (mw (w)) (k' := 46) (F' := 6) (N' := 82) (C' := 0) (S' := 0) (vs := [.int (x), .int (y)]) (st := []) rfl rfl rfl rfl (Nat.le_of_ble_eq_true rfl) (Nat.le_of_ble_eq_true rfl) (by decide) (by decide) (Nat.zero_le _) (Nat.zero_le _) (fun Q' h => r_checkPair_ok hp h) ?_
    refine Sp.go 2 (g := (8, [(0, .ref 0), (1, .int (x)), (2, .int (y)), (3, .int (z)), (4, .int (u))], [.ref 0, .int (z)])) rfl ?_
    refine Sp.get (v := .int (w.f 4)) rfl rfl rfl ?_
    refine Sp.icmp rfl (fun u21 => absurd u21 h1) (fun u21 => ?_)
    refine Sp.go 2 (g := (17, [(0, .ref 0), (1, .int (x)), (2, .int (y)), (3, .int (z)), (4, .int (u))], [.int (u), .int (z)])) rfl ?_
    refine Sp.icmp rfl (fun u22 => ?_) (fun u22 => absurd h2 u22)
    refine Sp.th rfl (by decide) (Nat.le_of_ble_eq_true rfl) hC hS rfl hx ?_
    exact hq
  · skip
    refine Sp.go 3 (g := (3, [(0, .ref 0), (1, .int (x)), (2, .int (y)), (3, .int (z)), (4, .int (u))], [.int (y), .int (x), .ref 0])) rfl ?_
    refine Sp.vr none (mw (w)) (k' := 46) (F' := 6) (N' := 82) (C' := 0) (S' := 0) (vs := [.int (x), .int (y)]) (st := []) rfl rfl rfl rfl (Nat.le_of_ble_eq_true rfl) (Nat.le_of_ble_eq_true rfl) (by decide) (by decide) (Nat.zero_le _) (Nat.zero_le _) (fun Q' h => r_checkPair_ok hp h) ?_
    refine Sp.go 2 (g := (8, [(0, .ref 0), (1, .int (x)), (2, .int (y)), (3, .int (z)), (4, .int (u))], [.ref 0, .int (z)])) rfl ?_
    refine Sp.get (v := .int (w.f 4)) rfl rfl rfl ?_
    refine Sp.icmp rfl (fun u21 => absurd u21 h1) (fun u21 => ?_)
    refine Sp.go 2 (g := (17, [(0, .ref 0), (1, .int (x)), (2, .int (y)), (3, .int (z)), (4, .int (u))], [.int (u), .int (z)])) rfl ?_
    refine Sp.icmp rfl (fun u22 => absurd u22 h2) (fun u22 => ?_)
    refine Sp.go 2 (g := (24, [(0, .ref 0), (1, .int (x)), (2, .int (y)), (3, .int (z)), (4, .int (u))], [.int 64, .int (u)])) rfl ?_
    refine Sp.icmp rfl (fun u23 => absurd u23 (k2_nle ((hb.resolve_left h1).resolve_left h2))) (fun u23 => ?_)
    refine Sp.th rfl (by decide) (Nat.le_of_ble_eq_true rfl) hC hS rfl hx ?_
    exact hq
theorem r_contact_b2 {X : mX} {C S : Nat} {Q : Outcome → mM → Prop} {w : mWd} {x y z u : Int32} (hp : n_pair (w.f 2) x y = true) (g1 : ¬ z < w.f 4) (g2 : ¬ u ≤ z) (g3 : u ≤ 64) (hk : (24 : Int32) ≤ w.f 1) (hC : 1 ≤ C) (hS : 6 ≤ S) (hx : 23 ≤ w.nx) (hq : Q (.threw 1) (mw (w.mk none 6))) : Sp X 28 7 104 C S (0, [(0, .ref 0), (1, .int (x)), (2, .int (y)), (3, .int (z)), (4, .int (u))], []) (mw w) Q := by
  refine Sp.go 3 (g := (3, [(0, .ref 0), (1, .int (x)), (2, .int (y)), (3, .int (z)), (4, .int (u))], [.int (y), .int (x), .ref 0])) rfl ?_
  refine Sp.vr none (mw (w)) (k' := 46) (F' := 6) (N' := 82) (C' := 0) (S' := 0) (vs := [.int (x), .int (y)]) (st := []) rfl rfl rfl rfl (Nat.le_of_ble_eq_true rfl) (Nat.le_of_ble_eq_true rfl) (by decide) (by decide) (Nat.zero_le _) (Nat.zero_le _) (fun Q' h => r_checkPair_ok hp h) ?_
  refine Sp.go 2 (g := (8, [(0, .ref 0), (1, .int (x)), (2, .int (y)), (3, .int (z)), (4, .int (u))], [.ref 0, .int (z)])) rfl ?_
  refine Sp.get (v := .int (w.f 4)) rfl rfl rfl ?_
  refine Sp.icmp rfl (fun u1 => absurd u1 g1) (fun u1 => ?_)
  refine Sp.go 2 (g := (17, [(0, .ref 0), (1, .int (x)), (2, .int (y)), (3, .int (z)), (4, .int (u))], [.int (u), .int (z)])) rfl ?_
  refine Sp.icmp rfl (fun u2 => absurd u2 g2) (fun u2 => ?_)
  refine Sp.go 2 (g := (24, [(0, .ref 0), (1, .int (x)), (2, .int (y)), (3, .int (z)), (4, .int (u))], [.int 64, .int (u)])) rfl ?_
  refine Sp.icmp rfl (fun u3 => ?_) (fun u3 => absurd g3 u3)
  refine Sp.go 1 (g := (38, [(0, .ref 0), (1, .int (x)), (2, .int (y)), (3, .int (z)), (4, .int (u))], [.ref 0])) rfl ?_
  refine Sp.get (v := .ref 1) rfl rfl rfl ?_
  refine Sp.get (v := .int (w.f 1)) rfl rfl rfl ?_
  refine Sp.go 1 (g := (46, [(0, .ref 0), (1, .int (x)), (2, .int (y)), (3, .int (z)), (4, .int (u))], [.int 24, .int (w.f 1)])) rfl ?_
  refine Sp.icmp rfl (fun u4 => absurd u4 (k2_nlt hk)) (fun u4 => ?_)
  refine Sp.th rfl (by decide) (Nat.le_of_ble_eq_true rfl) hC hS rfl hx ?_
  exact hq
theorem r_contact_b3 {X : mX} {C S : Nat} {Q : Outcome → mM → Prop} {w : mWd} {a b s e : Nat} (ha : a < 8) (hb : b < 8) (hse : s < e) (he : e ≤ 64) (hp : n_pair (w.f 2) (nI a) (nI b) = true) (g1 : ¬ nI s < w.f 4) (hk : w.f 1 < 24) (ho : m_any (fun t => bt (w.a 3 (t * 8 + a)) b) s (e - s) = true) (hC : 1 ≤ C) (hS : 6 ≤ S) (hx : 23 ≤ w.nx) (hq : Q (.threw 1) (mw (w.mk none 6))) : Sp X 28 7 104 C S (0, [(0, .ref 0), (1, .int (nI a)), (2, .int (nI b)), (3, .int (nI s)), (4, .int (nI e))], []) (mw w) Q := by
  refine Sp.go 3 (g := (3, [(0, .ref 0), (1, .int (nI a)), (2, .int (nI b)), (3, .int (nI s)), (4, .int (nI e))], [.int (nI b), .int (nI a), .ref 0])) rfl ?_
  refine Sp.vr none (mw (w)) (k' := 46) (F' := 6) (N' := 82) (C' := 0) (S' := 0) (vs := [.int (nI a), .int (nI b)]) (st := []) rfl rfl rfl rfl (Nat.le_of_ble_eq_true rfl) (Nat.le_of_ble_eq_true rfl) (by decide) (by decide) (Nat.zero_le _) (Nat.zero_le _) (fun Q' h => r_checkPair_ok hp h) ?_
  refine Sp.go 2 (g := (8, [(0, .ref 0), (1, .int (nI a)), (2, .int (nI b)), (3, .int (nI s)), (4, .int (nI e))], [.ref 0, .int (nI s)])) rfl ?_
  refine Sp.get (v := .int (w.f 4)) rfl rfl rfl ?_
  refine Sp.icmp rfl (fun u1 => absurd u1 g1) (fun u1 => ?_)
  refine Sp.go 2 (g := (17, [(0, .ref 0), (1, .int (nI a)), (2, .int (nI b)), (3, .int (nI s)), (4, .int (nI e))], [.int (nI e), .int (nI s)])) rfl ?_
  refine Sp.icmp rfl (fun u2 => absurd u2 (fun q => absurd ((nI_le' (by omega) (by omega)).mp q) (by omega))) (fun u2 => ?_)
  refine Sp.go 2 (g := (24, [(0, .ref 0), (1, .int (nI a)), (2, .int (nI b)), (3, .int (nI s)), (4, .int (nI e))], [.int 64, .int (nI e)])) rfl ?_
  refine Sp.icmp rfl (fun u3 => ?_) (fun u3 => absurd ((nI_le' (b := 64) (by omega) (by omega)).mpr he) u3)
  refine Sp.go 1 (g := (38, [(0, .ref 0), (1, .int (nI a)), (2, .int (nI b)), (3, .int (nI s)), (4, .int (nI e))], [.ref 0])) rfl ?_
  refine Sp.get (v := .ref 1) rfl rfl rfl ?_
  refine Sp.get (v := .int (w.f 1)) rfl rfl rfl ?_
  refine Sp.go 1 (g := (46, [(0, .ref 0), (1, .int (nI a)), (2, .int (nI b)), (3, .int (nI s)), (4, .int (nI e))], [.int 24, .int (w.f 1)])) rfl ?_
  refine Sp.icmp rfl (fun u4 => ?_) (fun u4 => absurd hk u4)
  refine Sp.go 1 (g := (60, [(0, .ref 0), (1, .int (nI a)), (2, .int (nI b)), (3, .int (nI s)), (4, .int (nI e))], [.ref 0])) rfl ?_
  refine Sp.get (v := .ref 1) rfl rfl rfl ?_
  refine Sp.go 4 (g := (68, [(0, .ref 0), (1, .int (nI a)), (2, .int (nI b)), (3, .int (nI s)), (4, .int (nI e))], [.int (nI e), .int (nI s), .int (nI b), .int (nI a), .ref 1])) rfl ?_
  refine Sp.vr (some (.int (m_b2 (m_any (fun t => bt (w.a 3 (t * 8 + a)) b) s (e - s))))) (mw (w)) (k' := 5) (F' := 1) (N' := 21) (C' := 0) (S' := 0) (vs := [.int (nI a), .int (nI b), .int (nI s), .int (nI e)]) (st := []) rfl rfl rfl rfl (Nat.le_of_ble_eq_true rfl) (Nat.le_of_ble_eq_true rfl) (by decide) (by decide) (Nat.zero_le _) (Nat.zero_le _) (fun Q' h => n_isOpenWithin (by omega) (by omega) (by omega) (by omega) h) ?_
  refine Sp.ifb rfl (fun u5 => absurd u5 (by rw [ho]; decide)) (fun u5 => ?_)
  refine Sp.th rfl (by decide) (Nat.le_of_ble_eq_true rfl) hC hS rfl hx ?_
  exact hq
theorem r_contact_ok {X : mX} {C S : Nat} {Q : Outcome → mM → Prop} {w : mWd} {a b s e : Nat} (ha : a < 8) (hb : b < 8) (hse : s < e) (he : e ≤ 64) (hp : n_pair (w.f 2) (nI a) (nI b) = true) (g1 : ¬ nI s < w.f 4) (hk : w.f 1 < 24) (ho : m_any (fun t => bt (w.a 3 (t * 8 + a)) b) s (e - s) = false) (hq : Q (.returned (some (.int (w.f 1 + 1)))) (mw ((w.sa 3 (n_mk a b s (e - s) (w.a 3))).sf 1 (w.f 1 + 1)))) : Sp X 28 7 104 C S (0, [(0, .ref 0), (1, .int (nI a)), (2, .int (nI b)), (3, .int (nI s)), (4, .int (nI e))], []) (mw w) Q := by
  refine Sp.go 3 (g := (3, [(0, .ref 0), (1, .int (nI a)), (2, .int (nI b)), (3, .int (nI s)), (4, .int (nI e))], [.int (nI b), .int (nI a), .ref 0])) rfl ?_
  refine Sp.vr none (mw (w)) (k' := 46) (F' := 6) (N' := 82) (C' := 0) (S' := 0) (vs := [.int (nI a), .int (nI b)]) (st := []) rfl rfl rfl rfl (Nat.le_of_ble_eq_true rfl) (Nat.le_of_ble_eq_true rfl) (by decide) (by decide) (Nat.zero_le _) (Nat.zero_le _) (fun Q' h => r_checkPair_ok hp h) ?_
  refine Sp.go 2 (g := (8, [(0, .ref 0), (1, .int (nI a)), (2, .int (nI b)), (3, .int (nI s)), (4, .int (nI e))], [.ref 0, .int (nI s)])) rfl ?_
  refine Sp.get (v := .int (w.f 4)) rfl rfl rfl ?_
  refine Sp.icmp rfl (fun u1 => absurd u1 g1) (fun u1 => ?_)
  refine Sp.go 2 (g := (17, [(0, .ref 0), (1, .int (nI a)), (2, .int (nI b)), (3, .int (nI s)), (4, .int (nI e))], [.int (nI e), .int (nI s)])) rfl ?_
  refine Sp.icmp rfl (fun u2 => absurd u2 (fun q => absurd ((nI_le' (by omega) (by omega)).mp q) (by omega))) (fun u2 => ?_)
  refine Sp.go 2 (g := (24, [(0, .ref 0), (1, .int (nI a)), (2, .int (nI b)), (3, .int (nI s)), (4, .int (nI e))], [.int 64, .int (nI e)])) rfl ?_
  refine Sp.icmp rfl (fun u3 => ?_) (fun u3 => absurd ((nI_le' (b := 64) (by omega) (by omega)).mpr he) u3)
  refine Sp.go 1 (g := (38, [(0, .ref 0), (1, .int (nI a)), (2, .int (nI b)), (3, .int (nI s)), (4, .int (nI e))], [.ref 0])) rfl ?_
  refine Sp.get (v := .ref 1) rfl rfl rfl ?_
  refine Sp.get (v := .int (w.f 1)) rfl rfl rfl ?_
  refine Sp.go 1 (g := (46, [(0, .ref 0), (1, .int (nI a)), (2, .int (nI b)), (3, .int (nI s)), (4, .int (nI e))], [.int 24, .int (w.f 1)])) rfl ?_
  refine Sp.icmp rfl (fun u4 => ?_) (fun u4 => absurd hk u4)
  refine Sp.go 1 (g := (60, [(0, .ref 0), (1, .int (nI a)), (2, .int (nI b)), (3, .int (nI s)), (4, .int (nI e))], [.ref 0])) rfl ?_
  refine Sp.get (v := .ref 1) rfl rfl rfl ?_
  refine Sp.go 4 (g := (68, [(0, .ref 0), (1, .int (nI a)), (2, .int (nI b)), (3, .int (nI s)), (4, .int (nI e))], [.int (nI e), .int (nI s), .int (nI b), .int (nI a), .ref 1])) rfl ?_
  refine Sp.vr (some (.int (m_b2 (m_any (fun t => bt (w.a 3 (t * 8 + a)) b) s (e - s))))) (mw (w)) (k' := 5) (F' := 1) (N' := 21) (C' := 0) (S' := 0) (vs := [.int (nI a), .int (nI b), .int (nI s), .int (nI e)]) (st := []) rfl rfl rfl rfl (Nat.le_of_ble_eq_true rfl) (Nat.le_of_ble_eq_true rfl) (by decide) (by decide) (Nat.zero_le _) (Nat.zero_le _) (fun Q' h => n_isOpenWithin (by omega) (by omega) (by omega) (by omega) h) ?_
  refine Sp.ifb rfl (fun u5 => ?_) (fun u5 => absurd u5 (by rw [ho]; decide))
  refine Sp.go 1 (g := (85, [(0, .ref 0), (1, .int (nI a)), (2, .int (nI b)), (3, .int (nI s)), (4, .int (nI e))], [.ref 0])) rfl ?_
  refine Sp.get (v := .ref 1) rfl rfl rfl ?_
  refine Sp.go 4 (g := (93, [(0, .ref 0), (1, .int (nI a)), (2, .int (nI b)), (3, .int (nI s)), (4, .int (nI e))], [.int (nI e), .int (nI s), .int (nI b), .int (nI a), .ref 1])) rfl ?_
  refine Sp.vr none (mw (((w).sa 3 (n_mk a b s (e - s) (w.a 3))).sf 1 (w.f 1 + 1))) (k' := 6) (F' := 1) (N' := 21) (C' := 0) (S' := 0) (vs := [.int (nI a), .int (nI b), .int (nI s), .int (nI e)]) (st := []) rfl rfl rfl rfl (Nat.le_of_ble_eq_true rfl) (Nat.le_of_ble_eq_true rfl) (by decide) (by decide) (Nat.zero_le _) (Nat.zero_le _) (fun Q' h => n_makeContact (by omega) (by omega) (by omega) (by omega) h) ?_
  refine Sp.go 1 (g := (97, [(0, .ref 0), (1, .int (nI a)), (2, .int (nI b)), (3, .int (nI s)), (4, .int (nI e))], [.ref 0])) rfl ?_
  refine Sp.get (v := .ref 1) rfl rfl rfl ?_
  refine Sp.get (v := .int (w.f 1 + 1)) rfl rfl rfl ?_
  refine Sp.iret rfl (Or.inl rfl) ?_
  exact hq
theorem r_whatIf_b0 {X : mX} {C S : Nat} {Q : Outcome → mM → Prop} {w : mWd} {x y z : Int32} (hp : n_pair (w.f 2) x y = false) (hC : 1 ≤ C) (hS : 6 ≤ S) (hx : 23 ≤ w.nx) (hq : Q (.threw 0) (mw (w.mk none 6))) : Sp X 31 8 127 C S (0, [(0, .ref 0), (1, .int (x)), (2, .int (y)), (3, .int (z))], []) (mw w) Q := by
  refine Sp.go 4 (g := (4, [(0, .ref 0), (1, .int (x)), (2, .int (y)), (3, .int (z))], [.int (z), .int (y), .int (x), .ref 0])) rfl ?_
  refine Sp.vt 0 (mw (w.mk none 6)) (k' := 47) (F' := 7) (N' := 104) (C' := 1) (S' := 6) (vs := [.int (x), .int (y), .int (z)]) (st := []) rfl rfl rfl rfl (Nat.le_of_ble_eq_true rfl) (Nat.le_of_ble_eq_true rfl) (by decide) (by decide) hC hS (by decide) (fun Q' h => r_checkBooking_b0 hp (by decide) (by decide) hx h) (Or.inl ⟨rfl, ?_⟩)
  exact hq
theorem r_book_b0 {X : mX} {C S : Nat} {Q : Outcome → mM → Prop} {w : mWd} {x y z : Int32} (hp : n_pair (w.f 2) x y = false) (hC : 1 ≤ C) (hS : 6 ≤ S) (hx : 23 ≤ w.nx) (hq : Q (.threw 0) (mw (w.mk none 6))) : Sp X 30 8 127 C S (0, [(0, .ref 0), (1, .int (x)), (2, .int (y)), (3, .int (z))], []) (mw w) Q := by
  refine Sp.go 4 (g := (4, [(0, .ref 0), (1, .int (x)), (2, .int (y)), (3, .int (z))], [.int (z), .int (y), .int (x), .ref 0])) rfl ?_
  refine Sp.vt 0 (mw (w.mk none 6)) (k' := 47) (F' := 7) (N' := 104) (C' := 1) (S' := 6) (vs := [.int (x), .int (y), .int (z)]) (st := []) rfl rfl rfl rfl (Nat.le_of_ble_eq_true rfl) (Nat.le_of_ble_eq_true rfl) (by decide) (by decide) hC hS (by decide) (fun Q' h => r_checkBooking_b0 hp (by decide) (by decide) hx h) (Or.inl ⟨rfl, ?_⟩)
  exact hq
theorem r_whatIf_b1 {X : mX} {C S : Nat} {Q : Outcome → mM → Prop} {w : mWd} {x y z : Int32} (hp : n_pair (w.f 2) x y = true) (hz : z < w.f 4 ∨ 64 ≤ z) (hC : 1 ≤ C) (hS : 6 ≤ S) (hx : 23 ≤ w.nx) (hq : Q (.threw 0) (mw (w.mk none 6))) : Sp X 31 8 127 C S (0, [(0, .ref 0), (1, .int (x)), (2, .int (y)), (3, .int (z))], []) (mw w) Q := by
  refine Sp.go 4 (g := (4, [(0, .ref 0), (1, .int (x)), (2, .int (y)), (3, .int (z))], [.int (z), .int (y), .int (x), .ref 0])) rfl ?_
  refine Sp.vt 0 (mw (w.mk none 6)) (k' := 47) (F' := 7) (N' := 104) (C' := 1) (S' := 6) (vs := [.int (x), .int (y), .int (z)]) (st := []) rfl rfl rfl rfl (Nat.le_of_ble_eq_true rfl) (Nat.le_of_ble_eq_true rfl) (by decide) (by decide) hC hS (by decide) (fun Q' h => r_checkBooking_b1 hp hz (by decide) (by decide) hx h) (Or.inl ⟨rfl, ?_⟩)
  exact hq
theorem r_book_b1 {X : mX} {C S : Nat} {Q : Outcome → mM → Prop} {w : mWd} {x y z : Int32} (hp : n_pair (w.f 2) x y = true) (hz : z < w.f 4 ∨ 64 ≤ z) (hC : 1 ≤ C) (hS : 6 ≤ S) (hx : 23 ≤ w.nx) (hq : Q (.threw 0) (mw (w.mk none 6))) : Sp X 30 8 127 C S (0, [(0, .ref 0), (1, .int (x)), (2, .int (y)), (3, .int (z))], []) (mw w) Q := by
  refine Sp.go 4 (g := (4, [(0, .ref 0), (1, .int (x)), (2, .int (y)), (3, .int (z))], [.int (z), .int (y), .int (x), .ref 0])) rfl ?_
  refine Sp.vt 0 (mw (w.mk none 6)) (k' := 47) (F' := 7) (N' := 104) (C' := 1) (S' := 6) (vs := [.int (x), .int (y), .int (z)]) (st := []) rfl rfl rfl rfl (Nat.le_of_ble_eq_true rfl) (Nat.le_of_ble_eq_true rfl) (by decide) (by decide) hC hS (by decide) (fun Q' h => r_checkBooking_b1 hp hz (by decide) (by decide) hx h) (Or.inl ⟨rfl, ?_⟩)
  exact hq
theorem r_whatIf_b2 {X : mX} {C S : Nat} {Q : Outcome → mM → Prop} {w : mWd} {x y z : Int32} (hp : n_pair (w.f 2) x y = true) (hn : ¬ z < w.f 4) (h64 : z < 64) (hg : (32 : Int32) ≤ w.f 3) (hC : 1 ≤ C) (hS : 6 ≤ S) (hx : 23 ≤ w.nx) (hq : Q (.threw 1) (mw (w.mk none 6))) : Sp X 31 8 127 C S (0, [(0, .ref 0), (1, .int (x)), (2, .int (y)), (3, .int (z))], []) (mw w) Q := by
  refine Sp.go 4 (g := (4, [(0, .ref 0), (1, .int (x)), (2, .int (y)), (3, .int (z))], [.int (z), .int (y), .int (x), .ref 0])) rfl ?_
  refine Sp.vt 1 (mw (w.mk none 6)) (k' := 47) (F' := 7) (N' := 104) (C' := 1) (S' := 6) (vs := [.int (x), .int (y), .int (z)]) (st := []) rfl rfl rfl rfl (Nat.le_of_ble_eq_true rfl) (Nat.le_of_ble_eq_true rfl) (by decide) (by decide) hC hS (by decide) (fun Q' h => r_checkBooking_b2 hp hn h64 hg (by decide) (by decide) hx h) (Or.inl ⟨rfl, ?_⟩)
  exact hq
theorem r_book_b2 {X : mX} {C S : Nat} {Q : Outcome → mM → Prop} {w : mWd} {x y z : Int32} (hp : n_pair (w.f 2) x y = true) (hn : ¬ z < w.f 4) (h64 : z < 64) (hg : (32 : Int32) ≤ w.f 3) (hC : 1 ≤ C) (hS : 6 ≤ S) (hx : 23 ≤ w.nx) (hq : Q (.threw 1) (mw (w.mk none 6))) : Sp X 30 8 127 C S (0, [(0, .ref 0), (1, .int (x)), (2, .int (y)), (3, .int (z))], []) (mw w) Q := by
  refine Sp.go 4 (g := (4, [(0, .ref 0), (1, .int (x)), (2, .int (y)), (3, .int (z))], [.int (z), .int (y), .int (x), .ref 0])) rfl ?_
  refine Sp.vt 1 (mw (w.mk none 6)) (k' := 47) (F' := 7) (N' := 104) (C' := 1) (S' := 6) (vs := [.int (x), .int (y), .int (z)]) (st := []) rfl rfl rfl rfl (Nat.le_of_ble_eq_true rfl) (Nat.le_of_ble_eq_true rfl) (by decide) (by decide) hC hS (by decide) (fun Q' h => r_checkBooking_b2 hp hn h64 hg (by decide) (by decide) hx h) (Or.inl ⟨rfl, ?_⟩)
  exact hq
theorem r_whatIf_none {X : mX} {C S : Nat} {Q : Outcome → mM → Prop} {w : mWd} {a g s : Nat} (ha : a < 8) (hgl : g < 8) (hs : s < 64) (hp : n_pair (w.f 2) (nI a) (nI g) = true) (hn : ¬ nI s < w.f 4) (h64 : nI s < 64) (hg : w.f 3 < 32) (ho : w_end w a s g = none) (hq : Q (.returned (some (.int (-1)))) (mw w)) : Sp X 31 8 127 C S (0, [(0, .ref 0), (1, .int (nI a)), (2, .int (nI g)), (3, .int (nI s))], []) (mw w) Q := by
  refine Sp.go 4 (g := (4, [(0, .ref 0), (1, .int (nI a)), (2, .int (nI g)), (3, .int (nI s))], [.int (nI s), .int (nI g), .int (nI a), .ref 0])) rfl ?_
  refine Sp.vr none (mw (w)) (k' := 47) (F' := 7) (N' := 104) (C' := 0) (S' := 0) (vs := [.int (nI a), .int (nI g), .int (nI s)]) (st := []) rfl rfl rfl rfl (Nat.le_of_ble_eq_true rfl) (Nat.le_of_ble_eq_true rfl) (by decide) (by decide) (Nat.zero_le _) (Nat.zero_le _) (fun Q' h => r_checkBooking_ok hp hn h64 hg h) ?_
  refine Sp.go 1 (g := (8, [(0, .ref 0), (1, .int (nI a)), (2, .int (nI g)), (3, .int (nI s))], [.ref 0])) rfl ?_
  refine Sp.get (v := .ref 6) rfl rfl rfl ?_
  refine Sp.go 1 (g := (12, [(0, .ref 0), (1, .int (nI a)), (2, .int (nI g)), (3, .int (nI s))], [.ref 0, .ref 6])) rfl ?_
  refine Sp.get (v := .ref 1) rfl rfl rfl ?_
  refine Sp.go 3 (g := (18, [(0, .ref 0), (1, .int (nI a)), (2, .int (nI g)), (3, .int (nI s))], [.int (nI g), .int (nI s), .int (nI a), .ref 1, .ref 6])) rfl ?_
  refine Sp.vr (some (.int (-1))) (mw (w)) (k' := 20) (F' := 4) (N' := 94) (C' := 0) (S' := 0) (vs := [.ref 1, .int (nI a), .int (nI s), .int (nI g)]) (st := []) rfl rfl rfl rfl (Nat.le_of_ble_eq_true rfl) (Nat.le_of_ble_eq_true rfl) (by decide) (by decide) (Nat.zero_le _) (Nat.zero_le _) (fun Q' h => f_seek_none (by omega) (by omega) ho h) ?_
  refine Sp.iret rfl (Or.inl rfl) ?_
  exact hq
theorem r_whatIf_some {X : mX} {C S : Nat} {Q : Outcome → mM → Prop} {w : mWd} {a g s : Nat} (ha : a < 8) (hgl : g < 8) (hs : s < 64) (hp : n_pair (w.f 2) (nI a) (nI g) = true) (hn : ¬ nI s < w.f 4) (h64 : nI s < 64) (hg : w.f 3 < 32) {e : Nat} (ho : w_end w a s g = some e) (hq : Q (.returned (some (.int (nI e)))) (mw (w_sought w a s e g))) : Sp X 31 8 127 C S (0, [(0, .ref 0), (1, .int (nI a)), (2, .int (nI g)), (3, .int (nI s))], []) (mw w) Q := by
  refine Sp.go 4 (g := (4, [(0, .ref 0), (1, .int (nI a)), (2, .int (nI g)), (3, .int (nI s))], [.int (nI s), .int (nI g), .int (nI a), .ref 0])) rfl ?_
  refine Sp.vr none (mw (w)) (k' := 47) (F' := 7) (N' := 104) (C' := 0) (S' := 0) (vs := [.int (nI a), .int (nI g), .int (nI s)]) (st := []) rfl rfl rfl rfl (Nat.le_of_ble_eq_true rfl) (Nat.le_of_ble_eq_true rfl) (by decide) (by decide) (Nat.zero_le _) (Nat.zero_le _) (fun Q' h => r_checkBooking_ok hp hn h64 hg h) ?_
  refine Sp.go 1 (g := (8, [(0, .ref 0), (1, .int (nI a)), (2, .int (nI g)), (3, .int (nI s))], [.ref 0])) rfl ?_
  refine Sp.get (v := .ref 6) rfl rfl rfl ?_
  refine Sp.go 1 (g := (12, [(0, .ref 0), (1, .int (nI a)), (2, .int (nI g)), (3, .int (nI s))], [.ref 0, .ref 6])) rfl ?_
  refine Sp.get (v := .ref 1) rfl rfl rfl ?_
  refine Sp.go 3 (g := (18, [(0, .ref 0), (1, .int (nI a)), (2, .int (nI g)), (3, .int (nI s))], [.int (nI g), .int (nI s), .int (nI a), .ref 1, .ref 6])) rfl ?_
  refine Sp.vr (some (.int (nI e))) (mw (w_sought w a s e g)) (k' := 20) (F' := 4) (N' := 94) (C' := 0) (S' := 0) (vs := [.ref 1, .int (nI a), .int (nI s), .int (nI g)]) (st := []) rfl rfl rfl rfl (Nat.le_of_ble_eq_true rfl) (Nat.le_of_ble_eq_true rfl) (by decide) (by decide) (Nat.zero_le _) (Nat.zero_le _) (fun Q' h => f_seek_some (by omega) (by omega) (by omega) ho h) ?_
  refine Sp.iret rfl (Or.inl rfl) ?_
  exact hq
theorem r_book_none {X : mX} {C S : Nat} {Q : Outcome → mM → Prop} {w : mWd} {a g s : Nat} (ha : a < 8) (hgl : g < 8) (hs : s < 64) (hp : n_pair (w.f 2) (nI a) (nI g) = true) (hn : ¬ nI s < w.f 4) (h64 : nI s < 64) (hg : w.f 3 < 32) (ho : w_end w a s g = none) (hq : Q (.returned (some (.int (-1)))) (mw w)) : Sp X 30 8 127 C S (0, [(0, .ref 0), (1, .int (nI a)), (2, .int (nI g)), (3, .int (nI s))], []) (mw w) Q := by
  refine Sp.go 4 (g := (4, [(0, .ref 0), (1, .int (nI a)), (2, .int (nI g)), (3, .int (nI s))], [.int (nI s), .int (nI g), .int (nI a), .ref 0])) rfl ?_
  refine Sp.vr none (mw (w)) (k' := 47) (F' := 7) (N' := 104) (C' := 0) (S' := 0) (vs := [.int (nI a), .int (nI g), .int (nI s)]) (st := []) rfl rfl rfl rfl (Nat.le_of_ble_eq_true rfl) (Nat.le_of_ble_eq_true rfl) (by decide) (by decide) (Nat.zero_le _) (Nat.zero_le _) (fun Q' h => r_checkBooking_ok hp hn h64 hg h) ?_
  refine Sp.go 1 (g := (8, [(0, .ref 0), (1, .int (nI a)), (2, .int (nI g)), (3, .int (nI s))], [.ref 0])) rfl ?_
  refine Sp.get (v := .ref 6) rfl rfl rfl ?_
  refine Sp.go 1 (g := (12, [(0, .ref 0), (1, .int (nI a)), (2, .int (nI g)), (3, .int (nI s))], [.ref 0, .ref 6])) rfl ?_
  refine Sp.get (v := .ref 1) rfl rfl rfl ?_
  refine Sp.go 3 (g := (18, [(0, .ref 0), (1, .int (nI a)), (2, .int (nI g)), (3, .int (nI s))], [.int (nI g), .int (nI s), .int (nI a), .ref 1, .ref 6])) rfl ?_
  refine Sp.vr (some (.int (-1))) (mw (w)) (k' := 20) (F' := 4) (N' := 94) (C' := 0) (S' := 0) (vs := [.ref 1, .int (nI a), .int (nI s), .int (nI g)]) (st := []) rfl rfl rfl rfl (Nat.le_of_ble_eq_true rfl) (Nat.le_of_ble_eq_true rfl) (by decide) (by decide) (Nat.zero_le _) (Nat.zero_le _) (fun Q' h => f_seek_none (by omega) (by omega) ho h) ?_
  refine Sp.go 3 (g := (26, [(4, .int (-1)), (0, .ref 0), (1, .int (nI a)), (2, .int (nI g)), (3, .int (nI s))], [.int (-1), .int (-1)])) rfl ?_
  refine Sp.icmp rfl (fun u1 => absurd u1 (fun q => q rfl)) (fun u1 => ?_)
  refine Sp.go 1 (g := (30, [(4, .int (-1)), (0, .ref 0), (1, .int (nI a)), (2, .int (nI g)), (3, .int (nI s))], [.int (-1)])) rfl ?_
  refine Sp.iret rfl (Or.inl rfl) ?_
  exact hq
