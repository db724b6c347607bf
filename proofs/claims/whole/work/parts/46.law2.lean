/-! The law's cases and its loop. Rows laid by wip/gen/law2.py. -/
theorem lg_eq {x y : Int64} (h : x = y) : lg_cmp x y = 0 := by
  rw [h]; unfold lg_cmp
  rw [if_neg (fun z => by have z : y < y := z; rw [Int64.lt_iff_toInt_lt] at z; omega), if_pos rfl]
theorem and15 (x : Int32) : ∃ m, m < 16 ∧ x &&& 15 = nI m := by
  refine ⟨(x &&& 15).toBitVec.toNat, ?_, ?_⟩
  · rw [Int32.toBitVec_and, BitVec.toNat_and]
    have := Nat.and_le_right (n := x.toBitVec.toNat) (m := (15 : Int32).toBitVec.toNat)
    have e : (15 : Int32).toBitVec.toNat = 15 := by decide
    omega
  · refine Int32.toBitVec_inj.mp (BitVec.eq_of_toNat_eq ?_)
    show _ = (BitVec.ofNat 32 (x &&& 15).toBitVec.toNat).toNat
    rw [BitVec.toNat_ofNat, Nat.mod_eq_of_lt (BitVec.isLt _)]
theorem len5 {i n : Nat} (hn : n ≤ 2560) (hi : i ≤ 2600) : nI n - 5 < nI i ↔ n < i + 5 := by
  rw [Int32.lt_iff_toInt_lt, nI_toInt (by omega), Int32.toInt_sub, nI_toInt (by omega)]
  have e : (5 : Int32).toInt = 5 := by decide
  rw [e, Int.bmod_eq_of_le (by omega) (by omega)]
  omega
set_option maxRecDepth 100000 in
theorem l_node {X : mX} {C S : Nat} {Q : Outcome → mM → Prop} {w : mWd} {A : aS} (ho : a_ok A) (hi : a_inv A) (hjc : JC w A) (hjr : JR w A) {i : Nat} (hiL : i + 5 ≤ X.L) (hL : X.L ≤ 2560) (hC : 2 ≤ C) (hS : 70 ≤ S) (kk : ∀ w' A', a_ok A' → a_inv A' → JC w' A' → JR w' A' → Sp X 92 10 193 (C - 2) (S - 70) (901, [(4, .int (nI i)), (3, .ref 22), (2, .ref 10), (1, .ref 0), (0, .retAddr 0)], []) (mw w') Q) : Sp X 92 10 193 C S (116, [(4, .int (nI i)), (3, .ref 22), (2, .ref 10), (1, .ref 0), (0, .retAddr 0)], []) (mw w) Q := by
  have hok := sNode_ok ho hi (X.xs (i + 1)) (X.xs (i + 2))
  have hc : Sp X 27 6 82 2 70 (0, [(0, .ref 0), (1, .int (X.xs (i + 1))), (2, .int (X.xs (i + 2)))], []) (mw w) (s_Qc w (sNode A (X.xs (i + 1)) (X.xs (i + 2))).2.2 (sNode A (X.xs (i + 1)) (X.xs (i + 2))).1 (sNode A (X.xs (i + 1)) (X.xs (i + 2))).2.1 0 1) := c_node ho hjc (by omega) (by omega) (X.xs (i + 1)) (X.xs (i + 2))
  have hm : ∀ w1, JR w1 A → Sp X 65 0 0 0 0 (0, [(0, .ref 10), (1, .int (X.xs (i + 1))), (2, .int (X.xs (i + 2)))], []) (mw w1) (s_Qm w1 (sNode A (X.xs (i + 1)) (X.xs (i + 2))).2.2 (sNode A (X.xs (i + 1)) (X.xs (i + 2))).1 (sNode A (X.xs (i + 1)) (X.xs (i + 2))).2.1) := fun w1 hx => m_node ho hx (X.xs (i + 1)) (X.xs (i + 2))
  generalize sNode A (X.xs (i + 1)) (X.xs (i + 2)) = t at hok hc hm
  refine Sp.go 5 (g := (122, [(4, .int (nI i)), (3, .ref 22), (2, .ref 10), (1, .ref 0), (0, .retAddr 0)], [.int ((nI i) + 1), .retAddr 0, .ref 0])) rfl ?_
  refine Sp.sld (j := i + 1) rfl (m_ix_of (by simp only [nI, Int32.ofNat_add, Int32.ofNat_mul] <;> rfl) (by omega) (by omega)) ?_
  refine Sp.go 4 (g := (128, [(4, .int (nI i)), (3, .ref 22), (2, .ref 10), (1, .ref 0), (0, .retAddr 0)], [.int ((nI i) + 2), .retAddr 0, .int (X.xs (i + 1)), .ref 0])) rfl ?_
  refine Sp.sld (j := i + 2) rfl (m_ix_of (by simp only [nI, Int32.ofNat_add, Int32.ofNat_mul] <;> rfl) (by omega) (by omega)) ?_
  refine Sp.go 1 (g := (130, [(4, .int (nI i)), (3, .ref 22), (2, .ref 10), (1, .ref 0), (0, .retAddr 0)], [.ref 22, .int (X.xs (i + 2)), .int (X.xs (i + 1)), .ref 0])) rfl ?_
  refine Sp.callS (Qc := fun o M' => ∃ (w1 : mWd), (JC w1 t.2.2) ∧ (sM w w1) ∧ (t.1 = 0 → w1.o 0 = t.2.1.toInt64) ∧ o = .returned (some (.int (t.1))) ∧ M' = mw (w1)) (k' := 85) (F' := 7) (N' := 104) (C' := 2) (S' := 70) (vs := [.ref 0, .int (X.xs (i + 1)), .int (X.xs (i + 2)), .ref 22]) (st := []) rfl (by decide) rfl (Nat.le_of_ble_eq_true rfl) (Nat.le_of_ble_eq_true rfl) (by decide) (by decide) hC hS (lh_node (Nat.le_refl _) (Nat.le_refl _) hc (fun w1 g1 g2 g3 => ⟨w1, g1, g2, g3, rfl, rfl⟩)) (fun v M' h => ?_) (fun q M' h => by obtain ⟨_, _, _, _, h, _⟩ := h; cases h)
  obtain ⟨w1, g1, g2, g3, h, rfl⟩ := h
  cases h
  refine Sp.go 6 (g := (141, [(5, .int (t.1)), (4, .int (nI i)), (3, .ref 22), (2, .ref 10), (1, .ref 0), (0, .retAddr 0)], [.int ((nI i) + 1), .retAddr 0, .ref 10])) rfl ?_
  refine Sp.sld (j := i + 1) rfl (m_ix_of (by simp only [nI, Int32.ofNat_add, Int32.ofNat_mul] <;> rfl) (by omega) (by omega)) ?_
  refine Sp.go 4 (g := (147, [(5, .int (t.1)), (4, .int (nI i)), (3, .ref 22), (2, .ref 10), (1, .ref 0), (0, .retAddr 0)], [.int ((nI i) + 2), .retAddr 0, .int (X.xs (i + 1)), .ref 10])) rfl ?_
  refine Sp.sld (j := i + 2) rfl (m_ix_of (by simp only [nI, Int32.ofNat_add, Int32.ofNat_mul] <;> rfl) (by omega) (by omega)) ?_
  refine Sp.callV (Qc := fun o M' => ∃ (w2 : mWd) (v2 : Int32), (JR w2 t.2.2) ∧ (sC w1 w2) ∧ (w2.f 5 = t.1) ∧ (t.1 = 0 → v2 = t.2.1) ∧ o = .returned (some (.int (v2))) ∧ M' = mw (w2)) (k' := 65) (F' := 0) (N' := 0) (C' := 0) (S' := 0) (vs := [.int (X.xs (i + 1)), .int (X.xs (i + 2))]) (st := []) rfl rfl rfl rfl (Nat.le_of_ble_eq_true rfl) (Nat.le_of_ble_eq_true rfl) (by decide) (by decide) (Nat.zero_le _) (Nat.zero_le _) (Sp.mono (hm w1 (hjr.sM g2)) (fun o M h => by obtain ⟨w2, v2, rfl, rfl, k1, k2, k3, k4⟩ := h; exact ⟨w2, v2, k1, k2, k3, k4, rfl, rfl⟩)) (fun v M' h => ?_) (fun q M' h => by obtain ⟨_, _, _, _, _, _, h, _⟩ := h; cases h)
  obtain ⟨w2, v2, k1, k2, k3, k4, h, rfl⟩ := h
  cases h
  refine Sp.go 2 (g := (154, [(6, .int (v2)), (5, .int (t.1)), (4, .int (nI i)), (3, .ref 22), (2, .ref 10), (1, .ref 0), (0, .retAddr 0)], [.ref 10])) rfl ?_
  refine Sp.vr (some (.int (w2.f 5))) (mw (w2)) (k' := 53) (F' := 0) (N' := 0) (C' := 0) (S' := 0) (vs := []) (st := []) rfl rfl rfl rfl (Nat.le_of_ble_eq_true rfl) (Nat.le_of_ble_eq_true rfl) (by decide) (by decide) (Nat.zero_le _) (Nat.zero_le _) (fun Q' h => d_thrown h) ?_
  refine Sp.go 1 (g := (159, [(6, .int (v2)), (5, .int (t.1)), (4, .int (nI i)), (3, .ref 22), (2, .ref 10), (1, .ref 0), (0, .retAddr 0)], [.int (t.1), .int (w2.f 5)])) rfl ?_
  refine Sp.icmp rfl (fun u1 => ?_) (fun u1 => absurd k3 u1)
  refine Sp.go 1 (g := (166, [(6, .int (v2)), (5, .int (t.1)), (4, .int (nI i)), (3, .ref 22), (2, .ref 10), (1, .ref 0), (0, .retAddr 0)], [.int (t.1)])) rfl ?_
  refine Sp.if rfl (fun (h2 : ¬ (t.1 : Int32) = (0 : Int32)) => ?_) (fun (h2 : ¬ (¬ (t.1 : Int32) = (0 : Int32))) => ?_)
  · skip
    refine Sp.go 1 (g := (901, [(6, .int (v2)), (5, .int (t.1)), (4, .int (nI i)), (3, .ref 22), (2, .ref 10), (1, .ref 0), (0, .retAddr 0)], [])) rfl ?_
    refine Sp.lsub [2, 3, 4, 5, 6] (ls' := [(4, .int (nI i)), (3, .ref 22), (2, .ref 10), (1, .ref 0), (0, .retAddr 0)]) rfl ?_
    exact Sp.room (kk w2 t.2.2 hok.1 hok.2 (g1.sC k2) k1) (Nat.le_refl _) (Nat.le_refl _) (by omega) (by omega)
  · skip
    refine Sp.go 2 (g := (171, [(6, .int (v2)), (5, .int (t.1)), (4, .int (nI i)), (3, .ref 22), (2, .ref 10), (1, .ref 0), (0, .retAddr 0)], [.int 0, .ref 22])) rfl ?_
    refine Sp.lald (f := w2.o) (j := 0) rfl rfl (m_ix_of (by rfl) (by omega) (by omega)) ?_
    refine Sp.go 3 (g := (176, [(6, .int (v2)), (5, .int (t.1)), (4, .int (nI i)), (3, .ref 22), (2, .ref 10), (1, .ref 0), (0, .retAddr 0)], [.int (lg_cmp (w2.o 0) ((v2).toInt64))])) rfl ?_
    refine Sp.if rfl (fun u3 => ?_) (fun u3 => absurd (lg_eq (by rw [k2.2.2.2.2.2.2.2.2.2.2.2.2.1, g3 (Classical.not_not.mp h2), k4 (Classical.not_not.mp h2)])) u3)
    refine Sp.go 1 (g := (901, [(6, .int (v2)), (5, .int (t.1)), (4, .int (nI i)), (3, .ref 22), (2, .ref 10), (1, .ref 0), (0, .retAddr 0)], [])) rfl ?_
    refine Sp.lsub [2, 3, 4, 5, 6] (ls' := [(4, .int (nI i)), (3, .ref 22), (2, .ref 10), (1, .ref 0), (0, .retAddr 0)]) rfl ?_
    exact Sp.room (kk w2 t.2.2 hok.1 hok.2 (g1.sC k2) k1) (Nat.le_refl _) (Nat.le_refl _) (by omega) (by omega)
set_option maxRecDepth 100000 in
theorem l_contact {X : mX} {C S : Nat} {Q : Outcome → mM → Prop} {w : mWd} {A : aS} (ho : a_ok A) (hi : a_inv A) (hjc : JC w A) (hjr : JR w A) {i : Nat} (hiL : i + 5 ≤ X.L) (hL : X.L ≤ 2560) (hC : 2 ≤ C) (hS : 70 ≤ S) (kk : ∀ w' A', a_ok A' → a_inv A' → JC w' A' → JR w' A' → Sp X 92 10 193 (C - 2) (S - 70) (901, [(4, .int (nI i)), (3, .ref 22), (2, .ref 10), (1, .ref 0), (0, .retAddr 0)], []) (mw w') Q) : Sp X 92 10 193 C S (184, [(4, .int (nI i)), (3, .ref 22), (2, .ref 10), (1, .ref 0), (0, .retAddr 0)], []) (mw w) Q := by
  have hok := sContact_ok ho hi (X.xs (i + 1)) (X.xs (i + 2)) (X.xs (i + 3)) (X.xs (i + 4))
  have hc : Sp X 28 7 104 2 70 (0, [(0, .ref 0), (1, .int (X.xs (i + 1))), (2, .int (X.xs (i + 2))), (3, .int (X.xs (i + 3))), (4, .int (X.xs (i + 4)))], []) (mw w) (s_Qc w (sContact A (X.xs (i + 1)) (X.xs (i + 2)) (X.xs (i + 3)) (X.xs (i + 4))).2.2 (sContact A (X.xs (i + 1)) (X.xs (i + 2)) (X.xs (i + 3)) (X.xs (i + 4))).1 (sContact A (X.xs (i + 1)) (X.xs (i + 2)) (X.xs (i + 3)) (X.xs (i + 4))).2.1 0 1) := c_contact ho hjc (by omega) (by omega) (X.xs (i + 1)) (X.xs (i + 2)) (X.xs (i + 3)) (X.xs (i + 4))
  have hm : ∀ w1, JR w1 A → Sp X 66 2 43 0 0 (0, [(0, .ref 10), (1, .int (X.xs (i + 1))), (2, .int (X.xs (i + 2))), (3, .int (X.xs (i + 3))), (4, .int (X.xs (i + 4)))], []) (mw w1) (s_Qm w1 (sContact A (X.xs (i + 1)) (X.xs (i + 2)) (X.xs (i + 3)) (X.xs (i + 4))).2.2 (sContact A (X.xs (i + 1)) (X.xs (i + 2)) (X.xs (i + 3)) (X.xs (i + 4))).1 (sContact A (X.xs (i + 1)) (X.xs (i + 2)) (X.xs (i + 3)) (X.xs (i + 4))).2.1) := fun w1 hx => m_contact ho hx (X.xs (i + 1)) (X.xs (i + 2)) (X.xs (i + 3)) (X.xs (i + 4))
  generalize sContact A (X.xs (i + 1)) (X.xs (i + 2)) (X.xs (i + 3)) (X.xs (i + 4)) = t at hok hc hm
  refine Sp.go 5 (g := (190, [(4, .int (nI i)), (3, .ref 22), (2, .ref 10), (1, .ref 0), (0, .retAddr 0)], [.int ((nI i) + 1), .retAddr 0, .ref 0])) rfl ?_
  refine Sp.sld (j := i + 1) rfl (m_ix_of (by simp only [nI, Int32.ofNat_add, Int32.ofNat_mul] <;> rfl) (by omega) (by omega)) ?_
  refine Sp.go 4 (g := (196, [(4, .int (nI i)), (3, .ref 22), (2, .ref 10), (1, .ref 0), (0, .retAddr 0)], [.int ((nI i) + 2), .retAddr 0, .int (X.xs (i + 1)), .ref 0])) rfl ?_
  refine Sp.sld (j := i + 2) rfl (m_ix_of (by simp only [nI, Int32.ofNat_add, Int32.ofNat_mul] <;> rfl) (by omega) (by omega)) ?_
  refine Sp.go 4 (g := (202, [(4, .int (nI i)), (3, .ref 22), (2, .ref 10), (1, .ref 0), (0, .retAddr 0)], [.int ((nI i) + 3), .retAddr 0, .int (X.xs (i + 2)), .int (X.xs (i + 1)), .ref 0])) rfl ?_
  refine Sp.sld (j := i + 3) rfl (m_ix_of (by simp only [nI, Int32.ofNat_add, Int32.ofNat_mul] <;> rfl) (by omega) (by omega)) ?_
  refine Sp.go 4 (g := (208, [(4, .int (nI i)), (3, .ref 22), (2, .ref 10), (1, .ref 0), (0, .retAddr 0)], [.int ((nI i) + 4), .retAddr 0, .int (X.xs (i + 3)), .int (X.xs (i + 2)), .int (X.xs (i + 1)), .ref 0])) rfl ?_
  refine Sp.sld (j := i + 4) rfl (m_ix_of (by simp only [nI, Int32.ofNat_add, Int32.ofNat_mul] <;> rfl) (by omega) (by omega)) ?_
  refine Sp.go 1 (g := (210, [(4, .int (nI i)), (3, .ref 22), (2, .ref 10), (1, .ref 0), (0, .retAddr 0)], [.ref 22, .int (X.xs (i + 4)), .int (X.xs (i + 3)), .int (X.xs (i + 2)), .int (X.xs (i + 1)), .ref 0])) rfl ?_
  refine Sp.callS (Qc := fun o M' => ∃ (w1 : mWd), (JC w1 t.2.2) ∧ (sM w w1) ∧ (t.1 = 0 → w1.o 0 = t.2.1.toInt64) ∧ o = .returned (some (.int (t.1))) ∧ M' = mw (w1)) (k' := 86) (F' := 8) (N' := 128) (C' := 2) (S' := 70) (vs := [.ref 0, .int (X.xs (i + 1)), .int (X.xs (i + 2)), .int (X.xs (i + 3)), .int (X.xs (i + 4)), .ref 22]) (st := []) rfl (by decide) rfl (Nat.le_of_ble_eq_true rfl) (Nat.le_of_ble_eq_true rfl) (by decide) (by decide) hC hS (lh_contact (Nat.le_refl _) (Nat.le_refl _) hc (fun w1 g1 g2 g3 => ⟨w1, g1, g2, g3, rfl, rfl⟩)) (fun v M' h => ?_) (fun q M' h => by obtain ⟨_, _, _, _, h, _⟩ := h; cases h)
  obtain ⟨w1, g1, g2, g3, h, rfl⟩ := h
  cases h
  refine Sp.go 6 (g := (221, [(5, .int (t.1)), (4, .int (nI i)), (3, .ref 22), (2, .ref 10), (1, .ref 0), (0, .retAddr 0)], [.int ((nI i) + 1), .retAddr 0, .ref 10])) rfl ?_
  refine Sp.sld (j := i + 1) rfl (m_ix_of (by simp only [nI, Int32.ofNat_add, Int32.ofNat_mul] <;> rfl) (by omega) (by omega)) ?_
  refine Sp.go 4 (g := (227, [(5, .int (t.1)), (4, .int (nI i)), (3, .ref 22), (2, .ref 10), (1, .ref 0), (0, .retAddr 0)], [.int ((nI i) + 2), .retAddr 0, .int (X.xs (i + 1)), .ref 10])) rfl ?_
  refine Sp.sld (j := i + 2) rfl (m_ix_of (by simp only [nI, Int32.ofNat_add, Int32.ofNat_mul] <;> rfl) (by omega) (by omega)) ?_
  refine Sp.go 4 (g := (233, [(5, .int (t.1)), (4, .int (nI i)), (3, .ref 22), (2, .ref 10), (1, .ref 0), (0, .retAddr 0)], [.int ((nI i) + 3), .retAddr 0, .int (X.xs (i + 2)), .int (X.xs (i + 1)), .ref 10])) rfl ?_
  refine Sp.sld (j := i + 3) rfl (m_ix_of (by simp only [nI, Int32.ofNat_add, Int32.ofNat_mul] <;> rfl) (by omega) (by omega)) ?_
  refine Sp.go 4 (g := (239, [(5, .int (t.1)), (4, .int (nI i)), (3, .ref 22), (2, .ref 10), (1, .ref 0), (0, .retAddr 0)], [.int ((nI i) + 4), .retAddr 0, .int (X.xs (i + 3)), .int (X.xs (i + 2)), .int (X.xs (i + 1)), .ref 10])) rfl ?_
  refine Sp.sld (j := i + 4) rfl (m_ix_of (by simp only [nI, Int32.ofNat_add, Int32.ofNat_mul] <;> rfl) (by omega) (by omega)) ?_
  refine Sp.callV (Qc := fun o M' => ∃ (w2 : mWd) (v2 : Int32), (JR w2 t.2.2) ∧ (sC w1 w2) ∧ (w2.f 5 = t.1) ∧ (t.1 = 0 → v2 = t.2.1) ∧ o = .returned (some (.int (v2))) ∧ M' = mw (w2)) (k' := 66) (F' := 2) (N' := 43) (C' := 0) (S' := 0) (vs := [.int (X.xs (i + 1)), .int (X.xs (i + 2)), .int (X.xs (i + 3)), .int (X.xs (i + 4))]) (st := []) rfl rfl rfl rfl (Nat.le_of_ble_eq_true rfl) (Nat.le_of_ble_eq_true rfl) (by decide) (by decide) (Nat.zero_le _) (Nat.zero_le _) (Sp.mono (hm w1 (hjr.sM g2)) (fun o M h => by obtain ⟨w2, v2, rfl, rfl, k1, k2, k3, k4⟩ := h; exact ⟨w2, v2, k1, k2, k3, k4, rfl, rfl⟩)) (fun v M' h => ?_) (fun q M' h => by obtain ⟨_, _, _, _, _, _, h, _⟩ := h; cases h)
  obtain ⟨w2, v2, k1, k2, k3, k4, h, rfl⟩ := h
  cases h
  refine Sp.go 2 (g := (246, [(6, .int (v2)), (5, .int (t.1)), (4, .int (nI i)), (3, .ref 22), (2, .ref 10), (1, .ref 0), (0, .retAddr 0)], [.ref 10])) rfl ?_
  refine Sp.vr (some (.int (w2.f 5))) (mw (w2)) (k' := 53) (F' := 0) (N' := 0) (C' := 0) (S' := 0) (vs := []) (st := []) rfl rfl rfl rfl (Nat.le_of_ble_eq_true rfl) (Nat.le_of_ble_eq_true rfl) (by decide) (by decide) (Nat.zero_le _) (Nat.zero_le _) (fun Q' h => d_thrown h) ?_
  refine Sp.go 1 (g := (251, [(6, .int (v2)), (5, .int (t.1)), (4, .int (nI i)), (3, .ref 22), (2, .ref 10), (1, .ref 0), (0, .retAddr 0)], [.int (t.1), .int (w2.f 5)])) rfl ?_
  refine Sp.icmp rfl (fun u1 => ?_) (fun u1 => absurd k3 u1)
  refine Sp.go 1 (g := (258, [(6, .int (v2)), (5, .int (t.1)), (4, .int (nI i)), (3, .ref 22), (2, .ref 10), (1, .ref 0), (0, .retAddr 0)], [.int (t.1)])) rfl ?_
  refine Sp.if rfl (fun (h2 : ¬ (t.1 : Int32) = (0 : Int32)) => ?_) (fun (h2 : ¬ (¬ (t.1 : Int32) = (0 : Int32))) => ?_)
  · skip
    refine Sp.go 1 (g := (901, [(6, .int (v2)), (5, .int (t.1)), (4, .int (nI i)), (3, .ref 22), (2, .ref 10), (1, .ref 0), (0, .retAddr 0)], [])) rfl ?_
    refine Sp.lsub [2, 3, 4, 5, 6] (ls' := [(4, .int (nI i)), (3, .ref 22), (2, .ref 10), (1, .ref 0), (0, .retAddr 0)]) rfl ?_
    exact Sp.room (kk w2 t.2.2 hok.1 hok.2 (g1.sC k2) k1) (Nat.le_refl _) (Nat.le_refl _) (by omega) (by omega)
  · skip
    refine Sp.go 2 (g := (263, [(6, .int (v2)), (5, .int (t.1)), (4, .int (nI i)), (3, .ref 22), (2, .ref 10), (1, .ref 0), (0, .retAddr 0)], [.int 0, .ref 22])) rfl ?_
    refine Sp.lald (f := w2.o) (j := 0) rfl rfl (m_ix_of (by rfl) (by omega) (by omega)) ?_
    refine Sp.go 3 (g := (268, [(6, .int (v2)), (5, .int (t.1)), (4, .int (nI i)), (3, .ref 22), (2, .ref 10), (1, .ref 0), (0, .retAddr 0)], [.int (lg_cmp (w2.o 0) ((v2).toInt64))])) rfl ?_
    refine Sp.if rfl (fun u3 => ?_) (fun u3 => absurd (lg_eq (by rw [k2.2.2.2.2.2.2.2.2.2.2.2.2.1, g3 (Classical.not_not.mp h2), k4 (Classical.not_not.mp h2)])) u3)
    refine Sp.go 1 (g := (901, [(6, .int (v2)), (5, .int (t.1)), (4, .int (nI i)), (3, .ref 22), (2, .ref 10), (1, .ref 0), (0, .retAddr 0)], [])) rfl ?_
    refine Sp.lsub [2, 3, 4, 5, 6] (ls' := [(4, .int (nI i)), (3, .ref 22), (2, .ref 10), (1, .ref 0), (0, .retAddr 0)]) rfl ?_
    exact Sp.room (kk w2 t.2.2 hok.1 hok.2 (g1.sC k2) k1) (Nat.le_refl _) (Nat.le_refl _) (by omega) (by omega)
set_option maxRecDepth 100000 in
theorem l_book {X : mX} {C S : Nat} {Q : Outcome → mM → Prop} {w : mWd} {A : aS} (ho : a_ok A) (hi : a_inv A) (hjc : JC w A) (hjr : JR w A) {i : Nat} (hiL : i + 5 ≤ X.L) (hL : X.L ≤ 2560) (hC : 2 ≤ C) (hS : 70 ≤ S) (kk : ∀ w' A', a_ok A' → a_inv A' → JC w' A' → JR w' A' → Sp X 92 10 193 (C - 2) (S - 70) (901, [(4, .int (nI i)), (3, .ref 22), (2, .ref 10), (1, .ref 0), (0, .retAddr 0)], []) (mw w') Q) : Sp X 92 10 193 C S (289, [(4, .int (nI i)), (3, .ref 22), (2, .ref 10), (1, .ref 0), (0, .retAddr 0)], []) (mw w) Q := by
  have hok := sBook_ok ho hi (X.xs (i + 1)) (X.xs (i + 2)) (X.xs (i + 3))
  have hc : Sp X 30 8 127 2 70 (0, [(0, .ref 0), (1, .int (X.xs (i + 1))), (2, .int (X.xs (i + 2))), (3, .int (X.xs (i + 3)))], []) (mw w) (s_Qc w (sBook A (X.xs (i + 1)) (X.xs (i + 2)) (X.xs (i + 3))).2.2 (sBook A (X.xs (i + 1)) (X.xs (i + 2)) (X.xs (i + 3))).1 (sBook A (X.xs (i + 1)) (X.xs (i + 2)) (X.xs (i + 3))).2.1 0 1) := c_book ho hi hjc (by omega) (by omega) (X.xs (i + 1)) (X.xs (i + 2)) (X.xs (i + 3))
  have hm : ∀ w1, JR w1 A → Sp X 69 5 123 0 0 (0, [(0, .ref 10), (1, .int (X.xs (i + 1))), (2, .int (X.xs (i + 2))), (3, .int (X.xs (i + 3)))], []) (mw w1) (s_Qm w1 (sBook A (X.xs (i + 1)) (X.xs (i + 2)) (X.xs (i + 3))).2.2 (sBook A (X.xs (i + 1)) (X.xs (i + 2)) (X.xs (i + 3))).1 (sBook A (X.xs (i + 1)) (X.xs (i + 2)) (X.xs (i + 3))).2.1) := fun w1 hx => m_book ho hi hx (X.xs (i + 1)) (X.xs (i + 2)) (X.xs (i + 3))
  generalize sBook A (X.xs (i + 1)) (X.xs (i + 2)) (X.xs (i + 3)) = t at hok hc hm
  refine Sp.go 5 (g := (295, [(4, .int (nI i)), (3, .ref 22), (2, .ref 10), (1, .ref 0), (0, .retAddr 0)], [.int ((nI i) + 1), .retAddr 0, .ref 0])) rfl ?_
  refine Sp.sld (j := i + 1) rfl (m_ix_of (by simp only [nI, Int32.ofNat_add, Int32.ofNat_mul] <;> rfl) (by omega) (by omega)) ?_
  refine Sp.go 4 (g := (301, [(4, .int (nI i)), (3, .ref 22), (2, .ref 10), (1, .ref 0), (0, .retAddr 0)], [.int ((nI i) + 2), .retAddr 0, .int (X.xs (i + 1)), .ref 0])) rfl ?_
  refine Sp.sld (j := i + 2) rfl (m_ix_of (by simp only [nI, Int32.ofNat_add, Int32.ofNat_mul] <;> rfl) (by omega) (by omega)) ?_
  refine Sp.go 4 (g := (307, [(4, .int (nI i)), (3, .ref 22), (2, .ref 10), (1, .ref 0), (0, .retAddr 0)], [.int ((nI i) + 3), .retAddr 0, .int (X.xs (i + 2)), .int (X.xs (i + 1)), .ref 0])) rfl ?_
  refine Sp.sld (j := i + 3) rfl (m_ix_of (by simp only [nI, Int32.ofNat_add, Int32.ofNat_mul] <;> rfl) (by omega) (by omega)) ?_
  refine Sp.go 1 (g := (309, [(4, .int (nI i)), (3, .ref 22), (2, .ref 10), (1, .ref 0), (0, .retAddr 0)], [.ref 22, .int (X.xs (i + 3)), .int (X.xs (i + 2)), .int (X.xs (i + 1)), .ref 0])) rfl ?_
  refine Sp.callS (Qc := fun o M' => ∃ (w1 : mWd), (JC w1 t.2.2) ∧ (sM w w1) ∧ (t.1 = 0 → w1.o 0 = t.2.1.toInt64) ∧ o = .returned (some (.int (t.1))) ∧ M' = mw (w1)) (k' := 87) (F' := 9) (N' := 152) (C' := 2) (S' := 70) (vs := [.ref 0, .int (X.xs (i + 1)), .int (X.xs (i + 2)), .int (X.xs (i + 3)), .ref 22]) (st := []) rfl (by decide) rfl (Nat.le_of_ble_eq_true rfl) (Nat.le_of_ble_eq_true rfl) (by decide) (by decide) hC hS (lh_book (Nat.le_refl _) (Nat.le_refl _) hc (fun w1 g1 g2 g3 => ⟨w1, g1, g2, g3, rfl, rfl⟩)) (fun v M' h => ?_) (fun q M' h => by obtain ⟨_, _, _, _, h, _⟩ := h; cases h)
  obtain ⟨w1, g1, g2, g3, h, rfl⟩ := h
  cases h
  refine Sp.go 6 (g := (320, [(5, .int (t.1)), (4, .int (nI i)), (3, .ref 22), (2, .ref 10), (1, .ref 0), (0, .retAddr 0)], [.int ((nI i) + 1), .retAddr 0, .ref 10])) rfl ?_
  refine Sp.sld (j := i + 1) rfl (m_ix_of (by simp only [nI, Int32.ofNat_add, Int32.ofNat_mul] <;> rfl) (by omega) (by omega)) ?_
  refine Sp.go 4 (g := (326, [(5, .int (t.1)), (4, .int (nI i)), (3, .ref 22), (2, .ref 10), (1, .ref 0), (0, .retAddr 0)], [.int ((nI i) + 2), .retAddr 0, .int (X.xs (i + 1)), .ref 10])) rfl ?_
  refine Sp.sld (j := i + 2) rfl (m_ix_of (by simp only [nI, Int32.ofNat_add, Int32.ofNat_mul] <;> rfl) (by omega) (by omega)) ?_
  refine Sp.go 4 (g := (332, [(5, .int (t.1)), (4, .int (nI i)), (3, .ref 22), (2, .ref 10), (1, .ref 0), (0, .retAddr 0)], [.int ((nI i) + 3), .retAddr 0, .int (X.xs (i + 2)), .int (X.xs (i + 1)), .ref 10])) rfl ?_
  refine Sp.sld (j := i + 3) rfl (m_ix_of (by simp only [nI, Int32.ofNat_add, Int32.ofNat_mul] <;> rfl) (by omega) (by omega)) ?_
  refine Sp.callV (Qc := fun o M' => ∃ (w2 : mWd) (v2 : Int32), (JR w2 t.2.2) ∧ (sC w1 w2) ∧ (w2.f 5 = t.1) ∧ (t.1 = 0 → v2 = t.2.1) ∧ o = .returned (some (.int (v2))) ∧ M' = mw (w2)) (k' := 69) (F' := 5) (N' := 123) (C' := 0) (S' := 0) (vs := [.int (X.xs (i + 1)), .int (X.xs (i + 2)), .int (X.xs (i + 3))]) (st := []) rfl rfl rfl rfl (Nat.le_of_ble_eq_true rfl) (Nat.le_of_ble_eq_true rfl) (by decide) (by decide) (Nat.zero_le _) (Nat.zero_le _) (Sp.mono (hm w1 (hjr.sM g2)) (fun o M h => by obtain ⟨w2, v2, rfl, rfl, k1, k2, k3, k4⟩ := h; exact ⟨w2, v2, k1, k2, k3, k4, rfl, rfl⟩)) (fun v M' h => ?_) (fun q M' h => by obtain ⟨_, _, _, _, _, _, h, _⟩ := h; cases h)
  obtain ⟨w2, v2, k1, k2, k3, k4, h, rfl⟩ := h
  cases h
  refine Sp.go 2 (g := (339, [(6, .int (v2)), (5, .int (t.1)), (4, .int (nI i)), (3, .ref 22), (2, .ref 10), (1, .ref 0), (0, .retAddr 0)], [.ref 10])) rfl ?_
  refine Sp.vr (some (.int (w2.f 5))) (mw (w2)) (k' := 53) (F' := 0) (N' := 0) (C' := 0) (S' := 0) (vs := []) (st := []) rfl rfl rfl rfl (Nat.le_of_ble_eq_true rfl) (Nat.le_of_ble_eq_true rfl) (by decide) (by decide) (Nat.zero_le _) (Nat.zero_le _) (fun Q' h => d_thrown h) ?_
  refine Sp.go 1 (g := (344, [(6, .int (v2)), (5, .int (t.1)), (4, .int (nI i)), (3, .ref 22), (2, .ref 10), (1, .ref 0), (0, .retAddr 0)], [.int (t.1), .int (w2.f 5)])) rfl ?_
  refine Sp.icmp rfl (fun u1 => ?_) (fun u1 => absurd k3 u1)
  refine Sp.go 1 (g := (351, [(6, .int (v2)), (5, .int (t.1)), (4, .int (nI i)), (3, .ref 22), (2, .ref 10), (1, .ref 0), (0, .retAddr 0)], [.int (t.1)])) rfl ?_
  refine Sp.if rfl (fun (h2 : ¬ (t.1 : Int32) = (0 : Int32)) => ?_) (fun (h2 : ¬ (¬ (t.1 : Int32) = (0 : Int32))) => ?_)
  · skip
    refine Sp.go 1 (g := (901, [(6, .int (v2)), (5, .int (t.1)), (4, .int (nI i)), (3, .ref 22), (2, .ref 10), (1, .ref 0), (0, .retAddr 0)], [])) rfl ?_
    refine Sp.lsub [2, 3, 4, 5, 6] (ls' := [(4, .int (nI i)), (3, .ref 22), (2, .ref 10), (1, .ref 0), (0, .retAddr 0)]) rfl ?_
    exact Sp.room (kk w2 t.2.2 hok.1 hok.2 (g1.sC k2) k1) (Nat.le_refl _) (Nat.le_refl _) (by omega) (by omega)
  · skip
    refine Sp.go 2 (g := (356, [(6, .int (v2)), (5, .int (t.1)), (4, .int (nI i)), (3, .ref 22), (2, .ref 10), (1, .ref 0), (0, .retAddr 0)], [.int 0, .ref 22])) rfl ?_
    refine Sp.lald (f := w2.o) (j := 0) rfl rfl (m_ix_of (by rfl) (by omega) (by omega)) ?_
    refine Sp.go 3 (g := (361, [(6, .int (v2)), (5, .int (t.1)), (4, .int (nI i)), (3, .ref 22), (2, .ref 10), (1, .ref 0), (0, .retAddr 0)], [.int (lg_cmp (w2.o 0) ((v2).toInt64))])) rfl ?_
    refine Sp.if rfl (fun u3 => ?_) (fun u3 => absurd (lg_eq (by rw [k2.2.2.2.2.2.2.2.2.2.2.2.2.1, g3 (Classical.not_not.mp h2), k4 (Classical.not_not.mp h2)])) u3)
    refine Sp.go 1 (g := (901, [(6, .int (v2)), (5, .int (t.1)), (4, .int (nI i)), (3, .ref 22), (2, .ref 10), (1, .ref 0), (0, .retAddr 0)], [])) rfl ?_
    refine Sp.lsub [2, 3, 4, 5, 6] (ls' := [(4, .int (nI i)), (3, .ref 22), (2, .ref 10), (1, .ref 0), (0, .retAddr 0)]) rfl ?_
    exact Sp.room (kk w2 t.2.2 hok.1 hok.2 (g1.sC k2) k1) (Nat.le_refl _) (Nat.le_refl _) (by omega) (by omega)
set_option maxRecDepth 100000 in
theorem l_whatIf {X : mX} {C S : Nat} {Q : Outcome → mM → Prop} {w : mWd} {A : aS} (ho : a_ok A) (hi : a_inv A) (hjc : JC w A) (hjr : JR w A) {i : Nat} (hiL : i + 5 ≤ X.L) (hL : X.L ≤ 2560) (hC : 2 ≤ C) (hS : 70 ≤ S) (kk : ∀ w' A', a_ok A' → a_inv A' → JC w' A' → JR w' A' → Sp X 92 10 193 (C - 2) (S - 70) (901, [(4, .int (nI i)), (3, .ref 22), (2, .ref 10), (1, .ref 0), (0, .retAddr 0)], []) (mw w') Q) : Sp X 92 10 193 C S (369, [(4, .int (nI i)), (3, .ref 22), (2, .ref 10), (1, .ref 0), (0, .retAddr 0)], []) (mw w) Q := by
  have hok : a_ok (sWhat A (X.xs (i + 1)) (X.xs (i + 2)) (X.xs (i + 3))).2.2 ∧ a_inv (sWhat A (X.xs (i + 1)) (X.xs (i + 2)) (X.xs (i + 3))).2.2 := ⟨ho, hi⟩
  have hc : Sp X 31 8 127 2 70 (0, [(0, .ref 0), (1, .int (X.xs (i + 1))), (2, .int (X.xs (i + 2))), (3, .int (X.xs (i + 3)))], []) (mw w) (s_Qc w (sWhat A (X.xs (i + 1)) (X.xs (i + 2)) (X.xs (i + 3))).2.2 (sWhat A (X.xs (i + 1)) (X.xs (i + 2)) (X.xs (i + 3))).1 (sWhat A (X.xs (i + 1)) (X.xs (i + 2)) (X.xs (i + 3))).2.1 0 1) := c_whatIf ho hi hjc (by omega) (by omega) (X.xs (i + 1)) (X.xs (i + 2)) (X.xs (i + 3))
  have hm : ∀ w1, JR w1 A → Sp X 70 5 123 0 0 (0, [(0, .ref 10), (1, .int (X.xs (i + 1))), (2, .int (X.xs (i + 2))), (3, .int (X.xs (i + 3)))], []) (mw w1) (s_Qm w1 (sWhat A (X.xs (i + 1)) (X.xs (i + 2)) (X.xs (i + 3))).2.2 (sWhat A (X.xs (i + 1)) (X.xs (i + 2)) (X.xs (i + 3))).1 (sWhat A (X.xs (i + 1)) (X.xs (i + 2)) (X.xs (i + 3))).2.1) := fun w1 hx => m_whatIf ho hx (X.xs (i + 1)) (X.xs (i + 2)) (X.xs (i + 3))
  generalize sWhat A (X.xs (i + 1)) (X.xs (i + 2)) (X.xs (i + 3)) = t at hok hc hm
  refine Sp.go 5 (g := (375, [(4, .int (nI i)), (3, .ref 22), (2, .ref 10), (1, .ref 0), (0, .retAddr 0)], [.int ((nI i) + 1), .retAddr 0, .ref 0])) rfl ?_
  refine Sp.sld (j := i + 1) rfl (m_ix_of (by simp only [nI, Int32.ofNat_add, Int32.ofNat_mul] <;> rfl) (by omega) (by omega)) ?_
  refine Sp.go 4 (g := (381, [(4, .int (nI i)), (3, .ref 22), (2, .ref 10), (1, .ref 0), (0, .retAddr 0)], [.int ((nI i) + 2), .retAddr 0, .int (X.xs (i + 1)), .ref 0])) rfl ?_
  refine Sp.sld (j := i + 2) rfl (m_ix_of (by simp only [nI, Int32.ofNat_add, Int32.ofNat_mul] <;> rfl) (by omega) (by omega)) ?_
  refine Sp.go 4 (g := (387, [(4, .int (nI i)), (3, .ref 22), (2, .ref 10), (1, .ref 0), (0, .retAddr 0)], [.int ((nI i) + 3), .retAddr 0, .int (X.xs (i + 2)), .int (X.xs (i + 1)), .ref 0])) rfl ?_
  refine Sp.sld (j := i + 3) rfl (m_ix_of (by simp only [nI, Int32.ofNat_add, Int32.ofNat_mul] <;> rfl) (by omega) (by omega)) ?_
  refine Sp.go 1 (g := (389, [(4, .int (nI i)), (3, .ref 22), (2, .ref 10), (1, .ref 0), (0, .retAddr 0)], [.ref 22, .int (X.xs (i + 3)), .int (X.xs (i + 2)), .int (X.xs (i + 1)), .ref 0])) rfl ?_
  refine Sp.callS (Qc := fun o M' => ∃ (w1 : mWd), (JC w1 t.2.2) ∧ (sM w w1) ∧ (t.1 = 0 → w1.o 0 = t.2.1.toInt64) ∧ o = .returned (some (.int (t.1))) ∧ M' = mw (w1)) (k' := 88) (F' := 9) (N' := 150) (C' := 2) (S' := 70) (vs := [.ref 0, .int (X.xs (i + 1)), .int (X.xs (i + 2)), .int (X.xs (i + 3)), .ref 22]) (st := []) rfl (by decide) rfl (Nat.le_of_ble_eq_true rfl) (Nat.le_of_ble_eq_true rfl) (by decide) (by decide) hC hS (lh_whatIf (Nat.le_refl _) (Nat.le_refl _) hc (fun w1 g1 g2 g3 => ⟨w1, g1, g2, g3, rfl, rfl⟩)) (fun v M' h => ?_) (fun q M' h => by obtain ⟨_, _, _, _, h, _⟩ := h; cases h)
  obtain ⟨w1, g1, g2, g3, h, rfl⟩ := h
  cases h
  refine Sp.go 6 (g := (400, [(5, .int (t.1)), (4, .int (nI i)), (3, .ref 22), (2, .ref 10), (1, .ref 0), (0, .retAddr 0)], [.int ((nI i) + 1), .retAddr 0, .ref 10])) rfl ?_
  refine Sp.sld (j := i + 1) rfl (m_ix_of (by simp only [nI, Int32.ofNat_add, Int32.ofNat_mul] <;> rfl) (by omega) (by omega)) ?_
  refine Sp.go 4 (g := (406, [(5, .int (t.1)), (4, .int (nI i)), (3, .ref 22), (2, .ref 10), (1, .ref 0), (0, .retAddr 0)], [.int ((nI i) + 2), .retAddr 0, .int (X.xs (i + 1)), .ref 10])) rfl ?_
  refine Sp.sld (j := i + 2) rfl (m_ix_of (by simp only [nI, Int32.ofNat_add, Int32.ofNat_mul] <;> rfl) (by omega) (by omega)) ?_
  refine Sp.go 4 (g := (412, [(5, .int (t.1)), (4, .int (nI i)), (3, .ref 22), (2, .ref 10), (1, .ref 0), (0, .retAddr 0)], [.int ((nI i) + 3), .retAddr 0, .int (X.xs (i + 2)), .int (X.xs (i + 1)), .ref 10])) rfl ?_
  refine Sp.sld (j := i + 3) rfl (m_ix_of (by simp only [nI, Int32.ofNat_add, Int32.ofNat_mul] <;> rfl) (by omega) (by omega)) ?_
  refine Sp.callV (Qc := fun o M' => ∃ (w2 : mWd) (v2 : Int32), (JR w2 t.2.2) ∧ (sC w1 w2) ∧ (w2.f 5 = t.1) ∧ (t.1 = 0 → v2 = t.2.1) ∧ o = .returned (some (.int (v2))) ∧ M' = mw (w2)) (k' := 70) (F' := 5) (N' := 123) (C' := 0) (S' := 0) (vs := [.int (X.xs (i + 1)), .int (X.xs (i + 2)), .int (X.xs (i + 3))]) (st := []) rfl rfl rfl rfl (Nat.le_of_ble_eq_true rfl) (Nat.le_of_ble_eq_true rfl) (by decide) (by decide) (Nat.zero_le _) (Nat.zero_le _) (Sp.mono (hm w1 (hjr.sM g2)) (fun o M h => by obtain ⟨w2, v2, rfl, rfl, k1, k2, k3, k4⟩ := h; exact ⟨w2, v2, k1, k2, k3, k4, rfl, rfl⟩)) (fun v M' h => ?_) (fun q M' h => by obtain ⟨_, _, _, _, _, _, h, _⟩ := h; cases h)
  obtain ⟨w2, v2, k1, k2, k3, k4, h, rfl⟩ := h
  cases h
  refine Sp.go 2 (g := (419, [(6, .int (v2)), (5, .int (t.1)), (4, .int (nI i)), (3, .ref 22), (2, .ref 10), (1, .ref 0), (0, .retAddr 0)], [.ref 10])) rfl ?_
  refine Sp.vr (some (.int (w2.f 5))) (mw (w2)) (k' := 53) (F' := 0) (N' := 0) (C' := 0) (S' := 0) (vs := []) (st := []) rfl rfl rfl rfl (Nat.le_of_ble_eq_true rfl) (Nat.le_of_ble_eq_true rfl) (by decide) (by decide) (Nat.zero_le _) (Nat.zero_le _) (fun Q' h => d_thrown h) ?_
  refine Sp.go 1 (g := (424, [(6, .int (v2)), (5, .int (t.1)), (4, .int (nI i)), (3, .ref 22), (2, .ref 10), (1, .ref 0), (0, .retAddr 0)], [.int (t.1), .int (w2.f 5)])) rfl ?_
  refine Sp.icmp rfl (fun u1 => ?_) (fun u1 => absurd k3 u1)
  refine Sp.go 1 (g := (431, [(6, .int (v2)), (5, .int (t.1)), (4, .int (nI i)), (3, .ref 22), (2, .ref 10), (1, .ref 0), (0, .retAddr 0)], [.int (t.1)])) rfl ?_
  refine Sp.if rfl (fun (h2 : ¬ (t.1 : Int32) = (0 : Int32)) => ?_) (fun (h2 : ¬ (¬ (t.1 : Int32) = (0 : Int32))) => ?_)
  · skip
    refine Sp.go 1 (g := (901, [(6, .int (v2)), (5, .int (t.1)), (4, .int (nI i)), (3, .ref 22), (2, .ref 10), (1, .ref 0), (0, .retAddr 0)], [])) rfl ?_
    refine Sp.lsub [2, 3, 4, 5, 6] (ls' := [(4, .int (nI i)), (3, .ref 22), (2, .ref 10), (1, .ref 0), (0, .retAddr 0)]) rfl ?_
    exact Sp.room (kk w2 t.2.2 hok.1 hok.2 (g1.sC k2) k1) (Nat.le_refl _) (Nat.le_refl _) (by omega) (by omega)
  · skip
    refine Sp.go 2 (g := (436, [(6, .int (v2)), (5, .int (t.1)), (4, .int (nI i)), (3, .ref 22), (2, .ref 10), (1, .ref 0), (0, .retAddr 0)], [.int 0, .ref 22])) rfl ?_
    refine Sp.lald (f := w2.o) (j := 0) rfl rfl (m_ix_of (by rfl) (by omega) (by omega)) ?_
    refine Sp.go 3 (g := (441, [(6, .int (v2)), (5, .int (t.1)), (4, .int (nI i)), (3, .ref 22), (2, .ref 10), (1, .ref 0), (0, .retAddr 0)], [.int (lg_cmp (w2.o 0) ((v2).toInt64))])) rfl ?_
    refine Sp.if rfl (fun u3 => ?_) (fun u3 => absurd (lg_eq (by rw [k2.2.2.2.2.2.2.2.2.2.2.2.2.1, g3 (Classical.not_not.mp h2), k4 (Classical.not_not.mp h2)])) u3)
    refine Sp.go 1 (g := (901, [(6, .int (v2)), (5, .int (t.1)), (4, .int (nI i)), (3, .ref 22), (2, .ref 10), (1, .ref 0), (0, .retAddr 0)], [])) rfl ?_
    refine Sp.lsub [2, 3, 4, 5, 6] (ls' := [(4, .int (nI i)), (3, .ref 22), (2, .ref 10), (1, .ref 0), (0, .retAddr 0)]) rfl ?_
    exact Sp.room (kk w2 t.2.2 hok.1 hok.2 (g1.sC k2) k1) (Nat.le_refl _) (Nat.le_refl _) (by omega) (by omega)
set_option maxRecDepth 100000 in
theorem l_cancel {X : mX} {C S : Nat} {Q : Outcome → mM → Prop} {w : mWd} {A : aS} (ho : a_ok A) (hi : a_inv A) (hjc : JC w A) (hjr : JR w A) {i : Nat} (hiL : i + 5 ≤ X.L) (hL : X.L ≤ 2560) (hC : 2 ≤ C) (hS : 70 ≤ S) (kk : ∀ w' A', a_ok A' → a_inv A' → JC w' A' → JR w' A' → Sp X 92 10 193 (C - 2) (S - 70) (901, [(4, .int (nI i)), (3, .ref 22), (2, .ref 10), (1, .ref 0), (0, .retAddr 0)], []) (mw w') Q) : Sp X 92 10 193 C S (449, [(4, .int (nI i)), (3, .ref 22), (2, .ref 10), (1, .ref 0), (0, .retAddr 0)], []) (mw w) Q := by
  have hok := sCancel_ok ho hi (X.xs (i + 1))
  have hc : Sp X 32 6 82 2 70 (0, [(0, .ref 0), (1, .int (X.xs (i + 1)))], []) (mw w) (s_Qc w (sCancel A (X.xs (i + 1))).2.2 (sCancel A (X.xs (i + 1))).1 (sCancel A (X.xs (i + 1))).2.1 2 1) := c_cancel ho hi hjc (by omega) (by omega) (X.xs (i + 1))
  have hm : ∀ w1, JR w1 A → Sp X 74 2 42 0 0 (0, [(0, .ref 10), (1, .int (X.xs (i + 1)))], []) (mw w1) (s_Qm w1 (sCancel A (X.xs (i + 1))).2.2 (sCancel A (X.xs (i + 1))).1 (sCancel A (X.xs (i + 1))).2.1) := fun w1 hx => m_cancel ho hi hx (X.xs (i + 1))
  generalize sCancel A (X.xs (i + 1)) = t at hok hc hm
  refine Sp.go 5 (g := (455, [(4, .int (nI i)), (3, .ref 22), (2, .ref 10), (1, .ref 0), (0, .retAddr 0)], [.int ((nI i) + 1), .retAddr 0, .ref 0])) rfl ?_
  refine Sp.sld (j := i + 1) rfl (m_ix_of (by simp only [nI, Int32.ofNat_add, Int32.ofNat_mul] <;> rfl) (by omega) (by omega)) ?_
  refine Sp.go 1 (g := (457, [(4, .int (nI i)), (3, .ref 22), (2, .ref 10), (1, .ref 0), (0, .retAddr 0)], [.ref 22, .int (X.xs (i + 1)), .ref 0])) rfl ?_
  refine Sp.callS (Qc := fun o M' => ∃ (w1 : mWd), (JC w1 t.2.2) ∧ (sM w w1) ∧ (t.1 = 0 → w1.o 0 = t.2.1.toInt64) ∧ o = .returned (some (.int (t.1))) ∧ M' = mw (w1)) (k' := 89) (F' := 7) (N' := 104) (C' := 2) (S' := 70) (vs := [.ref 0, .int (X.xs (i + 1)), .ref 22]) (st := []) rfl (by decide) rfl (Nat.le_of_ble_eq_true rfl) (Nat.le_of_ble_eq_true rfl) (by decide) (by decide) hC hS (lh_cancel (Nat.le_refl _) (Nat.le_refl _) hc (fun w1 g1 g2 g3 => ⟨w1, g1, g2, g3, rfl, rfl⟩)) (fun v M' h => ?_) (fun q M' h => by obtain ⟨_, _, _, _, h, _⟩ := h; cases h)
  obtain ⟨w1, g1, g2, g3, h, rfl⟩ := h
  cases h
  refine Sp.go 6 (g := (468, [(5, .int (t.1)), (4, .int (nI i)), (3, .ref 22), (2, .ref 10), (1, .ref 0), (0, .retAddr 0)], [.int ((nI i) + 1), .retAddr 0, .ref 10])) rfl ?_
  refine Sp.sld (j := i + 1) rfl (m_ix_of (by simp only [nI, Int32.ofNat_add, Int32.ofNat_mul] <;> rfl) (by omega) (by omega)) ?_
  refine Sp.callV (Qc := fun o M' => ∃ (w2 : mWd) (v2 : Int32), (JR w2 t.2.2) ∧ (sC w1 w2) ∧ (w2.f 5 = t.1) ∧ (t.1 = 0 → v2 = t.2.1) ∧ o = .returned (some (.int (v2))) ∧ M' = mw (w2)) (k' := 74) (F' := 2) (N' := 42) (C' := 0) (S' := 0) (vs := [.int (X.xs (i + 1))]) (st := []) rfl rfl rfl rfl (Nat.le_of_ble_eq_true rfl) (Nat.le_of_ble_eq_true rfl) (by decide) (by decide) (Nat.zero_le _) (Nat.zero_le _) (Sp.mono (hm w1 (hjr.sM g2)) (fun o M h => by obtain ⟨w2, v2, rfl, rfl, k1, k2, k3, k4⟩ := h; exact ⟨w2, v2, k1, k2, k3, k4, rfl, rfl⟩)) (fun v M' h => ?_) (fun q M' h => by obtain ⟨_, _, _, _, _, _, h, _⟩ := h; cases h)
  obtain ⟨w2, v2, k1, k2, k3, k4, h, rfl⟩ := h
  cases h
  refine Sp.go 2 (g := (475, [(6, .int (v2)), (5, .int (t.1)), (4, .int (nI i)), (3, .ref 22), (2, .ref 10), (1, .ref 0), (0, .retAddr 0)], [.ref 10])) rfl ?_
  refine Sp.vr (some (.int (w2.f 5))) (mw (w2)) (k' := 53) (F' := 0) (N' := 0) (C' := 0) (S' := 0) (vs := []) (st := []) rfl rfl rfl rfl (Nat.le_of_ble_eq_true rfl) (Nat.le_of_ble_eq_true rfl) (by decide) (by decide) (Nat.zero_le _) (Nat.zero_le _) (fun Q' h => d_thrown h) ?_
  refine Sp.go 1 (g := (480, [(6, .int (v2)), (5, .int (t.1)), (4, .int (nI i)), (3, .ref 22), (2, .ref 10), (1, .ref 0), (0, .retAddr 0)], [.int (t.1), .int (w2.f 5)])) rfl ?_
  refine Sp.icmp rfl (fun u1 => ?_) (fun u1 => absurd k3 u1)
  refine Sp.go 1 (g := (487, [(6, .int (v2)), (5, .int (t.1)), (4, .int (nI i)), (3, .ref 22), (2, .ref 10), (1, .ref 0), (0, .retAddr 0)], [.int (t.1)])) rfl ?_
  refine Sp.if rfl (fun (h2 : ¬ (t.1 : Int32) = (0 : Int32)) => ?_) (fun (h2 : ¬ (¬ (t.1 : Int32) = (0 : Int32))) => ?_)
  · skip
    refine Sp.go 1 (g := (901, [(6, .int (v2)), (5, .int (t.1)), (4, .int (nI i)), (3, .ref 22), (2, .ref 10), (1, .ref 0), (0, .retAddr 0)], [])) rfl ?_
    refine Sp.lsub [2, 3, 4, 5, 6] (ls' := [(4, .int (nI i)), (3, .ref 22), (2, .ref 10), (1, .ref 0), (0, .retAddr 0)]) rfl ?_
    exact Sp.room (kk w2 t.2.2 hok.1 hok.2 (g1.sC k2) k1) (Nat.le_refl _) (Nat.le_refl _) (by omega) (by omega)
  · skip
    refine Sp.go 2 (g := (492, [(6, .int (v2)), (5, .int (t.1)), (4, .int (nI i)), (3, .ref 22), (2, .ref 10), (1, .ref 0), (0, .retAddr 0)], [.int 0, .ref 22])) rfl ?_
    refine Sp.lald (f := w2.o) (j := 0) rfl rfl (m_ix_of (by rfl) (by omega) (by omega)) ?_
    refine Sp.go 3 (g := (497, [(6, .int (v2)), (5, .int (t.1)), (4, .int (nI i)), (3, .ref 22), (2, .ref 10), (1, .ref 0), (0, .retAddr 0)], [.int (lg_cmp (w2.o 0) ((v2).toInt64))])) rfl ?_
    refine Sp.if rfl (fun u3 => ?_) (fun u3 => absurd (lg_eq (by rw [k2.2.2.2.2.2.2.2.2.2.2.2.2.1, g3 (Classical.not_not.mp h2), k4 (Classical.not_not.mp h2)])) u3)
    refine Sp.go 1 (g := (901, [(6, .int (v2)), (5, .int (t.1)), (4, .int (nI i)), (3, .ref 22), (2, .ref 10), (1, .ref 0), (0, .retAddr 0)], [])) rfl ?_
    refine Sp.lsub [2, 3, 4, 5, 6] (ls' := [(4, .int (nI i)), (3, .ref 22), (2, .ref 10), (1, .ref 0), (0, .retAddr 0)]) rfl ?_
    exact Sp.room (kk w2 t.2.2 hok.1 hok.2 (g1.sC k2) k1) (Nat.le_refl _) (Nat.le_refl _) (by omega) (by omega)
set_option maxRecDepth 100000 in
theorem l_cut {X : mX} {C S : Nat} {Q : Outcome → mM → Prop} {w : mWd} {A : aS} (ho : a_ok A) (hi : a_inv A) (hjc : JC w A) (hjr : JR w A) {i : Nat} (hiL : i + 5 ≤ X.L) (hL : X.L ≤ 2560) (hC : 2 ≤ C) (hS : 70 ≤ S) (kk : ∀ w' A', a_ok A' → a_inv A' → JC w' A' → JR w' A' → Sp X 92 10 193 (C - 2) (S - 70) (901, [(4, .int (nI i)), (3, .ref 22), (2, .ref 10), (1, .ref 0), (0, .retAddr 0)], []) (mw w') Q) : Sp X 92 10 193 C S (505, [(4, .int (nI i)), (3, .ref 22), (2, .ref 10), (1, .ref 0), (0, .retAddr 0)], []) (mw w) Q := by
  have hok := sCut_ok ho hi (X.xs (i + 1)) (X.xs (i + 2))
  have hc : Sp X 33 7 142 2 70 (0, [(0, .ref 0), (1, .int (X.xs (i + 1))), (2, .int (X.xs (i + 2)))], []) (mw w) (s_Qc w (sCut A (X.xs (i + 1)) (X.xs (i + 2))).2.2 (sCut A (X.xs (i + 1)) (X.xs (i + 2))).1 (sCut A (X.xs (i + 1)) (X.xs (i + 2))).2.1 0 7) := c_cut ho hi hjc (by omega) (by omega) (X.xs (i + 1)) (X.xs (i + 2))
  have hm : ∀ w1, JR w1 A → Sp X 75 5 123 0 0 (0, [(0, .ref 10), (1, .int (X.xs (i + 1))), (2, .int (X.xs (i + 2)))], []) (mw w1) (s_Qm w1 (sCut A (X.xs (i + 1)) (X.xs (i + 2))).2.2 (sCut A (X.xs (i + 1)) (X.xs (i + 2))).1 (sCut A (X.xs (i + 1)) (X.xs (i + 2))).2.1) := fun w1 hx => m_cut ho hi hx (X.xs (i + 1)) (X.xs (i + 2))
  generalize sCut A (X.xs (i + 1)) (X.xs (i + 2)) = t at hok hc hm
  refine Sp.go 5 (g := (511, [(4, .int (nI i)), (3, .ref 22), (2, .ref 10), (1, .ref 0), (0, .retAddr 0)], [.int ((nI i) + 1), .retAddr 0, .ref 0])) rfl ?_
  refine Sp.sld (j := i + 1) rfl (m_ix_of (by simp only [nI, Int32.ofNat_add, Int32.ofNat_mul] <;> rfl) (by omega) (by omega)) ?_
  refine Sp.go 4 (g := (517, [(4, .int (nI i)), (3, .ref 22), (2, .ref 10), (1, .ref 0), (0, .retAddr 0)], [.int ((nI i) + 2), .retAddr 0, .int (X.xs (i + 1)), .ref 0])) rfl ?_
  refine Sp.sld (j := i + 2) rfl (m_ix_of (by simp only [nI, Int32.ofNat_add, Int32.ofNat_mul] <;> rfl) (by omega) (by omega)) ?_
  refine Sp.go 1 (g := (519, [(4, .int (nI i)), (3, .ref 22), (2, .ref 10), (1, .ref 0), (0, .retAddr 0)], [.ref 22, .int (X.xs (i + 2)), .int (X.xs (i + 1)), .ref 0])) rfl ?_
  refine Sp.callS (Qc := fun o M' => ∃ (w1 : mWd), (JC w1 t.2.2) ∧ (sM w w1) ∧ (t.1 = 0 → w1.o 0 = t.2.1.toInt64) ∧ o = .returned (some (.int (t.1))) ∧ M' = mw (w1)) (k' := 90) (F' := 8) (N' := 169) (C' := 2) (S' := 70) (vs := [.ref 0, .int (X.xs (i + 1)), .int (X.xs (i + 2)), .ref 22]) (st := []) rfl (by decide) rfl (Nat.le_of_ble_eq_true rfl) (Nat.le_of_ble_eq_true rfl) (by decide) (by decide) hC hS (lh_cut (Nat.le_refl _) (Nat.le_refl _) hc hok.2.2 (fun w1 g1 g2 g3 => ⟨w1, g1, g2, g3, rfl, rfl⟩)) (fun v M' h => ?_) (fun q M' h => by obtain ⟨_, _, _, _, h, _⟩ := h; cases h)
  obtain ⟨w1, g1, g2, g3, h, rfl⟩ := h
  cases h
  refine Sp.go 6 (g := (530, [(5, .int (t.1)), (4, .int (nI i)), (3, .ref 22), (2, .ref 10), (1, .ref 0), (0, .retAddr 0)], [.int ((nI i) + 1), .retAddr 0, .ref 10])) rfl ?_
  refine Sp.sld (j := i + 1) rfl (m_ix_of (by simp only [nI, Int32.ofNat_add, Int32.ofNat_mul] <;> rfl) (by omega) (by omega)) ?_
  refine Sp.go 4 (g := (536, [(5, .int (t.1)), (4, .int (nI i)), (3, .ref 22), (2, .ref 10), (1, .ref 0), (0, .retAddr 0)], [.int ((nI i) + 2), .retAddr 0, .int (X.xs (i + 1)), .ref 10])) rfl ?_
  refine Sp.sld (j := i + 2) rfl (m_ix_of (by simp only [nI, Int32.ofNat_add, Int32.ofNat_mul] <;> rfl) (by omega) (by omega)) ?_
  refine Sp.callV (Qc := fun o M' => ∃ (w2 : mWd) (v2 : Int32), (JR w2 t.2.2) ∧ (sC w1 w2) ∧ (w2.f 5 = t.1) ∧ (t.1 = 0 → v2 = t.2.1) ∧ o = .returned (some (.int (v2))) ∧ M' = mw (w2)) (k' := 75) (F' := 5) (N' := 123) (C' := 0) (S' := 0) (vs := [.int (X.xs (i + 1)), .int (X.xs (i + 2))]) (st := []) rfl rfl rfl rfl (Nat.le_of_ble_eq_true rfl) (Nat.le_of_ble_eq_true rfl) (by decide) (by decide) (Nat.zero_le _) (Nat.zero_le _) (Sp.mono (hm w1 (hjr.sM g2)) (fun o M h => by obtain ⟨w2, v2, rfl, rfl, k1, k2, k3, k4⟩ := h; exact ⟨w2, v2, k1, k2, k3, k4, rfl, rfl⟩)) (fun v M' h => ?_) (fun q M' h => by obtain ⟨_, _, _, _, _, _, h, _⟩ := h; cases h)
  obtain ⟨w2, v2, k1, k2, k3, k4, h, rfl⟩ := h
  cases h
  refine Sp.go 2 (g := (543, [(6, .int (v2)), (5, .int (t.1)), (4, .int (nI i)), (3, .ref 22), (2, .ref 10), (1, .ref 0), (0, .retAddr 0)], [.ref 10])) rfl ?_
  refine Sp.vr (some (.int (w2.f 5))) (mw (w2)) (k' := 53) (F' := 0) (N' := 0) (C' := 0) (S' := 0) (vs := []) (st := []) rfl rfl rfl rfl (Nat.le_of_ble_eq_true rfl) (Nat.le_of_ble_eq_true rfl) (by decide) (by decide) (Nat.zero_le _) (Nat.zero_le _) (fun Q' h => d_thrown h) ?_
  refine Sp.go 1 (g := (548, [(6, .int (v2)), (5, .int (t.1)), (4, .int (nI i)), (3, .ref 22), (2, .ref 10), (1, .ref 0), (0, .retAddr 0)], [.int (t.1), .int (w2.f 5)])) rfl ?_
  refine Sp.icmp rfl (fun u1 => ?_) (fun u1 => absurd k3 u1)
  refine Sp.go 1 (g := (555, [(6, .int (v2)), (5, .int (t.1)), (4, .int (nI i)), (3, .ref 22), (2, .ref 10), (1, .ref 0), (0, .retAddr 0)], [.int (t.1)])) rfl ?_
  refine Sp.if rfl (fun (h2 : ¬ (t.1 : Int32) = (0 : Int32)) => ?_) (fun (h2 : ¬ (¬ (t.1 : Int32) = (0 : Int32))) => ?_)
  · skip
    refine Sp.go 1 (g := (901, [(6, .int (v2)), (5, .int (t.1)), (4, .int (nI i)), (3, .ref 22), (2, .ref 10), (1, .ref 0), (0, .retAddr 0)], [])) rfl ?_
    refine Sp.lsub [2, 3, 4, 5, 6] (ls' := [(4, .int (nI i)), (3, .ref 22), (2, .ref 10), (1, .ref 0), (0, .retAddr 0)]) rfl ?_
    exact Sp.room (kk w2 t.2.2 hok.1 hok.2.1 (g1.sC k2) k1) (Nat.le_refl _) (Nat.le_refl _) (by omega) (by omega)
  · skip
    refine Sp.go 2 (g := (560, [(6, .int (v2)), (5, .int (t.1)), (4, .int (nI i)), (3, .ref 22), (2, .ref 10), (1, .ref 0), (0, .retAddr 0)], [.int 0, .ref 22])) rfl ?_
    refine Sp.lald (f := w2.o) (j := 0) rfl rfl (m_ix_of (by rfl) (by omega) (by omega)) ?_
    refine Sp.go 3 (g := (565, [(6, .int (v2)), (5, .int (t.1)), (4, .int (nI i)), (3, .ref 22), (2, .ref 10), (1, .ref 0), (0, .retAddr 0)], [.int (lg_cmp (w2.o 0) ((v2).toInt64))])) rfl ?_
    refine Sp.if rfl (fun u3 => ?_) (fun u3 => absurd (lg_eq (by rw [k2.2.2.2.2.2.2.2.2.2.2.2.2.1, g3 (Classical.not_not.mp h2), k4 (Classical.not_not.mp h2)])) u3)
    refine Sp.go 1 (g := (901, [(6, .int (v2)), (5, .int (t.1)), (4, .int (nI i)), (3, .ref 22), (2, .ref 10), (1, .ref 0), (0, .retAddr 0)], [])) rfl ?_
    refine Sp.lsub [2, 3, 4, 5, 6] (ls' := [(4, .int (nI i)), (3, .ref 22), (2, .ref 10), (1, .ref 0), (0, .retAddr 0)]) rfl ?_
    exact Sp.room (kk w2 t.2.2 hok.1 hok.2.1 (g1.sC k2) k1) (Nat.le_refl _) (Nat.le_refl _) (by omega) (by omega)
set_option maxRecDepth 100000 in
theorem l_tick {X : mX} {C S : Nat} {Q : Outcome → mM → Prop} {w : mWd} {A : aS} (ho : a_ok A) (hi : a_inv A) (hjc : JC w A) (hjr : JR w A) {i : Nat} (hiL : i + 5 ≤ X.L) (hL : X.L ≤ 2560) (hC : 2 ≤ C) (hS : 70 ≤ S) (kk : ∀ w' A', a_ok A' → a_inv A' → JC w' A' → JR w' A' → Sp X 92 10 193 (C - 2) (S - 70) (901, [(4, .int (nI i)), (3, .ref 22), (2, .ref 10), (1, .ref 0), (0, .retAddr 0)], []) (mw w') Q) : Sp X 92 10 193 C S (573, [(4, .int (nI i)), (3, .ref 22), (2, .ref 10), (1, .ref 0), (0, .retAddr 0)], []) (mw w) Q := by
  have hok := sTick_ok ho hi 
  have hc : Sp X 34 6 82 2 70 (0, [(0, .ref 0)], []) (mw w) (s_Qc w (sTick A).2.2 (sTick A).1 (sTick A).2.1 1 7) := c_tick ho hi hjc (by omega) (by omega) 
  have hm : ∀ w1, JR w1 A → Sp X 76 0 0 0 0 (0, [(0, .ref 10)], []) (mw w1) (s_Qm w1 (sTick A).2.2 (sTick A).1 (sTick A).2.1) := fun w1 hx => m_tick ho hi hx 
  generalize sTick A = t at hok hc hm
  refine Sp.go 2 (g := (575, [(4, .int (nI i)), (3, .ref 22), (2, .ref 10), (1, .ref 0), (0, .retAddr 0)], [.ref 22, .ref 0])) rfl ?_
  refine Sp.callS (Qc := fun o M' => ∃ (w1 : mWd), (JC w1 t.2.2) ∧ (sM w w1) ∧ (t.1 = 0 → w1.o 0 = t.2.1.toInt64) ∧ o = .returned (some (.int (t.1))) ∧ M' = mw (w1)) (k' := 91) (F' := 7) (N' := 105) (C' := 2) (S' := 70) (vs := [.ref 0, .ref 22]) (st := []) rfl (by decide) rfl (Nat.le_of_ble_eq_true rfl) (Nat.le_of_ble_eq_true rfl) (by decide) (by decide) hC hS (lh_tick (Nat.le_refl _) (Nat.le_refl _) hc hok.2.2 (fun w1 g1 g2 g3 => ⟨w1, g1, g2, g3, rfl, rfl⟩)) (fun v M' h => ?_) (fun q M' h => by obtain ⟨_, _, _, _, h, _⟩ := h; cases h)
  obtain ⟨w1, g1, g2, g3, h, rfl⟩ := h
  cases h
  refine Sp.go 2 (g := (581, [(5, .int (t.1)), (4, .int (nI i)), (3, .ref 22), (2, .ref 10), (1, .ref 0), (0, .retAddr 0)], [.ref 10])) rfl ?_
  refine Sp.callV (Qc := fun o M' => ∃ (w2 : mWd) (v2 : Int32), (JR w2 t.2.2) ∧ (sC w1 w2) ∧ (w2.f 5 = t.1) ∧ (t.1 = 0 → v2 = t.2.1) ∧ o = .returned (some (.int (v2))) ∧ M' = mw (w2)) (k' := 76) (F' := 0) (N' := 0) (C' := 0) (S' := 0) (vs := []) (st := []) rfl rfl rfl rfl (Nat.le_of_ble_eq_true rfl) (Nat.le_of_ble_eq_true rfl) (by decide) (by decide) (Nat.zero_le _) (Nat.zero_le _) (Sp.mono (hm w1 (hjr.sM g2)) (fun o M h => by obtain ⟨w2, v2, rfl, rfl, k1, k2, k3, k4⟩ := h; exact ⟨w2, v2, k1, k2, k3, k4, rfl, rfl⟩)) (fun v M' h => ?_) (fun q M' h => by obtain ⟨_, _, _, _, _, _, h, _⟩ := h; cases h)
  obtain ⟨w2, v2, k1, k2, k3, k4, h, rfl⟩ := h
  cases h
  refine Sp.go 2 (g := (587, [(6, .int (v2)), (5, .int (t.1)), (4, .int (nI i)), (3, .ref 22), (2, .ref 10), (1, .ref 0), (0, .retAddr 0)], [.ref 10])) rfl ?_
  refine Sp.vr (some (.int (w2.f 5))) (mw (w2)) (k' := 53) (F' := 0) (N' := 0) (C' := 0) (S' := 0) (vs := []) (st := []) rfl rfl rfl rfl (Nat.le_of_ble_eq_true rfl) (Nat.le_of_ble_eq_true rfl) (by decide) (by decide) (Nat.zero_le _) (Nat.zero_le _) (fun Q' h => d_thrown h) ?_
  refine Sp.go 1 (g := (592, [(6, .int (v2)), (5, .int (t.1)), (4, .int (nI i)), (3, .ref 22), (2, .ref 10), (1, .ref 0), (0, .retAddr 0)], [.int (t.1), .int (w2.f 5)])) rfl ?_
  refine Sp.icmp rfl (fun u1 => ?_) (fun u1 => absurd k3 u1)
  refine Sp.go 1 (g := (599, [(6, .int (v2)), (5, .int (t.1)), (4, .int (nI i)), (3, .ref 22), (2, .ref 10), (1, .ref 0), (0, .retAddr 0)], [.int (t.1)])) rfl ?_
  refine Sp.if rfl (fun (h2 : ¬ (t.1 : Int32) = (0 : Int32)) => ?_) (fun (h2 : ¬ (¬ (t.1 : Int32) = (0 : Int32))) => ?_)
  · skip
    refine Sp.go 1 (g := (901, [(6, .int (v2)), (5, .int (t.1)), (4, .int (nI i)), (3, .ref 22), (2, .ref 10), (1, .ref 0), (0, .retAddr 0)], [])) rfl ?_
    refine Sp.lsub [2, 3, 4, 5, 6] (ls' := [(4, .int (nI i)), (3, .ref 22), (2, .ref 10), (1, .ref 0), (0, .retAddr 0)]) rfl ?_
    exact Sp.room (kk w2 t.2.2 hok.1 hok.2.1 (g1.sC k2) k1) (Nat.le_refl _) (Nat.le_refl _) (by omega) (by omega)
  · skip
    refine Sp.go 2 (g := (604, [(6, .int (v2)), (5, .int (t.1)), (4, .int (nI i)), (3, .ref 22), (2, .ref 10), (1, .ref 0), (0, .retAddr 0)], [.int 0, .ref 22])) rfl ?_
    refine Sp.lald (f := w2.o) (j := 0) rfl rfl (m_ix_of (by rfl) (by omega) (by omega)) ?_
    refine Sp.go 3 (g := (609, [(6, .int (v2)), (5, .int (t.1)), (4, .int (nI i)), (3, .ref 22), (2, .ref 10), (1, .ref 0), (0, .retAddr 0)], [.int (lg_cmp (w2.o 0) ((v2).toInt64))])) rfl ?_
    refine Sp.if rfl (fun u3 => ?_) (fun u3 => absurd (lg_eq (by rw [k2.2.2.2.2.2.2.2.2.2.2.2.2.1, g3 (Classical.not_not.mp h2), k4 (Classical.not_not.mp h2)])) u3)
    refine Sp.go 1 (g := (901, [(6, .int (v2)), (5, .int (t.1)), (4, .int (nI i)), (3, .ref 22), (2, .ref 10), (1, .ref 0), (0, .retAddr 0)], [])) rfl ?_
    refine Sp.lsub [2, 3, 4, 5, 6] (ls' := [(4, .int (nI i)), (3, .ref 22), (2, .ref 10), (1, .ref 0), (0, .retAddr 0)]) rfl ?_
    exact Sp.room (kk w2 t.2.2 hok.1 hok.2.1 (g1.sC k2) k1) (Nat.le_refl _) (Nat.le_refl _) (by omega) (by omega)
set_option maxRecDepth 100000 in
theorem l_state {X : mX} {C S : Nat} {Q : Outcome → mM → Prop} {w : mWd} {A : aS} (ho : a_ok A) (hi : a_inv A) (hjc : JC w A) (hjr : JR w A) {i : Nat} (hiL : i + 5 ≤ X.L) (hL : X.L ≤ 2560) (hC : 2 ≤ C) (hS : 70 ≤ S) (kk : ∀ w' A', a_ok A' → a_inv A' → JC w' A' → JR w' A' → Sp X 92 10 193 (C - 2) (S - 70) (901, [(4, .int (nI i)), (3, .ref 22), (2, .ref 10), (1, .ref 0), (0, .retAddr 0)], []) (mw w') Q) : Sp X 92 10 193 C S (617, [(4, .int (nI i)), (3, .ref 22), (2, .ref 10), (1, .ref 0), (0, .retAddr 0)], []) (mw w) Q := by
  refine Sp.go 5 (g := (623, [(4, .int (nI i)), (3, .ref 22), (2, .ref 10), (1, .ref 0), (0, .retAddr 0)], [.int ((nI i) + 1), .retAddr 0, .ref 0])) rfl ?_
  refine Sp.sld (j := i + 1) rfl (m_ix_of (by simp only [nI, Int32.ofNat_add, Int32.ofNat_mul] <;> rfl) (by omega) (by omega)) ?_
  refine Sp.vr (some (.int (oState A (X.xs (i + 1))))) (mw (w)) (k' := 35) (F' := 1) (N' := 21) (C' := 0) (S' := 0) (vs := [.int (X.xs (i + 1))]) (st := []) rfl rfl rfl rfl (Nat.le_of_ble_eq_true rfl) (Nat.le_of_ble_eq_true rfl) (by decide) (by decide) (Nat.zero_le _) (Nat.zero_le _) (fun Q' h => c_state ho hi hjc (X.xs (i + 1)) h) ?_
  refine Sp.go 5 (g := (633, [(4, .int (nI i)), (3, .ref 22), (2, .ref 10), (1, .ref 0), (0, .retAddr 0)], [.int ((nI i) + 1), .retAddr 0, .ref 10, .int (oState A (X.xs (i + 1)))])) rfl ?_
  refine Sp.sld (j := i + 1) rfl (m_ix_of (by simp only [nI, Int32.ofNat_add, Int32.ofNat_mul] <;> rfl) (by omega) (by omega)) ?_
  refine Sp.vr (some (.int (oState A (X.xs (i + 1))))) (mw (w.sf 5 (0))) (k' := 77) (F' := 1) (N' := 21) (C' := 0) (S' := 0) (vs := [.int (X.xs (i + 1))]) (st := [.int (oState A (X.xs (i + 1)))]) rfl rfl rfl rfl (Nat.le_of_ble_eq_true rfl) (Nat.le_of_ble_eq_true rfl) (by decide) (by decide) (Nat.zero_le _) (Nat.zero_le _) (fun Q' h => m_state ho hi hjr (X.xs (i + 1)) h) ?_
  refine Sp.icmp rfl (fun u1 => ?_) (fun u1 => absurd rfl u1)
  exact Sp.room (kk (w.sf 5 0) A ho hi (hjc.sC (sC.s5 0)) hjr.t) (Nat.le_refl _) (Nat.le_refl _) (by omega) (by omega)
set_option maxRecDepth 100000 in
theorem l_where {X : mX} {C S : Nat} {Q : Outcome → mM → Prop} {w : mWd} {A : aS} (ho : a_ok A) (hi : a_inv A) (hjc : JC w A) (hjr : JR w A) {i : Nat} (hiL : i + 5 ≤ X.L) (hL : X.L ≤ 2560) (hC : 2 ≤ C) (hS : 70 ≤ S) (kk : ∀ w' A', a_ok A' → a_inv A' → JC w' A' → JR w' A' → Sp X 92 10 193 (C - 2) (S - 70) (901, [(4, .int (nI i)), (3, .ref 22), (2, .ref 10), (1, .ref 0), (0, .retAddr 0)], []) (mw w') Q) : Sp X 92 10 193 C S (642, [(4, .int (nI i)), (3, .ref 22), (2, .ref 10), (1, .ref 0), (0, .retAddr 0)], []) (mw w) Q := by
  refine Sp.go 5 (g := (648, [(4, .int (nI i)), (3, .ref 22), (2, .ref 10), (1, .ref 0), (0, .retAddr 0)], [.int ((nI i) + 1), .retAddr 0, .ref 0])) rfl ?_
  refine Sp.sld (j := i + 1) rfl (m_ix_of (by simp only [nI, Int32.ofNat_add, Int32.ofNat_mul] <;> rfl) (by omega) (by omega)) ?_
  refine Sp.vr (some (.int (oWhere A (X.xs (i + 1))))) (mw (w)) (k' := 36) (F' := 1) (N' := 21) (C' := 0) (S' := 0) (vs := [.int (X.xs (i + 1))]) (st := []) rfl rfl rfl rfl (Nat.le_of_ble_eq_true rfl) (Nat.le_of_ble_eq_true rfl) (by decide) (by decide) (Nat.zero_le _) (Nat.zero_le _) (fun Q' h => c_where ho hi hjc (X.xs (i + 1)) h) ?_
  refine Sp.go 5 (g := (658, [(4, .int (nI i)), (3, .ref 22), (2, .ref 10), (1, .ref 0), (0, .retAddr 0)], [.int ((nI i) + 1), .retAddr 0, .ref 10, .int (oWhere A (X.xs (i + 1)))])) rfl ?_
  refine Sp.sld (j := i + 1) rfl (m_ix_of (by simp only [nI, Int32.ofNat_add, Int32.ofNat_mul] <;> rfl) (by omega) (by omega)) ?_
  refine Sp.vr (some (.int (oWhere A (X.xs (i + 1))))) (mw (w.sf 5 (0))) (k' := 78) (F' := 2) (N' := 42) (C' := 0) (S' := 0) (vs := [.int (X.xs (i + 1))]) (st := [.int (oWhere A (X.xs (i + 1)))]) rfl rfl rfl rfl (Nat.le_of_ble_eq_true rfl) (Nat.le_of_ble_eq_true rfl) (by decide) (by decide) (Nat.zero_le _) (Nat.zero_le _) (fun Q' h => m_where ho hi hjr (X.xs (i + 1)) h) ?_
  refine Sp.icmp rfl (fun u1 => ?_) (fun u1 => absurd rfl u1)
  exact Sp.room (kk (w.sf 5 0) A ho hi (hjc.sC (sC.s5 0)) hjr.t) (Nat.le_refl _) (Nat.le_refl _) (by omega) (by omega)
set_option maxRecDepth 100000 in
theorem l_arrival {X : mX} {C S : Nat} {Q : Outcome → mM → Prop} {w : mWd} {A : aS} (ho : a_ok A) (hi : a_inv A) (hjc : JC w A) (hjr : JR w A) {i : Nat} (hiL : i + 5 ≤ X.L) (hL : X.L ≤ 2560) (hC : 2 ≤ C) (hS : 70 ≤ S) (kk : ∀ w' A', a_ok A' → a_inv A' → JC w' A' → JR w' A' → Sp X 92 10 193 (C - 2) (S - 70) (901, [(4, .int (nI i)), (3, .ref 22), (2, .ref 10), (1, .ref 0), (0, .retAddr 0)], []) (mw w') Q) : Sp X 92 10 193 C S (667, [(4, .int (nI i)), (3, .ref 22), (2, .ref 10), (1, .ref 0), (0, .retAddr 0)], []) (mw w) Q := by
  refine Sp.go 5 (g := (673, [(4, .int (nI i)), (3, .ref 22), (2, .ref 10), (1, .ref 0), (0, .retAddr 0)], [.int ((nI i) + 1), .retAddr 0, .ref 0])) rfl ?_
  refine Sp.sld (j := i + 1) rfl (m_ix_of (by simp only [nI, Int32.ofNat_add, Int32.ofNat_mul] <;> rfl) (by omega) (by omega)) ?_
  refine Sp.vr (some (.int (oArrival A (X.xs (i + 1))))) (mw (w)) (k' := 37) (F' := 1) (N' := 21) (C' := 0) (S' := 0) (vs := [.int (X.xs (i + 1))]) (st := []) rfl rfl rfl rfl (Nat.le_of_ble_eq_true rfl) (Nat.le_of_ble_eq_true rfl) (by decide) (by decide) (Nat.zero_le _) (Nat.zero_le _) (fun Q' h => c_arrival ho hi hjc (X.xs (i + 1)) h) ?_
  refine Sp.go 5 (g := (683, [(4, .int (nI i)), (3, .ref 22), (2, .ref 10), (1, .ref 0), (0, .retAddr 0)], [.int ((nI i) + 1), .retAddr 0, .ref 10, .int (oArrival A (X.xs (i + 1)))])) rfl ?_
  refine Sp.sld (j := i + 1) rfl (m_ix_of (by simp only [nI, Int32.ofNat_add, Int32.ofNat_mul] <;> rfl) (by omega) (by omega)) ?_
  refine Sp.vr (some (.int (oArrival A (X.xs (i + 1))))) (mw (w.sf 5 (0))) (k' := 79) (F' := 2) (N' := 42) (C' := 0) (S' := 0) (vs := [.int (X.xs (i + 1))]) (st := [.int (oArrival A (X.xs (i + 1)))]) rfl rfl rfl rfl (Nat.le_of_ble_eq_true rfl) (Nat.le_of_ble_eq_true rfl) (by decide) (by decide) (Nat.zero_le _) (Nat.zero_le _) (fun Q' h => m_arrival ho hi hjr (X.xs (i + 1)) h) ?_
  refine Sp.icmp rfl (fun u1 => ?_) (fun u1 => absurd rfl u1)
  exact Sp.room (kk (w.sf 5 0) A ho hi (hjc.sC (sC.s5 0)) hjr.t) (Nat.le_refl _) (Nat.le_refl _) (by omega) (by omega)
set_option maxRecDepth 100000 in
theorem l_step {X : mX} {C S : Nat} {Q : Outcome → mM → Prop} {w : mWd} {A : aS} (ho : a_ok A) (hi : a_inv A) (hjc : JC w A) (hjr : JR w A) {i : Nat} (hiL : i + 5 ≤ X.L) (hL : X.L ≤ 2560) (hC : 2 ≤ C) (hS : 70 ≤ S) (kk : ∀ w' A', a_ok A' → a_inv A' → JC w' A' → JR w' A' → Sp X 92 10 193 (C - 2) (S - 70) (901, [(4, .int (nI i)), (3, .ref 22), (2, .ref 10), (1, .ref 0), (0, .retAddr 0)], []) (mw w') Q) : Sp X 92 10 193 C S (692, [(4, .int (nI i)), (3, .ref 22), (2, .ref 10), (1, .ref 0), (0, .retAddr 0)], []) (mw w) Q := by
  refine Sp.go 5 (g := (698, [(4, .int (nI i)), (3, .ref 22), (2, .ref 10), (1, .ref 0), (0, .retAddr 0)], [.int ((nI i) + 1), .retAddr 0, .ref 0])) rfl ?_
  refine Sp.sld (j := i + 1) rfl (m_ix_of (by simp only [nI, Int32.ofNat_add, Int32.ofNat_mul] <;> rfl) (by omega) (by omega)) ?_
  refine Sp.go 4 (g := (704, [(4, .int (nI i)), (3, .ref 22), (2, .ref 10), (1, .ref 0), (0, .retAddr 0)], [.int ((nI i) + 2), .retAddr 0, .int (X.xs (i + 1)), .ref 0])) rfl ?_
  refine Sp.sld (j := i + 2) rfl (m_ix_of (by simp only [nI, Int32.ofNat_add, Int32.ofNat_mul] <;> rfl) (by omega) (by omega)) ?_
  refine Sp.vr (some (.int (oStep A (X.xs (i + 1)) (X.xs (i + 2))))) (mw (w)) (k' := 38) (F' := 1) (N' := 21) (C' := 0) (S' := 0) (vs := [.int (X.xs (i + 1)), .int (X.xs (i + 2))]) (st := []) rfl rfl rfl rfl (Nat.le_of_ble_eq_true rfl) (Nat.le_of_ble_eq_true rfl) (by decide) (by decide) (Nat.zero_le _) (Nat.zero_le _) (fun Q' h => c_step ho hi hjc (X.xs (i + 1)) (X.xs (i + 2)) h) ?_
  refine Sp.go 5 (g := (714, [(4, .int (nI i)), (3, .ref 22), (2, .ref 10), (1, .ref 0), (0, .retAddr 0)], [.int ((nI i) + 1), .retAddr 0, .ref 10, .int (oStep A (X.xs (i + 1)) (X.xs (i + 2)))])) rfl ?_
  refine Sp.sld (j := i + 1) rfl (m_ix_of (by simp only [nI, Int32.ofNat_add, Int32.ofNat_mul] <;> rfl) (by omega) (by omega)) ?_
  refine Sp.go 4 (g := (720, [(4, .int (nI i)), (3, .ref 22), (2, .ref 10), (1, .ref 0), (0, .retAddr 0)], [.int ((nI i) + 2), .retAddr 0, .int (X.xs (i + 1)), .ref 10, .int (oStep A (X.xs (i + 1)) (X.xs (i + 2)))])) rfl ?_
  refine Sp.sld (j := i + 2) rfl (m_ix_of (by simp only [nI, Int32.ofNat_add, Int32.ofNat_mul] <;> rfl) (by omega) (by omega)) ?_
  refine Sp.vr (some (.int (oStep A (X.xs (i + 1)) (X.xs (i + 2))))) (mw (w.sf 5 (0))) (k' := 80) (F' := 1) (N' := 21) (C' := 0) (S' := 0) (vs := [.int (X.xs (i + 1)), .int (X.xs (i + 2))]) (st := [.int (oStep A (X.xs (i + 1)) (X.xs (i + 2)))]) rfl rfl rfl rfl (Nat.le_of_ble_eq_true rfl) (Nat.le_of_ble_eq_true rfl) (by decide) (by decide) (Nat.zero_le _) (Nat.zero_le _) (fun Q' h => m_step ho hi hjr (X.xs (i + 1)) (X.xs (i + 2)) h) ?_
  refine Sp.icmp rfl (fun u1 => ?_) (fun u1 => absurd rfl u1)
  exact Sp.room (kk (w.sf 5 0) A ho hi (hjc.sC (sC.s5 0)) hjr.t) (Nat.le_refl _) (Nat.le_refl _) (by omega) (by omega)
set_option maxRecDepth 100000 in
theorem l_linkUsed {X : mX} {C S : Nat} {Q : Outcome → mM → Prop} {w : mWd} {A : aS} (ho : a_ok A) (hi : a_inv A) (hjc : JC w A) (hjr : JR w A) {i : Nat} (hiL : i + 5 ≤ X.L) (hL : X.L ≤ 2560) (hC : 2 ≤ C) (hS : 70 ≤ S) (kk : ∀ w' A', a_ok A' → a_inv A' → JC w' A' → JR w' A' → Sp X 92 10 193 (C - 2) (S - 70) (901, [(4, .int (nI i)), (3, .ref 22), (2, .ref 10), (1, .ref 0), (0, .retAddr 0)], []) (mw w') Q) : Sp X 92 10 193 C S (729, [(4, .int (nI i)), (3, .ref 22), (2, .ref 10), (1, .ref 0), (0, .retAddr 0)], []) (mw w) Q := by
  refine Sp.go 5 (g := (735, [(4, .int (nI i)), (3, .ref 22), (2, .ref 10), (1, .ref 0), (0, .retAddr 0)], [.int ((nI i) + 1), .retAddr 0, .ref 0])) rfl ?_
  refine Sp.sld (j := i + 1) rfl (m_ix_of (by simp only [nI, Int32.ofNat_add, Int32.ofNat_mul] <;> rfl) (by omega) (by omega)) ?_
  refine Sp.go 4 (g := (741, [(4, .int (nI i)), (3, .ref 22), (2, .ref 10), (1, .ref 0), (0, .retAddr 0)], [.int ((nI i) + 2), .retAddr 0, .int (X.xs (i + 1)), .ref 0])) rfl ?_
  refine Sp.sld (j := i + 2) rfl (m_ix_of (by simp only [nI, Int32.ofNat_add, Int32.ofNat_mul] <;> rfl) (by omega) (by omega)) ?_
  refine Sp.go 4 (g := (747, [(4, .int (nI i)), (3, .ref 22), (2, .ref 10), (1, .ref 0), (0, .retAddr 0)], [.int ((nI i) + 3), .retAddr 0, .int (X.xs (i + 2)), .int (X.xs (i + 1)), .ref 0])) rfl ?_
  refine Sp.sld (j := i + 3) rfl (m_ix_of (by simp only [nI, Int32.ofNat_add, Int32.ofNat_mul] <;> rfl) (by omega) (by omega)) ?_
  refine Sp.vr (some (.int (oLink A (X.xs (i + 1)) (X.xs (i + 2)) (X.xs (i + 3))))) (mw (w)) (k' := 39) (F' := 3) (N' := 64) (C' := 0) (S' := 0) (vs := [.int (X.xs (i + 1)), .int (X.xs (i + 2)), .int (X.xs (i + 3))]) (st := []) rfl rfl rfl rfl (Nat.le_of_ble_eq_true rfl) (Nat.le_of_ble_eq_true rfl) (by decide) (by decide) (Nat.zero_le _) (Nat.zero_le _) (fun Q' h => c_linkUsed ho hi hjc (X.xs (i + 1)) (X.xs (i + 2)) (X.xs (i + 3)) h) ?_
  refine Sp.go 5 (g := (757, [(4, .int (nI i)), (3, .ref 22), (2, .ref 10), (1, .ref 0), (0, .retAddr 0)], [.int ((nI i) + 1), .retAddr 0, .ref 10, .int (oLink A (X.xs (i + 1)) (X.xs (i + 2)) (X.xs (i + 3)))])) rfl ?_
  refine Sp.sld (j := i + 1) rfl (m_ix_of (by simp only [nI, Int32.ofNat_add, Int32.ofNat_mul] <;> rfl) (by omega) (by omega)) ?_
  refine Sp.go 4 (g := (763, [(4, .int (nI i)), (3, .ref 22), (2, .ref 10), (1, .ref 0), (0, .retAddr 0)], [.int ((nI i) + 2), .retAddr 0, .int (X.xs (i + 1)), .ref 10, .int (oLink A (X.xs (i + 1)) (X.xs (i + 2)) (X.xs (i + 3)))])) rfl ?_
  refine Sp.sld (j := i + 2) rfl (m_ix_of (by simp only [nI, Int32.ofNat_add, Int32.ofNat_mul] <;> rfl) (by omega) (by omega)) ?_
  refine Sp.go 4 (g := (769, [(4, .int (nI i)), (3, .ref 22), (2, .ref 10), (1, .ref 0), (0, .retAddr 0)], [.int ((nI i) + 3), .retAddr 0, .int (X.xs (i + 2)), .int (X.xs (i + 1)), .ref 10, .int (oLink A (X.xs (i + 1)) (X.xs (i + 2)) (X.xs (i + 3)))])) rfl ?_
  refine Sp.sld (j := i + 3) rfl (m_ix_of (by simp only [nI, Int32.ofNat_add, Int32.ofNat_mul] <;> rfl) (by omega) (by omega)) ?_
  refine Sp.vr (some (.int (oLink A (X.xs (i + 1)) (X.xs (i + 2)) (X.xs (i + 3))))) (mw (w.sf 5 (0))) (k' := 81) (F' := 2) (N' := 49) (C' := 0) (S' := 0) (vs := [.int (X.xs (i + 1)), .int (X.xs (i + 2)), .int (X.xs (i + 3))]) (st := [.int (oLink A (X.xs (i + 1)) (X.xs (i + 2)) (X.xs (i + 3)))]) rfl rfl rfl rfl (Nat.le_of_ble_eq_true rfl) (Nat.le_of_ble_eq_true rfl) (by decide) (by decide) (Nat.zero_le _) (Nat.zero_le _) (fun Q' h => m_linkUsed ho hi hjr (X.xs (i + 1)) (X.xs (i + 2)) (X.xs (i + 3)) h) ?_
  refine Sp.icmp rfl (fun u1 => ?_) (fun u1 => absurd rfl u1)
  exact Sp.room (kk (w.sf 5 0) A ho hi (hjc.sC (sC.s5 0)) hjr.t) (Nat.le_refl _) (Nat.le_refl _) (by omega) (by omega)
set_option maxRecDepth 100000 in
theorem l_stored {X : mX} {C S : Nat} {Q : Outcome → mM → Prop} {w : mWd} {A : aS} (ho : a_ok A) (hi : a_inv A) (hjc : JC w A) (hjr : JR w A) {i : Nat} (hiL : i + 5 ≤ X.L) (hL : X.L ≤ 2560) (hC : 2 ≤ C) (hS : 70 ≤ S) (kk : ∀ w' A', a_ok A' → a_inv A' → JC w' A' → JR w' A' → Sp X 92 10 193 (C - 2) (S - 70) (901, [(4, .int (nI i)), (3, .ref 22), (2, .ref 10), (1, .ref 0), (0, .retAddr 0)], []) (mw w') Q) : Sp X 92 10 193 C S (778, [(4, .int (nI i)), (3, .ref 22), (2, .ref 10), (1, .ref 0), (0, .retAddr 0)], []) (mw w) Q := by
  refine Sp.go 5 (g := (784, [(4, .int (nI i)), (3, .ref 22), (2, .ref 10), (1, .ref 0), (0, .retAddr 0)], [.int ((nI i) + 1), .retAddr 0, .ref 0])) rfl ?_
  refine Sp.sld (j := i + 1) rfl (m_ix_of (by simp only [nI, Int32.ofNat_add, Int32.ofNat_mul] <;> rfl) (by omega) (by omega)) ?_
  refine Sp.go 4 (g := (790, [(4, .int (nI i)), (3, .ref 22), (2, .ref 10), (1, .ref 0), (0, .retAddr 0)], [.int ((nI i) + 2), .retAddr 0, .int (X.xs (i + 1)), .ref 0])) rfl ?_
  refine Sp.sld (j := i + 2) rfl (m_ix_of (by simp only [nI, Int32.ofNat_add, Int32.ofNat_mul] <;> rfl) (by omega) (by omega)) ?_
  refine Sp.vr (some (.int (oStored A (X.xs (i + 1)) (X.xs (i + 2))))) (mw (w)) (k' := 40) (F' := 2) (N' := 43) (C' := 0) (S' := 0) (vs := [.int (X.xs (i + 1)), .int (X.xs (i + 2))]) (st := []) rfl rfl rfl rfl (Nat.le_of_ble_eq_true rfl) (Nat.le_of_ble_eq_true rfl) (by decide) (by decide) (Nat.zero_le _) (Nat.zero_le _) (fun Q' h => c_stored ho hi hjc (X.xs (i + 1)) (X.xs (i + 2)) h) ?_
  refine Sp.go 5 (g := (800, [(4, .int (nI i)), (3, .ref 22), (2, .ref 10), (1, .ref 0), (0, .retAddr 0)], [.int ((nI i) + 1), .retAddr 0, .ref 10, .int (oStored A (X.xs (i + 1)) (X.xs (i + 2)))])) rfl ?_
  refine Sp.sld (j := i + 1) rfl (m_ix_of (by simp only [nI, Int32.ofNat_add, Int32.ofNat_mul] <;> rfl) (by omega) (by omega)) ?_
  refine Sp.go 4 (g := (806, [(4, .int (nI i)), (3, .ref 22), (2, .ref 10), (1, .ref 0), (0, .retAddr 0)], [.int ((nI i) + 2), .retAddr 0, .int (X.xs (i + 1)), .ref 10, .int (oStored A (X.xs (i + 1)) (X.xs (i + 2)))])) rfl ?_
  refine Sp.sld (j := i + 2) rfl (m_ix_of (by simp only [nI, Int32.ofNat_add, Int32.ofNat_mul] <;> rfl) (by omega) (by omega)) ?_
  refine Sp.vr (some (.int (oStored A (X.xs (i + 1)) (X.xs (i + 2))))) (mw (w.sf 5 (0))) (k' := 82) (F' := 2) (N' := 49) (C' := 0) (S' := 0) (vs := [.int (X.xs (i + 1)), .int (X.xs (i + 2))]) (st := [.int (oStored A (X.xs (i + 1)) (X.xs (i + 2)))]) rfl rfl rfl rfl (Nat.le_of_ble_eq_true rfl) (Nat.le_of_ble_eq_true rfl) (by decide) (by decide) (Nat.zero_le _) (Nat.zero_le _) (fun Q' h => m_stored ho hi hjr (X.xs (i + 1)) (X.xs (i + 2)) h) ?_
  refine Sp.icmp rfl (fun u1 => ?_) (fun u1 => absurd rfl u1)
  exact Sp.room (kk (w.sf 5 0) A ho hi (hjc.sC (sC.s5 0)) hjr.t) (Nat.le_refl _) (Nat.le_refl _) (by omega) (by omega)
set_option maxRecDepth 100000 in
theorem l_open {X : mX} {C S : Nat} {Q : Outcome → mM → Prop} {w : mWd} {A : aS} (ho : a_ok A) (hi : a_inv A) (hjc : JC w A) (hjr : JR w A) {i : Nat} (hiL : i + 5 ≤ X.L) (hL : X.L ≤ 2560) (hC : 2 ≤ C) (hS : 70 ≤ S) (kk : ∀ w' A', a_ok A' → a_inv A' → JC w' A' → JR w' A' → Sp X 92 10 193 (C - 2) (S - 70) (901, [(4, .int (nI i)), (3, .ref 22), (2, .ref 10), (1, .ref 0), (0, .retAddr 0)], []) (mw w') Q) : Sp X 92 10 193 C S (815, [(4, .int (nI i)), (3, .ref 22), (2, .ref 10), (1, .ref 0), (0, .retAddr 0)], []) (mw w) Q := by
  refine Sp.go 5 (g := (821, [(4, .int (nI i)), (3, .ref 22), (2, .ref 10), (1, .ref 0), (0, .retAddr 0)], [.int ((nI i) + 1), .retAddr 0, .ref 0])) rfl ?_
  refine Sp.sld (j := i + 1) rfl (m_ix_of (by simp only [nI, Int32.ofNat_add, Int32.ofNat_mul] <;> rfl) (by omega) (by omega)) ?_
  refine Sp.go 4 (g := (827, [(4, .int (nI i)), (3, .ref 22), (2, .ref 10), (1, .ref 0), (0, .retAddr 0)], [.int ((nI i) + 2), .retAddr 0, .int (X.xs (i + 1)), .ref 0])) rfl ?_
  refine Sp.sld (j := i + 2) rfl (m_ix_of (by simp only [nI, Int32.ofNat_add, Int32.ofNat_mul] <;> rfl) (by omega) (by omega)) ?_
  refine Sp.go 4 (g := (833, [(4, .int (nI i)), (3, .ref 22), (2, .ref 10), (1, .ref 0), (0, .retAddr 0)], [.int ((nI i) + 3), .retAddr 0, .int (X.xs (i + 2)), .int (X.xs (i + 1)), .ref 0])) rfl ?_
  refine Sp.sld (j := i + 3) rfl (m_ix_of (by simp only [nI, Int32.ofNat_add, Int32.ofNat_mul] <;> rfl) (by omega) (by omega)) ?_
  refine Sp.vr (some (.int (oOpen A (X.xs (i + 1)) (X.xs (i + 2)) (X.xs (i + 3))))) (mw (w)) (k' := 41) (F' := 3) (N' := 64) (C' := 0) (S' := 0) (vs := [.int (X.xs (i + 1)), .int (X.xs (i + 2)), .int (X.xs (i + 3))]) (st := []) rfl rfl rfl rfl (Nat.le_of_ble_eq_true rfl) (Nat.le_of_ble_eq_true rfl) (by decide) (by decide) (Nat.zero_le _) (Nat.zero_le _) (fun Q' h => c_open ho hi hjc (X.xs (i + 1)) (X.xs (i + 2)) (X.xs (i + 3)) h) ?_
  refine Sp.go 5 (g := (843, [(4, .int (nI i)), (3, .ref 22), (2, .ref 10), (1, .ref 0), (0, .retAddr 0)], [.int ((nI i) + 1), .retAddr 0, .ref 10, .int (oOpen A (X.xs (i + 1)) (X.xs (i + 2)) (X.xs (i + 3)))])) rfl ?_
  refine Sp.sld (j := i + 1) rfl (m_ix_of (by simp only [nI, Int32.ofNat_add, Int32.ofNat_mul] <;> rfl) (by omega) (by omega)) ?_
  refine Sp.go 4 (g := (849, [(4, .int (nI i)), (3, .ref 22), (2, .ref 10), (1, .ref 0), (0, .retAddr 0)], [.int ((nI i) + 2), .retAddr 0, .int (X.xs (i + 1)), .ref 10, .int (oOpen A (X.xs (i + 1)) (X.xs (i + 2)) (X.xs (i + 3)))])) rfl ?_
  refine Sp.sld (j := i + 2) rfl (m_ix_of (by simp only [nI, Int32.ofNat_add, Int32.ofNat_mul] <;> rfl) (by omega) (by omega)) ?_
  refine Sp.go 4 (g := (855, [(4, .int (nI i)), (3, .ref 22), (2, .ref 10), (1, .ref 0), (0, .retAddr 0)], [.int ((nI i) + 3), .retAddr 0, .int (X.xs (i + 2)), .int (X.xs (i + 1)), .ref 10, .int (oOpen A (X.xs (i + 1)) (X.xs (i + 2)) (X.xs (i + 3)))])) rfl ?_
  refine Sp.sld (j := i + 3) rfl (m_ix_of (by simp only [nI, Int32.ofNat_add, Int32.ofNat_mul] <;> rfl) (by omega) (by omega)) ?_
  refine Sp.vr (some (.int (oOpen A (X.xs (i + 1)) (X.xs (i + 2)) (X.xs (i + 3))))) (mw (w.sf 5 (0))) (k' := 83) (F' := 2) (N' := 43) (C' := 0) (S' := 0) (vs := [.int (X.xs (i + 1)), .int (X.xs (i + 2)), .int (X.xs (i + 3))]) (st := [.int (oOpen A (X.xs (i + 1)) (X.xs (i + 2)) (X.xs (i + 3)))]) rfl rfl rfl rfl (Nat.le_of_ble_eq_true rfl) (Nat.le_of_ble_eq_true rfl) (by decide) (by decide) (Nat.zero_le _) (Nat.zero_le _) (fun Q' h => m_open ho hi hjr (X.xs (i + 1)) (X.xs (i + 2)) (X.xs (i + 3)) h) ?_
  refine Sp.icmp rfl (fun u1 => ?_) (fun u1 => absurd rfl u1)
  exact Sp.room (kk (w.sf 5 0) A ho hi (hjc.sC (sC.s5 0)) hjr.t) (Nat.le_refl _) (Nat.le_refl _) (by omega) (by omega)
set_option maxRecDepth 100000 in
theorem l_free {X : mX} {C S : Nat} {Q : Outcome → mM → Prop} {w : mWd} {A : aS} (ho : a_ok A) (hi : a_inv A) (hjc : JC w A) (hjr : JR w A) {i : Nat} (hiL : i + 5 ≤ X.L) (hL : X.L ≤ 2560) (hC : 2 ≤ C) (hS : 70 ≤ S) (kk : ∀ w' A', a_ok A' → a_inv A' → JC w' A' → JR w' A' → Sp X 92 10 193 (C - 2) (S - 70) (901, [(4, .int (nI i)), (3, .ref 22), (2, .ref 10), (1, .ref 0), (0, .retAddr 0)], []) (mw w') Q) : Sp X 92 10 193 C S (864, [(4, .int (nI i)), (3, .ref 22), (2, .ref 10), (1, .ref 0), (0, .retAddr 0)], []) (mw w) Q := by
  refine Sp.go 5 (g := (870, [(4, .int (nI i)), (3, .ref 22), (2, .ref 10), (1, .ref 0), (0, .retAddr 0)], [.int ((nI i) + 1), .retAddr 0, .ref 0])) rfl ?_
  refine Sp.sld (j := i + 1) rfl (m_ix_of (by simp only [nI, Int32.ofNat_add, Int32.ofNat_mul] <;> rfl) (by omega) (by omega)) ?_
  refine Sp.go 4 (g := (876, [(4, .int (nI i)), (3, .ref 22), (2, .ref 10), (1, .ref 0), (0, .retAddr 0)], [.int ((nI i) + 2), .retAddr 0, .int (X.xs (i + 1)), .ref 0])) rfl ?_
  refine Sp.sld (j := i + 2) rfl (m_ix_of (by simp only [nI, Int32.ofNat_add, Int32.ofNat_mul] <;> rfl) (by omega) (by omega)) ?_
  refine Sp.vr (some (.int (oFree A (X.xs (i + 1)) (X.xs (i + 2))))) (mw (w)) (k' := 42) (F' := 2) (N' := 43) (C' := 0) (S' := 0) (vs := [.int (X.xs (i + 1)), .int (X.xs (i + 2))]) (st := []) rfl rfl rfl rfl (Nat.le_of_ble_eq_true rfl) (Nat.le_of_ble_eq_true rfl) (by decide) (by decide) (Nat.zero_le _) (Nat.zero_le _) (fun Q' h => c_free ho hi hjc (X.xs (i + 1)) (X.xs (i + 2)) h) ?_
  refine Sp.go 5 (g := (886, [(4, .int (nI i)), (3, .ref 22), (2, .ref 10), (1, .ref 0), (0, .retAddr 0)], [.int ((nI i) + 1), .retAddr 0, .ref 10, .int (oFree A (X.xs (i + 1)) (X.xs (i + 2)))])) rfl ?_
  refine Sp.sld (j := i + 1) rfl (m_ix_of (by simp only [nI, Int32.ofNat_add, Int32.ofNat_mul] <;> rfl) (by omega) (by omega)) ?_
  refine Sp.go 4 (g := (892, [(4, .int (nI i)), (3, .ref 22), (2, .ref 10), (1, .ref 0), (0, .retAddr 0)], [.int ((nI i) + 2), .retAddr 0, .int (X.xs (i + 1)), .ref 10, .int (oFree A (X.xs (i + 1)) (X.xs (i + 2)))])) rfl ?_
  refine Sp.sld (j := i + 2) rfl (m_ix_of (by simp only [nI, Int32.ofNat_add, Int32.ofNat_mul] <;> rfl) (by omega) (by omega)) ?_
  refine Sp.vr (some (.int (oFree A (X.xs (i + 1)) (X.xs (i + 2))))) (mw (w.sf 5 (0))) (k' := 84) (F' := 2) (N' := 49) (C' := 0) (S' := 0) (vs := [.int (X.xs (i + 1)), .int (X.xs (i + 2))]) (st := [.int (oFree A (X.xs (i + 1)) (X.xs (i + 2)))]) rfl rfl rfl rfl (Nat.le_of_ble_eq_true rfl) (Nat.le_of_ble_eq_true rfl) (by decide) (by decide) (Nat.zero_le _) (Nat.zero_le _) (fun Q' h => m_free ho hi hjr (X.xs (i + 1)) (X.xs (i + 2)) h) ?_
  refine Sp.icmp rfl (fun u1 => ?_) (fun u1 => absurd rfl u1)
  exact Sp.room (kk (w.sf 5 0) A ho hi (hjc.sC (sC.s5 0)) hjr.t) (Nat.le_refl _) (Nat.le_refl _) (by omega) (by omega)
set_option maxRecDepth 100000 in
theorem l_now {X : mX} {C S : Nat} {Q : Outcome → mM → Prop} {w : mWd} {A : aS} (ho : a_ok A) (hi : a_inv A) (hjc : JC w A) (hjr : JR w A) {i : Nat} (hiL : i + 5 ≤ X.L) (hL : X.L ≤ 2560) (hC : 2 ≤ C) (hS : 70 ≤ S) (kk : ∀ w' A', a_ok A' → a_inv A' → JC w' A' → JR w' A' → Sp X 92 10 193 (C - 2) (S - 70) (901, [(4, .int (nI i)), (3, .ref 22), (2, .ref 10), (1, .ref 0), (0, .retAddr 0)], []) (mw w') Q) : Sp X 92 10 193 C S (276, [(4, .int (nI i)), (3, .ref 22), (2, .ref 10), (1, .ref 0), (0, .retAddr 0)], []) (mw w) Q := by
  have hn : w.f 4 = nI A.T := by obtain ⟨q, nd, hj⟩ := hjc; exact hj.2.1.2
  refine Sp.go 1 (g := (277, [(4, .int (nI i)), (3, .ref 22), (2, .ref 10), (1, .ref 0), (0, .retAddr 0)], [.ref 0])) rfl ?_
  refine Sp.vr (some (.int (nI (A.T)))) (mw (w)) (k' := 29) (F' := 0) (N' := 0) (C' := 0) (S' := 0) (vs := []) (st := []) rfl rfl rfl rfl (Nat.le_of_ble_eq_true rfl) (Nat.le_of_ble_eq_true rfl) (by decide) (by decide) (Nat.zero_le _) (Nat.zero_le _) (fun Q' h => r_now (by rw [hn]; exact h)) ?_
  refine Sp.go 1 (g := (281, [(4, .int (nI i)), (3, .ref 22), (2, .ref 10), (1, .ref 0), (0, .retAddr 0)], [.ref 10, .int (nI (A.T))])) rfl ?_
  refine Sp.vr (some (.int (nI (A.T)))) (mw (w.sf 5 (0))) (k' := 67) (F' := 0) (N' := 0) (C' := 0) (S' := 0) (vs := []) (st := [.int (nI (A.T))]) rfl rfl rfl rfl (Nat.le_of_ble_eq_true rfl) (Nat.le_of_ble_eq_true rfl) (by decide) (by decide) (Nat.zero_le _) (Nat.zero_le _) (fun Q' h => d_now ho hjr.1 h) ?_
  refine Sp.icmp rfl (fun u1 => ?_) (fun u1 => absurd rfl u1)
  exact Sp.room (kk (w.sf 5 0) A ho hi (hjc.sC (sC.s5 0)) hjr.t) (Nat.le_refl _) (Nat.le_refl _) (by omega) (by omega)
set_option maxRecDepth 100000 in
theorem l_loop {X : mX} {Q : Outcome → mM → Prop} (hL : X.L ≤ 2560) (hq : ∀ w', Q (.returned (some (.int 1))) (mw w')) : ∀ (r i C S : Nat) (w : mWd) (A : aS), a_ok A → a_inv A → JC w A → JR w A → X.L < i + 5 * r + 5 → i ≤ 2600 → 2 * r ≤ C → 70 * r ≤ S → Sp X 92 10 193 C S (23, [(4, .int (nI i)), (3, .ref 22), (2, .ref 10), (1, .ref 0), (0, .retAddr 0)], []) (mw w) Q := by
  intro r
  induction r with
  | zero =>
    intro i C S w A ho hi hjc hjr hr hi9 hC hS
    refine Sp.go 2 (g := (26, [(4, .int (nI i)), (3, .ref 22), (2, .ref 10), (1, .ref 0), (0, .retAddr 0)], [.retAddr 0, .int (nI i)])) rfl ?_
    refine Sp.slen rfl ?_
    refine Sp.go 2 (g := (29, [(4, .int (nI i)), (3, .ref 22), (2, .ref 10), (1, .ref 0), (0, .retAddr 0)], [.int ((nI X.L) - 5), .int (nI i)])) rfl ?_
    refine Sp.icmp rfl (fun u1 => ?_) (fun u1 => absurd ((len5 hL hi9).mpr (by omega)) u1)
    refine Sp.go 1 (g := (908, [(4, .int (nI i)), (3, .ref 22), (2, .ref 10), (1, .ref 0), (0, .retAddr 0)], [.int 1])) rfl ?_
    refine Sp.iret rfl (Or.inr ⟨rfl, Or.inr rfl⟩) ?_
    exact hq w
  | succ r ih =>
    intro i C S w A ho hi hjc hjr hr hi9 hC hS
    by_cases hend : X.L < i + 5
    · skip
      refine Sp.go 2 (g := (26, [(4, .int (nI i)), (3, .ref 22), (2, .ref 10), (1, .ref 0), (0, .retAddr 0)], [.retAddr 0, .int (nI i)])) rfl ?_
      refine Sp.slen rfl ?_
      refine Sp.go 2 (g := (29, [(4, .int (nI i)), (3, .ref 22), (2, .ref 10), (1, .ref 0), (0, .retAddr 0)], [.int ((nI X.L) - 5), .int (nI i)])) rfl ?_
      refine Sp.icmp rfl (fun u1 => ?_) (fun u1 => absurd ((len5 hL hi9).mpr hend) u1)
      refine Sp.go 1 (g := (908, [(4, .int (nI i)), (3, .ref 22), (2, .ref 10), (1, .ref 0), (0, .retAddr 0)], [.int 1])) rfl ?_
      refine Sp.iret rfl (Or.inr ⟨rfl, Or.inr rfl⟩) ?_
      exact hq w
    · have hiL : i + 5 ≤ X.L := by omega
      have kk : ∀ w' A', a_ok A' → a_inv A' → JC w' A' → JR w' A' → Sp X 92 10 193 (C - 2) (S - 70) (901, [(4, .int (nI i)), (3, .ref 22), (2, .ref 10), (1, .ref 0), (0, .retAddr 0)], []) (mw w') Q := by
        intro w' A' q1 q2 q3 q4
        refine Sp.go 2 (g := (23, [(4, .int (nI i + 5)), (3, .ref 22), (2, .ref 10), (1, .ref 0), (0, .retAddr 0)], [])) rfl ?_
        rw [show nI i + 5 = nI (i + 5) by simp only [nI, Int32.ofNat_add] <;> rfl]
        exact ih (i + 5) (C - 2) (S - 70) w' A' q1 q2 q3 q4 (by omega) (by omega) (by omega) (by omega)
      refine Sp.go 2 (g := (26, [(4, .int (nI i)), (3, .ref 22), (2, .ref 10), (1, .ref 0), (0, .retAddr 0)], [.retAddr 0, .int (nI i)])) rfl ?_
      refine Sp.slen rfl ?_
      refine Sp.go 2 (g := (29, [(4, .int (nI i)), (3, .ref 22), (2, .ref 10), (1, .ref 0), (0, .retAddr 0)], [.int ((nI X.L) - 5), .int (nI i)])) rfl ?_
      refine Sp.icmp rfl (fun u1 => absurd u1 (fun z => hend ((len5 hL hi9).mp z))) (fun u1 => ?_)
      refine Sp.go 2 (g := (35, [(4, .int (nI i)), (3, .ref 22), (2, .ref 10), (1, .ref 0), (0, .retAddr 0)], [.int (nI i), .retAddr 0])) rfl ?_
      refine Sp.sld (j := i) rfl (m_ix_of (by simp only [nI, Int32.ofNat_add, Int32.ofNat_mul] <;> rfl) (by omega) (by omega)) ?_
      refine Sp.go 2 (g := (39, [(4, .int (nI i)), (3, .ref 22), (2, .ref 10), (1, .ref 0), (0, .retAddr 0)], [.int ((X.xs i) &&& 15)])) rfl ?_
      obtain ⟨v, hv, ev⟩ := and15 (X.xs i)
      rw [ev]
      rcases (by omega : v = 0 ∨ v = 1 ∨ v = 2 ∨ v = 3 ∨ v = 4 ∨ v = 5 ∨ v = 6 ∨ v = 7 ∨ v = 8 ∨ v = 9 ∨ v = 10 ∨ v = 11 ∨ v = 12 ∨ v = 13 ∨ v = 14 ∨ v = 15) with rfl | rfl | rfl | rfl | rfl | rfl | rfl | rfl | rfl | rfl | rfl | rfl | rfl | rfl | rfl | rfl
      · exact Sp.tsw (tgt := 116) rfl (by decide) (by decide) rfl rfl (l_node ho hi hjc hjr hiL hL (by omega) (by omega) kk)
      · exact Sp.tsw (tgt := 184) rfl (by decide) (by decide) rfl rfl (l_contact ho hi hjc hjr hiL hL (by omega) (by omega) kk)
      · exact Sp.tsw (tgt := 276) rfl (by decide) (by decide) rfl rfl (l_now ho hi hjc hjr hiL hL (by omega) (by omega) kk)
      · exact Sp.tsw (tgt := 289) rfl (by decide) (by decide) rfl rfl (l_book ho hi hjc hjr hiL hL (by omega) (by omega) kk)
      · exact Sp.tsw (tgt := 369) rfl (by decide) (by decide) rfl rfl (l_whatIf ho hi hjc hjr hiL hL (by omega) (by omega) kk)
      · exact Sp.tsw (tgt := 449) rfl (by decide) (by decide) rfl rfl (l_cancel ho hi hjc hjr hiL hL (by omega) (by omega) kk)
      · exact Sp.tsw (tgt := 505) rfl (by decide) (by decide) rfl rfl (l_cut ho hi hjc hjr hiL hL (by omega) (by omega) kk)
      · exact Sp.tsw (tgt := 573) rfl (by decide) (by decide) rfl rfl (l_tick ho hi hjc hjr hiL hL (by omega) (by omega) kk)
      · exact Sp.tsw (tgt := 617) rfl (by decide) (by decide) rfl rfl (l_state ho hi hjc hjr hiL hL (by omega) (by omega) kk)
      · exact Sp.tsw (tgt := 642) rfl (by decide) (by decide) rfl rfl (l_where ho hi hjc hjr hiL hL (by omega) (by omega) kk)
      · exact Sp.tsw (tgt := 667) rfl (by decide) (by decide) rfl rfl (l_arrival ho hi hjc hjr hiL hL (by omega) (by omega) kk)
      · exact Sp.tsw (tgt := 692) rfl (by decide) (by decide) rfl rfl (l_step ho hi hjc hjr hiL hL (by omega) (by omega) kk)
      · exact Sp.tsw (tgt := 729) rfl (by decide) (by decide) rfl rfl (l_linkUsed ho hi hjc hjr hiL hL (by omega) (by omega) kk)
      · exact Sp.tsw (tgt := 778) rfl (by decide) (by decide) rfl rfl (l_stored ho hi hjc hjr hiL hL (by omega) (by omega) kk)
      · exact Sp.tsw (tgt := 815) rfl (by decide) (by decide) rfl rfl (l_open ho hi hjc hjr hiL hL (by omega) (by omega) kk)
      · exact Sp.tsw (tgt := 864) rfl (by decide) (by decide) rfl rfl (l_free ho hi hjc hjr hiL hL (by omega) (by omega) kk)
