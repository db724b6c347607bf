/-! The law's helpers. Rows laid by wip/gen/law1.py. -/
/-- how a call on the desk may end: with k = 0 and the answer v, or with an exception -/
def s_Qc (w : mWd) (A' : aS) (k v : Int32) (e1 e2 : Nat) (o : Outcome) (M : mM) : Prop := ∃ w', M = mw w' ∧ JC w' A' ∧ sM w w' ∧ ((k = 0 ∧ o = .returned (some (.int v))) ∨ (k = 1 ∧ o = .threw e1) ∨ (k = 2 ∧ o = .threw e2))
/-- how a call on the reference ends -/
def s_Qm (w : mWd) (A' : aS) (k v : Int32) (o : Outcome) (M : mM) : Prop := ∃ w' v', M = mw w' ∧ o = .returned (some (.int v')) ∧ JR w' A' ∧ sC w w' ∧ w'.f 5 = k ∧ (k = 0 → v' = v)
theorem vp0 {f : Nat → Int64} {x : Int64} : vp_updL f 0 x 0 = x := by unfold vp_updL; rfl
theorem i64_0 : ¬ (1 : Int32) = 0 := by decide
theorem lh_node {X : mX} {C S : Nat} {Q : Outcome → mM → Prop} {w : mWd} {A' : aS} {k v : Int32} {x0 x1 : Int32} (hC : 2 ≤ C) (hS : 70 ≤ S) (hsp : Sp X 27 6 82 2 70 (0, [(0, .ref 0), (1, .int (x0)), (2, .int (x1))], []) (mw w) (s_Qc w A' k v 0 1)) (hq : ∀ w', JC w' A' → sM w w' → (k = 0 → w'.o 0 = v.toInt64) → Q (.returned (some (.int k))) (mw w')) : Sp X 85 7 104 C S (0, [(0, .ref 0), (1, .int (x0)), (2, .int (x1)), (3, .ref 22)], []) (mw w) Q := by
  refine Sp.go 5 (g := (5, [(0, .ref 0), (1, .int (x0)), (2, .int (x1)), (3, .ref 22)], [.int (x1), .int (x0), .ref 0, .int 0, .ref 22])) rfl ?_
  refine Sp.callV (Qc := s_Qc w A' k v 0 1) (k' := 27) (F' := 6) (N' := 82) (C' := 2) (S' := 70) (vs := [.int (x0), .int (x1)]) (st := [.int 0, .ref 22]) rfl rfl rfl rfl (Nat.le_of_ble_eq_true rfl) (Nat.le_of_ble_eq_true rfl) (by decide) (by decide) hC hS hsp (fun v9 M' h => ?_) (fun q M' h => ?_)
  · obtain ⟨w', rfl, h1, h2, h3⟩ := h
    rcases h3 with ⟨h3, h4⟩ | ⟨h3, h4⟩ | ⟨h3, h4⟩
    · cases h4
      refine Sp.go 1 (g := (9, [(0, .ref 0), (1, .int (x0)), (2, .int (x1)), (3, .ref 22)], [.long (v.toInt64), .int 0, .ref 22])) rfl ?_
      refine Sp.po rfl (m_ix_of (by rfl) (by omega) (by omega)) ?_
      refine Sp.go 2 (g := (22, [(0, .ref 0), (1, .int (x0)), (2, .int (x1)), (3, .ref 22)], [.int 0])) rfl ?_
      refine Sp.iret rfl (Or.inl rfl) ?_
      rw [← h3]; exact hq _ h1 h2 (fun _ => vp0 (f := w'.o))
    · cases h4
    · cases h4
  · obtain ⟨w', rfl, h1, h2, h3⟩ := h
    rcases h3 with ⟨h3, h4⟩ | ⟨h3, h4⟩ | ⟨h3, h4⟩
    · cases h4
    · cases h4
      refine ⟨by decide, Or.inr ⟨13, rfl, ?_⟩⟩
      refine Sp.go 2 (g := (16, [(4, .ref ((mw w').2.1 - 1)), (0, .ref 0), (1, .int (x0)), (2, .int (x1)), (3, .ref 22)], [.int 1])) rfl ?_
      refine Sp.iret rfl (Or.inl rfl) ?_
      rw [← h3]; exact hq _ h1 h2 (fun z => absurd (h3.symm.trans z) (by decide))
    · cases h4
      refine ⟨by decide, Or.inr ⟨17, rfl, ?_⟩⟩
      refine Sp.go 2 (g := (20, [(4, .ref ((mw w').2.1 - 1)), (0, .ref 0), (1, .int (x0)), (2, .int (x1)), (3, .ref 22)], [.int 2])) rfl ?_
      refine Sp.iret rfl (Or.inl rfl) ?_
      rw [← h3]; exact hq _ h1 h2 (fun z => absurd (h3.symm.trans z) (by decide))
theorem lh_contact {X : mX} {C S : Nat} {Q : Outcome → mM → Prop} {w : mWd} {A' : aS} {k v : Int32} {x0 x1 x2 x3 : Int32} (hC : 2 ≤ C) (hS : 70 ≤ S) (hsp : Sp X 28 7 104 2 70 (0, [(0, .ref 0), (1, .int (x0)), (2, .int (x1)), (3, .int (x2)), (4, .int (x3))], []) (mw w) (s_Qc w A' k v 0 1)) (hq : ∀ w', JC w' A' → sM w w' → (k = 0 → w'.o 0 = v.toInt64) → Q (.returned (some (.int k))) (mw w')) : Sp X 86 8 128 C S (0, [(0, .ref 0), (1, .int (x0)), (2, .int (x1)), (3, .int (x2)), (4, .int (x3)), (5, .ref 22)], []) (mw w) Q := by
  refine Sp.go 7 (g := (9, [(0, .ref 0), (1, .int (x0)), (2, .int (x1)), (3, .int (x2)), (4, .int (x3)), (5, .ref 22)], [.int (x3), .int (x2), .int (x1), .int (x0), .ref 0, .int 0, .ref 22])) rfl ?_
  refine Sp.callV (Qc := s_Qc w A' k v 0 1) (k' := 28) (F' := 7) (N' := 104) (C' := 2) (S' := 70) (vs := [.int (x0), .int (x1), .int (x2), .int (x3)]) (st := [.int 0, .ref 22]) rfl rfl rfl rfl (Nat.le_of_ble_eq_true rfl) (Nat.le_of_ble_eq_true rfl) (by decide) (by decide) hC hS hsp (fun v9 M' h => ?_) (fun q M' h => ?_)
  · obtain ⟨w', rfl, h1, h2, h3⟩ := h
    rcases h3 with ⟨h3, h4⟩ | ⟨h3, h4⟩ | ⟨h3, h4⟩
    · cases h4
      refine Sp.go 1 (g := (13, [(0, .ref 0), (1, .int (x0)), (2, .int (x1)), (3, .int (x2)), (4, .int (x3)), (5, .ref 22)], [.long (v.toInt64), .int 0, .ref 22])) rfl ?_
      refine Sp.po rfl (m_ix_of (by rfl) (by omega) (by omega)) ?_
      refine Sp.go 2 (g := (26, [(0, .ref 0), (1, .int (x0)), (2, .int (x1)), (3, .int (x2)), (4, .int (x3)), (5, .ref 22)], [.int 0])) rfl ?_
      refine Sp.iret rfl (Or.inl rfl) ?_
      rw [← h3]; exact hq _ h1 h2 (fun _ => vp0 (f := w'.o))
    · cases h4
    · cases h4
  · obtain ⟨w', rfl, h1, h2, h3⟩ := h
    rcases h3 with ⟨h3, h4⟩ | ⟨h3, h4⟩ | ⟨h3, h4⟩
    · cases h4
    · cases h4
      refine ⟨by decide, Or.inr ⟨17, rfl, ?_⟩⟩
      refine Sp.go 2 (g := (20, [(6, .ref ((mw w').2.1 - 1)), (0, .ref 0), (1, .int (x0)), (2, .int (x1)), (3, .int (x2)), (4, .int (x3)), (5, .ref 22)], [.int 1])) rfl ?_
      refine Sp.iret rfl (Or.inl rfl) ?_
      rw [← h3]; exact hq _ h1 h2 (fun z => absurd (h3.symm.trans z) (by decide))
    · cases h4
      refine ⟨by decide, Or.inr ⟨21, rfl, ?_⟩⟩
      refine Sp.go 2 (g := (24, [(6, .ref ((mw w').2.1 - 1)), (0, .ref 0), (1, .int (x0)), (2, .int (x1)), (3, .int (x2)), (4, .int (x3)), (5, .ref 22)], [.int 2])) rfl ?_
      refine Sp.iret rfl (Or.inl rfl) ?_
      rw [← h3]; exact hq _ h1 h2 (fun z => absurd (h3.symm.trans z) (by decide))
theorem lh_book {X : mX} {C S : Nat} {Q : Outcome → mM → Prop} {w : mWd} {A' : aS} {k v : Int32} {x0 x1 x2 : Int32} (hC : 2 ≤ C) (hS : 70 ≤ S) (hsp : Sp X 30 8 127 2 70 (0, [(0, .ref 0), (1, .int (x0)), (2, .int (x1)), (3, .int (x2))], []) (mw w) (s_Qc w A' k v 0 1)) (hq : ∀ w', JC w' A' → sM w w' → (k = 0 → w'.o 0 = v.toInt64) → Q (.returned (some (.int k))) (mw w')) : Sp X 87 9 152 C S (0, [(0, .ref 0), (1, .int (x0)), (2, .int (x1)), (3, .int (x2)), (4, .ref 22)], []) (mw w) Q := by
  refine Sp.go 6 (g := (7, [(0, .ref 0), (1, .int (x0)), (2, .int (x1)), (3, .int (x2)), (4, .ref 22)], [.int (x2), .int (x1), .int (x0), .ref 0, .int 0, .ref 22])) rfl ?_
  refine Sp.callV (Qc := s_Qc w A' k v 0 1) (k' := 30) (F' := 8) (N' := 127) (C' := 2) (S' := 70) (vs := [.int (x0), .int (x1), .int (x2)]) (st := [.int 0, .ref 22]) rfl rfl rfl rfl (Nat.le_of_ble_eq_true rfl) (Nat.le_of_ble_eq_true rfl) (by decide) (by decide) hC hS hsp (fun v9 M' h => ?_) (fun q M' h => ?_)
  · obtain ⟨w', rfl, h1, h2, h3⟩ := h
    rcases h3 with ⟨h3, h4⟩ | ⟨h3, h4⟩ | ⟨h3, h4⟩
    · cases h4
      refine Sp.go 1 (g := (11, [(0, .ref 0), (1, .int (x0)), (2, .int (x1)), (3, .int (x2)), (4, .ref 22)], [.long (v.toInt64), .int 0, .ref 22])) rfl ?_
      refine Sp.po rfl (m_ix_of (by rfl) (by omega) (by omega)) ?_
      refine Sp.go 2 (g := (24, [(0, .ref 0), (1, .int (x0)), (2, .int (x1)), (3, .int (x2)), (4, .ref 22)], [.int 0])) rfl ?_
      refine Sp.iret rfl (Or.inl rfl) ?_
      rw [← h3]; exact hq _ h1 h2 (fun _ => vp0 (f := w'.o))
    · cases h4
    · cases h4
  · obtain ⟨w', rfl, h1, h2, h3⟩ := h
    rcases h3 with ⟨h3, h4⟩ | ⟨h3, h4⟩ | ⟨h3, h4⟩
    · cases h4
    · cases h4
      refine ⟨by decide, Or.inr ⟨15, rfl, ?_⟩⟩
      refine Sp.go 2 (g := (18, [(5, .ref ((mw w').2.1 - 1)), (0, .ref 0), (1, .int (x0)), (2, .int (x1)), (3, .int (x2)), (4, .ref 22)], [.int 1])) rfl ?_
      refine Sp.iret rfl (Or.inl rfl) ?_
      rw [← h3]; exact hq _ h1 h2 (fun z => absurd (h3.symm.trans z) (by decide))
    · cases h4
      refine ⟨by decide, Or.inr ⟨19, rfl, ?_⟩⟩
      refine Sp.go 2 (g := (22, [(5, .ref ((mw w').2.1 - 1)), (0, .ref 0), (1, .int (x0)), (2, .int (x1)), (3, .int (x2)), (4, .ref 22)], [.int 2])) rfl ?_
      refine Sp.iret rfl (Or.inl rfl) ?_
      rw [← h3]; exact hq _ h1 h2 (fun z => absurd (h3.symm.trans z) (by decide))
theorem lh_whatIf {X : mX} {C S : Nat} {Q : Outcome → mM → Prop} {w : mWd} {A' : aS} {k v : Int32} {x0 x1 x2 : Int32} (hC : 2 ≤ C) (hS : 70 ≤ S) (hsp : Sp X 31 8 127 2 70 (0, [(0, .ref 0), (1, .int (x0)), (2, .int (x1)), (3, .int (x2))], []) (mw w) (s_Qc w A' k v 0 1)) (hq : ∀ w', JC w' A' → sM w w' → (k = 0 → w'.o 0 = v.toInt64) → Q (.returned (some (.int k))) (mw w')) : Sp X 88 9 150 C S (0, [(0, .ref 0), (1, .int (x0)), (2, .int (x1)), (3, .int (x2)), (4, .ref 22)], []) (mw w) Q := by
  refine Sp.go 6 (g := (7, [(0, .ref 0), (1, .int (x0)), (2, .int (x1)), (3, .int (x2)), (4, .ref 22)], [.int (x2), .int (x1), .int (x0), .ref 0, .int 0, .ref 22])) rfl ?_
  refine Sp.callV (Qc := s_Qc w A' k v 0 1) (k' := 31) (F' := 8) (N' := 127) (C' := 2) (S' := 70) (vs := [.int (x0), .int (x1), .int (x2)]) (st := [.int 0, .ref 22]) rfl rfl rfl rfl (Nat.le_of_ble_eq_true rfl) (Nat.le_of_ble_eq_true rfl) (by decide) (by decide) hC hS hsp (fun v9 M' h => ?_) (fun q M' h => ?_)
  · obtain ⟨w', rfl, h1, h2, h3⟩ := h
    rcases h3 with ⟨h3, h4⟩ | ⟨h3, h4⟩ | ⟨h3, h4⟩
    · cases h4
      refine Sp.go 1 (g := (11, [(0, .ref 0), (1, .int (x0)), (2, .int (x1)), (3, .int (x2)), (4, .ref 22)], [.long (v.toInt64), .int 0, .ref 22])) rfl ?_
      refine Sp.po rfl (m_ix_of (by rfl) (by omega) (by omega)) ?_
      refine Sp.go 2 (g := (24, [(0, .ref 0), (1, .int (x0)), (2, .int (x1)), (3, .int (x2)), (4, .ref 22)], [.int 0])) rfl ?_
      refine Sp.iret rfl (Or.inl rfl) ?_
      rw [← h3]; exact hq _ h1 h2 (fun _ => vp0 (f := w'.o))
    · cases h4
    · cases h4
  · obtain ⟨w', rfl, h1, h2, h3⟩ := h
    rcases h3 with ⟨h3, h4⟩ | ⟨h3, h4⟩ | ⟨h3, h4⟩
    · cases h4
    · cases h4
      refine ⟨by decide, Or.inr ⟨15, rfl, ?_⟩⟩
      refine Sp.go 2 (g := (18, [(5, .ref ((mw w').2.1 - 1)), (0, .ref 0), (1, .int (x0)), (2, .int (x1)), (3, .int (x2)), (4, .ref 22)], [.int 1])) rfl ?_
      refine Sp.iret rfl (Or.inl rfl) ?_
      rw [← h3]; exact hq _ h1 h2 (fun z => absurd (h3.symm.trans z) (by decide))
    · cases h4
      refine ⟨by decide, Or.inr ⟨19, rfl, ?_⟩⟩
      refine Sp.go 2 (g := (22, [(5, .ref ((mw w').2.1 - 1)), (0, .ref 0), (1, .int (x0)), (2, .int (x1)), (3, .int (x2)), (4, .ref 22)], [.int 2])) rfl ?_
      refine Sp.iret rfl (Or.inl rfl) ?_
      rw [← h3]; exact hq _ h1 h2 (fun z => absurd (h3.symm.trans z) (by decide))
theorem lh_cancel {X : mX} {C S : Nat} {Q : Outcome → mM → Prop} {w : mWd} {A' : aS} {k v : Int32} {x0 : Int32} (hC : 2 ≤ C) (hS : 70 ≤ S) (hsp : Sp X 32 6 82 2 70 (0, [(0, .ref 0), (1, .int (x0))], []) (mw w) (s_Qc w A' k v 2 1)) (hq : ∀ w', JC w' A' → sM w w' → (k = 0 → w'.o 0 = v.toInt64) → Q (.returned (some (.int k))) (mw w')) : Sp X 89 7 104 C S (0, [(0, .ref 0), (1, .int (x0)), (2, .ref 22)], []) (mw w) Q := by
  refine Sp.go 4 (g := (4, [(0, .ref 0), (1, .int (x0)), (2, .ref 22)], [.int (x0), .ref 0, .int 0, .ref 22])) rfl ?_
  refine Sp.callV (Qc := s_Qc w A' k v 2 1) (k' := 32) (F' := 6) (N' := 82) (C' := 2) (S' := 70) (vs := [.int (x0)]) (st := [.int 0, .ref 22]) rfl rfl rfl rfl (Nat.le_of_ble_eq_true rfl) (Nat.le_of_ble_eq_true rfl) (by decide) (by decide) hC hS hsp (fun v9 M' h => ?_) (fun q M' h => ?_)
  · obtain ⟨w', rfl, h1, h2, h3⟩ := h
    rcases h3 with ⟨h3, h4⟩ | ⟨h3, h4⟩ | ⟨h3, h4⟩
    · cases h4
      refine Sp.go 1 (g := (8, [(0, .ref 0), (1, .int (x0)), (2, .ref 22)], [.long (v.toInt64), .int 0, .ref 22])) rfl ?_
      refine Sp.po rfl (m_ix_of (by rfl) (by omega) (by omega)) ?_
      refine Sp.go 2 (g := (19, [(0, .ref 0), (1, .int (x0)), (2, .ref 22)], [.int 0])) rfl ?_
      refine Sp.iret rfl (Or.inl rfl) ?_
      rw [← h3]; exact hq _ h1 h2 (fun _ => vp0 (f := w'.o))
    · cases h4
    · cases h4
  · obtain ⟨w', rfl, h1, h2, h3⟩ := h
    rcases h3 with ⟨h3, h4⟩ | ⟨h3, h4⟩ | ⟨h3, h4⟩
    · cases h4
    · cases h4
      refine ⟨by decide, Or.inr ⟨12, rfl, ?_⟩⟩
      refine Sp.go 2 (g := (14, [(3, .ref ((mw w').2.1 - 1)), (0, .ref 0), (1, .int (x0)), (2, .ref 22)], [.int 1])) rfl ?_
      refine Sp.iret rfl (Or.inl rfl) ?_
      rw [← h3]; exact hq _ h1 h2 (fun z => absurd (h3.symm.trans z) (by decide))
    · cases h4
      refine ⟨by decide, Or.inr ⟨15, rfl, ?_⟩⟩
      refine Sp.go 2 (g := (17, [(3, .ref ((mw w').2.1 - 1)), (0, .ref 0), (1, .int (x0)), (2, .ref 22)], [.int 2])) rfl ?_
      refine Sp.iret rfl (Or.inl rfl) ?_
      rw [← h3]; exact hq _ h1 h2 (fun z => absurd (h3.symm.trans z) (by decide))
theorem lh_cut {X : mX} {C S : Nat} {Q : Outcome → mM → Prop} {w : mWd} {A' : aS} {k v : Int32} {x0 x1 : Int32} (hC : 2 ≤ C) (hS : 70 ≤ S) (hsp : Sp X 33 7 142 2 70 (0, [(0, .ref 0), (1, .int (x0)), (2, .int (x1))], []) (mw w) (s_Qc w A' k v 0 7)) (hk2 : k ≠ 2) (hq : ∀ w', JC w' A' → sM w w' → (k = 0 → w'.o 0 = v.toInt64) → Q (.returned (some (.int k))) (mw w')) : Sp X 90 8 169 C S (0, [(0, .ref 0), (1, .int (x0)), (2, .int (x1)), (3, .ref 22)], []) (mw w) Q := by
  refine Sp.go 5 (g := (5, [(0, .ref 0), (1, .int (x0)), (2, .int (x1)), (3, .ref 22)], [.int (x1), .int (x0), .ref 0, .int 0, .ref 22])) rfl ?_
  refine Sp.callV (Qc := s_Qc w A' k v 0 7) (k' := 33) (F' := 7) (N' := 142) (C' := 2) (S' := 70) (vs := [.int (x0), .int (x1)]) (st := [.int 0, .ref 22]) rfl rfl rfl rfl (Nat.le_of_ble_eq_true rfl) (Nat.le_of_ble_eq_true rfl) (by decide) (by decide) hC hS hsp (fun v9 M' h => ?_) (fun q M' h => ?_)
  · obtain ⟨w', rfl, h1, h2, h3⟩ := h
    rcases h3 with ⟨h3, h4⟩ | ⟨h3, h4⟩ | ⟨h3, h4⟩
    · cases h4
      refine Sp.go 1 (g := (9, [(0, .ref 0), (1, .int (x0)), (2, .int (x1)), (3, .ref 22)], [.long (v.toInt64), .int 0, .ref 22])) rfl ?_
      refine Sp.po rfl (m_ix_of (by rfl) (by omega) (by omega)) ?_
      refine Sp.go 2 (g := (18, [(0, .ref 0), (1, .int (x0)), (2, .int (x1)), (3, .ref 22)], [.int 0])) rfl ?_
      refine Sp.iret rfl (Or.inl rfl) ?_
      rw [← h3]; exact hq _ h1 h2 (fun _ => vp0 (f := w'.o))
    · cases h4
    · cases h4
  · obtain ⟨w', rfl, h1, h2, h3⟩ := h
    rcases h3 with ⟨h3, h4⟩ | ⟨h3, h4⟩ | ⟨h3, h4⟩
    · cases h4
    · cases h4
      refine ⟨by decide, Or.inr ⟨13, rfl, ?_⟩⟩
      refine Sp.go 2 (g := (16, [(4, .ref ((mw w').2.1 - 1)), (0, .ref 0), (1, .int (x0)), (2, .int (x1)), (3, .ref 22)], [.int 1])) rfl ?_
      refine Sp.iret rfl (Or.inl rfl) ?_
      rw [← h3]; exact hq _ h1 h2 (fun z => absurd (h3.symm.trans z) (by decide))
    · exact absurd h3 hk2
theorem lh_tick {X : mX} {C S : Nat} {Q : Outcome → mM → Prop} {w : mWd} {A' : aS} {k v : Int32} (hC : 2 ≤ C) (hS : 70 ≤ S) (hsp : Sp X 34 6 82 2 70 (0, [(0, .ref 0)], []) (mw w) (s_Qc w A' k v 1 7)) (hk2 : k ≠ 2) (hq : ∀ w', JC w' A' → sM w w' → (k = 0 → w'.o 0 = v.toInt64) → Q (.returned (some (.int k))) (mw w')) : Sp X 91 7 105 C S (0, [(0, .ref 0), (1, .ref 22)], []) (mw w) Q := by
  refine Sp.go 3 (g := (3, [(0, .ref 0), (1, .ref 22)], [.ref 0, .int 0, .ref 22])) rfl ?_
  refine Sp.callV (Qc := s_Qc w A' k v 1 7) (k' := 34) (F' := 6) (N' := 82) (C' := 2) (S' := 70) (vs := []) (st := [.int 0, .ref 22]) rfl rfl rfl rfl (Nat.le_of_ble_eq_true rfl) (Nat.le_of_ble_eq_true rfl) (by decide) (by decide) hC hS hsp (fun v9 M' h => ?_) (fun q M' h => ?_)
  · obtain ⟨w', rfl, h1, h2, h3⟩ := h
    rcases h3 with ⟨h3, h4⟩ | ⟨h3, h4⟩ | ⟨h3, h4⟩
    · cases h4
      refine Sp.go 1 (g := (7, [(0, .ref 0), (1, .ref 22)], [.long (v.toInt64), .int 0, .ref 22])) rfl ?_
      refine Sp.po rfl (m_ix_of (by rfl) (by omega) (by omega)) ?_
      refine Sp.go 2 (g := (15, [(0, .ref 0), (1, .ref 22)], [.int 0])) rfl ?_
      refine Sp.iret rfl (Or.inl rfl) ?_
      rw [← h3]; exact hq _ h1 h2 (fun _ => vp0 (f := w'.o))
    · cases h4
    · cases h4
  · obtain ⟨w', rfl, h1, h2, h3⟩ := h
    rcases h3 with ⟨h3, h4⟩ | ⟨h3, h4⟩ | ⟨h3, h4⟩
    · cases h4
    · cases h4
      refine ⟨by decide, Or.inr ⟨11, rfl, ?_⟩⟩
      refine Sp.go 2 (g := (13, [(2, .ref ((mw w').2.1 - 1)), (0, .ref 0), (1, .ref 22)], [.int 1])) rfl ?_
      refine Sp.iret rfl (Or.inl rfl) ?_
      rw [← h3]; exact hq _ h1 h2 (fun z => absurd (h3.symm.trans z) (by decide))
    · exact absurd h3 hk2
