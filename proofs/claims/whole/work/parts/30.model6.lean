/-! The reference: cancel, tick, whatIf, book. Rows laid by wip/gen/model6.py. -/
theorem nI_sub1 {n : Nat} (h : 0 < n) : nI n - 1 = nI (n - 1) := by
  obtain ⟨m, rfl⟩ : ∃ m, n = m + 1 := ⟨n - 1, by omega⟩
  rw [show m + 1 - 1 = m by omega]; exact nI_pred m
theorem d_cutOff {X : mX} {C S : Nat} {Q : Outcome → mM → Prop} {w : mWd} {A : aS} (ho : a_ok A) (hj : JR0 w A) {h : Nat} (hh : h < A.P) (hq : Q (.returned none) (mw (w.sa 18 (upd (w.a 18) h (nI (a_cutla A h)))))) : Sp X 73 0 0 C S (0, [(0, .ref 10), (1, .int (nI h))], []) (mw w) Q := by
  have h32 := ho.2.2.1
  have hb4 := ho.2.2.2.2 h hh
  have hT := ho.1
  refine Sp.go 1 (g := (1, [(0, .ref 10), (1, .int (nI h))], [.ref 10])) rfl ?_
  refine Sp.get (v := .ref 18) rfl rfl rfl ?_
  refine Sp.go 2 (g := (6, [(0, .ref 10), (1, .int (nI h))], [.ref 10, .int (nI h), .ref 18])) rfl ?_
  refine Sp.get (v := .ref 17) rfl rfl rfl ?_
  refine Sp.go 1 (g := (10, [(0, .ref 10), (1, .int (nI h))], [.int (nI h), .ref 17, .int (nI h), .ref 18])) rfl ?_
  refine Sp.iald (f := w.a 17) (j := h) rfl rfl (m_ix_of (by simp only [nI, Int32.ofNat_add, Int32.ofNat_mul] <;> rfl) (by omega) (by omega)) ?_
  rw [hj.fir hh]
  refine Sp.go 1 (g := (12, [(0, .ref 10), (1, .int (nI h))], [.ref 10, .int (nI (A.at h)), .int (nI h), .ref 18])) rfl ?_
  refine Sp.get (v := .int (nI (A.T))) rfl rfl (by rw [← hj.now]; rfl) ?_
  refine Sp.icmp rfl (fun (h1 : (nI (A.at h) : Int32) ≤ (nI (A.T) : Int32)) => ?_) (fun (h1 : ¬ ((nI (A.at h) : Int32) ≤ (nI (A.T) : Int32))) => ?_)
  · skip
    refine Sp.go 1 (g := (30, [(0, .ref 10), (1, .int (nI h))], [.ref 10, .int (nI h), .ref 18])) rfl ?_
    refine Sp.get (v := .int (nI (A.T))) rfl rfl (by rw [← hj.now]; rfl) ?_
    refine Sp.pa18 (j := h) rfl (m_ix_of (by simp only [nI, Int32.ofNat_add, Int32.ofNat_mul] <;> rfl) (by omega) (by omega)) ?_
    refine Sp.vret rfl rfl ?_
    rw [show a_cutla A h = A.T from if_neg (by rw [nI_le' (by omega) (by omega)] at h1; omega)] at hq; exact hq
  · skip
    refine Sp.go 1 (g := (19, [(0, .ref 10), (1, .int (nI h))], [.ref 10, .int (nI h), .ref 18])) rfl ?_
    refine Sp.get (v := .ref 17) rfl rfl rfl ?_
    refine Sp.go 1 (g := (23, [(0, .ref 10), (1, .int (nI h))], [.int (nI h), .ref 17, .int (nI h), .ref 18])) rfl ?_
    refine Sp.iald (f := w.a 17) (j := h) rfl rfl (m_ix_of (by simp only [nI, Int32.ofNat_add, Int32.ofNat_mul] <;> rfl) (by omega) (by omega)) ?_
    rw [hj.fir hh]
    refine Sp.go 3 (g := (33, [(0, .ref 10), (1, .int (nI h))], [.int ((nI (A.at h)) - 1), .int (nI h), .ref 18])) rfl ?_
    refine Sp.pa18 (j := h) rfl (m_ix_of (by simp only [nI, Int32.ofNat_add, Int32.ofNat_mul] <;> rfl) (by omega) (by omega)) ?_
    refine Sp.vret rfl rfl ?_
    have e1 : ¬ A.at h ≤ A.T := by rw [nI_le' (by omega) (by omega)] at h1; exact h1
    rw [show a_cutla A h = A.at h - 1 from if_pos (by omega), ← nI_sub1 (by omega)] at hq; exact hq
def a_less (A : aS) (h : Nat) : Int32 := nI (A.la h) - nI (max (A.at h) A.T)
theorem d_cancel_b1 {X : mX} {C S : Nat} {Q : Outcome → mM → Prop} {w : mWd} {A : aS} (ho : a_ok A) (hj : JR0 w A) {x : Int32} (hx : a_in A x = false) (hq : Q (.returned (some (.int 0))) (mw (w.sf 5 1))) : Sp X 74 2 42 C S (0, [(0, .ref 10), (1, .int (x))], []) (mw w) Q := by
  refine Sp.go 3 (g := (3, [(0, .ref 10), (1, .int (x))], [.int (x), .ref 10, .ref 10])) rfl ?_
  refine Sp.vr (some (.int (m_b2 (!a_in A (x))))) (mw (w)) (k' := 71) (F' := 0) (N' := 0) (C' := 0) (S' := 0) (vs := [.int (x)]) (st := [.ref 10]) rfl rfl rfl rfl (Nat.le_of_ble_eq_true rfl) (Nat.le_of_ble_eq_true rfl) (by decide) (by decide) (Nat.zero_le _) (Nat.zero_le _) (fun Q' h => d_noParcel ho hj h) ?_
  refine Sp.ifb rfl (fun u1 => absurd u1 (by rw [hx]; decide)) (fun u1 => ?_)
  refine Sp.go 2 (g := (26, [(0, .ref 10), (1, .int (x))], [.int 1, .ref 10])) rfl ?_
  refine Sp.pf5 rfl ?_
  refine Sp.go 1 (g := (30, [(0, .ref 10), (1, .int (x))], [.ref 10])) rfl ?_
  refine Sp.get (v := .int 1) rfl rfl rfl ?_
  refine Sp.if rfl (fun u2 => absurd u2 (show ¬ (1 : Int32) ≤ 0 by decide)) (fun u2 => ?_)
  refine Sp.go 1 (g := (37, [(0, .ref 10), (1, .int (x))], [.int 0])) rfl ?_
  refine Sp.iret rfl (Or.inl rfl) ?_
  exact hq
theorem d_cancel_b2 {X : mX} {C S : Nat} {Q : Outcome → mM → Prop} {w : mWd} {A : aS} (ho : a_ok A) (hj : JR0 w A) {h : Nat} (hh : h < A.P) (hf : A.fa h ≤ 5) (hl : A.fa h ≠ 0) (hq : Q (.returned (some (.int 0))) (mw (w.sf 5 2))) : Sp X 74 2 42 C S (0, [(0, .ref 10), (1, .int (nI h))], []) (mw w) Q := by
  have h32 := ho.2.2.1
  have hb4 := ho.2.2.2.2 h hh
  have hT := ho.1
  refine Sp.go 3 (g := (3, [(0, .ref 10), (1, .int (nI h))], [.int (nI h), .ref 10, .ref 10])) rfl ?_
  refine Sp.vr (some (.int (m_b2 (!a_in A (nI h))))) (mw (w)) (k' := 71) (F' := 0) (N' := 0) (C' := 0) (S' := 0) (vs := [.int (nI h)]) (st := [.ref 10]) rfl rfl rfl rfl (Nat.le_of_ble_eq_true rfl) (Nat.le_of_ble_eq_true rfl) (by decide) (by decide) (Nat.zero_le _) (Nat.zero_le _) (fun Q' h => d_noParcel ho hj h) ?_
  refine Sp.ifb rfl (fun u1 => ?_) (fun u1 => absurd u1 (by rw [a_in_nI ho hh]; decide))
  refine Sp.go 2 (g := (15, [(0, .ref 10), (1, .int (nI h))], [.int (nI h), .ref 10, .ref 10])) rfl ?_
  refine Sp.vr (some (.int (m_b2 (decide (A.fa h = 0))))) (mw (w)) (k' := 72) (F' := 1) (N' := 21) (C' := 0) (S' := 0) (vs := [.int (nI h)]) (st := [.ref 10]) rfl rfl rfl rfl (Nat.le_of_ble_eq_true rfl) (Nat.le_of_ble_eq_true rfl) (by decide) (by decide) (Nat.zero_le _) (Nat.zero_le _) (fun Q' h => d_isLive ho hj hh hf h) ?_
  refine Sp.ifbn rfl (fun u2 => absurd u2 (by simp [hl])) (fun u2 => ?_)
  refine Sp.go 2 (g := (26, [(0, .ref 10), (1, .int (nI h))], [.int 2, .ref 10])) rfl ?_
  refine Sp.pf5 rfl ?_
  refine Sp.go 1 (g := (30, [(0, .ref 10), (1, .int (nI h))], [.ref 10])) rfl ?_
  refine Sp.get (v := .int 2) rfl rfl rfl ?_
  refine Sp.if rfl (fun u3 => absurd u3 (show ¬ (2 : Int32) ≤ 0 by decide)) (fun u3 => ?_)
  refine Sp.go 1 (g := (37, [(0, .ref 10), (1, .int (nI h))], [.int 0])) rfl ?_
  refine Sp.iret rfl (Or.inl rfl) ?_
  exact hq
theorem d_cancel_ok {X : mX} {C S : Nat} {Q : Outcome → mM → Prop} {w : mWd} {A : aS} (ho : a_ok A) (hj : JR0 w A) {h : Nat} (hh : h < A.P) (hf : A.fa h ≤ 5) (hl : A.fa h = 0) (hq : Q (.returned (some (.int (a_less A h)))) (mw (((w.sf 5 0).sa 18 (upd (w.a 18) h (nI (a_cutla A h)))).sa 16 (upd (w.a 16) h 4)))) : Sp X 74 2 42 C S (0, [(0, .ref 10), (1, .int (nI h))], []) (mw w) Q := by
  have h32 := ho.2.2.1
  have hb4 := ho.2.2.2.2 h hh
  have hT := ho.1
  refine Sp.go 3 (g := (3, [(0, .ref 10), (1, .int (nI h))], [.int (nI h), .ref 10, .ref 10])) rfl ?_
  refine Sp.vr (some (.int (m_b2 (!a_in A (nI h))))) (mw (w)) (k' := 71) (F' := 0) (N' := 0) (C' := 0) (S' := 0) (vs := [.int (nI h)]) (st := [.ref 10]) rfl rfl rfl rfl (Nat.le_of_ble_eq_true rfl) (Nat.le_of_ble_eq_true rfl) (by decide) (by decide) (Nat.zero_le _) (Nat.zero_le _) (fun Q' h => d_noParcel ho hj h) ?_
  refine Sp.ifb rfl (fun u1 => ?_) (fun u1 => absurd u1 (by rw [a_in_nI ho hh]; decide))
  refine Sp.go 2 (g := (15, [(0, .ref 10), (1, .int (nI h))], [.int (nI h), .ref 10, .ref 10])) rfl ?_
  refine Sp.vr (some (.int (m_b2 (decide (A.fa h = 0))))) (mw (w)) (k' := 72) (F' := 1) (N' := 21) (C' := 0) (S' := 0) (vs := [.int (nI h)]) (st := [.ref 10]) rfl rfl rfl rfl (Nat.le_of_ble_eq_true rfl) (Nat.le_of_ble_eq_true rfl) (by decide) (by decide) (Nat.zero_le _) (Nat.zero_le _) (fun Q' h => d_isLive ho hj hh hf h) ?_
  refine Sp.ifbn rfl (fun u2 => ?_) (fun u2 => absurd u2 (by simp [hl]))
  refine Sp.go 1 (g := (26, [(0, .ref 10), (1, .int (nI h))], [.int 0, .ref 10])) rfl ?_
  refine Sp.pf5 rfl ?_
  refine Sp.go 1 (g := (30, [(0, .ref 10), (1, .int (nI h))], [.ref 10])) rfl ?_
  refine Sp.get (v := .int 0) rfl rfl rfl ?_
  refine Sp.if rfl (fun u3 => ?_) (fun u3 => absurd (show (0 : Int32) ≤ 0 by decide) u3)
  refine Sp.go 1 (g := (39, [(0, .ref 10), (1, .int (nI h))], [.ref 10])) rfl ?_
  refine Sp.get (v := .ref 18) rfl rfl rfl ?_
  refine Sp.go 1 (g := (43, [(0, .ref 10), (1, .int (nI h))], [.int (nI h), .ref 18])) rfl ?_
  refine Sp.iald (f := w.a 18) (j := h) rfl rfl (m_ix_of (by simp only [nI, Int32.ofNat_add, Int32.ofNat_mul] <;> rfl) (by omega) (by omega)) ?_
  rw [hj.la hh]
  refine Sp.go 1 (g := (45, [(0, .ref 10), (1, .int (nI h))], [.ref 10, .int (nI (A.la h))])) rfl ?_
  refine Sp.get (v := .ref 17) rfl rfl rfl ?_
  refine Sp.go 1 (g := (49, [(0, .ref 10), (1, .int (nI h))], [.int (nI h), .ref 17, .int (nI (A.la h))])) rfl ?_
  refine Sp.iald (f := w.a 17) (j := h) rfl rfl (m_ix_of (by simp only [nI, Int32.ofNat_add, Int32.ofNat_mul] <;> rfl) (by omega) (by omega)) ?_
  rw [hj.fir hh]
  refine Sp.go 1 (g := (51, [(0, .ref 10), (1, .int (nI h))], [.ref 10, .int (nI (A.at h)), .int (nI (A.la h))])) rfl ?_
  refine Sp.get (v := .int (nI (A.T))) rfl rfl (by rw [← hj.now]; rfl) ?_
  refine Sp.icmp rfl (fun (h4 : (nI (A.at h) : Int32) ≤ (nI (A.T) : Int32)) => ?_) (fun (h4 : ¬ ((nI (A.at h) : Int32) ≤ (nI (A.T) : Int32))) => ?_)
  · skip
    refine Sp.go 1 (g := (67, [(0, .ref 10), (1, .int (nI h))], [.ref 10, .int (nI (A.la h))])) rfl ?_
    refine Sp.get (v := .int (nI (A.T))) rfl rfl (by rw [← hj.now]; rfl) ?_
    refine Sp.go 4 (g := (74, [(2, .int ((nI (A.la h)) - (nI (A.T)))), (0, .ref 10), (1, .int (nI h))], [.int (nI h), .ref 10])) rfl ?_
    refine Sp.vr none (mw (((w).sf 5 (0)).sa 18 (upd (w.a 18) h (nI (a_cutla A h))))) (k' := 73) (F' := 0) (N' := 0) (C' := 0) (S' := 0) (vs := [.int (nI h)]) (st := []) rfl rfl rfl rfl (Nat.le_of_ble_eq_true rfl) (Nat.le_of_ble_eq_true rfl) (by decide) (by decide) (Nat.zero_le _) (Nat.zero_le _) (fun Q' h => d_cutOff ho hj.t hh h) ?_
    refine Sp.go 1 (g := (78, [(2, .int ((nI (A.la h)) - (nI (A.T)))), (0, .ref 10), (1, .int (nI h))], [.ref 10])) rfl ?_
    refine Sp.get (v := .ref 16) rfl rfl rfl ?_
    refine Sp.go 2 (g := (83, [(2, .int ((nI (A.la h)) - (nI (A.T)))), (0, .ref 10), (1, .int (nI h))], [.int 4, .int (nI h), .ref 16])) rfl ?_
    refine Sp.pa16 (j := h) rfl (m_ix_of (by simp only [nI, Int32.ofNat_add, Int32.ofNat_mul] <;> rfl) (by omega) (by omega)) ?_
    refine Sp.wd (w' := (((w).sf 5 (0)).sa 18 (upd (w.a 18) h (nI (a_cutla A h)))).sa 16 (upd (w.a 16) h (4))) rfl ?_
    refine Sp.go 1 (g := (85, [(2, .int ((nI (A.la h)) - (nI (A.T)))), (0, .ref 10), (1, .int (nI h))], [.int ((nI (A.la h)) - (nI (A.T)))])) rfl ?_
    refine Sp.iret rfl (Or.inl rfl) ?_
    rw [show a_less A h = nI (A.la h) - nI A.T by unfold a_less; rw [show max (A.at h) A.T = A.T by rw [nI_le' (by omega) (by omega)] at h4; omega]] at hq; exact hq
  · skip
    refine Sp.go 1 (g := (58, [(0, .ref 10), (1, .int (nI h))], [.ref 10, .int (nI (A.la h))])) rfl ?_
    refine Sp.get (v := .ref 17) rfl rfl rfl ?_
    refine Sp.go 1 (g := (62, [(0, .ref 10), (1, .int (nI h))], [.int (nI h), .ref 17, .int (nI (A.la h))])) rfl ?_
    refine Sp.iald (f := w.a 17) (j := h) rfl rfl (m_ix_of (by simp only [nI, Int32.ofNat_add, Int32.ofNat_mul] <;> rfl) (by omega) (by omega)) ?_
    rw [hj.fir hh]
    refine Sp.go 5 (g := (74, [(2, .int ((nI (A.la h)) - (nI (A.at h)))), (0, .ref 10), (1, .int (nI h))], [.int (nI h), .ref 10])) rfl ?_
    refine Sp.vr none (mw (((w).sf 5 (0)).sa 18 (upd (w.a 18) h (nI (a_cutla A h))))) (k' := 73) (F' := 0) (N' := 0) (C' := 0) (S' := 0) (vs := [.int (nI h)]) (st := []) rfl rfl rfl rfl (Nat.le_of_ble_eq_true rfl) (Nat.le_of_ble_eq_true rfl) (by decide) (by decide) (Nat.zero_le _) (Nat.zero_le _) (fun Q' h => d_cutOff ho hj.t hh h) ?_
    refine Sp.go 1 (g := (78, [(2, .int ((nI (A.la h)) - (nI (A.at h)))), (0, .ref 10), (1, .int (nI h))], [.ref 10])) rfl ?_
    refine Sp.get (v := .ref 16) rfl rfl rfl ?_
    refine Sp.go 2 (g := (83, [(2, .int ((nI (A.la h)) - (nI (A.at h)))), (0, .ref 10), (1, .int (nI h))], [.int 4, .int (nI h), .ref 16])) rfl ?_
    refine Sp.pa16 (j := h) rfl (m_ix_of (by simp only [nI, Int32.ofNat_add, Int32.ofNat_mul] <;> rfl) (by omega) (by omega)) ?_
    refine Sp.wd (w' := (((w).sf 5 (0)).sa 18 (upd (w.a 18) h (nI (a_cutla A h)))).sa 16 (upd (w.a 16) h (4))) rfl ?_
    refine Sp.go 1 (g := (85, [(2, .int ((nI (A.la h)) - (nI (A.at h)))), (0, .ref 10), (1, .int (nI h))], [.int ((nI (A.la h)) - (nI (A.at h)))])) rfl ?_
    refine Sp.iret rfl (Or.inl rfl) ?_
    rw [show a_less A h = nI (A.la h) - nI (A.at h) by unfold a_less; rw [show max (A.at h) A.T = A.at h by rw [nI_le' (by omega) (by omega)] at h4; omega]] at hq; exact hq
theorem JR.end {w : mWd} {A : aS} (hj : JR w A) {h l f : Nat} : JR ((w.sa 18 (upd (w.a 18) h (nI l))).sa 16 (upd (w.a 16) h (nI f))) (A.end h l f) := by
  obtain ⟨⟨h1, h2, h3, h4, h5, h6, _⟩, h7⟩ := hj
  refine ⟨⟨h1, h2, h3, h4, h5, fun j hj => ?_, trivial⟩, h7⟩
  obtain ⟨k1, k2, k3, k4, k5, k6, k7⟩ := h6 j hj
  refine ⟨k1, k2, k3, ?_, k5, ?_, k7⟩
  · show upd (w.a 16) h (nI f) j = nI (if j = h then f else A.fa j)
    unfold upd; split
    · rfl
    · exact k4
  · show upd (w.a 18) h (nI l) j = nI (if j = h then l else A.la j)
    unfold upd; split
    · rfl
    · exact k6
theorem d_tick_loop {X : mX} {C S : Nat} {Q : Outcome → mM → Prop} {P t : Nat} {fa la : Nat → Nat} (hP : P ≤ 32) (ht : t ≤ 64) (hb : ∀ j, j < P → fa j ≤ 5 ∧ la j ≤ 64) : ∀ (d h c : Nat) (w : mWd), h + d = P → c = g_cnt (fun h => decide (fa h = 0 ∧ la h = t)) h → w.f 6 = nI t → w.f 8 = nI P → (∀ j, j < P → w.a 18 j = nI (la j)) → (∀ j, j < P → w.a 16 j = nI (if j < h ∧ fa j = 0 ∧ la j = t then 3 else fa j)) → (∀ R, (∀ j, j < P → R j = nI (if fa j = 0 ∧ la j = t then 3 else fa j)) → Q (.returned (some (.int (nI (g_cnt (fun h => decide (fa h = 0 ∧ la h = t)) P))))) (mw (w.sa 16 R))) → Sp X 76 0 0 C S (41, [(2, .int (nI h)), (1, .int (nI c)), (0, .ref 10)], []) (mw w) Q := by
  intro d
  induction d with
  | zero =>
    intro h c w hd hc hf6 hf8 h18 h16 kk
    refine Sp.go 2 (g := (43, [(2, .int (nI h)), (1, .int (nI c)), (0, .ref 10)], [.ref 10, .int (nI h)])) rfl ?_
    refine Sp.get (v := .int (nI P)) rfl rfl (by rw [← hf8]; rfl) ?_
    refine Sp.icmp rfl (fun u1 => ?_) (fun u1 => absurd ((nI_le' (by omega) (by omega)).mpr (by omega)) u1)
    refine Sp.go 1 (g := (88, [(2, .int (nI h)), (1, .int (nI c)), (0, .ref 10)], [.int (nI c)])) rfl ?_
    refine Sp.iret rfl (Or.inl rfl) ?_
    have e : h = P := by omega
    subst e
    have k2 := kk (w.a 16) (fun j hj => by rw [h16 j hj]; congr 1; simp only [hj, true_and])
    rw [mWd.sa_self, ← hc] at k2
    exact k2
  | succ d ih =>
    intro h c w hd hc hf6 hf8 h18 h16 kk
    have hhP : h < P := by omega
    have hbh := hb h hhP
    have e16 : w.a 16 h = nI (fa h) := by rw [h16 h hhP, if_neg (by omega)]
    have hcl : c ≤ h := by rw [hc]; exact g_cnt_le _ _
    refine Sp.go 2 (g := (43, [(2, .int (nI h)), (1, .int (nI c)), (0, .ref 10)], [.ref 10, .int (nI h)])) rfl ?_
    refine Sp.get (v := .int (nI P)) rfl rfl (by rw [← hf8]; rfl) ?_
    refine Sp.icmp rfl (fun u1 => absurd u1 (fun z => absurd ((nI_le' (by omega) (by omega)).mp z) (by omega))) (fun u1 => ?_)
    refine Sp.go 1 (g := (50, [(2, .int (nI h)), (1, .int (nI c)), (0, .ref 10)], [.ref 10])) rfl ?_
    refine Sp.get (v := .ref 16) rfl rfl rfl ?_
    refine Sp.go 1 (g := (54, [(2, .int (nI h)), (1, .int (nI c)), (0, .ref 10)], [.int (nI h), .ref 16])) rfl ?_
    refine Sp.iald (f := w.a 16) (j := h) rfl rfl (m_ix_of (by simp only [nI, Int32.ofNat_add, Int32.ofNat_mul] <;> rfl) (by omega) (by omega)) ?_
    rw [e16]
    refine Sp.if rfl (fun (h2 : ¬ (nI (fa h) : Int32) = (0 : Int32)) => ?_) (fun (h2 : ¬ (¬ (nI (fa h) : Int32) = (0 : Int32))) => ?_)
    · skip
      refine Sp.go 2 (g := (41, [(2, .int (nI h + 1)), (1, .int (nI c)), (0, .ref 10)], [])) rfl ?_
      have hp : ¬ (fa h = 0 ∧ la h = t) := by
        first | exact fun z => h2 (by rw [z.1]; rfl) | exact fun z => h3 (by rw [z.2])
      rw [show nI h + 1 = nI (h + 1) from (nI_succ h).symm]
      refine ih (h + 1) _ _ (by omega) (by simp only [g_cnt, ← hc, decide_eq_false hp]; rfl) hf6 hf8 h18 (fun j hj => ?_) kk
      rw [h16 j hj]
      congr 1
      by_cases e : j = h
      · subst e; rw [if_neg (fun z => hp z.2), if_neg (fun z => hp z.2)]
      · simp only [show j < h + 1 ↔ j < h by omega]
    · skip
      refine Sp.go 1 (g := (59, [(2, .int (nI h)), (1, .int (nI c)), (0, .ref 10)], [.ref 10])) rfl ?_
      refine Sp.get (v := .ref 18) rfl rfl rfl ?_
      refine Sp.go 1 (g := (63, [(2, .int (nI h)), (1, .int (nI c)), (0, .ref 10)], [.int (nI h), .ref 18])) rfl ?_
      refine Sp.iald (f := w.a 18) (j := h) rfl rfl (m_ix_of (by simp only [nI, Int32.ofNat_add, Int32.ofNat_mul] <;> rfl) (by omega) (by omega)) ?_
      rw [h18 h hhP]
      refine Sp.go 1 (g := (65, [(2, .int (nI h)), (1, .int (nI c)), (0, .ref 10)], [.ref 10, .int (nI (la h))])) rfl ?_
      refine Sp.get (v := .int (nI t)) rfl rfl (by rw [← hf6]; rfl) ?_
      refine Sp.icmp rfl (fun (h3 : ¬ (nI (la h) : Int32) = (nI t : Int32)) => ?_) (fun (h3 : ¬ (¬ (nI (la h) : Int32) = (nI t : Int32))) => ?_)
      · skip
        refine Sp.go 2 (g := (41, [(2, .int (nI h + 1)), (1, .int (nI c)), (0, .ref 10)], [])) rfl ?_
        have hp : ¬ (fa h = 0 ∧ la h = t) := by
          first | exact fun z => h2 (by rw [z.1]; rfl) | exact fun z => h3 (by rw [z.2])
        rw [show nI h + 1 = nI (h + 1) from (nI_succ h).symm]
        refine ih (h + 1) _ _ (by omega) (by simp only [g_cnt, ← hc, decide_eq_false hp]; rfl) hf6 hf8 h18 (fun j hj => ?_) kk
        rw [h16 j hj]
        congr 1
        by_cases e : j = h
        · subst e; rw [if_neg (fun z => hp z.2), if_neg (fun z => hp z.2)]
        · simp only [show j < h + 1 ↔ j < h by omega]
      · skip
        refine Sp.go 1 (g := (72, [(2, .int (nI h)), (1, .int (nI c)), (0, .ref 10)], [.ref 10])) rfl ?_
        refine Sp.get (v := .ref 16) rfl rfl rfl ?_
        refine Sp.go 2 (g := (77, [(2, .int (nI h)), (1, .int (nI c)), (0, .ref 10)], [.int 3, .int (nI h), .ref 16])) rfl ?_
        refine Sp.pa16 (j := h) rfl (m_ix_of (by simp only [nI, Int32.ofNat_add, Int32.ofNat_mul] <;> rfl) (by omega) (by omega)) ?_
        refine Sp.go 3 (g := (41, [(2, .int (nI h + 1)), (1, .int (nI c + 1)), (0, .ref 10)], [])) rfl ?_
        have hp : fa h = 0 ∧ la h = t := ⟨(nI_eq0 (by omega)).mp (Classical.not_not.mp h2), (nI_inj (by omega) (by omega)).mp (Classical.not_not.mp h3)⟩
        rw [show nI c + 1 = nI (c + 1) from (nI_succ c).symm]
        rw [show nI h + 1 = nI (h + 1) from (nI_succ h).symm]
        refine ih (h + 1) _ _ (by omega) (by simp only [g_cnt, ← hc, decide_eq_true hp]; rfl) hf6 hf8 h18 (fun j hj => ?_) (fun R hR => by rw [mWd.sa_sa]; exact kk R hR)
        show upd (w.a 16) h 3 j = _
        unfold upd
        split
        · rename_i e; subst e; rw [if_pos ⟨by omega, hp⟩]; rfl
        · rename_i e; rw [h16 j hj]; congr 1; simp only [show j < h + 1 ↔ j < h by omega]
theorem d_tick_b1 {X : mX} {C S : Nat} {Q : Outcome → mM → Prop} {w : mWd} {A : aS} (ho : a_ok A) (hj : JR0 w A) (h64 : A.T = 64) (hq : Q (.returned (some (.int 0))) (mw (w.sf 5 1))) : Sp X 76 0 0 C S (0, [(0, .ref 10)], []) (mw w) Q := by
  refine Sp.go 2 (g := (2, [(0, .ref 10)], [.ref 10, .ref 10])) rfl ?_
  refine Sp.get (v := .int (nI (A.T))) rfl rfl (by rw [← hj.now]; rfl) ?_
  refine Sp.go 1 (g := (7, [(0, .ref 10)], [.int 64, .int (nI (A.T)), .ref 10])) rfl ?_
  refine Sp.icmp rfl (fun u1 => absurd u1 (fun z => z (by rw [h64]; rfl))) (fun u1 => ?_)
  refine Sp.go 2 (g := (15, [(0, .ref 10)], [.int 1, .ref 10])) rfl ?_
  refine Sp.pf5 rfl ?_
  refine Sp.go 1 (g := (19, [(0, .ref 10)], [.ref 10])) rfl ?_
  refine Sp.get (v := .int 1) rfl rfl rfl ?_
  refine Sp.if rfl (fun u2 => absurd u2 (show ¬ (1 : Int32) ≤ 0 by decide)) (fun u2 => ?_)
  refine Sp.go 1 (g := (26, [(0, .ref 10)], [.int 0])) rfl ?_
  refine Sp.iret rfl (Or.inl rfl) ?_
  exact hq
theorem d_tick_ok {X : mX} {C S : Nat} {Q : Outcome → mM → Prop} {w : mWd} {A : aS} (ho : a_ok A) (hj : JR0 w A) (h64 : A.T < 64) (hf : ∀ j, j < A.P → A.fa j ≤ 5) (hq : ∀ R, (∀ j, j < A.P → R j = nI (A.tick.fa j)) → Q (.returned (some (.int (nI (g_cnt (fun h => decide (A.fa h = 0 ∧ A.la h = A.T + 1)) A.P))))) (mw (((w.sf 5 0).sf 6 (nI (A.T + 1))).sa 16 R))) : Sp X 76 0 0 C S (0, [(0, .ref 10)], []) (mw w) Q := by
  refine Sp.go 2 (g := (2, [(0, .ref 10)], [.ref 10, .ref 10])) rfl ?_
  refine Sp.get (v := .int (nI (A.T))) rfl rfl (by rw [← hj.now]; rfl) ?_
  refine Sp.go 1 (g := (7, [(0, .ref 10)], [.int 64, .int (nI (A.T)), .ref 10])) rfl ?_
  refine Sp.icmp rfl (fun u1 => ?_) (fun u1 => absurd (fun z => absurd ((nI_inj (b := 64) (by omega) (by omega)).mp z) (by omega)) u1)
  refine Sp.go 1 (g := (15, [(0, .ref 10)], [.int 0, .ref 10])) rfl ?_
  refine Sp.pf5 rfl ?_
  refine Sp.go 1 (g := (19, [(0, .ref 10)], [.ref 10])) rfl ?_
  refine Sp.get (v := .int 0) rfl rfl rfl ?_
  refine Sp.if rfl (fun u2 => ?_) (fun u2 => absurd (show (0 : Int32) ≤ 0 by decide) u2)
  refine Sp.go 2 (g := (29, [(0, .ref 10)], [.ref 10, .ref 10])) rfl ?_
  refine Sp.get (v := .int (nI (A.T))) rfl rfl (by rw [← hj.now]; rfl) ?_
  refine Sp.go 2 (g := (34, [(0, .ref 10)], [.int ((nI (A.T)) + 1), .ref 10])) rfl ?_
  refine Sp.pf6 rfl ?_
  refine Sp.go 4 (g := (41, [(2, .int 0), (1, .int 0), (0, .ref 10)], [])) rfl ?_
  rw [show nI A.T + 1 = nI (A.T + 1) from (nI_succ _).symm]
  exact d_tick_loop (fa := A.fa) (la := A.la) (t := A.T + 1) ho.2.2.1 (by omega) (fun j hj9 => ⟨hf j hj9, (ho.2.2.2.2 j hj9).2.2.1⟩) A.P 0 0 _ (by omega) rfl rfl hj.ps (fun j hj9 => hj.la hj9) (fun j hj9 => by rw [if_neg (by omega)]; exact hj.fa hj9) hq
theorem JR.tick {w : mWd} {A : aS} (hj : JR w A) {R : Nat → Int32} (hR : ∀ j, j < A.P → R j = nI (A.tick.fa j)) : JR ((w.sf 6 (nI (A.T + 1))).sa 16 R) A.tick := by
  obtain ⟨⟨h1, h2, h3, h4, h5, h6, _⟩, h7⟩ := hj
  refine ⟨⟨rfl, h2, h3, h4, h5, fun j hj => ?_, trivial⟩, h7⟩
  obtain ⟨k1, k2, k3, k4, k5, k6, k7⟩ := h6 j hj
  exact ⟨k1, k2, k3, hR j hj, k5, k6, k7⟩
def a_lacks (A : aS) (x y z : Int32) : Int32 := if a_pair A x y = false ∨ z < nI A.T ∨ ¬ z < 64 then 1 else if A.P = 32 then 2 else 0
theorem d_lacks {X : mX} {C S : Nat} {Q : Outcome → mM → Prop} {w : mWd} {A : aS} (ho : a_ok A) (hj : JR0 w A) {x y z : Int32} (hq : Q (.returned (some (.int (a_lacks A x y z)))) (mw w)) : Sp X 68 2 43 C S (0, [(0, .ref 10), (1, .int (x)), (2, .int (y)), (3, .int (z))], []) (mw w) Q := by
  have h32 := ho.2.2.1
  refine Sp.go 3 (g := (3, [(0, .ref 10), (1, .int (x)), (2, .int (y)), (3, .int (z))], [.int (y), .int (x), .ref 10])) rfl ?_
  refine Sp.vr (some (.int (m_b2 (!a_pair A (x) (y))))) (mw (w)) (k' := 55) (F' := 1) (N' := 21) (C' := 0) (S' := 0) (vs := [.int (x), .int (y)]) (st := []) rfl rfl rfl rfl (Nat.le_of_ble_eq_true rfl) (Nat.le_of_ble_eq_true rfl) (by decide) (by decide) (Nat.zero_le _) (Nat.zero_le _) (fun Q' h => d_noPair ho hj h) ?_
  refine Sp.ifbn rfl (fun h1 => ?_) (fun h1 => ?_)
  · skip
    refine Sp.go 2 (g := (41, [(0, .ref 10), (1, .int (x)), (2, .int (y)), (3, .int (z))], [.int 1])) rfl ?_
    refine Sp.iret rfl (Or.inl rfl) ?_
    rw [show a_lacks A x y z = 1 from if_pos (Or.inl (by simpa using h1))] at hq; exact hq
  · skip
    refine Sp.go 2 (g := (11, [(0, .ref 10), (1, .int (x)), (2, .int (y)), (3, .int (z))], [.ref 10, .int (z)])) rfl ?_
    refine Sp.get (v := .int (nI (A.T))) rfl rfl (by rw [← hj.now]; rfl) ?_
    refine Sp.icmp rfl (fun (h2 : (z : Int32) < (nI (A.T) : Int32)) => ?_) (fun (h2 : ¬ ((z : Int32) < (nI (A.T) : Int32))) => ?_)
    · skip
      refine Sp.go 2 (g := (41, [(0, .ref 10), (1, .int (x)), (2, .int (y)), (3, .int (z))], [.int 1])) rfl ?_
      refine Sp.iret rfl (Or.inl rfl) ?_
      rw [show a_lacks A x y z = 1 from if_pos (Or.inr (Or.inl h2))] at hq; exact hq
    · skip
      refine Sp.go 2 (g := (20, [(0, .ref 10), (1, .int (x)), (2, .int (y)), (3, .int (z))], [.int 64, .int (z)])) rfl ?_
      refine Sp.icmp rfl (fun (h3 : (z : Int32) < (64 : Int32)) => ?_) (fun (h3 : ¬ ((z : Int32) < (64 : Int32))) => ?_)
      · skip
        refine Sp.go 1 (g := (28, [(0, .ref 10), (1, .int (x)), (2, .int (y)), (3, .int (z))], [.ref 10])) rfl ?_
        refine Sp.get (v := .int (nI (A.P))) rfl rfl (by rw [← hj.ps]; rfl) ?_
        refine Sp.go 1 (g := (33, [(0, .ref 10), (1, .int (x)), (2, .int (y)), (3, .int (z))], [.int 32, .int (nI (A.P))])) rfl ?_
        refine Sp.icmp rfl (fun (h4 : ¬ (nI (A.P) : Int32) = (32 : Int32)) => ?_) (fun (h4 : ¬ (¬ (nI (A.P) : Int32) = (32 : Int32))) => ?_)
        · skip
          refine Sp.go 1 (g := (41, [(0, .ref 10), (1, .int (x)), (2, .int (y)), (3, .int (z))], [.int 0])) rfl ?_
          refine Sp.iret rfl (Or.inl rfl) ?_
          have e1 : ¬ (a_pair A x y = false ∨ z < nI A.T ∨ ¬ z < 64) := fun q => q.elim (fun q => by rw [q] at h1; exact absurd h1 (by decide)) (fun q => q.elim h2 (fun q => q h3))
          rw [show a_lacks A x y z = 0 by unfold a_lacks; rw [if_neg e1, if_neg (fun q => h4 (by rw [q]; rfl))]] at hq; exact hq
        · skip
          refine Sp.go 2 (g := (41, [(0, .ref 10), (1, .int (x)), (2, .int (y)), (3, .int (z))], [.int 2])) rfl ?_
          refine Sp.iret rfl (Or.inl rfl) ?_
          have e1 : ¬ (a_pair A x y = false ∨ z < nI A.T ∨ ¬ z < 64) := fun q => q.elim (fun q => by rw [q] at h1; exact absurd h1 (by decide)) (fun q => q.elim h2 (fun q => q h3))
          rw [show a_lacks A x y z = 2 by unfold a_lacks; rw [if_neg e1, if_pos ((nI_inj (b := 32) (by omega) (by omega)).mp (Classical.not_not.mp h4))]] at hq; exact hq
      · skip
        refine Sp.go 2 (g := (41, [(0, .ref 10), (1, .int (x)), (2, .int (y)), (3, .int (z))], [.int 1])) rfl ?_
        refine Sp.iret rfl (Or.inl rfl) ?_
        rw [show a_lacks A x y z = 1 from if_pos (Or.inr (Or.inr h3))] at hq; exact hq
theorem d_whatIf_b {X : mX} {C S : Nat} {Q : Outcome → mM → Prop} {w : mWd} {A : aS} (ho : a_ok A) (hj : JR0 w A) {x y z : Int32} (hl : ¬ a_lacks A x y z ≤ 0) (hq : Q (.returned (some (.int 0))) (mw (w.sf 5 (a_lacks A x y z)))) : Sp X 70 5 123 C S (0, [(0, .ref 10), (1, .int (x)), (2, .int (y)), (3, .int (z))], []) (mw w) Q := by
  refine Sp.go 5 (g := (5, [(0, .ref 10), (1, .int (x)), (2, .int (y)), (3, .int (z))], [.int (z), .int (y), .int (x), .ref 10, .ref 10])) rfl ?_
  refine Sp.vr (some (.int (a_lacks A (x) (y) (z)))) (mw (w)) (k' := 68) (F' := 2) (N' := 43) (C' := 0) (S' := 0) (vs := [.int (x), .int (y), .int (z)]) (st := [.ref 10]) rfl rfl rfl rfl (Nat.le_of_ble_eq_true rfl) (Nat.le_of_ble_eq_true rfl) (by decide) (by decide) (Nat.zero_le _) (Nat.zero_le _) (fun Q' h => d_lacks ho hj h) ?_
  refine Sp.pf5 rfl ?_
  refine Sp.go 1 (g := (12, [(0, .ref 10), (1, .int (x)), (2, .int (y)), (3, .int (z))], [.ref 10])) rfl ?_
  refine Sp.get (v := .int (a_lacks A (x) (y) (z))) rfl rfl rfl ?_
  refine Sp.if rfl (fun u1 => absurd u1 hl) (fun u1 => ?_)
  refine Sp.go 2 (g := (29, [(0, .ref 10), (1, .int (x)), (2, .int (y)), (3, .int (z))], [.int 0])) rfl ?_
  refine Sp.iret rfl (Or.inl rfl) ?_
  exact hq
theorem d_whatIf_ok {X : mX} {C S : Nat} {Q : Outcome → mM → Prop} {w : mWd} {A : aS} (ho : a_ok A) (hj : JR0 w A) {a g s : Nat} (ha : a < 8) (hg : g < 8) (hs : s < 64) (hl : a_lacks A (nI a) (nI g) (nI s) = 0) (hq : ∀ E, (∀ t, s ≤ t → t ≤ 64 → d_Et (a_fr A) g t E) → Q (.returned (some (.int (g_ans (g_E (a_fr A) g (64 - s) a))))) (mw ((w.sf 5 0).sa 21 E))) : Sp X 70 5 123 C S (0, [(0, .ref 10), (1, .int (nI a)), (2, .int (nI g)), (3, .int (nI s))], []) (mw w) Q := by
  refine Sp.go 5 (g := (5, [(0, .ref 10), (1, .int (nI a)), (2, .int (nI g)), (3, .int (nI s))], [.int (nI s), .int (nI g), .int (nI a), .ref 10, .ref 10])) rfl ?_
  refine Sp.vr (some (.int 0)) (mw (w)) (k' := 68) (F' := 2) (N' := 43) (C' := 0) (S' := 0) (vs := [.int (nI a), .int (nI g), .int (nI s)]) (st := [.ref 10]) rfl rfl rfl rfl (Nat.le_of_ble_eq_true rfl) (Nat.le_of_ble_eq_true rfl) (by decide) (by decide) (Nat.zero_le _) (Nat.zero_le _) (fun Q' h => d_lacks ho hj (by rw [hl]; exact h)) ?_
  refine Sp.pf5 rfl ?_
  refine Sp.go 1 (g := (12, [(0, .ref 10), (1, .int (nI a)), (2, .int (nI g)), (3, .int (nI s))], [.ref 10])) rfl ?_
  refine Sp.get (v := .int 0) rfl rfl rfl ?_
  refine Sp.if rfl (fun u1 => ?_) (fun u1 => absurd (show (0 : Int32) ≤ 0 by decide) u1)
  refine Sp.go 4 (g := (26, [(0, .ref 10), (1, .int (nI a)), (2, .int (nI g)), (3, .int (nI s))], [.int (nI s), .int (nI g), .int (nI a), .ref 10])) rfl ?_
  refine Sp.callV (Qc := fun o M' => ∃ (E : Nat → Int32), (∀ t, s ≤ t → t ≤ 64 → d_Et (a_fr A) g t E) ∧ o = .returned (some (.int (g_ans (g_E (a_fr A) g (64 - s) a)))) ∧ M' = mw (((w).sf 5 (0)).sa 21 (E))) (k' := 63) (F' := 4) (N' := 99) (C' := 0) (S' := 0) (vs := [.int (nI a), .int (nI g), .int (nI s)]) (st := []) rfl rfl rfl rfl (Nat.le_of_ble_eq_true rfl) (Nat.le_of_ble_eq_true rfl) (by decide) (by decide) (Nat.zero_le _) (Nat.zero_le _) (d_best ho hj.t (by omega) (by omega) (by omega) (fun E hE => ⟨E, hE, rfl, rfl⟩)) (fun v M' h => ?_) (fun q M' h => by obtain ⟨_, _, h, _⟩ := h; cases h)
  obtain ⟨E, hE, h, rfl⟩ := h
  cases h
  refine Sp.iret rfl (Or.inl rfl) ?_
  exact hq E hE
theorem d_book_b {X : mX} {C S : Nat} {Q : Outcome → mM → Prop} {w : mWd} {A : aS} (ho : a_ok A) (hj : JR0 w A) {x y z : Int32} (hl : ¬ a_lacks A x y z ≤ 0) (hq : Q (.returned (some (.int 0))) (mw (w.sf 5 (a_lacks A x y z)))) : Sp X 69 5 123 C S (0, [(0, .ref 10), (1, .int (x)), (2, .int (y)), (3, .int (z))], []) (mw w) Q := by
  refine Sp.go 5 (g := (5, [(0, .ref 10), (1, .int (x)), (2, .int (y)), (3, .int (z))], [.int (z), .int (y), .int (x), .ref 10, .ref 10])) rfl ?_
  refine Sp.vr (some (.int (a_lacks A (x) (y) (z)))) (mw (w)) (k' := 68) (F' := 2) (N' := 43) (C' := 0) (S' := 0) (vs := [.int (x), .int (y), .int (z)]) (st := [.ref 10]) rfl rfl rfl rfl (Nat.le_of_ble_eq_true rfl) (Nat.le_of_ble_eq_true rfl) (by decide) (by decide) (Nat.zero_le _) (Nat.zero_le _) (fun Q' h => d_lacks ho hj h) ?_
  refine Sp.pf5 rfl ?_
  refine Sp.go 1 (g := (12, [(0, .ref 10), (1, .int (x)), (2, .int (y)), (3, .int (z))], [.ref 10])) rfl ?_
  refine Sp.get (v := .int (a_lacks A (x) (y) (z))) rfl rfl rfl ?_
  refine Sp.if rfl (fun u1 => absurd u1 hl) (fun u1 => ?_)
  refine Sp.go 1 (g := (19, [(0, .ref 10), (1, .int (x)), (2, .int (y)), (3, .int (z))], [.int 0])) rfl ?_
  refine Sp.iret rfl (Or.inl rfl) ?_
  exact hq
theorem d_book_none {X : mX} {C S : Nat} {Q : Outcome → mM → Prop} {w : mWd} {A : aS} (ho : a_ok A) (hj : JR0 w A) {a g s : Nat} (ha : a < 8) (hg : g < 8) (hs : s < 64) (hl : a_lacks A (nI a) (nI g) (nI s) = 0) (hn : g_E (a_fr A) g (64 - s) a = 99) (hq : ∀ E, Q (.returned (some (.int (-1)))) (mw ((w.sf 5 0).sa 21 E))) : Sp X 69 5 123 C S (0, [(0, .ref 10), (1, .int (nI a)), (2, .int (nI g)), (3, .int (nI s))], []) (mw w) Q := by
  refine Sp.go 5 (g := (5, [(0, .ref 10), (1, .int (nI a)), (2, .int (nI g)), (3, .int (nI s))], [.int (nI s), .int (nI g), .int (nI a), .ref 10, .ref 10])) rfl ?_
  refine Sp.vr (some (.int 0)) (mw (w)) (k' := 68) (F' := 2) (N' := 43) (C' := 0) (S' := 0) (vs := [.int (nI a), .int (nI g), .int (nI s)]) (st := [.ref 10]) rfl rfl rfl rfl (Nat.le_of_ble_eq_true rfl) (Nat.le_of_ble_eq_true rfl) (by decide) (by decide) (Nat.zero_le _) (Nat.zero_le _) (fun Q' h => d_lacks ho hj (by rw [hl]; exact h)) ?_
  refine Sp.pf5 rfl ?_
  refine Sp.go 1 (g := (12, [(0, .ref 10), (1, .int (nI a)), (2, .int (nI g)), (3, .int (nI s))], [.ref 10])) rfl ?_
  refine Sp.get (v := .int 0) rfl rfl rfl ?_
  refine Sp.if rfl (fun u1 => ?_) (fun u1 => absurd (show (0 : Int32) ≤ 0 by decide) u1)
  refine Sp.go 4 (g := (24, [(0, .ref 10), (1, .int (nI a)), (2, .int (nI g)), (3, .int (nI s))], [.int (nI s), .int (nI g), .int (nI a), .ref 10])) rfl ?_
  refine Sp.callV (Qc := fun o M' => ∃ (E : Nat → Int32), (∀ t, s ≤ t → t ≤ 64 → d_Et (a_fr A) g t E) ∧ o = .returned (some (.int (g_ans (g_E (a_fr A) g (64 - s) a)))) ∧ M' = mw (((w).sf 5 (0)).sa 21 (E))) (k' := 63) (F' := 4) (N' := 99) (C' := 0) (S' := 0) (vs := [.int (nI a), .int (nI g), .int (nI s)]) (st := []) rfl rfl rfl rfl (Nat.le_of_ble_eq_true rfl) (Nat.le_of_ble_eq_true rfl) (by decide) (by decide) (Nat.zero_le _) (Nat.zero_le _) (d_best ho hj.t (by omega) (by omega) (by omega) (fun E hE => ⟨E, hE, rfl, rfl⟩)) (fun v M' h => ?_) (fun q M' h => by obtain ⟨_, _, h, _⟩ := h; cases h)
  obtain ⟨E, hE, h, rfl⟩ := h
  cases h
  refine Sp.go 1 (g := (28, [(0, .ref 10), (1, .int (nI a)), (2, .int (nI g)), (3, .int (nI s))], [.int (-1), .int (g_ans (g_E (a_fr A) g (64 - s) a))])) rfl ?_
  refine Sp.icmp rfl (fun u2 => absurd u2 (fun z => z (by rw [hn]; rfl))) (fun u2 => ?_)
  refine Sp.go 1 (g := (32, [(0, .ref 10), (1, .int (nI a)), (2, .int (nI g)), (3, .int (nI s))], [.int (-1)])) rfl ?_
  refine Sp.iret rfl (Or.inl rfl) ?_
  exact hq E
theorem g_ans_ne {e : Nat} (h : e ≤ 64) : ¬ g_ans e = -1 := by
  unfold g_ans
  rw [if_neg (by omega)]
  intro z
  have h1 := nI_pos (n := e) (by omega)
  rw [z] at h1
  exact h1 (by decide)
theorem d_book_ok {X : mX} {C S : Nat} {Q : Outcome → mM → Prop} {w : mWd} {A : aS} (ho : a_ok A) (hjr : JR w A) {a g s : Nat} (ha : a < 8) (hg : g < 8) (hs : s < 64) (hl : a_lacks A (nI a) (nI g) (nI s) = 0) (h32 : A.P < 32) (hn8 : ∀ i, i < 65 → A.nd A.P i < 8) {e : Nat} (he1 : g_E (a_fr A) g (64 - s) a = e) (he2 : e ≤ 64) (hse : s ≤ e) (hq : ∀ E r, (∀ i, i < 65 → r i < 8) → (∀ i, i < s ∨ e < i → r i = A.nd A.P i) → g_W (a_fr A) g a s e r → Q (.returned (some (.int (nI A.P)))) (mw ((((((((((w.sf 5 0).sa 21 E).sa 19 (d_row (w.a 19) A.P r)).sa 18 (upd (w.a 18) A.P (nI e))).sa 14 (upd (w.a 14) A.P (nI a))).sa 13 (upd (w.a 13) A.P (nI g))).sa 15 (upd (w.a 15) A.P (nI s))).sa 17 (upd (w.a 17) A.P (nI s))).sa 16 (upd (w.a 16) A.P 0)).sf 8 (nI A.P + 1)))) : Sp X 69 5 123 C S (0, [(0, .ref 10), (1, .int (nI a)), (2, .int (nI g)), (3, .int (nI s))], []) (mw w) Q := by
  have hj : JR0 w A := hjr.1
  refine Sp.go 5 (g := (5, [(0, .ref 10), (1, .int (nI a)), (2, .int (nI g)), (3, .int (nI s))], [.int (nI s), .int (nI g), .int (nI a), .ref 10, .ref 10])) rfl ?_
  refine Sp.vr (some (.int 0)) (mw (w)) (k' := 68) (F' := 2) (N' := 43) (C' := 0) (S' := 0) (vs := [.int (nI a), .int (nI g), .int (nI s)]) (st := [.ref 10]) rfl rfl rfl rfl (Nat.le_of_ble_eq_true rfl) (Nat.le_of_ble_eq_true rfl) (by decide) (by decide) (Nat.zero_le _) (Nat.zero_le _) (fun Q' h => d_lacks ho hj (by rw [hl]; exact h)) ?_
  refine Sp.pf5 rfl ?_
  refine Sp.go 1 (g := (12, [(0, .ref 10), (1, .int (nI a)), (2, .int (nI g)), (3, .int (nI s))], [.ref 10])) rfl ?_
  refine Sp.get (v := .int 0) rfl rfl rfl ?_
  refine Sp.if rfl (fun u1 => ?_) (fun u1 => absurd (show (0 : Int32) ≤ 0 by decide) u1)
  refine Sp.go 4 (g := (24, [(0, .ref 10), (1, .int (nI a)), (2, .int (nI g)), (3, .int (nI s))], [.int (nI s), .int (nI g), .int (nI a), .ref 10])) rfl ?_
  refine Sp.callV (Qc := fun o M' => ∃ (E : Nat → Int32), (∀ t, s ≤ t → t ≤ 64 → d_Et (a_fr A) g t E) ∧ o = .returned (some (.int (g_ans (g_E (a_fr A) g (64 - s) a)))) ∧ M' = mw (((w).sf 5 (0)).sa 21 (E))) (k' := 63) (F' := 4) (N' := 99) (C' := 0) (S' := 0) (vs := [.int (nI a), .int (nI g), .int (nI s)]) (st := []) rfl rfl rfl rfl (Nat.le_of_ble_eq_true rfl) (Nat.le_of_ble_eq_true rfl) (by decide) (by decide) (Nat.zero_le _) (Nat.zero_le _) (d_best ho hj.t (by omega) (by omega) (by omega) (fun E hE => ⟨E, hE, rfl, rfl⟩)) (fun v M' h => ?_) (fun q M' h => by obtain ⟨_, _, h, _⟩ := h; cases h)
  obtain ⟨E, hE, h, rfl⟩ := h
  cases h
  refine Sp.go 1 (g := (28, [(0, .ref 10), (1, .int (nI a)), (2, .int (nI g)), (3, .int (nI s))], [.int (-1), .int (g_ans (g_E (a_fr A) g (64 - s) a))])) rfl ?_
  refine Sp.icmp rfl (fun u2 => ?_) (fun u2 => absurd (fun z => absurd z (by rw [he1]; exact g_ans_ne he2)) u2)
  refine Sp.go 1 (g := (34, [(0, .ref 10), (1, .int (nI a)), (2, .int (nI g)), (3, .int (nI s))], [.ref 10])) rfl ?_
  refine Sp.get (v := .int (nI (A.P))) rfl rfl (by rw [← hj.ps]; rfl) ?_
  refine Sp.go 5 (g := (44, [(4, .int (nI (A.P))), (0, .ref 10), (1, .int (nI a)), (2, .int (nI g)), (3, .int (nI s))], [.int (nI s), .int (nI a), .int (nI (A.P)), .ref 10])) rfl ?_
  refine Sp.callV (Qc := fun o M' => ∃ (r : Nat → Nat), (∀ i, i < 65 → r i < 8) ∧ (∀ i, i < s ∨ e < i → r i = A.nd A.P i) ∧ (g_W (a_fr A) g a s e r) ∧ o = .returned (none) ∧ M' = mw (((((w).sf 5 (0)).sa 21 (E)).sa 19 (d_row (w.a 19) A.P r)).sa 18 (upd (w.a 18) A.P (nI e)))) (k' := 64) (F' := 3) (N' := 72) (C' := 0) (S' := 0) (vs := [.int (nI (A.P)), .int (nI a), .int (nI s)]) (st := []) rfl rfl rfl rfl (Nat.le_of_ble_eq_true rfl) (Nat.le_of_ble_eq_true rfl) (by decide) (by decide) (Nat.zero_le _) (Nat.zero_le _) (d_lay (A := A) (g := g) (e := e) (r := A.nd A.P) ho (by omega) (by omega) (by omega) (by omega) (by omega) (fun z => absurd z (by omega)) (fun i hi => ⟨hjr.2 A.P h32 i hi, hn8 i hi⟩) hj (fun t h1 h2 => hE t h1 h2) he1 (fun r hr1 hr2 hr3 => ⟨r, hr1, hr2, hr3, rfl, rfl⟩)) (fun v M' h => ?_) (fun q M' h => by obtain ⟨_, _, _, _, h, _⟩ := h; cases h)
  obtain ⟨r, hr1, hr2, hr3, h, rfl⟩ := h
  cases h
  refine Sp.go 1 (g := (48, [(4, .int (nI (A.P))), (0, .ref 10), (1, .int (nI a)), (2, .int (nI g)), (3, .int (nI s))], [.ref 10])) rfl ?_
  refine Sp.get (v := .ref 14) rfl rfl rfl ?_
  refine Sp.go 2 (g := (54, [(4, .int (nI (A.P))), (0, .ref 10), (1, .int (nI a)), (2, .int (nI g)), (3, .int (nI s))], [.int (nI a), .int (nI (A.P)), .ref 14])) rfl ?_
  refine Sp.pa14 (j := A.P) rfl (m_ix_of (by simp only [nI, Int32.ofNat_add, Int32.ofNat_mul] <;> rfl) (by omega) (by omega)) ?_
  refine Sp.wd (w' := (((((w).sf 5 (0)).sa 21 (E)).sa 19 (d_row (w.a 19) A.P r)).sa 18 (upd (w.a 18) A.P (nI e))).sa 14 (upd (w.a 14) (A.P) (nI a))) rfl ?_
  refine Sp.go 1 (g := (56, [(4, .int (nI (A.P))), (0, .ref 10), (1, .int (nI a)), (2, .int (nI g)), (3, .int (nI s))], [.ref 10])) rfl ?_
  refine Sp.get (v := .ref 13) rfl rfl rfl ?_
  refine Sp.go 2 (g := (62, [(4, .int (nI (A.P))), (0, .ref 10), (1, .int (nI a)), (2, .int (nI g)), (3, .int (nI s))], [.int (nI g), .int (nI (A.P)), .ref 13])) rfl ?_
  refine Sp.pa13 (j := A.P) rfl (m_ix_of (by simp only [nI, Int32.ofNat_add, Int32.ofNat_mul] <;> rfl) (by omega) (by omega)) ?_
  refine Sp.wd (w' := ((((((w).sf 5 (0)).sa 21 (E)).sa 19 (d_row (w.a 19) A.P r)).sa 18 (upd (w.a 18) A.P (nI e))).sa 14 (upd (w.a 14) (A.P) (nI a))).sa 13 (upd (w.a 13) (A.P) (nI g))) rfl ?_
  refine Sp.go 1 (g := (64, [(4, .int (nI (A.P))), (0, .ref 10), (1, .int (nI a)), (2, .int (nI g)), (3, .int (nI s))], [.ref 10])) rfl ?_
  refine Sp.get (v := .ref 15) rfl rfl rfl ?_
  refine Sp.go 2 (g := (70, [(4, .int (nI (A.P))), (0, .ref 10), (1, .int (nI a)), (2, .int (nI g)), (3, .int (nI s))], [.int (nI s), .int (nI (A.P)), .ref 15])) rfl ?_
  refine Sp.pa15 (j := A.P) rfl (m_ix_of (by simp only [nI, Int32.ofNat_add, Int32.ofNat_mul] <;> rfl) (by omega) (by omega)) ?_
  refine Sp.wd (w' := (((((((w).sf 5 (0)).sa 21 (E)).sa 19 (d_row (w.a 19) A.P r)).sa 18 (upd (w.a 18) A.P (nI e))).sa 14 (upd (w.a 14) (A.P) (nI a))).sa 13 (upd (w.a 13) (A.P) (nI g))).sa 15 (upd (w.a 15) (A.P) (nI s))) rfl ?_
  refine Sp.go 1 (g := (72, [(4, .int (nI (A.P))), (0, .ref 10), (1, .int (nI a)), (2, .int (nI g)), (3, .int (nI s))], [.ref 10])) rfl ?_
  refine Sp.get (v := .ref 17) rfl rfl rfl ?_
  refine Sp.go 2 (g := (78, [(4, .int (nI (A.P))), (0, .ref 10), (1, .int (nI a)), (2, .int (nI g)), (3, .int (nI s))], [.int (nI s), .int (nI (A.P)), .ref 17])) rfl ?_
  refine Sp.pa17 (j := A.P) rfl (m_ix_of (by simp only [nI, Int32.ofNat_add, Int32.ofNat_mul] <;> rfl) (by omega) (by omega)) ?_
  refine Sp.wd (w' := ((((((((w).sf 5 (0)).sa 21 (E)).sa 19 (d_row (w.a 19) A.P r)).sa 18 (upd (w.a 18) A.P (nI e))).sa 14 (upd (w.a 14) (A.P) (nI a))).sa 13 (upd (w.a 13) (A.P) (nI g))).sa 15 (upd (w.a 15) (A.P) (nI s))).sa 17 (upd (w.a 17) (A.P) (nI s))) rfl ?_
  refine Sp.go 1 (g := (80, [(4, .int (nI (A.P))), (0, .ref 10), (1, .int (nI a)), (2, .int (nI g)), (3, .int (nI s))], [.ref 10])) rfl ?_
  refine Sp.get (v := .ref 16) rfl rfl rfl ?_
  refine Sp.go 2 (g := (86, [(4, .int (nI (A.P))), (0, .ref 10), (1, .int (nI a)), (2, .int (nI g)), (3, .int (nI s))], [.int 0, .int (nI (A.P)), .ref 16])) rfl ?_
  refine Sp.pa16 (j := A.P) rfl (m_ix_of (by simp only [nI, Int32.ofNat_add, Int32.ofNat_mul] <;> rfl) (by omega) (by omega)) ?_
  refine Sp.wd (w' := (((((((((w).sf 5 (0)).sa 21 (E)).sa 19 (d_row (w.a 19) A.P r)).sa 18 (upd (w.a 18) A.P (nI e))).sa 14 (upd (w.a 14) (A.P) (nI a))).sa 13 (upd (w.a 13) (A.P) (nI g))).sa 15 (upd (w.a 15) (A.P) (nI s))).sa 17 (upd (w.a 17) (A.P) (nI s))).sa 16 (upd (w.a 16) (A.P) (0))) rfl ?_
  refine Sp.go 2 (g := (89, [(4, .int (nI (A.P))), (0, .ref 10), (1, .int (nI a)), (2, .int (nI g)), (3, .int (nI s))], [.ref 10, .ref 10])) rfl ?_
  refine Sp.get (v := .int (nI (A.P))) rfl rfl (by rw [← hj.ps]; rfl) ?_
  refine Sp.go 2 (g := (94, [(4, .int (nI (A.P))), (0, .ref 10), (1, .int (nI a)), (2, .int (nI g)), (3, .int (nI s))], [.int ((nI (A.P)) + 1), .ref 10])) rfl ?_
  refine Sp.pf8 rfl ?_
  refine Sp.go 1 (g := (99, [(4, .int (nI (A.P))), (0, .ref 10), (1, .int (nI a)), (2, .int (nI g)), (3, .int (nI s))], [.int (nI (A.P))])) rfl ?_
  refine Sp.iret rfl (Or.inl rfl) ?_
  exact hq E r hr1 hr2 hr3
theorem JR.book {w : mWd} {A : aS} (hj : JR w A) {a g s e : Nat} {r : Nat → Nat} {E : Nat → Int32} {v : Int32} (ha : r s = a) : JR ((((((((((w.sf 5 v).sa 21 E).sa 19 (d_row (w.a 19) A.P r)).sa 18 (upd (w.a 18) A.P (nI e))).sa 14 (upd (w.a 14) A.P (nI a))).sa 13 (upd (w.a 13) A.P (nI g))).sa 15 (upd (w.a 15) A.P (nI s))).sa 17 (upd (w.a 17) A.P (nI s))).sa 16 (upd (w.a 16) A.P 0)).sf 8 (nI A.P + 1)) (A.book g s e r) := by
  obtain ⟨⟨h1, h2, h3, h4, h5, h6, _⟩, h7⟩ := hj
  have hnd : ∀ j, j < 32 → ∀ i, i < 65 → d_row (w.a 19) A.P r (65 * j + i) = nI ((if j = A.P then r else A.nd j) i) := by
    intro j hj i hi
    split
    · rename_i e; subst e; exact d_row_at hi
    · rename_i e; rw [d_row_ne hi e]; exact h7 j hj i hi
  refine ⟨⟨h1, h2, (nI_succ _).symm, h4, h5, fun j hj => ?_, trivial⟩, hnd⟩
  have hj : j < A.P + 1 := hj
  show upd (w.a 13) A.P (nI g) j = nI (if j = A.P then g else A.go j) ∧ upd (w.a 14) A.P (nI a) j = nI ((if j = A.P then r else A.nd j) (if j = A.P then s else A.at j)) ∧ upd (w.a 15) A.P (nI s) j = nI (if j = A.P then s else A.at j) ∧ upd (w.a 16) A.P 0 j = nI (if j = A.P then 0 else A.fa j) ∧ upd (w.a 17) A.P (nI s) j = nI (if j = A.P then s else A.at j) ∧ upd (w.a 18) A.P (nI e) j = nI (if j = A.P then e else A.la j) ∧ ∀ i, i < 65 → d_row (w.a 19) A.P r (65 * j + i) = nI ((if j = A.P then r else A.nd j) i)
  unfold upd
  by_cases ej : j = A.P
  · refine ⟨by rw [if_pos ej, if_pos ej], by rw [if_pos ej, if_pos ej, if_pos ej, ha], by rw [if_pos ej, if_pos ej], by rw [if_pos ej, if_pos ej]; rfl, by rw [if_pos ej, if_pos ej], by rw [if_pos ej, if_pos ej], fun i hi => ?_⟩
    rw [if_pos ej, ej]; exact d_row_at hi
  · simp only [if_neg ej]
    obtain ⟨k1, k2, k3, k4, k5, k6, k7⟩ := h6 j (by omega)
    exact ⟨k1, k2, k3, k4, k5, k6, fun i hi => by rw [d_row_ne hi ej]; exact k7 i hi⟩
