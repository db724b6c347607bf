/-! The reference: best and lay. Rows laid by wip/gen/model3.py. -/
theorem g_has {fr : Nat → Nat → Nat → Bool} {g t e n : Nat} (ht : t < e) (he : e ≤ 64) (h : g_E fr g (64 - t) n = e) : ∃ m, m < 8 ∧ fr t n m = true ∧ g_E fr g (63 - t) m = e := by
  have hd : 64 - t = (63 - t) + 1 := by omega
  rw [hd] at h
  by_cases hn : n = g
  · simp only [g_E, if_pos hn] at h; omega
  · simp only [g_E, if_neg hn] at h
    obtain ⟨_, _, h3⟩ := g_min_spec (g_E fr g (63 - t)) (fr (63 - (63 - t)) n) (List.range 8) 99
    rw [h] at h3
    rcases h3 with h3 | ⟨m, hm, hf, h3⟩
    · omega
    · rw [show 63 - (63 - t) = t by omega] at hf
      exact ⟨m, List.mem_range.mp hm, hf, h3⟩
/-- a row that goes from s at the tick at the best way to g, till e -/
def g_W (fr : Nat → Nat → Nat → Bool) (g s at0 e : Nat) (r : Nat → Nat) : Prop := r at0 = s ∧ ∀ i, at0 ≤ i → i < e → r (i + 1) < 8 ∧ fr i (r i) (r (i + 1)) = true ∧ g_E fr g (63 - i) (r (i + 1)) = e ∧ ∀ m, m < r (i + 1) → ¬ (fr i (r i) m = true ∧ g_E fr g (63 - i) m = e)
def g_up (r : Nat → Nat) (i m : Nat) : Nat → Nat := fun j => if j = i then m else r j
theorem g_up_self (r : Nat → Nat) (i : Nat) : g_up r i (r i) = r := by
  funext j
  unfold g_up
  split
  · rename_i h; rw [h]
  · rfl
/-- the rows of nodes, with r in the row h -/
def d_row (W : Nat → Int32) (h : Nat) (r : Nat → Nat) : Nat → Int32 := fun j => if 65 * h ≤ j ∧ j < 65 * h + 65 then nI (r (j - 65 * h)) else W j
theorem d_row_self {W : Nat → Int32} {h : Nat} {r : Nat → Nat} (hr : ∀ i, i < 65 → W (65 * h + i) = nI (r i)) : d_row W h r = W := by
  funext j
  unfold d_row
  split
  · rename_i q
    have := hr (j - 65 * h) (by omega)
    rw [show 65 * h + (j - 65 * h) = j by omega] at this
    exact this.symm
  · rfl
theorem d_row_up {W : Nat → Int32} {h : Nat} {r : Nat → Nat} {i m : Nat} (hi : i < 65) : upd (d_row W h r) (65 * h + i) (nI m) = d_row W h (g_up r i m) := by
  funext j
  simp only [upd, d_row, g_up]
  by_cases e : j = 65 * h + i
  · rw [if_pos e, if_pos (by omega), if_pos (by omega)]
  · rw [if_neg e]
    split
    · rw [if_neg (by omega)]
    · rfl
theorem d_row_at {W : Nat → Int32} {h : Nat} {r : Nat → Nat} {i : Nat} (hi : i < 65) : d_row W h r (65 * h + i) = nI (r i) := by
  unfold d_row
  rw [if_pos (by omega), show 65 * h + i - 65 * h = i by omega]
theorem d_row_ne {W : Nat → Int32} {h h' : Nat} {r : Nat → Nat} {i : Nat} (hi : i < 65) (hh : h' ≠ h) : d_row W h r (65 * h' + i) = W (65 * h' + i) := by
  unfold d_row
  rw [if_neg (by omega)]
/-- the state with another row of nodes for h -/
def aS.nds (A : aS) (h : Nat) (r : Nat → Nat) : aS := (A.T, A.nc, A.P, A.pl, A.op, A.go, A.at, A.la, A.fa, fun h' => if h' = h then r else A.nd h')
theorem a_ok.nds {A : aS} (ho : a_ok A) {h : Nat} {r : Nat → Nat} (hr : ∀ i, i < 65 → r i < 8) : a_ok (A.nds h r) := by
  obtain ⟨h1, h2, h3, h4, h5⟩ := ho
  refine ⟨h1, h2, h3, h4, fun h' hh => ⟨(h5 h' hh).1, (h5 h' hh).2.1, (h5 h' hh).2.2.1, fun i hi => ?_⟩⟩
  show (if h' = h then r else A.nd h') i < 8
  split
  · exact hr i hi
  · exact (h5 h' hh).2.2.2 i hi
theorem JR0.nds {w : mWd} {A : aS} (hj : JR0 w A) {h : Nat} {r : Nat → Nat} (ho : a_ok A) (hs : h < A.P → r (A.at h) = A.nd h (A.at h)) : JR0 (w.sa 19 (d_row (w.a 19) h r)) (A.nds h r) := by
  obtain ⟨h1, h2, h3, h4, h5, h6, _⟩ := hj
  refine ⟨h1, h2, h3, h4, h5, fun h' hh => ?_, trivial⟩
  obtain ⟨k1, k2, k3, k4, k5, k6, k7⟩ := h6 h' hh
  refine ⟨k1, ?_, k3, k4, k5, k6, fun i hi => ?_⟩
  · show w.a 14 h' = nI ((if h' = h then r else A.nd h') (A.at h'))
    split
    · rename_i e; subst e; rw [hs hh]; exact k2
    · exact k2
  · show d_row (w.a 19) h r (65 * h' + i) = nI ((if h' = h then r else A.nd h') i)
    split
    · rename_i e; subst e; exact d_row_at hi
    · rename_i e; rw [d_row_ne hi e]; exact k7 i hi
theorem a_goes_nds {A : aS} {h h' t a b : Nat} {r : Nat → Nat} (hs : h' = h → A.la h ≤ t) : a_goes (A.nds h r) h' t a b = a_goes A h' t a b := by
  by_cases e : h' = h
  · have : A.la h' ≤ t := by rw [e]; exact hs e
    have e1 : ¬ t < A.la h' := by omega
    have e2 : ¬ t < (A.nds h r).la h' := e1
    simp [a_goes, e1, e2]
  · show (decide (A.at h' ≤ t) && (decide (t < A.la h') && (decide ((if h' = h then r else A.nd h') t = a) && decide ((if h' = h then r else A.nd h') (t + 1) = b)))) = _
    rw [if_neg e]; rfl
theorem a_fr_nds {A : aS} {h s : Nat} {r : Nat → Nat} (hs : h < A.P → A.la h ≤ s) {t : Nat} (ht : s ≤ t) (a b : Nat) : a_fr (A.nds h r) t a b = a_fr A t a b := by
  have hu : ∀ a b, a_used (A.nds h r) t a b = a_used A t a b := fun a b => g_cnt_congr _ (fun h' hh => a_goes_nds (fun e => Nat.le_trans (hs (by rw [← e]; exact hh)) ht))
  unfold a_fr
  rw [hu, hu]
  rfl
/-- what the search answers -/
def g_ans (e : Nat) : Int32 := if e = 99 then -1 else nI e
theorem d_best {X : mX} {C S : Nat} {Q : Outcome → mM → Prop} {w : mWd} {A : aS} (ho : a_ok A) (hj : JR0 w A) {g : Nat} (hg : g < 8) {a s : Nat} (ha : a < 8) (hs : s ≤ 64) (hq : ∀ E, (∀ t, s ≤ t → t ≤ 64 → d_Et (a_fr A) g t E) → Q (.returned (some (.int (g_ans (g_E (a_fr A) g (64 - s) a))))) (mw (w.sa 21 E))) : Sp X 63 4 99 C S (0, [(0, .ref 10), (1, .int (nI a)), (2, .int (nI g)), (3, .int (nI s))], []) (mw w) Q := by
  have h99 := g_E_99 (a_fr A) g (64 - s) a (by omega)
  refine Sp.go 3 (g := (3, [(0, .ref 10), (1, .int (nI a)), (2, .int (nI g)), (3, .int (nI s))], [.int (nI s), .int (nI g), .ref 10])) rfl ?_
  refine Sp.callV (Qc := fun o M' => ∃ (E : Nat → Int32), (∀ t, s ≤ t → t ≤ 64 → d_Et (a_fr A) g t E) ∧ o = .returned (none) ∧ M' = mw (w.sa 21 (E))) (k' := 62) (F' := 3) (N' := 72) (C' := 0) (S' := 0) (vs := [.int (nI g), .int (nI s)]) (st := []) rfl rfl rfl rfl (Nat.le_of_ble_eq_true rfl) (Nat.le_of_ble_eq_true rfl) (by decide) (by decide) (Nat.zero_le _) (Nat.zero_le _) (d_lookBack ho hj (by omega) (by omega) (fun E hE => ⟨E, hE, rfl, rfl⟩)) (fun v M' h => ?_) (fun q M' h => by obtain ⟨_, _, h, _⟩ := h; cases h)
  obtain ⟨E, hE, h, rfl⟩ := h
  cases h
  refine Sp.go 1 (g := (7, [(0, .ref 10), (1, .int (nI a)), (2, .int (nI g)), (3, .int (nI s))], [.ref 10])) rfl ?_
  refine Sp.get (v := .ref 21) rfl rfl rfl ?_
  refine Sp.go 5 (g := (16, [(0, .ref 10), (1, .int (nI a)), (2, .int (nI g)), (3, .int (nI s))], [.int ((8 * (nI s)) + (nI a)), .ref 21])) rfl ?_
  refine Sp.iald (f := E) (j := (8 * s) + a) rfl rfl (m_ix_of (by simp only [nI, Int32.ofNat_add, Int32.ofNat_mul] <;> rfl) (by omega) (by omega)) ?_
  rw [show E (8 * s + a) = nI (g_E (a_fr A) g (64 - s) a) from hE s (by omega) (by omega) a ha]
  refine Sp.go 3 (g := (23, [(4, .int (nI (g_E (a_fr A) g (64 - s) a))), (0, .ref 10), (1, .int (nI a)), (2, .int (nI g)), (3, .int (nI s))], [.int 99, .int (nI (g_E (a_fr A) g (64 - s) a))])) rfl ?_
  refine Sp.icmp rfl (fun (h1 : ¬ (nI (g_E (a_fr A) g (64 - s) a) : Int32) = (99 : Int32)) => ?_) (fun (h1 : ¬ (¬ (nI (g_E (a_fr A) g (64 - s) a) : Int32) = (99 : Int32))) => ?_)
  · skip
    refine Sp.go 1 (g := (32, [(4, .int (nI (g_E (a_fr A) g (64 - s) a))), (0, .ref 10), (1, .int (nI a)), (2, .int (nI g)), (3, .int (nI s))], [.int (nI (g_E (a_fr A) g (64 - s) a))])) rfl ?_
    refine Sp.iret rfl (Or.inl rfl) ?_
    have k2 := hq E hE; rw [show g_ans (g_E (a_fr A) g (64 - s) a) = nI (g_E (a_fr A) g (64 - s) a) from if_neg (fun z => h1 (by rw [z]; rfl))] at k2; exact k2
  · skip
    refine Sp.go 2 (g := (32, [(4, .int (nI (g_E (a_fr A) g (64 - s) a))), (0, .ref 10), (1, .int (nI a)), (2, .int (nI g)), (3, .int (nI s))], [.int (-1)])) rfl ?_
    refine Sp.iret rfl (Or.inl rfl) ?_
    have k2 := hq E hE; rw [show g_ans (g_E (a_fr A) g (64 - s) a) = -1 from if_pos ((nI_inj (b := 99) (by omega) (by omega)).mp (Classical.not_not.mp h1))] at k2; exact k2
theorem d_layI {X : mX} {C S : Nat} {Q : Outcome → mM → Prop} {w : mWd} {A A' : aS} (ho : a_ok A') (hj : JR0 w A') {g t n e h : Nat} (hf : ∀ a b, a_fr A' t a b = a_fr A t a b) {v2 v3 : Int32} (ht : t < 64) (hn : n < 8) (he : e ≤ 64) (hE : d_Et (a_fr A) g (t + 1) (w.a 21)) (hx : ∃ m, m < 8 ∧ a_fr A t n m = true ∧ g_E (a_fr A) g (63 - t) m = e) : ∀ (d : Nat) (x : Int32), d ≤ 8 → ((x = -1 ∧ ∀ m, d ≤ m → m < 8 → ¬ (a_fr A t n m = true ∧ g_E (a_fr A) g (63 - t) m = e)) ∨ ∃ m, m < 8 ∧ x = nI m ∧ (a_fr A t n m = true ∧ g_E (a_fr A) g (63 - t) m = e) ∧ ∀ m', d ≤ m' → m' < m → ¬ (a_fr A t n m' = true ∧ g_E (a_fr A) g (63 - t) m' = e)) → (∀ m, m < 8 → (a_fr A t n m = true ∧ g_E (a_fr A) g (63 - t) m = e) → (∀ m', m' < m → ¬ (a_fr A t n m' = true ∧ g_E (a_fr A) g (63 - t) m' = e)) → Sp X 64 3 72 C S (100, [(7, .int (nI m)), (6, .int (nI t)), (5, .int (nI n)), (4, .int (nI e)), (0, .ref 10), (1, .int (nI h)), (2, .int (v2)), (3, .int (v3))], []) (mw w) Q) → Sp X 64 3 72 C S (46, [(8, .int (nI d - 1)), (7, .int (x)), (6, .int (nI t)), (5, .int (nI n)), (4, .int (nI e)), (0, .ref 10), (1, .int (nI h)), (2, .int (v2)), (3, .int (v3))], []) (mw w) Q := by
  intro d
  induction d with
  | zero =>
    intro x hd hv kk
    refine Sp.go 1 (g := (48, [(8, .int (nI 0 - 1)), (7, .int (x)), (6, .int (nI t)), (5, .int (nI n)), (4, .int (nI e)), (0, .ref 10), (1, .int (nI h)), (2, .int (v2)), (3, .int (v3))], [.int (nI 0 - 1)])) rfl ?_
    refine Sp.if rfl (fun u1 => ?_) (fun u1 => absurd (show nI 0 - 1 < 0 by decide) u1)
    refine Sp.lsub [1, 2, 3, 4, 5, 6, 7, 8] (ls' := [(7, .int (x)), (6, .int (nI t)), (5, .int (nI n)), (4, .int (nI e)), (0, .ref 10), (1, .int (nI h)), (2, .int (v2)), (3, .int (v3))]) rfl ?_
    rcases hv with ⟨_, hv⟩ | ⟨m, hm, rfl, h1, h2⟩
    · obtain ⟨m, hm, h1, h2⟩ := hx
      exact absurd ⟨h1, h2⟩ (hv m (by omega) hm)
    · exact kk m hm h1 (fun m' h3 => h2 m' (by omega) h3)
  | succ d ih =>
    intro x hd hv kk
    rw [show nI (d + 1) - 1 = nI d from nI_pred d]
    have hEd : w.a 21 (8 * t + 8 + d) = nI (g_E (a_fr A) g (63 - t) d) := by
      have := hE d (by omega)
      rw [show 8 * (t + 1) + d = 8 * t + 8 + d by omega, show 64 - (t + 1) = 63 - t by omega] at this
      exact this
    have h99 := g_E_99 (a_fr A) g (63 - t) d (by omega)
    have hfd := hf n d
    have hnd : ¬ nI d < 0 := nI_pos (by omega)
    refine Sp.go 1 (g := (48, [(8, .int (nI d)), (7, .int (x)), (6, .int (nI t)), (5, .int (nI n)), (4, .int (nI e)), (0, .ref 10), (1, .int (nI h)), (2, .int (v2)), (3, .int (v3))], [.int (nI d)])) rfl ?_
    refine Sp.if rfl (fun u1 => absurd u1 hnd) (fun u1 => ?_)
    refine Sp.go 1 (g := (52, [(8, .int (nI d)), (7, .int (x)), (6, .int (nI t)), (5, .int (nI n)), (4, .int (nI e)), (0, .ref 10), (1, .int (nI h)), (2, .int (v2)), (3, .int (v3))], [.ref 10])) rfl ?_
    refine Sp.get (v := .ref 21) rfl rfl rfl ?_
    refine Sp.go 7 (g := (66, [(8, .int (nI d)), (7, .int (x)), (6, .int (nI t)), (5, .int (nI n)), (4, .int (nI e)), (0, .ref 10), (1, .int (nI h)), (2, .int (v2)), (3, .int (v3))], [.int (((8 * (nI t)) + 8) + (nI d)), .ref 21])) rfl ?_
    refine Sp.iald (f := w.a 21) (j := ((8 * t) + 8) + d) rfl rfl (m_ix_of (by simp only [nI, Int32.ofNat_add, Int32.ofNat_mul] <;> rfl) (by omega) (by omega)) ?_
    rw [hEd]
    refine Sp.go 1 (g := (69, [(8, .int (nI d)), (7, .int (x)), (6, .int (nI t)), (5, .int (nI n)), (4, .int (nI e)), (0, .ref 10), (1, .int (nI h)), (2, .int (v2)), (3, .int (v3))], [.int (nI e), .int (nI (g_E (a_fr A) g (63 - t) d))])) rfl ?_
    refine Sp.icmp rfl (fun (h2 : ¬ (nI (g_E (a_fr A) g (63 - t) d) : Int32) = (nI e : Int32)) => ?_) (fun (h2 : ¬ (¬ (nI (g_E (a_fr A) g (63 - t) d) : Int32) = (nI e : Int32))) => ?_)
    · skip
      refine Sp.go 4 (g := (46, [(8, .int (nI d + (-1))), (7, .int (x)), (6, .int (nI t)), (5, .int (nI n)), (4, .int (nI e)), (0, .ref 10), (1, .int (nI h)), (2, .int (v2)), (3, .int (v3))], [])) rfl ?_
      rw [nI_m1]
      have hnp : ¬ (a_fr A t n d = true ∧ g_E (a_fr A) g (63 - t) d = e) := by
        first | (rw [← hfd, h3]; simp; done) | exact fun z => h2 (by rw [z.2])
      refine ih _ (by omega) ?_ kk
      rcases hv with ⟨e1, hv⟩ | ⟨m, hm, rfl, h1, h2⟩
      · refine Or.inl ⟨e1, fun m h4 h5 => ?_⟩
        by_cases e2 : m = d
        · rw [e2]; exact hnp
        · exact hv m (by omega) h5
      · refine Or.inr ⟨m, hm, rfl, h1, fun m' h4 h5 => ?_⟩
        by_cases e2 : m' = d
        · rw [e2]; exact hnp
        · exact h2 m' (by omega) h5
    · skip
      refine Sp.go 4 (g := (79, [(8, .int (nI d)), (7, .int (x)), (6, .int (nI t)), (5, .int (nI n)), (4, .int (nI e)), (0, .ref 10), (1, .int (nI h)), (2, .int (v2)), (3, .int (v3))], [.int (nI d), .int (nI n), .int (nI t), .ref 10])) rfl ?_
      refine Sp.vr (some (.int (m_b2 (a_fr A' t n d)))) (mw (w)) (k' := 61) (F' := 2) (N' := 49) (C' := 0) (S' := 0) (vs := [.int (nI t), .int (nI n), .int (nI d)]) (st := []) rfl rfl rfl rfl (Nat.le_of_ble_eq_true rfl) (Nat.le_of_ble_eq_true rfl) (by decide) (by decide) (Nat.zero_le _) (Nat.zero_le _) (fun Q' h => d_isFree ho hj (by omega) (by omega) (by omega) h) ?_
      refine Sp.ifb rfl (fun h3 => ?_) (fun h3 => ?_)
      · skip
        refine Sp.go 4 (g := (46, [(8, .int (nI d + (-1))), (7, .int (x)), (6, .int (nI t)), (5, .int (nI n)), (4, .int (nI e)), (0, .ref 10), (1, .int (nI h)), (2, .int (v2)), (3, .int (v3))], [])) rfl ?_
        rw [nI_m1]
        have hnp : ¬ (a_fr A t n d = true ∧ g_E (a_fr A) g (63 - t) d = e) := by
          first | (rw [← hfd, h3]; simp; done) | exact fun z => h2 (by rw [z.2])
        refine ih _ (by omega) ?_ kk
        rcases hv with ⟨e1, hv⟩ | ⟨m, hm, rfl, h1, h2⟩
        · refine Or.inl ⟨e1, fun m h4 h5 => ?_⟩
          by_cases e2 : m = d
          · rw [e2]; exact hnp
          · exact hv m (by omega) h5
        · refine Or.inr ⟨m, hm, rfl, h1, fun m' h4 h5 => ?_⟩
          by_cases e2 : m' = d
          · rw [e2]; exact hnp
          · exact h2 m' (by omega) h5
      · skip
        refine Sp.go 5 (g := (46, [(8, .int (nI d + (-1))), (7, .int (nI d)), (6, .int (nI t)), (5, .int (nI n)), (4, .int (nI e)), (0, .ref 10), (1, .int (nI h)), (2, .int (v2)), (3, .int (v3))], [])) rfl ?_
        rw [nI_m1]
        refine ih _ (by omega) (Or.inr ⟨d, by omega, rfl, ⟨by rw [← hfd]; exact h3, (nI_inj (by omega) (by omega)).mp (Classical.not_not.mp h2)⟩, fun m' h4 h5 => by omega⟩) kk
theorem d_layO {X : mX} {C S : Nat} {Q : Outcome → mM → Prop} {w : mWd} {A : aS} (ho : a_ok A) {g s e h : Nat} {v2 v3 : Int32} {r0 : Nat → Nat} (hh : h < 32) (he : e ≤ 64) (hs : h < A.P → A.la h ≤ s ∧ A.at h ≤ s ∧ r0 (A.at h) = A.nd h (A.at h)) (hj : JR0 w A) (hE : ∀ t, s ≤ t → t ≤ 64 → d_Et (a_fr A) g t (w.a 21)) : ∀ (d t : Nat) (r : Nat → Nat), t + d = e → s ≤ t → (∀ i, i < 65 → r i < 8) → (∀ i, i ≤ s ∨ t < i → r i = r0 i) → (∀ i, s ≤ i → i < t → r (i + 1) < 8 ∧ a_fr A i (r i) (r (i + 1)) = true ∧ g_E (a_fr A) g (63 - i) (r (i + 1)) = e ∧ ∀ m, m < r (i + 1) → ¬ (a_fr A i (r i) m = true ∧ g_E (a_fr A) g (63 - i) m = e)) → g_E (a_fr A) g (64 - t) (r t) = e → (∀ r', (∀ i, i < 65 → r' i < 8) → (∀ i, i ≤ s ∨ e < i → r' i = r0 i) → (∀ i, s ≤ i → i < e → r' (i + 1) < 8 ∧ a_fr A i (r' i) (r' (i + 1)) = true ∧ g_E (a_fr A) g (63 - i) (r' (i + 1)) = e ∧ ∀ m, m < r' (i + 1) → ¬ (a_fr A i (r' i) m = true ∧ g_E (a_fr A) g (63 - i) m = e)) → Q (.returned none) (mw ((w.sa 19 (d_row (w.a 19) h r')).sa 18 (upd (w.a 18) h (nI e))))) → Sp X 64 3 72 C S (32, [(6, .int (nI t)), (5, .int (nI (r t))), (4, .int (nI e)), (0, .ref 10), (1, .int (nI h)), (2, .int (v2)), (3, .int (v3))], []) (mw (w.sa 19 (d_row (w.a 19) h r))) Q := by
  intro d
  induction d with
  | zero =>
    intro t r ht hst hr8 hr0 hrW hgE kk
    refine Sp.go 2 (g := (36, [(6, .int (nI t)), (5, .int (nI (r t))), (4, .int (nI e)), (0, .ref 10), (1, .int (nI h)), (2, .int (v2)), (3, .int (v3))], [.int (nI e), .int (nI t)])) rfl ?_
    refine Sp.icmp rfl (fun u1 => ?_) (fun u1 => absurd ((nI_le' (by omega) (by omega)).mpr (by omega)) u1)
    refine Sp.go 1 (g := (127, [(6, .int (nI t)), (5, .int (nI (r t))), (4, .int (nI e)), (0, .ref 10), (1, .int (nI h)), (2, .int (v2)), (3, .int (v3))], [.ref 10])) rfl ?_
    refine Sp.get (v := .ref 18) rfl rfl rfl ?_
    refine Sp.go 2 (g := (133, [(6, .int (nI t)), (5, .int (nI (r t))), (4, .int (nI e)), (0, .ref 10), (1, .int (nI h)), (2, .int (v2)), (3, .int (v3))], [.int (nI e), .int (nI h), .ref 18])) rfl ?_
    refine Sp.pa18 (j := h) rfl (m_ix_of (by simp only [nI, Int32.ofNat_add, Int32.ofNat_mul] <;> rfl) (by omega) (by omega)) ?_
    refine Sp.wd (w' := ((w).sa 19 (d_row (w.a 19) h r)).sa 18 (upd (w.a 18) h (nI e))) rfl ?_
    refine Sp.vret rfl rfl ?_
    have et : t = e := by omega
    exact kk r hr8 (fun i hi => hr0 i (by omega)) (fun i h1 h2 => hrW i h1 (by omega))
  | succ d ih =>
    intro t r ht hst hr8 hr0 hrW hgE kk
    refine Sp.go 2 (g := (36, [(6, .int (nI t)), (5, .int (nI (r t))), (4, .int (nI e)), (0, .ref 10), (1, .int (nI h)), (2, .int (v2)), (3, .int (v3))], [.int (nI e), .int (nI t)])) rfl ?_
    refine Sp.icmp rfl (fun u1 => absurd u1 (fun z => absurd ((nI_le' (by omega) (by omega)).mp z) (by omega))) (fun u1 => ?_)
    refine Sp.go 4 (g := (46, [(8, .int 7), (7, .int (-1)), (6, .int (nI t)), (5, .int (nI (r t))), (4, .int (nI e)), (0, .ref 10), (1, .int (nI h)), (2, .int (v2)), (3, .int (v3))], [])) rfl ?_
    have hjr : JR0 (w.sa 19 (d_row (w.a 19) h r)) (A.nds h r) := hj.nds ho (fun z => by rw [hr0 _ (Or.inl (hs z).2.1)]; exact (hs z).2.2)
    refine d_layI (A := A) (A' := A.nds h r) (g := g) (t := t) (n := r t) (e := e) (ho.nds hr8) hjr (fun a b => a_fr_nds (fun z => (hs z).1) hst a b) (by omega) (hr8 t (by omega)) he (hE (t + 1) (by omega) (by omega)) (g_has (by omega) he hgE) 8 (-1) (by omega) (Or.inl ⟨rfl, fun m h1 h2 => by omega⟩) (fun m hm hp hmin => ?_)
    refine Sp.go 3 (g := (105, [(5, .int (nI m)), (7, .int (nI m)), (6, .int (nI t)), (4, .int (nI e)), (0, .ref 10), (1, .int (nI h)), (2, .int (v2)), (3, .int (v3))], [.ref 10])) rfl ?_
    refine Sp.get (v := .ref 19) rfl rfl rfl ?_
    refine Sp.go 8 (g := (119, [(5, .int (nI m)), (7, .int (nI m)), (6, .int (nI t)), (4, .int (nI e)), (0, .ref 10), (1, .int (nI h)), (2, .int (v2)), (3, .int (v3))], [.int (nI m), .int (((65 * (nI h)) + (nI t)) + 1), .ref 19])) rfl ?_
    refine Sp.pa19 (j := ((65 * h) + t) + 1) rfl (m_ix_of (by simp only [nI, Int32.ofNat_add, Int32.ofNat_mul] <;> rfl) (by omega) (by omega)) ?_
    refine Sp.wd (w' := w.sa 19 (upd (d_row (w.a 19) h r) (((65 * h) + t) + 1) (nI m))) (mWd.sa_sa ..) ?_
    refine Sp.go 2 (g := (32, [(6, .int (nI t + 1)), (5, .int (nI m)), (7, .int (nI m)), (4, .int (nI e)), (0, .ref 10), (1, .int (nI h)), (2, .int (v2)), (3, .int (v3))], [])) rfl ?_
    refine Sp.lsub [0, 1, 3, 4, 5, 6, 7] (ls' := [(6, .int (nI t + 1)), (5, .int (nI m)), (4, .int (nI e)), (0, .ref 10), (1, .int (nI h)), (2, .int (v2)), (3, .int (v3))]) rfl ?_
    rw [show nI t + 1 = nI (t + 1) from (nI_succ t).symm]
    rw [show 65 * h + t + 1 = 65 * h + (t + 1) from rfl, d_row_up (by omega)]
    have hm2 : ∀ i, i ≤ t → g_up r (t + 1) m i = r i := fun i hi => by simp only [g_up]; rw [if_neg (by omega)]
    have hm3 : g_up r (t + 1) m (t + 1) = m := by simp [g_up]
    have k2 := ih (t + 1) (g_up r (t + 1) m) (by omega) (by omega) (fun i hi => ?_) (fun i hi => ?_) (fun i h1 h2 => ?_) ?_ kk
    · rw [hm3] at k2; exact k2
    · simp only [g_up]; split
      · exact hm
      · exact hr8 i hi
    · simp only [g_up]; rw [if_neg (by omega)]; exact hr0 i (by omega)
    · by_cases ei : i = t
      · subst ei; rw [hm3, hm2 i (by omega)]; exact ⟨hm, hp.1, hp.2, hmin⟩
      · rw [hm2 i (by omega), hm2 (i + 1) (by omega)]; exact hrW i h1 (by omega)
    · rw [hm3, show 64 - (t + 1) = 63 - t by omega]; exact hp.2
theorem d_lay {X : mX} {C S : Nat} {Q : Outcome → mM → Prop} {w : mWd} {A : aS} (ho : a_ok A) {g s e h a : Nat} {r : Nat → Nat} (hh : h < 32) (ha : a < 8) (hs64 : s < 64) (he : e ≤ 64) (hse : s ≤ e) (hs : h < A.P → A.la h ≤ s ∧ A.at h ≤ s ∧ r s = a) (hr : ∀ i, i < 65 → w.a 19 (65 * h + i) = nI (r i) ∧ r i < 8) (hj : JR0 w A) (hE : ∀ t, s ≤ t → t ≤ 64 → d_Et (a_fr A) g t (w.a 21)) (hgE : g_E (a_fr A) g (64 - s) a = e) (hq : ∀ r', (∀ i, i < 65 → r' i < 8) → (∀ i, i < s ∨ e < i → r' i = r i) → g_W (a_fr A) g a s e r' → Q (.returned none) (mw ((w.sa 19 (d_row (w.a 19) h r')).sa 18 (upd (w.a 18) h (nI e))))) : Sp X 64 3 72 C S (0, [(0, .ref 10), (1, .int (nI h)), (2, .int (nI a)), (3, .int (nI s))], []) (mw w) Q := by
  refine Sp.go 1 (g := (1, [(0, .ref 10), (1, .int (nI h)), (2, .int (nI a)), (3, .int (nI s))], [.ref 10])) rfl ?_
  refine Sp.get (v := .ref 21) rfl rfl rfl ?_
  refine Sp.go 5 (g := (10, [(0, .ref 10), (1, .int (nI h)), (2, .int (nI a)), (3, .int (nI s))], [.int ((8 * (nI s)) + (nI a)), .ref 21])) rfl ?_
  refine Sp.iald (f := w.a 21) (j := (8 * s) + a) rfl rfl (m_ix_of (by simp only [nI, Int32.ofNat_add, Int32.ofNat_mul] <;> rfl) (by omega) (by omega)) ?_
  rw [show w.a 21 (8 * s + a) = nI e by rw [hE s (by omega) (by omega) a ha, hgE]]
  refine Sp.go 4 (g := (17, [(5, .int (nI a)), (4, .int (nI e)), (0, .ref 10), (1, .int (nI h)), (2, .int (nI a)), (3, .int (nI s))], [.ref 10])) rfl ?_
  refine Sp.get (v := .ref 19) rfl rfl rfl ?_
  refine Sp.go 6 (g := (28, [(5, .int (nI a)), (4, .int (nI e)), (0, .ref 10), (1, .int (nI h)), (2, .int (nI a)), (3, .int (nI s))], [.int (nI a), .int ((65 * (nI h)) + (nI s)), .ref 19])) rfl ?_
  refine Sp.pa19 (j := (65 * h) + s) rfl (m_ix_of (by simp only [nI, Int32.ofNat_add, Int32.ofNat_mul] <;> rfl) (by omega) (by omega)) ?_
  refine Sp.go 2 (g := (32, [(6, .int (nI s)), (5, .int (nI a)), (4, .int (nI e)), (0, .ref 10), (1, .int (nI h)), (2, .int (nI a)), (3, .int (nI s))], [])) rfl ?_
  rw [← d_row_self (W := w.a 19) (h := h) (r := r) (fun i hi => (hr i hi).1), d_row_up (by omega)]
  have hss : g_up r s a s = a := by simp [g_up]
  have k2 := d_layO (w := w) (A := A) (g := g) (s := s) (e := e) (h := h) (v2 := nI a) (v3 := nI s) (r0 := g_up r s a) (X := X) (C := C) (S := S) (Q := Q) ho hh he (fun z => ⟨(hs z).1, (hs z).2.1, ?_⟩) hj hE (e - s) s (g_up r s a) (by omega) (by omega) (fun i hi => ?_) (fun i _ => rfl) (fun i h1 h2 => by omega) (by rw [hss]; exact hgE) (fun r' h1 h2 h3 => ?_)
  · rw [hss] at k2; exact k2
  · have e1 : g_up r s a = r := by have := g_up_self r s; rw [(hs z).2.2] at this; exact this
    rw [e1]
    have k3 := (hr (A.at h) (by have := (hs z).2.1; omega))
    have k4 := (hj.2.2.2.2.2.1 h z).2.2.2.2.2.2 (A.at h) (by have := (hs z).2.1; omega)
    have k5 := (ho.2.2.2.2 h z).2.2.2 (A.at h) (by have := (hs z).2.1; omega)
    rw [k3.1] at k4
    exact (nI_inj (by omega) (by omega)).mp k4
  · simp only [g_up]; split
    · exact ha
    · exact (hr i hi).2
  · refine hq r' h1 (fun i hi => ?_) ⟨by rw [h2 s (by omega)]; exact hss, h3⟩
    rw [h2 i (by omega)]; simp only [g_up]; rw [if_neg (by omega)]
