/-! The desk: cut. Rows laid by wip/gen/desk6.py. -/
theorem r_cutOffTouched {X : mX} {C S : Nat} {Q : Outcome → mM → Prop} {A : aS} {tc : Nat → Bool} {a b : Nat} (ha : a < 8) (hb : b < 8) (ho : a_ok A) (hone : ∀ j, j < A.P → a_one A j) (htc : ∀ j, j < A.P → tc j = (decide (A.fa j = 0) && m_any (fun t => a_goes A j t a b || a_goes A j t b a) A.T (64 - A.T))) {q : Nat → Nat} {nd : Nat → Nat → Int32} {w : mWd} (hj : JCq w A q nd) (hu : (∀ t x y, t < 64 → x ≠ y → a_used A t x y ≤ 1)) (hq : ∀ w' m', JCq w' (A.las (a_cuts A tc A.P)) q nd → (∀ t x y, t < 64 → x ≠ y → a_used (A.las (a_cuts A tc A.P)) t x y ≤ 1) → sM w w' → (∀ j, j < 64 → lb m' j = (decide (j < A.P) && tc j)) → Q (.returned (some (.long m'))) (mw w')) : Sp X 50 3 68 C S (0, [(0, .ref 0), (1, .int (nI a)), (2, .int (nI b))], []) (mw w) Q := by
  refine Sp.go 4 (g := (5, [(5, .int 0), (3, .long (0)), (0, .ref 0), (1, .int (nI a)), (2, .int (nI b))], [])) rfl ?_
  have ea : A.las (a_cuts A tc 0) = A := by
    have : a_cuts A tc 0 = A.la := by funext j; unfold a_cuts; rw [if_neg (by omega)]
    rw [this]; rfl
  refine r_cots ha hb ho hone htc (q := q) (nd := nd) A.P 0 w 0 (by omega) (by rw [ea]; exact hj) (by rw [ea]; exact hu) (fun j _ => by rw [lb_0, decide_eq_false (by omega)]; rfl) hq
theorem JCq.wend {w : mWd} {A : aS} {q : Nat → Nat} {nd : Nat → Nat → Int32} (hj : JCq w A q nd) (ho : a_ok A) (hi : ∀ n t, A.op n n t = false) {a s g : Nat} (ha : a < 8) (hg : g < 8) (hs : s < 64) (hag : a ≠ g) : (g_E (a_fr A) g (64 - s) a = 99 → w_end w a s g = none) ∧ (∀ e, g_E (a_fr A) g (64 - s) a = e → e ≤ 64 → s < e ∧ w_end w a s g = some e) :=
  w_end_is (hj.on ho hi) ha hg hs hag
theorem r_cutloop {X : mX} {C S : Nat} {Q : Outcome → mM → Prop} {A : aS} {tc : Nat → Bool} (ho : a_ok A) (hmid : a_mid A tc 0) {m : Int64} (hmk : ∀ j, j < 64 → lb m j = (decide (j < A.P) && tc j)) {v1 v2 : Int32} : ∀ (d hd c : Nat) (w : mWd), hd + d = A.P → c = a_lost A tc hd → JC w (a_news A tc hd) → (∀ w', JC w' (a_news A tc A.P) → sM w w' → Q (.returned (some (.int (nI (a_lost A tc A.P))))) (mw w')) → Sp X 33 7 142 C S (32, [(6, .int (nI hd)), (5, .int (nI c)), (3, .long (m)), (0, .ref 0), (1, .int (v1)), (2, .int (v2))], []) (mw w) Q := by
  have h32 := ho.2.2.1
  intro d
  induction d with
  | zero =>
    intro hd c w hdd hc hjc kk
    obtain ⟨q, nd, hj⟩ := hjc
    have hP : w.f 3 = nI A.P := by rw [hj.2.1.1, (a_news_same A tc hd).2.2.1]
    refine Sp.go 2 (g := (35, [(6, .int (nI hd)), (5, .int (nI c)), (3, .long (m)), (0, .ref 0), (1, .int (v1)), (2, .int (v2))], [.ref 0, .int (nI hd)])) rfl ?_
    refine Sp.get (v := .int (nI (A.P))) rfl rfl (by rw [← hP]; rfl) ?_
    refine Sp.icmp rfl (fun u1 => ?_) (fun u1 => absurd ((nI_le' (by omega) (by omega)).mpr (by omega)) u1)
    refine Sp.go 1 (g := (91, [(6, .int (nI hd)), (5, .int (nI c)), (3, .long (m)), (0, .ref 0), (1, .int (v1)), (2, .int (v2))], [.int (nI c)])) rfl ?_
    refine Sp.iret rfl (Or.inl rfl) ?_
    have e : hd = A.P := by omega
    subst e
    rw [hc]
    exact kk w ⟨q, nd, hj⟩ (sM.refl w)
  | succ d ih =>
    intro hd c w hdd hc0 hjc kk
    obtain ⟨q, nd, hj⟩ := hjc
    have hh : hd < A.P := by omega
    have hS := a_news_same A tc hd
    have hP : w.f 3 = nI A.P := by rw [hj.2.1.1, hS.2.2.1]
    have hoB := a_news_ok (tc := tc) ho hd (by omega)
    have hmB := hmid.news ho hd (by omega)
    have hcl : c ≤ hd := by rw [hc0]; exact a_lost_le A tc hd
    have hmh := hmk hd (by omega)
    rw [decide_eq_true hh, Bool.true_and] at hmh
    generalize hB : a_news A tc hd = B at *
    have hhB : hd < B.P := by rw [hS.2.2.1]; exact hh
    have hc := hj.2.2.2.2.2.1
    have hnd := hj.2.2.2.2.2.2 hd hhB
    have hb4 := hoB.2.2.2.2 hd hhB
    have hPB : w.f 3 = nI B.P := hj.2.1.1
    have h32B := hoB.2.2.1
    cases htc : tc hd with
    | false =>
      refine Sp.go 2 (g := (35, [(6, .int (nI hd)), (5, .int (nI c)), (3, .long (m)), (0, .ref 0), (1, .int (v1)), (2, .int (v2))], [.ref 0, .int (nI hd)])) rfl ?_
      refine Sp.get (v := .int (nI (A.P))) rfl rfl (by rw [← hP]; rfl) ?_
      refine Sp.icmp rfl (fun u1 => absurd u1 (fun z => absurd ((nI_le' (by omega) (by omega)).mp z) (by omega))) (fun u1 => ?_)
      refine Sp.go 2 (g := (44, [(6, .int (nI hd)), (5, .int (nI c)), (3, .long (m)), (0, .ref 0), (1, .int (v1)), (2, .int (v2))], [.int (nI hd), .ref 0])) rfl ?_
      refine Sp.vr (some (.ref (q hd + 23))) (mw (w)) (k' := 45) (F' := 0) (N' := 0) (C' := 0) (S' := 0) (vs := [.int (nI hd)]) (st := []) rfl rfl rfl rfl (Nat.le_of_ble_eq_true rfl) (Nat.le_of_ble_eq_true rfl) (by decide) (by decide) (Nat.zero_le _) (Nat.zero_le _) (fun Q' h => r_parcelOf_in hPB h32B hhB (hc.1 _ hhB).1 h) ?_
      refine Sp.go 10 (g := (62, [(7, .ref (q hd + 23)), (6, .int (nI hd)), (5, .int (nI c)), (3, .long (m)), (0, .ref 0), (1, .int (v1)), (2, .int (v2))], [.int (lg_cmp (((m : Int64) >>> ((nI hd : Int32).toInt64 &&& 63)) &&& (1)) (0))])) rfl ?_
      refine Sp.if rfl (fun u2 => ?_) (fun u2 => absurd ((lg0 _).mpr ((lb_bit m (by omega)).mpr (by rw [hmh]; exact htc))) u2)
      refine Sp.go 2 (g := (32, [(6, .int (nI hd + 1)), (7, .ref (q hd + 23)), (5, .int (nI c)), (3, .long (m)), (0, .ref 0), (1, .int (v1)), (2, .int (v2))], [])) rfl ?_
      refine Sp.lsub [0, 2, 3, 4, 5, 6] (ls' := [(6, .int (nI hd + 1)), (5, .int (nI c)), (3, .long (m)), (0, .ref 0), (1, .int (v1)), (2, .int (v2))]) rfl ?_
      rw [show nI hd + 1 = nI (hd + 1) from (nI_succ hd).symm]
      refine ih (hd + 1) c w (by omega) (by simp only [a_lost, htc, Bool.false_eq_true, false_and, if_false]; exact hc0) (by simp only [a_news, htc, Bool.false_eq_true, if_false]; rw [hB]; exact ⟨q, nd, hj⟩) kk
    | true =>
      have hx : (∀ i, B.at hd ≤ i → i ≤ a_s B hd → B.nd hd i ≠ B.go hd) ∧ B.fa hd = 0 ∧ B.T < 64 ∧ B.la hd ≤ a_s B hd ∧ (B.la hd = a_s B hd ∨ B.at hd = a_s B hd) := by
        rcases hmB.2.2.2 hd hhB with ⟨_, _, q1, q2, q3, q4, q5⟩ | ⟨q1, _⟩
        · exact ⟨q5, q1, q2, q3, q4⟩
        · rcases q1 with q1 | q1
          · rw [htc] at q1; cases q1
          · omega
      have hs64 : a_s B hd < 64 := by unfold a_s; omega
      have hat : B.at hd ≤ a_s B hd := by unfold a_s; omega
      have hn8 := hb4.2.2.2 (a_s B hd) (by omega)
      have hnow : w.f 4 = nI B.T := hj.2.1.2
      have hwe := hj.wend hoB hmB.1 hn8 hb4.1 hs64 (hx.1 _ hat (Nat.le_refl _))
      by_cases he9 : a_e B hd = 99
      · skip
        refine Sp.go 2 (g := (35, [(6, .int (nI hd)), (5, .int (nI c)), (3, .long (m)), (0, .ref 0), (1, .int (v1)), (2, .int (v2))], [.ref 0, .int (nI hd)])) rfl ?_
        refine Sp.get (v := .int (nI (A.P))) rfl rfl (by rw [← hP]; rfl) ?_
        refine Sp.icmp rfl (fun u1 => absurd u1 (fun z => absurd ((nI_le' (by omega) (by omega)).mp z) (by omega))) (fun u1 => ?_)
        refine Sp.go 2 (g := (44, [(6, .int (nI hd)), (5, .int (nI c)), (3, .long (m)), (0, .ref 0), (1, .int (v1)), (2, .int (v2))], [.int (nI hd), .ref 0])) rfl ?_
        refine Sp.vr (some (.ref (q hd + 23))) (mw (w)) (k' := 45) (F' := 0) (N' := 0) (C' := 0) (S' := 0) (vs := [.int (nI hd)]) (st := []) rfl rfl rfl rfl (Nat.le_of_ble_eq_true rfl) (Nat.le_of_ble_eq_true rfl) (by decide) (by decide) (Nat.zero_le _) (Nat.zero_le _) (fun Q' h => r_parcelOf_in hPB h32B hhB (hc.1 _ hhB).1 h) ?_
        refine Sp.go 10 (g := (62, [(7, .ref (q hd + 23)), (6, .int (nI hd)), (5, .int (nI c)), (3, .long (m)), (0, .ref 0), (1, .int (v1)), (2, .int (v2))], [.int (lg_cmp (((m : Int64) >>> ((nI hd : Int32).toInt64 &&& 63)) &&& (1)) (0))])) rfl ?_
        refine Sp.if rfl (fun u2 => absurd u2 (fun z => absurd ((lb_bit m (by omega)).mp ((lg0 _).mp z)) (by rw [hmh, htc]; decide))) (fun u2 => ?_)
        refine Sp.go 2 (g := (68, [(7, .ref (q hd + 23)), (6, .int (nI hd)), (5, .int (nI c)), (3, .long (m)), (0, .ref 0), (1, .int (v1)), (2, .int (v2))], [.ref (q hd + 23), .ref 0])) rfl ?_
        refine Sp.vr (some (.int 0)) (mw (w)) (k' := 51) (F' := 5) (N' := 119) (C' := 0) (S' := 0) (vs := [.ref (q hd + 23)]) (st := []) rfl rfl rfl rfl (Nat.le_of_ble_eq_true rfl) (Nat.le_of_ble_eq_true rfl) (by decide) (by decide) (Nat.zero_le _) (Nat.zero_le _) (fun Q' h => r_bookAnew_none (a0 := B.at hd) (T0 := B.T) (g := B.go hd) (a := B.nd hd (a_s B hd)) hb4.2.1 hx.2.2.1 hnow (hc.1 _ hhB).2.1 (hc.1 _ hhB).2.2.1 hb4.1 hn8 (hnd _ (by show a_s B _ < 65; omega)) (hwe.1 he9) h) ?_
        refine Sp.if rfl (fun u3 => absurd u3 (show ¬ (¬ (0 : Int32) = 0) by decide)) (fun u3 => ?_)
        refine Sp.go 2 (g := (77, [(7, .ref (q hd + 23)), (6, .int (nI hd)), (5, .int (nI c)), (3, .long (m)), (0, .ref 0), (1, .int (v1)), (2, .int (v2))], [.int 5, .ref (q hd + 23)])) rfl ?_
        refine Sp.pl rfl (hc.1 hd hhB).2.1 (Nat.le_of_ble_eq_true rfl) rfl ?_
        refine Sp.go 3 (g := (32, [(6, .int (nI hd + 1)), (5, .int (nI c + 1)), (7, .ref (q hd + 23)), (3, .long (m)), (0, .ref 0), (1, .int (v1)), (2, .int (v2))], [])) rfl ?_
        refine Sp.lsub [0, 1, 3, 4, 5, 6] (ls' := [(6, .int (nI hd + 1)), (5, .int (nI c + 1)), (3, .long (m)), (0, .ref 0), (1, .int (v1)), (2, .int (v2))]) rfl ?_
        rw [show nI hd + 1 = nI (hd + 1) from (nI_succ hd).symm, show nI c + 1 = nI (c + 1) from (nI_succ c).symm]
        refine ih (hd + 1) (c + 1) (w.sd (q hd) (.inr (1, [.int (nI (B.go hd)), .int (nI (B.at hd)), .ref (q hd + 24), .int (a_last B hd), .int 5]))) (by omega) (by simp only [a_lost]; rw [hB, if_pos ⟨htc, he9⟩, ← hc0]) (by simp only [a_news]; rw [if_pos htc, hB]; unfold a_anew; rw [if_pos he9]; exact ⟨q, nd, hj.lost hhB⟩) (fun w2 k1 k2 => kk w2 k1 (sM.trans (w1 := (w.sd (q hd) (.inr (1, [.int (nI (B.go hd)), .int (nI (B.at hd)), .ref (q hd + 24), .int (a_last B hd), .int 5])))) ⟨rfl, rfl, rfl, rfl, rfl, rfl, rfl, rfl, rfl, rfl, rfl, rfl, rfl, rfl, rfl⟩ k2))
      · have hee := (a_e_at hoB hhB).resolve_left he9
        obtain ⟨r1, r2, r3⟩ := a_r_W hoB hhB he9
        have hw2 := hwe.2 (a_e B hd) rfl hee.2
        have hwy := w_way_is (w := w) (hj.on hoB hmB.1) hn8 hb4.1 hee.1 hee.2 rfl r1
        have hr0 : ∀ i, i ≤ a_s B hd ∨ a_e B hd < i → a_r B hd i = B.nd hd i := by
          intro i hi
          by_cases ei : i = a_s B hd
          · rw [ei]; exact r1.1
          · exact r3 i (by omega)
        have hN : ∀ i, max (B.at hd) B.T ≤ i → i ≤ a_e B hd → (w_sought w (B.nd hd (a_s B hd)) (max (B.at hd) B.T) (a_e B hd) (B.go hd)).a 7 i = nI (a_r B hd i) ∧ a_r B hd i < 8 := by
          intro i q1 q2
          refine ⟨?_, r2 i (by omega)⟩
          show w_way w (B.nd hd (a_s B hd)) (a_s B hd) (a_e B hd) (B.go hd) i = _
          rw [hwy i, if_pos ⟨q1, q2⟩]
        refine Sp.go 2 (g := (35, [(6, .int (nI hd)), (5, .int (nI c)), (3, .long (m)), (0, .ref 0), (1, .int (v1)), (2, .int (v2))], [.ref 0, .int (nI hd)])) rfl ?_
        refine Sp.get (v := .int (nI (A.P))) rfl rfl (by rw [← hP]; rfl) ?_
        refine Sp.icmp rfl (fun u1 => absurd u1 (fun z => absurd ((nI_le' (by omega) (by omega)).mp z) (by omega))) (fun u1 => ?_)
        refine Sp.go 2 (g := (44, [(6, .int (nI hd)), (5, .int (nI c)), (3, .long (m)), (0, .ref 0), (1, .int (v1)), (2, .int (v2))], [.int (nI hd), .ref 0])) rfl ?_
        refine Sp.vr (some (.ref (q hd + 23))) (mw (w)) (k' := 45) (F' := 0) (N' := 0) (C' := 0) (S' := 0) (vs := [.int (nI hd)]) (st := []) rfl rfl rfl rfl (Nat.le_of_ble_eq_true rfl) (Nat.le_of_ble_eq_true rfl) (by decide) (by decide) (Nat.zero_le _) (Nat.zero_le _) (fun Q' h => r_parcelOf_in hPB h32B hhB (hc.1 _ hhB).1 h) ?_
        refine Sp.go 10 (g := (62, [(7, .ref (q hd + 23)), (6, .int (nI hd)), (5, .int (nI c)), (3, .long (m)), (0, .ref 0), (1, .int (v1)), (2, .int (v2))], [.int (lg_cmp (((m : Int64) >>> ((nI hd : Int32).toInt64 &&& 63)) &&& (1)) (0))])) rfl ?_
        refine Sp.if rfl (fun u2 => absurd u2 (fun z => absurd ((lb_bit m (by omega)).mp ((lg0 _).mp z)) (by rw [hmh, htc]; decide))) (fun u2 => ?_)
        refine Sp.go 2 (g := (68, [(7, .ref (q hd + 23)), (6, .int (nI hd)), (5, .int (nI c)), (3, .long (m)), (0, .ref 0), (1, .int (v1)), (2, .int (v2))], [.ref (q hd + 23), .ref 0])) rfl ?_
        refine Sp.vr (some (.int 1)) (mw ((r_giveW (w_sought w (B.nd hd (a_s B hd)) (a_s B hd) (a_e B hd) (B.go hd)) (q hd) (a_s B hd) (a_e B hd) (nI (B.go hd)) (nI (B.at hd)) (a_fate B hd) (nd hd) (a_r B hd)))) (k' := 51) (F' := 5) (N' := 119) (C' := 0) (S' := 0) (vs := [.ref (q hd + 23)]) (st := []) rfl rfl rfl rfl (Nat.le_of_ble_eq_true rfl) (Nat.le_of_ble_eq_true rfl) (by decide) (by decide) (Nat.zero_le _) (Nat.zero_le _) (fun Q' h => r_bookAnew_some (a0 := B.at hd) (T0 := B.T) (g := B.go hd) (a := B.nd hd (a_s B hd)) hb4.2.1 hx.2.2.1 hnow (hc.1 _ hhB).2.1 (hc.1 _ hhB).2.2.1 hb4.1 hn8 (hnd _ (by show a_s B _ < 65; omega)) (e := a_e B _) (N := a_r B _) hw2.2 hN h) ?_
        refine Sp.if rfl (fun u3 => ?_) (fun u3 => absurd (show ¬ (1 : Int32) = 0 by decide) u3)
        refine Sp.go 2 (g := (32, [(6, .int (nI hd + 1)), (7, .ref (q hd + 23)), (5, .int (nI c)), (3, .long (m)), (0, .ref 0), (1, .int (v1)), (2, .int (v2))], [])) rfl ?_
        refine Sp.lsub [0, 2, 3, 4, 5, 6] (ls' := [(6, .int (nI hd + 1)), (5, .int (nI c)), (3, .long (m)), (0, .ref 0), (1, .int (v1)), (2, .int (v2))]) rfl ?_
        rw [show nI hd + 1 = nI (hd + 1) from (nI_succ hd).symm]
        have k1 := hj.giveW hoB hhB hee.1 hee.2 hx.2.2.2.1 hx.2.2.2.2 r2 hr0 hwy
        refine ih (hd + 1) c (r_giveW (w_sought w (B.nd hd (a_s B hd)) (a_s B hd) (a_e B hd) (B.go hd)) (q hd) (a_s B hd) (a_e B hd) (nI (B.go hd)) (nI (B.at hd)) (a_fate B hd) (nd hd) (a_r B hd)) (by omega) (by simp only [a_lost]; rw [hB, if_neg (fun z => he9 z.2)]; exact hc0) (by simp only [a_news]; rw [if_pos htc, hB]; unfold a_anew; rw [if_neg he9]; exact ⟨_, _, k1⟩) (fun w2 k1 k2 => kk w2 k1 (sM.trans (w1 := (r_giveW (w_sought w (B.nd hd (a_s B hd)) (a_s B hd) (a_e B hd) (B.go hd)) (q hd) (a_s B hd) (a_e B hd) (nI (B.go hd)) (nI (B.at hd)) (a_fate B hd) (nd hd) (a_r B hd))) ⟨rfl, rfl, rfl, rfl, rfl, rfl, rfl, rfl, rfl, rfl, rfl, rfl, rfl, rfl, rfl⟩ k2))
theorem a_mid.start {A : aS} (hi : a_inv A) (ho : a_ok A) {a b : Nat} (hab : a ≠ b) (hu : ∀ t x y, t < 64 → x ≠ y → a_used (A.cut1 a b) t x y ≤ 1) : a_mid (A.cut1 a b) (a_tch A a b) 0 := by
  refine ⟨(hi.contact (a := a) (b := b) (s := A.T) (e := 64) (v := false) hab).1, hu, hi.2.2.1, fun j hj => ?_⟩
  have hj : j < A.P := hj
  have hone := hi.2.2.2 j hj
  cases ht : a_tch A a b j with
  | true =>
    left
    obtain ⟨t1, t2⟩ := a_tch_T ho ht
    have hla := a_cut1_la hj ht
    have el : (A.cut1 a b).la j = a_cutla A j := by
      show (if j < A.P ∧ a_tch A a b j = true then a_cutla A j else A.la j) = _
      rw [if_pos ⟨hj, ht⟩]
    have es : a_s (A.cut1 a b) j = max (A.at j) A.T := rfl
    rcases hone with ⟨_, q2, q3, q4⟩ | q | q | q
    · refine ⟨rfl, by omega, t2, t1, hla, ?_, fun i g1 g2 => q4 i g1 ?_⟩
      · rw [el, es]
        show a_cutla A j = max (A.at j) A.T ∨ A.at j = max (A.at j) A.T
        unfold a_cutla; split
        · right; omega
        · left; omega
      · have g2 : i ≤ max (A.at j) A.T := g2
        omega
    · omega
    · omega
    · omega
  | false =>
    right
    refine ⟨Or.inl rfl, ?_⟩
    have el : (A.cut1 a b).la j = A.la j := by
      show (if j < A.P ∧ a_tch A a b j = true then a_cutla A j else A.la j) = _
      rw [if_neg (fun z => by rw [ht] at z; exact absurd z.2 (by decide))]
    rw [el]
    exact hone
theorem a_cut_ok {A : aS} (ho : a_ok A) (a b : Nat) : a_ok (A.cut a b) := a_news_ok (a_cut1_ok ho a b) A.P (Nat.le_refl _)
theorem r_cut_ok {X : mX} {C S : Nat} {Q : Outcome → mM → Prop} {w : mWd} {A : aS} (ho : a_ok A) (hi : a_inv A) (hjc : JC w A) {a b : Nat} (ha : a < 8) (hb : b < 8) (hab : a ≠ b) (hp : n_pair (w.f 2) (nI a) (nI b) = true) (hq : ∀ w', JC w' (A.cut a b) → a_inv (A.cut a b) → sM w w' → Q (.returned (some (.int (nI (a_cutn A a b))))) (mw w')) : Sp X 33 7 142 C S (0, [(0, .ref 0), (1, .int (nI a)), (2, .int (nI b))], []) (mw w) Q := by
  obtain ⟨q, nd, hj⟩ := hjc
  have hT := ho.1
  have hnow : w.f 4 = nI A.T := hj.2.1.2
  have hj2 := hj.close ha hb hab hT
  refine Sp.go 3 (g := (3, [(0, .ref 0), (1, .int (nI a)), (2, .int (nI b))], [.int (nI b), .int (nI a), .ref 0])) rfl ?_
  refine Sp.vr none (mw (w)) (k' := 46) (F' := 6) (N' := 82) (C' := 0) (S' := 0) (vs := [.int (nI a), .int (nI b)]) (st := []) rfl rfl rfl rfl (Nat.le_of_ble_eq_true rfl) (Nat.le_of_ble_eq_true rfl) (by decide) (by decide) (Nat.zero_le _) (Nat.zero_le _) (fun Q' h => r_checkPair_ok hp h) ?_
  refine Sp.go 1 (g := (7, [(0, .ref 0), (1, .int (nI a)), (2, .int (nI b))], [.ref 0])) rfl ?_
  refine Sp.get (v := .ref 1) rfl rfl rfl ?_
  refine Sp.go 3 (g := (13, [(0, .ref 0), (1, .int (nI a)), (2, .int (nI b))], [.ref 0, .int (nI b), .int (nI a), .ref 1])) rfl ?_
  refine Sp.get (v := .int (nI (A.T))) rfl rfl (by rw [← hnow]; rfl) ?_
  refine Sp.vr none (mw (w.sa 3 (n_cl a b A.T (64 - A.T) (w.a 3)))) (k' := 7) (F' := 1) (N' := 21) (C' := 0) (S' := 0) (vs := [.int (nI a), .int (nI b), .int (nI (A.T))]) (st := []) rfl rfl rfl rfl (Nat.le_of_ble_eq_true rfl) (Nat.le_of_ble_eq_true rfl) (by decide) (by decide) (Nat.zero_le _) (Nat.zero_le _) (fun Q' h => n_closeFrom ha hb (by omega) h) ?_
  refine Sp.go 3 (g := (22, [(0, .ref 0), (1, .int (nI a)), (2, .int (nI b))], [.int (nI b), .int (nI a), .ref 0])) rfl ?_
  refine Sp.callV (Qc := fun o M' => ∃ (w1 : mWd) (m1 : Int64), (JCq w1 (A.cut1 a b) q nd) ∧ ((∀ t x y, t < 64 → x ≠ y → a_used (A.cut1 a b) t x y ≤ 1)) ∧ (sM (w.sa 3 (n_cl a b A.T (64 - A.T) (w.a 3))) w1) ∧ (∀ j, j < 64 → lb m1 j = (decide (j < A.P) && a_tch A a b j)) ∧ o = .returned (some (.long (m1))) ∧ M' = mw (w1)) (k' := 50) (F' := 3) (N' := 68) (C' := 0) (S' := 0) (vs := [.int (nI a), .int (nI b)]) (st := []) rfl rfl rfl rfl (Nat.le_of_ble_eq_true rfl) (Nat.le_of_ble_eq_true rfl) (by decide) (by decide) (Nat.zero_le _) (Nat.zero_le _) (r_cutOffTouched (A := (A.opn a b A.T 64 false)) (tc := a_tch A a b) (a := a) (b := b) ha hb (ho.opn a b A.T 64 false) (fun j hj9 => hi.2.2.2 j hj9) (fun j _ => rfl) (q := q) (nd := nd) (w := w.sa 3 (n_cl a b A.T (64 - A.T) (w.a 3))) hj2 hi.2.1 (fun w1 m1 g1 g2 g3 g4 => ⟨w1, m1, g1, g2, g3, g4, rfl, rfl⟩)) (fun v M' h => ?_) (fun q M' h => by obtain ⟨_, _, _, _, _, _, h, _⟩ := h; cases h)
  obtain ⟨w1, m1, g1, g2, g3, g4, h, rfl⟩ := h
  cases h
  refine Sp.go 5 (g := (32, [(6, .int 0), (5, .int 0), (3, .long (m1)), (0, .ref 0), (1, .int (nI a)), (2, .int (nI b))], [])) rfl ?_
  have hmid := a_mid.start hi ho hab g2
  exact r_cutloop (A := A.cut1 a b) (tc := a_tch A a b) (a_cut1_ok ho a b) hmid g4 A.P 0 0 w1 (by show 0 + A.P = A.P; omega) rfl ⟨q, nd, g1⟩ (fun w2 k1 k2 => hq w2 k1 (by have k := (hmid.news (a_cut1_ok ho a b) A.P (Nat.le_refl _)); refine a_mid.inv (tc := a_tch A a b) ?_; rw [show (A.cut a b).P = A.P from (a_news_same (A.cut1 a b) (a_tch A a b) A.P).2.2.1]; exact k) (sM.trans g3 k2))
theorem r_cut_b0 {X : mX} {C S : Nat} {Q : Outcome → mM → Prop} {w : mWd} {x y : Int32} (hp : n_pair (w.f 2) x y = false) (hC : 1 ≤ C) (hS : 6 ≤ S) (hx : 23 ≤ w.nx) (hq : Q (.threw 0) (mw (w.mk none 6))) : Sp X 33 7 142 C S (0, [(0, .ref 0), (1, .int (x)), (2, .int (y))], []) (mw w) Q := by
  refine Sp.go 3 (g := (3, [(0, .ref 0), (1, .int (x)), (2, .int (y))], [.int (y), .int (x), .ref 0])) rfl ?_
  refine Sp.vt 0 (mw (w.mk none 6)) (k' := 46) (F' := 6) (N' := 82) (C' := 1) (S' := 6) (vs := [.int (x), .int (y)]) (st := []) rfl rfl rfl rfl (Nat.le_of_ble_eq_true rfl) (Nat.le_of_ble_eq_true rfl) (by decide) (by decide) hC hS (by decide) (fun Q' h => r_checkPair_bad hp (Nat.le_refl _) (Nat.le_refl _) hx h) (Or.inl ⟨rfl, ?_⟩)
  exact hq
