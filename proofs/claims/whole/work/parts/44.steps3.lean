/-! One call on each side, against one mathematical step: whatIf, book. -/
theorem a_lacks_cases {A : aS} (ho : a_ok A) (x y z : Int32) : (a_lacks A x y z = 1 ∧ (a_pair A x y = false ∨ z < nI A.T ∨ ¬ z < 64)) ∨ (a_lacks A x y z = 2 ∧ a_pair A x y = true ∧ ¬ z < nI A.T ∧ z < 64 ∧ A.P = 32) ∨ ∃ a g s, a < 8 ∧ g < 8 ∧ a ≠ g ∧ A.T ≤ s ∧ s < 64 ∧ A.P < 32 ∧ x = nI a ∧ y = nI g ∧ z = nI s ∧ a_pair A x y = true ∧ a_lacks A x y z = 0 := by
  have hT := ho.1
  have h32 := ho.2.2.1
  by_cases h : a_pair A x y = false ∨ z < nI A.T ∨ ¬ z < 64
  · left; exact ⟨if_pos h, h⟩
  · right
    have h1 : a_pair A x y = true := by
      cases hb : a_pair A x y with
      | true => rfl
      | false => exact absurd (Or.inl hb) h
    have h2 : ¬ z < nI A.T := fun q => h (Or.inr (Or.inl q))
    have h3 : z < 64 := Classical.not_not.mp (fun q => h (Or.inr (Or.inr q)))
    have e : a_lacks A x y z = if A.P = 32 then 2 else 0 := if_neg h
    by_cases c : A.P = 32
    · left; exact ⟨by rw [e, if_pos c], h1, h2, h3, c⟩
    · right
      have z0 := i_pos_of (by omega) h2
      obtain ⟨a, g, ha, hg, hag, rfl, rfl, _, _⟩ := a_pair_spec h1
      have hz := m_nat z0
      have hl := i_lt31 (x := z)
      generalize z.toNatClampNeg = s at hz hl
      subst hz
      rw [nI_lt' hl (by omega)] at h2
      have h3 : nI s < nI 64 := h3
      rw [nI_lt' hl (by omega)] at h3
      exact ⟨a, g, s, ha, hg, hag, by omega, h3, by omega, rfl, rfl, rfl, h1, by rw [e, if_neg c]⟩
def a_gE (A : aS) (a g s : Nat) : Nat := g_E (a_fr A) g (64 - s) a
def sWhat (A : aS) (x y z : Int32) : Int32 × Int32 × aS := (a_lacks A x y z, g_ans (a_gE A x.toNatClampNeg y.toNatClampNeg z.toNatClampNeg), A)
def sBook (A : aS) (x y z : Int32) : Int32 × Int32 × aS := if a_lacks A x y z = 0 then (if a_gE A x.toNatClampNeg y.toNatClampNeg z.toNatClampNeg = 99 then (0, -1, A) else (0, nI A.P, A.book y.toNatClampNeg z.toNatClampNeg (a_gE A x.toNatClampNeg y.toNatClampNeg z.toNatClampNeg) (g_row (a_fr A) y.toNatClampNeg (a_gE A x.toNatClampNeg y.toNatClampNeg z.toNatClampNeg) (A.nd A.P) x.toNatClampNeg z.toNatClampNeg (a_gE A x.toNatClampNeg y.toNatClampNeg z.toNatClampNeg - z.toNatClampNeg)))) else (a_lacks A x y z, 0, A)
theorem a_gE_at {A : aS} {a g s : Nat} (hs : s < 64) : a_gE A a g s = 99 ∨ (s ≤ a_gE A a g s ∧ a_gE A a g s ≤ 64) := by
  rcases g_E_at (a_fr A) g (64 - s) a (by omega) with q | ⟨q1, q2, _⟩
  · exact Or.inl q
  · right
    have q1 : 64 - (64 - s) ≤ a_gE A a g s := q1
    exact ⟨by omega, q2⟩
theorem c_whatIf {X : mX} {C S : Nat} {w : mWd} {A : aS} (ho : a_ok A) (hi : a_inv A) (hjc : JC w A) (hC : 1 ≤ C) (hS : 6 ≤ S) (x y z : Int32) : Sp X 31 8 127 C S (0, [(0, .ref 0), (1, .int x), (2, .int y), (3, .int z)], []) (mw w) (s_Qc w A (a_lacks A x y z) (sWhat A x y z).2.1 0 1) := by
  have hx := hjc.nx
  have hp := hjc
  obtain ⟨q, nd, hj⟩ := hp
  have h32 := ho.2.2.1
  have hT := ho.1
  rcases a_lacks_cases ho x y z with ⟨e, h⟩ | ⟨e, h1, h2, h3, h4⟩ | ⟨a, g, s, ha, hg, hag, hTs, hs, hP, rfl, rfl, rfl, hpr, e⟩
  · rw [e]
    cases hb : a_pair A x y with
    | false => exact r_whatIf_b0 (by rw [n_pair_is hj]; exact hb) hC hS hx (s_thr1 hjc)
    | true => exact r_whatIf_b1 (by rw [n_pair_is hj]; exact hb) (by rw [hj.2.1.2]; exact (h.resolve_left (by rw [hb]; decide)).imp id (fun z => i_nlt z)) hC hS hx (s_thr1 hjc)
  · rw [e]
    exact r_whatIf_b2 (by rw [n_pair_is hj]; exact h1) (by rw [hj.2.1.2]; exact h2) h3 (by rw [hj.2.1.1, h4]; decide) hC hS hx (s_thr2 hjc)
  · rw [e]
    have n1 : ¬ nI s < w.f 4 := by rw [hj.2.1.2, nI_lt' (by omega) (by omega)]; omega
    have n2 : nI s < 64 := (nI_lt' (b := 64) (by omega) (by omega)).mpr hs
    have n3 : w.f 3 < 32 := by rw [hj.2.1.1]; exact (nI_lt' (b := 32) (by omega) (by omega)).mpr hP
    have hw := hj.wend ho hi.1 ha hg hs hag
    have ev : (sWhat A (nI a) (nI g) (nI s)).2.1 = g_ans (a_gE A a g s) := by
      show g_ans (a_gE A (nI a).toNatClampNeg (nI g).toNatClampNeg (nI s).toNatClampNeg) = _
      rw [nI_clamp (by omega), nI_clamp (by omega), nI_clamp (by omega)]
    rw [ev]
    by_cases c : a_gE A a g s = 99
    · rw [c]
      exact r_whatIf_none ha hg hs (by rw [n_pair_is hj]; exact hpr) n1 n2 n3 (hw.1 c) (s_ret hjc (sM.refl w))
    · have hee := (a_gE_at (A := A) (a := a) (g := g) hs).resolve_left c
      rw [show g_ans (a_gE A a g s) = nI (a_gE A a g s) from if_neg c]
      exact r_whatIf_some ha hg hs (by rw [n_pair_is hj]; exact hpr) n1 n2 n3 (hw.2 _ rfl hee.2).2 (s_ret ⟨q, nd, hj⟩ ⟨rfl, rfl, rfl, rfl, rfl, rfl, rfl, rfl, rfl, rfl, rfl, rfl, rfl, rfl, rfl⟩)
theorem m_whatIf {X : mX} {C S : Nat} {w : mWd} {A : aS} (ho : a_ok A) (hjr : JR w A) (x y z : Int32) : Sp X 70 5 123 C S (0, [(0, .ref 10), (1, .int x), (2, .int y), (3, .int z)], []) (mw w) (s_Qm w A (a_lacks A x y z) (sWhat A x y z).2.1) := by
  rcases a_lacks_cases ho x y z with ⟨e, h⟩ | ⟨e, h1, h2, h3, h4⟩ | ⟨a, g, s, ha, hg, hag, hTs, hs, hP, rfl, rfl, rfl, hpr, e⟩
  · exact d_whatIf_b ho hjr.1 (by rw [e]; decide) (s_m hjr (sC.s5 _) rfl (fun z => absurd (e.symm.trans z) i64_0))
  · exact d_whatIf_b ho hjr.1 (by rw [e]; decide) (s_m hjr (sC.s5 _) rfl (fun z => absurd (e.symm.trans z) i2_0))
  · rw [e]
    refine d_whatIf_ok ho hjr.1 ha hg hs e (fun E hE => s_m hjr ((sC.s5 0).trans (sC.s21 E)) rfl (fun _ => ?_))
    show _ = g_ans (a_gE A (nI a).toNatClampNeg (nI g).toNatClampNeg (nI s).toNatClampNeg)
    rw [nI_clamp (by omega), nI_clamp (by omega), nI_clamp (by omega)]
    rfl
/-! book -/
theorem sBook_cases {A : aS} (ho : a_ok A) (x y z : Int32) : (a_lacks A x y z = 1 ∧ (a_pair A x y = false ∨ z < nI A.T ∨ ¬ z < 64) ∧ sBook A x y z = (1, 0, A)) ∨ (a_lacks A x y z = 2 ∧ a_pair A x y = true ∧ ¬ z < nI A.T ∧ z < 64 ∧ A.P = 32 ∧ sBook A x y z = (2, 0, A)) ∨ ∃ a g s, a < 8 ∧ g < 8 ∧ a ≠ g ∧ A.T ≤ s ∧ s < 64 ∧ A.P < 32 ∧ x = nI a ∧ y = nI g ∧ z = nI s ∧ a_pair A x y = true ∧ a_lacks A x y z = 0 ∧ ((a_gE A a g s = 99 ∧ sBook A x y z = (0, -1, A)) ∨ (a_gE A a g s ≠ 99 ∧ sBook A x y z = (0, nI A.P, A.book g s (a_gE A a g s) (g_row (a_fr A) g (a_gE A a g s) (A.nd A.P) a s (a_gE A a g s - s))))) := by
  rcases a_lacks_cases ho x y z with ⟨e, h⟩ | ⟨e, h1, h2, h3, h4⟩ | ⟨a, g, s, ha, hg, hag, hTs, hs, hP, rfl, rfl, rfl, hpr, e⟩
  · left; exact ⟨e, h, by unfold sBook; rw [e, if_neg i64_0]⟩
  · right; left; exact ⟨e, h1, h2, h3, h4, by unfold sBook; rw [e, if_neg i2_0]⟩
  · right; right
    refine ⟨a, g, s, ha, hg, hag, hTs, hs, hP, rfl, rfl, rfl, hpr, e, ?_⟩
    have eq : sBook A (nI a) (nI g) (nI s) = if a_gE A a g s = 99 then (0, -1, A) else (0, nI A.P, A.book g s (a_gE A a g s) (g_row (a_fr A) g (a_gE A a g s) (A.nd A.P) a s (a_gE A a g s - s))) := by
      unfold sBook
      rw [if_pos e, nI_clamp (by omega), nI_clamp (by omega), nI_clamp (by omega)]
    by_cases c : a_gE A a g s = 99
    · left; exact ⟨c, by rw [eq, if_pos c]⟩
    · right; exact ⟨c, by rw [eq, if_neg c]⟩
theorem a_row_W {A : aS} (hi : a_inv A) {a g s : Nat} (ha : a < 8) (hs : s < 64) (c : a_gE A a g s ≠ 99) : g_W (a_fr A) g a s (a_gE A a g s) (g_row (a_fr A) g (a_gE A a g s) (A.nd A.P) a s (a_gE A a g s - s)) ∧ (∀ i, i < 65 → g_row (a_fr A) g (a_gE A a g s) (A.nd A.P) a s (a_gE A a g s - s) i < 8) ∧ ∀ i, i < s ∨ a_gE A a g s < i → g_row (a_fr A) g (a_gE A a g s) (A.nd A.P) a s (a_gE A a g s - s) i = A.nd A.P i := by
  have hee := (a_gE_at (A := A) (a := a) (g := g) hs).resolve_left c
  exact g_row_W hee.1 hee.2 ha (fun i _ => by rw [hi.2.2.1 A.P (Nat.le_refl _) i]; omega) rfl
theorem c_book {X : mX} {C S : Nat} {w : mWd} {A : aS} (ho : a_ok A) (hi : a_inv A) (hjc : JC w A) (hC : 2 ≤ C) (hS : 70 ≤ S) (x y z : Int32) : Sp X 30 8 127 C S (0, [(0, .ref 0), (1, .int x), (2, .int y), (3, .int z)], []) (mw w) (s_Qc w (sBook A x y z).2.2 (sBook A x y z).1 (sBook A x y z).2.1 0 1) := by
  have hx := hjc.nx
  have hp := hjc
  obtain ⟨q, nd, hj⟩ := hp
  have h32 := ho.2.2.1
  have hT := ho.1
  rcases sBook_cases ho x y z with ⟨_, h, e⟩ | ⟨_, h1, h2, h3, h4, e⟩ | ⟨a, g, s, ha, hg, hag, hTs, hs, hP, rfl, rfl, rfl, hpr, _, hh⟩
  · rw [e]
    cases hb : a_pair A x y with
    | false => exact r_book_b0 (by rw [n_pair_is hj]; exact hb) (by omega) (by omega) hx (s_thr1 hjc)
    | true => exact r_book_b1 (by rw [n_pair_is hj]; exact hb) (by rw [hj.2.1.2]; exact (h.resolve_left (by rw [hb]; decide)).imp id (fun z => i_nlt z)) (by omega) (by omega) hx (s_thr1 hjc)
  · rw [e]
    exact r_book_b2 (by rw [n_pair_is hj]; exact h1) (by rw [hj.2.1.2]; exact h2) h3 (by rw [hj.2.1.1, h4]; decide) (by omega) (by omega) hx (s_thr2 hjc)
  · have n1 : ¬ nI s < w.f 4 := by rw [hj.2.1.2, nI_lt' (by omega) (by omega)]; omega
    have n2 : nI s < 64 := (nI_lt' (b := 64) (by omega) (by omega)).mpr hs
    have n3 : w.f 3 < 32 := by rw [hj.2.1.1]; exact (nI_lt' (b := 32) (by omega) (by omega)).mpr hP
    have hw := hj.wend ho hi.1 ha hg hs hag
    rcases hh with ⟨c, e⟩ | ⟨c, e⟩
    · rw [e]
      exact r_book_none ha hg hs (by rw [n_pair_is hj]; exact hpr) n1 n2 n3 (hw.1 c) (s_ret hjc (sM.refl w))
    · rw [e]
      have hee := (a_gE_at (A := A) (a := a) (g := g) hs).resolve_left c
      obtain ⟨r1, r2, r3⟩ := a_row_W (g := g) hi ha hs c
      have hwy := w_way_is (w := w) (hj.on ho hi.1) ha hg hee.1 hee.2 rfl r1
      refine r_book_some (n := w.nx - 23) (N := g_row (a_fr A) g (a_gE A a g s) (A.nd A.P) a s (a_gE A a g s - s)) ha hg hs (by rw [n_pair_is hj]; exact hpr) n1 n2 hj.2.1.1 hP (by omega) hC hS (hw.2 _ rfl hee.2).2 (fun i q1 q2 => ⟨?_, r2 i (by have := hee.2; have : i ≤ a_gE A a g s := q2; omega)⟩) ?_
      · show w_way w a s (a_gE A a g s) g i = _
        rw [hwy i, if_pos ⟨q1, q2⟩]
      · have k := hj.bookW (n := w.nx - 23) (by omega) hee.1 hee.2 r2 (fun i h => by rw [r3 i h]; exact hi.2.2.1 A.P (Nat.le_refl _) i) hwy
        exact s_ret ⟨_, _, k⟩ ⟨rfl, rfl, rfl, rfl, rfl, rfl, rfl, rfl, rfl, rfl, rfl, rfl, rfl, rfl, rfl⟩
theorem m_book {X : mX} {C S : Nat} {w : mWd} {A : aS} (ho : a_ok A) (hi : a_inv A) (hjr : JR w A) (x y z : Int32) : Sp X 69 5 123 C S (0, [(0, .ref 10), (1, .int x), (2, .int y), (3, .int z)], []) (mw w) (s_Qm w (sBook A x y z).2.2 (sBook A x y z).1 (sBook A x y z).2.1) := by
  rcases sBook_cases ho x y z with ⟨e1, h, e⟩ | ⟨e1, h1, h2, h3, h4, e⟩ | ⟨a, g, s, ha, hg, hag, hTs, hs, hP, rfl, rfl, rfl, hpr, e1, hh⟩
  · rw [e]
    refine d_book_b ho hjr.1 (by rw [e1]; decide) ?_
    rw [e1]
    exact s_m hjr (sC.s5 1) rfl (fun z => absurd z i64_0)
  · rw [e]
    refine d_book_b ho hjr.1 (by rw [e1]; decide) ?_
    rw [e1]
    exact s_m hjr (sC.s5 2) rfl (fun z => absurd z i2_0)
  · rcases hh with ⟨c, e⟩ | ⟨c, e⟩
    · rw [e]
      exact d_book_none ho hjr.1 ha hg hs e1 c (fun E => s_m hjr ((sC.s5 0).trans (sC.s21 E)) rfl (fun _ => rfl))
    · rw [e]
      have hee := (a_gE_at (A := A) (a := a) (g := g) hs).resolve_left c
      refine d_book_ok ho hjr ha hg hs e1 hP (fun i _ => by rw [hi.2.2.1 A.P (Nat.le_refl _) i]; omega) rfl hee.2 hee.1 (fun E r q1 q2 q3 => ?_)
      have er : r = g_row (a_fr A) g (a_gE A a g s) (A.nd A.P) a s (a_gE A a g s - s) := g_row_eq hee.1 q2 q3
      rw [er] at q3 ⊢
      exact s_m (hjr.book q3.1) ⟨rfl, rfl, rfl, rfl, rfl, rfl, rfl, rfl, rfl, rfl, rfl, rfl, rfl, rfl, rfl, rfl⟩ rfl (fun _ => rfl)
theorem sBook_ok {A : aS} (ho : a_ok A) (hi : a_inv A) (x y z : Int32) : a_ok (sBook A x y z).2.2 ∧ a_inv (sBook A x y z).2.2 := by
  rcases sBook_cases ho x y z with ⟨_, h, e⟩ | ⟨_, h1, h2, h3, h4, e⟩ | ⟨a, g, s, ha, hg, hag, hTs, hs, hP, rfl, rfl, rfl, hpr, _, ⟨c, e⟩ | ⟨c, e⟩⟩
  · rw [e]; exact ⟨ho, hi⟩
  · rw [e]; exact ⟨ho, hi⟩
  · rw [e]; exact ⟨ho, hi⟩
  · rw [e]
    have hee := (a_gE_at (A := A) (a := a) (g := g) hs).resolve_left c
    obtain ⟨r1, r2, r3⟩ := a_row_W (g := g) hi ha hs c
    have hlt : s < a_gE A a g s := by
      rcases Nat.lt_or_ge s (a_gE A a g s) with q | q
      · exact q
      · exfalso
        have es : a_gE A a g s = s := by omega
        have k := g_soon (a_fr A) a s g s ha hg (by omega) es (by omega)
        rw [Nat.sub_self] at k
        exact hag k.2.1.symm
    exact ⟨ho.book hP hg hs hee.2 r2, hi.book ho hTs hlt hee.2 rfl r1⟩
