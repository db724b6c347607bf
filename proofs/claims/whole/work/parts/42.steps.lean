/-! One call on each side, against one mathematical step: node, contact, tick, cancel, cut. -/
theorem i2_0 : ¬ (2 : Int32) = 0 := by decide
theorem i1_2 : (1 : Int32) ≠ 2 := by decide
theorem i0_2 : (0 : Int32) ≠ 2 := by decide
theorem i87 {x : Int32} : (8 : Int32) ≤ x ↔ (7 : Int32) < x := by
  rw [Int32.le_iff_toInt_le, Int32.lt_iff_toInt_lt]
  have e1 : (8 : Int32).toInt = 8 := by decide
  have e2 : (7 : Int32).toInt = 7 := by decide
  omega
theorem i_lt31 {x : Int32} : x.toNatClampNeg < 2 ^ 31 := by
  have := Int32.toInt_lt x
  show x.toInt.toNat < 2 ^ 31
  omega
theorem i_nat {x : Int32} {m : Nat} (hm : m < 2 ^ 31) (h0 : ¬ x < 0) (h : x ≤ nI m) : ∃ n, n ≤ m ∧ x = nI n := by
  refine ⟨x.toNatClampNeg, ?_, m_nat h0⟩
  rw [m_nat h0] at h
  exact (nI_le' i_lt31 hm).mp h
theorem n_is_is {w : mWd} {A : aS} {q : Nat → Nat} {nd : Nat → Nat → Int32} (hj : JCq w A q nd) (x : Int32) : n_is (w.f 2) x = a_isn A x := by
  unfold n_is a_isn
  by_cases h0 : x < 0
  · simp [h0]
  · by_cases h8 : x < 8
    · rw [hj.1.2.2.1 _ (n_is_lt h0 (k2_nle h8))]
    · simp [h8]
theorem n_pair_is {w : mWd} {A : aS} {q : Nat → Nat} {nd : Nat → Nat → Int32} (hj : JCq w A q nd) (x y : Int32) : n_pair (w.f 2) x y = a_pair A x y := by
  unfold n_pair a_pair
  rw [n_is_is hj, n_is_is hj]
theorem s_thr1 {w : mWd} {A : aS} {v : Int32} {e1 e2 : Nat} (h : JC w A) : s_Qc w A 1 v e1 e2 (.threw e1) (mw (w.mk none 6)) := by
  obtain ⟨q, nd, h⟩ := h
  exact ⟨_, rfl, ⟨q, nd, h.mk 6⟩, ⟨rfl, rfl, rfl, rfl, rfl, rfl, rfl, rfl, rfl, rfl, rfl, rfl, rfl, rfl, rfl⟩, Or.inr (Or.inl ⟨rfl, rfl⟩)⟩
theorem s_thr2 {w : mWd} {A : aS} {v : Int32} {e1 e2 : Nat} (h : JC w A) : s_Qc w A 2 v e1 e2 (.threw e2) (mw (w.mk none 6)) := by
  obtain ⟨q, nd, h⟩ := h
  exact ⟨_, rfl, ⟨q, nd, h.mk 6⟩, ⟨rfl, rfl, rfl, rfl, rfl, rfl, rfl, rfl, rfl, rfl, rfl, rfl, rfl, rfl, rfl⟩, Or.inr (Or.inr ⟨rfl, rfl⟩)⟩
theorem s_ret {w w' : mWd} {A : aS} {v : Int32} {e1 e2 : Nat} (h : JC w' A) (hs : sM w w') : s_Qc w A 0 v e1 e2 (.returned (some (.int v))) (mw w') := ⟨_, rfl, h, hs, Or.inl ⟨rfl, rfl⟩⟩
theorem JC.nx {w : mWd} {A : aS} (h : JC w A) : 23 ≤ w.nx := by
  obtain ⟨q, nd, h⟩ := h
  exact h.2.2.2.2.1
/-! node -/
def sNode (A : aS) (x y : Int32) : Int32 × Int32 × aS := if x < 0 ∨ (8 : Int32) ≤ x ∨ y < 0 ∨ (4 : Int32) < y then (1, 0, A) else if (A.pl x.toNatClampNeg).isSome = true ∨ 0 < A.nc then (2, 0, A) else (0, nI (a_many (A.node x.toNatClampNeg y.toNatClampNeg)), A.node x.toNatClampNeg y.toNatClampNeg)
theorem sNode_cases (A : aS) (x y : Int32) : ((x < 0 ∨ (8 : Int32) ≤ x ∨ y < 0 ∨ (4 : Int32) < y) ∧ sNode A x y = (1, 0, A)) ∨ ∃ n c, n < 8 ∧ c ≤ 4 ∧ x = nI n ∧ y = nI c ∧ ((((A.pl n).isSome = true ∨ 0 < A.nc) ∧ sNode A x y = (2, 0, A)) ∨ ((A.pl n).isSome = false ∧ A.nc = 0 ∧ sNode A x y = (0, nI (a_many (A.node n c)), A.node n c))) := by
  by_cases h : x < 0 ∨ (8 : Int32) ≤ x ∨ y < 0 ∨ (4 : Int32) < y
  · left; exact ⟨h, if_pos h⟩
  · right
    have h1 : ¬ x < 0 := fun z => h (Or.inl z)
    have h2 : ¬ (8 : Int32) ≤ x := fun z => h (Or.inr (Or.inl z))
    have h3 : ¬ y < 0 := fun z => h (Or.inr (Or.inr (Or.inl z)))
    have h4 : ¬ (4 : Int32) < y := fun z => h (Or.inr (Or.inr (Or.inr z)))
    obtain ⟨c, hc, rfl⟩ := i_nat (m := 4) (by omega) h3 (i_nlt h4)
    have hx := m_nat h1
    have hn := n_is_lt h1 h2
    have e : sNode A x (nI c) = if (A.pl x.toNatClampNeg).isSome = true ∨ 0 < A.nc then (2, 0, A) else (0, nI (a_many (A.node x.toNatClampNeg (nI c).toNatClampNeg)), A.node x.toNatClampNeg (nI c).toNatClampNeg) := if_neg h
    generalize x.toNatClampNeg = n at hx hn e
    rw [nI_clamp (by omega)] at e
    refine ⟨n, c, hn, hc, hx, rfl, ?_⟩
    by_cases g : (A.pl n).isSome = true ∨ 0 < A.nc
    · left; exact ⟨g, by rw [e, if_pos g]⟩
    · right
      refine ⟨?_, by omega, by rw [e, if_neg g]⟩
      cases hb : (A.pl n).isSome with
      | false => rfl
      | true => exact absurd (Or.inl hb) g
theorem c_node {X : mX} {C S : Nat} {w : mWd} {A : aS} (ho : a_ok A) (hjc : JC w A) (hC : 1 ≤ C) (hS : 6 ≤ S) (x y : Int32) : Sp X 27 6 82 C S (0, [(0, .ref 0), (1, .int x), (2, .int y)], []) (mw w) (s_Qc w (sNode A x y).2.2 (sNode A x y).1 (sNode A x y).2.1 0 1) := by
  have hx := hjc.nx
  rcases sNode_cases A x y with ⟨h, e⟩ | ⟨n, c, hn, hc, rfl, rfl, ⟨h, e⟩ | ⟨h1, h2, e⟩⟩
  · rw [e]
    by_cases h1 : x < 0 ∨ (8 : Int32) ≤ x
    · exact r_node_b0 h1 hC hS hx (s_thr1 hjc)
    · have g1 : ¬ x < 0 := fun z => h1 (Or.inl z)
      have g2 : ¬ (8 : Int32) ≤ x := fun z => h1 (Or.inr z)
      have hlt := n_is_lt g1 g2
      have hxe := m_nat g1
      generalize x.toNatClampNeg = n at hxe hlt
      subst hxe
      exact r_node_b1 hlt (h.elim (fun z => absurd z g1) (fun z => z.elim (fun z => absurd z g2) id)) hC hS hx (s_thr1 hjc)
  · rw [e]
    obtain ⟨q, nd, hj⟩ := hjc
    have y0 : ¬ nI c < 0 := nI_pos (by omega)
    have y4 : nI c ≤ 4 := (nI_le' (b := 4) (by omega) (by omega)).mpr hc
    have hnc := ho.2.1
    cases hb : (A.pl n).isSome with
    | true => exact r_node_b2 hn y0 y4 (by rw [hj.1.2.2.1 n hn]; exact hb) hC hS hx (s_thr2 ⟨q, nd, hj⟩)
    | false =>
      refine r_node_b3 hn y0 y4 (by rw [hj.1.2.2.1 n hn]; exact hb) ?_ hC hS hx (s_thr2 ⟨q, nd, hj⟩)
      rw [hj.1.2.1]
      exact (nI_lt' (a := 0) (by omega) (by omega)).mpr (h.elim (fun z => by rw [hb] at z; cases z) id)
  · rw [e]
    obtain ⟨q, nd, hj⟩ := hjc
    have y0 : ¬ nI c < 0 := nI_pos (by omega)
    have y4 : nI c ≤ 4 := (nI_le' (b := 4) (by omega) (by omega)).mpr hc
    obtain ⟨k1, k2⟩ := hj.node hn h1 (c := c)
    refine r_node_ok hn y0 y4 (by rw [hj.1.2.2.1 n hn]; exact h1) (by rw [hj.1.2.1, h2]; decide) ?_
    rw [k2]
    exact s_ret ⟨q, nd, k1⟩ ⟨rfl, rfl, rfl, rfl, rfl, rfl, rfl, rfl, rfl, rfl, rfl, rfl, rfl, rfl, rfl⟩
theorem s_m {w w' : mWd} {A' : aS} {k v v' : Int32} (h1 : JR w' A') (h2 : sC w w') (h3 : w'.f 5 = k) (h4 : k = 0 → v' = v) : s_Qm w A' k v (.returned (some (.int v'))) (mw w') := ⟨w', v', rfl, rfl, h1, h2, h3, h4⟩
theorem m_node {X : mX} {C S : Nat} {w : mWd} {A : aS} (ho : a_ok A) (hjr : JR w A) (x y : Int32) : Sp X 65 0 0 C S (0, [(0, .ref 10), (1, .int x), (2, .int y)], []) (mw w) (s_Qm w (sNode A x y).2.2 (sNode A x y).1 (sNode A x y).2.1) := by
  rcases sNode_cases A x y with ⟨h, e⟩ | ⟨n, c, hn, hc, rfl, rfl, ⟨h, e⟩ | ⟨h1, h2, e⟩⟩
  · rw [e]
    exact d_node_b1 (h.imp id (fun z => z.imp i87.mp id)) (s_m hjr (sC.s5 1) rfl (fun z => absurd z i64_0))
  · rw [e]
    exact d_node_b2 ho hjr.1 hn hc h (s_m hjr (sC.s5 2) rfl (fun z => absurd z i2_0))
  · rw [e]
    exact d_node_ok ho hjr hn hc h1 h2 (s_m (hjr.node n c 0) ⟨rfl, rfl, rfl, rfl, rfl, rfl, rfl, rfl, rfl, rfl, rfl, rfl, rfl, rfl, rfl, rfl⟩ rfl (fun _ => rfl))
theorem sNode_ok {A : aS} (ho : a_ok A) (hi : a_inv A) (x y : Int32) : a_ok (sNode A x y).2.2 ∧ a_inv (sNode A x y).2.2 := by
  rcases sNode_cases A x y with ⟨h, e⟩ | ⟨n, c, hn, hc, rfl, rfl, ⟨h, e⟩ | ⟨h1, h2, e⟩⟩
  · rw [e]; exact ⟨ho, hi⟩
  · rw [e]; exact ⟨ho, hi⟩
  · rw [e]; exact ⟨ho.node hc, hi.node n c⟩
/-! tick -/
def sTick (A : aS) : Int32 × Int32 × aS := if A.T = 64 then (1, 0, A) else (0, nI (g_cnt (fun h => decide (A.fa h = 0 ∧ A.la h = A.T + 1)) A.P), A.tick)
theorem r_cnt_is (p : Nat → Bool) : ∀ d h, r_cnt p h d (nI (g_cnt p h)) = nI (g_cnt p (h + d)) := by
  intro d
  induction d with
  | zero => intro h; rfl
  | succ d ih =>
    intro h
    simp only [r_cnt]
    have e : (if p h = true then nI (g_cnt p h) + 1 else nI (g_cnt p h)) = nI (g_cnt p (h + 1)) := by
      simp only [g_cnt]
      split
      · rw [nI_succ]
      · rfl
    rw [e, ih (h + 1), show h + 1 + d = h + (d + 1) by omega]
theorem r_arr_is {A : aS} {h : Nat} (ho : a_ok A) (hh : h < A.P) (hc : a_one A h) (hT : A.T < 64) : r_arr (fun h => nI (A.at h)) (a_last A) (a_fate A) (nI (A.T + 1)) h = decide (A.fa h = 0 ∧ A.la h = A.T + 1) := by
  have h2 := ho.2.2.2.2 h hh
  unfold r_arr p_state
  rcases hc with ⟨q1, q2, q3, _⟩ | ⟨q1, q2, q3⟩ | q1 | q1
  · have ef : a_fate A h = 0 := if_neg (by omega)
    have el : a_last A h = nI (A.la h) := if_neg (by omega)
    rw [ef, el, if_pos rfl]
    by_cases c : A.la h = A.T + 1
    · rw [if_pos ((nI_le' (by omega) (by omega)).mpr (by omega)), if_pos ((nI_le' (by omega) (by omega)).mpr (by omega)), decide_eq_true (show A.fa h = 0 ∧ A.la h = A.T + 1 from ⟨q1, c⟩), c]
      simp
    · rw [decide_eq_false (show ¬ (A.fa h = 0 ∧ A.la h = A.T + 1) from fun z => c z.2), decide_eq_false (show ¬ nI (A.la h) = nI (A.T + 1) from fun z => c ((nI_inj (by omega) (by omega)).mp z)), Bool.and_false]
  · have el : a_last A h = nI (A.la h) := if_neg (by omega)
    rw [el, decide_eq_false (show ¬ (A.fa h = 0 ∧ A.la h = A.T + 1) by omega), decide_eq_false (show ¬ nI (A.la h) = nI (A.T + 1) from fun z => by have := (nI_inj (by omega) (by omega)).mp z; omega), Bool.and_false]
  · have ef : a_fate A h = 4 := by unfold a_fate; rw [if_pos (Or.inl q1), q1]; rfl
    rw [ef, if_neg (by decide), decide_eq_false (show ¬ (A.fa h = 0 ∧ A.la h = A.T + 1) by omega), decide_eq_false (show ¬ (4 : Int32) = 3 by decide), Bool.false_and]
  · have ef : a_fate A h = 5 := by unfold a_fate; rw [if_pos (Or.inr q1), q1]; rfl
    rw [ef, if_neg (by decide), decide_eq_false (show ¬ (A.fa h = 0 ∧ A.la h = A.T + 1) by omega), decide_eq_false (show ¬ (5 : Int32) = 3 by decide), Bool.false_and]
theorem c_tick {X : mX} {C S : Nat} {w : mWd} {A : aS} (ho : a_ok A) (hi : a_inv A) (hjc : JC w A) (hC : 1 ≤ C) (hS : 6 ≤ S) : Sp X 34 6 82 C S (0, [(0, .ref 0)], []) (mw w) (s_Qc w (sTick A).2.2 (sTick A).1 (sTick A).2.1 1 7) := by
  have hx := hjc.nx
  have hT := ho.1
  unfold sTick
  by_cases h : A.T = 64
  · rw [if_pos h]
    have hn : w.f 4 = nI A.T := by obtain ⟨q, nd, hj⟩ := hjc; exact hj.2.1.2
    exact r_tick_b0 (by rw [hn, h]; decide) hC hS hx (s_thr1 hjc)
  · rw [if_neg h]
    obtain ⟨q, nd, hj⟩ := hjc
    have hn : w.f 4 = nI A.T := hj.2.1.2
    have h32 := ho.2.2.1
    refine r_tick_ok hj.2.1.1 h32 hj.2.2.2.2.2.1 (by rw [hn]; exact (nI_lt' (b := 64) (by omega) (by omega)).mpr (by omega)) ?_
    have e1 : r_cnt (r_arr (fun h => nI (A.at h)) (a_last A) (a_fate A) (nI A.T + 1)) 0 A.P 0 = nI (g_cnt (fun h => decide (A.fa h = 0 ∧ A.la h = A.T + 1)) A.P) := by
      have k := r_cnt_is (r_arr (fun h => nI (A.at h)) (a_last A) (a_fate A) (nI A.T + 1)) A.P 0
      rw [Nat.zero_add] at k
      have k2 : r_cnt (r_arr (fun h => nI (A.at h)) (a_last A) (a_fate A) (nI A.T + 1)) 0 A.P 0 = _ := k
      rw [k2, ← nI_succ]
      congr 1
      exact g_cnt_congr A.P (fun j hj => r_arr_is ho hj (hi.2.2.2 j hj) (by omega))
    rw [hn, e1]
    exact s_ret ⟨q, nd, hj.tick⟩ ⟨rfl, rfl, rfl, rfl, rfl, rfl, rfl, rfl, rfl, rfl, rfl, rfl, rfl, rfl, rfl⟩
theorem m_tick {X : mX} {C S : Nat} {w : mWd} {A : aS} (ho : a_ok A) (hi : a_inv A) (hjr : JR w A) : Sp X 76 0 0 C S (0, [(0, .ref 10)], []) (mw w) (s_Qm w (sTick A).2.2 (sTick A).1 (sTick A).2.1) := by
  have hT := ho.1
  unfold sTick
  by_cases h : A.T = 64
  · rw [if_pos h]
    exact d_tick_b1 ho hjr.1 h (s_m hjr (sC.s5 1) rfl (fun z => absurd z i64_0))
  · rw [if_neg h]
    refine d_tick_ok ho hjr.1 (by omega) hi.f5 (fun R hR => s_m ?_ ⟨rfl, rfl, rfl, rfl, rfl, rfl, rfl, rfl, rfl, rfl, rfl, rfl, rfl, rfl, rfl, rfl⟩ rfl (fun _ => rfl))
    exact (hjr.t (v := 0)).tick hR
theorem sTick_ok {A : aS} (ho : a_ok A) (hi : a_inv A) : a_ok (sTick A).2.2 ∧ a_inv (sTick A).2.2 ∧ (sTick A).1 ≠ 2 := by
  have hT := ho.1
  unfold sTick
  by_cases h : A.T = 64
  · rw [if_pos h]; exact ⟨ho, hi, i1_2⟩
  · rw [if_neg h]; exact ⟨ho.tick (by omega), hi.tick, i0_2⟩
/-! cut -/
def sCut (A : aS) (x y : Int32) : Int32 × Int32 × aS := if a_pair A x y = false then (1, 0, A) else (0, nI (a_cutn A x.toNatClampNeg y.toNatClampNeg), A.cut x.toNatClampNeg y.toNatClampNeg)
theorem sCut_cases (A : aS) (x y : Int32) : (a_pair A x y = false ∧ sCut A x y = (1, 0, A)) ∨ ∃ a b, a < 8 ∧ b < 8 ∧ a ≠ b ∧ x = nI a ∧ y = nI b ∧ a_pair A x y = true ∧ sCut A x y = (0, nI (a_cutn A a b), A.cut a b) := by
  cases h : a_pair A x y with
  | false => left; exact ⟨rfl, if_pos h⟩
  | true =>
    right
    obtain ⟨a, b, ha, hb, hab, rfl, rfl, _, _⟩ := a_pair_spec h
    refine ⟨a, b, ha, hb, hab, rfl, rfl, rfl, ?_⟩
    unfold sCut
    rw [if_neg (by rw [h]; decide), nI_clamp (by omega), nI_clamp (by omega)]
theorem c_cut {X : mX} {C S : Nat} {w : mWd} {A : aS} (ho : a_ok A) (hi : a_inv A) (hjc : JC w A) (hC : 1 ≤ C) (hS : 6 ≤ S) (x y : Int32) : Sp X 33 7 142 C S (0, [(0, .ref 0), (1, .int x), (2, .int y)], []) (mw w) (s_Qc w (sCut A x y).2.2 (sCut A x y).1 (sCut A x y).2.1 0 7) := by
  have hx := hjc.nx
  have hp := hjc
  obtain ⟨q, nd, hj⟩ := hp
  rcases sCut_cases A x y with ⟨h, e⟩ | ⟨a, b, ha, hb, hab, rfl, rfl, h, e⟩
  · rw [e]
    exact r_cut_b0 (by rw [n_pair_is hj]; exact h) hC hS hx (s_thr1 hjc)
  · rw [e]
    exact r_cut_ok ho hi hjc ha hb hab (by rw [n_pair_is hj]; exact h) (fun w' k1 _ k3 => s_ret k1 k3)
theorem m_cut {X : mX} {C S : Nat} {w : mWd} {A : aS} (ho : a_ok A) (hi : a_inv A) (hjr : JR w A) (x y : Int32) : Sp X 75 5 123 C S (0, [(0, .ref 10), (1, .int x), (2, .int y)], []) (mw w) (s_Qm w (sCut A x y).2.2 (sCut A x y).1 (sCut A x y).2.1) := by
  rcases sCut_cases A x y with ⟨h, e⟩ | ⟨a, b, ha, hb, hab, rfl, rfl, h, e⟩
  · rw [e]
    exact d_cut_b1 ho hjr.1 h (s_m hjr (sC.s5 1) rfl (fun z => absurd z i64_0))
  · rw [e]
    exact d_cut_ok ho hjr hi.f5 ha hb h (fun w' k1 k2 k3 => s_m k1 k2 k3 (fun _ => rfl))
theorem g_cnt_mono {p q : Nat → Bool} : ∀ P, (∀ h, h < P → p h = true → q h = true) → g_cnt p P ≤ g_cnt q P := by
  intro P
  induction P with
  | zero => intro _; exact Nat.le_refl _
  | succ P ih =>
    intro h
    have k := ih (fun j hj => h j (by omega))
    have k2 := h P (by omega)
    simp only [g_cnt]
    by_cases c : p P = true
    · rw [if_pos c, if_pos (k2 c)]; omega
    · rw [if_neg c]; omega
theorem a_cut_inv {A : aS} (ho : a_ok A) (hi : a_inv A) {a b : Nat} (hab : a ≠ b) : a_inv (A.cut a b) := by
  have hu : ∀ t x y, t < 64 → x ≠ y → a_used (A.cut1 a b) t x y ≤ 1 := by
    intro t x y ht hxy
    refine Nat.le_trans (g_cnt_mono A.P (fun j hj hg => ?_)) (hi.2.1 t x y ht hxy)
    have hg : a_goes (A.cut1 a b) j t x y = true := hg
    rw [a_goes_st, g_st_true] at hg
    rw [a_goes_st, g_st_true]
    refine ⟨hg.1, ?_, hg.2.2⟩
    have h2 : t < (if j < A.P ∧ a_tch A a b j = true then a_cutla A j else A.la j) := hg.2.1
    by_cases c : j < A.P ∧ a_tch A a b j = true
    · rw [if_pos c] at h2
      have hf := (a_tch_T ho c.2).2
      rcases hi.2.2.2 j hj with z | z | z | z
      · have : a_cutla A j ≤ A.la j := by unfold a_cutla; split <;> omega
        omega
      · omega
      · omega
      · omega
    · rw [if_neg c] at h2; exact h2
  have hmid := a_mid.start hi ho hab hu
  have k := hmid.news (a_cut1_ok ho a b) A.P (Nat.le_refl _)
  refine a_mid.inv (tc := a_tch A a b) ?_
  rw [show (A.cut a b).P = A.P from (a_news_same (A.cut1 a b) (a_tch A a b) A.P).2.2.1]
  exact k
theorem sCut_ok {A : aS} (ho : a_ok A) (hi : a_inv A) (x y : Int32) : a_ok (sCut A x y).2.2 ∧ a_inv (sCut A x y).2.2 ∧ (sCut A x y).1 ≠ 2 := by
  rcases sCut_cases A x y with ⟨h, e⟩ | ⟨a, b, ha, hb, hab, rfl, rfl, h, e⟩
  · rw [e]; exact ⟨ho, hi, i1_2⟩
  · rw [e]; exact ⟨a_cut_ok ho a b, a_cut_inv ho hi hab, i0_2⟩
