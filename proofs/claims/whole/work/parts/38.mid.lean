/-! Sets of handles; the state amid a cut. -/
def lb (x : Int64) (i : Nat) : Bool := x.toBitVec.getLsbD i
theorem lb_ext {x y : Int64} (h : ∀ i, i < 64 → lb x i = lb y i) : x = y := Int64.toBitVec_inj.mp (BitVec.eq_of_getLsbD_eq (fun i hi => h i hi))
theorem lb_or (x y : Int64) (i : Nat) : lb (x ||| y) i = (lb x i || lb y i) := by unfold lb; rw [Int64.toBitVec_or, BitVec.getLsbD_or]
theorem lb_and (x y : Int64) (i : Nat) : lb (x &&& y) i = (lb x i && lb y i) := by unfold lb; rw [Int64.toBitVec_and, BitVec.getLsbD_and]
theorem lb_0 (i : Nat) : lb 0 i = false := BitVec.getLsbD_zero
theorem lb_1 : ∀ i, i < 64 → lb 1 i = decide (i = 0) := by decide +kernel
theorem ls_l : ∀ n, n < 32 → (((nI n).toInt64 &&& 63).toBitVec.smod 64).toNat = n := by decide +kernel
theorem lb_one {n : Nat} (hn : n < 32) {i : Nat} (hi : i < 64) : lb ((1 : Int64) <<< ((nI n).toInt64 &&& 63)) i = decide (i = n) := by
  unfold lb
  rw [Int64.toBitVec_shiftLeft]
  show ((1 : Int64).toBitVec <<< (((nI n).toInt64 &&& 63).toBitVec.smod 64).toNat).getLsbD i = _
  rw [ls_l n hn, BitVec.getLsbD_shiftLeft]
  have h1 := lb_1 (i - n) (by omega)
  unfold lb at h1
  rw [h1]
  by_cases e : i = n
  · subst e; simp [hi]
  · by_cases h : i < n
    · simp [h, e]
    · simp [h, e, hi]; omega
theorem lb_bit (x : Int64) {n : Nat} (hn : n < 32) : (x >>> ((nI n).toInt64 &&& 63)) &&& 1 = 0 ↔ lb x n = false := by
  have hs : ∀ i, i < 64 → lb (x >>> ((nI n).toInt64 &&& 63)) i = if n + i < 64 then lb x (n + i) else lb x 63 := by
    intro i hi
    unfold lb
    rw [Int64.toBitVec_shiftRight]
    show (x.toBitVec.sshiftRight (((nI n).toInt64 &&& 63).toBitVec.smod 64).toNat).getLsbD i = _
    rw [ls_l n hn, BitVec.getLsbD_sshiftRight, BitVec.msb_eq_getLsbD_last]
    simp [hi]
  constructor
  · intro h
    have h2 := congrArg (fun y => lb y 0) h
    simp only [lb_and, lb_0, hs 0 (by omega), lb_1 0 (by omega)] at h2
    rw [if_pos (by omega)] at h2
    simpa using h2
  · intro h
    refine lb_ext fun i hi => ?_
    rw [lb_and, lb_0, hs i hi, lb_1 i hi]
    by_cases e : i = 0
    · subst e; rw [if_pos (by omega)]; simp [h]
    · simp [e]
/-- what holds amid a cut: the touched ones from h on stand cut off -/
def a_mid (B : aS) (tc : Nat → Bool) (h : Nat) : Prop := (∀ n t, B.op n n t = false) ∧ (∀ t a b, t < 64 → a ≠ b → a_used B t a b ≤ 1) ∧ (∀ j, B.P ≤ j → ∀ i, B.nd j i = 0) ∧
  ∀ j, j < B.P → (tc j = true ∧ h ≤ j ∧ B.fa j = 0 ∧ B.T < 64 ∧ B.la j ≤ a_s B j ∧ (B.la j = a_s B j ∨ B.at j = a_s B j) ∧ ∀ i, B.at j ≤ i → i ≤ a_s B j → B.nd j i ≠ B.go j) ∨
    ((tc j = false ∨ j < h) ∧ ((B.fa j = 0 ∧ B.T < B.la j ∧ B.at j < B.la j ∧ ∀ i, B.at j ≤ i → i < B.la j → B.nd j i ≠ B.go j) ∨ (B.fa j = 3 ∧ B.at j ≤ B.la j ∧ B.la j ≤ B.T) ∨ B.fa j = 4 ∨ B.fa j = 5))
theorem a_mid.skip {B : aS} {tc : Nat → Bool} {h : Nat} (hm : a_mid B tc h) (ht : tc h = false) : a_mid B tc (h + 1) := by
  obtain ⟨h1, h2, h3, h4⟩ := hm
  refine ⟨h1, h2, h3, fun j hj => ?_⟩
  rcases h4 j hj with ⟨q1, q2, q3⟩ | ⟨q1, q2⟩
  · left
    have : j ≠ h := fun e => by rw [e, ht] at q1; cases q1
    exact ⟨q1, by omega, q3⟩
  · right
    exact ⟨q1.imp id (fun z => by omega), q2⟩
theorem a_used_end {A : aS} {h f t a b : Nat} : a_used (A.end h (A.la h) f) t a b = a_used A t a b := by
  refine g_cnt_congr A.P (fun j _ => ?_)
  show (decide (A.at j ≤ t) && (decide (t < (if j = h then A.la h else A.la j)) && (decide (A.nd j t = a) && decide (A.nd j (t + 1) = b)))) = _
  by_cases e : j = h
  · rw [if_pos e, e]; rfl
  · rw [if_neg e]; rfl
theorem a_mid.anew {B : aS} {tc : Nat → Bool} {h : Nat} (hm : a_mid B tc h) (ho : a_ok B) (hh : h < B.P) (ht : tc h = true) : a_mid (a_anew B h) tc (h + 1) := by
  obtain ⟨h1, h2, h3, h4⟩ := hm
  have hT : (∀ i, B.at h ≤ i → i ≤ a_s B h → B.nd h i ≠ B.go h) ∧ B.fa h = 0 ∧ B.T < 64 ∧ B.la h ≤ a_s B h ∧ (B.la h = a_s B h ∨ B.at h = a_s B h) := by
    rcases h4 h hh with ⟨_, _, q1, q2, q3, q4, q5⟩ | ⟨q1, _⟩
    · exact ⟨q5, q1, q2, q3, q4⟩
    · rcases q1 with q1 | q1
      · rw [ht] at q1; cases q1
      · omega
  have hoth : ∀ j, j < B.P → j ≠ h → (tc j = true ∧ h + 1 ≤ j ∧ B.fa j = 0 ∧ B.T < 64 ∧ B.la j ≤ a_s B j ∧ (B.la j = a_s B j ∨ B.at j = a_s B j) ∧ ∀ i, B.at j ≤ i → i ≤ a_s B j → B.nd j i ≠ B.go j) ∨
    ((tc j = false ∨ j < h + 1) ∧ ((B.fa j = 0 ∧ B.T < B.la j ∧ B.at j < B.la j ∧ ∀ i, B.at j ≤ i → i < B.la j → B.nd j i ≠ B.go j) ∨ (B.fa j = 3 ∧ B.at j ≤ B.la j ∧ B.la j ≤ B.T) ∨ B.fa j = 4 ∨ B.fa j = 5)) := by
    intro j hj hne
    rcases h4 j hj with ⟨q1, q2, q3⟩ | ⟨q1, q2⟩
    · exact Or.inl ⟨q1, by omega, q3⟩
    · exact Or.inr ⟨q1.imp id (fun z => by omega), q2⟩
  obtain ⟨s1, _, s3, _, s5, s6, s7, s8⟩ := a_anew_same B h
  have hhs : B.nd h (a_s B h) ≠ B.go h := hT.1 _ (by unfold a_s; omega) (Nat.le_refl _)
  refine ⟨by rw [s5]; exact h1, fun t a b ht hab => ?_, fun j hj i => ?_, fun j hj => ?_⟩
  · unfold a_anew
    by_cases he : a_e B h = 99
    · rw [if_pos he, a_used_end]; exact h2 t a b ht hab
    · rw [if_neg he]
      obtain ⟨w1, w2, w3⟩ := a_r_W ho hh he
      have hee := (a_e_at ho hh).resolve_left he
      rw [(a_used_give hh hT.2.2.2.1 hT.2.2.2.2 (fun i hi => by
        by_cases ei : i = a_s B h
        · rw [ei]; exact w1.1
        · exact w3 i (by omega))).resolve_right (by omega)]
      by_cases c : g_st (a_r B h) (a_s B h) (a_e B h) t a b = true
      · rw [if_pos c]
        rw [g_st_true] at c
        have hf := (w1.2 t c.1 c.2.1).2.1
        rw [c.2.2.1, c.2.2.2] at hf
        unfold a_fr at hf
        rw [if_neg hab, Bool.and_eq_true, decide_eq_true_eq] at hf
        omega
      · rw [if_neg c]; exact h2 t a b ht hab
  · rw [s3] at hj
    rw [(s8 j (by omega)).2.2]; exact h3 j hj i
  · rw [s3] at hj
    by_cases ej : j = h
    · subst ej
      right
      refine ⟨Or.inr (by omega), ?_⟩
      rw [s1, s6, s7]
      unfold a_anew
      by_cases he : a_e B j = 99
      · rw [if_pos he]; right; right; right
        show (if j = j then 5 else B.fa j) = 5
        rw [if_pos rfl]
      · rw [if_neg he]; left
        obtain ⟨w1, w2, w3⟩ := a_r_W ho hh he
        have hee := (a_e_at ho hh).resolve_left he
        have hlt : a_s B j < a_e B j := by
          rcases Nat.lt_or_ge (a_s B j) (a_e B j) with q | q
          · exact q
          · exfalso
            have es : a_e B j = a_s B j := by omega
            have hE : g_E (a_fr B) (B.go j) (64 - a_s B j) (B.nd j (a_s B j)) = a_s B j := es
            have hb := ho.2.2.2.2 j hh
            have hs64 : a_s B j < 64 := by unfold a_s; have := hT.2.2.1; omega
            have k := g_soon (a_fr B) (B.nd j (a_s B j)) (a_s B j) (B.go j) (a_s B j) (hb.2.2.2 _ (by omega)) hb.1 (by omega) hE (by omega)
            rw [Nat.sub_self] at k
            exact hhs k.2.1.symm
        have hat : B.at j ≤ a_s B j := by unfold a_s; omega
        have hTs : B.T ≤ a_s B j := by unfold a_s; omega
        show (if j = j then B.fa j else B.fa j) = 0 ∧ B.T < (if j = j then a_e B j else B.la j) ∧ B.at j < (if j = j then a_e B j else B.la j) ∧ ∀ i, B.at j ≤ i → i < (if j = j then a_e B j else B.la j) → (if j = j then a_r B j else B.nd j) i ≠ B.go j
        simp only [if_true]
        refine ⟨hT.2.1, by omega, by omega, fun i q1 q2 => ?_⟩
        by_cases hi : i < a_s B j
        · rw [w3 i (Or.inl hi)]; exact hT.1 i q1 (by omega)
        · exact g_W_goal hee.2 rfl w1 i (by omega) q2
    · obtain ⟨e1, e2, e3⟩ := s8 j ej
      have es : a_s (a_anew B h) j = a_s B j := by unfold a_s; rw [s1, s7]
      rw [s1, s6, s7, e1, e2, e3, es]
      exact hoth j hj ej
theorem a_mid.news {A : aS} {tc : Nat → Bool} (ho : a_ok A) (hm : a_mid A tc 0) : ∀ h, h ≤ A.P → a_mid (a_news A tc h) tc h := by
  intro h
  induction h with
  | zero => intro _; exact hm
  | succ h ih =>
    intro hh
    simp only [a_news]
    by_cases ht : tc h = true
    · rw [if_pos ht]
      exact (ih (by omega)).anew (a_news_ok ho h (by omega)) (by rw [(a_news_same A tc h).2.2.1]; omega) ht
    · rw [if_neg ht]
      exact (ih (by omega)).skip (by cases hc : tc h with | false => rfl | true => exact absurd hc ht)
theorem a_mid.inv {B : aS} {tc : Nat → Bool} (hm : a_mid B tc B.P) : a_inv B := by
  obtain ⟨h1, h2, h3, h4⟩ := hm
  refine ⟨h1, h2, h3, fun j hj => ?_⟩
  rcases h4 j hj with ⟨_, q2, _⟩ | ⟨_, q2⟩
  · omega
  · exact q2
