/-! The desk holds A. -/
def a_last (A : aS) (h : Nat) : Int32 := if A.la h < A.at h then -1 else nI (A.la h)
def a_fate (A : aS) (h : Nat) : Int32 := if A.fa h = 4 ∨ A.fa h = 5 then nI (A.fa h) else 0
/-- the rows of used links and places hold the counts u -/
def JU (us st : Nat → Int32) (u : Nat → Nat → Nat → Nat) : Prop := (∀ a b t, a < 8 → b < 8 → t < 64 → a ≠ b → bt (us (t * 8 + a)) b = decide (0 < u t a b)) ∧ ∀ n t, n < 8 → t < 64 → st (t * 8 + n) = nI (u t n n)
def JCq (w : mWd) (A : aS) (q : Nat → Nat) (nd : Nat → Nat → Int32) : Prop :=
  (w.f 0 = nI (a_many A) ∧ w.f 1 = nI A.nc ∧ (∀ n, n < 8 → bt (w.f 2) n = (A.pl n).isSome) ∧ (∀ n, n < 8 → w.a 2 n = nI ((A.pl n).getD 0))) ∧ (w.f 3 = nI A.P ∧ w.f 4 = nI A.T) ∧ (∀ a b t, a < 8 → b < 8 → t < 64 → bt (w.a 3 (t * 8 + a)) b = A.op a b t) ∧ JU (w.a 4) (w.a 5) (a_used A) ∧ 23 ≤ w.nx ∧
  c_P w A.P q (fun h => nI (A.go h)) (fun h => nI (A.at h)) (a_last A) (a_fate A) nd ∧ ∀ h, h < A.P → ∀ i, i < 65 → nd h i = nI (A.nd h i)
def JC (w : mWd) (A : aS) : Prop := ∃ q nd, JCq w A q nd
/-- the reference's part is the same -/
def sM (w w' : mWd) : Prop := w'.f 5 = w.f 5 ∧ w'.f 6 = w.f 6 ∧ w'.f 7 = w.f 7 ∧ w'.f 8 = w.f 8 ∧ w'.a 11 = w.a 11 ∧ w'.a 12 = w.a 12 ∧ w'.a 13 = w.a 13 ∧ w'.a 14 = w.a 14 ∧ w'.a 15 = w.a 15 ∧ w'.a 16 = w.a 16 ∧ w'.a 17 = w.a 17 ∧ w'.a 18 = w.a 18 ∧ w'.a 19 = w.a 19 ∧ w'.a 20 = w.a 20 ∧ w'.a 21 = w.a 21
theorem sM.refl (w : mWd) : sM w w := ⟨rfl, rfl, rfl, rfl, rfl, rfl, rfl, rfl, rfl, rfl, rfl, rfl, rfl, rfl, rfl⟩
theorem sM.trans {w w1 w2 : mWd} (h : sM w w1) (k : sM w1 w2) : sM w w2 := by
  obtain ⟨h1, h2, h3, h4, h5, h6, h7, h8, h9, h10, h11, h12, h13, h14, h15⟩ := h
  obtain ⟨k1, k2, k3, k4, k5, k6, k7, k8, k9, k10, k11, k12, k13, k14, k15⟩ := k
  exact ⟨k1.trans h1, k2.trans h2, k3.trans h3, k4.trans h4, k5.trans h5, k6.trans h6, k7.trans h7, k8.trans h8, k9.trans h9, k10.trans h10, k11.trans h11, k12.trans h12, k13.trans h13, k14.trans h14, k15.trans h15⟩
theorem JR.sM {w w' : mWd} {A : aS} (hj : JR w A) (h : sM w w') : JR w' A := by
  obtain ⟨h1, h2, h3, h4, h5, h6, h7, h8, h9, h10, h11, h12, h13, h14, h15⟩ := h
  unfold JR JR0 at hj ⊢
  rw [h2, h3, h4, h5, h6, h7, h8, h9, h10, h11, h12, h13]
  exact hj
theorem JC.sC {w w' : mWd} {A : aS} (hj : JC w A) (h : sC w w') : JC w' A := by
  obtain ⟨h0, h1, h2, h3, h4, h5, h6, h7, h8, h9, h10, h11, h12, h13, h14, h15⟩ := h
  obtain ⟨q, nd, hj⟩ := hj
  refine ⟨q, nd, ?_⟩
  unfold JCq c_P at hj ⊢
  rw [h0, h1, h2, h3, h4, h5, h6, h7, h8, h11, h13, h14]
  exact hj
/-- what always holds -/
def a_inv (A : aS) : Prop := (∀ n t, A.op n n t = false) ∧ (∀ t a b, t < 64 → a ≠ b → a_used A t a b ≤ 1) ∧ (∀ h, A.P ≤ h → ∀ i, A.nd h i = 0) ∧
  ∀ h, h < A.P → (A.fa h = 0 ∧ A.T < A.la h ∧ A.at h < A.la h ∧ ∀ i, A.at h ≤ i → i < A.la h → A.nd h i ≠ A.go h) ∨ (A.fa h = 3 ∧ A.at h ≤ A.la h ∧ A.la h ≤ A.T) ∨ A.fa h = 4 ∨ A.fa h = 5
theorem a_inv.f5 {A : aS} (h : a_inv A) : ∀ j, j < A.P → A.fa j ≤ 5 := by
  intro j hj
  rcases h.2.2.2 j hj with q | q | q | q
  · omega
  · omega
  · omega
  · omega
/-- the nodes that can follow, as the reference sees it -/
theorem JCq.on {w : mWd} {A : aS} {q : Nat → Nat} {nd : Nat → Nat → Int32} (hj : JCq w A q nd) (ho : a_ok A) (hi : ∀ n t, A.op n n t = false) : ∀ n m t, n < 8 → m < 8 → t < 64 → bt (w_on w n t) m = a_fr A t n m := by
  intro n m t hn hm ht
  obtain ⟨⟨_, _, _, h4⟩, _, h5, ⟨h6, h7⟩, _⟩ := hj
  have hu := a_used_le A t n n ho.2.2.1
  have base : bt (w.a 3 (t * 8 + n) &&& (w.a 4 (t * 8 + n) ^^^ -1)) m = (A.op n m t && !bt (w.a 4 (t * 8 + n)) m) := by
    rw [b_and, b_xor, h5 n m t hn hm ht, b_m1 m (by omega)]
    cases bt (w.a 4 (t * 8 + n)) m <;> simp
  unfold w_on n_on
  rw [h4 n hn, h7 n t hn ht]
  by_cases e : n = m
  · subst e
    have e1 : a_fr A t n n = decide (a_used A t n n < (A.pl n).getD 0) := by
      unfold a_fr; rw [if_pos rfl]
      cases hp : A.pl n with
      | none => simp
      | some c => simp
    have hc : (A.pl n).getD 0 ≤ 4 := by
      cases hp : A.pl n with
      | none => simp
      | some c => simpa using ho.2.2.2.1 n c hp
    rw [e1]
    by_cases hle : (A.pl n).getD 0 ≤ a_used A t n n
    · rw [if_pos ((nI_le' (by omega) (by omega)).mpr hle), base, hi n t, decide_eq_false (by omega)]; rfl
    · rw [if_neg (fun z => hle ((nI_le' (by omega) (by omega)).mp z)), b_or, b_one (by omega) (by omega), decide_eq_true (show a_used A t n n < (A.pl n).getD 0 by omega)]
      simp
  · have e1 : a_fr A t n m = (A.op n m t && !bt (w.a 4 (t * 8 + n)) m) := by
      unfold a_fr; rw [if_neg e, h6 n m t hn hm ht e]
      congr 1
      by_cases hz : a_used A t n m = 0
      · simp [hz]
      · rw [decide_eq_false hz, decide_eq_true (show 0 < a_used A t n m by omega)]; rfl
    rw [e1]
    split
    · exact base
    · rw [b_or, base, b_one (by omega) (by omega), decide_eq_false (fun z => e z.symm), Bool.or_false]
/-! taking and giving back -/
theorem cell_inj {a b t u : Nat} (ha : a < 8) (hb : b < 8) : t * 8 + a = u * 8 + b ↔ t = u ∧ a = b := by omega
theorem n_tk5_at {st : Nat → Int32} {x y u n t : Nat} (hx : x < 8) (hn : n < 8) : n_tk5 st x y u (t * 8 + n) = if u = t ∧ x = n ∧ y = n then st (t * 8 + n) + 1 else st (t * 8 + n) := by
  unfold n_tk5
  by_cases e : x = y
  · rw [if_pos e]
    by_cases c : u = t ∧ x = n
    · obtain ⟨rfl, rfl⟩ := c
      rw [upd_at, if_pos ⟨rfl, rfl, e.symm⟩]
    · rw [upd_ne (fun z => c ((cell_inj hx hn).mp z.symm)), if_neg (fun z => c ⟨z.1, z.2.1⟩)]
  · rw [if_neg e, if_neg (fun z => e (z.2.1.trans z.2.2.symm))]
theorem n_gb5_at {st : Nat → Int32} {x y u n t : Nat} (hx : x < 8) (hn : n < 8) : n_gb5 st x y u (t * 8 + n) = if u = t ∧ x = n ∧ y = n then st (t * 8 + n) - 1 else st (t * 8 + n) := by
  unfold n_gb5
  by_cases e : x = y
  · rw [if_pos e]
    by_cases c : u = t ∧ x = n
    · obtain ⟨rfl, rfl⟩ := c
      rw [upd_at, if_pos ⟨rfl, rfl, e.symm⟩]
    · rw [upd_ne (fun z => c ((cell_inj hx hn).mp z.symm)), if_neg (fun z => c ⟨z.1, z.2.1⟩)]
  · rw [if_neg e, if_neg (fun z => e (z.2.1.trans z.2.2.symm))]
theorem n_tk4_at {us : Nat → Int32} {x y u a b t : Nat} (hx : x < 8) (hy : y < 8) (ha : a < 8) (hb : b < 8) (hab : a ≠ b) : bt (n_tk4 us x y u (t * 8 + a)) b = if u = t ∧ x = a ∧ y = b then true else bt (us (t * 8 + a)) b := by
  unfold n_tk4
  by_cases e : x = y
  · rw [if_pos e, if_neg (fun z => hab (z.2.1.symm.trans (e.trans z.2.2)))]
  · rw [if_neg e]
    by_cases c : u = t ∧ x = a
    · obtain ⟨rfl, rfl⟩ := c
      rw [upd_at, b_or, b_one (by omega) (by omega)]
      by_cases f : b = y
      · rw [if_pos ⟨rfl, rfl, f.symm⟩, decide_eq_true f, Bool.or_true]
      · rw [if_neg (fun z => f z.2.2.symm), decide_eq_false f, Bool.or_false]
    · rw [upd_ne (fun z => c ((cell_inj hx ha).mp z.symm)), if_neg (fun z => c ⟨z.1, z.2.1⟩)]
theorem n_gb4_at {us : Nat → Int32} {x y u a b t : Nat} (hx : x < 8) (hy : y < 8) (ha : a < 8) (hb : b < 8) (hab : a ≠ b) : bt (n_gb4 us x y u (t * 8 + a)) b = if u = t ∧ x = a ∧ y = b then false else bt (us (t * 8 + a)) b := by
  unfold n_gb4
  by_cases e : x = y
  · rw [if_pos e, if_neg (fun z => hab (z.2.1.symm.trans (e.trans z.2.2)))]
  · rw [if_neg e]
    by_cases c : u = t ∧ x = a
    · obtain ⟨rfl, rfl⟩ := c
      rw [upd_at, b_and, b_notone (by omega) (by omega)]
      by_cases f : b = y
      · rw [if_pos ⟨rfl, rfl, f.symm⟩, decide_eq_true f, Bool.not_true, Bool.and_false]
      · rw [if_neg (fun z => f z.2.2.symm), decide_eq_false f, Bool.not_false, Bool.and_true]
    · rw [upd_ne (fun z => c ((cell_inj hx ha).mp z.symm)), if_neg (fun z => c ⟨z.1, z.2.1⟩)]
/-- one step of N at u -/
def g_st (N : Nat → Nat) (lo hi t a b : Nat) : Bool := decide (lo ≤ t) && (decide (t < hi) && (decide (N t = a) && decide (N (t + 1) = b)))
theorem g_st_split {N : Nat → Nat} {lo d t a b : Nat} : g_st N lo (lo + (d + 1)) t a b = (decide (lo = t ∧ N lo = a ∧ N (lo + 1) = b) || g_st N (lo + 1) (lo + 1 + d) t a b) := by
  by_cases e : lo = t
  · subst e
    rw [show g_st N (lo + 1) (lo + 1 + d) lo a b = false by unfold g_st; rw [decide_eq_false (by omega)]; rfl, Bool.or_false]
    simp [g_st]
  · rw [decide_eq_false (fun z => e z.1), Bool.false_or]
    unfold g_st
    rw [show decide (lo ≤ t) = decide (lo + 1 ≤ t) from decide_eq_decide.mpr (by omega), show decide (t < lo + (d + 1)) = decide (t < lo + 1 + d) from decide_eq_decide.mpr (by omega)]
theorem JU.tk {N : Nat → Nat} {hi : Nat} : ∀ (d lo : Nat) (us st : Nat → Int32) (u : Nat → Nat → Nat → Nat), lo + d = hi → (∀ i, lo ≤ i → i ≤ hi → N i < 8) → JU us st u → JU (r_tk4 N lo d us) (r_tk5 N lo d st) (fun t a b => u t a b + (if g_st N lo (lo + d) t a b = true then 1 else 0)) := by
  intro d
  induction d with
  | zero =>
    intro lo us st u h1 h8 hj
    have : (fun t a b => u t a b + (if g_st N lo (lo + 0) t a b = true then 1 else 0)) = u := by
      funext t a b
      rw [if_neg (by simp [g_st]; omega)]; rfl
    rw [this]; exact hj
  | succ d ih =>
    intro lo us st u h1 h8 hj
    have hx := h8 lo (by omega) (by omega)
    have hy := h8 (lo + 1) (by omega) (by omega)
    have k := ih (lo + 1) (n_tk4 us (N lo) (N (lo + 1)) lo) (n_tk5 st (N lo) (N (lo + 1)) lo) (fun t a b => u t a b + (if lo = t ∧ N lo = a ∧ N (lo + 1) = b then 1 else 0)) (by omega) (fun i q1 q2 => h8 i (by omega) q2) ?_
    · have e : (fun t a b => u t a b + (if g_st N lo (lo + (d + 1)) t a b = true then 1 else 0)) = (fun t a b => u t a b + (if lo = t ∧ N lo = a ∧ N (lo + 1) = b then 1 else 0) + (if g_st N (lo + 1) (lo + 1 + d) t a b = true then 1 else 0)) := by
        funext t a b
        rw [g_st_split]
        by_cases c : lo = t ∧ N lo = a ∧ N (lo + 1) = b
        · rw [if_pos c, decide_eq_true c, Bool.true_or, if_pos rfl, if_neg (by simp [g_st]; omega)]
        · rw [if_neg c, decide_eq_false c, Bool.false_or]; rfl
      rw [e]; exact k
    · refine ⟨fun a b t ha hb ht hab => ?_, fun n t hn ht => ?_⟩
      · show bt _ _ = decide (0 < u t a b + if lo = t ∧ N lo = a ∧ N (lo + 1) = b then 1 else 0)
        rw [n_tk4_at hx hy ha hb hab]
        by_cases c : lo = t ∧ N lo = a ∧ N (lo + 1) = b
        · rw [if_pos c, if_pos c, decide_eq_true (by omega)]
        · rw [if_neg c, if_neg c, Nat.add_zero]; exact hj.1 a b t ha hb ht hab
      · dsimp only
        rw [n_tk5_at hx hn]
        by_cases c : lo = t ∧ N lo = n ∧ N (lo + 1) = n
        · rw [if_pos c, if_pos c, hj.2 n t hn ht, nI_succ]
        · rw [if_neg c, if_neg c, Nat.add_zero]; exact hj.2 n t hn ht
theorem JU.gb {N : Nat → Nat} {hi : Nat} : ∀ (d lo : Nat) (us st : Nat → Int32) (u : Nat → Nat → Nat → Nat), lo + d = hi → (∀ i, lo ≤ i → i ≤ hi → N i < 8) → (∀ t a b, g_st N lo hi t a b = true → 1 ≤ u t a b ∧ (a ≠ b → u t a b = 1)) → JU us st u → JU (r_gb4 N lo d us) (r_gb5 N lo d st) (fun t a b => u t a b - (if g_st N lo (lo + d) t a b = true then 1 else 0)) := by
  intro d
  induction d with
  | zero =>
    intro lo us st u h1 h8 hu hj
    have : (fun t a b => u t a b - (if g_st N lo (lo + 0) t a b = true then 1 else 0)) = u := by
      funext t a b
      rw [if_neg (by simp [g_st]; omega)]; rfl
    rw [this]; exact hj
  | succ d ih =>
    intro lo us st u h1 h8 hu hj
    have hx := h8 lo (by omega) (by omega)
    have hy := h8 (lo + 1) (by omega) (by omega)
    have hu2 : ∀ t a b, (lo = t ∧ N lo = a ∧ N (lo + 1) = b) → 1 ≤ u t a b ∧ (a ≠ b → u t a b = 1) := by
      rintro t a b ⟨rfl, rfl, rfl⟩
      exact hu _ _ _ (by simp [g_st]; omega)
    have k := ih (lo + 1) (n_gb4 us (N lo) (N (lo + 1)) lo) (n_gb5 st (N lo) (N (lo + 1)) lo) (fun t a b => u t a b - (if lo = t ∧ N lo = a ∧ N (lo + 1) = b then 1 else 0)) (by omega) (fun i q1 q2 => h8 i (by omega) q2) ?_ ?_
    · have e : (fun t a b => u t a b - (if g_st N lo (lo + (d + 1)) t a b = true then 1 else 0)) = (fun t a b => u t a b - (if lo = t ∧ N lo = a ∧ N (lo + 1) = b then 1 else 0) - (if g_st N (lo + 1) (lo + 1 + d) t a b = true then 1 else 0)) := by
        funext t a b
        rw [g_st_split]
        by_cases c : lo = t ∧ N lo = a ∧ N (lo + 1) = b
        · rw [if_pos c, decide_eq_true c, Bool.true_or, if_pos rfl, if_neg (by simp [g_st]; omega)]; rfl
        · rw [if_neg c, decide_eq_false c, Bool.false_or]; rfl
      rw [e]; exact k
    · intro t a b hg
      have hne : ¬ (lo = t ∧ N lo = a ∧ N (lo + 1) = b) := fun c => by
        rw [← c.1] at hg; simp [g_st] at hg; omega
      show 1 ≤ u t a b - (if lo = t ∧ N lo = a ∧ N (lo + 1) = b then 1 else 0) ∧ (a ≠ b → u t a b - (if lo = t ∧ N lo = a ∧ N (lo + 1) = b then 1 else 0) = 1)
      rw [if_neg hne, Nat.sub_zero]
      refine hu t a b ?_
      rw [show hi = lo + (d + 1) by omega, g_st_split, show lo + 1 + d = hi by omega, hg, Bool.or_true]
    · refine ⟨fun a b t ha hb ht hab => ?_, fun n t hn ht => ?_⟩
      · show bt _ _ = decide (0 < u t a b - if lo = t ∧ N lo = a ∧ N (lo + 1) = b then 1 else 0)
        rw [n_gb4_at hx hy ha hb hab]
        by_cases c : lo = t ∧ N lo = a ∧ N (lo + 1) = b
        · rw [if_pos c, if_pos c, (hu2 t a b c).2 hab]; rfl
        · rw [if_neg c, if_neg c, Nat.sub_zero]; exact hj.1 a b t ha hb ht hab
      · dsimp only
        rw [n_gb5_at hx hn]
        by_cases c : lo = t ∧ N lo = n ∧ N (lo + 1) = n
        · rw [if_pos c, if_pos c, hj.2 n t hn ht, nI_sub1 (hu2 t n n c).1]
        · rw [if_neg c, if_neg c, Nat.sub_zero]; exact hj.2 n t hn ht
theorem JU.congr {us st : Nat → Int32} {u u' : Nat → Nat → Nat → Nat} (h : JU us st u) (e : ∀ t a b, t < 64 → u t a b = u' t a b) : JU us st u' := ⟨fun a b t ha hb ht hab => by rw [← e t a b ht]; exact h.1 a b t ha hb ht hab, fun n t hn ht => by rw [← e t n n ht]; exact h.2 n t hn ht⟩
