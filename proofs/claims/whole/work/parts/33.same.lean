/-! The finder's sets and the reference's table say the same. -/
theorem f_all_bit (on : Nat → Int32) (set : Int32) (m : Nat) : ∀ (d n : Nat) (acc : Int32), bt (f_all on set n d acc) m = (bt acc m || m_any (fun k => bt set k && bt (on k) m) n d) := by
  intro d
  induction d with
  | zero => intro n acc; simp only [f_all, m_any, Bool.or_false]
  | succ d ih =>
    intro n acc
    simp only [f_all, m_any]
    rw [ih]
    cases h : bt set n with
    | true => rw [if_pos rfl, b_or]; simp only [Bool.true_and, Bool.or_assoc]
    | false => rw [if_neg (by decide)]; simp only [Bool.false_and, Bool.false_or]
theorem f_next {on : Nat → Nat → Int32} {fr : Nat → Nat → Nat → Bool} (H : ∀ n m t, n < 8 → m < 8 → t < 64 → bt (on n t) m = fr t n m) {a s j : Nat} {r : Int32} (hr : ∀ n, n < 8 → (bt r n = true ↔ g_R fr a s j n)) (hj : s + j < 64) {m : Nat} (hm : m < 8) : bt (f_all (fun n => on n (s + j)) r 0 8 0) m = true ↔ g_R fr a s (j + 1) m := by
  rw [f_all_bit, b_0, Bool.false_or]
  constructor
  · intro h
    obtain ⟨n, _, h2, h3⟩ := m_any_pos _ _ h
    have hn : n < 8 := by omega
    simp only [Bool.and_eq_true] at h3
    exact ⟨n, hn, (hr n hn).mp h3.1, by rw [← H n m (s + j) hn hm hj]; exact h3.2⟩
  · rintro ⟨n, hn, h1, h2⟩
    refine m_any_of (i := n) ?_ 8 0 (by omega) (by omega)
    simp only [Bool.and_eq_true]
    exact ⟨(hr n hn).mpr h1, by rw [H n m (s + j) hn hm hj]; exact h2⟩
theorem f_soon_some {on : Nat → Nat → Int32} {fr : Nat → Nat → Nat → Bool} (H : ∀ n m t, n < 8 → m < 8 → t < 64 → bt (on n t) m = fr t n m) {a s g e : Nat} (hg : g < 8) (he : e ≤ 64) (hR : g_R fr a s (e - s) g) (hN : ∀ e', s < e' → e' < e → ¬ g_R fr a s (e' - s) g) : ∀ (d j : Nat) (r : Int32), s + j + d = 64 → s + j < e → (∀ n, n < 8 → (bt r n = true ↔ g_R fr a s j n)) → f_soon on g (s + j) d r = some e := by
  intro d
  induction d with
  | zero => intro j r h1 h2; omega
  | succ d ih =>
    intro j r h1 h2 hr
    have hn := fun m hm => f_next (m := m) H hr (by omega) hm
    simp only [f_soon]
    by_cases h : s + j + 1 = e
    · rw [if_pos ((hn g hg).mpr (by rw [show j + 1 = e - s by omega]; exact hR)), h]
    · rw [if_neg (fun z => hN (s + j + 1) (by omega) (by omega) (by rw [show s + j + 1 - s = j + 1 by omega]; exact (hn g hg).mp z))]
      exact ih (j + 1) _ (by omega) (by omega) hn
theorem f_soon_none {on : Nat → Nat → Int32} {fr : Nat → Nat → Nat → Bool} (H : ∀ n m t, n < 8 → m < 8 → t < 64 → bt (on n t) m = fr t n m) {a s g : Nat} (hg : g < 8) (hN : ∀ e', s < e' → e' ≤ 64 → ¬ g_R fr a s (e' - s) g) : ∀ (d j : Nat) (r : Int32), s + j + d = 64 → (∀ n, n < 8 → (bt r n = true ↔ g_R fr a s j n)) → f_soon on g (s + j) d r = none := by
  intro d
  induction d with
  | zero => intro j r h1 hr; rfl
  | succ d ih =>
    intro j r h1 hr
    have hn := fun m hm => f_next (m := m) H hr (by omega) hm
    simp only [f_soon]
    rw [if_neg (fun z => hN (s + j + 1) (by omega) (by omega) (by rw [show s + j + 1 - s = j + 1 by omega]; exact (hn g hg).mp z))]
    exact ih (j + 1) _ (by omega) hn
theorem f_start {fr : Nat → Nat → Nat → Bool} {a s : Nat} (ha : a < 8) : ∀ n, n < 8 → (bt ((1 : Int32) <<< (nI a &&& 31)) n = true ↔ g_R fr a s 0 n) := by
  intro n hn
  rw [b_one (by omega) (by omega), decide_eq_true_eq]
  exact Iff.rfl
theorem w_end_is {on : Nat → Nat → Int32} {fr : Nat → Nat → Nat → Bool} (H : ∀ n m t, n < 8 → m < 8 → t < 64 → bt (on n t) m = fr t n m) {a s g : Nat} (ha : a < 8) (hg : g < 8) (hs : s < 64) (hag : a ≠ g) : (g_E fr g (64 - s) a = 99 → f_soon on g s (64 - s) ((1 : Int32) <<< (nI a &&& 31)) = none) ∧ (∀ e, g_E fr g (64 - s) a = e → e ≤ 64 → s < e ∧ f_soon on g s (64 - s) ((1 : Int32) <<< (nI a &&& 31)) = some e) := by
  constructor
  · intro h
    have hn := g_never fr a s g ha hg (by omega) h
    exact f_soon_none H (s := s) hg (fun e' h1 h2 => hn e' (by omega) h2) (64 - s) 0 _ (by omega) (f_start ha)
  · intro e h h64
    obtain ⟨h1, h2, h3⟩ := g_soon fr a s g e ha hg (by omega) h h64
    have hse : s < e := by
      rcases Nat.lt_or_ge s e with q | q
      · exact q
      · have : e = s := by omega
        subst this
        rw [Nat.sub_self] at h2
        exact absurd h2.symm hag
    exact ⟨hse, f_soon_some H (s := s) hg h64 h2 (fun e' q1 q2 => h3 e' (by omega) q2) (64 - s) 0 _ (by omega) (by omega) (f_start ha)⟩
/-! the leading sets -/
theorem f_set_bit (on : Nat → Int32) (l : Int32) {i : Nat} (hi : i < 32) : ∀ (d n : Nat) (acc : Int32), n + d ≤ 8 → bt (f_set on l n d acc) i = (bt acc i || (decide (n ≤ i ∧ i < n + d) && !decide (on i &&& l = 0))) := by
  intro d
  induction d with
  | zero => intro n acc h; simp only [f_set]; rw [decide_eq_false (by omega)]; simp
  | succ d ih =>
    intro n acc h
    simp only [f_set]
    rw [ih (n + 1) _ (by omega)]
    by_cases e : i = n
    · subst e
      rw [decide_eq_false (by omega : ¬ (i + 1 ≤ i ∧ i < i + 1 + d)), decide_eq_true (by omega : i ≤ i ∧ i < i + (d + 1)), Bool.false_and, Bool.or_false, Bool.true_and]
      by_cases hz : on i &&& l = 0
      · rw [if_pos hz, decide_eq_true hz]; simp
      · rw [if_neg hz, b_or, b_one hi hi, decide_eq_false hz]; simp
    · have e1 : decide (n + 1 ≤ i ∧ i < n + 1 + d) = decide (n ≤ i ∧ i < n + (d + 1)) := decide_eq_decide.mpr (by omega)
      rw [e1]
      by_cases hz : on n &&& l = 0
      · rw [if_pos hz]
      · rw [if_neg hz, b_or, b_one (by omega) hi, decide_eq_false e, Bool.or_false]
theorem b_nz {x : Int32} : ¬ x = 0 ↔ ∃ i, i < 32 ∧ bt x i = true := by
  constructor
  · intro h
    refine Classical.byContradiction fun q => h (b_ext fun i hi => ?_)
    rw [b_0]
    cases hb : bt x i with
    | false => rfl
    | true => exact absurd ⟨i, hi, hb⟩ q
  · rintro ⟨i, _, h⟩ rfl
    rw [b_0] at h; cases h
/-- l is the set of those from which g is had at e -/
def f_good (fr : Nat → Nat → Nat → Bool) (g e t : Nat) (l : Int32) : Prop := (∀ n, n < 8 → (bt l n = true ↔ g_L fr g e (e - t) n)) ∧ ∀ i, 8 ≤ i → bt l i = false
theorem f_good_step {on : Nat → Nat → Int32} {fr : Nat → Nat → Nat → Bool} (H : ∀ n m t, n < 8 → m < 8 → t < 64 → bt (on n t) m = fr t n m) {g e t : Nat} (ht : t < e) (he : e ≤ 64) {l : Int32} (h : f_good fr g e (t + 1) l) : f_good fr g e t (f_set (fun n => on n t) l 0 8 0) := by
  constructor
  · intro n hn
    rw [f_set_bit _ _ (by omega) 8 0 0 (by omega), b_0, Bool.false_or, decide_eq_true (by omega : 0 ≤ n ∧ n < 0 + 8), Bool.true_and]
    rw [Bool.not_eq_true', decide_eq_false_iff_not, b_nz, show e - t = (e - (t + 1)) + 1 by omega]
    constructor
    · rintro ⟨m, _, hm⟩
      rw [b_and, Bool.and_eq_true] at hm
      have hm8 : m < 8 := by
        rcases Nat.lt_or_ge m 8 with q | q
        · exact q
        · rw [h.2 m q] at hm; cases hm.2
      refine ⟨m, hm8, ?_, (h.1 m hm8).mp hm.2⟩
      rw [show e - (e - (t + 1) + 1) = t by omega, ← H n m t hn hm8 (by omega)]
      exact hm.1
    · rintro ⟨m, hm8, h1, h2⟩
      rw [show e - (e - (t + 1) + 1) = t by omega, ← H n m t hn hm8 (by omega)] at h1
      exact ⟨m, by omega, by rw [b_and, h1, (h.1 m hm8).mpr h2]; rfl⟩
  · intro i hi
    rcases Nat.lt_or_ge i 32 with q | q
    · rw [f_set_bit _ _ q 8 0 0 (by omega), b_0, decide_eq_false (by omega : ¬ (0 ≤ i ∧ i < 0 + 8))]; rfl
    · exact b_big q
theorem f_lead_good {on : Nat → Nat → Int32} {fr : Nat → Nat → Nat → Bool} (H : ∀ n m t, n < 8 → m < 8 → t < 64 → bt (on n t) m = fr t n m) {g e s : Nat} (he : e ≤ 64) : ∀ (d : Nat) (l : Nat → Int32), s + d ≤ e → (∀ t, s + d ≤ t → t ≤ e → f_good fr g e t (l t)) → ∀ t, s ≤ t → t ≤ e → f_good fr g e t (f_lead on s d l t) := by
  intro d
  induction d with
  | zero => intro l h1 h2 t h3 h4; exact h2 t (by omega) h4
  | succ d ih =>
    intro l h1 h2
    simp only [f_lead]
    refine ih _ (by omega) (fun t h3 h4 => ?_)
    by_cases e1 : t = s + d
    · rw [e1, upd_at]
      exact f_good_step H (by omega) he (h2 (s + d + 1) (by omega) (by omega))
    · rw [upd_ne e1]; exact h2 t (by omega) h4
theorem f_good_end {fr : Nat → Nat → Nat → Bool} {g e : Nat} (hg : g < 8) : f_good fr g e e ((1 : Int32) <<< (nI g &&& 31)) := by
  constructor
  · intro n hn
    rw [b_one (by omega) (by omega), decide_eq_true_eq, Nat.sub_self]
    exact Iff.rfl
  · intro i hi
    rcases Nat.lt_or_ge i 32 with q | q
    · rw [b_one (by omega) q, decide_eq_false (by omega)]
    · exact b_big q
theorem f_least_eq {x : Int32} {k : Nat} (hk : bt x k = true) : ∀ (d n : Nat), n ≤ k → k ≤ n + d → (∀ j, n ≤ j → j < k → bt x j = false) → f_least x n d = k := by
  intro d
  induction d with
  | zero => intro n h1 h2 _; simp only [f_least]; omega
  | succ d ih =>
    intro n h1 h2 h3
    simp only [f_least]
    by_cases e : n = k
    · rw [e, if_pos hk]
    · rw [if_neg (by rw [h3 n (by omega) (by omega)]; decide)]
      exact ih (n + 1) (by omega) (by omega) (fun j q1 q2 => h3 j (by omega) q2)
theorem f_walk_is {on : Nat → Nat → Int32} {fr : Nat → Nat → Nat → Bool} (H : ∀ n m t, n < 8 → m < 8 → t < 64 → bt (on n t) m = fr t n m) {a s g e : Nat} {r : Nat → Nat} {l : Nat → Int32} (ha : a < 8) (hs : s ≤ 64) (h64 : e ≤ 64) (hE : g_E fr g (64 - s) a = e) (hl : ∀ t, s ≤ t → t ≤ e → f_good fr g e t (l t)) (hW : g_W fr g a s e r) : ∀ (d t : Nat) (wy : Nat → Int32), s ≤ t → t + d = e → r t < 8 → g_R fr a s (t - s) (r t) → ∀ i, f_walk on l t d (r t) wy i = if t < i ∧ i ≤ t + d then nI (r i) else wy i := by
  intro d
  induction d with
  | zero => intro t wy h1 h2 _ _ i; simp only [f_walk]; rw [if_neg (by omega)]
  | succ d ih =>
    intro t wy h1 h2 h8 hR i
    obtain ⟨g1, g2, g3, g4⟩ := hW.2 t h1 (by omega)
    have hx : ∀ m, m < 8 → fr t (r t) m = true → (g_E fr g (63 - t) m = e ↔ g_L fr g e (e - (t + 1)) m) := by
      intro m hm hf
      have q := g_next fr a s g e (t - s) (r t) m ha hs hE h64 (by omega) h8 hm hR (by rw [show s + (t - s) = t by omega]; exact hf)
      rw [show 64 - (s + (t - s) + 1) = 63 - t by omega, show s + (t - s) + 1 = t + 1 by omega] at q
      exact q
    have hb : ∀ m, m < 8 → (bt (on (r t) t &&& l (t + 1)) m = true ↔ fr t (r t) m = true ∧ g_E fr g (63 - t) m = e) := by
      intro m hm
      rw [b_and, Bool.and_eq_true, H (r t) m t h8 hm (by omega), (hl (t + 1) (by omega) (by omega)).1 m hm]
      constructor
      · rintro ⟨q1, q2⟩; exact ⟨q1, (hx m hm q1).mpr q2⟩
      · rintro ⟨q1, q2⟩; exact ⟨q1, (hx m hm q1).mp q2⟩
    have hle : f_least (on (r t) t &&& l (t + 1)) 0 7 = r (t + 1) := by
      refine f_least_eq ((hb _ g1).mpr ⟨g2, g3⟩) 7 0 (by omega) (by omega) (fun j _ hj => ?_)
      cases hc : bt (on (r t) t &&& l (t + 1)) j with
      | false => rfl
      | true => exact absurd ((hb j (by omega)).mp hc) (g4 j hj)
    simp only [f_walk]
    rw [hle, ih (t + 1) _ (by omega) (by omega) g1 (by
      rw [show t + 1 - s = (t - s) + 1 by omega]
      exact ⟨r t, h8, hR, by rw [show s + (t - s) = t by omega]; exact g2⟩) i]
    by_cases e1 : i = t + 1
    · rw [e1, if_neg (by omega), if_pos (by omega), upd_at]
    · rw [upd_ne e1]
      by_cases e2 : t + 1 < i ∧ i ≤ t + 1 + d
      · rw [if_pos e2, if_pos (by omega)]
      · rw [if_neg e2, if_neg (by omega)]
/-- the row of the way is the reference's row -/
theorem w_way_is {w : mWd} {fr : Nat → Nat → Nat → Bool} (H : ∀ n m t, n < 8 → m < 8 → t < 64 → bt (w_on w n t) m = fr t n m) {a s g e : Nat} {r : Nat → Nat} (ha : a < 8) (hg : g < 8) (hse : s ≤ e) (h64 : e ≤ 64) (hE : g_E fr g (64 - s) a = e) (hW : g_W fr g a s e r) : ∀ i, w_way w a s e g i = if s ≤ i ∧ i ≤ e then nI (r i) else w.a 7 i := by
  intro i
  have hl : ∀ t, s ≤ t → t ≤ e → f_good fr g e t (w_lead w s e g t) := by
    refine f_lead_good H h64 (e - s) _ (by omega) (fun t h1 h2 => ?_)
    rw [show t = e by omega, upd_at]
    exact f_good_end hg
  have h0 : r s = a := hW.1
  have k := f_walk_is (l := w_lead w s e g) H ha (by omega) h64 hE hl hW (e - s) s (upd (w.a 7) s (nI a)) (by omega) (by omega) (by rw [h0]; exact ha) (by rw [Nat.sub_self, h0]; rfl) i
  rw [h0] at k
  unfold w_way
  rw [k]
  by_cases e1 : i = s
  · rw [e1, if_neg (by omega), if_pos (by omega), upd_at, h0]
  · rw [upd_ne e1]
    by_cases e2 : s < i ∧ i ≤ s + (e - s)
    · rw [if_pos e2, if_pos (by omega)]
    · rw [if_neg e2, if_neg (by omega)]
