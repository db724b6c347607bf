/-! Ways over a table of free steps: fr t n m: from node n at tick t to node m at tick t + 1. Ticks 0 .. 64, nodes 0 .. 7. -/
/-- the least of f over those places of a list that p takes, below l -/
def g_min (f : Nat → Nat) (p : Nat → Bool) (ms : List Nat) (l : Nat) : Nat := ms.foldl (fun l m => if f m < l ∧ p m = true then f m else l) l
theorem g_min_spec (f : Nat → Nat) (p : Nat → Bool) (ms : List Nat) : ∀ l : Nat, g_min f p ms l ≤ l ∧ (∀ m ∈ ms, p m = true → g_min f p ms l ≤ f m) ∧ (g_min f p ms l = l ∨ ∃ m ∈ ms, p m = true ∧ f m = g_min f p ms l) := by
  induction ms with
  | nil => intro l; exact ⟨Nat.le_refl _, (fun m hm => nomatch hm), Or.inl rfl⟩
  | cons a t ih =>
    intro l
    have e : g_min f p (a :: t) l = g_min f p t (if f a < l ∧ p a = true then f a else l) := rfl
    rw [e]
    obtain ⟨h1, h2, h3⟩ := ih (if f a < l ∧ p a = true then f a else l)
    by_cases hc : f a < l ∧ p a = true
    · rw [if_pos hc] at h1 h2 h3 ⊢
      refine ⟨by omega, fun m hm hp => ?_, ?_⟩
      · rcases List.mem_cons.mp hm with rfl | hm
        · exact h1
        · exact h2 m hm hp
      · rcases h3 with h3 | ⟨m, hm, hp, h3⟩
        · exact Or.inr ⟨a, List.mem_cons_self, hc.2, h3.symm⟩
        · exact Or.inr ⟨m, List.mem_cons_of_mem _ hm, hp, h3⟩
    · rw [if_neg hc] at h1 h2 h3 ⊢
      refine ⟨h1, fun m hm hp => ?_, ?_⟩
      · rcases List.mem_cons.mp hm with rfl | hm
        · have : ¬ f m < l := fun q => hc ⟨q, hp⟩
          omega
        · exact h2 m hm hp
      · rcases h3 with h3 | ⟨m, hm, hp, h3⟩
        · exact Or.inl h3
        · exact Or.inr ⟨m, List.mem_cons_of_mem _ hm, hp, h3⟩
/-- the reference's table: the soonest end from node n, d ticks before 64 -/
def g_E (fr : Nat → Nat → Nat → Bool) (g : Nat) : Nat → Nat → Nat
  | 0, n => if n = g then 64 else 99
  | d + 1, n => if n = g then 63 - d else g_min (g_E fr g d) (fr (63 - d) n) (List.range 8) 99
/-- from n the goal can be had after j ticks, at the tick e -/
def g_L (fr : Nat → Nat → Nat → Bool) (g e : Nat) : Nat → Nat → Prop
  | 0, n => n = g
  | j + 1, n => ∃ m, m < 8 ∧ fr (e - (j + 1)) n m = true ∧ g_L fr g e j m
/-- n can be had after j ticks, from a at the tick s -/
def g_R (fr : Nat → Nat → Nat → Bool) (a s : Nat) : Nat → Nat → Prop
  | 0, n => n = a
  | j + 1, m => ∃ n, n < 8 ∧ g_R fr a s j n ∧ fr (s + j) n m = true
theorem g_E_le (fr : Nat → Nat → Nat → Bool) (g e : Nat) (he : e ≤ 64) : ∀ d n : Nat, d ≤ 64 → 64 - d ≤ e → g_L fr g e (e - (64 - d)) n → g_E fr g d n ≤ e := by
  intro d
  induction d with
  | zero =>
    intro n _ h hl
    have : e = 64 := by omega
    subst this
    have hn : n = g := hl
    simp [g_E, hn]
  | succ d ih =>
    intro n hd h hl
    by_cases hn : n = g
    · simp only [g_E, if_pos hn]; omega
    · simp only [g_E, if_neg hn]
      cases hj : e - (64 - (d + 1)) with
      | zero => rw [hj] at hl; exact absurd hl hn
      | succ j =>
        rw [hj] at hl
        obtain ⟨m, hm, hf, hl'⟩ := hl
        have e1 : e - (j + 1) = 63 - d := by omega
        rw [e1] at hf
        have e2 : j = e - (64 - d) := by omega
        rw [e2] at hl'
        have h3 := ih m (by omega) (by omega) hl'
        have h4 := (g_min_spec (g_E fr g d) (fr (63 - d) n) (List.range 8) 99).2.1 m (List.mem_range.mpr hm) hf
        omega
theorem g_E_at (fr : Nat → Nat → Nat → Bool) (g : Nat) : ∀ d n : Nat, d ≤ 64 → g_E fr g d n = 99 ∨ (64 - d ≤ g_E fr g d n ∧ g_E fr g d n ≤ 64 ∧ g_L fr g (g_E fr g d n) (g_E fr g d n - (64 - d)) n) := by
  intro d
  induction d with
  | zero =>
    intro n _
    by_cases hn : n = g
    · right
      simp only [g_E, if_pos hn]
      exact ⟨by omega, by omega, hn⟩
    · left
      simp only [g_E, if_neg hn]
  | succ d ih =>
    intro n hd
    by_cases hn : n = g
    · right
      simp only [g_E, if_pos hn]
      refine ⟨by omega, by omega, ?_⟩
      have : 63 - d - (64 - (d + 1)) = 0 := by omega
      rw [this]
      exact hn
    · simp only [g_E, if_neg hn]
      obtain ⟨h1, h2, h3⟩ := g_min_spec (g_E fr g d) (fr (63 - d) n) (List.range 8) 99
      rcases h3 with h3 | ⟨m, hm, hf, h3⟩
      · exact Or.inl h3
      · rcases ih m (by omega) with h4 | ⟨h4, h5, h6⟩
        · left; omega
        · right
          rw [← h3]
          refine ⟨by omega, h5, ?_⟩
          have e1 : g_E fr g d m - (64 - (d + 1)) = (g_E fr g d m - (64 - d)) + 1 := by omega
          rw [e1]
          refine ⟨m, List.mem_range.mp hm, ?_, h6⟩
          have e2 : g_E fr g d m - (g_E fr g d m - (64 - d) + 1) = 63 - d := by omega
          rw [e2]
          exact hf
theorem g_RL (fr : Nat → Nat → Nat → Bool) (a s g e : Nat) (ha : a < 8) : ∀ j : Nat, s + j ≤ e → ((∃ n, n < 8 ∧ g_R fr a s j n ∧ g_L fr g e (e - (s + j)) n) ↔ g_L fr g e (e - s) a) := by
  intro j
  induction j with
  | zero =>
    intro _
    constructor
    · rintro ⟨n, _, hr, hl⟩
      have hr' : n = a := hr
      rw [hr'] at hl
      exact hl
    · intro hl
      exact ⟨a, ha, rfl, hl⟩
  | succ j ih =>
    intro h
    rw [← ih (by omega)]
    have e0 : e - (s + j) = (e - (s + (j + 1))) + 1 := by omega
    constructor
    · rintro ⟨m, hm, ⟨n, hn, hr, hf⟩, hl⟩
      refine ⟨n, hn, hr, ?_⟩
      rw [e0]
      refine ⟨m, hm, ?_, hl⟩
      rw [show e - (e - (s + (j + 1)) + 1) = s + j by omega]
      exact hf
    · rintro ⟨n, hn, hr, hl⟩
      rw [e0] at hl
      obtain ⟨m, hm, hf, hl'⟩ := hl
      rw [show e - (e - (s + (j + 1)) + 1) = s + j by omega] at hf
      exact ⟨m, hm, ⟨n, hn, hr, hf⟩, hl'⟩
/-- the goal after e - s ticks: forward and backward say the same -/
theorem g_goal (fr : Nat → Nat → Nat → Bool) (a s g e : Nat) (ha : a < 8) (hg : g < 8) (h : s ≤ e) : g_R fr a s (e - s) g ↔ g_L fr g e (e - s) a := by
  rw [← g_RL fr a s g e ha (e - s) (by omega)]
  have e0 : e - (s + (e - s)) = 0 := by omega
  rw [e0]
  constructor
  · intro hr; exact ⟨g, hg, hr, rfl⟩
  · rintro ⟨n, _, hr, hl⟩
    have : n = g := hl
    rw [this] at hr; exact hr
theorem g_soon (fr : Nat → Nat → Nat → Bool) (a s g e : Nat) (ha : a < 8) (hg : g < 8) (hs : s ≤ 64) (he : g_E fr g (64 - s) a = e) (h64 : e ≤ 64) : s ≤ e ∧ g_R fr a s (e - s) g ∧ ∀ e', s ≤ e' → e' < e → ¬ g_R fr a s (e' - s) g := by
  have e1 : 64 - (64 - s) = s := by omega
  rcases g_E_at fr g (64 - s) a (by omega) with h | ⟨h1, h2, h3⟩
  · omega
  · rw [he, e1] at h1 h3
    refine ⟨h1, (g_goal fr a s g e ha hg h1).mpr h3, fun e' h4 h5 hr => ?_⟩
    have h6 := (g_goal fr a s g e' ha hg h4).mp hr
    have h7 := g_E_le fr g e' (by omega) (64 - s) a (by omega) (by omega) (by rw [e1]; exact h6)
    omega
theorem g_never (fr : Nat → Nat → Nat → Bool) (a s g : Nat) (ha : a < 8) (hg : g < 8) (hs : s ≤ 64) (he : g_E fr g (64 - s) a = 99) : ∀ e', s ≤ e' → e' ≤ 64 → ¬ g_R fr a s (e' - s) g := by
  intro e' h4 h5 hr
  have e1 : 64 - (64 - s) = s := by omega
  have h6 := (g_goal fr a s g e' ha hg h4).mp hr
  have h7 := g_E_le fr g e' (by omega) (64 - s) a (by omega) (by omega) (by rw [e1]; exact h6)
  omega
/-- at a node that can be had, for the next node: the soonest end is e just when e can be had from it -/
theorem g_next (fr : Nat → Nat → Nat → Bool) (a s g e j n m : Nat) (ha : a < 8) (hs : s ≤ 64) (he : g_E fr g (64 - s) a = e) (h64 : e ≤ 64) (hj : s + j < e) (hn : n < 8) (hm : m < 8) (hr : g_R fr a s j n) (hf : fr (s + j) n m = true) :
    g_E fr g (64 - (s + j + 1)) m = e ↔ g_L fr g e (e - (s + j + 1)) m := by
  have e1 : 64 - (64 - (s + j + 1)) = s + j + 1 := by omega
  constructor
  · intro h
    rcases g_E_at fr g (64 - (s + j + 1)) m (by omega) with h1 | ⟨h1, h2, h3⟩
    · omega
    · rw [h, e1] at h3; exact h3
  · intro h
    have h1 := g_E_le fr g e h64 (64 - (s + j + 1)) m (by omega) (by omega) (by rw [e1]; exact h)
    rcases g_E_at fr g (64 - (s + j + 1)) m (by omega) with h2 | ⟨h2, h3, h4⟩
    · omega
    · rw [e1] at h2 h4
      have h5 : g_L fr g (g_E fr g (64 - (s + j + 1)) m) (g_E fr g (64 - (s + j + 1)) m - s) a :=
        (g_RL fr a s g _ ha (j + 1) (by omega)).mp ⟨m, hm, ⟨n, hn, hr, hf⟩, h4⟩
      have h6 := g_E_le fr g _ h3 (64 - s) a (by omega) (by omega) (by rw [show 64 - (64 - s) = s by omega]; exact h5)
      omega
