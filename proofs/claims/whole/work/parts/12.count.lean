/-! Counting: how many h below P have p. -/
def g_cnt (p : Nat → Bool) : Nat → Nat
  | 0 => 0
  | n + 1 => g_cnt p n + (if p n = true then 1 else 0)
theorem g_cnt_le (p : Nat → Bool) : ∀ P, g_cnt p P ≤ P := by
  intro P
  induction P with
  | zero => exact Nat.le_refl _
  | succ n ih => simp only [g_cnt]; split <;> omega
theorem g_cnt_congr {p q : Nat → Bool} : ∀ P, (∀ h, h < P → p h = q h) → g_cnt p P = g_cnt q P := by
  intro P
  induction P with
  | zero => intro _; rfl
  | succ n ih => intro h; simp only [g_cnt]; rw [ih (fun k hk => h k (by omega)), h n (by omega)]
/-- p and q agree but at one place -/
theorem g_cnt_one {p q : Nat → Bool} {j : Nat} : ∀ P, (∀ h, h < P → h ≠ j → p h = q h) → j < P → g_cnt p P + (if q j = true then 1 else 0) = g_cnt q P + (if p j = true then 1 else 0) := by
  intro P
  induction P with
  | zero => intro _ h; omega
  | succ n ih =>
    intro h hj
    simp only [g_cnt]
    by_cases e : j = n
    · subst e
      rw [g_cnt_congr j (fun k hk => h k (by omega) (by omega))]
      omega
    · have h1 := ih (fun k hk hne => h k (by omega) hne) (by omega)
      rw [h n (by omega) (fun z => e z.symm)]
      omega
theorem g_cnt_pos {p : Nat → Bool} : ∀ P, 0 < g_cnt p P ↔ ∃ h, h < P ∧ p h = true := by
  intro P
  induction P with
  | zero => simp [g_cnt]
  | succ n ih =>
    simp only [g_cnt]
    constructor
    · intro h
      by_cases hp : p n = true
      · exact ⟨n, by omega, hp⟩
      · rw [if_neg hp] at h
        obtain ⟨k, hk, hpk⟩ := ih.mp (by omega)
        exact ⟨k, by omega, hpk⟩
    · rintro ⟨k, hk, hpk⟩
      by_cases e : k = n
      · subst e; rw [if_pos hpk]; omega
      · have := ih.mpr ⟨k, by omega, hpk⟩
        omega
theorem g_cnt_zero {p : Nat → Bool} (P : Nat) (h : ∀ k, k < P → p k = false) : g_cnt p P = 0 := by
  rcases Nat.eq_zero_or_pos (g_cnt p P) with h0 | h0
  · exact h0
  · obtain ⟨k, hk, hp⟩ := (g_cnt_pos P).mp h0
    rw [h k hk] at hp
    cases hp
