/-! The reference: looking back, best, lay. Rows laid by wip/gen/model2.py. -/
theorem d_lt {a b : Nat} (ha : a < 2 ^ 31) (hb : b < 2 ^ 31) (h : ¬ nI a ≤ nI b) : b < a := by rw [nI_le' ha hb] at h; omega
theorem d_nlt {a b : Nat} (ha : a < 2 ^ 31) (hb : b < 2 ^ 31) (h : nI a ≤ nI b) : ¬ b < a := by rw [nI_le' ha hb] at h; omega
theorem g_E_99 (fr : Nat → Nat → Nat → Bool) (g : Nat) (d n : Nat) (hd : d ≤ 64) : g_E fr g d n ≤ 99 := by
  rcases g_E_at fr g d n hd with h | ⟨_, h, _⟩ <;> omega
/-- the row of the tick t in the reference's table -/
def d_Et (fr : Nat → Nat → Nat → Bool) (g t : Nat) (E : Nat → Int32) : Prop := ∀ n, n < 8 → E (8 * t + n) = nI (g_E fr g (64 - t) n)
theorem d_Et.up {fr : Nat → Nat → Nat → Bool} {g t : Nat} {E : Nat → Int32} (h : d_Et fr g t E) {j : Nat} {x : Int32} (hj : ∀ n, n < 8 → 8 * t + n ≠ j) : d_Et fr g t (upd E j x) := fun n hn => by
  show upd E j x (8 * t + n) = _
  simp only [upd, if_neg (hj n hn)]
  exact h n hn
theorem JR0.e {w : mWd} {A : aS} {E : Nat → Int32} (h : JR0 w A) : JR0 (w.sa 21 E) A := h
theorem d_lbD {X : mX} {C S : Nat} {Q : Outcome → mM → Prop} {w : mWd} {A : aS} (ho : a_ok A) (hj : JR0 w A) {g : Nat} (hg : g < 8) {t n : Nat} {v2 : Int32} (ht : t < 64) (hn : n < 8) (hng : ¬ n = g) (hE : ∀ m, m < 8 → w.a 21 (8 * t + 8 + m) = nI (g_E (a_fr A) g (63 - t) m)) : ∀ (d m lv : Nat), m + d = 8 → lv ≤ 99 → Sp X 62 3 72 C S (135, [(5, .int (nI (g_min (g_E (a_fr A) g (63 - t)) (a_fr A t n) (List.range' m d) lv))), (4, .int (nI n)), (3, .int (nI t)), (0, .ref 10), (1, .int (nI g)), (2, .int (v2))], []) (mw w) Q → Sp X 62 3 72 C S (71, [(6, .int (nI m)), (5, .int (nI lv)), (4, .int (nI n)), (3, .int (nI t)), (0, .ref 10), (1, .int (nI g)), (2, .int (v2))], []) (mw w) Q := by
  intro d
  induction d with
  | zero =>
    intro m lv hm hlv kk
    refine Sp.go 2 (g := (75, [(6, .int (nI m)), (5, .int (nI lv)), (4, .int (nI n)), (3, .int (nI t)), (0, .ref 10), (1, .int (nI g)), (2, .int (v2))], [.int 8, .int (nI m)])) rfl ?_
    refine Sp.icmp rfl (fun u1 => ?_) (fun u1 => absurd ((nI_le' (a := 8) (b := m) (by omega) (by omega)).mpr (by omega)) u1)
    refine Sp.lsub [1, 2, 3, 4, 5, 6] (ls' := [(5, .int (nI lv)), (4, .int (nI n)), (3, .int (nI t)), (0, .ref 10), (1, .int (nI g)), (2, .int (v2))]) rfl ?_
    exact kk
  | succ d ih =>
    intro m lv hm hlv kk
    have hf99 : g_E (a_fr A) g (63 - t) m ≤ 99 := g_E_99 _ _ _ _ (by omega)
    rw [List.range'_succ] at kk
    simp only [g_min, List.foldl_cons] at kk
    refine Sp.go 2 (g := (75, [(6, .int (nI m)), (5, .int (nI lv)), (4, .int (nI n)), (3, .int (nI t)), (0, .ref 10), (1, .int (nI g)), (2, .int (v2))], [.int 8, .int (nI m)])) rfl ?_
    refine Sp.icmp rfl (fun u1 => absurd u1 (fun q => absurd ((nI_le' (a := 8) (b := m) (by omega) (by omega)).mp q) (by omega))) (fun u1 => ?_)
    refine Sp.go 2 (g := (81, [(6, .int (nI m)), (5, .int (nI lv)), (4, .int (nI n)), (3, .int (nI t)), (0, .ref 10), (1, .int (nI g)), (2, .int (v2))], [.int (nI g), .int (nI n)])) rfl ?_
    refine Sp.icmp rfl (fun u2 => absurd u2 (fun z => hng ((nI_inj (by omega) (by omega)).mp z))) (fun u2 => ?_)
    refine Sp.go 1 (g := (85, [(6, .int (nI m)), (5, .int (nI lv)), (4, .int (nI n)), (3, .int (nI t)), (0, .ref 10), (1, .int (nI g)), (2, .int (v2))], [.ref 10])) rfl ?_
    refine Sp.get (v := .ref 21) rfl rfl rfl ?_
    refine Sp.go 7 (g := (98, [(6, .int (nI m)), (5, .int (nI lv)), (4, .int (nI n)), (3, .int (nI t)), (0, .ref 10), (1, .int (nI g)), (2, .int (v2))], [.int (((8 * (nI t)) + 8) + (nI m)), .ref 21])) rfl ?_
    refine Sp.iald (f := w.a 21) (j := ((8 * t) + 8) + m) rfl rfl (m_ix_of (by simp only [nI, Int32.ofNat_add, Int32.ofNat_mul] <;> rfl) (by omega) (by omega)) ?_
    rw [hE m (by omega)]
    refine Sp.go 3 (g := (105, [(7, .int (nI (g_E (a_fr A) g (63 - t) m))), (6, .int (nI m)), (5, .int (nI lv)), (4, .int (nI n)), (3, .int (nI t)), (0, .ref 10), (1, .int (nI g)), (2, .int (v2))], [.int (nI lv), .int (nI (g_E (a_fr A) g (63 - t) m))])) rfl ?_
    refine Sp.icmp rfl (fun (h3 : (nI lv : Int32) ≤ (nI (g_E (a_fr A) g (63 - t) m) : Int32)) => ?_) (fun (h3 : ¬ ((nI lv : Int32) ≤ (nI (g_E (a_fr A) g (63 - t) m) : Int32))) => ?_)
    · skip
      refine Sp.go 4 (g := (71, [(6, .int (nI m + 1)), (5, .int (nI lv)), (7, .int (nI (g_E (a_fr A) g (63 - t) m))), (4, .int (nI n)), (3, .int (nI t)), (0, .ref 10), (1, .int (nI g)), (2, .int (v2))], [])) rfl ?_
      refine Sp.lsub [0, 1, 3, 4, 5, 6, 7] (ls' := [(6, .int (nI m + 1)), (5, .int (nI lv)), (4, .int (nI n)), (3, .int (nI t)), (0, .ref 10), (1, .int (nI g)), (2, .int (v2))]) rfl ?_
      rw [show nI m + 1 = nI (m + 1) from (nI_succ m).symm]
      refine ih (m + 1) _ (by omega) (by omega) ?_
      first | (rw [if_pos ⟨d_lt (by omega) (by omega) h3, h4⟩] at kk; exact kk) | (rw [if_neg (fun z => d_nlt (by omega) (by omega) h3 z.1)] at kk; exact kk) | (rw [if_neg (fun z => absurd z.2 (by rw [h4]; decide))] at kk; exact kk)
    · skip
      refine Sp.go 4 (g := (114, [(7, .int (nI (g_E (a_fr A) g (63 - t) m))), (6, .int (nI m)), (5, .int (nI lv)), (4, .int (nI n)), (3, .int (nI t)), (0, .ref 10), (1, .int (nI g)), (2, .int (v2))], [.int (nI m), .int (nI n), .int (nI t), .ref 10])) rfl ?_
      refine Sp.vr (some (.int (m_b2 (a_fr A t n m)))) (mw (w)) (k' := 61) (F' := 2) (N' := 49) (C' := 0) (S' := 0) (vs := [.int (nI t), .int (nI n), .int (nI m)]) (st := []) rfl rfl rfl rfl (Nat.le_of_ble_eq_true rfl) (Nat.le_of_ble_eq_true rfl) (by decide) (by decide) (Nat.zero_le _) (Nat.zero_le _) (fun Q' h => d_isFree ho hj (by omega) (by omega) (by omega) h) ?_
      refine Sp.ifb rfl (fun h4 => ?_) (fun h4 => ?_)
      · skip
        refine Sp.go 4 (g := (71, [(6, .int (nI m + 1)), (5, .int (nI lv)), (7, .int (nI (g_E (a_fr A) g (63 - t) m))), (4, .int (nI n)), (3, .int (nI t)), (0, .ref 10), (1, .int (nI g)), (2, .int (v2))], [])) rfl ?_
        refine Sp.lsub [0, 1, 3, 4, 5, 6, 7] (ls' := [(6, .int (nI m + 1)), (5, .int (nI lv)), (4, .int (nI n)), (3, .int (nI t)), (0, .ref 10), (1, .int (nI g)), (2, .int (v2))]) rfl ?_
        rw [show nI m + 1 = nI (m + 1) from (nI_succ m).symm]
        refine ih (m + 1) _ (by omega) (by omega) ?_
        first | (rw [if_pos ⟨d_lt (by omega) (by omega) h3, h4⟩] at kk; exact kk) | (rw [if_neg (fun z => d_nlt (by omega) (by omega) h3 z.1)] at kk; exact kk) | (rw [if_neg (fun z => absurd z.2 (by rw [h4]; decide))] at kk; exact kk)
      · skip
        refine Sp.go 5 (g := (71, [(6, .int (nI m + 1)), (5, .int (nI (g_E (a_fr A) g (63 - t) m))), (7, .int (nI (g_E (a_fr A) g (63 - t) m))), (4, .int (nI n)), (3, .int (nI t)), (0, .ref 10), (1, .int (nI g)), (2, .int (v2))], [])) rfl ?_
        refine Sp.lsub [0, 1, 3, 4, 5, 6, 7] (ls' := [(6, .int (nI m + 1)), (5, .int (nI (g_E (a_fr A) g (63 - t) m))), (4, .int (nI n)), (3, .int (nI t)), (0, .ref 10), (1, .int (nI g)), (2, .int (v2))]) rfl ?_
        rw [show nI m + 1 = nI (m + 1) from (nI_succ m).symm]
        refine ih (m + 1) _ (by omega) (by omega) ?_
        first | (rw [if_pos ⟨d_lt (by omega) (by omega) h3, h4⟩] at kk; exact kk) | (rw [if_neg (fun z => d_nlt (by omega) (by omega) h3 z.1)] at kk; exact kk) | (rw [if_neg (fun z => absurd z.2 (by rw [h4]; decide))] at kk; exact kk)
theorem d_lbC {X : mX} {C S : Nat} {Q : Outcome → mM → Prop} {A : aS} (ho : a_ok A) {g : Nat} (hg : g < 8) {t : Nat} {v2 : Int32} (ht : t < 64) : ∀ (d n : Nat) (w : mWd), n + d = 8 → JR0 w A → (∀ t', t < t' → t' ≤ 64 → d_Et (a_fr A) g t' (w.a 21)) → (∀ j, j < n → w.a 21 (8 * t + j) = nI (g_E (a_fr A) g (64 - t) j)) → (∀ E, (∀ t', t ≤ t' → t' ≤ 64 → d_Et (a_fr A) g t' E) → Sp X 62 3 72 C S (155, [(3, .int (nI t)), (0, .ref 10), (1, .int (nI g)), (2, .int (v2))], []) (mw (w.sa 21 E)) Q) → Sp X 62 3 72 C S (47, [(4, .int (nI n)), (3, .int (nI t)), (0, .ref 10), (1, .int (nI g)), (2, .int (v2))], []) (mw w) Q := by
  intro d
  induction d with
  | zero =>
    intro n w hn hj hup hlo kk
    refine Sp.go 2 (g := (51, [(4, .int (nI n)), (3, .int (nI t)), (0, .ref 10), (1, .int (nI g)), (2, .int (v2))], [.int 8, .int (nI n)])) rfl ?_
    refine Sp.icmp rfl (fun u1 => ?_) (fun u1 => absurd ((nI_le' (a := 8) (b := n) (by omega) (by omega)).mpr (by omega)) u1)
    refine Sp.lsub [1, 2, 3, 4] (ls' := [(3, .int (nI t)), (0, .ref 10), (1, .int (nI g)), (2, .int (v2))]) rfl ?_
    have k2 := kk (w.a 21) (fun t' h1 h2 => ?_)
    · rw [mWd.sa_self] at k2; exact k2
    · rcases Nat.eq_or_lt_of_le h1 with e | e
      · subst e; exact fun j hj9 => hlo j (by omega)
      · exact hup t' e h2
  | succ d ih =>
    intro n w hn hj hup hlo kk
    have hE : ∀ m, m < 8 → w.a 21 (8 * t + 8 + m) = nI (g_E (a_fr A) g (63 - t) m) := fun m hm => by
      have h9 := hup (t + 1) (by omega) (by omega) m hm
      rw [show 8 * (t + 1) + m = 8 * t + 8 + m by omega, show 64 - (t + 1) = 63 - t by omega] at h9
      exact h9
    have hd : 64 - t = (63 - t) + 1 := by omega
    have fin : Sp X 62 3 72 C S (135, [(5, .int (nI (g_E (a_fr A) g (64 - t) n))), (4, .int (nI n)), (3, .int (nI t)), (0, .ref 10), (1, .int (nI g)), (2, .int (v2))], []) (mw w) Q := by
      refine Sp.go 1 (g := (136, [(5, .int (nI (g_E (a_fr A) g (64 - t) n))), (4, .int (nI n)), (3, .int (nI t)), (0, .ref 10), (1, .int (nI g)), (2, .int (v2))], [.ref 10])) rfl ?_
      refine Sp.get (v := .ref 21) rfl rfl rfl ?_
      refine Sp.go 6 (g := (148, [(5, .int (nI (g_E (a_fr A) g (64 - t) n))), (4, .int (nI n)), (3, .int (nI t)), (0, .ref 10), (1, .int (nI g)), (2, .int (v2))], [.int (nI (g_E (a_fr A) g (64 - t) n)), .int ((8 * (nI t)) + (nI n)), .ref 21])) rfl ?_
      refine Sp.pa21 (j := (8 * t) + n) rfl (m_ix_of (by simp only [nI, Int32.ofNat_add, Int32.ofNat_mul] <;> rfl) (by omega) (by omega)) ?_
      refine Sp.go 2 (g := (47, [(4, .int (nI n + 1)), (5, .int (nI (g_E (a_fr A) g (64 - t) n))), (3, .int (nI t)), (0, .ref 10), (1, .int (nI g)), (2, .int (v2))], [])) rfl ?_
      refine Sp.lsub [0, 2, 3, 4, 5] (ls' := [(4, .int (nI n + 1)), (3, .int (nI t)), (0, .ref 10), (1, .int (nI g)), (2, .int (v2))]) rfl ?_
      rw [show nI n + 1 = nI (n + 1) from (nI_succ n).symm]
      refine ih (n + 1) (w.sa 21 (upd (w.a 21) ((8 * t) + n) (nI (g_E (a_fr A) g (64 - t) n)))) (by omega) hj.e (fun t' h1 h2 => (hup t' h1 h2).up (fun j hj9 => by omega)) (fun j hj9 => ?_) (fun E hE9 => ?_)
      · show upd (w.a 21) (8 * t + n) _ (8 * t + j) = _
        by_cases e : j = n
        · subst e; simp [upd]
        · have e2 : ¬ 8 * t + j = 8 * t + n := by omega
          simp only [upd, if_neg e2]; exact hlo j (by omega)
      · rw [mWd.sa_sa]; exact kk E hE9
    refine Sp.go 2 (g := (51, [(4, .int (nI n)), (3, .int (nI t)), (0, .ref 10), (1, .int (nI g)), (2, .int (v2))], [.int 8, .int (nI n)])) rfl ?_
    refine Sp.icmp rfl (fun u1 => absurd u1 (fun q => absurd ((nI_le' (a := 8) (b := n) (by omega) (by omega)).mp q) (by omega))) (fun u1 => ?_)
    refine Sp.go 2 (g := (57, [(4, .int (nI n)), (3, .int (nI t)), (0, .ref 10), (1, .int (nI g)), (2, .int (v2))], [.int (nI g), .int (nI n)])) rfl ?_
    refine Sp.icmp rfl (fun (h2 : ¬ (nI n : Int32) = (nI g : Int32)) => ?_) (fun (h2 : ¬ (¬ (nI n : Int32) = (nI g : Int32))) => ?_)
    · skip
      refine Sp.go 4 (g := (71, [(6, .int 0), (5, .int 99), (4, .int (nI n)), (3, .int (nI t)), (0, .ref 10), (1, .int (nI g)), (2, .int (v2))], [])) rfl ?_
      have hng : ¬ n = g := fun z => h2 (by rw [z])
      refine d_lbD ho hj hg ht (by omega) hng hE 8 0 99 rfl (by omega) ?_
      rw [show g_E (a_fr A) g (64 - t) n = g_min (g_E (a_fr A) g (63 - t)) (a_fr A t n) (List.range' 0 8) 99 by rw [hd]; simp only [g_E, if_neg hng]; rw [show 63 - (63 - t) = t by omega, List.range_eq_range']] at fin
      exact fin
    · skip
      refine Sp.go 5 (g := (71, [(6, .int 0), (5, .int (nI t)), (4, .int (nI n)), (3, .int (nI t)), (0, .ref 10), (1, .int (nI g)), (2, .int (v2))], [])) rfl ?_
      have hng : n = g := (nI_inj (by omega) (by omega)).mp (Classical.not_not.mp h2)
      refine Sp.go 2 (g := (75, [(6, .int 0), (5, .int (nI t)), (4, .int (nI n)), (3, .int (nI t)), (0, .ref 10), (1, .int (nI g)), (2, .int (v2))], [.int 8, .int 0])) rfl ?_
      refine Sp.icmp rfl (fun u31 => absurd u31 (show ¬ (8 : Int32) ≤ 0 by decide)) (fun u31 => ?_)
      refine Sp.go 2 (g := (81, [(6, .int 0), (5, .int (nI t)), (4, .int (nI n)), (3, .int (nI t)), (0, .ref 10), (1, .int (nI g)), (2, .int (v2))], [.int (nI g), .int (nI n)])) rfl ?_
      refine Sp.icmp rfl (fun u32 => ?_) (fun u32 => absurd (show nI n = nI g by rw [hng]) u32)
      refine Sp.lsub [1, 2, 3, 4, 5, 6] (ls' := [(5, .int (nI t)), (4, .int (nI n)), (3, .int (nI t)), (0, .ref 10), (1, .int (nI g)), (2, .int (v2))]) rfl ?_
      rw [show g_E (a_fr A) g (64 - t) n = t by rw [hd]; simp only [g_E, if_pos hng]; omega] at fin
      exact fin
theorem d_lbB {X : mX} {C S : Nat} {Q : Outcome → mM → Prop} {A : aS} (ho : a_ok A) {g : Nat} (hg : g < 8) {s : Nat} : ∀ (d : Nat) (w : mWd), s + d ≤ 64 → JR0 w A → (∀ t, s + d ≤ t → t ≤ 64 → d_Et (a_fr A) g t (w.a 21)) → (∀ E, (∀ t, s ≤ t → t ≤ 64 → d_Et (a_fr A) g t E) → Q (.returned none) (mw (w.sa 21 E))) → Sp X 62 3 72 C S (39, [(3, .int (nI (s + d) - 1)), (0, .ref 10), (1, .int (nI g)), (2, .int (nI s))], []) (mw w) Q := by
  intro d
  induction d with
  | zero =>
    intro w hd hj hup kk
    refine Sp.go 2 (g := (41, [(3, .int (nI (s + 0) - 1)), (0, .ref 10), (1, .int (nI g)), (2, .int (nI s))], [.int (nI s), .int (nI (s + 0) - 1)])) rfl ?_
    refine Sp.icmp rfl (fun u1 => ?_) (fun u1 => absurd (f_lt0 (by omega)) u1)
    refine Sp.vret rfl rfl ?_
    have k2 := kk (w.a 21) (fun t h1 h2 => hup t (by omega) h2)
    rw [mWd.sa_self] at k2
    exact k2
  | succ d ih =>
    intro w hd hj hup kk
    rw [show nI (s + (d + 1)) - 1 = nI (s + d) from nI_pred (s + d)]
    refine Sp.go 2 (g := (41, [(3, .int (nI (s + d))), (0, .ref 10), (1, .int (nI g)), (2, .int (nI s))], [.int (nI s), .int (nI (s + d))])) rfl ?_
    refine Sp.icmp rfl (fun u1 => absurd u1 (f_nlt (by omega))) (fun u1 => ?_)
    refine Sp.go 2 (g := (47, [(4, .int 0), (3, .int (nI (s + d))), (0, .ref 10), (1, .int (nI g)), (2, .int (nI s))], [])) rfl ?_
    refine d_lbC ho hg (by omega) 8 0 w rfl hj (fun t' h1 h2 => hup t' (by omega) h2) (fun j hj9 => absurd hj9 (by omega)) (fun E hE => ?_)
    refine Sp.go 2 (g := (39, [(3, .int (nI (s + d) + (-1))), (0, .ref 10), (1, .int (nI g)), (2, .int (nI s))], [])) rfl ?_
    rw [nI_m1]
    refine ih (w.sa 21 E) (by omega) hj.e hE (fun E2 hE2 => ?_)
    rw [mWd.sa_sa]
    exact kk E2 hE2
theorem d_lbA {X : mX} {C S : Nat} {Q : Outcome → mM → Prop} {g : Nat} (hg : g < 8) {v2 : Int32} : ∀ (d n : Nat) (w : mWd), n + d = 8 → (∀ j, j < n → w.a 21 (512 + j) = nI (if j = g then 64 else 99)) → (∀ E, (∀ j, j < 8 → E (512 + j) = nI (if j = g then 64 else 99)) → Sp X 62 3 72 C S (36, [(0, .ref 10), (1, .int (nI g)), (2, .int (v2))], []) (mw (w.sa 21 E)) Q) → Sp X 62 3 72 C S (2, [(3, .int (nI n)), (0, .ref 10), (1, .int (nI g)), (2, .int (v2))], []) (mw w) Q := by
  intro d
  induction d with
  | zero =>
    intro n w hn hlo kk
    refine Sp.go 2 (g := (5, [(3, .int (nI n)), (0, .ref 10), (1, .int (nI g)), (2, .int (v2))], [.int 8, .int (nI n)])) rfl ?_
    refine Sp.icmp rfl (fun u1 => ?_) (fun u1 => absurd ((nI_le' (a := 8) (b := n) (by omega) (by omega)).mpr (by omega)) u1)
    refine Sp.lsub [1, 2, 3] (ls' := [(0, .ref 10), (1, .int (nI g)), (2, .int (v2))]) rfl ?_
    have k2 := kk (w.a 21) (fun j hj => hlo j (by omega))
    rw [mWd.sa_self] at k2
    exact k2
  | succ d ih =>
    intro n w hn hlo kk
    refine Sp.go 2 (g := (5, [(3, .int (nI n)), (0, .ref 10), (1, .int (nI g)), (2, .int (v2))], [.int 8, .int (nI n)])) rfl ?_
    refine Sp.icmp rfl (fun u1 => absurd u1 (fun q => absurd ((nI_le' (a := 8) (b := n) (by omega) (by omega)).mp q) (by omega))) (fun u1 => ?_)
    refine Sp.go 1 (g := (9, [(3, .int (nI n)), (0, .ref 10), (1, .int (nI g)), (2, .int (v2))], [.ref 10])) rfl ?_
    refine Sp.get (v := .ref 21) rfl rfl rfl ?_
    refine Sp.go 5 (g := (19, [(3, .int (nI n)), (0, .ref 10), (1, .int (nI g)), (2, .int (v2))], [.int (nI g), .int (nI n), .int (512 + (nI n)), .ref 21])) rfl ?_
    refine Sp.icmp rfl (fun (h2 : ¬ (nI n : Int32) = (nI g : Int32)) => ?_) (fun (h2 : ¬ (¬ (nI n : Int32) = (nI g : Int32))) => ?_)
    · skip
      refine Sp.go 1 (g := (29, [(3, .int (nI n)), (0, .ref 10), (1, .int (nI g)), (2, .int (v2))], [.int 99, .int (512 + (nI n)), .ref 21])) rfl ?_
      refine Sp.pa21 (j := 512 + n) rfl (m_ix_of (by simp only [nI, Int32.ofNat_add, Int32.ofNat_mul] <;> rfl) (by omega) (by omega)) ?_
      refine Sp.go 2 (g := (2, [(3, .int (nI n + 1)), (0, .ref 10), (1, .int (nI g)), (2, .int (v2))], [])) rfl ?_
      rw [show nI n + 1 = nI (n + 1) from (nI_succ n).symm]
      refine ih (n + 1) (w.sa 21 (upd (w.a 21) (512 + n) (99))) (by omega) (fun j hj => ?_) (fun E hE => by rw [mWd.sa_sa]; exact kk E hE)
      show upd (w.a 21) (512 + n) _ (512 + j) = _
      by_cases e : j = n
      · subst e
        simp only [upd, if_true]
        first | (rw [if_neg (fun z => h2 (by rw [z]))]; rfl) | (rw [if_pos ((nI_inj (by omega) (by omega)).mp (Classical.not_not.mp h2))]; rfl)
      · have e2 : ¬ 512 + j = 512 + n := by omega
        simp only [upd, if_neg e2]
        exact hlo j (by omega)
    · skip
      refine Sp.go 2 (g := (29, [(3, .int (nI n)), (0, .ref 10), (1, .int (nI g)), (2, .int (v2))], [.int 64, .int (512 + (nI n)), .ref 21])) rfl ?_
      refine Sp.pa21 (j := 512 + n) rfl (m_ix_of (by simp only [nI, Int32.ofNat_add, Int32.ofNat_mul] <;> rfl) (by omega) (by omega)) ?_
      refine Sp.go 2 (g := (2, [(3, .int (nI n + 1)), (0, .ref 10), (1, .int (nI g)), (2, .int (v2))], [])) rfl ?_
      rw [show nI n + 1 = nI (n + 1) from (nI_succ n).symm]
      refine ih (n + 1) (w.sa 21 (upd (w.a 21) (512 + n) (64))) (by omega) (fun j hj => ?_) (fun E hE => by rw [mWd.sa_sa]; exact kk E hE)
      show upd (w.a 21) (512 + n) _ (512 + j) = _
      by_cases e : j = n
      · subst e
        simp only [upd, if_true]
        first | (rw [if_neg (fun z => h2 (by rw [z]))]; rfl) | (rw [if_pos ((nI_inj (by omega) (by omega)).mp (Classical.not_not.mp h2))]; rfl)
      · have e2 : ¬ 512 + j = 512 + n := by omega
        simp only [upd, if_neg e2]
        exact hlo j (by omega)
theorem d_lookBack {X : mX} {C S : Nat} {Q : Outcome → mM → Prop} {w : mWd} {A : aS} (ho : a_ok A) (hj : JR0 w A) {g : Nat} (hg : g < 8) {s : Nat} (hs : s ≤ 64) (hq : ∀ E, (∀ t, s ≤ t → t ≤ 64 → d_Et (a_fr A) g t E) → Q (.returned none) (mw (w.sa 21 E))) : Sp X 62 3 72 C S (0, [(0, .ref 10), (1, .int (nI g)), (2, .int (nI s))], []) (mw w) Q := by
  refine Sp.go 2 (g := (2, [(3, .int 0), (0, .ref 10), (1, .int (nI g)), (2, .int (nI s))], [])) rfl ?_
  refine d_lbA hg 8 0 w rfl (fun j hj9 => absurd hj9 (by omega)) (fun E hE => ?_)
  refine Sp.go 2 (g := (39, [(3, .int 63), (0, .ref 10), (1, .int (nI g)), (2, .int (nI s))], [])) rfl ?_
  rw [show (63 : Int32) = nI (s + (64 - s)) - 1 by rw [show s + (64 - s) = 64 by omega]; rfl]
  refine d_lbB ho hg (64 - s) (w.sa 21 E) (by omega) hj.e (fun t h1 h2 => ?_) (fun E2 hE2 => by rw [mWd.sa_sa]; exact hq E2 hE2)
  have e : t = 64 := by omega
  subst e
  intro n hn
  show E (8 * 64 + n) = _
  rw [show 8 * 64 + n = 512 + n by omega, hE n hn]
  rfl
