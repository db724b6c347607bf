/-! The reference: cut, its end. Rows laid by wip/gen/model8.py. -/
/-- the first place from m on, among d, that p takes -/
def g_fst (p : Nat → Bool) : Nat → Nat → Nat
  | m, 0 => m
  | m, d + 1 => if p m = true then m else g_fst p (m + 1) d
theorem g_fst_eq {p : Nat → Bool} {k : Nat} (hk : p k = true) : ∀ (d m : Nat), m ≤ k → k < m + d → (∀ j, m ≤ j → j < k → ¬ p j = true) → g_fst p m d = k := by
  intro d
  induction d with
  | zero => intro m h1 h2; omega
  | succ d ih =>
    intro m h1 h2 h3
    simp only [g_fst]
    by_cases e : m = k
    · rw [e, if_pos hk]
    · rw [if_neg (h3 m (by omega) (by omega))]
      exact ih (m + 1) (by omega) (by omega) (fun j q1 q2 => h3 j (by omega) q2)
theorem g_fst_has {p : Nat → Bool} : ∀ (d m : Nat), (∃ k, m ≤ k ∧ k < m + d ∧ p k = true) → m ≤ g_fst p m d ∧ g_fst p m d < m + d ∧ p (g_fst p m d) = true ∧ ∀ j, m ≤ j → j < g_fst p m d → ¬ p j = true := by
  intro d
  induction d with
  | zero => intro m h; obtain ⟨k, h1, h2, _⟩ := h; omega
  | succ d ih =>
    intro m h
    simp only [g_fst]
    by_cases e : p m = true
    · rw [if_pos e]; exact ⟨by omega, by omega, e, fun j h1 h2 => by omega⟩
    · rw [if_neg e]
      obtain ⟨k, h1, h2, h3⟩ := h
      have hk : m ≠ k := fun z => e (by rw [z]; exact h3)
      obtain ⟨q1, q2, q3, q4⟩ := ih (m + 1) ⟨k, by omega, by omega, h3⟩
      refine ⟨by omega, by omega, q3, fun j h4 h5 => ?_⟩
      by_cases ej : j = m
      · rw [ej]; exact e
      · exact q4 j (by omega) h5
/-- the row of the best way, laid over r0 -/
def g_row (fr : Nat → Nat → Nat → Bool) (g e : Nat) (r0 : Nat → Nat) (a s : Nat) : Nat → Nat → Nat
  | 0 => g_up r0 s a
  | d + 1 => g_up (g_row fr g e r0 a s d) (s + d + 1) (g_fst (fun m => fr (s + d) (g_row fr g e r0 a s d (s + d)) m && decide (g_E fr g (63 - (s + d)) m = e)) 0 8)
theorem g_row_eq {fr : Nat → Nat → Nat → Bool} {g e : Nat} {r0 : Nat → Nat} {a s : Nat} {r : Nat → Nat} (hs : s ≤ e) (h0 : ∀ i, i < s ∨ e < i → r i = r0 i) (hW : g_W fr g a s e r) : r = g_row fr g e r0 a s (e - s) := by
  have key : ∀ d, s + d ≤ e → ∀ i, g_row fr g e r0 a s d i = if s ≤ i ∧ i ≤ s + d then r i else r0 i := by
    intro d
    induction d with
    | zero =>
      intro _ i
      simp only [g_row, g_up]
      by_cases ei : i = s
      · rw [if_pos ei, if_pos (by omega), ei, hW.1]
      · rw [if_neg ei, if_neg (by omega)]
    | succ d ih =>
      intro hd i
      obtain ⟨h1, h2, h3, h4⟩ := hW.2 (s + d) (by omega) (by omega)
      have hd2 : g_row fr g e r0 a s d (s + d) = r (s + d) := by rw [ih (by omega) (s + d), if_pos (by omega)]
      have hf : g_fst (fun m => fr (s + d) (g_row fr g e r0 a s d (s + d)) m && decide (g_E fr g (63 - (s + d)) m = e)) 0 8 = r (s + d + 1) := by
        rw [hd2]
        refine g_fst_eq (by simp only [h2, h3, Bool.true_and, decide_true]) 8 0 (by omega) (by omega) (fun j _ h6 h7 => h4 j h6 ?_)
        simp only [Bool.and_eq_true, decide_eq_true_eq] at h7
        exact h7
      simp only [g_row, g_up]
      rw [hf]
      by_cases ei : i = s + d + 1
      · rw [if_pos ei, if_pos (by omega), ei]
      · rw [if_neg ei, ih (by omega) i]
        by_cases e2 : s ≤ i ∧ i ≤ s + d
        · rw [if_pos e2, if_pos (by omega)]
        · rw [if_neg e2, if_neg (by omega)]
  funext i
  rw [key (e - s) (by omega) i]
  split
  · rfl
  · exact h0 i (by omega)
theorem g_row_W {fr : Nat → Nat → Nat → Bool} {g e : Nat} {r0 : Nat → Nat} {a s : Nat} (hs : s ≤ e) (he : e ≤ 64) (ha : a < 8) (h8 : ∀ i, i < 65 → r0 i < 8) (hE : g_E fr g (64 - s) a = e) : g_W fr g a s e (g_row fr g e r0 a s (e - s)) ∧ (∀ i, i < 65 → g_row fr g e r0 a s (e - s) i < 8) ∧ ∀ i, i < s ∨ e < i → g_row fr g e r0 a s (e - s) i = r0 i := by
  have key : ∀ d, s + d ≤ e → g_row fr g e r0 a s d s = a ∧ (∀ i, s ≤ i → i < s + d → g_row fr g e r0 a s d (i + 1) < 8 ∧ fr i (g_row fr g e r0 a s d i) (g_row fr g e r0 a s d (i + 1)) = true ∧ g_E fr g (63 - i) (g_row fr g e r0 a s d (i + 1)) = e ∧ ∀ m, m < g_row fr g e r0 a s d (i + 1) → ¬ (fr i (g_row fr g e r0 a s d i) m = true ∧ g_E fr g (63 - i) m = e)) ∧ g_E fr g (64 - (s + d)) (g_row fr g e r0 a s d (s + d)) = e ∧ (∀ i, i < 65 → g_row fr g e r0 a s d i < 8) ∧ ∀ i, i < s ∨ s + d < i → g_row fr g e r0 a s d i = r0 i := by
    intro d
    induction d with
    | zero =>
      intro _
      refine ⟨by simp [g_row, g_up], fun i h1 h2 => by omega, ?_, fun i hi => ?_, fun i hi => ?_⟩
      · simp only [g_row, g_up, Nat.add_zero, if_true]; exact hE
      · simp only [g_row, g_up]; split
        · exact ha
        · exact h8 i hi
      · simp only [g_row, g_up]; rw [if_neg (by omega)]
    | succ d ih =>
      intro hd
      obtain ⟨h1, h2, h3, h4, h5⟩ := ih (by omega)
      obtain ⟨m, hm, hf, hg⟩ := g_has (t := s + d) (by omega) he h3
      obtain ⟨_, q2, q3, q4⟩ := g_fst_has (p := fun m => fr (s + d) (g_row fr g e r0 a s d (s + d)) m && decide (g_E fr g (63 - (s + d)) m = e)) 8 0 ⟨m, by omega, by omega, by simp only [hf, hg, Bool.true_and, decide_true]⟩
      have er : g_row fr g e r0 a s (d + 1) = g_up (g_row fr g e r0 a s d) (s + d + 1) (g_fst (fun m => fr (s + d) (g_row fr g e r0 a s d (s + d)) m && decide (g_E fr g (63 - (s + d)) m = e)) 0 8) := rfl
      generalize g_fst (fun m => fr (s + d) (g_row fr g e r0 a s d (s + d)) m && decide (g_E fr g (63 - (s + d)) m = e)) 0 8 = k at q2 q3 q4 er
      simp only [Bool.and_eq_true, decide_eq_true_eq] at q3 q4
      generalize g_row fr g e r0 a s (d + 1) = r' at er
      generalize g_row fr g e r0 a s d = r at er h1 h2 h3 h4 h5 q3 q4
      subst er
      have lo : ∀ i, i ≤ s + d → g_up r (s + d + 1) k i = r i := fun i hi => by simp only [g_up]; rw [if_neg (by omega)]
      have top : g_up r (s + d + 1) k (s + d + 1) = k := by simp [g_up]
      refine ⟨by rw [lo s (by omega)]; exact h1, fun i g1 g2 => ?_, ?_, fun i hi => ?_, fun i hi => ?_⟩
      · by_cases ei : i = s + d
        · rw [ei, top, lo (s + d) (by omega)]
          exact ⟨by omega, q3.1, q3.2, fun m hm => q4 m (by omega) hm⟩
        · rw [lo i (by omega), lo (i + 1) (by omega)]
          exact h2 i g1 (by omega)
      · rw [show s + (d + 1) = s + d + 1 from rfl, top, show 64 - (s + d + 1) = 63 - (s + d) by omega]; exact q3.2
      · simp only [g_up]; split
        · omega
        · exact h4 i hi
      · simp only [g_up]; rw [if_neg (by omega)]; exact h5 i (by omega)
  obtain ⟨h1, h2, _, h4, h5⟩ := key (e - s) (by omega)
  exact ⟨⟨h1, fun i g1 g2 => h2 i g1 (by omega)⟩, h4, fun i hi => h5 i (by omega)⟩
/-- from where, and how soon, a touched parcel is booked anew -/
def a_s (A : aS) (h : Nat) : Nat := max (A.at h) A.T
def a_e (A : aS) (h : Nat) : Nat := g_E (a_fr A) (A.go h) (64 - a_s A h) (A.nd h (a_s A h))
def a_r (A : aS) (h : Nat) : Nat → Nat := g_row (a_fr A) (A.go h) (a_e A h) (A.nd h) (A.nd h (a_s A h)) (a_s A h) (a_e A h - a_s A h)
def a_anew (A : aS) (h : Nat) : aS := if a_e A h = 99 then A.end h (A.la h) 5 else (A.nds h (a_r A h)).end h (a_e A h) (A.fa h)
def a_news (A : aS) (tc : Nat → Bool) : Nat → aS
  | 0 => A
  | h + 1 => if tc h = true then a_anew (a_news A tc h) h else a_news A tc h
def a_lost (A : aS) (tc : Nat → Bool) : Nat → Nat
  | 0 => 0
  | h + 1 => if tc h = true ∧ a_e (a_news A tc h) h = 99 then a_lost A tc h + 1 else a_lost A tc h
theorem a_lost_le (A : aS) (tc : Nat → Bool) : ∀ h, a_lost A tc h ≤ h := by
  intro h
  induction h with
  | zero => exact Nat.le_refl _
  | succ h ih => simp only [a_lost]; split <;> omega
theorem a_anew_same (A : aS) (h : Nat) : (a_anew A h).T = A.T ∧ (a_anew A h).nc = A.nc ∧ (a_anew A h).P = A.P ∧ (a_anew A h).pl = A.pl ∧ (a_anew A h).op = A.op ∧ (a_anew A h).go = A.go ∧ (a_anew A h).at = A.at ∧ ∀ j, j ≠ h → (a_anew A h).la j = A.la j ∧ (a_anew A h).fa j = A.fa j ∧ (a_anew A h).nd j = A.nd j := by
  unfold a_anew
  split
  · refine ⟨rfl, rfl, rfl, rfl, rfl, rfl, rfl, fun j hj => ⟨if_neg hj, if_neg hj, rfl⟩⟩
  · refine ⟨rfl, rfl, rfl, rfl, rfl, rfl, rfl, fun j hj => ⟨if_neg hj, if_neg hj, if_neg hj⟩⟩
theorem a_news_same (A : aS) (tc : Nat → Bool) : ∀ h, (a_news A tc h).T = A.T ∧ (a_news A tc h).nc = A.nc ∧ (a_news A tc h).P = A.P ∧ (a_news A tc h).pl = A.pl ∧ (a_news A tc h).op = A.op ∧ (a_news A tc h).go = A.go ∧ (a_news A tc h).at = A.at ∧ ∀ j, (h ≤ j ∨ tc j = false) → (a_news A tc h).la j = A.la j ∧ (a_news A tc h).fa j = A.fa j ∧ (a_news A tc h).nd j = A.nd j := by
  intro h
  induction h with
  | zero => exact ⟨rfl, rfl, rfl, rfl, rfl, rfl, rfl, fun j hj => ⟨rfl, rfl, rfl⟩⟩
  | succ h ih =>
    obtain ⟨h1, h2, h3, h4, h5, h6, h7, h8⟩ := ih
    simp only [a_news]
    by_cases ht : tc h = true
    · rw [if_pos ht]
      obtain ⟨k1, k2, k3, k4, k5, k6, k7, k8⟩ := a_anew_same (a_news A tc h) h
      refine ⟨k1.trans h1, k2.trans h2, k3.trans h3, k4.trans h4, k5.trans h5, k6.trans h6, k7.trans h7, fun j hj => ?_⟩
      have hjh : j ≠ h := by
        intro e
        rcases hj with q | q
        · omega
        · rw [e, ht] at q; cases q
      obtain ⟨q1, q2, q3⟩ := k8 j hjh
      obtain ⟨p1, p2, p3⟩ := h8 j (hj.imp (fun q => by omega) id)
      exact ⟨q1.trans p1, q2.trans p2, q3.trans p3⟩
    · rw [if_neg ht]
      exact ⟨h1, h2, h3, h4, h5, h6, h7, fun j hj => h8 j (hj.imp (fun q => by omega) id)⟩
theorem a_e_at {A : aS} (ho : a_ok A) {h : Nat} (hh : h < A.P) : a_e A h = 99 ∨ (a_s A h ≤ a_e A h ∧ a_e A h ≤ 64) := by
  have h1 := ho.1
  have h2 := (ho.2.2.2.2 h hh).2.1
  have hs : a_s A h ≤ 64 := by unfold a_s; omega
  rcases g_E_at (a_fr A) (A.go h) (64 - a_s A h) (A.nd h (a_s A h)) (by omega) with q | ⟨q1, q2, _⟩
  · exact Or.inl q
  · right
    have q1 : 64 - (64 - a_s A h) ≤ a_e A h := q1
    exact ⟨by omega, q2⟩
theorem a_r_W {A : aS} (ho : a_ok A) {h : Nat} (hh : h < A.P) (he : a_e A h ≠ 99) : g_W (a_fr A) (A.go h) (A.nd h (a_s A h)) (a_s A h) (a_e A h) (a_r A h) ∧ (∀ i, i < 65 → a_r A h i < 8) ∧ ∀ i, i < a_s A h ∨ a_e A h < i → a_r A h i = A.nd h i := by
  obtain ⟨q1, q2⟩ := (a_e_at ho hh).resolve_left he
  have h2 := ho.2.2.2.2 h hh
  exact g_row_W q1 q2 (h2.2.2.2 _ (by omega)) h2.2.2.2 rfl
theorem a_ok.end {A : aS} (ho : a_ok A) {h l f : Nat} (hl : h < A.P → l ≤ 64) : a_ok (A.end h l f) := by
  obtain ⟨h1, h2, h3, h4, h5⟩ := ho
  refine ⟨h1, h2, h3, h4, fun j hj => ⟨(h5 j hj).1, (h5 j hj).2.1, ?_, (h5 j hj).2.2.2⟩⟩
  show (if j = h then l else A.la j) ≤ 64
  split
  · rename_i e; subst e; exact hl hj
  · exact (h5 j hj).2.2.1
theorem a_anew_ok {A : aS} (ho : a_ok A) {h : Nat} (hh : h < A.P) : a_ok (a_anew A h) := by
  unfold a_anew
  split
  · exact ho.end (fun _ => (ho.2.2.2.2 h hh).2.2.1)
  · rename_i he
    exact (ho.nds (a_r_W ho hh he).2.1).end (fun _ => ((a_e_at ho hh).resolve_left he).2)
theorem a_news_ok {A : aS} (ho : a_ok A) {tc : Nat → Bool} : ∀ h, h ≤ A.P → a_ok (a_news A tc h) := by
  intro h
  induction h with
  | zero => intro _; exact ho
  | succ h ih =>
    intro hh
    simp only [a_news]
    split
    · exact a_anew_ok (ih (by omega)) (by rw [(a_news_same A tc h).2.2.1]; omega)
    · exact ih (by omega)
theorem JR.nds {w : mWd} {A : aS} (hj : JR w A) (ho : a_ok A) {h e : Nat} {r : Nat → Nat} (hs : h < A.P → r (A.at h) = A.nd h (A.at h)) : JR ((w.sa 19 (d_row (w.a 19) h r)).sa 18 (upd (w.a 18) h (nI e))) ((A.nds h r).end h e (A.fa h)) := by
  obtain ⟨h0, h7⟩ := hj
  obtain ⟨h1, h2, h3, h4, h5, h6, _⟩ := h0.nds (h := h) (r := r) ho hs
  refine ⟨⟨h1, h2, h3, h4, h5, fun j hj => ?_, trivial⟩, fun j hj i hi => ?_⟩
  · obtain ⟨k1, k2, k3, k4, k5, k6, k7⟩ := h6 j hj
    refine ⟨k1, k2, k3, ?_, k5, ?_, k7⟩
    · show w.a 16 j = nI (if j = h then A.fa h else A.fa j)
      split
      · rename_i e; subst e; exact k4
      · exact k4
    · show upd (w.a 18) h (nI e) j = nI (if j = h then e else A.la j)
      unfold upd; split
      · rfl
      · exact k6
  · show d_row (w.a 19) h r (65 * j + i) = nI ((if j = h then r else A.nd j) i)
    split
    · rename_i e; subst e; exact d_row_at hi
    · rename_i e; rw [d_row_ne hi e]; exact h7 j hj i hi
set_option maxRecDepth 20000 in
theorem d_newsK {X : mX} {C S : Nat} {Q : Outcome → mM → Prop} {A : aS} (ho : a_ok A) {tc : Nat → Bool} (hT : ∀ j, j < A.P → tc j = true → A.T < 64 ∧ A.la j ≤ a_s A j) {v1 v2 : Int32} : ∀ (d h c : Nat) (w : mWd), h + d = A.P → c = a_lost A tc h → JR w (a_news A tc h) → (∀ j, j < A.P → w.a 20 j = m_b2 (tc j)) → (∀ w', JR w' (a_news A tc A.P) → sC w w' → w'.f 5 = w.f 5 → Q (.returned (some (.int (nI (a_lost A tc A.P))))) (mw w')) → Sp X 75 5 123 C S (182, [(4, .int (nI h)), (3, .int (nI c)), (0, .ref 10), (1, .int (v1)), (2, .int (v2))], []) (mw w) Q := by
  have h32 := ho.2.2.1
  have hT64 := ho.1
  intro d
  induction d with
  | zero =>
    intro h c w hd hc hjr htc kk
    have hS := a_news_same A tc h
    refine Sp.go 2 (g := (185, [(4, .int (nI h)), (3, .int (nI c)), (0, .ref 10), (1, .int (v1)), (2, .int (v2))], [.ref 10, .int (nI h)])) rfl ?_
    refine Sp.get (v := .int (nI (A.P))) rfl rfl (by rw [← (show w.f 8 = nI A.P from (hjr.1.ps).trans (by rw [hS.2.2.1]))]; rfl) ?_
    refine Sp.icmp rfl (fun u1 => ?_) (fun u1 => absurd ((nI_le' (by omega) (by omega)).mpr (by omega)) u1)
    refine Sp.go 1 (g := (325, [(4, .int (nI h)), (3, .int (nI c)), (0, .ref 10), (1, .int (v1)), (2, .int (v2))], [.int (nI c)])) rfl ?_
    refine Sp.iret rfl (Or.inl rfl) ?_
    have e : h = A.P := by omega
    rw [e] at hc hjr
    rw [hc]
    exact kk w hjr (sC.refl w) rfl
  | succ d ih =>
    intro h c w hd hc hjr htc kk
    have hS := a_news_same A tc h
    have hh : h < A.P := by omega
    have hcl : c ≤ h := by rw [hc]; exact a_lost_le A tc h
    have hoB := a_news_ok (tc := tc) ho h (by omega)
    have hhB : h < (a_news A tc h).P := by rw [hS.2.2.1]; exact hh
    have hB4 := hoB.2.2.2.2 h hhB
    have hBT : (a_news A tc h).T = A.T := hS.1
    have hBat : (a_news A tc h).at h = A.at h := by rw [hS.2.2.2.2.2.2.1]
    have hBla : (a_news A tc h).la h = A.la h := (hS.2.2.2.2.2.2.2 h (Or.inl (Nat.le_refl _))).1
    have hTT := hT h hh
    have es : a_s (a_news A tc h) h = a_s A h := by unfold a_s; rw [hBT, hBat]
    generalize hB : a_news A tc h = B at *
    refine Sp.go 2 (g := (185, [(4, .int (nI h)), (3, .int (nI c)), (0, .ref 10), (1, .int (v1)), (2, .int (v2))], [.ref 10, .int (nI h)])) rfl ?_
    refine Sp.get (v := .int (nI (A.P))) rfl rfl (by rw [← (show w.f 8 = nI A.P from (hjr.1.ps).trans (by rw [hS.2.2.1]))]; rfl) ?_
    refine Sp.icmp rfl (fun u1 => absurd u1 (fun z => absurd ((nI_le' (by omega) (by omega)).mp z) (by omega))) (fun u1 => ?_)
    refine Sp.go 1 (g := (192, [(4, .int (nI h)), (3, .int (nI c)), (0, .ref 10), (1, .int (v1)), (2, .int (v2))], [.ref 10])) rfl ?_
    refine Sp.get (v := .ref 20) rfl rfl rfl ?_
    refine Sp.go 1 (g := (197, [(4, .int (nI h)), (3, .int (nI c)), (0, .ref 10), (1, .int (v1)), (2, .int (v2))], [.int (nI h), .ref 20])) rfl ?_
    refine Sp.zald (f := w.a 20) (j := h) rfl rfl (m_ix_of (by simp only [nI, Int32.ofNat_add, Int32.ofNat_mul] <;> rfl) (by omega) (by omega)) ?_
    rw [htc h hh]
    refine Sp.ifb rfl (fun h2 => ?_) (fun h2 => ?_)
    · skip
      refine Sp.go 2 (g := (182, [(4, .int (nI h + 1)), (3, .int (nI c)), (0, .ref 10), (1, .int (v1)), (2, .int (v2))], [])) rfl ?_
      rw [show nI h + 1 = nI (h + 1) from (nI_succ h).symm]
      refine ih (h + 1) c w (by omega) (by simp only [a_lost, h2, Bool.false_eq_true, false_and, if_false]; exact hc) (by simp only [a_news, h2, Bool.false_eq_true, if_false]; rw [hB]; exact hjr) htc kk
    · skip
      refine Sp.go 1 (g := (202, [(4, .int (nI h)), (3, .int (nI c)), (0, .ref 10), (1, .int (v1)), (2, .int (v2))], [.ref 10])) rfl ?_
      refine Sp.get (v := .ref 15) rfl rfl rfl ?_
      refine Sp.go 1 (g := (207, [(4, .int (nI h)), (3, .int (nI c)), (0, .ref 10), (1, .int (v1)), (2, .int (v2))], [.int (nI h), .ref 15])) rfl ?_
      refine Sp.iald (f := w.a 15) (j := h) rfl rfl (m_ix_of (by simp only [nI, Int32.ofNat_add, Int32.ofNat_mul] <;> rfl) (by omega) (by omega)) ?_
      rw [hjr.1.sta hhB]
      refine Sp.go 1 (g := (209, [(4, .int (nI h)), (3, .int (nI c)), (0, .ref 10), (1, .int (v1)), (2, .int (v2))], [.ref 10, .int (nI (B.at h))])) rfl ?_
      refine Sp.get (v := .int (nI (B.T))) rfl rfl (by rw [← hjr.1.now]; rfl) ?_
      refine Sp.icmp rfl (fun (h3 : (nI (B.T) : Int32) < (nI (B.at h) : Int32)) => ?_) (fun (h3 : ¬ ((nI (B.T) : Int32) < (nI (B.at h) : Int32))) => ?_)
      · skip
        refine Sp.go 3 (g := (224, [(5, .int 0), (4, .int (nI h)), (3, .int (nI c)), (0, .ref 10), (1, .int (v1)), (2, .int (v2))], [.int 0])) rfl ?_
        refine Sp.if rfl (fun u4 => ?_) (fun u4 => absurd (show (0 : Int32) = 0 by decide) u4)
        refine Sp.go 1 (g := (235, [(5, .int 0), (4, .int (nI h)), (3, .int (nI c)), (0, .ref 10), (1, .int (v1)), (2, .int (v2))], [.ref 10])) rfl ?_
        refine Sp.get (v := .ref 15) rfl rfl rfl ?_
        refine Sp.go 1 (g := (240, [(5, .int 0), (4, .int (nI h)), (3, .int (nI c)), (0, .ref 10), (1, .int (v1)), (2, .int (v2))], [.int (nI h), .ref 15])) rfl ?_
        refine Sp.iald (f := w.a 15) (j := h) rfl rfl (m_ix_of (by simp only [nI, Int32.ofNat_add, Int32.ofNat_mul] <;> rfl) (by omega) (by omega)) ?_
        rw [hjr.1.sta hhB]
        refine Sp.go 2 (g := (245, [(6, .int (nI (B.at h))), (5, .int 0), (4, .int (nI h)), (3, .int (nI c)), (0, .ref 10), (1, .int (v1)), (2, .int (v2))], [.int 0])) rfl ?_
        refine Sp.if rfl (fun u5 => ?_) (fun u5 => absurd (show (0 : Int32) = 0 by decide) u5)
        refine Sp.go 1 (g := (267, [(6, .int (nI (B.at h))), (5, .int 0), (4, .int (nI h)), (3, .int (nI c)), (0, .ref 10), (1, .int (v1)), (2, .int (v2))], [.ref 10])) rfl ?_
        refine Sp.get (v := .ref 14) rfl rfl rfl ?_
        refine Sp.go 1 (g := (272, [(6, .int (nI (B.at h))), (5, .int 0), (4, .int (nI h)), (3, .int (nI c)), (0, .ref 10), (1, .int (v1)), (2, .int (v2))], [.int (nI h), .ref 14])) rfl ?_
        refine Sp.iald (f := w.a 14) (j := h) rfl rfl (m_ix_of (by simp only [nI, Int32.ofNat_add, Int32.ofNat_mul] <;> rfl) (by omega) (by omega)) ?_
        rw [hjr.1.src hhB]
        refine Sp.go 1 (g := (275, [(7, .int (nI (B.nd h (B.at h)))), (6, .int (nI (B.at h))), (5, .int 0), (4, .int (nI h)), (3, .int (nI c)), (0, .ref 10), (1, .int (v1)), (2, .int (v2))], [])) rfl ?_
        have e6 : B.at h = a_s B h := by unfold a_s; first | (rw [nI_le' (by omega) (by omega)] at h3; omega) | (rw [nI_lt' (by omega) (by omega)] at h3; omega)
        have e7 : B.nd h (B.at h) = B.nd h (a_s B h) := by rw [← e6]
        rw [e7, e6]
        have hs64 : a_s B h < 64 := by have := (hTT h2).1; rw [← hBT] at this; unfold a_s; omega
        have hn8 := hB4.2.2.2 (a_s B h) (by omega)
        refine Sp.go 3 (g := (279, [(7, .int (nI (B.nd h (a_s B h)))), (6, .int (nI (a_s B h))), (5, .int 0), (4, .int (nI h)), (3, .int (nI c)), (0, .ref 10), (1, .int (v1)), (2, .int (v2))], [.ref 10, .int (nI (B.nd h (a_s B h))), .ref 10])) rfl ?_
        refine Sp.get (v := .ref 13) rfl rfl rfl ?_
        refine Sp.go 1 (g := (284, [(7, .int (nI (B.nd h (a_s B h)))), (6, .int (nI (a_s B h))), (5, .int 0), (4, .int (nI h)), (3, .int (nI c)), (0, .ref 10), (1, .int (v1)), (2, .int (v2))], [.int (nI h), .ref 13, .int (nI (B.nd h (a_s B h))), .ref 10])) rfl ?_
        refine Sp.iald (f := w.a 13) (j := h) rfl rfl (m_ix_of (by simp only [nI, Int32.ofNat_add, Int32.ofNat_mul] <;> rfl) (by omega) (by omega)) ?_
        rw [hjr.1.go hhB]
        refine Sp.go 1 (g := (287, [(7, .int (nI (B.nd h (a_s B h)))), (6, .int (nI (a_s B h))), (5, .int 0), (4, .int (nI h)), (3, .int (nI c)), (0, .ref 10), (1, .int (v1)), (2, .int (v2))], [.int (nI (a_s B h)), .int (nI (B.go h)), .int (nI (B.nd h (a_s B h))), .ref 10])) rfl ?_
        refine Sp.callV (Qc := fun o M' => ∃ (E : Nat → Int32), (∀ t, a_s B h ≤ t → t ≤ 64 → d_Et (a_fr B) (B.go h) t E) ∧ o = .returned (some (.int (g_ans (a_e B h)))) ∧ M' = mw (w.sa 21 (E))) (k' := 63) (F' := 4) (N' := 99) (C' := 0) (S' := 0) (vs := [.int (nI (B.nd h (a_s B h))), .int (nI (B.go h)), .int (nI (a_s B h))]) (st := []) rfl rfl rfl rfl (Nat.le_of_ble_eq_true rfl) (Nat.le_of_ble_eq_true rfl) (by decide) (by decide) (Nat.zero_le _) (Nat.zero_le _) (d_best (A := B) hoB hjr.1 hB4.1 hn8 (by omega) (fun E hE => ⟨E, hE, rfl, rfl⟩)) (fun v M' h => ?_) (fun q M' h => by obtain ⟨_, _, h, _⟩ := h; cases h)
        obtain ⟨E, hE, h, rfl⟩ := h
        cases h
        refine Sp.go 1 (g := (291, [(7, .int (nI (B.nd h (a_s B h)))), (6, .int (nI (a_s B h))), (5, .int 0), (4, .int (nI h)), (3, .int (nI c)), (0, .ref 10), (1, .int (v1)), (2, .int (v2))], [.int (-1), .int (g_ans (a_e B h))])) rfl ?_
        refine Sp.icmp rfl (fun (h51 : ¬ (g_ans (a_e B h) : Int32) = (-1 : Int32)) => ?_) (fun (h51 : ¬ (¬ (g_ans (a_e B h) : Int32) = (-1 : Int32))) => ?_)
        · skip
          have he9 : a_e B h ≠ 99 := fun z => h51 (by rw [z]; rfl)
          have hee := (a_e_at hoB hhB).resolve_left he9
          refine Sp.go 4 (g := (315, [(7, .int (nI (B.nd h (a_s B h)))), (6, .int (nI (a_s B h))), (5, .int 0), (4, .int (nI h)), (3, .int (nI c)), (0, .ref 10), (1, .int (v1)), (2, .int (v2))], [.int (nI (a_s B h)), .int (nI (B.nd h (a_s B h))), .int (nI h), .ref 10])) rfl ?_
          refine Sp.callV (Qc := fun o M' => ∃ (r : Nat → Nat), (∀ i, i < 65 → r i < 8) ∧ (∀ i, i < a_s B h ∨ a_e B h < i → r i = B.nd h i) ∧ (g_W (a_fr B) (B.go h) (B.nd h (a_s B h)) (a_s B h) (a_e B h) r) ∧ o = .returned (none) ∧ M' = mw ((((w).sa 21 (E)).sa 19 (d_row (w.a 19) h r)).sa 18 (upd (w.a 18) h (nI (a_e B h))))) (k' := 64) (F' := 3) (N' := 72) (C' := 0) (S' := 0) (vs := [.int (nI h), .int (nI (B.nd h (a_s B h))), .int (nI (a_s B h))]) (st := []) rfl rfl rfl rfl (Nat.le_of_ble_eq_true rfl) (Nat.le_of_ble_eq_true rfl) (by decide) (by decide) (Nat.zero_le _) (Nat.zero_le _) (d_lay (A := B) (g := B.go h) (e := a_e B h) (r := B.nd h) hoB (by omega) hn8 hs64 hee.2 hee.1 (fun _ => ⟨by rw [hBla, es]; exact (hTT h2).2, by unfold a_s; omega, rfl⟩) (fun i hi => ⟨hjr.1.nd hhB hi, hB4.2.2.2 i hi⟩) hjr.1 hE rfl (fun r hr1 hr2 hr3 => ⟨r, hr1, hr2, hr3, rfl, rfl⟩)) (fun v M' h => ?_) (fun q M' h => by obtain ⟨_, _, _, _, h, _⟩ := h; cases h)
          obtain ⟨r, hr1, hr2, hr3, h, rfl⟩ := h
          cases h
          refine Sp.go 2 (g := (182, [(4, .int (nI h + 1)), (7, .int (nI (B.nd h (a_s B h)))), (6, .int (nI (a_s B h))), (5, .int 0), (3, .int (nI c)), (0, .ref 10), (1, .int (v1)), (2, .int (v2))], [])) rfl ?_
          refine Sp.lsub [0, 4, 5, 6, 7] (ls' := [(4, .int (nI h + 1)), (3, .int (nI c)), (0, .ref 10), (1, .int (v1)), (2, .int (v2))]) rfl ?_
          rw [show nI h + 1 = nI (h + 1) from (nI_succ h).symm]
          have er : r = a_r B h := g_row_eq hee.1 hr2 hr3
          have hat : B.at h ≤ a_s B h := by unfold a_s; omega
          have hn2 : JR ((w.sa 19 (d_row (w.a 19) h r)).sa 18 (upd (w.a 18) h (nI (a_e B h)))) ((B.nds h r).end h (a_e B h) (B.fa h)) := hjr.nds hoB (fun _ => ?_)
          · refine ih (h + 1) c ((((w).sa 21 (E)).sa 19 (d_row (w.a 19) h r)).sa 18 (upd (w.a 18) h (nI (a_e B h)))) (by omega) (by simp only [a_lost]; rw [hB, if_neg (fun z => he9 z.2)]; exact hc) (by simp only [a_news]; rw [if_pos h2, hB]; unfold a_anew; rw [if_neg he9, ← er]; exact hn2) htc (fun w2 k1 k2 k3 => kk w2 k1 ((sC.trans (sC.trans (sC.s21 E) (sC.s19 _)) (sC.s18 _)).trans k2) k3)
          · by_cases e9 : B.at h = a_s B h
            · rw [e9]; exact hr3.1
            · exact hr2 _ (by omega)
        · skip
          refine Sp.go 1 (g := (295, [(7, .int (nI (B.nd h (a_s B h)))), (6, .int (nI (a_s B h))), (5, .int 0), (4, .int (nI h)), (3, .int (nI c)), (0, .ref 10), (1, .int (v1)), (2, .int (v2))], [.ref 10])) rfl ?_
          refine Sp.get (v := .ref 16) rfl rfl rfl ?_
          refine Sp.go 2 (g := (301, [(7, .int (nI (B.nd h (a_s B h)))), (6, .int (nI (a_s B h))), (5, .int 0), (4, .int (nI h)), (3, .int (nI c)), (0, .ref 10), (1, .int (v1)), (2, .int (v2))], [.int 5, .int (nI h), .ref 16])) rfl ?_
          refine Sp.pa16 (j := h) rfl (m_ix_of (by simp only [nI, Int32.ofNat_add, Int32.ofNat_mul] <;> rfl) (by omega) (by omega)) ?_
          refine Sp.wd (w' := ((w).sa 21 (E)).sa 16 (upd (w.a 16) h (5))) rfl ?_
          refine Sp.go 4 (g := (182, [(4, .int (nI h + 1)), (3, .int (nI c + 1)), (7, .int (nI (B.nd h (a_s B h)))), (6, .int (nI (a_s B h))), (5, .int 0), (0, .ref 10), (1, .int (v1)), (2, .int (v2))], [])) rfl ?_
          refine Sp.lsub [0, 1, 5, 6, 7] (ls' := [(4, .int (nI h + 1)), (3, .int (nI c + 1)), (0, .ref 10), (1, .int (v1)), (2, .int (v2))]) rfl ?_
          rw [show nI h + 1 = nI (h + 1) from (nI_succ h).symm, show nI c + 1 = nI (c + 1) from (nI_succ c).symm]
          have he9 : a_e B h = 99 := by
            rcases a_e_at hoB hhB with q | q
            · exact q
            · exact absurd (Classical.not_not.mp h51) (g_ans_ne q.2)
          have hn2 : JR (w.sa 16 (upd (w.a 16) h (nI 5))) (B.end h (B.la h) 5) := by
            have k := hjr.end (h := h) (l := B.la h) (f := 5)
            rw [← hjr.1.la hhB, upd_self, mWd.sa_self] at k
            exact k
          refine ih (h + 1) (c + 1) (((w).sa 21 (E)).sa 16 (upd (w.a 16) h (5))) (by omega) (by simp only [a_lost]; rw [hB, if_pos ⟨h2, he9⟩, ← hc]) (by simp only [a_news]; rw [if_pos h2, hB]; unfold a_anew; rw [if_pos he9]; exact hn2) htc (fun w2 k1 k2 k3 => kk w2 k1 ((sC.trans (sC.s21 E) (sC.s16 _)).trans k2) k3)
      · skip
        refine Sp.go 4 (g := (224, [(5, .int 1), (4, .int (nI h)), (3, .int (nI c)), (0, .ref 10), (1, .int (v1)), (2, .int (v2))], [.int 1])) rfl ?_
        refine Sp.if rfl (fun u6 => absurd u6 (show ¬ ((1 : Int32) = 0) by decide)) (fun u6 => ?_)
        refine Sp.go 1 (g := (228, [(5, .int 1), (4, .int (nI h)), (3, .int (nI c)), (0, .ref 10), (1, .int (v1)), (2, .int (v2))], [.ref 10])) rfl ?_
        refine Sp.get (v := .int (nI (B.T))) rfl rfl (by rw [← hjr.1.now]; rfl) ?_
        refine Sp.go 3 (g := (245, [(6, .int (nI (B.T))), (5, .int 1), (4, .int (nI h)), (3, .int (nI c)), (0, .ref 10), (1, .int (v1)), (2, .int (v2))], [.int 1])) rfl ?_
        refine Sp.if rfl (fun u7 => absurd u7 (show ¬ ((1 : Int32) = 0) by decide)) (fun u7 => ?_)
        refine Sp.go 1 (g := (249, [(6, .int (nI (B.T))), (5, .int 1), (4, .int (nI h)), (3, .int (nI c)), (0, .ref 10), (1, .int (v1)), (2, .int (v2))], [.ref 10])) rfl ?_
        refine Sp.get (v := .ref 19) rfl rfl rfl ?_
        refine Sp.go 4 (g := (258, [(6, .int (nI (B.T))), (5, .int 1), (4, .int (nI h)), (3, .int (nI c)), (0, .ref 10), (1, .int (v1)), (2, .int (v2))], [.ref 10, .int (65 * (nI h)), .ref 19])) rfl ?_
        refine Sp.get (v := .int (nI (B.T))) rfl rfl (by rw [← hjr.1.now]; rfl) ?_
        refine Sp.go 1 (g := (262, [(6, .int (nI (B.T))), (5, .int 1), (4, .int (nI h)), (3, .int (nI c)), (0, .ref 10), (1, .int (v1)), (2, .int (v2))], [.int ((65 * (nI h)) + (nI (B.T))), .ref 19])) rfl ?_
        refine Sp.iald (f := w.a 19) (j := (65 * h) + (B.T)) rfl rfl (m_ix_of (by simp only [nI, Int32.ofNat_add, Int32.ofNat_mul] <;> rfl) (by omega) (by omega)) ?_
        rw [hjr.1.nd hhB (by omega)]
        refine Sp.go 2 (g := (275, [(7, .int (nI (B.nd h B.T))), (6, .int (nI (B.T))), (5, .int 1), (4, .int (nI h)), (3, .int (nI c)), (0, .ref 10), (1, .int (v1)), (2, .int (v2))], [])) rfl ?_
        have e6 : B.T = a_s B h := by unfold a_s; first | (rw [nI_le' (by omega) (by omega)] at h3; omega) | (rw [nI_lt' (by omega) (by omega)] at h3; omega)
        have e7 : B.nd h B.T = B.nd h (a_s B h) := by rw [← e6]
        rw [e7, e6]
        have hs64 : a_s B h < 64 := by have := (hTT h2).1; rw [← hBT] at this; unfold a_s; omega
        have hn8 := hB4.2.2.2 (a_s B h) (by omega)
        refine Sp.go 3 (g := (279, [(7, .int (nI (B.nd h (a_s B h)))), (6, .int (nI (a_s B h))), (5, .int 1), (4, .int (nI h)), (3, .int (nI c)), (0, .ref 10), (1, .int (v1)), (2, .int (v2))], [.ref 10, .int (nI (B.nd h (a_s B h))), .ref 10])) rfl ?_
        refine Sp.get (v := .ref 13) rfl rfl rfl ?_
        refine Sp.go 1 (g := (284, [(7, .int (nI (B.nd h (a_s B h)))), (6, .int (nI (a_s B h))), (5, .int 1), (4, .int (nI h)), (3, .int (nI c)), (0, .ref 10), (1, .int (v1)), (2, .int (v2))], [.int (nI h), .ref 13, .int (nI (B.nd h (a_s B h))), .ref 10])) rfl ?_
        refine Sp.iald (f := w.a 13) (j := h) rfl rfl (m_ix_of (by simp only [nI, Int32.ofNat_add, Int32.ofNat_mul] <;> rfl) (by omega) (by omega)) ?_
        rw [hjr.1.go hhB]
        refine Sp.go 1 (g := (287, [(7, .int (nI (B.nd h (a_s B h)))), (6, .int (nI (a_s B h))), (5, .int 1), (4, .int (nI h)), (3, .int (nI c)), (0, .ref 10), (1, .int (v1)), (2, .int (v2))], [.int (nI (a_s B h)), .int (nI (B.go h)), .int (nI (B.nd h (a_s B h))), .ref 10])) rfl ?_
        refine Sp.callV (Qc := fun o M' => ∃ (E : Nat → Int32), (∀ t, a_s B h ≤ t → t ≤ 64 → d_Et (a_fr B) (B.go h) t E) ∧ o = .returned (some (.int (g_ans (a_e B h)))) ∧ M' = mw (w.sa 21 (E))) (k' := 63) (F' := 4) (N' := 99) (C' := 0) (S' := 0) (vs := [.int (nI (B.nd h (a_s B h))), .int (nI (B.go h)), .int (nI (a_s B h))]) (st := []) rfl rfl rfl rfl (Nat.le_of_ble_eq_true rfl) (Nat.le_of_ble_eq_true rfl) (by decide) (by decide) (Nat.zero_le _) (Nat.zero_le _) (d_best (A := B) hoB hjr.1 hB4.1 hn8 (by omega) (fun E hE => ⟨E, hE, rfl, rfl⟩)) (fun v M' h => ?_) (fun q M' h => by obtain ⟨_, _, h, _⟩ := h; cases h)
        obtain ⟨E, hE, h, rfl⟩ := h
        cases h
        refine Sp.go 1 (g := (291, [(7, .int (nI (B.nd h (a_s B h)))), (6, .int (nI (a_s B h))), (5, .int 1), (4, .int (nI h)), (3, .int (nI c)), (0, .ref 10), (1, .int (v1)), (2, .int (v2))], [.int (-1), .int (g_ans (a_e B h))])) rfl ?_
        refine Sp.icmp rfl (fun (h51 : ¬ (g_ans (a_e B h) : Int32) = (-1 : Int32)) => ?_) (fun (h51 : ¬ (¬ (g_ans (a_e B h) : Int32) = (-1 : Int32))) => ?_)
        · skip
          have he9 : a_e B h ≠ 99 := fun z => h51 (by rw [z]; rfl)
          have hee := (a_e_at hoB hhB).resolve_left he9
          refine Sp.go 4 (g := (315, [(7, .int (nI (B.nd h (a_s B h)))), (6, .int (nI (a_s B h))), (5, .int 1), (4, .int (nI h)), (3, .int (nI c)), (0, .ref 10), (1, .int (v1)), (2, .int (v2))], [.int (nI (a_s B h)), .int (nI (B.nd h (a_s B h))), .int (nI h), .ref 10])) rfl ?_
          refine Sp.callV (Qc := fun o M' => ∃ (r : Nat → Nat), (∀ i, i < 65 → r i < 8) ∧ (∀ i, i < a_s B h ∨ a_e B h < i → r i = B.nd h i) ∧ (g_W (a_fr B) (B.go h) (B.nd h (a_s B h)) (a_s B h) (a_e B h) r) ∧ o = .returned (none) ∧ M' = mw ((((w).sa 21 (E)).sa 19 (d_row (w.a 19) h r)).sa 18 (upd (w.a 18) h (nI (a_e B h))))) (k' := 64) (F' := 3) (N' := 72) (C' := 0) (S' := 0) (vs := [.int (nI h), .int (nI (B.nd h (a_s B h))), .int (nI (a_s B h))]) (st := []) rfl rfl rfl rfl (Nat.le_of_ble_eq_true rfl) (Nat.le_of_ble_eq_true rfl) (by decide) (by decide) (Nat.zero_le _) (Nat.zero_le _) (d_lay (A := B) (g := B.go h) (e := a_e B h) (r := B.nd h) hoB (by omega) hn8 hs64 hee.2 hee.1 (fun _ => ⟨by rw [hBla, es]; exact (hTT h2).2, by unfold a_s; omega, rfl⟩) (fun i hi => ⟨hjr.1.nd hhB hi, hB4.2.2.2 i hi⟩) hjr.1 hE rfl (fun r hr1 hr2 hr3 => ⟨r, hr1, hr2, hr3, rfl, rfl⟩)) (fun v M' h => ?_) (fun q M' h => by obtain ⟨_, _, _, _, h, _⟩ := h; cases h)
          obtain ⟨r, hr1, hr2, hr3, h, rfl⟩ := h
          cases h
          refine Sp.go 2 (g := (182, [(4, .int (nI h + 1)), (7, .int (nI (B.nd h (a_s B h)))), (6, .int (nI (a_s B h))), (5, .int 1), (3, .int (nI c)), (0, .ref 10), (1, .int (v1)), (2, .int (v2))], [])) rfl ?_
          refine Sp.lsub [0, 4, 5, 6, 7] (ls' := [(4, .int (nI h + 1)), (3, .int (nI c)), (0, .ref 10), (1, .int (v1)), (2, .int (v2))]) rfl ?_
          rw [show nI h + 1 = nI (h + 1) from (nI_succ h).symm]
          have er : r = a_r B h := g_row_eq hee.1 hr2 hr3
          have hat : B.at h ≤ a_s B h := by unfold a_s; omega
          have hn2 : JR ((w.sa 19 (d_row (w.a 19) h r)).sa 18 (upd (w.a 18) h (nI (a_e B h)))) ((B.nds h r).end h (a_e B h) (B.fa h)) := hjr.nds hoB (fun _ => ?_)
          · refine ih (h + 1) c ((((w).sa 21 (E)).sa 19 (d_row (w.a 19) h r)).sa 18 (upd (w.a 18) h (nI (a_e B h)))) (by omega) (by simp only [a_lost]; rw [hB, if_neg (fun z => he9 z.2)]; exact hc) (by simp only [a_news]; rw [if_pos h2, hB]; unfold a_anew; rw [if_neg he9, ← er]; exact hn2) htc (fun w2 k1 k2 k3 => kk w2 k1 ((sC.trans (sC.trans (sC.s21 E) (sC.s19 _)) (sC.s18 _)).trans k2) k3)
          · by_cases e9 : B.at h = a_s B h
            · rw [e9]; exact hr3.1
            · exact hr2 _ (by omega)
        · skip
          refine Sp.go 1 (g := (295, [(7, .int (nI (B.nd h (a_s B h)))), (6, .int (nI (a_s B h))), (5, .int 1), (4, .int (nI h)), (3, .int (nI c)), (0, .ref 10), (1, .int (v1)), (2, .int (v2))], [.ref 10])) rfl ?_
          refine Sp.get (v := .ref 16) rfl rfl rfl ?_
          refine Sp.go 2 (g := (301, [(7, .int (nI (B.nd h (a_s B h)))), (6, .int (nI (a_s B h))), (5, .int 1), (4, .int (nI h)), (3, .int (nI c)), (0, .ref 10), (1, .int (v1)), (2, .int (v2))], [.int 5, .int (nI h), .ref 16])) rfl ?_
          refine Sp.pa16 (j := h) rfl (m_ix_of (by simp only [nI, Int32.ofNat_add, Int32.ofNat_mul] <;> rfl) (by omega) (by omega)) ?_
          refine Sp.wd (w' := ((w).sa 21 (E)).sa 16 (upd (w.a 16) h (5))) rfl ?_
          refine Sp.go 4 (g := (182, [(4, .int (nI h + 1)), (3, .int (nI c + 1)), (7, .int (nI (B.nd h (a_s B h)))), (6, .int (nI (a_s B h))), (5, .int 1), (0, .ref 10), (1, .int (v1)), (2, .int (v2))], [])) rfl ?_
          refine Sp.lsub [0, 1, 5, 6, 7] (ls' := [(4, .int (nI h + 1)), (3, .int (nI c + 1)), (0, .ref 10), (1, .int (v1)), (2, .int (v2))]) rfl ?_
          rw [show nI h + 1 = nI (h + 1) from (nI_succ h).symm, show nI c + 1 = nI (c + 1) from (nI_succ c).symm]
          have he9 : a_e B h = 99 := by
            rcases a_e_at hoB hhB with q | q
            · exact q
            · exact absurd (Classical.not_not.mp h51) (g_ans_ne q.2)
          have hn2 : JR (w.sa 16 (upd (w.a 16) h (nI 5))) (B.end h (B.la h) 5) := by
            have k := hjr.end (h := h) (l := B.la h) (f := 5)
            rw [← hjr.1.la hhB, upd_self, mWd.sa_self] at k
            exact k
          refine ih (h + 1) (c + 1) (((w).sa 21 (E)).sa 16 (upd (w.a 16) h (5))) (by omega) (by simp only [a_lost]; rw [hB, if_pos ⟨h2, he9⟩, ← hc]) (by simp only [a_news]; rw [if_pos h2, hB]; unfold a_anew; rw [if_pos he9]; exact hn2) htc (fun w2 k1 k2 k3 => kk w2 k1 ((sC.trans (sC.s21 E) (sC.s16 _)).trans k2) k3)
theorem a_ok.opn {A : aS} (ho : a_ok A) (a b s e : Nat) (v : Bool) : a_ok (A.opn a b s e v) := ho
/-- the state with the pair closed and the touched journeys cut off -/
def aS.cut1 (A : aS) (a b : Nat) : aS := (A.opn a b A.T 64 false).las (a_cuts (A.opn a b A.T 64 false) (a_tch A a b) A.P)
def aS.cut (A : aS) (a b : Nat) : aS := a_news (A.cut1 a b) (a_tch A a b) A.P
def a_cutn (A : aS) (a b : Nat) : Nat := a_lost (A.cut1 a b) (a_tch A a b) A.P
theorem a_tch_T {A : aS} (ho : a_ok A) {a b h : Nat} (h1 : a_tch A a b h = true) : A.T < 64 ∧ A.fa h = 0 := by
  have := ho.1
  simp only [a_tch, Bool.and_eq_true, decide_eq_true_eq] at h1
  obtain ⟨i, q1, q2, _⟩ := m_any_pos _ _ h1.2
  exact ⟨by omega, h1.1⟩
theorem a_cut1_la {A : aS} {a b j : Nat} (hj : j < A.P) (h1 : a_tch A a b j = true) : (A.cut1 a b).la j ≤ a_s (A.cut1 a b) j := by
  show (if j < A.P ∧ a_tch A a b j = true then a_cutla A j else A.la j) ≤ max (A.at j) A.T
  rw [if_pos ⟨hj, h1⟩]
  unfold a_cutla; split <;> omega
theorem a_cut1_ok {A : aS} (ho : a_ok A) (a b : Nat) : a_ok (A.cut1 a b) := (ho.opn a b A.T 64 false).las (a_cuts_le (ho.opn a b A.T 64 false) _ _)
set_option maxRecDepth 20000 in
theorem d_cut_b1 {X : mX} {C S : Nat} {Q : Outcome → mM → Prop} {w : mWd} {A : aS} (ho : a_ok A) (hj : JR0 w A) {x y : Int32} (hp : a_pair A x y = false) (hq : Q (.returned (some (.int 0))) (mw (w.sf 5 1))) : Sp X 75 5 123 C S (0, [(0, .ref 10), (1, .int (x)), (2, .int (y))], []) (mw w) Q := by
  refine Sp.go 4 (g := (4, [(0, .ref 10), (1, .int (x)), (2, .int (y))], [.int (y), .int (x), .ref 10, .ref 10])) rfl ?_
  refine Sp.vr (some (.int (m_b2 (!a_pair A (x) (y))))) (mw (w)) (k' := 55) (F' := 1) (N' := 21) (C' := 0) (S' := 0) (vs := [.int (x), .int (y)]) (st := [.ref 10]) rfl rfl rfl rfl (Nat.le_of_ble_eq_true rfl) (Nat.le_of_ble_eq_true rfl) (by decide) (by decide) (Nat.zero_le _) (Nat.zero_le _) (fun Q' h => d_noPair ho hj h) ?_
  refine Sp.ifb rfl (fun u1 => absurd u1 (by rw [hp]; decide)) (fun u1 => ?_)
  refine Sp.go 2 (g := (15, [(0, .ref 10), (1, .int (x)), (2, .int (y))], [.int 1, .ref 10])) rfl ?_
  refine Sp.pf5 rfl ?_
  refine Sp.go 1 (g := (19, [(0, .ref 10), (1, .int (x)), (2, .int (y))], [.ref 10])) rfl ?_
  refine Sp.get (v := .int 1) rfl rfl rfl ?_
  refine Sp.if rfl (fun u2 => absurd u2 (show ¬ ((1 : Int32) ≤ 0) by decide)) (fun u2 => ?_)
  refine Sp.go 1 (g := (26, [(0, .ref 10), (1, .int (x)), (2, .int (y))], [.int 0])) rfl ?_
  refine Sp.iret rfl (Or.inl rfl) ?_
  exact hq
set_option maxRecDepth 20000 in
theorem d_cut_ok {X : mX} {C S : Nat} {Q : Outcome → mM → Prop} {w : mWd} {A : aS} (ho : a_ok A) (hjr : JR w A) (hf : ∀ j, j < A.P → A.fa j ≤ 5) {a b : Nat} (ha : a < 8) (hb : b < 8) (hp : a_pair A (nI a) (nI b) = true) (hq : ∀ w', JR w' (A.cut a b) → sC w w' → w'.f 5 = 0 → Q (.returned (some (.int (nI (a_cutn A a b))))) (mw w')) : Sp X 75 5 123 C S (0, [(0, .ref 10), (1, .int (nI a)), (2, .int (nI b))], []) (mw w) Q := by
  have hj : JR0 w A := hjr.1
  have hT := ho.1
  refine Sp.go 4 (g := (4, [(0, .ref 10), (1, .int (nI a)), (2, .int (nI b))], [.int (nI b), .int (nI a), .ref 10, .ref 10])) rfl ?_
  refine Sp.vr (some (.int (m_b2 (!a_pair A (nI a) (nI b))))) (mw (w)) (k' := 55) (F' := 1) (N' := 21) (C' := 0) (S' := 0) (vs := [.int (nI a), .int (nI b)]) (st := [.ref 10]) rfl rfl rfl rfl (Nat.le_of_ble_eq_true rfl) (Nat.le_of_ble_eq_true rfl) (by decide) (by decide) (Nat.zero_le _) (Nat.zero_le _) (fun Q' h => d_noPair ho hj h) ?_
  refine Sp.ifb rfl (fun u1 => ?_) (fun u1 => absurd u1 (by rw [hp]; decide))
  refine Sp.go 1 (g := (15, [(0, .ref 10), (1, .int (nI a)), (2, .int (nI b))], [.int 0, .ref 10])) rfl ?_
  refine Sp.pf5 rfl ?_
  refine Sp.go 1 (g := (19, [(0, .ref 10), (1, .int (nI a)), (2, .int (nI b))], [.ref 10])) rfl ?_
  refine Sp.get (v := .int 0) rfl rfl rfl ?_
  refine Sp.if rfl (fun u2 => ?_) (fun u2 => absurd (show (0 : Int32) ≤ 0 by decide) u2)
  refine Sp.go 2 (g := (29, [(3, .int 0), (0, .ref 10), (1, .int (nI a)), (2, .int (nI b))], [])) rfl ?_
  refine d_tchO ho hf ha hb A.P 0 (w.sf 5 0) (by omega) hjr.t (fun j hj9 => absurd hj9 (by omega)) (fun R y hR => ?_)
  refine Sp.go 1 (g := (123, [(3, .int (y)), (0, .ref 10), (1, .int (nI a)), (2, .int (nI b))], [.ref 10])) rfl ?_
  refine Sp.get (v := .int (nI (A.T))) rfl rfl (by rw [← hj.now]; rfl) ?_
  refine Sp.go 1 (g := (127, [(3, .int (nI (A.T))), (0, .ref 10), (1, .int (nI a)), (2, .int (nI b))], [])) rfl ?_
  refine d_setsK ha hb (64 - A.T) A.T ((w.sf 5 0).sa 20 R) (by omega) ?_
  have hj2 : JR (((w.sf 5 0).sa 20 R).sa 12 (d_sets a b 0 A.T (64 - A.T) (w.a 12))) (A.opn a b A.T 64 false) := by
    have k := (hjr.t (v := 0)).tc (R := R)
    have k3 := k.opn (a := a) (b := b) (s := A.T) (d := 64 - A.T) ha hb (by omega) false
    rw [show A.T + (64 - A.T) = 64 by omega] at k3
    exact k3
  refine Sp.go 2 (g := (149, [(3, .int 0), (0, .ref 10), (1, .int (nI a)), (2, .int (nI b))], [])) rfl ?_
  refine d_cutsK (A := A.opn a b A.T 64 false) (tc := a_tch A a b) (ho.opn a b A.T 64 false) A.P 0 (((w.sf 5 0).sa 20 R).sa 12 (d_sets a b 0 A.T (64 - A.T) (w.a 12))) (by show 0 + A.P = A.P; omega) ?_ hR (fun R2 y2 hR2 => ?_)
  · have e : a_cuts (A.opn a b A.T 64 false) (a_tch A a b) 0 = A.la := by
      funext j; unfold a_cuts; rw [if_neg (by omega)]; rfl
    rw [e]; exact hj2
  · skip
    refine Sp.go 4 (g := (182, [(4, .int 0), (3, .int 0), (0, .ref 10), (1, .int (nI a)), (2, .int (nI b))], [])) rfl ?_
    refine d_newsK (A := A.cut1 a b) (tc := a_tch A a b) (a_cut1_ok ho a b) (fun j q1 q2 => ⟨(a_tch_T ho q2).1, a_cut1_la q1 q2⟩) A.P 0 0 _ (by show 0 + A.P = A.P; omega) rfl hR2 hR (fun w2 k1 k2 k3 => hq w2 k1 (((((sC.s5 0).trans (sC.s20 R)).trans (sC.s12 _)).trans (sC.s18 R2)).trans k2) k3)
