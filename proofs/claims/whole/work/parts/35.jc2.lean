/-! The desk holds A: what changes. -/
theorem a_goes_st (A : aS) (h t a b : Nat) : a_goes A h t a b = g_st (A.nd h) (A.at h) (A.la h) t a b := rfl
theorem a_used_one {A A' : aS} {h t a b : Nat} (hP : A'.P = A.P) (hh : h < A.P) (hs : ∀ j, j < A.P → j ≠ h → a_goes A' j t a b = a_goes A j t a b) : a_used A' t a b + (if a_goes A h t a b = true then 1 else 0) = a_used A t a b + (if a_goes A' h t a b = true then 1 else 0) := by
  unfold a_used
  rw [hP]
  exact g_cnt_one A.P hs hh
theorem a_used_pos {A : aS} {h t a b : Nat} (hh : h < A.P) (hg : a_goes A h t a b = true) : 1 ≤ a_used A t a b := (g_cnt_pos A.P).mpr ⟨h, hh, hg⟩
theorem g_st_true {N : Nat → Nat} {lo hi t a b : Nat} : g_st N lo hi t a b = true ↔ lo ≤ t ∧ t < hi ∧ N t = a ∧ N (t + 1) = b := by
  simp only [g_st, Bool.and_eq_true, decide_eq_true_eq]
/-- a journey cut off: how many use what -/
theorem a_used_cut {A : aS} {h f t a b : Nat} (hh : h < A.P) (hm : a_s A h ≤ A.la h) : a_used (A.end h (a_cutla A h) f) t a b = a_used A t a b - (if g_st (A.nd h) (a_s A h) (A.la h) t a b = true then 1 else 0) := by
  have k := a_used_one (A := A) (A' := A.end h (a_cutla A h) f) (h := h) (t := t) (a := a) (b := b) rfl hh (fun j _ hj => by
    show (decide (A.at j ≤ t) && (decide (t < (if j = h then a_cutla A h else A.la j)) && (decide (A.nd j t = a) && decide (A.nd j (t + 1) = b)))) = _
    rw [if_neg hj]; rfl)
  have e1 : a_goes (A.end h (a_cutla A h) f) h t a b = g_st (A.nd h) (A.at h) (a_cutla A h) t a b := by
    show (decide (A.at h ≤ t) && (decide (t < (if h = h then a_cutla A h else A.la h)) && (decide (A.nd h t = a) && decide (A.nd h (t + 1) = b)))) = _
    rw [if_pos rfl]; rfl
  rw [e1, a_goes_st] at k
  by_cases c : A.nd h t = a ∧ A.nd h (t + 1) = b
  · have g1 : ∀ lo hi, g_st (A.nd h) lo hi t a b = true ↔ lo ≤ t ∧ t < hi := fun lo hi => by rw [g_st_true]; exact ⟨fun z => ⟨z.1, z.2.1⟩, fun z => ⟨z.1, z.2, c⟩⟩
    have hp := a_used_pos (A := A) (t := t) (a := a) (b := b) hh
    rw [a_goes_st, g1] at hp
    simp only [g1] at k ⊢
    have hc : a_cutla A h ≤ a_s A h ∧ (A.at h ≤ t → t < a_s A h → t < a_cutla A h) := by unfold a_cutla a_s; split <;> omega
    have hat : A.at h ≤ a_s A h := by unfold a_s; omega
    generalize a_cutla A h = cl at *
    generalize a_s A h = s at *
    generalize a_used (A.end h cl f) t a b = u' at *
    generalize a_used A t a b = u at *
    split at k <;> split at k <;> split <;> omega
  · have g1 : ∀ lo hi, g_st (A.nd h) lo hi t a b = true ↔ False := fun lo hi => by rw [g_st_true]; exact ⟨fun z => c z.2.2, fun z => z.elim⟩
    simp only [g1, if_false] at k ⊢
    omega
theorem a_cutla_last {A : aS} {h f : Nat} : a_last (A.end h (a_cutla A h) f) h = if A.T < A.at h then -1 else nI A.T := by
  show (if (if h = h then a_cutla A h else A.la h) < A.at h then (-1 : Int32) else nI (if h = h then a_cutla A h else A.la h)) = _
  rw [if_pos rfl]
  unfold a_cutla
  by_cases c : A.T < A.at h
  · rw [if_pos c, if_pos c, if_pos (by omega)]
  · rw [if_neg c, if_neg c]
theorem a_last_ne {A : aS} {h l f j : Nat} (hj : j ≠ h) : a_last (A.end h l f) j = a_last A j := by
  show (if (if j = h then l else A.la j) < A.at j then (-1 : Int32) else nI (if j = h then l else A.la j)) = _
  rw [if_neg hj]; rfl
theorem a_fate_ne {A : aS} {h l f j : Nat} (hj : j ≠ h) : a_fate (A.end h l f) j = a_fate A j := by
  show (if (if j = h then f else A.fa j) = 4 ∨ (if j = h then f else A.fa j) = 5 then nI (if j = h then f else A.fa j) else (0 : Int32)) = _
  rw [if_neg hj]; rfl
theorem a_fate_at {A : aS} {h l f : Nat} : a_fate (A.end h l f) h = if f = 4 ∨ f = 5 then nI f else 0 := by
  show (if (if h = h then f else A.fa h) = 4 ∨ (if h = h then f else A.fa h) = 5 then nI (if h = h then f else A.fa h) else (0 : Int32)) = _
  rw [if_pos rfl]
/-- the parcels, where one's record is changed -/
theorem c_P.one {w w' : mWd} {P : Nat} {q : Nat → Nat} {g t l f l' f' : Nat → Int32} {nd : Nat → Nat → Int32} {h : Nat} (hc : c_P w P q g t l f nd) (hp : w'.p = w.p) (hx : w'.nx = w.nx) (hd : w'.d (q h) = some (.inr (1, [.int (g h), .int (t h), .ref (q h + 24), .int (l' h), .int (f' h)]))) (hd2 : ∀ n, n ≠ q h → w'.d n = w.d n) (hl : ∀ j, j ≠ h → l' j = l j) (hf : ∀ j, j ≠ h → f' j = f j) (hh : h < P) : c_P w' P q g t l' f' nd := by
  refine ⟨fun j hj => ?_, hc.2⟩
  obtain ⟨k1, k2, k3, k4⟩ := hc.1 j hj
  rw [hp, hx]
  by_cases e : j = h
  · subst e
    exact ⟨k1, hd, by rw [hd2 _ (by omega)]; exact k3, k4⟩
  · refine ⟨k1, ?_, ?_, k4⟩
    · rw [hd2 _ (hc.2 j h hj hh e).1, hl j e, hf j e]; exact k2
    · rw [hd2 _ (fun z => (hc.2 h j hh hj (fun z => e z.symm)).2 z.symm)]; exact k3
theorem JCq.cutW {w : mWd} {A : aS} {q : Nat → Nat} {nd : Nat → Nat → Int32} (hj : JCq w A q nd) (ho : a_ok A) (h1 : ∀ t a b, t < 64 → a ≠ b → a_used A t a b ≤ 1) {h f : Nat} {x : va_E} {fv : Int32} (hh : h < A.P) (hm : a_s A h ≤ A.la h) (hf : fv = if f = 4 ∨ f = 5 then nI f else 0) : JCq (r_cutW (w.sd (q h) x) (q h) (a_s A h) (A.la h) (nI (A.go h)) (nI (A.at h)) fv (if A.T < A.at h then -1 else nI A.T) (A.nd h)) (A.end h (a_cutla A h) f) q nd := by
  obtain ⟨⟨p1, p2, p3, p4⟩, ⟨p5, p6⟩, p7, p8, p9, c, p11⟩ := hj
  have hb := ho.2.2.2.2 h hh
  have hat : A.at h ≤ a_s A h := by unfold a_s; omega
  refine ⟨⟨p1, p2, p3, p4⟩, ⟨p5, p6⟩, p7, ?_, p9, ?_, p11⟩
  · have k := JU.gb (N := A.nd h) (hi := A.la h) (A.la h - a_s A h) (a_s A h) (w.a 4) (w.a 5) (a_used A) (by omega) (fun i _ q2 => hb.2.2.2 i (by omega)) (fun t a b hg => ?_) p8
    · refine k.congr (fun t a b _ => ?_)
      rw [a_used_cut hh hm, show a_s A h + (A.la h - a_s A h) = A.la h by omega]
    · rw [g_st_true] at hg
      have h2 := a_used_pos (A := A) (h := h) (t := t) (a := a) (b := b) hh (by rw [a_goes_st, g_st_true]; exact ⟨by omega, hg.2⟩)
      exact ⟨h2, fun hab => by have := h1 t a b (by omega) hab; omega⟩
  · refine c.one (h := h) rfl rfl ?_ (fun n hn => ?_) (fun j hj => a_last_ne hj) (fun j hj => a_fate_ne hj) hh
    · rw [a_cutla_last, a_fate_at, ← hf]
      exact mWd.sd_d ..
    · show (mWd.sd _ (q h) _).d n = _
      rw [mWd.sd_ne _ _ hn]
      exact mWd.sd_ne _ _ hn
theorem JCq.lost {w : mWd} {A : aS} {q : Nat → Nat} {nd : Nat → Nat → Int32} (hj : JCq w A q nd) {h : Nat} (hh : h < A.P) : JCq (w.sd (q h) (.inr (1, [.int (nI (A.go h)), .int (nI (A.at h)), .ref (q h + 24), .int (a_last A h), .int 5]))) (A.end h (A.la h) 5) q nd := by
  obtain ⟨⟨p1, p2, p3, p4⟩, ⟨p5, p6⟩, p7, p8, p9, c, p11⟩ := hj
  have el : (A.end h (A.la h) 5).la = A.la := by
    funext j
    show (if j = h then A.la h else A.la j) = A.la j
    split
    · rename_i e; rw [e]
    · rfl
  refine ⟨⟨p1, p2, p3, p4⟩, ⟨p5, p6⟩, p7, ?_, p9, ?_, p11⟩
  · refine p8.congr (fun t a b _ => ?_)
    unfold a_used a_goes
    rw [el]; rfl
  · refine c.one (h := h) rfl rfl ?_ (fun n hn => mWd.sd_ne _ _ hn) (fun j hj => a_last_ne hj) (fun j hj => a_fate_ne hj) hh
    rw [a_fate_at, show a_last (A.end h (A.la h) 5) h = a_last A h by unfold a_last; rw [el]; rfl]
    exact mWd.sd_d ..
/-- a journey given: how many use what -/
theorem a_used_give {A : aS} {h e f t a b : Nat} {r : Nat → Nat} (hh : h < A.P) (hla : A.la h ≤ a_s A h) (hor : A.la h = a_s A h ∨ A.at h = a_s A h) (hr : ∀ i, i ≤ a_s A h → r i = A.nd h i) : a_used ((A.nds h r).end h e f) t a b = a_used A t a b + (if g_st r (a_s A h) e t a b = true then 1 else 0) ∨ e < a_s A h := by
  by_cases hse : e < a_s A h
  · exact Or.inr hse
  left
  have k := a_used_one (A := A) (A' := (A.nds h r).end h e f) (h := h) (t := t) (a := a) (b := b) rfl hh (fun j _ hj => by
    show (decide (A.at j ≤ t) && (decide (t < (if j = h then e else A.la j)) && (decide ((if j = h then r else A.nd j) t = a) && decide ((if j = h then r else A.nd j) (t + 1) = b)))) = _
    rw [if_neg hj, if_neg hj]; rfl)
  have e1 : a_goes ((A.nds h r).end h e f) h t a b = g_st r (A.at h) e t a b := by
    show (decide (A.at h ≤ t) && (decide (t < (if h = h then e else A.la h)) && (decide ((if h = h then r else A.nd h) t = a) && decide ((if h = h then r else A.nd h) (t + 1) = b)))) = _
    rw [if_pos rfl, if_pos rfl]; rfl
  rw [e1, a_goes_st] at k
  have hat : A.at h ≤ a_s A h := by unfold a_s; omega
  have e2 : (if g_st r (A.at h) e t a b = true then 1 else 0) = (if g_st (A.nd h) (A.at h) (A.la h) t a b = true then 1 else 0) + (if g_st r (a_s A h) e t a b = true then 1 else 0) := by
    by_cases ht : t < a_s A h
    · rw [if_neg (c := g_st r (a_s A h) e t a b = true) (by rw [g_st_true]; omega), Nat.add_zero]
      have e3 : g_st r (A.at h) e t a b = g_st (A.nd h) (A.at h) (A.la h) t a b := by
        rw [Bool.eq_iff_iff, g_st_true, g_st_true, hr t (by omega), hr (t + 1) (by omega)]
        constructor
        · rintro ⟨q1, q2, q3⟩; exact ⟨q1, by omega, q3⟩
        · rintro ⟨q1, q2, q3⟩; exact ⟨q1, by omega, q3⟩
      rw [e3]
    · rw [if_neg (c := g_st (A.nd h) (A.at h) (A.la h) t a b = true) (by rw [g_st_true]; omega), Nat.zero_add]
      have e3 : g_st r (A.at h) e t a b = g_st r (a_s A h) e t a b := by
        rw [Bool.eq_iff_iff, g_st_true, g_st_true]
        constructor
        · rintro ⟨q1, q2, q3⟩; exact ⟨by omega, q2, q3⟩
        · rintro ⟨q1, q2, q3⟩; exact ⟨by omega, q2, q3⟩
      rw [e3]
  omega
