/-! The desk holds A: journeys given, parcels born, the plan, the tick. -/
theorem c_P.two {w w' : mWd} {P : Nat} {q : Nat → Nat} {g t l f l' f' : Nat → Int32} {nd nd' : Nat → Nat → Int32} {h : Nat} (hc : c_P w P q g t l f nd) (hp : w'.p = w.p) (hx : w'.nx = w.nx) (hd : w'.d (q h) = some (.inr (1, [.int (g h), .int (t h), .ref (q h + 24), .int (l' h), .int (f' h)]))) (hd1 : w'.d (q h + 1) = some (.inl (0, 65, .inl (nd' h)))) (hd2 : ∀ n, n ≠ q h → n ≠ q h + 1 → w'.d n = w.d n) (hl : ∀ j, j ≠ h → l' j = l j) (hf : ∀ j, j ≠ h → f' j = f j) (hn : ∀ j, j ≠ h → nd' j = nd j) (hh : h < P) : c_P w' P q g t l' f' nd' := by
  refine ⟨fun j hj => ?_, hc.2⟩
  obtain ⟨k1, k2, k3, k4⟩ := hc.1 j hj
  rw [hp, hx]
  by_cases e : j = h
  · subst e
    exact ⟨k1, hd, hd1, k4⟩
  · have a1 := hc.2 j h hj hh e
    have a2 := hc.2 h j hh hj (fun z => e z.symm)
    refine ⟨k1, ?_, ?_, k4⟩
    · rw [hd2 _ a1.1 a1.2, hl j e, hf j e]; exact k2
    · rw [hd2 _ (fun z => a2.2 z.symm) (by omega), hn j e]; exact k3
theorem JCq.giveW {w : mWd} {A : aS} {q : Nat → Nat} {nd : Nat → Nat → Int32} (hj : JCq w A q nd) (ho : a_ok A) {h e a g : Nat} {r : Nat → Nat} (hh : h < A.P) (hse : a_s A h ≤ e) (he : e ≤ 64) (hla : A.la h ≤ a_s A h) (hor : A.la h = a_s A h ∨ A.at h = a_s A h) (hr8 : ∀ i, i < 65 → r i < 8) (hr0 : ∀ i, i ≤ a_s A h ∨ e < i → r i = A.nd h i) (hwy : ∀ i, w_way w a (a_s A h) e g i = if a_s A h ≤ i ∧ i ≤ e then nI (r i) else w.a 7 i) :
    JCq (r_giveW (w_sought w a (a_s A h) e g) (q h) (a_s A h) e (nI (A.go h)) (nI (A.at h)) (a_fate A h) (nd h) r) ((A.nds h r).end h e (A.fa h)) q (fun j => if j = h then r_copy (w_way w a (a_s A h) e g) (a_s A h) (e + 1 - a_s A h) (nd h) else nd j) := by
  obtain ⟨⟨p1, p2, p3, p4⟩, ⟨p5, p6⟩, p7, p8, p9, c, p11⟩ := hj
  have hat : A.at h ≤ a_s A h := by unfold a_s; omega
  refine ⟨⟨p1, p2, p3, p4⟩, ⟨p5, p6⟩, p7, ?_, p9, ?_, fun j hj i hi => ?_⟩
  · have k := JU.tk (N := r) (hi := e) (e - a_s A h) (a_s A h) (w.a 4) (w.a 5) (a_used A) (by omega) (fun i _ q2 => hr8 i (by omega)) p8
    refine k.congr (fun t a b _ => ?_)
    rw [show a_s A h + (e - a_s A h) = e by omega]
    exact ((a_used_give hh hla hor (fun i hi => hr0 i (Or.inl hi))).resolve_right (by omega)).symm
  · refine c.two (h := h) rfl rfl ?_ ?_ (fun n hn hn1 => ?_) (fun j hj => a_last_ne (A := A.nds h r) hj) (fun j hj => a_fate_ne (A := A.nds h r) hj) (fun j hj => if_neg hj) hh
    · have e1 : a_last ((A.nds h r).end h e (A.fa h)) h = nI e := by
        show (if (if h = h then e else A.la h) < A.at h then (-1 : Int32) else nI (if h = h then e else A.la h)) = _
        rw [if_pos rfl, if_neg (by omega)]
      have e2 : a_fate ((A.nds h r).end h e (A.fa h)) h = a_fate A h := by rw [a_fate_at]; rfl
      rw [e1, e2]
      exact mWd.sd_d ..
    · rw [if_pos rfl]
      show (mWd.sd _ (q h) _).d (q h + 1) = _
      rw [mWd.sd_ne _ _ (by omega)]
      exact mWd.sd_d ..
    · show (mWd.sd _ (q h) _).d n = _
      rw [mWd.sd_ne _ _ hn]
      show (mWd.sd _ (q h + 1) _).d n = _
      rw [mWd.sd_ne _ _ hn1]; rfl
  · dsimp only
    show (if j = h then r_copy (w_way w a (a_s A h) e g) (a_s A h) (e + 1 - a_s A h) (nd h) else nd j) i = nI ((if j = h then r else A.nd j) i)
    by_cases ej : j = h
    · rw [if_pos ej, if_pos ej, r_copy_at, hwy]
      by_cases c2 : a_s A h ≤ i ∧ i ≤ e
      · rw [if_pos (by omega), if_pos c2]
      · rw [if_neg (by omega), p11 h hh i hi, hr0 i (by omega)]
    · rw [if_neg ej, if_neg ej]; exact p11 j hj i hi
theorem a_used_book {A : aS} {g s e t a b : Nat} {r : Nat → Nat} : a_used (A.book g s e r) t a b = a_used A t a b + (if g_st r s e t a b = true then 1 else 0) := by
  show g_cnt (fun h => a_goes (A.book g s e r) h t a b) (A.P + 1) = _
  have e1 : a_goes (A.book g s e r) A.P t a b = g_st r s e t a b := by
    show (decide ((if A.P = A.P then s else A.at A.P) ≤ t) && (decide (t < (if A.P = A.P then e else A.la A.P)) && (decide ((if A.P = A.P then r else A.nd A.P) t = a) && decide ((if A.P = A.P then r else A.nd A.P) (t + 1) = b)))) = _
    rw [if_pos rfl, if_pos rfl, if_pos rfl]; rfl
  have e2 : g_cnt (fun h => a_goes (A.book g s e r) h t a b) A.P = a_used A t a b := g_cnt_congr A.P (fun j hj => by
    show (decide ((if j = A.P then s else A.at j) ≤ t) && (decide (t < (if j = A.P then e else A.la j)) && (decide ((if j = A.P then r else A.nd j) t = a) && decide ((if j = A.P then r else A.nd j) (t + 1) = b)))) = _
    rw [if_neg (by omega), if_neg (by omega), if_neg (by omega)]; rfl)
  simp only [g_cnt, e1, e2]
theorem JCq.bookW {w : mWd} {A : aS} {q : Nat → Nat} {nd : Nat → Nat → Int32} (hj : JCq w A q nd) {n s e a g : Nat} {r : Nat → Nat} (hn : w.nx = n + 23) (hse : s ≤ e) (he : e ≤ 64) (hr8 : ∀ i, i < 65 → r i < 8) (hr0 : ∀ i, i < s ∨ e < i → r i = 0) (hwy : ∀ i, w_way w a s e g i = if s ≤ i ∧ i ≤ e then nI (r i) else w.a 7 i) :
    JCq (r_bookW w a s e g A.P n r) (A.book g s e r) (fun j => if j = A.P then n else q j) (fun j => if j = A.P then r_copy (w_way w a s e g) s (e + 1 - s) (fun _ => 0) else nd j) := by
  obtain ⟨⟨p1, p2, p3, p4⟩, ⟨p5, p6⟩, p7, p8, p9, c, p11⟩ := hj
  have hx : (r_bookW w a s e g A.P n r).nx = n + 25 := by
    show w.nx + 1 + 1 = n + 25
    omega
  have hlow : ∀ m, m < n → (r_bookW w a s e g A.P n r).d m = w.d m := by
    intro m hm
    show (mWd.sd (mWd.sd (mWd.sd (mWd.mk (mWd.mk (w_sought w a s e g) _ _) _ _) n _) (n + 1) _) n _).d m = _
    rw [mWd.sd_ne _ _ (by omega), mWd.sd_ne _ _ (by omega), mWd.sd_ne _ _ (by omega), mWd.mk_ne _ _ _ (by show m + 23 ≠ w.nx + 1; omega) (by show 23 ≤ w.nx + 1; omega), mWd.mk_ne _ _ _ (by show m + 23 ≠ w.nx; omega) (by show 23 ≤ w.nx; omega)]
    rfl
  refine ⟨⟨p1, p2, p3, p4⟩, ⟨(nI_succ _).symm, p6⟩, p7, ?_, by rw [hx]; omega, ⟨fun j hj => ?_, fun j j' hj hj' hne => ?_⟩, fun j hj i hi => ?_⟩
  · have k := JU.tk (N := r) (hi := e) (e - s) s (w.a 4) (w.a 5) (a_used A) (by omega) (fun i _ q2 => hr8 i (by omega)) p8
    refine k.congr (fun t a b _ => ?_)
    rw [show s + (e - s) = e by omega]
    exact a_used_book.symm
  · have hj : j < A.P + 1 := hj
    rw [hx]
    dsimp only
    by_cases ej : j = A.P
    · subst ej
      rw [if_pos rfl, if_pos rfl]
      refine ⟨by show va_up w.p A.P (some (n + 23)) A.P = _; simp [va_up], ?_, ?_, by omega⟩
      · have e1 : a_last (A.book g s e r) A.P = nI e := by
          show (if (if A.P = A.P then e else A.la A.P) < (if A.P = A.P then s else A.at A.P) then (-1 : Int32) else nI (if A.P = A.P then e else A.la A.P)) = _
          rw [if_pos rfl, if_pos rfl, if_neg (by omega)]
        have e2 : a_fate (A.book g s e r) A.P = 0 := by
          show (if (if A.P = A.P then 0 else A.fa A.P) = 4 ∨ (if A.P = A.P then 0 else A.fa A.P) = 5 then nI (if A.P = A.P then 0 else A.fa A.P) else (0 : Int32)) = _
          rw [if_pos rfl]; rfl
        have e3 : (A.book g s e r).go A.P = g := if_pos rfl
        have e4 : (A.book g s e r).at A.P = s := if_pos rfl
        rw [e1, e2, e3, e4]
        exact mWd.sd_d ..
      · show (mWd.sd (mWd.sd _ (n + 1) _) n _).d (n + 1) = _
        rw [mWd.sd_ne _ _ (by omega)]
        exact mWd.sd_d ..
    · rw [if_neg ej, if_neg ej]
      obtain ⟨k1, k2, k3, k4⟩ := c.1 j (by omega)
      refine ⟨by show va_up w.p A.P (some (n + 23)) j = _; simp only [va_up, if_neg ej]; exact k1, ?_, ?_, by omega⟩
      · rw [hlow _ (by omega)]
        have e1 : a_last (A.book g s e r) j = a_last A j := by
          show (if (if j = A.P then e else A.la j) < (if j = A.P then s else A.at j) then (-1 : Int32) else nI (if j = A.P then e else A.la j)) = _
          rw [if_neg ej, if_neg ej]; rfl
        have e2 : a_fate (A.book g s e r) j = a_fate A j := by
          show (if (if j = A.P then 0 else A.fa j) = 4 ∨ (if j = A.P then 0 else A.fa j) = 5 then nI (if j = A.P then 0 else A.fa j) else (0 : Int32)) = _
          rw [if_neg ej]; rfl
        have e3 : (A.book g s e r).go j = A.go j := if_neg ej
        have e4 : (A.book g s e r).at j = A.at j := if_neg ej
        rw [e1, e2, e3, e4]; exact k2
      · rw [hlow _ (by omega)]; exact k3
  · have hj : j < A.P + 1 := hj
    have hj' : j' < A.P + 1 := hj'
    dsimp only
    by_cases ej : j = A.P
    · have ej' : ¬ j' = A.P := fun z => hne (ej.trans z.symm)
      have := (c.1 j' (by omega)).2.2.2
      rw [if_pos ej, if_neg ej']; omega
    · have := (c.1 j (by omega)).2.2.2
      rw [if_neg ej]
      by_cases ej' : j' = A.P
      · rw [if_pos ej']; omega
      · rw [if_neg ej']; exact c.2 j j' (by omega) (by omega) hne
  · have hj : j < A.P + 1 := hj
    show (if j = A.P then r_copy (w_way w a s e g) s (e + 1 - s) (fun _ => 0) else nd j) i = nI ((if j = A.P then r else A.nd j) i)
    by_cases ej : j = A.P
    · rw [if_pos ej, if_pos ej, r_copy_at, hwy]
      by_cases c2 : s ≤ i ∧ i ≤ e
      · rw [if_pos (by omega), if_pos c2]
      · rw [if_neg (by omega), hr0 i (by omega)]; rfl
    · rw [if_neg ej, if_neg ej]; exact p11 j (by omega) i hi
/-- an exception's cell -/
theorem JCq.mk {w : mWd} {A : aS} {q : Nat → Nat} {nd : Nat → Nat → Int32} (hj : JCq w A q nd) (k : Nat) : JCq (w.mk none k) A q nd := by
  obtain ⟨⟨p1, p2, p3, p4⟩, ⟨p5, p6⟩, p7, p8, p9, c, p11⟩ := hj
  refine ⟨⟨p1, p2, p3, p4⟩, ⟨p5, p6⟩, p7, p8, by show 23 ≤ w.nx + 1; omega, ⟨fun j hj => ?_, c.2⟩, p11⟩
  obtain ⟨k1, k2, k3, k4⟩ := c.1 j hj
  refine ⟨k1, ?_, ?_, by show q j + 25 ≤ w.nx + 1; omega⟩
  · rw [mWd.mk_ne _ _ _ (by omega) p9]; exact k2
  · rw [mWd.mk_ne _ _ _ (by omega) p9]; exact k3
/-- the tick -/
theorem JCq.tick {w : mWd} {A : aS} {q : Nat → Nat} {nd : Nat → Nat → Int32} (hj : JCq w A q nd) : JCq (w.sf 4 (nI A.T + 1)) A.tick q nd := by
  obtain ⟨⟨p1, p2, p3, p4⟩, ⟨p5, p6⟩, p7, p8, p9, c, p11⟩ := hj
  have ef : a_fate A.tick = a_fate A := by
    funext j
    show (if (if A.fa j = 0 ∧ A.la j = A.T + 1 then 3 else A.fa j) = 4 ∨ (if A.fa j = 0 ∧ A.la j = A.T + 1 then 3 else A.fa j) = 5 then nI (if A.fa j = 0 ∧ A.la j = A.T + 1 then 3 else A.fa j) else (0 : Int32)) = if A.fa j = 4 ∨ A.fa j = 5 then nI (A.fa j) else 0
    by_cases cc : A.fa j = 0 ∧ A.la j = A.T + 1
    · rw [if_pos cc, if_neg (by omega), if_neg (by omega)]
    · rw [if_neg cc]
  refine ⟨⟨p1, p2, p3, p4⟩, ⟨p5, (nI_succ _).symm⟩, p7, p8, p9, ?_, p11⟩
  rw [ef]; exact c
