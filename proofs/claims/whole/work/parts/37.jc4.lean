/-! The desk holds A: nodes and the plan; what always holds goes on. -/
theorem n_mk1_at {op : Nat → Int32} {a b t x y u : Nat} (ha : a < 8) (hb : b < 8) (hx : x < 8) (hy : y < 8) (hab : a ≠ b) : bt (n_mk1 op a b t (u * 8 + x)) y = if ((x = a ∧ y = b) ∨ (x = b ∧ y = a)) ∧ u = t then true else bt (op (u * 8 + x)) y := by
  unfold n_mk1
  by_cases c1 : u * 8 + x = t * 8 + b
  · have e := (cell_inj hx hb).mp c1
    rw [c1, upd_at, b_or, upd_ne (by omega), b_one (by omega) (by omega)]
    by_cases f : y = a
    · rw [decide_eq_true f, Bool.or_true, if_pos ⟨Or.inr ⟨e.2, f⟩, e.1⟩]
    · rw [decide_eq_false f, Bool.or_false, if_neg (by omega)]
  · rw [upd_ne c1]
    by_cases c2 : u * 8 + x = t * 8 + a
    · have e := (cell_inj hx ha).mp c2
      rw [c2, upd_at, b_or, b_one (by omega) (by omega)]
      by_cases f : y = b
      · rw [decide_eq_true f, Bool.or_true, if_pos ⟨Or.inl ⟨e.2, f⟩, e.1⟩]
      · rw [decide_eq_false f, Bool.or_false, if_neg (by omega)]
    · rw [upd_ne c2, if_neg (by omega)]
theorem n_cl1_at {op : Nat → Int32} {a b t x y u : Nat} (ha : a < 8) (hb : b < 8) (hx : x < 8) (hy : y < 8) (hab : a ≠ b) : bt (n_cl1 op a b t (u * 8 + x)) y = if ((x = a ∧ y = b) ∨ (x = b ∧ y = a)) ∧ u = t then false else bt (op (u * 8 + x)) y := by
  unfold n_cl1
  by_cases c1 : u * 8 + x = t * 8 + b
  · have e := (cell_inj hx hb).mp c1
    rw [c1, upd_at, b_and, upd_ne (by omega), b_notone (by omega) (by omega)]
    by_cases f : y = a
    · rw [decide_eq_true f, Bool.not_true, Bool.and_false, if_pos ⟨Or.inr ⟨e.2, f⟩, e.1⟩]
    · rw [decide_eq_false f, Bool.not_false, Bool.and_true, if_neg (by omega)]
  · rw [upd_ne c1]
    by_cases c2 : u * 8 + x = t * 8 + a
    · have e := (cell_inj hx ha).mp c2
      rw [c2, upd_at, b_and, b_notone (by omega) (by omega)]
      by_cases f : y = b
      · rw [decide_eq_true f, Bool.not_true, Bool.and_false, if_pos ⟨Or.inl ⟨e.2, f⟩, e.1⟩]
      · rw [decide_eq_false f, Bool.not_false, Bool.and_true, if_neg (by omega)]
    · rw [upd_ne c2, if_neg (by omega)]
theorem n_mk_at {a b x y u : Nat} (ha : a < 8) (hb : b < 8) (hx : x < 8) (hy : y < 8) (hab : a ≠ b) : ∀ (d t : Nat) (op : Nat → Int32), bt (n_mk a b t d op (u * 8 + x)) y = if ((x = a ∧ y = b) ∨ (x = b ∧ y = a)) ∧ t ≤ u ∧ u < t + d then true else bt (op (u * 8 + x)) y := by
  intro d
  induction d with
  | zero => intro t op; simp only [n_mk]; rw [if_neg (by omega)]
  | succ d ih =>
    intro t op
    simp only [n_mk]
    rw [ih, n_mk1_at ha hb hx hy hab]
    by_cases c : ((x = a ∧ y = b) ∨ (x = b ∧ y = a))
    · by_cases c1 : t + 1 ≤ u ∧ u < t + 1 + d
      · rw [if_pos ⟨c, c1⟩, if_pos ⟨c, by omega⟩]
      · rw [if_neg (fun z => c1 z.2)]
        by_cases c2 : u = t
        · rw [if_pos ⟨c, c2⟩, if_pos ⟨c, by omega⟩]
        · rw [if_neg (fun z => c2 z.2), if_neg (fun z => by have := z.2; omega)]
    · rw [if_neg (fun z => c z.1), if_neg (fun z => c z.1), if_neg (fun z => c z.1)]
theorem n_cl_at {a b x y u : Nat} (ha : a < 8) (hb : b < 8) (hx : x < 8) (hy : y < 8) (hab : a ≠ b) : ∀ (d t : Nat) (op : Nat → Int32), bt (n_cl a b t d op (u * 8 + x)) y = if ((x = a ∧ y = b) ∨ (x = b ∧ y = a)) ∧ t ≤ u ∧ u < t + d then false else bt (op (u * 8 + x)) y := by
  intro d
  induction d with
  | zero => intro t op; simp only [n_cl]; rw [if_neg (by omega)]
  | succ d ih =>
    intro t op
    simp only [n_cl]
    rw [ih, n_cl1_at ha hb hx hy hab]
    by_cases c : ((x = a ∧ y = b) ∨ (x = b ∧ y = a))
    · by_cases c1 : t + 1 ≤ u ∧ u < t + 1 + d
      · rw [if_pos ⟨c, c1⟩, if_pos ⟨c, by omega⟩]
      · rw [if_neg (fun z => c1 z.2)]
        by_cases c2 : u = t
        · rw [if_pos ⟨c, c2⟩, if_pos ⟨c, by omega⟩]
        · rw [if_neg (fun z => c2 z.2), if_neg (fun z => by have := z.2; omega)]
    · rw [if_neg (fun z => c z.1), if_neg (fun z => c z.1), if_neg (fun z => c z.1)]
theorem JCq.contact {w : mWd} {A : aS} {q : Nat → Nat} {nd : Nat → Nat → Int32} (hj : JCq w A q nd) {a b s e : Nat} (ha : a < 8) (hb : b < 8) (hab : a ≠ b) (hse : s ≤ e) : JCq ((w.sa 3 (n_mk a b s (e - s) (w.a 3))).sf 1 (nI A.nc + 1)) (A.opn a b s e true).ncs q nd := by
  obtain ⟨⟨p1, p2, p3, p4⟩, ⟨p5, p6⟩, p7, p8, p9, c, p11⟩ := hj
  refine ⟨⟨p1, (nI_succ _).symm, p3, p4⟩, ⟨p5, p6⟩, fun x y t hx hy ht => ?_, p8, p9, c, p11⟩
  show bt (n_mk a b s (e - s) (w.a 3) (t * 8 + x)) y = if ((x = a ∧ y = b) ∨ (x = b ∧ y = a)) ∧ s ≤ t ∧ t < e then true else A.op x y t
  rw [n_mk_at ha hb hx hy hab, show s + (e - s) = e by omega, p7 x y t hx hy ht]
theorem JCq.close {w : mWd} {A : aS} {q : Nat → Nat} {nd : Nat → Nat → Int32} (hj : JCq w A q nd) {a b : Nat} (ha : a < 8) (hb : b < 8) (hab : a ≠ b) (hT : A.T ≤ 64) : JCq (w.sa 3 (n_cl a b A.T (64 - A.T) (w.a 3))) (A.opn a b A.T 64 false) q nd := by
  obtain ⟨⟨p1, p2, p3, p4⟩, ⟨p5, p6⟩, p7, p8, p9, c, p11⟩ := hj
  refine ⟨⟨p1, p2, p3, p4⟩, ⟨p5, p6⟩, fun x y t hx hy ht => ?_, p8, p9, c, p11⟩
  show bt (n_cl a b A.T (64 - A.T) (w.a 3) (t * 8 + x)) y = if ((x = a ∧ y = b) ∨ (x = b ∧ y = a)) ∧ A.T ≤ t ∧ t < 64 then false else A.op x y t
  rw [n_cl_at ha hb hx hy hab, show A.T + (64 - A.T) = 64 by omega, p7 x y t hx hy ht]
theorem JCq.node {w : mWd} {A : aS} {q : Nat → Nat} {nd : Nat → Nat → Int32} (hj : JCq w A q nd) {n c : Nat} (hn : n < 8) (hp : (A.pl n).isSome = false) : JCq (r_nodeW w n (nI c)) (A.node n c) q nd ∧ w.f 0 + 1 = nI (a_many (A.node n c)) := by
  obtain ⟨⟨p1, p2, p3, p4⟩, ⟨p5, p6⟩, p7, p8, p9, cc, p11⟩ := hj
  have hm : a_many (A.node n c) = a_many A + 1 := by
    have k := g_cnt_one (p := fun m => ((A.node n c).pl m).isSome) (q := fun m => (A.pl m).isSome) (j := n) 8 (fun h _ hne => by
      show (if h = n then some c else A.pl h).isSome = _
      rw [if_neg hne]) hn
    have e1 : ((A.node n c).pl n).isSome = true := by
      show (if n = n then some c else A.pl n).isSome = true
      rw [if_pos rfl]; rfl
    rw [e1, hp, if_neg (by decide), if_pos rfl] at k
    exact k
  have h0 : w.f 0 + 1 = nI (a_many (A.node n c)) := by rw [p1, hm, nI_succ]
  refine ⟨⟨⟨h0, p2, fun m hm => ?_, fun m hm => ?_⟩, ⟨p5, p6⟩, p7, p8, p9, cc, p11⟩, h0⟩
  · show bt (w.f 2 ||| ((1 : Int32) <<< (nI n &&& 31))) m = (if m = n then some c else A.pl m).isSome
    rw [b_or, b_one (by omega) (by omega), p3 m hm]
    by_cases e : m = n
    · rw [if_pos e, decide_eq_true e, Bool.or_true]; rfl
    · rw [if_neg e, decide_eq_false e, Bool.or_false]
  · show upd (w.a 2) n (nI c) m = nI ((if m = n then some c else A.pl m).getD 0)
    by_cases e : m = n
    · rw [e, upd_at, if_pos rfl]; rfl
    · rw [upd_ne e, if_neg e]; exact p4 m hm
/-! what always holds -/
theorem a_inv.node {A : aS} (h : a_inv A) (n c : Nat) : a_inv (A.node n c) := h
theorem a_inv.contact {A : aS} (h : a_inv A) {a b s e : Nat} {v : Bool} (hab : a ≠ b) : a_inv (A.opn a b s e v) := by
  obtain ⟨h1, h2⟩ := h
  refine ⟨fun n t => ?_, h2⟩
  show (if ((n = a ∧ n = b) ∨ (n = b ∧ n = a)) ∧ s ≤ t ∧ t < e then v else A.op n n t) = false
  rw [if_neg (by omega)]; exact h1 n t
theorem a_inv.ncs {A : aS} (h : a_inv A) : a_inv A.ncs := h
theorem a_inv.tick {A : aS} (h : a_inv A) : a_inv A.tick := by
  obtain ⟨h1, h2, h3, h4⟩ := h
  refine ⟨h1, h2, h3, fun j hj => ?_⟩
  have e : A.tick.fa j = if A.fa j = 0 ∧ A.la j = A.T + 1 then 3 else A.fa j := rfl
  show (A.tick.fa j = 0 ∧ A.T + 1 < A.la j ∧ A.at j < A.la j ∧ ∀ i, A.at j ≤ i → i < A.la j → A.nd j i ≠ A.go j) ∨ (A.tick.fa j = 3 ∧ A.at j ≤ A.la j ∧ A.la j ≤ A.T + 1) ∨ A.tick.fa j = 4 ∨ A.tick.fa j = 5
  rw [e]
  rcases h4 j hj with ⟨q1, q2, q3, q4⟩ | ⟨q1, q2, q3⟩ | q1 | q1
  · by_cases c : A.fa j = 0 ∧ A.la j = A.T + 1
    · rw [if_pos c]; right; left; exact ⟨rfl, by omega, by omega⟩
    · rw [if_neg c]; left; exact ⟨q1, by omega, q3, q4⟩
  · rw [if_neg (by omega)]; right; left; exact ⟨q1, q2, by omega⟩
  · rw [if_neg (by omega)]; right; right; left; exact q1
  · rw [if_neg (by omega)]; right; right; right; exact q1
theorem a_ok.tick {A : aS} (h : a_ok A) (hT : A.T < 64) : a_ok A.tick := ⟨by show A.T + 1 ≤ 64; omega, h.2⟩
theorem a_ok.ncs {A : aS} (h : a_ok A) (hn : A.nc < 24) : a_ok A.ncs := ⟨h.1, by show A.nc + 1 ≤ 24; omega, h.2.2⟩
theorem a_ok.book {A : aS} (h : a_ok A) {g s e : Nat} {r : Nat → Nat} (hP : A.P < 32) (hg : g < 8) (hs : s < 64) (he : e ≤ 64) (hr : ∀ i, i < 65 → r i < 8) : a_ok (A.book g s e r) := by
  obtain ⟨h1, h2, h3, h4, h5⟩ := h
  refine ⟨h1, h2, by show A.P + 1 ≤ 32; omega, h4, fun j hj => ?_⟩
  have hj : j < A.P + 1 := hj
  show (if j = A.P then g else A.go j) < 8 ∧ (if j = A.P then s else A.at j) < 64 ∧ (if j = A.P then e else A.la j) ≤ 64 ∧ ∀ i, i < 65 → (if j = A.P then r else A.nd j) i < 8
  by_cases ej : j = A.P
  · rw [if_pos ej, if_pos ej, if_pos ej, if_pos ej]; exact ⟨hg, hs, he, hr⟩
  · rw [if_neg ej, if_neg ej, if_neg ej, if_neg ej]; exact h5 j (by omega)
/-- along the best way the goal is met at its end alone -/
theorem g_W_goal {fr : Nat → Nat → Nat → Bool} {g a s e : Nat} {r : Nat → Nat} (he : e ≤ 64) (hE : g_E fr g (64 - s) a = e) (hW : g_W fr g a s e r) : ∀ i, s ≤ i → i < e → r i ≠ g := by
  intro i h1 h2 hg
  have k : g_E fr g (64 - i) (r i) = e := by
    by_cases ei : i = s
    · rw [ei, hW.1]; exact hE
    · obtain ⟨j, rfl⟩ : ∃ j, i = j + 1 := ⟨i - 1, by omega⟩
      have := (hW.2 j (by omega) (by omega)).2.2.1
      rw [show 64 - (j + 1) = 63 - j by omega]; exact this
  rw [show 64 - i = (63 - i) + 1 by omega] at k
  simp only [g_E, if_pos hg] at k
  omega
theorem a_inv.book {A : aS} (h : a_inv A) (ho : a_ok A) {a g s e : Nat} {r : Nat → Nat} (hT : A.T ≤ s) (hse : s < e) (he : e ≤ 64) (hE : g_E (a_fr A) g (64 - s) a = e) (hW : g_W (a_fr A) g a s e r) : a_inv (A.book g s e r) := by
  obtain ⟨h1, h2, h3, h4⟩ := h
  refine ⟨h1, fun t x y ht hxy => ?_, fun j hj i => ?_, fun j hj => ?_⟩
  · rw [a_used_book]
    by_cases c : g_st r s e t x y = true
    · rw [if_pos c]
      rw [g_st_true] at c
      have hf := (hW.2 t c.1 c.2.1).2.1
      rw [c.2.2.1, c.2.2.2] at hf
      unfold a_fr at hf
      rw [if_neg hxy, Bool.and_eq_true, decide_eq_true_eq] at hf
      omega
    · rw [if_neg c]; exact h2 t x y ht hxy
  · have hj : A.P + 1 ≤ j := hj
    show (if j = A.P then r else A.nd j) i = 0
    rw [if_neg (by omega)]; exact h3 j (by omega) i
  · have hj : j < A.P + 1 := hj
    show ((if j = A.P then 0 else A.fa j) = 0 ∧ A.T < (if j = A.P then e else A.la j) ∧ (if j = A.P then s else A.at j) < (if j = A.P then e else A.la j) ∧ ∀ i, (if j = A.P then s else A.at j) ≤ i → i < (if j = A.P then e else A.la j) → (if j = A.P then r else A.nd j) i ≠ (if j = A.P then g else A.go j)) ∨ ((if j = A.P then 0 else A.fa j) = 3 ∧ (if j = A.P then s else A.at j) ≤ (if j = A.P then e else A.la j) ∧ (if j = A.P then e else A.la j) ≤ A.T) ∨ (if j = A.P then 0 else A.fa j) = 4 ∨ (if j = A.P then 0 else A.fa j) = 5
    by_cases ej : j = A.P
    · simp only [if_pos ej]
      exact Or.inl ⟨trivial, by omega, hse, g_W_goal he hE hW⟩
    · simp only [if_neg ej]
      exact h4 j (by omega)
theorem a_used_cut_le {A : aS} {h f t a b : Nat} (hh : h < A.P) (hm : a_s A h ≤ A.la h) : a_used (A.end h (a_cutla A h) f) t a b ≤ a_used A t a b := by
  rw [a_used_cut hh hm]; omega
theorem a_inv.cancel {A : aS} (h : a_inv A) {d : Nat} (hh : d < A.P) (hm : a_s A d ≤ A.la d) : a_inv (A.end d (a_cutla A d) 4) := by
  obtain ⟨h1, h2, h3, h4⟩ := h
  refine ⟨h1, fun t x y ht hxy => Nat.le_trans (a_used_cut_le hh hm) (h2 t x y ht hxy), h3, fun j hj => ?_⟩
  show ((if j = d then 4 else A.fa j) = 0 ∧ A.T < (if j = d then a_cutla A d else A.la j) ∧ A.at j < (if j = d then a_cutla A d else A.la j) ∧ ∀ i, A.at j ≤ i → i < (if j = d then a_cutla A d else A.la j) → A.nd j i ≠ A.go j) ∨ ((if j = d then 4 else A.fa j) = 3 ∧ A.at j ≤ (if j = d then a_cutla A d else A.la j) ∧ (if j = d then a_cutla A d else A.la j) ≤ A.T) ∨ (if j = d then 4 else A.fa j) = 4 ∨ (if j = d then 4 else A.fa j) = 5
  by_cases ej : j = d
  · simp only [if_pos ej]; exact Or.inr (Or.inr (Or.inl trivial))
  · simp only [if_neg ej]; exact h4 j hj
