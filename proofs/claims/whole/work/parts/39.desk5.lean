/-! The desk: cutOffTouched, cut. Rows laid by wip/gen/desk5.py. -/
theorem lg0 (x : Int64) : lg_cmp x 0 = 0 ↔ x = 0 := by
  unfold lg_cmp
  constructor
  · intro h
    split at h
    · exact absurd h (by decide)
    · split at h
      · assumption
      · exact absurd h (by decide)
  · rintro rfl
    rw [if_neg (by decide), if_pos rfl]
/-- how a parcel stands -/
def a_one (A : aS) (h : Nat) : Prop := (A.fa h = 0 ∧ A.T < A.la h ∧ A.at h < A.la h ∧ ∀ i, A.at h ≤ i → i < A.la h → A.nd h i ≠ A.go h) ∨ (A.fa h = 3 ∧ A.at h ≤ A.la h ∧ A.la h ≤ A.T) ∨ A.fa h = 4 ∨ A.fa h = 5
theorem a_state_is {A : aS} {h : Nat} (ho : a_ok A) (hh : h < A.P) (hc : a_one A h) : p_state (nI (A.at h)) (a_last A h) (a_fate A h) (nI A.T) = if A.fa h = 0 then (if A.T < A.at h then 1 else 2) else nI (A.fa h) := by
  have h1 := ho.1
  have h2 := ho.2.2.2.2 h hh
  unfold p_state a_fate a_last
  rcases hc with ⟨q1, q2, q3, _⟩ | ⟨q1, q2, q3⟩ | q1 | q1
  · have ef : (if A.fa h = 4 ∨ A.fa h = 5 then nI (A.fa h) else (0 : Int32)) = 0 := if_neg (by omega)
    have el : (if A.la h < A.at h then (-1 : Int32) else nI (A.la h)) = nI (A.la h) := if_neg (by omega)
    rw [ef, el, if_pos rfl, if_pos q1]
    by_cases c : A.T < A.at h
    · rw [if_pos c, if_neg (fun z => by rw [nI_le' (by omega) (by omega)] at z; omega)]
    · rw [if_neg c, if_pos ((nI_le' (by omega) (by omega)).mpr (by omega)), if_neg (fun z => by rw [nI_le' (by omega) (by omega)] at z; omega)]
  · have ef : (if A.fa h = 4 ∨ A.fa h = 5 then nI (A.fa h) else (0 : Int32)) = 0 := if_neg (by omega)
    have el : (if A.la h < A.at h then (-1 : Int32) else nI (A.la h)) = nI (A.la h) := if_neg (by omega)
    rw [ef, el, if_pos rfl, if_neg (by omega : ¬ A.fa h = 0), if_pos ((nI_le' (by omega) (by omega)).mpr (by omega)), if_pos ((nI_le' (by omega) (by omega)).mpr q3), q1]; rfl
  · rw [if_pos (Or.inl q1), if_neg (by rw [q1]; decide), if_neg (by omega)]
  · rw [if_pos (Or.inr q1), if_neg (by rw [q1]; decide), if_neg (by omega)]
theorem a_live_is {A : aS} {h : Nat} (ho : a_ok A) (hh : h < A.P) (hc : a_one A h) : p_live (nI (A.at h)) (a_last A h) (a_fate A h) (nI A.T) = decide (A.fa h = 0) := by
  unfold p_live
  rw [a_state_is ho hh hc]
  by_cases c : A.fa h = 0
  · rw [if_pos c, decide_eq_true c]
    split <;> decide
  · rw [if_neg c, decide_eq_false c]
    rcases hc with q | q | q | q
    · exact absurd q.1 c
    · rw [q.1]; decide
    · rw [q]; decide
    · rw [q]; decide
theorem a_uses_is {A : aS} {h a b : Nat} {nd : Nat → Int32} (ho : a_ok A) (hh : h < A.P) (hnd : ∀ i, i < 65 → nd i = nI (A.nd h i)) (ha : a < 8) (hb : b < 8) : m_any (p_step nd (nI a) (nI b)) (a_s A h) (A.la h - a_s A h) = m_any (fun t => a_goes A h t a b || a_goes A h t b a) A.T (64 - A.T) := by
  have h1 := ho.1
  have h2 := ho.2.2.2.2 h hh
  have st : ∀ i, i < 64 → (p_step nd (nI a) (nI b) i = true ↔ (A.nd h i = a ∧ A.nd h (i + 1) = b) ∨ (A.nd h i = b ∧ A.nd h (i + 1) = a)) := by
    intro i hi
    have n1 := h2.2.2.2 i (by omega)
    have n2 := h2.2.2.2 (i + 1) (by omega)
    unfold p_step
    rw [hnd i (by omega), hnd (i + 1) (by omega)]
    simp only [Bool.or_eq_true, Bool.and_eq_true, decide_eq_true_eq]
    rw [nI_inj (by omega) (by omega), nI_inj (by omega) (by omega), nI_inj (by omega) (by omega), nI_inj (by omega) (by omega)]
  have gs : ∀ i, ((a_goes A h i a b || a_goes A h i b a) = true ↔ (A.at h ≤ i ∧ i < A.la h) ∧ ((A.nd h i = a ∧ A.nd h (i + 1) = b) ∨ (A.nd h i = b ∧ A.nd h (i + 1) = a))) := by
    intro i
    rw [Bool.or_eq_true, a_goes_st, a_goes_st, g_st_true, g_st_true]
    constructor
    · rintro (⟨q1, q2, q3⟩ | ⟨q1, q2, q3⟩)
      · exact ⟨⟨q1, q2⟩, Or.inl q3⟩
      · exact ⟨⟨q1, q2⟩, Or.inr q3⟩
    · rintro ⟨⟨q1, q2⟩, q3 | q3⟩
      · exact Or.inl ⟨q1, q2, q3⟩
      · exact Or.inr ⟨q1, q2, q3⟩
  have es : a_s A h = max (A.at h) A.T := rfl
  rw [Bool.eq_iff_iff]
  constructor
  · intro h3
    obtain ⟨i, q1, q2, q3⟩ := m_any_pos _ _ h3
    have q3 := (st i (by omega)).mp q3
    exact m_any_of ((gs i).mpr ⟨by omega, q3⟩) _ _ (by omega) (by omega)
  · intro h3
    obtain ⟨i, q1, q2, q3⟩ := m_any_pos _ _ h3
    have q3 := (gs i).mp q3
    exact m_any_of ((st i (by omega)).mpr q3.2) _ _ (by omega) (by omega)
theorem las_end {A : aS} {l : Nat → Nat} {h x : Nat} : (A.las l).end h x (A.fa h) = A.las (fun j => if j = h then x else l j) := by
  have : (fun j => if j = h then A.fa h else A.fa j) = A.fa := by
    funext j; split
    · rename_i e; rw [e]
    · rfl
  show (A.T, A.nc, A.P, A.pl, A.op, A.go, A.at, (fun j => if j = h then x else l j), (fun j => if j = h then A.fa h else A.fa j), A.nd) = _
  rw [this]; rfl
theorem r_cots {X : mX} {C S : Nat} {Q : Outcome → mM → Prop} {A : aS} {tc : Nat → Bool} {a b : Nat} (ha : a < 8) (hb : b < 8) (ho : a_ok A) (hone : ∀ j, j < A.P → a_one A j) (htc : ∀ j, j < A.P → tc j = (decide (A.fa j = 0) && m_any (fun t => a_goes A j t a b || a_goes A j t b a) A.T (64 - A.T))) {q : Nat → Nat} {nd : Nat → Nat → Int32} : ∀ (d hd : Nat) (w : mWd) (m : Int64), hd + d = A.P → JCq w (A.las (a_cuts A tc hd)) q nd → (∀ t x y, t < 64 → x ≠ y → a_used (A.las (a_cuts A tc hd)) t x y ≤ 1) → (∀ j, j < 64 → lb m j = (decide (j < hd) && tc j)) → (∀ w' m', JCq w' (A.las (a_cuts A tc A.P)) q nd → (∀ t x y, t < 64 → x ≠ y → a_used (A.las (a_cuts A tc A.P)) t x y ≤ 1) → sM w w' → (∀ j, j < 64 → lb m' j = (decide (j < A.P) && tc j)) → Q (.returned (some (.long m'))) (mw w')) → Sp X 50 3 68 C S (5, [(5, .int (nI hd)), (3, .long (m)), (0, .ref 0), (1, .int (nI a)), (2, .int (nI b))], []) (mw w) Q := by
  have h32 := ho.2.2.1
  have hT64 := ho.1
  intro d
  induction d with
  | zero =>
    intro hd w m hdd hj hu hm kk
    have hP : w.f 3 = nI A.P := hj.2.1.1
    have e : hd = A.P := by omega
    subst e
    refine Sp.go 2 (g := (8, [(5, .int (nI (A.P))), (3, .long (m)), (0, .ref 0), (1, .int (nI a)), (2, .int (nI b))], [.ref 0, .int (nI (A.P))])) rfl ?_
    refine Sp.get (v := .int (nI (A.P))) rfl rfl (by rw [← hP]; rfl) ?_
    refine Sp.icmp rfl (fun u1 => ?_) (fun u1 => absurd ((nI_le' (by omega) (by omega)).mpr (by omega)) u1)
    refine Sp.go 1 (g := (74, [(5, .int (nI (A.P))), (3, .long (m)), (0, .ref 0), (1, .int (nI a)), (2, .int (nI b))], [.long (m)])) rfl ?_
    refine Sp.lret rfl rfl ?_
    exact kk w m hj hu (sM.refl w) hm
  | succ d ih =>
    intro hd w m hdd hj hu hm kk
    have hP : w.f 3 = nI A.P := hj.2.1.1
    have hh : hd < A.P := by omega
    have hnow : w.f 4 = nI A.T := hj.2.1.2
    have hc := hj.2.2.2.2.2.1
    have hnd := hj.2.2.2.2.2.2
    have hoB : a_ok (A.las (a_cuts A tc hd)) := ho.las (a_cuts_le ho tc hd)
    have hla : (A.las (a_cuts A tc hd)).la hd = A.la hd := by show a_cuts A tc hd hd = _; unfold a_cuts; rw [if_neg (by omega)]
    have h9 := ho.2.2.2.2 hd hh
    have hs9 := hone hd hh
    have hlive := a_live_is ho hh hs9
    have elast : a_last (A.las (a_cuts A tc hd)) hd = a_last A hd := by unfold a_last; rw [hla]; rfl
    have hp9 : w.d (q hd) = some (.inr (1, [.int (nI (A.go hd)), .int (nI (A.at hd)), .ref (q hd + 24), .int (a_last A hd), .int (a_fate A hd)])) := by rw [← elast]; exact (hc.1 hd hh).2.1
    have hn9 : w.d (q hd + 1) = some (.inl (0, 65, .inl (nd hd))) := (hc.1 hd hh).2.2.1
    have huse := a_uses_is (a := a) (b := b) ho hh (hnd hd hh) ha hb
    have htch := htc hd hh
    by_cases hf0 : A.fa hd = 0
    · have hlt : A.T < A.la hd ∧ A.at hd < A.la hd := by
        rcases hs9 with z | z | z | z
        · exact ⟨z.2.1, z.2.2.1⟩
        · omega
        · omega
        · omega
      have el : a_last A hd = nI (A.la hd) := by unfold a_last; rw [if_neg (by omega)]
      have ef : a_fate A hd = 0 := by unfold a_fate; rw [if_neg (by omega)]
      have hp8 : w.d (q hd) = some (.inr (1, [.int (nI (A.go hd)), .int (nI (A.at hd)), .ref (q hd + 24), .int (nI (A.la hd)), .int (a_fate A hd)])) := by rw [← el]; exact hp9
      have hp7 : w.d (q hd) = some (.inr (1, [.int (nI (A.go hd)), .int (nI (A.at hd)), .ref (q hd + 24), .int (nI (A.la hd)), .int 0])) := by rw [← ef]; exact hp8
      cases hu9 : m_any (fun t => a_goes A hd t a b || a_goes A hd t b a) A.T (64 - A.T) with
      | false =>
        refine Sp.go 2 (g := (8, [(5, .int (nI hd)), (3, .long (m)), (0, .ref 0), (1, .int (nI a)), (2, .int (nI b))], [.ref 0, .int (nI hd)])) rfl ?_
        refine Sp.get (v := .int (nI (A.P))) rfl rfl (by rw [← hP]; rfl) ?_
        refine Sp.icmp rfl (fun u1 => absurd u1 (fun z => absurd ((nI_le' (by omega) (by omega)).mp z) (by omega))) (fun u1 => ?_)
        refine Sp.go 2 (g := (17, [(5, .int (nI hd)), (3, .long (m)), (0, .ref 0), (1, .int (nI a)), (2, .int (nI b))], [.int (nI hd), .ref 0])) rfl ?_
        refine Sp.vr (some (.ref (q hd + 23))) (mw (w)) (k' := 45) (F' := 0) (N' := 0) (C' := 0) (S' := 0) (vs := [.int (nI hd)]) (st := []) rfl rfl rfl rfl (Nat.le_of_ble_eq_true rfl) (Nat.le_of_ble_eq_true rfl) (by decide) (by decide) (Nat.zero_le _) (Nat.zero_le _) (fun Q' h => r_parcelOf_in hP h32 hh (hc.1 _ hh).1 h) ?_
        refine Sp.go 5 (g := (30, [(6, .ref (q hd + 23)), (5, .int (nI hd)), (3, .long (m)), (0, .ref 0), (1, .int (nI a)), (2, .int (nI b))], [.ref 0, .ref (q hd + 23)])) rfl ?_
        refine Sp.get (v := .int (nI (A.T))) rfl rfl (by rw [← hnow]; rfl) ?_
        refine Sp.vr (some (.int 1)) (mw (w)) (k' := 16) (F' := 1) (N' := 21) (C' := 0) (S' := 0) (vs := [.int (nI (A.T))]) (st := []) rfl hp9 rfl rfl (Nat.le_of_ble_eq_true rfl) (Nat.le_of_ble_eq_true rfl) (by decide) (by decide) (Nat.zero_le _) (Nat.zero_le _) (fun Q' h => p_isUnderWay hp9 (by rw [hlive, decide_eq_true hf0]; exact h)) ?_
        refine Sp.if rfl (fun u2 => absurd u2 (show ¬ ((1 : Int32) = 0) by decide)) (fun u2 => ?_)
        refine Sp.go 4 (g := (44, [(6, .ref (q hd + 23)), (5, .int (nI hd)), (3, .long (m)), (0, .ref 0), (1, .int (nI a)), (2, .int (nI b))], [.ref 0, .int (nI b), .int (nI a), .ref (q hd + 23)])) rfl ?_
        refine Sp.get (v := .int (nI (A.T))) rfl rfl (by rw [← hnow]; rfl) ?_
        refine Sp.vr (some (.int 0)) (mw (w)) (k' := 18) (F' := 1) (N' := 21) (C' := 0) (S' := 0) (vs := [.int (nI a), .int (nI b), .int (nI (A.T))]) (st := []) rfl hp9 rfl rfl (Nat.le_of_ble_eq_true rfl) (Nat.le_of_ble_eq_true rfl) (by decide) (by decide) (Nat.zero_le _) (Nat.zero_le _) (fun Q' h => p_usesPairFrom (t := A.at hd) (s := A.T) (e := A.la hd) (by omega) (by omega) (by omega) hp8 hn9 (by rw [show max (A.at hd) A.T = a_s A hd from rfl, huse, hu9]; exact h)) ?_
        refine Sp.if rfl (fun u3 => ?_) (fun u3 => absurd (show (0 : Int32) = 0 by decide) u3)
        refine Sp.go 2 (g := (5, [(5, .int (nI hd + 1)), (6, .ref (q hd + 23)), (3, .long (m)), (0, .ref 0), (1, .int (nI a)), (2, .int (nI b))], [])) rfl ?_
        refine Sp.lsub [0, 2, 3, 4, 5] (ls' := [(5, .int (nI hd + 1)), (3, .long (m)), (0, .ref 0), (1, .int (nI a)), (2, .int (nI b))]) rfl ?_
        rw [show nI hd + 1 = nI (hd + 1) from (nI_succ hd).symm]
        have etc : tc hd = false := by rw [htch]; rw [hu9, Bool.and_false]
        have ea : a_cuts A tc hd = a_cuts A tc (hd + 1) := by
          funext j; unfold a_cuts
          by_cases e : j = hd
          · rw [if_neg (by omega), if_neg (fun z => by rw [e, etc] at z; exact absurd z.2 (by decide))]
          · simp only [show j < hd + 1 ↔ j < hd by omega]
        rw [ea] at hj hu
        refine ih (hd + 1) w m (by omega) hj hu (fun j hj9 => ?_) kk
        rw [hm j hj9]
        by_cases e : j = hd
        · rw [e, etc, Bool.and_false, Bool.and_false]
        · rw [show decide (j < hd + 1) = decide (j < hd) from decide_eq_decide.mpr (by omega)]
      | true =>
        refine Sp.go 2 (g := (8, [(5, .int (nI hd)), (3, .long (m)), (0, .ref 0), (1, .int (nI a)), (2, .int (nI b))], [.ref 0, .int (nI hd)])) rfl ?_
        refine Sp.get (v := .int (nI (A.P))) rfl rfl (by rw [← hP]; rfl) ?_
        refine Sp.icmp rfl (fun u1 => absurd u1 (fun z => absurd ((nI_le' (by omega) (by omega)).mp z) (by omega))) (fun u1 => ?_)
        refine Sp.go 2 (g := (17, [(5, .int (nI hd)), (3, .long (m)), (0, .ref 0), (1, .int (nI a)), (2, .int (nI b))], [.int (nI hd), .ref 0])) rfl ?_
        refine Sp.vr (some (.ref (q hd + 23))) (mw (w)) (k' := 45) (F' := 0) (N' := 0) (C' := 0) (S' := 0) (vs := [.int (nI hd)]) (st := []) rfl rfl rfl rfl (Nat.le_of_ble_eq_true rfl) (Nat.le_of_ble_eq_true rfl) (by decide) (by decide) (Nat.zero_le _) (Nat.zero_le _) (fun Q' h => r_parcelOf_in hP h32 hh (hc.1 _ hh).1 h) ?_
        refine Sp.go 5 (g := (30, [(6, .ref (q hd + 23)), (5, .int (nI hd)), (3, .long (m)), (0, .ref 0), (1, .int (nI a)), (2, .int (nI b))], [.ref 0, .ref (q hd + 23)])) rfl ?_
        refine Sp.get (v := .int (nI (A.T))) rfl rfl (by rw [← hnow]; rfl) ?_
        refine Sp.vr (some (.int 1)) (mw (w)) (k' := 16) (F' := 1) (N' := 21) (C' := 0) (S' := 0) (vs := [.int (nI (A.T))]) (st := []) rfl hp9 rfl rfl (Nat.le_of_ble_eq_true rfl) (Nat.le_of_ble_eq_true rfl) (by decide) (by decide) (Nat.zero_le _) (Nat.zero_le _) (fun Q' h => p_isUnderWay hp9 (by rw [hlive, decide_eq_true hf0]; exact h)) ?_
        refine Sp.if rfl (fun u2 => absurd u2 (show ¬ ((1 : Int32) = 0) by decide)) (fun u2 => ?_)
        refine Sp.go 4 (g := (44, [(6, .ref (q hd + 23)), (5, .int (nI hd)), (3, .long (m)), (0, .ref 0), (1, .int (nI a)), (2, .int (nI b))], [.ref 0, .int (nI b), .int (nI a), .ref (q hd + 23)])) rfl ?_
        refine Sp.get (v := .int (nI (A.T))) rfl rfl (by rw [← hnow]; rfl) ?_
        refine Sp.vr (some (.int 1)) (mw (w)) (k' := 18) (F' := 1) (N' := 21) (C' := 0) (S' := 0) (vs := [.int (nI a), .int (nI b), .int (nI (A.T))]) (st := []) rfl hp9 rfl rfl (Nat.le_of_ble_eq_true rfl) (Nat.le_of_ble_eq_true rfl) (by decide) (by decide) (Nat.zero_le _) (Nat.zero_le _) (fun Q' h => p_usesPairFrom (t := A.at hd) (s := A.T) (e := A.la hd) (by omega) (by omega) (by omega) hp8 hn9 (by rw [show max (A.at hd) A.T = a_s A hd from rfl, huse, hu9]; exact h)) ?_
        refine Sp.if rfl (fun u3 => absurd u3 (show ¬ ((1 : Int32) = 0) by decide)) (fun u3 => ?_)
        refine Sp.go 2 (g := (56, [(6, .ref (q hd + 23)), (5, .int (nI hd)), (3, .long (m)), (0, .ref 0), (1, .int (nI a)), (2, .int (nI b))], [.ref (q hd + 23), .ref 0])) rfl ?_
        refine Sp.vr (some (.int (nI (A.la hd) - nI (max (A.at hd) A.T)))) (mw (r_cutW w (q hd) (a_s A hd) (A.la hd) (nI (A.go hd)) (nI (A.at hd)) 0 (if A.T < A.at hd then -1 else nI A.T) (A.nd hd))) (k' := 49) (F' := 2) (N' := 44) (C' := 0) (S' := 0) (vs := [.ref (q hd + 23)]) (st := []) rfl rfl rfl rfl (Nat.le_of_ble_eq_true rfl) (Nat.le_of_ble_eq_true rfl) (by decide) (by decide) (Nat.zero_le _) (Nat.zero_le _) (fun Q' h => r_cutOff (a0 := A.at hd) (T0 := A.T) (e := A.la hd) (N := A.nd hd) (by omega) hT64 (by omega) hnow hp7 hn9 (fun i _ q2 => ⟨hnd hd hh i (by omega), h9.2.2.2 i (by omega)⟩) h) ?_
        refine Sp.go 9 (g := (5, [(5, .int (nI hd + 1)), (3, .long ((m) ||| ((1 : Int64) <<< ((nI hd : Int32).toInt64 &&& 63)))), (6, .ref (q hd + 23)), (0, .ref 0), (1, .int (nI a)), (2, .int (nI b))], [])) rfl ?_
        refine Sp.lsub [0, 1, 3, 4, 5] (ls' := [(5, .int (nI hd + 1)), (3, .long ((m) ||| ((1 : Int64) <<< ((nI hd : Int32).toInt64 &&& 63)))), (0, .ref 0), (1, .int (nI a)), (2, .int (nI b))]) rfl ?_
        rw [show nI hd + 1 = nI (hd + 1) from (nI_succ hd).symm]
        have etc : tc hd = true := by rw [htch, hu9, decide_eq_true hf0]; rfl
        have hsB : a_s (A.las (a_cuts A tc hd)) hd ≤ (A.las (a_cuts A tc hd)).la hd := by rw [hla]; show max (A.at hd) A.T ≤ A.la hd; omega
        have k1 := hj.cutW hoB hu (h := hd) (f := A.fa hd) (x := .inr (1, [.int (nI (A.go hd)), .int (nI (A.at hd)), .ref (q hd + 24), .int (nI (A.la hd)), .int 0])) (fv := 0) hh hsB (by rw [hf0]; rfl)
        have ea : (A.las (a_cuts A tc hd)).end hd (a_cutla (A.las (a_cuts A tc hd)) hd) (A.fa hd) = A.las (a_cuts A tc (hd + 1)) := by
          rw [las_end]
          congr 1
          funext j; unfold a_cuts
          by_cases e : j = hd
          · rw [if_pos e, if_pos ⟨by omega, by rw [e]; exact etc⟩, e]; rfl
          · rw [if_neg e]; simp only [show j < hd + 1 ↔ j < hd by omega]
        have k2 := fun t x y (ht : t < 64) (hxy : x ≠ y) => Nat.le_trans (a_used_cut_le (A := A.las (a_cuts A tc hd)) (h := hd) (f := A.fa hd) (t := t) (a := x) (b := y) hh hsB) (hu t x y ht hxy)
        rw [ea] at k1
        simp only [ea] at k2
        rw [mWd.sd_self w hp7, hla] at k1
        refine ih (hd + 1) _ _ (by omega) k1 k2 (fun j hj9 => ?_) (fun w2 m2 q1 q2 q3 q4 => kk w2 m2 q1 q2 (sM.trans (w1 := r_cutW w (q hd) (a_s A hd) (A.la hd) (nI (A.go hd)) (nI (A.at hd)) 0 (if A.T < A.at hd then -1 else nI A.T) (A.nd hd)) ⟨rfl, rfl, rfl, rfl, rfl, rfl, rfl, rfl, rfl, rfl, rfl, rfl, rfl, rfl, rfl⟩ q3) q4)
        rw [lb_or, hm j hj9, lb_one (by omega) hj9]
        by_cases e : j = hd
        · rw [decide_eq_true e, Bool.or_true, e, decide_eq_true (by omega), etc]; rfl
        · rw [decide_eq_false e, Bool.or_false, show decide (j < hd + 1) = decide (j < hd) from decide_eq_decide.mpr (by omega)]
    · skip
      refine Sp.go 2 (g := (8, [(5, .int (nI hd)), (3, .long (m)), (0, .ref 0), (1, .int (nI a)), (2, .int (nI b))], [.ref 0, .int (nI hd)])) rfl ?_
      refine Sp.get (v := .int (nI (A.P))) rfl rfl (by rw [← hP]; rfl) ?_
      refine Sp.icmp rfl (fun u1 => absurd u1 (fun z => absurd ((nI_le' (by omega) (by omega)).mp z) (by omega))) (fun u1 => ?_)
      refine Sp.go 2 (g := (17, [(5, .int (nI hd)), (3, .long (m)), (0, .ref 0), (1, .int (nI a)), (2, .int (nI b))], [.int (nI hd), .ref 0])) rfl ?_
      refine Sp.vr (some (.ref (q hd + 23))) (mw (w)) (k' := 45) (F' := 0) (N' := 0) (C' := 0) (S' := 0) (vs := [.int (nI hd)]) (st := []) rfl rfl rfl rfl (Nat.le_of_ble_eq_true rfl) (Nat.le_of_ble_eq_true rfl) (by decide) (by decide) (Nat.zero_le _) (Nat.zero_le _) (fun Q' h => r_parcelOf_in hP h32 hh (hc.1 _ hh).1 h) ?_
      refine Sp.go 5 (g := (30, [(6, .ref (q hd + 23)), (5, .int (nI hd)), (3, .long (m)), (0, .ref 0), (1, .int (nI a)), (2, .int (nI b))], [.ref 0, .ref (q hd + 23)])) rfl ?_
      refine Sp.get (v := .int (nI (A.T))) rfl rfl (by rw [← hnow]; rfl) ?_
      refine Sp.vr (some (.int 0)) (mw (w)) (k' := 16) (F' := 1) (N' := 21) (C' := 0) (S' := 0) (vs := [.int (nI (A.T))]) (st := []) rfl hp9 rfl rfl (Nat.le_of_ble_eq_true rfl) (Nat.le_of_ble_eq_true rfl) (by decide) (by decide) (Nat.zero_le _) (Nat.zero_le _) (fun Q' h => p_isUnderWay hp9 (by rw [hlive, decide_eq_false hf0]; exact h)) ?_
      refine Sp.if rfl (fun u2 => ?_) (fun u2 => absurd (show (0 : Int32) = 0 by decide) u2)
      refine Sp.go 2 (g := (5, [(5, .int (nI hd + 1)), (6, .ref (q hd + 23)), (3, .long (m)), (0, .ref 0), (1, .int (nI a)), (2, .int (nI b))], [])) rfl ?_
      refine Sp.lsub [0, 2, 3, 4, 5] (ls' := [(5, .int (nI hd + 1)), (3, .long (m)), (0, .ref 0), (1, .int (nI a)), (2, .int (nI b))]) rfl ?_
      rw [show nI hd + 1 = nI (hd + 1) from (nI_succ hd).symm]
      have etc : tc hd = false := by rw [htch]; rw [decide_eq_false hf0]; rfl
      have ea : a_cuts A tc hd = a_cuts A tc (hd + 1) := by
        funext j; unfold a_cuts
        by_cases e : j = hd
        · rw [if_neg (by omega), if_neg (fun z => by rw [e, etc] at z; exact absurd z.2 (by decide))]
        · simp only [show j < hd + 1 ↔ j < hd by omega]
      rw [ea] at hj hu
      refine ih (hd + 1) w m (by omega) hj hu (fun j hj9 => ?_) kk
      rw [hm j hj9]
      by_cases e : j = hd
      · rw [e, etc, Bool.and_false, Bool.and_false]
      · rw [show decide (j < hd + 1) = decide (j < hd) from decide_eq_decide.mpr (by omega)]
