/-! What both sides show. -/
def oState (A : aS) (x : Int32) : Int32 := if a_in A x = true then a_state A x.toNatClampNeg else 0
def oWhere (A : aS) (x : Int32) : Int32 := if a_in A x = true then a_where A x.toNatClampNeg else -1
def oArrival (A : aS) (x : Int32) : Int32 := if a_in A x = true then a_arrival A x.toNatClampNeg else -1
def oStep (A : aS) (x y : Int32) : Int32 := if a_in A x = true then a_step A x.toNatClampNeg y else -1
def oLink (A : aS) (x y z : Int32) : Int32 := if a_pair A x y = true ∧ r_tick z = true then nI (a_used A z.toNatClampNeg x.toNatClampNeg y.toNatClampNeg) else 0
def oOpen (A : aS) (x y z : Int32) : Int32 := if a_pair A x y = true ∧ r_tick z = true then m_b2 (A.op x.toNatClampNeg y.toNatClampNeg z.toNatClampNeg) else 0
def oStored (A : aS) (x z : Int32) : Int32 := if a_isn A x = true ∧ r_tick z = true then nI (a_used A z.toNatClampNeg x.toNatClampNeg x.toNatClampNeg) else 0
def oFree (A : aS) (x z : Int32) : Int32 := if a_isn A x = true ∧ r_tick z = true then a_places (A.pl x.toNatClampNeg) - nI (a_used A z.toNatClampNeg x.toNatClampNeg x.toNatClampNeg) else -1
theorem a_last_le {A : aS} (ho : a_ok A) {h : Nat} (hh : h < A.P) : a_last A h ≤ nI 64 := by
  have h2 := ho.2.2.2.2 h hh
  unfold a_last
  split
  · decide
  · exact (nI_le' (by omega) (by omega)).mpr h2.2.2.1
theorem a_where_is {A : aS} {h : Nat} {nd : Nat → Int32} (ho : a_ok A) (hh : h < A.P) (hc : a_one A h) (hnd : ∀ i, i < 65 → nd i = nI (A.nd h i)) : (if p_state (nI (A.at h)) (a_last A h) (a_fate A h) (nI A.T) = 2 then p_node nd (nI (A.at h)) (a_last A h) (nI A.T) else -1) = a_where A h := by
  have h1 := ho.1
  have h2 := ho.2.2.2.2 h hh
  rw [a_state_is ho hh hc]
  unfold a_where
  by_cases c : A.fa h = 0
  · rw [if_pos c]
    have hl : A.T < A.la h ∧ A.at h < A.la h := by
      rcases hc with z | z | z | z
      · exact ⟨z.2.1, z.2.2.1⟩
      · omega
      · omega
      · omega
    by_cases t : A.T < A.at h
    · rw [if_pos t, if_neg (by decide), if_neg (by omega)]
    · rw [if_neg t, if_pos rfl, if_pos ⟨c, by omega⟩]
      have el : a_last A h = nI (A.la h) := if_neg (by omega)
      unfold p_node
      rw [el, if_neg (by rw [nI_lt' (by omega) (by omega)]; omega), if_neg (by rw [nI_lt' (by omega) (by omega)]; omega), nI_clamp (by omega), hnd _ (by omega)]
  · rw [if_neg c, if_neg (c := A.fa h = 0 ∧ A.at h ≤ A.T) (fun z => c z.1)]
    rcases hc with z | z | z | z
    · exact absurd z.1 c
    · exact if_neg (by rw [z.1]; decide)
    · exact if_neg (by rw [z]; decide)
    · exact if_neg (by rw [z]; decide)
theorem a_arrival_is {A : aS} {h : Nat} (hc : a_one A h) : (if a_fate A h = 0 then a_last A h else -1) = a_arrival A h := by
  unfold a_arrival
  rcases hc with z | z | z | z
  · rw [show a_fate A h = 0 from if_neg (by omega), if_pos rfl, if_pos (Or.inl z.1)]; exact if_neg (by omega)
  · rw [show a_fate A h = 0 from if_neg (by omega), if_pos rfl, if_pos (Or.inr z.1)]; exact if_neg (by omega)
  · rw [show a_fate A h = 4 by unfold a_fate; rw [if_pos (Or.inl z), z]; rfl, if_neg (by decide), if_neg (by omega)]
  · rw [show a_fate A h = 5 by unfold a_fate; rw [if_pos (Or.inr z), z]; rfl, if_neg (by decide), if_neg (by omega)]
theorem a_step_is {A : aS} {h : Nat} {nd : Nat → Int32} (ho : a_ok A) (hh : h < A.P) (hnd : ∀ i, i < 65 → nd i = nI (A.nd h i)) (y : Int32) : p_node nd (nI (A.at h)) (a_last A h) y = a_step A h y := by
  have h2 := ho.2.2.2.2 h hh
  unfold p_node a_step
  by_cases c : y < nI (A.at h)
  · rw [if_pos c, if_neg (fun z => absurd c (i_nlt2 z.1))]
  · rw [if_neg c]
    have y0 := i_pos_of (by omega) c
    by_cases l : A.la h < A.at h
    · rw [show a_last A h = -1 from if_pos l]
      have e1 : (-1 : Int32) < y := by
        rw [Int32.lt_iff_toInt_lt] at y0 ⊢
        have a1 : (-1 : Int32).toInt = -1 := by decide
        have a2 : (0 : Int32).toInt = 0 := by decide
        omega
      rw [if_pos e1, if_neg]
      intro z
      rw [Int32.le_iff_toInt_le] at z
      have z2 := z.2
      rw [Int32.le_iff_toInt_le] at z2
      rw [nI_toInt (by omega)] at z z2
      omega
    · rw [show a_last A h = nI (A.la h) from if_neg l]
      by_cases d : nI (A.la h) < y
      · rw [if_pos d, if_neg (fun z => absurd d (i_nlt2 z.2))]
      · rw [if_neg d, if_pos ⟨i_nlt c, i_nlt d⟩]
        obtain ⟨i, hi, rfl, _, _⟩ := a_step_ix h2.2.2.1 c (i_nlt d) h2.2.1
        rw [nI_clamp (by omega), hnd i hi]
theorem c_state {X : mX} {C S : Nat} {Q : Outcome → mM → Prop} {w : mWd} {A : aS} (ho : a_ok A) (hi : a_inv A) (hjc : JC w A) (x : Int32) (hq : Q (.returned (some (.int (oState A x)))) (mw w)) : Sp X 35 1 21 C S (0, [(0, .ref 0), (1, .int x)], []) (mw w) Q := by
  obtain ⟨q, nd, hj⟩ := hjc
  have h32 := ho.2.2.1
  cases h : a_in A x with
  | false =>
    rw [show oState A x = _ from if_neg (by rw [h]; decide)] at hq
    exact r_state_out (by rw [hj.2.1.1]; exact a_in_out h) hq
  | true =>
    rw [show oState A x = _ from if_pos h] at hq
    obtain ⟨d, hd, rfl⟩ := a_in_spec ho h
    rw [nI_clamp (by omega)] at hq
    refine r_state_in hj.2.1.1 h32 hd hj.2.2.2.2.2.1 ?_
    rw [hj.2.1.2]
    have k := a_state_is ho hd (hi.2.2.2 d hd)
    rw [show p_state ((fun h => nI (A.at h)) d) (a_last A d) (a_fate A d) (nI A.T) = a_state A d from k]
    exact hq
theorem m_state {X : mX} {C S : Nat} {Q : Outcome → mM → Prop} {w : mWd} {A : aS} (ho : a_ok A) (hi : a_inv A) (hjr : JR w A) (x : Int32) (hq : Q (.returned (some (.int (oState A x)))) (mw (w.sf 5 0))) : Sp X 77 1 21 C S (0, [(0, .ref 10), (1, .int x)], []) (mw w) Q := by
  have h32 := ho.2.2.1
  cases h : a_in A x with
  | false =>
    rw [show oState A x = _ from if_neg (by rw [h]; decide)] at hq
    exact d_state_out ho hjr.1 h hq
  | true =>
    rw [show oState A x = _ from if_pos h] at hq
    obtain ⟨d, hd, rfl⟩ := a_in_spec ho h
    rw [nI_clamp (by omega)] at hq
    exact d_state ho hjr.1 hd (hi.f5 d hd) hq
theorem c_where {X : mX} {C S : Nat} {Q : Outcome → mM → Prop} {w : mWd} {A : aS} (ho : a_ok A) (hi : a_inv A) (hjc : JC w A) (x : Int32) (hq : Q (.returned (some (.int (oWhere A x)))) (mw w)) : Sp X 36 1 21 C S (0, [(0, .ref 0), (1, .int x)], []) (mw w) Q := by
  obtain ⟨q, nd, hj⟩ := hjc
  have h32 := ho.2.2.1
  cases h : a_in A x with
  | false =>
    rw [show oWhere A x = _ from if_neg (by rw [h]; decide)] at hq
    exact r_where_out (by rw [hj.2.1.1]; exact a_in_out h) hq
  | true =>
    rw [show oWhere A x = _ from if_pos h] at hq
    obtain ⟨d, hd, rfl⟩ := a_in_spec ho h
    rw [nI_clamp (by omega)] at hq
    refine r_where_in hj.2.1.1 h32 hd hj.2.2.2.2.2.1 (nI_pos (by have := (ho.2.2.2.2 d hd).2.1; omega)) (e := 64) (a_last_le ho hd) (by omega) ?_
    rw [hj.2.1.2]
    have k := a_where_is ho hd (hi.2.2.2 d hd) (hj.2.2.2.2.2.2 d hd)
    rw [← k] at hq
    exact hq
theorem m_where {X : mX} {C S : Nat} {Q : Outcome → mM → Prop} {w : mWd} {A : aS} (ho : a_ok A) (hi : a_inv A) (hjr : JR w A) (x : Int32) (hq : Q (.returned (some (.int (oWhere A x)))) (mw (w.sf 5 0))) : Sp X 78 2 42 C S (0, [(0, .ref 10), (1, .int x)], []) (mw w) Q := by
  have h32 := ho.2.2.1
  cases h : a_in A x with
  | false =>
    rw [show oWhere A x = _ from if_neg (by rw [h]; decide)] at hq
    exact d_where_out ho hjr.1 h hq
  | true =>
    rw [show oWhere A x = _ from if_pos h] at hq
    obtain ⟨d, hd, rfl⟩ := a_in_spec ho h
    rw [nI_clamp (by omega)] at hq
    exact d_where ho hjr.1 hd (hi.f5 d hd) hq
theorem c_arrival {X : mX} {C S : Nat} {Q : Outcome → mM → Prop} {w : mWd} {A : aS} (ho : a_ok A) (hi : a_inv A) (hjc : JC w A) (x : Int32) (hq : Q (.returned (some (.int (oArrival A x)))) (mw w)) : Sp X 37 1 21 C S (0, [(0, .ref 0), (1, .int x)], []) (mw w) Q := by
  obtain ⟨q, nd, hj⟩ := hjc
  have h32 := ho.2.2.1
  cases h : a_in A x with
  | false =>
    rw [show oArrival A x = _ from if_neg (by rw [h]; decide)] at hq
    exact r_arrival_out (by rw [hj.2.1.1]; exact a_in_out h) hq
  | true =>
    rw [show oArrival A x = _ from if_pos h] at hq
    obtain ⟨d, hd, rfl⟩ := a_in_spec ho h
    rw [nI_clamp (by omega)] at hq
    refine r_arrival_in hj.2.1.1 h32 hd hj.2.2.2.2.2.1 ?_
    rw [← a_arrival_is (hi.2.2.2 d hd)] at hq
    exact hq
theorem m_arrival {X : mX} {C S : Nat} {Q : Outcome → mM → Prop} {w : mWd} {A : aS} (ho : a_ok A) (hi : a_inv A) (hjr : JR w A) (x : Int32) (hq : Q (.returned (some (.int (oArrival A x)))) (mw (w.sf 5 0))) : Sp X 79 2 42 C S (0, [(0, .ref 10), (1, .int x)], []) (mw w) Q := by
  have h32 := ho.2.2.1
  cases h : a_in A x with
  | false =>
    rw [show oArrival A x = _ from if_neg (by rw [h]; decide)] at hq
    exact d_arrival_out ho hjr.1 h hq
  | true =>
    rw [show oArrival A x = _ from if_pos h] at hq
    obtain ⟨d, hd, rfl⟩ := a_in_spec ho h
    rw [nI_clamp (by omega)] at hq
    exact d_arrival ho hjr.1 hd (hi.f5 d hd) hq
theorem c_step {X : mX} {C S : Nat} {Q : Outcome → mM → Prop} {w : mWd} {A : aS} (ho : a_ok A) (hi : a_inv A) (hjc : JC w A) (x y : Int32) (hq : Q (.returned (some (.int (oStep A x y)))) (mw w)) : Sp X 38 1 21 C S (0, [(0, .ref 0), (1, .int x), (2, .int y)], []) (mw w) Q := by
  obtain ⟨q, nd, hj⟩ := hjc
  have h32 := ho.2.2.1
  cases h : a_in A x with
  | false =>
    rw [show oStep A x y = _ from if_neg (by rw [h]; decide)] at hq
    exact r_step_out (by rw [hj.2.1.1]; exact a_in_out h) hq
  | true =>
    rw [show oStep A x y = _ from if_pos h] at hq
    obtain ⟨d, hd, rfl⟩ := a_in_spec ho h
    rw [nI_clamp (by omega)] at hq
    refine r_step_in hj.2.1.1 h32 hd hj.2.2.2.2.2.1 (nI_pos (by have := (ho.2.2.2.2 d hd).2.1; omega)) (e := 64) (a_last_le ho hd) (by omega) ?_
    rw [← a_step_is ho hd (hj.2.2.2.2.2.2 d hd)] at hq
    exact hq
theorem m_step {X : mX} {C S : Nat} {Q : Outcome → mM → Prop} {w : mWd} {A : aS} (ho : a_ok A) (hi : a_inv A) (hjr : JR w A) (x y : Int32) (hq : Q (.returned (some (.int (oStep A x y)))) (mw (w.sf 5 0))) : Sp X 80 1 21 C S (0, [(0, .ref 10), (1, .int x), (2, .int y)], []) (mw w) Q := by
  have h32 := ho.2.2.1
  cases h : a_in A x with
  | false =>
    rw [show oStep A x y = _ from if_neg (by rw [h]; decide)] at hq
    exact d_step_out ho hjr.1 h hq
  | true =>
    rw [show oStep A x y = _ from if_pos h] at hq
    obtain ⟨d, hd, rfl⟩ := a_in_spec ho h
    rw [nI_clamp (by omega)] at hq
    exact d_step ho hjr.1 hd (hi.f5 d hd) hq
theorem c_linkUsed {X : mX} {C S : Nat} {Q : Outcome → mM → Prop} {w : mWd} {A : aS} (ho : a_ok A) (hi : a_inv A) (hjc : JC w A) (x y z : Int32) (hq : Q (.returned (some (.int (oLink A x y z)))) (mw w)) : Sp X 39 3 64 C S (0, [(0, .ref 0), (1, .int x), (2, .int y), (3, .int z)], []) (mw w) Q := by
  obtain ⟨q, nd, hj⟩ := hjc
  by_cases c : a_pair A x y = true ∧ r_tick z = true
  · rw [show oLink A x y z = _ from if_pos c] at hq
    obtain ⟨a, b, ha, hb, hab, rfl, rfl, _, _⟩ := a_pair_spec c.1
    obtain ⟨t, ht, rfl⟩ := r_tick_spec c.2
    rw [nI_clamp (by omega), nI_clamp (by omega), nI_clamp (by omega)] at hq
    refine r_linkUsed_in ha hb ht (by rw [n_pair_is hj]; exact c.1) ?_
    rw [hj.2.2.2.1.1 a b t ha hb ht hab]
    have h1 := hi.2.1 t a b ht hab
    have e : m_b2 (decide (0 < a_used A t a b)) = nI (a_used A t a b) := by
      rcases (by omega : a_used A t a b = 0 ∨ a_used A t a b = 1) with z | z
      · rw [z]; rfl
      · rw [z]; rfl
    rw [e]; exact hq
  · rw [show oLink A x y z = _ from if_neg c] at hq
    refine r_linkUsed_out ?_ hq
    rw [n_pair_is hj]
    cases h1 : a_pair A x y with
    | false => exact Or.inl rfl
    | true =>
      cases h2 : r_tick z with
      | false => exact Or.inr rfl
      | true => exact absurd ⟨h1, h2⟩ c
theorem m_linkUsed {X : mX} {C S : Nat} {Q : Outcome → mM → Prop} {w : mWd} {A : aS} (ho : a_ok A) (hi : a_inv A) (hjr : JR w A) (x y z : Int32) (hq : Q (.returned (some (.int (oLink A x y z)))) (mw (w.sf 5 0))) : Sp X 81 2 49 C S (0, [(0, .ref 10), (1, .int x), (2, .int y), (3, .int z)], []) (mw w) Q := by
  by_cases c : a_pair A x y = true ∧ r_tick z = true
  · rw [show oLink A x y z = _ from if_pos c] at hq
    have c1 := c.1
    obtain ⟨a, b, ha, hb, hab, rfl, rfl, _, _⟩ := a_pair_spec c.1
    obtain ⟨t, ht, rfl⟩ := r_tick_spec c.2
    rw [nI_clamp (by omega), nI_clamp (by omega), nI_clamp (by omega)] at hq
    exact d_linkUsed ho hjr.1 ha hb ht c1 hq
  · rw [show oLink A x y z = _ from if_neg c] at hq
    cases h1 : a_pair A x y with
    | false => exact d_linkUsed_o1 ho hjr.1 h1 hq
    | true =>
      cases h2 : r_tick z with
      | false => exact d_linkUsed_o2 ho hjr.1 h1 h2 hq
      | true => exact absurd ⟨h1, h2⟩ c
theorem c_open {X : mX} {C S : Nat} {Q : Outcome → mM → Prop} {w : mWd} {A : aS} (ho : a_ok A) (hi : a_inv A) (hjc : JC w A) (x y z : Int32) (hq : Q (.returned (some (.int (oOpen A x y z)))) (mw w)) : Sp X 41 3 64 C S (0, [(0, .ref 0), (1, .int x), (2, .int y), (3, .int z)], []) (mw w) Q := by
  obtain ⟨q, nd, hj⟩ := hjc
  by_cases c : a_pair A x y = true ∧ r_tick z = true
  · rw [show oOpen A x y z = _ from if_pos c] at hq
    obtain ⟨a, b, ha, hb, hab, rfl, rfl, _, _⟩ := a_pair_spec c.1
    obtain ⟨t, ht, rfl⟩ := r_tick_spec c.2
    rw [nI_clamp (by omega), nI_clamp (by omega), nI_clamp (by omega)] at hq
    refine r_open_in ha hb ht (by rw [n_pair_is hj]; exact c.1) ?_
    rw [hj.2.2.1 a b t ha hb ht]; exact hq
  · rw [show oOpen A x y z = _ from if_neg c] at hq
    refine r_open_out ?_ hq
    rw [n_pair_is hj]
    cases h1 : a_pair A x y with
    | false => exact Or.inl rfl
    | true =>
      cases h2 : r_tick z with
      | false => exact Or.inr rfl
      | true => exact absurd ⟨h1, h2⟩ c
theorem m_open {X : mX} {C S : Nat} {Q : Outcome → mM → Prop} {w : mWd} {A : aS} (ho : a_ok A) (hi : a_inv A) (hjr : JR w A) (x y z : Int32) (hq : Q (.returned (some (.int (oOpen A x y z)))) (mw (w.sf 5 0))) : Sp X 83 2 43 C S (0, [(0, .ref 10), (1, .int x), (2, .int y), (3, .int z)], []) (mw w) Q := by
  by_cases c : a_pair A x y = true ∧ r_tick z = true
  · rw [show oOpen A x y z = _ from if_pos c] at hq
    have c1 := c.1
    obtain ⟨a, b, ha, hb, hab, rfl, rfl, _, _⟩ := a_pair_spec c.1
    obtain ⟨t, ht, rfl⟩ := r_tick_spec c.2
    rw [nI_clamp (by omega), nI_clamp (by omega), nI_clamp (by omega)] at hq
    exact d_open ho hjr.1 ha hb ht c1 hq
  · rw [show oOpen A x y z = _ from if_neg c] at hq
    cases h1 : a_pair A x y with
    | false => exact d_open_o1 ho hjr.1 h1 hq
    | true =>
      cases h2 : r_tick z with
      | false => exact d_open_o2 ho hjr.1 h1 h2 hq
      | true => exact absurd ⟨h1, h2⟩ c
theorem c_stored {X : mX} {C S : Nat} {Q : Outcome → mM → Prop} {w : mWd} {A : aS} (ho : a_ok A) (hi : a_inv A) (hjc : JC w A) (x z : Int32) (hq : Q (.returned (some (.int (oStored A x z)))) (mw w)) : Sp X 40 2 43 C S (0, [(0, .ref 0), (1, .int x), (2, .int z)], []) (mw w) Q := by
  obtain ⟨q, nd, hj⟩ := hjc
  by_cases c : a_isn A x = true ∧ r_tick z = true
  · rw [show oStored A x z = _ from if_pos c] at hq
    obtain ⟨a, ha, rfl, hsome⟩ := a_isn_spec c.1
    obtain ⟨t, ht, rfl⟩ := r_tick_spec c.2
    rw [nI_clamp (by omega), nI_clamp (by omega)] at hq
    refine r_stored_in ha ht (by rw [n_is_is hj]; exact c.1) ?_
    rw [hj.2.2.2.1.2 a t ha ht]; exact hq
  · rw [show oStored A x z = _ from if_neg c] at hq
    refine r_stored_out ?_ hq
    rw [n_is_is hj]
    cases h1 : a_isn A x with
    | false => exact Or.inl rfl
    | true =>
      cases h2 : r_tick z with
      | false => exact Or.inr rfl
      | true => exact absurd ⟨h1, h2⟩ c
theorem m_stored {X : mX} {C S : Nat} {Q : Outcome → mM → Prop} {w : mWd} {A : aS} (ho : a_ok A) (hi : a_inv A) (hjr : JR w A) (x z : Int32) (hq : Q (.returned (some (.int (oStored A x z)))) (mw (w.sf 5 0))) : Sp X 82 2 49 C S (0, [(0, .ref 10), (1, .int x), (2, .int z)], []) (mw w) Q := by
  by_cases c : a_isn A x = true ∧ r_tick z = true
  · rw [show oStored A x z = _ from if_pos c] at hq
    have c1 := c.1
    obtain ⟨a, ha, rfl, hsome⟩ := a_isn_spec c.1
    obtain ⟨t, ht, rfl⟩ := r_tick_spec c.2
    rw [nI_clamp (by omega), nI_clamp (by omega)] at hq
    exact d_stored ho hjr.1 ha ht c1 hq
  · rw [show oStored A x z = _ from if_neg c] at hq
    cases h1 : a_isn A x with
    | false => exact d_stored_o1 ho hjr.1 h1 hq
    | true =>
      cases h2 : r_tick z with
      | false => exact d_stored_o2 ho hjr.1 h1 h2 hq
      | true => exact absurd ⟨h1, h2⟩ c
theorem c_free {X : mX} {C S : Nat} {Q : Outcome → mM → Prop} {w : mWd} {A : aS} (ho : a_ok A) (hi : a_inv A) (hjc : JC w A) (x z : Int32) (hq : Q (.returned (some (.int (oFree A x z)))) (mw w)) : Sp X 42 2 43 C S (0, [(0, .ref 0), (1, .int x), (2, .int z)], []) (mw w) Q := by
  obtain ⟨q, nd, hj⟩ := hjc
  by_cases c : a_isn A x = true ∧ r_tick z = true
  · rw [show oFree A x z = _ from if_pos c] at hq
    obtain ⟨a, ha, rfl, hsome⟩ := a_isn_spec c.1
    obtain ⟨t, ht, rfl⟩ := r_tick_spec c.2
    rw [nI_clamp (by omega), nI_clamp (by omega)] at hq
    refine r_free_in ha ht (by rw [n_is_is hj]; exact c.1) ?_
    rw [hj.2.2.2.1.2 a t ha ht, hj.1.2.2.2 a ha]
    cases hp : A.pl a with
    | none => rw [hp] at hsome; cases hsome
    | some k => rw [hp] at hq; exact hq
  · rw [show oFree A x z = _ from if_neg c] at hq
    refine r_free_out ?_ hq
    rw [n_is_is hj]
    cases h1 : a_isn A x with
    | false => exact Or.inl rfl
    | true =>
      cases h2 : r_tick z with
      | false => exact Or.inr rfl
      | true => exact absurd ⟨h1, h2⟩ c
theorem m_free {X : mX} {C S : Nat} {Q : Outcome → mM → Prop} {w : mWd} {A : aS} (ho : a_ok A) (hi : a_inv A) (hjr : JR w A) (x z : Int32) (hq : Q (.returned (some (.int (oFree A x z)))) (mw (w.sf 5 0))) : Sp X 84 2 49 C S (0, [(0, .ref 10), (1, .int x), (2, .int z)], []) (mw w) Q := by
  by_cases c : a_isn A x = true ∧ r_tick z = true
  · rw [show oFree A x z = _ from if_pos c] at hq
    have c1 := c.1
    obtain ⟨a, ha, rfl, hsome⟩ := a_isn_spec c.1
    obtain ⟨t, ht, rfl⟩ := r_tick_spec c.2
    rw [nI_clamp (by omega), nI_clamp (by omega)] at hq
    exact d_free ho hjr.1 ha ht c1 hq
  · rw [show oFree A x z = _ from if_neg c] at hq
    cases h1 : a_isn A x with
    | false => exact d_free_o1 ho hjr.1 h1 hq
    | true =>
      cases h2 : r_tick z with
      | false => exact d_free_o2 ho hjr.1 h1 h2 hq
      | true => exact absurd ⟨h1, h2⟩ c
