/-! One call on each side, against one mathematical step: contact, cancel, whatIf, book. -/
theorem m_any_congr {p q : Nat → Bool} : ∀ d t, (∀ i, t ≤ i → i < t + d → p i = q i) → m_any p t d = m_any q t d := by
  intro d
  induction d with
  | zero => intro t _; rfl
  | succ d ih =>
    intro t h
    simp only [m_any]
    rw [h t (by omega) (by omega), ih (t + 1) (fun i h1 h2 => h i (by omega) (by omega))]
/-! cancel -/
def sCancel (A : aS) (x : Int32) : Int32 × Int32 × aS := if a_in A x = false then (1, 0, A) else if A.fa x.toNatClampNeg = 0 then (0, a_less A x.toNatClampNeg, A.end x.toNatClampNeg (a_cutla A x.toNatClampNeg) 4) else (2, 0, A)
theorem sCancel_cases {A : aS} (ho : a_ok A) (x : Int32) : (a_in A x = false ∧ sCancel A x = (1, 0, A)) ∨ ∃ h, h < A.P ∧ x = nI h ∧ ((A.fa h ≠ 0 ∧ sCancel A x = (2, 0, A)) ∨ (A.fa h = 0 ∧ sCancel A x = (0, a_less A h, A.end h (a_cutla A h) 4))) := by
  have h32 := ho.2.2.1
  cases h : a_in A x with
  | false => left; exact ⟨rfl, if_pos h⟩
  | true =>
    right
    obtain ⟨d, hd, rfl⟩ := a_in_spec ho h
    refine ⟨d, hd, rfl, ?_⟩
    have e : sCancel A (nI d) = if A.fa d = 0 then (0, a_less A d, A.end d (a_cutla A d) 4) else (2, 0, A) := by
      unfold sCancel
      rw [if_neg (by rw [h]; decide), nI_clamp (by omega)]
    by_cases c : A.fa d = 0
    · right; exact ⟨c, by rw [e, if_pos c]⟩
    · left; exact ⟨c, by rw [e, if_neg c]⟩
theorem a_live_lt {A : aS} (hi : a_inv A) {h : Nat} (hh : h < A.P) (hf : A.fa h = 0) : A.T < A.la h ∧ A.at h < A.la h ∧ a_s A h ≤ A.la h := by
  rcases hi.2.2.2 h hh with z | z | z | z
  · exact ⟨z.2.1, z.2.2.1, by unfold a_s; omega⟩
  · omega
  · omega
  · omega
theorem c_cancel {X : mX} {C S : Nat} {w : mWd} {A : aS} (ho : a_ok A) (hi : a_inv A) (hjc : JC w A) (hC : 1 ≤ C) (hS : 6 ≤ S) (x : Int32) : Sp X 32 6 82 C S (0, [(0, .ref 0), (1, .int x)], []) (mw w) (s_Qc w (sCancel A x).2.2 (sCancel A x).1 (sCancel A x).2.1 2 1) := by
  have hx := hjc.nx
  have hp := hjc
  obtain ⟨q, nd, hj⟩ := hp
  have h32 := ho.2.2.1
  have hT := ho.1
  rcases sCancel_cases ho x with ⟨h, e⟩ | ⟨d, hd, rfl, ⟨h, e⟩ | ⟨h, e⟩⟩
  · rw [e]
    exact r_cancel_b0 (by rw [hj.2.1.1]; exact a_in_out h) hC hS hx (s_thr1 hjc)
  · rw [e]
    refine r_cancel_b1 hj.2.1.1 h32 hd hj.2.2.2.2.2.1 ?_ hC hS hx (s_thr2 hjc)
    rw [hj.2.1.2]
    have k := a_live_is ho hd (hi.2.2.2 d hd)
    rw [decide_eq_false h] at k
    exact k
  · rw [e]
    obtain ⟨l1, l2, l3⟩ := a_live_lt hi hd h
    have h9 := ho.2.2.2.2 d hd
    have el : a_last A d = nI (A.la d) := if_neg (by omega)
    refine r_cancel_ok (a0 := A.at d) (T0 := A.T) (e := A.la d) (N := A.nd d) hj.2.1.1 h32 hd hj.2.2.2.2.2.1 rfl el (by omega) hT (by omega) hj.2.1.2 (fun i _ q2 => ⟨hj.2.2.2.2.2.2 d hd i (by omega), h9.2.2.2 i (by omega)⟩) ?_ ?_
    · rw [hj.2.1.2]
      have k := a_live_is ho hd (hi.2.2.2 d hd)
      rw [decide_eq_true h] at k
      exact k
    · have k := hj.cutW ho hi.2.1 (h := d) (f := 4) (x := .inr (1, [.int (nI (A.go d)), .int (nI (A.at d)), .ref (q d + 24), .int (a_last A d), .int 4])) (fv := 4) hd l3 rfl
      exact s_ret ⟨q, nd, k⟩ ⟨rfl, rfl, rfl, rfl, rfl, rfl, rfl, rfl, rfl, rfl, rfl, rfl, rfl, rfl, rfl⟩
theorem m_cancel {X : mX} {C S : Nat} {w : mWd} {A : aS} (ho : a_ok A) (hi : a_inv A) (hjr : JR w A) (x : Int32) : Sp X 74 2 42 C S (0, [(0, .ref 10), (1, .int x)], []) (mw w) (s_Qm w (sCancel A x).2.2 (sCancel A x).1 (sCancel A x).2.1) := by
  rcases sCancel_cases ho x with ⟨h, e⟩ | ⟨d, hd, rfl, ⟨h, e⟩ | ⟨h, e⟩⟩
  · rw [e]
    exact d_cancel_b1 ho hjr.1 h (s_m hjr (sC.s5 1) rfl (fun z => absurd z i64_0))
  · rw [e]
    exact d_cancel_b2 ho hjr.1 hd (hi.f5 d hd) h (s_m hjr (sC.s5 2) rfl (fun z => absurd z i2_0))
  · rw [e]
    refine d_cancel_ok ho hjr.1 hd (hi.f5 d hd) h (s_m ?_ ⟨rfl, rfl, rfl, rfl, rfl, rfl, rfl, rfl, rfl, rfl, rfl, rfl, rfl, rfl, rfl, rfl⟩ rfl (fun _ => rfl))
    exact (hjr.t (v := 0)).end (h := d) (l := a_cutla A d) (f := 4)
theorem sCancel_ok {A : aS} (ho : a_ok A) (hi : a_inv A) (x : Int32) : a_ok (sCancel A x).2.2 ∧ a_inv (sCancel A x).2.2 := by
  rcases sCancel_cases ho x with ⟨h, e⟩ | ⟨d, hd, rfl, ⟨h, e⟩ | ⟨h, e⟩⟩
  · rw [e]; exact ⟨ho, hi⟩
  · rw [e]; exact ⟨ho, hi⟩
  · rw [e]; exact ⟨ho.end (fun _ => a_cutla_le ho hd), hi.cancel hd (a_live_lt hi hd h).2.2⟩
/-! contact -/
def sContact (A : aS) (x y z u : Int32) : Int32 × Int32 × aS := if a_pair A x y = false ∨ z < nI A.T ∨ u ≤ z ∨ (64 : Int32) < u then (1, 0, A) else if A.nc = 24 ∨ m_any (fun t => A.op x.toNatClampNeg y.toNatClampNeg t) z.toNatClampNeg (u.toNatClampNeg - z.toNatClampNeg) = true then (2, 0, A) else (0, nI (A.nc + 1), (A.opn x.toNatClampNeg y.toNatClampNeg z.toNatClampNeg u.toNatClampNeg true).ncs)
theorem i_pos_of {x : Int32} {n : Nat} (hn : n < 2 ^ 31) (h : ¬ x < nI n) : ¬ x < 0 := by
  intro z
  rw [Int32.lt_iff_toInt_lt] at h z
  rw [nI_toInt hn] at h
  have : (0 : Int32).toInt = 0 := by decide
  omega
theorem sContact_cases {A : aS} (ho : a_ok A) (x y z u : Int32) : ((a_pair A x y = false ∨ z < nI A.T ∨ u ≤ z ∨ (64 : Int32) < u) ∧ sContact A x y z u = (1, 0, A)) ∨ ∃ a b s e, a < 8 ∧ b < 8 ∧ a ≠ b ∧ A.T ≤ s ∧ s < e ∧ e ≤ 64 ∧ x = nI a ∧ y = nI b ∧ z = nI s ∧ u = nI e ∧ a_pair A x y = true ∧ (((A.nc = 24 ∨ m_any (fun t => A.op a b t) s (e - s) = true) ∧ sContact A x y z u = (2, 0, A)) ∨ (A.nc < 24 ∧ m_any (fun t => A.op a b t) s (e - s) = false ∧ sContact A x y z u = (0, nI (A.nc + 1), (A.opn a b s e true).ncs))) := by
  have hT := ho.1
  have hnc := ho.2.1
  by_cases h : a_pair A x y = false ∨ z < nI A.T ∨ u ≤ z ∨ (64 : Int32) < u
  · left; exact ⟨h, if_pos h⟩
  · right
    have h1 : a_pair A x y = true := by
      cases hb : a_pair A x y with
      | true => rfl
      | false => exact absurd (Or.inl hb) h
    have h2 : ¬ z < nI A.T := fun q => h (Or.inr (Or.inl q))
    have h3 : ¬ u ≤ z := fun q => h (Or.inr (Or.inr (Or.inl q)))
    have h4 : ¬ (64 : Int32) < u := fun q => h (Or.inr (Or.inr (Or.inr q)))
    obtain ⟨a, b, ha, hb, hab, rfl, rfl, _, _⟩ := a_pair_spec h1
    have z0 := i_pos_of (by omega) h2
    have u0 : ¬ u < 0 := by
      intro q
      rw [Int32.lt_iff_toInt_lt] at q z0
      rw [Int32.le_iff_toInt_le] at h3
      omega
    obtain ⟨e, he, rfl⟩ := i_nat (m := 64) (by omega) u0 (i_nlt h4)
    have hz : z ≤ nI e := by
      rw [Int32.le_iff_toInt_le] at h3 ⊢
      omega
    obtain ⟨s, hs, rfl⟩ := i_nat (m := e) (by omega) z0 hz
    rw [nI_lt' (by omega) (by omega)] at h2
    rw [nI_le' (by omega) (by omega)] at h3
    refine ⟨a, b, s, e, ha, hb, hab, by omega, by omega, he, rfl, rfl, rfl, rfl, h1, ?_⟩
    have eq : sContact A (nI a) (nI b) (nI s) (nI e) = if A.nc = 24 ∨ m_any (fun t => A.op a b t) s (e - s) = true then (2, 0, A) else (0, nI (A.nc + 1), (A.opn a b s e true).ncs) := by
      unfold sContact
      rw [if_neg h, nI_clamp (by omega), nI_clamp (by omega), nI_clamp (by omega), nI_clamp (by omega)]
    by_cases c : A.nc = 24 ∨ m_any (fun t => A.op a b t) s (e - s) = true
    · left; exact ⟨c, by rw [eq, if_pos c]⟩
    · right
      refine ⟨by omega, ?_, by rw [eq, if_neg c]⟩
      cases hm : m_any (fun t => A.op a b t) s (e - s) with
      | false => rfl
      | true => exact absurd (Or.inr hm) c
theorem c_contact {X : mX} {C S : Nat} {w : mWd} {A : aS} (ho : a_ok A) (hjc : JC w A) (hC : 1 ≤ C) (hS : 6 ≤ S) (x y z u : Int32) : Sp X 28 7 104 C S (0, [(0, .ref 0), (1, .int x), (2, .int y), (3, .int z), (4, .int u)], []) (mw w) (s_Qc w (sContact A x y z u).2.2 (sContact A x y z u).1 (sContact A x y z u).2.1 0 1) := by
  have hx := hjc.nx
  have hp := hjc
  obtain ⟨q, nd, hj⟩ := hp
  have hT := ho.1
  have hnc := ho.2.1
  rcases sContact_cases ho x y z u with ⟨h, e⟩ | ⟨a, b, s, e, ha, hb, hab, hTs, hse, he, rfl, rfl, rfl, rfl, hpr, hh⟩
  · rw [e]
    cases hb : a_pair A x y with
    | false => exact r_contact_b0 (by rw [n_pair_is hj]; exact hb) hC hS hx (s_thr1 hjc)
    | true => exact r_contact_b1 (by rw [n_pair_is hj]; exact hb) (by rw [hj.2.1.2]; exact h.resolve_left (by rw [hb]; decide)) hC hS hx (s_thr1 hjc)
  · have g1 : ¬ nI s < w.f 4 := by rw [hj.2.1.2, nI_lt' (by omega) (by omega)]; omega
    have hm : m_any (fun t => bt (w.a 3 (t * 8 + a)) b) s (e - s) = m_any (fun t => A.op a b t) s (e - s) := m_any_congr _ _ (fun i q1 q2 => hj.2.2.1 a b i ha hb (by omega))
    rcases hh with ⟨h, e1⟩ | ⟨h1, h2, e1⟩
    · rw [e1]
      by_cases c : A.nc = 24
      · exact r_contact_b2 (by rw [n_pair_is hj]; exact hpr) g1 (by rw [nI_le' (by omega) (by omega)]; omega) ((nI_le' (b := 64) (by omega) (by omega)).mpr he) (by rw [hj.1.2.1, c]; decide) hC hS hx (s_thr2 hjc)
      · exact r_contact_b3 ha hb hse he (by rw [n_pair_is hj]; exact hpr) g1 (by rw [hj.1.2.1]; exact (nI_lt' (b := 24) (by omega) (by omega)).mpr (by omega)) (by rw [hm]; exact h.resolve_left c) hC hS hx (s_thr2 hjc)
    · rw [e1]
      refine r_contact_ok ha hb hse he (by rw [n_pair_is hj]; exact hpr) g1 (by rw [hj.1.2.1]; exact (nI_lt' (b := 24) (by omega) (by omega)).mpr (by omega)) (by rw [hm]; exact h2) ?_
      rw [hj.1.2.1]
      have k := hj.contact ha hb hab (s := s) (e := e) (by omega)
      show s_Qc w _ 0 (nI (A.nc + 1)) 0 1 _ _
      rw [nI_succ]
      exact s_ret ⟨q, nd, k⟩ ⟨rfl, rfl, rfl, rfl, rfl, rfl, rfl, rfl, rfl, rfl, rfl, rfl, rfl, rfl, rfl⟩
theorem m_contact {X : mX} {C S : Nat} {w : mWd} {A : aS} (ho : a_ok A) (hjr : JR w A) (x y z u : Int32) : Sp X 66 2 43 C S (0, [(0, .ref 10), (1, .int x), (2, .int y), (3, .int z), (4, .int u)], []) (mw w) (s_Qm w (sContact A x y z u).2.2 (sContact A x y z u).1 (sContact A x y z u).2.1) := by
  have hT := ho.1
  rcases sContact_cases ho x y z u with ⟨h, e⟩ | ⟨a, b, s, e, ha, hb, hab, hTs, hse, he, rfl, rfl, rfl, rfl, hpr, hh⟩
  · rw [e]
    exact d_contact_b1 ho hjr.1 h (s_m hjr (sC.s5 1) rfl (fun z => absurd z i64_0))
  · have g1 : ¬ nI s < nI A.T := by rw [nI_lt' (by omega) (by omega)]; omega
    have g2 : ¬ nI e ≤ nI s := by rw [nI_le' (by omega) (by omega)]; omega
    have g3 : nI e ≤ (64 : Int32) := (nI_le' (b := 64) (by omega) (by omega)).mpr he
    have hnc := ho.2.1
    rcases hh with ⟨h, e1⟩ | ⟨h1, h2, e1⟩
    · rw [e1]
      by_cases c : A.nc = 24
      · exact d_contact_b2 ho hjr.1 hpr g1 g2 g3 c (s_m hjr (sC.s5 2) rfl (fun z => absurd z i2_0))
      · exact d_contact_b3 ho hjr.1 ha hb he hse hpr g1 g2 g3 (by omega) (h.resolve_left c) (s_m hjr (sC.s5 2) rfl (fun z => absurd z i2_0))
    · rw [e1]
      refine d_contact_ok ho hjr.1 ha hb he hse hpr g1 g2 g3 h1 h2 (s_m ?_ ⟨rfl, rfl, rfl, rfl, rfl, rfl, rfl, rfl, rfl, rfl, rfl, rfl, rfl, rfl, rfl, rfl⟩ rfl (fun _ => (nI_succ _).symm))
      have k := (hjr.t (v := 0)).opn (a := a) (b := b) (s := s) (d := e - s) ha hb (by omega) true
      rw [show s + (e - s) = e by omega] at k
      exact k.ncs
theorem sContact_ok {A : aS} (ho : a_ok A) (hi : a_inv A) (x y z u : Int32) : a_ok (sContact A x y z u).2.2 ∧ a_inv (sContact A x y z u).2.2 := by
  rcases sContact_cases ho x y z u with ⟨h, e⟩ | ⟨a, b, s, e, ha, hb, hab, hTs, hse, he, rfl, rfl, rfl, rfl, hpr, ⟨h, e1⟩ | ⟨h1, h2, e1⟩⟩
  · rw [e]; exact ⟨ho, hi⟩
  · rw [e1]; exact ⟨ho, hi⟩
  · rw [e1]; exact ⟨(ho.opn a b s e true).ncs h1, (hi.contact hab).ncs⟩
