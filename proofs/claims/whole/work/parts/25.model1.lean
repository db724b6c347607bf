/-! The reference: its small methods. Rows laid by wip/gen/model1.py. -/
theorem d_thrown {X : mX} {C S : Nat} {Q : Outcome → mM → Prop} {w : mWd} (hq : Q (.returned (some (.int (w.f 5)))) (mw w)) : Sp X 53 0 0 C S (0, [(0, .ref 10)], []) (mw w) Q := by
  refine Sp.go 1 (g := (1, [(0, .ref 10)], [.ref 10])) rfl ?_
  refine Sp.get (v := .int (w.f 5)) rfl rfl rfl ?_
  refine Sp.iret rfl (Or.inl rfl) ?_
  exact hq
theorem d_7n {x : Int32} (h0 : ¬ x < 0) (h : ¬ (7 : Int32) < x) : x.toNatClampNeg < 8 := by
  refine n_is_lt h0 (fun q => h ?_)
  rw [Int32.lt_iff_toInt_lt]
  rw [Int32.le_iff_toInt_le] at q
  have e1 : (8 : Int32).toInt = 8 := by decide
  have e2 : (7 : Int32).toInt = 7 := by decide
  omega
theorem d_7 {x : Int32} (h0 : ¬ x < 0) (h : (7 : Int32) < x) : ¬ x < 8 := by
  intro q
  rw [Int32.lt_iff_toInt_lt] at h q
  have e1 : (8 : Int32).toInt = 8 := by decide
  have e2 : (7 : Int32).toInt = 7 := by decide
  omega
theorem d_noNode {X : mX} {C S : Nat} {Q : Outcome → mM → Prop} {w : mWd} {A : aS} (ho : a_ok A) (hj : JR0 w A) {x : Int32} (hq : Q (.returned (some (.int (m_b2 (!a_isn A x))))) (mw w)) : Sp X 54 0 0 C S (0, [(0, .ref 10), (1, .int (x))], []) (mw w) Q := by
  by_cases h0 : x < 0
  · rw [show a_isn A x = false by simp [a_isn, h0]] at hq
    refine Sp.go 1 (g := (1, [(0, .ref 10), (1, .int x)], [.int x])) rfl ?_
    refine Sp.if rfl (fun _ => ?_) (fun h => absurd h0 h)
    refine Sp.go 2 (g := (24, [(0, .ref 10), (1, .int x)], [.int 1])) rfl ?_
    exact Sp.iret rfl (Or.inr ⟨rfl, Or.inr rfl⟩) hq
  refine Sp.go 1 (g := (1, [(0, .ref 10), (1, .int x)], [.int x])) rfl ?_
  refine Sp.if rfl (fun h => absurd h h0) (fun _ => ?_)
  refine Sp.go 2 (g := (7, [(0, .ref 10), (1, .int x)], [.int 7, .int x])) rfl ?_
  refine Sp.icmp rfl (fun (h7 : (7 : Int32) < x) => ?_) (fun (h7 : ¬ (7 : Int32) < x) => ?_)
  · rw [show a_isn A x = false by simp [a_isn, show ¬ x < 8 from d_7 h0 h7]] at hq
    refine Sp.go 2 (g := (24, [(0, .ref 10), (1, .int x)], [.int 1])) rfl ?_
    exact Sp.iret rfl (Or.inr ⟨rfl, Or.inr rfl⟩) hq
  have hlt := d_7n h0 h7
  rw [m_nat h0, a_isn_nI hlt] at hq
  have hx := m_nat h0
  generalize x.toNatClampNeg = n at hx hlt hq
  subst hx
  refine Sp.go 1 (g := (11, [(0, .ref 10), (1, .int (nI n))], [.ref 10])) rfl ?_
  refine Sp.get (v := .ref 11) rfl rfl rfl ?_
  refine Sp.go 1 (g := (15, [(0, .ref 10), (1, .int (nI n))], [.int (nI n), .ref 11])) rfl ?_
  refine Sp.iald (f := w.a 11) (j := n) rfl rfl (m_ix_of (by simp only [nI, Int32.ofNat_add, Int32.ofNat_mul] <;> rfl) (by omega) (by omega)) ?_
  rw [hj.2.2.2.1 n hlt]
  refine Sp.if rfl (fun (h1 : (0 : Int32) ≤ (a_places (A.pl n) : Int32)) => ?_) (fun (h1 : ¬ ((0 : Int32) ≤ (a_places (A.pl n) : Int32))) => ?_)
  · skip
    refine Sp.go 1 (g := (24, [(0, .ref 10), (1, .int (nI n))], [.int 0])) rfl ?_
    refine Sp.iret rfl (Or.inr ⟨rfl, Or.inl rfl⟩) ?_
    rw [show (A.pl n).isSome = true from (a_places_neg _ (fun c hc => ho.2.2.2.1 n c hc)).mp h1] at hq; exact hq
  · skip
    refine Sp.go 2 (g := (24, [(0, .ref 10), (1, .int (nI n))], [.int 1])) rfl ?_
    refine Sp.iret rfl (Or.inr ⟨rfl, Or.inr rfl⟩) ?_
    rw [show (A.pl n).isSome = false by cases hb : (A.pl n).isSome with | false => rfl | true => exact absurd ((a_places_neg _ (fun c hc => ho.2.2.2.1 n c hc)).mpr hb) h1] at hq; exact hq
theorem d_noPair {X : mX} {C S : Nat} {Q : Outcome → mM → Prop} {w : mWd} {A : aS} (ho : a_ok A) (hj : JR0 w A) {x y : Int32} (hq : Q (.returned (some (.int (m_b2 (!a_pair A x y))))) (mw w)) : Sp X 55 1 21 C S (0, [(0, .ref 10), (1, .int (x)), (2, .int (y))], []) (mw w) Q := by
  refine Sp.go 2 (g := (2, [(0, .ref 10), (1, .int (x)), (2, .int (y))], [.int (x), .ref 10])) rfl ?_
  refine Sp.vr (some (.int (m_b2 (!a_isn A (x))))) (mw (w)) (k' := 54) (F' := 0) (N' := 0) (C' := 0) (S' := 0) (vs := [.int (x)]) (st := []) rfl rfl rfl rfl (Nat.le_of_ble_eq_true rfl) (Nat.le_of_ble_eq_true rfl) (by decide) (by decide) (Nat.zero_le _) (Nat.zero_le _) (fun Q' h => d_noNode ho hj h) ?_
  refine Sp.ifbn rfl (fun h1 => ?_) (fun h1 => ?_)
  · skip
    refine Sp.go 2 (g := (26, [(0, .ref 10), (1, .int (x)), (2, .int (y))], [.int 1])) rfl ?_
    refine Sp.iret rfl (Or.inr ⟨rfl, Or.inr rfl⟩) ?_
    rw [show a_pair A x y = false by simp_all [a_pair]] at hq; exact hq
  · skip
    refine Sp.go 2 (g := (10, [(0, .ref 10), (1, .int (x)), (2, .int (y))], [.int (y), .ref 10])) rfl ?_
    refine Sp.vr (some (.int (m_b2 (!a_isn A (y))))) (mw (w)) (k' := 54) (F' := 0) (N' := 0) (C' := 0) (S' := 0) (vs := [.int (y)]) (st := []) rfl rfl rfl rfl (Nat.le_of_ble_eq_true rfl) (Nat.le_of_ble_eq_true rfl) (by decide) (by decide) (Nat.zero_le _) (Nat.zero_le _) (fun Q' h => d_noNode ho hj h) ?_
    refine Sp.ifbn rfl (fun h2 => ?_) (fun h2 => ?_)
    · skip
      refine Sp.go 2 (g := (26, [(0, .ref 10), (1, .int (x)), (2, .int (y))], [.int 1])) rfl ?_
      refine Sp.iret rfl (Or.inr ⟨rfl, Or.inr rfl⟩) ?_
      rw [show a_pair A x y = false by simp_all [a_pair]] at hq; exact hq
    · skip
      refine Sp.go 2 (g := (18, [(0, .ref 10), (1, .int (x)), (2, .int (y))], [.int (y), .int (x)])) rfl ?_
      refine Sp.icmp rfl (fun (h3 : ¬ (x : Int32) = (y : Int32)) => ?_) (fun (h3 : ¬ (¬ (x : Int32) = (y : Int32))) => ?_)
      · skip
        refine Sp.go 1 (g := (26, [(0, .ref 10), (1, .int (x)), (2, .int (y))], [.int 0])) rfl ?_
        refine Sp.iret rfl (Or.inr ⟨rfl, Or.inl rfl⟩) ?_
        rw [show a_pair A x y = true by simp_all [a_pair]] at hq; exact hq
      · skip
        refine Sp.go 2 (g := (26, [(0, .ref 10), (1, .int (x)), (2, .int (y))], [.int 1])) rfl ?_
        refine Sp.iret rfl (Or.inr ⟨rfl, Or.inr rfl⟩) ?_
        rw [show a_pair A x y = false by simp_all [a_pair]] at hq; exact hq
theorem d_noTick {X : mX} {C S : Nat} {Q : Outcome → mM → Prop} {w : mWd} {x : Int32} (hq : Q (.returned (some (.int (m_b2 (!r_tick x))))) (mw w)) : Sp X 56 0 0 C S (0, [(0, .int (x))], []) (mw w) Q := by
  refine Sp.go 1 (g := (1, [(0, .int (x))], [.int (x)])) rfl ?_
  refine Sp.if rfl (fun (h1 : (x : Int32) < (0 : Int32)) => ?_) (fun (h1 : ¬ ((x : Int32) < (0 : Int32))) => ?_)
  · skip
    refine Sp.go 2 (g := (15, [(0, .int (x))], [.int 1])) rfl ?_
    refine Sp.iret rfl (Or.inr ⟨rfl, Or.inr rfl⟩) ?_
    rw [show r_tick x = false by simp [r_tick, h1]] at hq; exact hq
  · skip
    refine Sp.go 2 (g := (7, [(0, .int (x))], [.int 64, .int (x)])) rfl ?_
    refine Sp.icmp rfl (fun (h2 : (x : Int32) < (64 : Int32)) => ?_) (fun (h2 : ¬ ((x : Int32) < (64 : Int32))) => ?_)
    · skip
      refine Sp.go 1 (g := (15, [(0, .int (x))], [.int 0])) rfl ?_
      refine Sp.iret rfl (Or.inr ⟨rfl, Or.inl rfl⟩) ?_
      rw [show r_tick x = true by simp [r_tick, h1, h2]] at hq; exact hq
    · skip
      refine Sp.go 2 (g := (15, [(0, .int (x))], [.int 1])) rfl ?_
      refine Sp.iret rfl (Or.inr ⟨rfl, Or.inr rfl⟩) ?_
      rw [show r_tick x = false by simp [r_tick, h2]] at hq; exact hq
theorem d_isOpen {X : mX} {C S : Nat} {Q : Outcome → mM → Prop} {w : mWd} {A : aS} (ho : a_ok A) (hj : JR0 w A) {a b t : Nat} (ha : a < 8) (hb : b < 8) (ht : t < 64) (hq : Q (.returned (some (.int (m_b2 (A.op a b t))))) (mw w)) : Sp X 57 0 0 C S (0, [(0, .ref 10), (1, .int (nI a)), (2, .int (nI b)), (3, .int (nI t))], []) (mw w) Q := by
  refine Sp.go 1 (g := (1, [(0, .ref 10), (1, .int (nI a)), (2, .int (nI b)), (3, .int (nI t))], [.ref 10])) rfl ?_
  refine Sp.get (v := .ref 12) rfl rfl rfl ?_
  refine Sp.go 9 (g := (16, [(0, .ref 10), (1, .int (nI a)), (2, .int (nI b)), (3, .int (nI t))], [.int (((512 * (nI a)) + (64 * (nI b))) + (nI t)), .ref 12])) rfl ?_
  refine Sp.zald (f := w.a 12) (j := ((512 * a) + (64 * b)) + t) rfl rfl (m_ix_of (by simp only [nI, Int32.ofNat_add, Int32.ofNat_mul] <;> rfl) (by omega) (by omega)) ?_
  rw [hj.2.2.2.2.1 a b t ha hb ht]
  refine Sp.iret rfl (Or.inr ⟨rfl, m_b2_01 _⟩) ?_
  exact hq
def d_set (ro : Nat → Int32) (a b t : Nat) (v : Int32) : Nat → Int32 := upd (upd ro (512 * a + 64 * b + t) v) (512 * b + 64 * a + t) v
theorem d_setT {X : mX} {C S : Nat} {Q : Outcome → mM → Prop} {w : mWd} {a b t : Nat} {v : Int32} (ha : a < 8) (hb : b < 8) (ht : t < 64) (hv : v = 0 ∨ v = 1) (hq : Q (.returned none) (mw (w.sa 12 (d_set (w.a 12) a b t v)))) : Sp X 58 0 0 C S (0, [(0, .ref 10), (1, .int (nI a)), (2, .int (nI b)), (3, .int (nI t)), (4, .int (v))], []) (mw w) Q := by
  refine Sp.go 1 (g := (1, [(0, .ref 10), (1, .int (nI a)), (2, .int (nI b)), (3, .int (nI t)), (4, .int (v))], [.ref 10])) rfl ?_
  refine Sp.get (v := .ref 12) rfl rfl rfl ?_
  refine Sp.go 10 (g := (18, [(0, .ref 10), (1, .int (nI a)), (2, .int (nI b)), (3, .int (nI t)), (4, .int (v))], [.int (v), .int (((512 * (nI a)) + (64 * (nI b))) + (nI t)), .ref 12])) rfl ?_
  refine Sp.pa12 (j := ((512 * a) + (64 * b)) + t) rfl (m_ix_of (by simp only [nI, Int32.ofNat_add, Int32.ofNat_mul] <;> rfl) (by omega) (by omega)) hv ?_
  refine Sp.go 1 (g := (20, [(0, .ref 10), (1, .int (nI a)), (2, .int (nI b)), (3, .int (nI t)), (4, .int (v))], [.ref 10])) rfl ?_
  refine Sp.get (v := .ref 12) rfl rfl rfl ?_
  refine Sp.go 10 (g := (37, [(0, .ref 10), (1, .int (nI a)), (2, .int (nI b)), (3, .int (nI t)), (4, .int (v))], [.int (v), .int (((512 * (nI b)) + (64 * (nI a))) + (nI t)), .ref 12])) rfl ?_
  refine Sp.pa12 (j := ((512 * b) + (64 * a)) + t) rfl (m_ix_of (by simp only [nI, Int32.ofNat_add, Int32.ofNat_mul] <;> rfl) (by omega) (by omega)) hv ?_
  refine Sp.wd (w' := w.sa 12 (upd (upd (w.a 12) (((512 * a) + (64 * b)) + t) (v)) (((512 * b) + (64 * a)) + t) (v))) (mWd.sa_sa ..) ?_
  refine Sp.vret rfl rfl ?_
  exact hq
theorem d_goes {X : mX} {C S : Nat} {Q : Outcome → mM → Prop} {w : mWd} {A : aS} (ho : a_ok A) (hj : JR0 w A) {h t a b : Nat} (hh : h < A.P) (ht : t < 64) (ha : a < 8) (hb : b < 8) (hq : Q (.returned (some (.int (m_b2 (a_goes A h t a b))))) (mw w)) : Sp X 59 0 0 C S (0, [(0, .ref 10), (1, .int (nI h)), (2, .int (nI t)), (3, .int (nI a)), (4, .int (nI b))], []) (mw w) Q := by
  have h32 := ho.2.2.1
  have hb4 := ho.2.2.2.2 h hh
  have hn1 := hb4.2.2.2 t (by omega)
  have hn2 := hb4.2.2.2 (t + 1) (by omega)
  refine Sp.go 2 (g := (2, [(0, .ref 10), (1, .int (nI h)), (2, .int (nI t)), (3, .int (nI a)), (4, .int (nI b))], [.ref 10, .int (nI t)])) rfl ?_
  refine Sp.get (v := .ref 17) rfl rfl rfl ?_
  refine Sp.go 1 (g := (6, [(0, .ref 10), (1, .int (nI h)), (2, .int (nI t)), (3, .int (nI a)), (4, .int (nI b))], [.int (nI h), .ref 17, .int (nI t)])) rfl ?_
  refine Sp.iald (f := w.a 17) (j := h) rfl rfl (m_ix_of (by simp only [nI, Int32.ofNat_add, Int32.ofNat_mul] <;> rfl) (by omega) (by omega)) ?_
  rw [(hj.2.2.2.2.2.1 h hh).2.2.2.2.1]
  refine Sp.icmp rfl (fun (h1 : (nI t : Int32) < (nI (A.at h) : Int32)) => ?_) (fun (h1 : ¬ ((nI t : Int32) < (nI (A.at h) : Int32))) => ?_)
  · skip
    refine Sp.go 1 (g := (58, [(0, .ref 10), (1, .int (nI h)), (2, .int (nI t)), (3, .int (nI a)), (4, .int (nI b))], [.int 0])) rfl ?_
    refine Sp.iret rfl (Or.inr ⟨rfl, Or.inl rfl⟩) ?_
    rw [show a_goes A h t a b = false by rw [nI_lt' (by omega) (by omega)] at h1; simp [a_goes]; omega] at hq; exact hq
  · skip
    refine Sp.go 2 (g := (12, [(0, .ref 10), (1, .int (nI h)), (2, .int (nI t)), (3, .int (nI a)), (4, .int (nI b))], [.ref 10, .int (nI t)])) rfl ?_
    refine Sp.get (v := .ref 18) rfl rfl rfl ?_
    refine Sp.go 1 (g := (16, [(0, .ref 10), (1, .int (nI h)), (2, .int (nI t)), (3, .int (nI a)), (4, .int (nI b))], [.int (nI h), .ref 18, .int (nI t)])) rfl ?_
    refine Sp.iald (f := w.a 18) (j := h) rfl rfl (m_ix_of (by simp only [nI, Int32.ofNat_add, Int32.ofNat_mul] <;> rfl) (by omega) (by omega)) ?_
    rw [(hj.2.2.2.2.2.1 h hh).2.2.2.2.2.1]
    refine Sp.icmp rfl (fun (h2 : (nI (A.la h) : Int32) ≤ (nI t : Int32)) => ?_) (fun (h2 : ¬ ((nI (A.la h) : Int32) ≤ (nI t : Int32))) => ?_)
    · skip
      refine Sp.go 1 (g := (58, [(0, .ref 10), (1, .int (nI h)), (2, .int (nI t)), (3, .int (nI a)), (4, .int (nI b))], [.int 0])) rfl ?_
      refine Sp.iret rfl (Or.inr ⟨rfl, Or.inl rfl⟩) ?_
      rw [show a_goes A h t a b = false by rw [nI_le' (by omega) (by omega)] at h2; simp [a_goes]; omega] at hq; exact hq
    · skip
      refine Sp.go 1 (g := (21, [(0, .ref 10), (1, .int (nI h)), (2, .int (nI t)), (3, .int (nI a)), (4, .int (nI b))], [.ref 10])) rfl ?_
      refine Sp.get (v := .ref 19) rfl rfl rfl ?_
      refine Sp.go 5 (g := (30, [(0, .ref 10), (1, .int (nI h)), (2, .int (nI t)), (3, .int (nI a)), (4, .int (nI b))], [.int ((65 * (nI h)) + (nI t)), .ref 19])) rfl ?_
      refine Sp.iald (f := w.a 19) (j := (65 * h) + t) rfl rfl (m_ix_of (by simp only [nI, Int32.ofNat_add, Int32.ofNat_mul] <;> rfl) (by omega) (by omega)) ?_
      rw [(hj.2.2.2.2.2.1 h hh).2.2.2.2.2.2 t (by omega)]
      refine Sp.go 1 (g := (32, [(0, .ref 10), (1, .int (nI h)), (2, .int (nI t)), (3, .int (nI a)), (4, .int (nI b))], [.int (nI a), .int (nI (A.nd h t))])) rfl ?_
      refine Sp.icmp rfl (fun (h3 : ¬ (nI (A.nd h t) : Int32) = (nI a : Int32)) => ?_) (fun (h3 : ¬ (¬ (nI (A.nd h t) : Int32) = (nI a : Int32))) => ?_)
      · skip
        refine Sp.go 1 (g := (58, [(0, .ref 10), (1, .int (nI h)), (2, .int (nI t)), (3, .int (nI a)), (4, .int (nI b))], [.int 0])) rfl ?_
        refine Sp.iret rfl (Or.inr ⟨rfl, Or.inl rfl⟩) ?_
        rw [show a_goes A h t a b = false by rw [nI_inj (by omega) (by omega)] at h3; simp [a_goes, h3]] at hq; exact hq
      · skip
        refine Sp.go 1 (g := (36, [(0, .ref 10), (1, .int (nI h)), (2, .int (nI t)), (3, .int (nI a)), (4, .int (nI b))], [.ref 10])) rfl ?_
        refine Sp.get (v := .ref 19) rfl rfl rfl ?_
        refine Sp.go 7 (g := (47, [(0, .ref 10), (1, .int (nI h)), (2, .int (nI t)), (3, .int (nI a)), (4, .int (nI b))], [.int (((65 * (nI h)) + (nI t)) + 1), .ref 19])) rfl ?_
        refine Sp.iald (f := w.a 19) (j := ((65 * h) + t) + 1) rfl rfl (m_ix_of (by simp only [nI, Int32.ofNat_add, Int32.ofNat_mul] <;> rfl) (by omega) (by omega)) ?_
        rw [show 65 * h + t + 1 = 65 * h + (t + 1) from rfl, (hj.2.2.2.2.2.1 h hh).2.2.2.2.2.2 (t + 1) (by omega)]
        refine Sp.go 1 (g := (50, [(0, .ref 10), (1, .int (nI h)), (2, .int (nI t)), (3, .int (nI a)), (4, .int (nI b))], [.int (nI b), .int (nI (A.nd h (t + 1)))])) rfl ?_
        refine Sp.icmp rfl (fun (h4 : ¬ (nI (A.nd h (t + 1)) : Int32) = (nI b : Int32)) => ?_) (fun (h4 : ¬ (¬ (nI (A.nd h (t + 1)) : Int32) = (nI b : Int32))) => ?_)
        · skip
          refine Sp.go 1 (g := (58, [(0, .ref 10), (1, .int (nI h)), (2, .int (nI t)), (3, .int (nI a)), (4, .int (nI b))], [.int 0])) rfl ?_
          refine Sp.iret rfl (Or.inr ⟨rfl, Or.inl rfl⟩) ?_
          rw [show a_goes A h t a b = false by rw [nI_inj (by omega) (by omega)] at h4; simp [a_goes, h4]] at hq; exact hq
        · skip
          refine Sp.go 2 (g := (58, [(0, .ref 10), (1, .int (nI h)), (2, .int (nI t)), (3, .int (nI a)), (4, .int (nI b))], [.int 1])) rfl ?_
          refine Sp.iret rfl (Or.inr ⟨rfl, Or.inr rfl⟩) ?_
          rw [show a_goes A h t a b = true by rw [nI_lt' (by omega) (by omega)] at h1; rw [nI_le' (by omega) (by omega)] at h2; rw [Classical.not_not, nI_inj (by omega) (by omega)] at h3 h4; simp [a_goes, h3, h4]; omega] at hq; exact hq
theorem d_used_loop {X : mX} {C S : Nat} {Q : Outcome → mM → Prop} {w : mWd} {A : aS} (ho : a_ok A) (hj : JR0 w A) {t a b : Nat} (ht : t < 64) (ha : a < 8) (hb : b < 8) : ∀ (d h c : Nat), h + d = A.P → c = g_cnt (fun h => a_goes A h t a b) h → Q (.returned (some (.int (nI (a_used A t a b))))) (mw w) → Sp X 60 1 24 C S (6, [(5, .int (nI h)), (4, .int (nI c)), (0, .ref 10), (1, .int (nI t)), (2, .int (nI a)), (3, .int (nI b))], []) (mw w) Q := by
  have h32 := ho.2.2.1
  intro d
  induction d with
  | zero =>
    intro h c hh hc hq
    refine Sp.go 2 (g := (9, [(5, .int (nI h)), (4, .int (nI c)), (0, .ref 10), (1, .int (nI t)), (2, .int (nI a)), (3, .int (nI b))], [.ref 10, .int (nI h)])) rfl ?_
    refine Sp.get (v := .int (nI (A.P))) rfl rfl (by rw [← hj.2.2.1]; rfl) ?_
    refine Sp.icmp rfl (fun u1 => ?_) (fun u1 => absurd ((nI_le' (by omega) (by omega)).mpr (by omega)) u1)
    refine Sp.go 1 (g := (46, [(5, .int (nI h)), (4, .int (nI c)), (0, .ref 10), (1, .int (nI t)), (2, .int (nI a)), (3, .int (nI b))], [.int (nI c)])) rfl ?_
    refine Sp.iret rfl (Or.inl rfl) ?_
    rw [hc, show h = A.P by omega]; exact hq
  | succ d ih =>
    intro h c hh hc hq
    have hc32 : c ≤ h := by rw [hc]; exact g_cnt_le _ _
    refine Sp.go 2 (g := (9, [(5, .int (nI h)), (4, .int (nI c)), (0, .ref 10), (1, .int (nI t)), (2, .int (nI a)), (3, .int (nI b))], [.ref 10, .int (nI h)])) rfl ?_
    refine Sp.get (v := .int (nI (A.P))) rfl rfl (by rw [← hj.2.2.1]; rfl) ?_
    refine Sp.icmp rfl (fun u1 => absurd u1 (fun z => absurd ((nI_le' (by omega) (by omega)).mp z) (by omega))) (fun u1 => ?_)
    refine Sp.go 5 (g := (21, [(5, .int (nI h)), (4, .int (nI c)), (0, .ref 10), (1, .int (nI t)), (2, .int (nI a)), (3, .int (nI b))], [.int (nI b), .int (nI a), .int (nI t), .int (nI h), .ref 10])) rfl ?_
    refine Sp.vr (some (.int (m_b2 (a_goes A h t a b)))) (mw (w)) (k' := 59) (F' := 0) (N' := 0) (C' := 0) (S' := 0) (vs := [.int (nI h), .int (nI t), .int (nI a), .int (nI b)]) (st := []) rfl rfl rfl rfl (Nat.le_of_ble_eq_true rfl) (Nat.le_of_ble_eq_true rfl) (by decide) (by decide) (Nat.zero_le _) (Nat.zero_le _) (fun Q' h => d_goes ho hj (by omega) (by omega) (by omega) (by omega) h) ?_
    refine Sp.ifb rfl (fun h2 => ?_) (fun h2 => ?_)
    · skip
      refine Sp.go 4 (g := (6, [(5, .int (nI h + 1)), (4, .int (nI c)), (0, .ref 10), (1, .int (nI t)), (2, .int (nI a)), (3, .int (nI b))], [])) rfl ?_
      rw [show nI h + 1 = nI (h + 1) from (nI_succ h).symm]
      refine ih (h + 1) _ (by omega) ?_ hq
      simp only [g_cnt, ← hc, h2]; rfl
    · skip
      refine Sp.go 7 (g := (6, [(5, .int (nI h + 1)), (4, .int ((nI c) + 1)), (0, .ref 10), (1, .int (nI t)), (2, .int (nI a)), (3, .int (nI b))], [])) rfl ?_
      rw [show nI c + 1 = nI (c + 1) from (nI_succ c).symm]
      rw [show nI h + 1 = nI (h + 1) from (nI_succ h).symm]
      refine ih (h + 1) _ (by omega) ?_ hq
      simp only [g_cnt, ← hc, h2]; rfl
theorem d_used {X : mX} {C S : Nat} {Q : Outcome → mM → Prop} {w : mWd} {A : aS} (ho : a_ok A) (hj : JR0 w A) {t a b : Nat} (ht : t < 64) (ha : a < 8) (hb : b < 8) (hq : Q (.returned (some (.int (nI (a_used A t a b))))) (mw w)) : Sp X 60 1 24 C S (0, [(0, .ref 10), (1, .int (nI t)), (2, .int (nI a)), (3, .int (nI b))], []) (mw w) Q := by
  refine Sp.go 4 (g := (6, [(5, .int 0), (4, .int 0), (0, .ref 10), (1, .int (nI t)), (2, .int (nI a)), (3, .int (nI b))], [])) rfl ?_
  exact d_used_loop ho hj ht ha hb A.P 0 0 (by omega) rfl hq
theorem d_fr1 {A : aS} {t a b : Nat} (ha : a < 8) (hb : b < 8) (e : nI a = nI b) (hp : ∀ c, A.pl a = some c → c ≤ 4) (hu : a_used A t a a ≤ 32) (h : a_places (A.pl a) ≤ nI (a_used A t a a)) : a_fr A t a b = false := by
  have e := (nI_inj (by omega) (by omega)).mp e
  subst e
  simp only [a_fr, if_true]
  cases hc : A.pl a with
  | none => rfl
  | some c =>
    rw [hc] at h
    have := hp c hc
    have h2 : nI c ≤ nI (a_used A t a a) := h
    rw [nI_le' (by omega) (by omega)] at h2
    simp; omega
theorem d_fr2 {A : aS} {t a b : Nat} (ha : a < 8) (hb : b < 8) (e : nI a = nI b) (hp : ∀ c, A.pl a = some c → c ≤ 4) (hu : a_used A t a a ≤ 32) (h : ¬ a_places (A.pl a) ≤ nI (a_used A t a a)) : a_fr A t a b = true := by
  have e := (nI_inj (by omega) (by omega)).mp e
  subst e
  simp only [a_fr, if_true]
  cases hc : A.pl a with
  | none =>
    rw [hc] at h
    refine absurd ?_ h
    show (-1 : Int32) ≤ nI (a_used A t a a)
    rw [Int32.le_iff_toInt_le, nI_toInt (by omega)]
    have : (-1 : Int32).toInt = -1 := by decide
    omega
  | some c =>
    rw [hc] at h
    have := hp c hc
    have h2 : ¬ nI c ≤ nI (a_used A t a a) := h
    rw [nI_le' (by omega) (by omega)] at h2
    simp; omega
theorem d_isFree {X : mX} {C S : Nat} {Q : Outcome → mM → Prop} {w : mWd} {A : aS} (ho : a_ok A) (hj : JR0 w A) {t a b : Nat} (ht : t < 64) (ha : a < 8) (hb : b < 8) (hq : Q (.returned (some (.int (m_b2 (a_fr A t a b))))) (mw w)) : Sp X 61 2 49 C S (0, [(0, .ref 10), (1, .int (nI t)), (2, .int (nI a)), (3, .int (nI b))], []) (mw w) Q := by
  have hu := a_used_le A t a a ho.2.2.1
  have hu2 := a_used_le A t a b ho.2.2.1
  refine Sp.go 2 (g := (2, [(0, .ref 10), (1, .int (nI t)), (2, .int (nI a)), (3, .int (nI b))], [.int (nI b), .int (nI a)])) rfl ?_
  refine Sp.icmp rfl (fun (h1 : ¬ (nI a : Int32) = (nI b : Int32)) => ?_) (fun (h1 : ¬ (¬ (nI a : Int32) = (nI b : Int32))) => ?_)
  · skip
    refine Sp.go 4 (g := (33, [(0, .ref 10), (1, .int (nI t)), (2, .int (nI a)), (3, .int (nI b))], [.int (nI t), .int (nI b), .int (nI a), .ref 10])) rfl ?_
    refine Sp.vr (some (.int (m_b2 (A.op a b t)))) (mw (w)) (k' := 57) (F' := 0) (N' := 0) (C' := 0) (S' := 0) (vs := [.int (nI a), .int (nI b), .int (nI t)]) (st := []) rfl rfl rfl rfl (Nat.le_of_ble_eq_true rfl) (Nat.le_of_ble_eq_true rfl) (by decide) (by decide) (Nat.zero_le _) (Nat.zero_le _) (fun Q' h => d_isOpen ho hj (by omega) (by omega) (by omega) h) ?_
    refine Sp.ifb rfl (fun h2 => ?_) (fun h2 => ?_)
    · skip
      refine Sp.go 1 (g := (54, [(0, .ref 10), (1, .int (nI t)), (2, .int (nI a)), (3, .int (nI b))], [.int 0])) rfl ?_
      refine Sp.iret rfl (Or.inr ⟨rfl, Or.inl rfl⟩) ?_
      rw [show a_fr A t a b = false by rw [nI_inj (by omega) (by omega)] at h1; simp [a_fr, h1, h2]] at hq; exact hq
    · skip
      refine Sp.go 4 (g := (43, [(0, .ref 10), (1, .int (nI t)), (2, .int (nI a)), (3, .int (nI b))], [.int (nI b), .int (nI a), .int (nI t), .ref 10])) rfl ?_
      refine Sp.vr (some (.int (nI (a_used A t a b)))) (mw (w)) (k' := 60) (F' := 1) (N' := 24) (C' := 0) (S' := 0) (vs := [.int (nI t), .int (nI a), .int (nI b)]) (st := []) rfl rfl rfl rfl (Nat.le_of_ble_eq_true rfl) (Nat.le_of_ble_eq_true rfl) (by decide) (by decide) (Nat.zero_le _) (Nat.zero_le _) (fun Q' h => d_used ho hj (by omega) (by omega) (by omega) h) ?_
      refine Sp.if rfl (fun (h3 : ¬ (nI (a_used A t a b) : Int32) = (0 : Int32)) => ?_) (fun (h3 : ¬ (¬ (nI (a_used A t a b) : Int32) = (0 : Int32))) => ?_)
      · skip
        refine Sp.go 1 (g := (54, [(0, .ref 10), (1, .int (nI t)), (2, .int (nI a)), (3, .int (nI b))], [.int 0])) rfl ?_
        refine Sp.iret rfl (Or.inr ⟨rfl, Or.inl rfl⟩) ?_
        rw [show a_fr A t a b = false by rw [nI_inj (by omega) (by omega)] at h1; simp [a_fr, h1, h2, show ¬ a_used A t a b = 0 from fun z => h3 (by rw [z]; rfl)]] at hq; exact hq
      · skip
        refine Sp.go 2 (g := (54, [(0, .ref 10), (1, .int (nI t)), (2, .int (nI a)), (3, .int (nI b))], [.int 1])) rfl ?_
        refine Sp.iret rfl (Or.inr ⟨rfl, Or.inr rfl⟩) ?_
        rw [show a_fr A t a b = true by rw [nI_inj (by omega) (by omega)] at h1; simp [a_fr, h1, h2, show a_used A t a b = 0 from (nI_inj (b := 0) (by omega) (by omega)).mp (Classical.not_not.mp h3)]] at hq; exact hq
  · skip
    refine Sp.go 4 (g := (9, [(0, .ref 10), (1, .int (nI t)), (2, .int (nI a)), (3, .int (nI b))], [.int (nI a), .int (nI a), .int (nI t), .ref 10])) rfl ?_
    refine Sp.vr (some (.int (nI (a_used A t a a)))) (mw (w)) (k' := 60) (F' := 1) (N' := 24) (C' := 0) (S' := 0) (vs := [.int (nI t), .int (nI a), .int (nI a)]) (st := []) rfl rfl rfl rfl (Nat.le_of_ble_eq_true rfl) (Nat.le_of_ble_eq_true rfl) (by decide) (by decide) (Nat.zero_le _) (Nat.zero_le _) (fun Q' h => d_used ho hj (by omega) (by omega) (by omega) h) ?_
    refine Sp.go 1 (g := (13, [(0, .ref 10), (1, .int (nI t)), (2, .int (nI a)), (3, .int (nI b))], [.ref 10, .int (nI (a_used A t a a))])) rfl ?_
    refine Sp.get (v := .ref 11) rfl rfl rfl ?_
    refine Sp.go 1 (g := (17, [(0, .ref 10), (1, .int (nI t)), (2, .int (nI a)), (3, .int (nI b))], [.int (nI a), .ref 11, .int (nI (a_used A t a a))])) rfl ?_
    refine Sp.iald (f := w.a 11) (j := a) rfl rfl (m_ix_of (by simp only [nI, Int32.ofNat_add, Int32.ofNat_mul] <;> rfl) (by omega) (by omega)) ?_
    rw [hj.2.2.2.1 a ha]
    refine Sp.icmp rfl (fun (h4 : (a_places (A.pl a) : Int32) ≤ (nI (a_used A t a a) : Int32)) => ?_) (fun (h4 : ¬ ((a_places (A.pl a) : Int32) ≤ (nI (a_used A t a a) : Int32))) => ?_)
    · skip
      refine Sp.go 2 (g := (54, [(0, .ref 10), (1, .int (nI t)), (2, .int (nI a)), (3, .int (nI b))], [.int 0])) rfl ?_
      refine Sp.iret rfl (Or.inr ⟨rfl, Or.inl rfl⟩) ?_
      rw [d_fr1 ha hb (Classical.not_not.mp h1) (fun c hc => ho.2.2.2.1 a c hc) hu h4] at hq; exact hq
    · skip
      refine Sp.go 2 (g := (54, [(0, .ref 10), (1, .int (nI t)), (2, .int (nI a)), (3, .int (nI b))], [.int 1])) rfl ?_
      refine Sp.iret rfl (Or.inr ⟨rfl, Or.inr rfl⟩) ?_
      rw [d_fr2 ha hb (Classical.not_not.mp h1) (fun c hc => ho.2.2.2.1 a c hc) hu h4] at hq; exact hq
