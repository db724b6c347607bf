/-! The reference: cut. Rows laid by wip/gen/model7.py. -/
/-- the desk's part is the same -/
def sC (w w' : mWd) : Prop := w'.f 0 = w.f 0 ∧ w'.f 1 = w.f 1 ∧ w'.f 2 = w.f 2 ∧ w'.f 3 = w.f 3 ∧ w'.f 4 = w.f 4 ∧ w'.a 2 = w.a 2 ∧ w'.a 3 = w.a 3 ∧ w'.a 4 = w.a 4 ∧ w'.a 5 = w.a 5 ∧ w'.a 7 = w.a 7 ∧ w'.a 8 = w.a 8 ∧ w'.p = w.p ∧ w'.o = w.o ∧ w'.d = w.d ∧ w'.nx = w.nx ∧ w'.sl = w.sl
theorem sC.refl (w : mWd) : sC w w := ⟨rfl, rfl, rfl, rfl, rfl, rfl, rfl, rfl, rfl, rfl, rfl, rfl, rfl, rfl, rfl, rfl⟩
theorem sC.trans {w w1 w2 : mWd} (h : sC w w1) (k : sC w1 w2) : sC w w2 := by
  obtain ⟨h0, h1, h2, h3, h4, h5, h6, h7, h8, h9, h10, h11, h12, h13, h14, h15⟩ := h
  obtain ⟨k0, k1, k2, k3, k4, k5, k6, k7, k8, k9, k10, k11, k12, k13, k14, k15⟩ := k
  exact ⟨k0.trans h0, k1.trans h1, k2.trans h2, k3.trans h3, k4.trans h4, k5.trans h5, k6.trans h6, k7.trans h7, k8.trans h8, k9.trans h9, k10.trans h10, k11.trans h11, k12.trans h12, k13.trans h13, k14.trans h14, k15.trans h15⟩
theorem sC.s12 {w : mWd} (R : Nat → Int32) : sC w (w.sa 12 R) := ⟨rfl, rfl, rfl, rfl, rfl, rfl, rfl, rfl, rfl, rfl, rfl, rfl, rfl, rfl, rfl, rfl⟩
theorem sC.s16 {w : mWd} (R : Nat → Int32) : sC w (w.sa 16 R) := ⟨rfl, rfl, rfl, rfl, rfl, rfl, rfl, rfl, rfl, rfl, rfl, rfl, rfl, rfl, rfl, rfl⟩
theorem sC.s18 {w : mWd} (R : Nat → Int32) : sC w (w.sa 18 R) := ⟨rfl, rfl, rfl, rfl, rfl, rfl, rfl, rfl, rfl, rfl, rfl, rfl, rfl, rfl, rfl, rfl⟩
theorem sC.s19 {w : mWd} (R : Nat → Int32) : sC w (w.sa 19 R) := ⟨rfl, rfl, rfl, rfl, rfl, rfl, rfl, rfl, rfl, rfl, rfl, rfl, rfl, rfl, rfl, rfl⟩
theorem sC.s20 {w : mWd} (R : Nat → Int32) : sC w (w.sa 20 R) := ⟨rfl, rfl, rfl, rfl, rfl, rfl, rfl, rfl, rfl, rfl, rfl, rfl, rfl, rfl, rfl, rfl⟩
theorem sC.s21 {w : mWd} (R : Nat → Int32) : sC w (w.sa 21 R) := ⟨rfl, rfl, rfl, rfl, rfl, rfl, rfl, rfl, rfl, rfl, rfl, rfl, rfl, rfl, rfl, rfl⟩
theorem sC.s5 {w : mWd} (v : Int32) : sC w (w.sf 5 v) := ⟨rfl, rfl, rfl, rfl, rfl, rfl, rfl, rfl, rfl, rfl, rfl, rfl, rfl, rfl, rfl, rfl⟩
def a_tch (A : aS) (a b h : Nat) : Bool := decide (A.fa h = 0) && m_any (fun t => a_goes A h t a b || a_goes A h t b a) A.T (64 - A.T)
theorem m_any_or {p : Nat → Bool} : ∀ (d t : Nat) (v : Bool), (v || m_any p t (d + 1)) = ((v || p t) || m_any p (t + 1) d) := by
  intro d t v; simp only [m_any, Bool.or_assoc]
theorem m_any_pos {p : Nat → Bool} : ∀ (d t : Nat), m_any p t d = true → ∃ i, t ≤ i ∧ i < t + d ∧ p i = true := by
  intro d
  induction d with
  | zero => intro t h; cases h
  | succ d ih =>
    intro t h
    simp only [m_any, Bool.or_eq_true] at h
    rcases h with h | h
    · exact ⟨t, by omega, by omega, h⟩
    · obtain ⟨i, h1, h2, h3⟩ := ih (t + 1) h
      exact ⟨i, by omega, by omega, h3⟩
theorem m_any_of {p : Nat → Bool} {i : Nat} (hp : p i = true) : ∀ (d t : Nat), t ≤ i → i < t + d → m_any p t d = true := by
  intro d
  induction d with
  | zero => intro t h1 h2; omega
  | succ d ih =>
    intro t h1 h2
    simp only [m_any]
    by_cases e : t = i
    · rw [e, hp]; rfl
    · rw [ih (t + 1) (by omega) (by omega), Bool.or_true]
theorem JR0.tc {w : mWd} {A : aS} {R : Nat → Int32} (h : JR0 w A) : JR0 (w.sa 20 R) A := h
theorem JR.tc {w : mWd} {A : aS} {R : Nat → Int32} (h : JR w A) : JR (w.sa 20 R) A := h
theorem upd_self {f : Nat → Int32} {i : Nat} : upd f i (f i) = f := by
  funext j; unfold upd; split
  · rename_i e; rw [e]
  · rfl
theorem upd_upd {f : Nat → Int32} {i : Nat} {x y : Int32} : upd (upd f i x) i y = upd f i y := by
  funext j; unfold upd; split <;> rfl
theorem upd_at {f : Nat → Int32} {i : Nat} {x : Int32} : upd f i x i = x := by unfold upd; rw [if_pos rfl]
theorem upd_ne {f : Nat → Int32} {i j : Nat} {x : Int32} (h : j ≠ i) : upd f i x j = f j := by unfold upd; rw [if_neg h]
theorem d_tchI {X : mX} {C S : Nat} {Q : Outcome → mM → Prop} {A : aS} (ho : a_ok A) {a b h : Nat} (ha : a < 8) (hb : b < 8) (hh : h < A.P) (hf0 : A.fa h = 0) : ∀ (d t : Nat) (w : mWd) (v : Bool), t + d = 64 → JR0 w A → w.a 20 h = m_b2 v → (∀ x : Int32, Sp X 75 5 123 C S (116, [(4, .int x), (3, .int (nI h)), (0, .ref 10), (1, .int (nI a)), (2, .int (nI b))], []) (mw (w.sa 20 (upd (w.a 20) h (m_b2 (v || m_any (fun t => a_goes A h t a b || a_goes A h t b a) t d))))) Q) → Sp X 75 5 123 C S (50, [(4, .int (nI t)), (3, .int (nI h)), (0, .ref 10), (1, .int (nI a)), (2, .int (nI b))], []) (mw w) Q := by
  have h32 := ho.2.2.1
  intro d
  induction d with
  | zero =>
    intro t w v hd hj hv kk
    refine Sp.go 2 (g := (54, [(4, .int (nI t)), (3, .int (nI h)), (0, .ref 10), (1, .int (nI a)), (2, .int (nI b))], [.int 64, .int (nI t)])) rfl ?_
    refine Sp.icmp rfl (fun u1 => ?_) (fun u1 => absurd ((nI_le' (a := 64) (by omega) (by omega)).mpr (by omega)) u1)
    have k2 := kk (nI t)
    rw [show m_any (fun t => a_goes A h t a b || a_goes A h t b a) t 0 = false from rfl, Bool.or_false, ← hv, show upd (w.a 20) h (w.a 20 h) = w.a 20 from upd_self, mWd.sa_self] at k2
    exact k2
  | succ d ih =>
    intro t w v hd hj hv kk
    refine Sp.go 2 (g := (54, [(4, .int (nI t)), (3, .int (nI h)), (0, .ref 10), (1, .int (nI a)), (2, .int (nI b))], [.int 64, .int (nI t)])) rfl ?_
    refine Sp.icmp rfl (fun u1 => absurd u1 (fun z => absurd ((nI_le' (a := 64) (by omega) (by omega)).mp z) (by omega))) (fun u1 => ?_)
    refine Sp.go 1 (g := (58, [(4, .int (nI t)), (3, .int (nI h)), (0, .ref 10), (1, .int (nI a)), (2, .int (nI b))], [.ref 10])) rfl ?_
    refine Sp.get (v := .ref 16) rfl rfl rfl ?_
    refine Sp.go 1 (g := (62, [(4, .int (nI t)), (3, .int (nI h)), (0, .ref 10), (1, .int (nI a)), (2, .int (nI b))], [.int (nI h), .ref 16])) rfl ?_
    refine Sp.iald (f := w.a 16) (j := h) rfl rfl (m_ix_of (by simp only [nI, Int32.ofNat_add, Int32.ofNat_mul] <;> rfl) (by omega) (by omega)) ?_
    rw [hj.fa hh]
    refine Sp.if rfl (fun u2 => absurd u2 (fun z => z (by rw [hf0]; rfl))) (fun u2 => ?_)
    refine Sp.go 1 (g := (67, [(4, .int (nI t)), (3, .int (nI h)), (0, .ref 10), (1, .int (nI a)), (2, .int (nI b))], [.ref 10])) rfl ?_
    refine Sp.get (v := .ref 20) rfl rfl rfl ?_
    refine Sp.go 2 (g := (72, [(4, .int (nI t)), (3, .int (nI h)), (0, .ref 10), (1, .int (nI a)), (2, .int (nI b))], [.ref 10, .int (nI h), .ref 20])) rfl ?_
    refine Sp.get (v := .ref 20) rfl rfl rfl ?_
    refine Sp.go 1 (g := (76, [(4, .int (nI t)), (3, .int (nI h)), (0, .ref 10), (1, .int (nI a)), (2, .int (nI b))], [.int (nI h), .ref 20, .int (nI h), .ref 20])) rfl ?_
    refine Sp.zald (f := w.a 20) (j := h) rfl rfl (m_ix_of (by simp only [nI, Int32.ofNat_add, Int32.ofNat_mul] <;> rfl) (by omega) (by omega)) ?_
    rw [hv]
    refine Sp.ifbn rfl (fun h3 => ?_) (fun h3 => ?_)
    · skip
      refine Sp.go 2 (g := (109, [(4, .int (nI t)), (3, .int (nI h)), (0, .ref 10), (1, .int (nI a)), (2, .int (nI b))], [.int 1, .int (nI h), .ref 20])) rfl ?_
      refine Sp.pa20 (j := h) rfl (m_ix_of (by simp only [nI, Int32.ofNat_add, Int32.ofNat_mul] <;> rfl) (by omega) (by omega)) (by decide) ?_
      refine Sp.go 2 (g := (50, [(4, .int (nI t + 1)), (3, .int (nI h)), (0, .ref 10), (1, .int (nI a)), (2, .int (nI b))], [])) rfl ?_
      rw [show nI t + 1 = nI (t + 1) from (nI_succ t).symm]
      have ev : (v || (a_goes A h t a b || a_goes A h t b a)) = true := by simp_all
      refine ih (t + 1) _ true (by omega) hj.tc upd_at (fun x => ?_)
      have k2 := kk x
      rw [m_any_or, ev] at k2
      rw [mWd.sa_sa, show (w.sa 20 (upd (w.a 20) h _)).a 20 = upd (w.a 20) h _ from rfl, upd_upd]
      exact k2
    · skip
      refine Sp.go 5 (g := (86, [(4, .int (nI t)), (3, .int (nI h)), (0, .ref 10), (1, .int (nI a)), (2, .int (nI b))], [.int (nI b), .int (nI a), .int (nI t), .int (nI h), .ref 10, .int (nI h), .ref 20])) rfl ?_
      refine Sp.vr (some (.int (m_b2 (a_goes A h t a b)))) (mw (w)) (k' := 59) (F' := 0) (N' := 0) (C' := 0) (S' := 0) (vs := [.int (nI h), .int (nI t), .int (nI a), .int (nI b)]) (st := [.int (nI h), .ref 20]) rfl rfl rfl rfl (Nat.le_of_ble_eq_true rfl) (Nat.le_of_ble_eq_true rfl) (by decide) (by decide) (Nat.zero_le _) (Nat.zero_le _) (fun Q' h => d_goes ho hj (by omega) (by omega) (by omega) (by omega) h) ?_
      refine Sp.ifbn rfl (fun h4 => ?_) (fun h4 => ?_)
      · skip
        refine Sp.go 2 (g := (109, [(4, .int (nI t)), (3, .int (nI h)), (0, .ref 10), (1, .int (nI a)), (2, .int (nI b))], [.int 1, .int (nI h), .ref 20])) rfl ?_
        refine Sp.pa20 (j := h) rfl (m_ix_of (by simp only [nI, Int32.ofNat_add, Int32.ofNat_mul] <;> rfl) (by omega) (by omega)) (by decide) ?_
        refine Sp.go 2 (g := (50, [(4, .int (nI t + 1)), (3, .int (nI h)), (0, .ref 10), (1, .int (nI a)), (2, .int (nI b))], [])) rfl ?_
        rw [show nI t + 1 = nI (t + 1) from (nI_succ t).symm]
        have ev : (v || (a_goes A h t a b || a_goes A h t b a)) = true := by simp_all
        refine ih (t + 1) _ true (by omega) hj.tc upd_at (fun x => ?_)
        have k2 := kk x
        rw [m_any_or, ev] at k2
        rw [mWd.sa_sa, show (w.sa 20 (upd (w.a 20) h _)).a 20 = upd (w.a 20) h _ from rfl, upd_upd]
        exact k2
      · skip
        refine Sp.go 5 (g := (98, [(4, .int (nI t)), (3, .int (nI h)), (0, .ref 10), (1, .int (nI a)), (2, .int (nI b))], [.int (nI a), .int (nI b), .int (nI t), .int (nI h), .ref 10, .int (nI h), .ref 20])) rfl ?_
        refine Sp.vr (some (.int (m_b2 (a_goes A h t b a)))) (mw (w)) (k' := 59) (F' := 0) (N' := 0) (C' := 0) (S' := 0) (vs := [.int (nI h), .int (nI t), .int (nI b), .int (nI a)]) (st := [.int (nI h), .ref 20]) rfl rfl rfl rfl (Nat.le_of_ble_eq_true rfl) (Nat.le_of_ble_eq_true rfl) (by decide) (by decide) (Nat.zero_le _) (Nat.zero_le _) (fun Q' h => d_goes ho hj (by omega) (by omega) (by omega) (by omega) h) ?_
        refine Sp.ifb rfl (fun h5 => ?_) (fun h5 => ?_)
        · skip
          refine Sp.go 1 (g := (109, [(4, .int (nI t)), (3, .int (nI h)), (0, .ref 10), (1, .int (nI a)), (2, .int (nI b))], [.int 0, .int (nI h), .ref 20])) rfl ?_
          refine Sp.pa20 (j := h) rfl (m_ix_of (by simp only [nI, Int32.ofNat_add, Int32.ofNat_mul] <;> rfl) (by omega) (by omega)) (by decide) ?_
          refine Sp.go 2 (g := (50, [(4, .int (nI t + 1)), (3, .int (nI h)), (0, .ref 10), (1, .int (nI a)), (2, .int (nI b))], [])) rfl ?_
          rw [show nI t + 1 = nI (t + 1) from (nI_succ t).symm]
          have ev : (v || (a_goes A h t a b || a_goes A h t b a)) = false := by simp_all
          refine ih (t + 1) _ false (by omega) hj.tc upd_at (fun x => ?_)
          have k2 := kk x
          rw [m_any_or, ev] at k2
          rw [mWd.sa_sa, show (w.sa 20 (upd (w.a 20) h _)).a 20 = upd (w.a 20) h _ from rfl, upd_upd]
          exact k2
        · skip
          refine Sp.go 2 (g := (109, [(4, .int (nI t)), (3, .int (nI h)), (0, .ref 10), (1, .int (nI a)), (2, .int (nI b))], [.int 1, .int (nI h), .ref 20])) rfl ?_
          refine Sp.pa20 (j := h) rfl (m_ix_of (by simp only [nI, Int32.ofNat_add, Int32.ofNat_mul] <;> rfl) (by omega) (by omega)) (by decide) ?_
          refine Sp.go 2 (g := (50, [(4, .int (nI t + 1)), (3, .int (nI h)), (0, .ref 10), (1, .int (nI a)), (2, .int (nI b))], [])) rfl ?_
          rw [show nI t + 1 = nI (t + 1) from (nI_succ t).symm]
          have ev : (v || (a_goes A h t a b || a_goes A h t b a)) = true := by simp_all
          refine ih (t + 1) _ true (by omega) hj.tc upd_at (fun x => ?_)
          have k2 := kk x
          rw [m_any_or, ev] at k2
          rw [mWd.sa_sa, show (w.sa 20 (upd (w.a 20) h _)).a 20 = upd (w.a 20) h _ from rfl, upd_upd]
          exact k2
theorem d_tchO {X : mX} {C S : Nat} {Q : Outcome → mM → Prop} {A : aS} (ho : a_ok A) (hf : ∀ j, j < A.P → A.fa j ≤ 5) {a b : Nat} (ha : a < 8) (hb : b < 8) : ∀ (d h : Nat) (w : mWd), h + d = A.P → JR w A → (∀ j, j < h → w.a 20 j = m_b2 (a_tch A a b j)) → (∀ R (y : Int32), (∀ j, j < A.P → R j = m_b2 (a_tch A a b j)) → Sp X 75 5 123 C S (122, [(3, .int y), (0, .ref 10), (1, .int (nI a)), (2, .int (nI b))], []) (mw (w.sa 20 R)) Q) → Sp X 75 5 123 C S (29, [(3, .int (nI h)), (0, .ref 10), (1, .int (nI a)), (2, .int (nI b))], []) (mw w) Q := by
  have h32 := ho.2.2.1
  have hT := ho.1
  intro d
  induction d with
  | zero =>
    intro h w hd hjr hlo kk
    have hj := hjr.1
    refine Sp.go 2 (g := (31, [(3, .int (nI h)), (0, .ref 10), (1, .int (nI a)), (2, .int (nI b))], [.ref 10, .int (nI h)])) rfl ?_
    refine Sp.get (v := .int (nI (A.P))) rfl rfl (by rw [← hj.ps]; rfl) ?_
    refine Sp.icmp rfl (fun u1 => ?_) (fun u1 => absurd ((nI_le' (by omega) (by omega)).mpr (by omega)) u1)
    have k2 := kk (w.a 20) (nI h) (fun j hj9 => hlo j (by omega))
    rw [mWd.sa_self] at k2
    exact k2
  | succ d ih =>
    intro h w hd hjr hlo kk
    have hj := hjr.1
    have hh : h < A.P := by omega
    have hfh := hf h hh
    refine Sp.go 2 (g := (31, [(3, .int (nI h)), (0, .ref 10), (1, .int (nI a)), (2, .int (nI b))], [.ref 10, .int (nI h)])) rfl ?_
    refine Sp.get (v := .int (nI (A.P))) rfl rfl (by rw [← hj.ps]; rfl) ?_
    refine Sp.icmp rfl (fun u1 => absurd u1 (fun z => absurd ((nI_le' (by omega) (by omega)).mp z) (by omega))) (fun u1 => ?_)
    refine Sp.go 1 (g := (38, [(3, .int (nI h)), (0, .ref 10), (1, .int (nI a)), (2, .int (nI b))], [.ref 10])) rfl ?_
    refine Sp.get (v := .ref 20) rfl rfl rfl ?_
    refine Sp.go 2 (g := (43, [(3, .int (nI h)), (0, .ref 10), (1, .int (nI a)), (2, .int (nI b))], [.int 0, .int (nI h), .ref 20])) rfl ?_
    refine Sp.pa20 (j := h) rfl (m_ix_of (by simp only [nI, Int32.ofNat_add, Int32.ofNat_mul] <;> rfl) (by omega) (by omega)) (by decide) ?_
    refine Sp.go 1 (g := (45, [(3, .int (nI h)), (0, .ref 10), (1, .int (nI a)), (2, .int (nI b))], [.ref 10])) rfl ?_
    refine Sp.get (v := .int (nI (A.T))) rfl rfl (by rw [← hj.now]; rfl) ?_
    refine Sp.go 1 (g := (50, [(4, .int (nI (A.T))), (3, .int (nI h)), (0, .ref 10), (1, .int (nI a)), (2, .int (nI b))], [])) rfl ?_
    by_cases hf0 : A.fa h = 0
    · refine d_tchI ho ha hb hh hf0 (64 - A.T) A.T (w.sa 20 (upd (w.a 20) h 0)) false (by omega) hj.tc upd_at (fun x => ?_)
      rw [mWd.sa_sa, show (w.sa 20 (upd (w.a 20) h 0)).a 20 = upd (w.a 20) h 0 from rfl, upd_upd, Bool.false_or]
      refine Sp.go 2 (g := (29, [(3, .int (nI h + 1)), (4, .int (x)), (0, .ref 10), (1, .int (nI a)), (2, .int (nI b))], [])) rfl ?_
      refine Sp.lsub [0, 2, 3, 4] (ls' := [(3, .int (nI h + 1)), (0, .ref 10), (1, .int (nI a)), (2, .int (nI b))]) rfl ?_
      rw [show nI h + 1 = nI (h + 1) from (nI_succ h).symm]
      refine ih (h + 1) _ (by omega) hjr.tc (fun j hj9 => ?_) (fun R y hR => by rw [mWd.sa_sa]; exact kk R y hR)
      · show upd (w.a 20) h _ j = _
        by_cases e : j = h
        · rw [e, upd_at]; first | (simp [a_tch, hf0]; done) | (simp [a_tch, hf0]; rfl)
        · rw [upd_ne e]; exact hlo j (by omega)
    · skip
      refine Sp.go 2 (g := (54, [(4, .int (nI (A.T))), (3, .int (nI h)), (0, .ref 10), (1, .int (nI a)), (2, .int (nI b))], [.int 64, .int (nI (A.T))])) rfl ?_
      refine Sp.icmp rfl (fun (h41 : (64 : Int32) ≤ (nI (A.T) : Int32)) => ?_) (fun (h41 : ¬ ((64 : Int32) ≤ (nI (A.T) : Int32))) => ?_)
      · skip
        refine Sp.go 2 (g := (29, [(3, .int (nI h + 1)), (4, .int (nI (A.T))), (0, .ref 10), (1, .int (nI a)), (2, .int (nI b))], [])) rfl ?_
        refine Sp.lsub [0, 2, 3, 4] (ls' := [(3, .int (nI h + 1)), (0, .ref 10), (1, .int (nI a)), (2, .int (nI b))]) rfl ?_
        rw [show nI h + 1 = nI (h + 1) from (nI_succ h).symm]
        refine ih (h + 1) _ (by omega) hjr.tc (fun j hj9 => ?_) (fun R y hR => by rw [mWd.sa_sa]; exact kk R y hR)
        · show upd (w.a 20) h _ j = _
          by_cases e : j = h
          · rw [e, upd_at]; first | (simp [a_tch, hf0]; done) | (simp [a_tch, hf0]; rfl)
          · rw [upd_ne e]; exact hlo j (by omega)
      · skip
        refine Sp.go 1 (g := (58, [(4, .int (nI (A.T))), (3, .int (nI h)), (0, .ref 10), (1, .int (nI a)), (2, .int (nI b))], [.ref 10])) rfl ?_
        refine Sp.get (v := .ref 16) rfl rfl rfl ?_
        refine Sp.go 1 (g := (62, [(4, .int (nI (A.T))), (3, .int (nI h)), (0, .ref 10), (1, .int (nI a)), (2, .int (nI b))], [.int (nI h), .ref 16])) rfl ?_
        refine Sp.iald (f := w.a 16) (j := h) rfl rfl (m_ix_of (by simp only [nI, Int32.ofNat_add, Int32.ofNat_mul] <;> rfl) (by omega) (by omega)) ?_
        rw [hj.fa hh]
        refine Sp.if rfl (fun u42 => ?_) (fun u42 => absurd (fun z => hf0 ((nI_eq0 (by omega)).mp z)) u42)
        refine Sp.go 2 (g := (29, [(3, .int (nI h + 1)), (4, .int (nI (A.T))), (0, .ref 10), (1, .int (nI a)), (2, .int (nI b))], [])) rfl ?_
        refine Sp.lsub [0, 2, 3, 4] (ls' := [(3, .int (nI h + 1)), (0, .ref 10), (1, .int (nI a)), (2, .int (nI b))]) rfl ?_
        rw [show nI h + 1 = nI (h + 1) from (nI_succ h).symm]
        refine ih (h + 1) _ (by omega) hjr.tc (fun j hj9 => ?_) (fun R y hR => by rw [mWd.sa_sa]; exact kk R y hR)
        · show upd (w.a 20) h _ j = _
          by_cases e : j = h
          · rw [e, upd_at]; first | (simp [a_tch, hf0]; done) | (simp [a_tch, hf0]; rfl)
          · rw [upd_ne e]; exact hlo j (by omega)
theorem d_setsK {X : mX} {C S : Nat} {Q : Outcome → mM → Prop} {a b : Nat} (ha : a < 8) (hb : b < 8) : ∀ (d t : Nat) (w : mWd), t + d = 64 → Sp X 75 5 123 C S (147, [(3, .int (nI (64))), (0, .ref 10), (1, .int (nI a)), (2, .int (nI b))], []) (mw (w.sa 12 (d_sets a b 0 t d (w.a 12)))) Q → Sp X 75 5 123 C S (127, [(3, .int (nI t)), (0, .ref 10), (1, .int (nI a)), (2, .int (nI b))], []) (mw w) Q := by
  intro d
  induction d with
  | zero =>
    intro t w hd kk
    have et : t = 64 := by omega
    subst et
    refine Sp.go 2 (g := (130, [(3, .int (nI (64))), (0, .ref 10), (1, .int (nI a)), (2, .int (nI b))], [.int 64, .int (nI (64))])) rfl ?_
    refine Sp.icmp rfl (fun u1 => ?_) (fun u1 => absurd ((nI_le' (a := 64) (b := 64) (by omega) (by omega)).mpr (by omega)) u1)
    rw [show d_sets a b 0 64 0 (w.a 12) = w.a 12 from rfl, mWd.sa_self] at kk
    exact kk
  | succ d ih =>
    intro t w hd kk
    refine Sp.go 2 (g := (130, [(3, .int (nI t)), (0, .ref 10), (1, .int (nI a)), (2, .int (nI b))], [.int 64, .int (nI t)])) rfl ?_
    refine Sp.icmp rfl (fun u1 => absurd u1 (fun z => absurd ((nI_le' (a := 64) (by omega) (by omega)).mp z) (by omega))) (fun u1 => ?_)
    refine Sp.go 5 (g := (138, [(3, .int (nI t)), (0, .ref 10), (1, .int (nI a)), (2, .int (nI b))], [.int 0, .int (nI t), .int (nI b), .int (nI a), .ref 10])) rfl ?_
    refine Sp.vr none (mw (w.sa 12 (d_set (w.a 12) a b t 0))) (k' := 58) (F' := 0) (N' := 0) (C' := 0) (S' := 0) (vs := [.int (nI a), .int (nI b), .int (nI t), .int 0]) (st := []) rfl rfl rfl rfl (Nat.le_of_ble_eq_true rfl) (Nat.le_of_ble_eq_true rfl) (by decide) (by decide) (Nat.zero_le _) (Nat.zero_le _) (fun Q' h => d_setT (by omega) (by omega) (by omega) (by decide) h) ?_
    refine Sp.go 2 (g := (127, [(3, .int (nI t + 1)), (0, .ref 10), (1, .int (nI a)), (2, .int (nI b))], [])) rfl ?_
    rw [show nI t + 1 = nI (t + 1) from (nI_succ t).symm]
    refine ih (t + 1) _ (by omega) ?_
    rw [mWd.sa_sa]
    exact kk
def aS.las (A : aS) (l : Nat → Nat) : aS := (A.T, A.nc, A.P, A.pl, A.op, A.go, A.at, l, A.fa, A.nd)
theorem JR.las {w : mWd} {A : aS} {l : Nat → Nat} (hj : JR w (A.las l)) (h x : Nat) : JR (w.sa 18 (upd (w.a 18) h (nI x))) (A.las (fun j => if j = h then x else l j)) := by
  obtain ⟨⟨h1, h2, h3, h4, h5, h6, _⟩, h7⟩ := hj
  refine ⟨⟨h1, h2, h3, h4, h5, fun j hj => ?_, trivial⟩, h7⟩
  obtain ⟨k1, k2, k3, k4, k5, k6, k7⟩ := h6 j hj
  refine ⟨k1, k2, k3, k4, k5, ?_, k7⟩
  show upd (w.a 18) h (nI x) j = nI (if j = h then x else l j)
  unfold upd; split
  · rfl
  · exact k6
theorem a_ok.las {A : aS} (ho : a_ok A) {l : Nat → Nat} (hl : ∀ j, j < A.P → l j ≤ 64) : a_ok (A.las l) := by
  obtain ⟨h1, h2, h3, h4, h5⟩ := ho
  exact ⟨h1, h2, h3, h4, fun j hj => ⟨(h5 j hj).1, (h5 j hj).2.1, hl j hj, (h5 j hj).2.2.2⟩⟩
theorem a_cutla_le {A : aS} (ho : a_ok A) {j : Nat} (hj : j < A.P) : a_cutla A j ≤ 64 := by
  have h1 := ho.1
  have h2 := (ho.2.2.2.2 j hj).2.1
  unfold a_cutla; split <;> omega
/-- ends, cut off where it is due, up to h -/
def a_cuts (A : aS) (tc : Nat → Bool) (h : Nat) : Nat → Nat := fun j => if j < h ∧ tc j = true then a_cutla A j else A.la j
theorem a_cuts_le {A : aS} (ho : a_ok A) (tc : Nat → Bool) (h : Nat) : ∀ j, j < A.P → a_cuts A tc h j ≤ 64 := by
  intro j hj
  unfold a_cuts; split
  · exact a_cutla_le ho hj
  · exact (ho.2.2.2.2 j hj).2.2.1
theorem d_cutsK {X : mX} {C S : Nat} {Q : Outcome → mM → Prop} {A : aS} (ho : a_ok A) {tc : Nat → Bool} {a b : Nat} : ∀ (d h : Nat) (w : mWd), h + d = A.P → JR w (A.las (a_cuts A tc h)) → (∀ j, j < A.P → w.a 20 j = m_b2 (tc j)) → (∀ R (y : Int32), JR (w.sa 18 R) (A.las (a_cuts A tc A.P)) → Sp X 75 5 123 C S (177, [(3, .int y), (0, .ref 10), (1, .int (nI a)), (2, .int (nI b))], []) (mw (w.sa 18 R)) Q) → Sp X 75 5 123 C S (149, [(3, .int (nI h)), (0, .ref 10), (1, .int (nI a)), (2, .int (nI b))], []) (mw w) Q := by
  have h32 := ho.2.2.1
  intro d
  induction d with
  | zero =>
    intro h w hd hjr htc kk
    refine Sp.go 2 (g := (151, [(3, .int (nI h)), (0, .ref 10), (1, .int (nI a)), (2, .int (nI b))], [.ref 10, .int (nI h)])) rfl ?_
    refine Sp.get (v := .int (nI (A.P))) rfl rfl (by rw [← (show w.f 8 = nI A.P from hjr.1.ps)]; rfl) ?_
    refine Sp.icmp rfl (fun u1 => ?_) (fun u1 => absurd ((nI_le' (by omega) (by omega)).mpr (by omega)) u1)
    have e : h = A.P := by omega
    rw [e] at hjr
    have k2 := kk (w.a 18) (nI h) (by rw [mWd.sa_self]; exact hjr)
    rw [mWd.sa_self] at k2
    exact k2
  | succ d ih =>
    intro h w hd hjr htc kk
    have hh : h < A.P := by omega
    refine Sp.go 2 (g := (151, [(3, .int (nI h)), (0, .ref 10), (1, .int (nI a)), (2, .int (nI b))], [.ref 10, .int (nI h)])) rfl ?_
    refine Sp.get (v := .int (nI (A.P))) rfl rfl (by rw [← (show w.f 8 = nI A.P from hjr.1.ps)]; rfl) ?_
    refine Sp.icmp rfl (fun u1 => absurd u1 (fun z => absurd ((nI_le' (by omega) (by omega)).mp z) (by omega))) (fun u1 => ?_)
    refine Sp.go 1 (g := (158, [(3, .int (nI h)), (0, .ref 10), (1, .int (nI a)), (2, .int (nI b))], [.ref 10])) rfl ?_
    refine Sp.get (v := .ref 20) rfl rfl rfl ?_
    refine Sp.go 1 (g := (162, [(3, .int (nI h)), (0, .ref 10), (1, .int (nI a)), (2, .int (nI b))], [.int (nI h), .ref 20])) rfl ?_
    refine Sp.zald (f := w.a 20) (j := h) rfl rfl (m_ix_of (by simp only [nI, Int32.ofNat_add, Int32.ofNat_mul] <;> rfl) (by omega) (by omega)) ?_
    rw [htc h hh]
    refine Sp.ifb rfl (fun h2 => ?_) (fun h2 => ?_)
    · skip
      refine Sp.go 2 (g := (149, [(3, .int (nI h + 1)), (0, .ref 10), (1, .int (nI a)), (2, .int (nI b))], [])) rfl ?_
      rw [show nI h + 1 = nI (h + 1) from (nI_succ h).symm]
      rw [show a_cuts A tc h = a_cuts A tc (h + 1) from ?_] at hjr
      · exact ih (h + 1) _ (by omega) hjr htc kk
      · funext j
        unfold a_cuts
        by_cases e : j = h
        · rw [if_neg (by omega), if_neg (fun z => by rw [e, h2] at z; exact absurd z.2 (by decide))]
        · simp only [show j < h + 1 ↔ j < h by omega]
    · skip
      refine Sp.go 2 (g := (168, [(3, .int (nI h)), (0, .ref 10), (1, .int (nI a)), (2, .int (nI b))], [.int (nI h), .ref 10])) rfl ?_
      refine Sp.vr none (mw (w.sa 18 (upd (w.a 18) h (nI (a_cutla A h))))) (k' := 73) (F' := 0) (N' := 0) (C' := 0) (S' := 0) (vs := [.int (nI h)]) (st := []) rfl rfl rfl rfl (Nat.le_of_ble_eq_true rfl) (Nat.le_of_ble_eq_true rfl) (by decide) (by decide) (Nat.zero_le _) (Nat.zero_le _) (fun Q' h => d_cutOff (ho.las (a_cuts_le ho tc _)) hjr.1 hh h) ?_
      refine Sp.go 2 (g := (149, [(3, .int (nI h + 1)), (0, .ref 10), (1, .int (nI a)), (2, .int (nI b))], [])) rfl ?_
      rw [show nI h + 1 = nI (h + 1) from (nI_succ h).symm]
      have hjr2 := hjr.las h (a_cutla A h)
      rw [show (fun j => if j = h then a_cutla A h else a_cuts A tc h j) = a_cuts A tc (h + 1) from ?_] at hjr2
      · exact ih (h + 1) _ (by omega) hjr2 htc (fun R y hR => by rw [mWd.sa_sa]; rw [mWd.sa_sa] at hR; exact kk R y hR)
      · funext j
        unfold a_cuts
        by_cases e : j = h
        · rw [if_pos e, if_pos ⟨by omega, by rw [e]; exact h2⟩, e]
        · rw [if_neg e]; simp only [show j < h + 1 ↔ j < h by omega]
