/-! The desk: journeys given and cut off, booking anew, ticks. Rows laid by wip/gen/desk3.py. -/
theorem mWd.sd_d (w : mWd) (m : Nat) (x : va_E) : (w.sd m x).d m = some x := by simp [mWd.sd, mWd.d, va_up]
theorem mWd.sd_ne (w : mWd) {m n : Nat} (x : va_E) (h : n ≠ m) : (w.sd m x).d n = w.d n := by simp [mWd.sd, mWd.d, va_up, h]
theorem mWd.sd_sd (w : mWd) (m : Nat) (x y : va_E) : (w.sd m x).sd m y = w.sd m y := by
  unfold mWd.sd
  have : va_up (va_up w.2.2.2.2.1 m (some x)) m (some y) = va_up w.2.2.2.2.1 m (some y) := by
    funext j
    by_cases h : j = m <;> simp [va_up, h]
  rw [this]
theorem mWd.sd_self (w : mWd) {m : Nat} {x : va_E} (h : w.d m = some x) : w.sd m x = w := by
  unfold mWd.sd
  have : va_up w.2.2.2.2.1 m (some x) = w.2.2.2.2.1 := by
    funext j
    by_cases e : j = m
    · subst e; simp only [va_up, if_true]; exact h.symm
    · simp [va_up, e]
  rw [this]
theorem mWd.sa_45 (w : mWd) (A B A' B' : Nat → Int32) : ((((w.sa 4 A).sa 5 B).sa 4 A').sa 5 B') = (w.sa 4 A').sa 5 B' := by
  unfold mWd.sa
  have : va_up (va_up (va_up (va_up w.2.1 4 A) 5 B) 4 A') 5 B' = va_up (va_up w.2.1 4 A') 5 B' := by
    funext j
    by_cases h5 : j = 5
    · simp [va_up, h5]
    · by_cases h4 : j = 4 <;> simp [va_up, h4, h5]
  rw [this]
/-- a row's places t .. t + d - 1 out of another row -/
def r_copy (way : Nat → Int32) : Nat → Nat → (Nat → Int32) → Nat → Int32
  | _, 0, nd => nd
  | t, d + 1, nd => r_copy way (t + 1) d (upd nd t (way t))
def r_tk4 (N : Nat → Nat) : Nat → Nat → (Nat → Int32) → Nat → Int32
  | _, 0, us => us
  | t, d + 1, us => r_tk4 N (t + 1) d (n_tk4 us (N t) (N (t + 1)) t)
def r_tk5 (N : Nat → Nat) : Nat → Nat → (Nat → Int32) → Nat → Int32
  | _, 0, st => st
  | t, d + 1, st => r_tk5 N (t + 1) d (n_tk5 st (N t) (N (t + 1)) t)
def r_gb4 (N : Nat → Nat) : Nat → Nat → (Nat → Int32) → Nat → Int32
  | _, 0, us => us
  | t, d + 1, us => r_gb4 N (t + 1) d (n_gb4 us (N t) (N (t + 1)) t)
def r_gb5 (N : Nat → Nat) : Nat → Nat → (Nat → Int32) → Nat → Int32
  | _, 0, st => st
  | t, d + 1, st => r_gb5 N (t + 1) d (n_gb5 st (N t) (N (t + 1)) t)
theorem r_copy_loop {X : mX} {C S : Nat} {Q : Outcome → mM → Prop} {n e : Nat} {g at0 l f v2 : Int32} (he : e ≤ 64) : ∀ (d t : Nat) (w : mWd) (nd : Nat → Int32), t + d = e + 1 → w.d n = some (.inr (1, [.int g, .int (at0), .ref (n + 24), .int (l), .int f])) → w.d (n + 1) = some (.inl (0, 65, .inl nd)) → Sp X 48 2 44 C S (32, [(4, .int (nI (e + 1))), (0, .ref 0), (1, .ref (n + 23)), (2, .int (v2)), (3, .int (nI e))], []) (mw (w.sd (n + 1) (.inl (0, 65, .inl (r_copy (w.a 7) t d nd))))) Q → Sp X 48 2 44 C S (3, [(4, .int (nI t)), (0, .ref 0), (1, .ref (n + 23)), (2, .int (v2)), (3, .int (nI e))], []) (mw w) Q := by
  intro d
  induction d with
  | zero =>
    intro t w nd ht hp hn kk
    have e1 : t = e + 1 := by omega
    subst e1
    simp only [r_copy] at kk
    rw [mWd.sd_self w hn] at kk
    refine Sp.go 2 (g := (6, [(4, .int (nI (e + 1))), (0, .ref 0), (1, .ref (n + 23)), (2, .int (v2)), (3, .int (nI e))], [.int (nI e), .int (nI (e + 1))])) rfl ?_
    refine Sp.icmp rfl (fun u1 => ?_) (fun u1 => absurd ((nI_lt' (by omega) (by omega)).mpr (by omega)) u1)
    exact kk
  | succ d ih =>
    intro t w nd ht hp hn kk
    refine Sp.go 2 (g := (6, [(4, .int (nI t)), (0, .ref 0), (1, .ref (n + 23)), (2, .int (v2)), (3, .int (nI e))], [.int (nI e), .int (nI t)])) rfl ?_
    refine Sp.icmp rfl (fun u1 => absurd u1 (fun q => absurd ((nI_lt' (by omega) (by omega)).mp q) (by omega))) (fun u1 => ?_)
    refine Sp.go 1 (g := (10, [(4, .int (nI t)), (0, .ref 0), (1, .ref (n + 23)), (2, .int (v2)), (3, .int (nI e))], [.ref (n + 23)])) rfl ?_
    refine Sp.get (v := .ref (n + 24)) rfl hp rfl ?_
    refine Sp.go 2 (g := (16, [(4, .int (nI t)), (0, .ref 0), (1, .ref (n + 23)), (2, .int (v2)), (3, .int (nI e))], [.ref 0, .int (nI t), .ref (n + 24)])) rfl ?_
    refine Sp.get (v := .ref 6) rfl rfl rfl ?_
    refine Sp.get (v := .ref 7) rfl rfl rfl ?_
    refine Sp.go 1 (g := (24, [(4, .int (nI t)), (0, .ref 0), (1, .ref (n + 23)), (2, .int (v2)), (3, .int (nI e))], [.int (nI t), .ref 7, .int (nI t), .ref (n + 24)])) rfl ?_
    refine Sp.iald (f := w.a 7) (j := t) rfl rfl (m_ix_of (by simp only [nI, Int32.ofNat_add, Int32.ofNat_mul] <;> rfl) (by omega) (by omega)) ?_
    refine Sp.pn (j := t) rfl hn (m_ix_of (by simp only [nI, Int32.ofNat_add, Int32.ofNat_mul] <;> rfl) (by omega) (by omega)) ?_
    refine Sp.go 2 (g := (3, [(4, .int (nI t + 1)), (0, .ref 0), (1, .ref (n + 23)), (2, .int (v2)), (3, .int (nI e))], [])) rfl ?_
    rw [← nI_succ]
    refine ih (t + 1) _ (upd nd t (w.a 7 t)) (by omega) (by rw [mWd.sd_ne _ _ (by omega)]; exact hp) (mWd.sd_d ..) ?_
    simp only [r_copy] at kk
    rw [mWd.sd_sd]
    exact kk
theorem r_take_loop {X : mX} {C S : Nat} {Q : Outcome → mM → Prop} {n e lo : Nat} {g at0 l f v2 : Int32} {nd : Nat → Int32} {N : Nat → Nat} (he : e ≤ 64) (hN : ∀ i, lo ≤ i → i ≤ e → nd i = nI (N i) ∧ N i < 8) : ∀ (d t : Nat) (w : mWd), lo ≤ t → t + d = e → w.d n = some (.inr (1, [.int g, .int (at0), .ref (n + 24), .int (l), .int f])) → w.d (n + 1) = some (.inl (0, 65, .inl nd)) → Q (.returned none) (mw ((w.sa 4 (r_tk4 N t d (w.a 4))).sa 5 (r_tk5 N t d (w.a 5)))) → Sp X 48 2 44 C S (40, [(4, .int (nI t)), (0, .ref 0), (1, .ref (n + 23)), (2, .int (v2)), (3, .int (nI e))], []) (mw w) Q := by
  intro d
  induction d with
  | zero =>
    intro t w hlo ht hp hn hq
    simp only [r_tk4, r_tk5, mWd.sa_self] at hq
    refine Sp.go 2 (g := (43, [(4, .int (nI t)), (0, .ref 0), (1, .ref (n + 23)), (2, .int (v2)), (3, .int (nI e))], [.int (nI e), .int (nI t)])) rfl ?_
    refine Sp.icmp rfl (fun u1 => ?_) (fun u1 => absurd ((nI_le' (a := e) (b := t) (by omega) (by omega)).mpr (by omega)) u1)
    refine Sp.vret rfl rfl ?_
    exact hq
  | succ d ih =>
    intro t w hlo ht hp hn hq
    refine Sp.go 2 (g := (43, [(4, .int (nI t)), (0, .ref 0), (1, .ref (n + 23)), (2, .int (v2)), (3, .int (nI e))], [.int (nI e), .int (nI t)])) rfl ?_
    refine Sp.icmp rfl (fun u1 => absurd u1 (fun q => absurd ((nI_le' (a := e) (b := t) (by omega) (by omega)).mp q) (by omega))) (fun u1 => ?_)
    refine Sp.go 1 (g := (47, [(4, .int (nI t)), (0, .ref 0), (1, .ref (n + 23)), (2, .int (v2)), (3, .int (nI e))], [.ref 0])) rfl ?_
    refine Sp.get (v := .ref 1) rfl rfl rfl ?_
    refine Sp.go 1 (g := (51, [(4, .int (nI t)), (0, .ref 0), (1, .ref (n + 23)), (2, .int (v2)), (3, .int (nI e))], [.ref (n + 23), .ref 1])) rfl ?_
    refine Sp.get (v := .ref (n + 24)) rfl hp rfl ?_
    refine Sp.go 1 (g := (56, [(4, .int (nI t)), (0, .ref 0), (1, .ref (n + 23)), (2, .int (v2)), (3, .int (nI e))], [.int (nI t), .ref (n + 24), .ref 1])) rfl ?_
    refine Sp.iald (f := nd) (j := t) rfl hn (m_ix_of (by simp only [nI, Int32.ofNat_add, Int32.ofNat_mul] <;> rfl) (by omega) (by omega)) ?_
    rw [(hN t (by omega) (by omega)).1]
    refine Sp.go 1 (g := (58, [(4, .int (nI t)), (0, .ref 0), (1, .ref (n + 23)), (2, .int (v2)), (3, .int (nI e))], [.ref (n + 23), .int (nI (N t)), .ref 1])) rfl ?_
    refine Sp.get (v := .ref (n + 24)) rfl hp rfl ?_
    refine Sp.go 3 (g := (65, [(4, .int (nI t)), (0, .ref 0), (1, .ref (n + 23)), (2, .int (v2)), (3, .int (nI e))], [.int ((nI t) + 1), .ref (n + 24), .int (nI (N t)), .ref 1])) rfl ?_
    refine Sp.iald (f := nd) (j := t + 1) rfl hn (m_ix_of (by simp only [nI, Int32.ofNat_add, Int32.ofNat_mul] <;> rfl) (by omega) (by omega)) ?_
    rw [(hN (t + 1) (by omega) (by omega)).1]
    refine Sp.go 1 (g := (68, [(4, .int (nI t)), (0, .ref 0), (1, .ref (n + 23)), (2, .int (v2)), (3, .int (nI e))], [.int (nI t), .int (nI (N (t + 1))), .int (nI (N t)), .ref 1])) rfl ?_
    refine Sp.vr none (mw ((w.sa 4 (n_tk4 (w.a 4) (N t) (N (t + 1)) t)).sa 5 (n_tk5 (w.a 5) (N t) (N (t + 1)) t))) (k' := 12) (F' := 1) (N' := 21) (C' := 0) (S' := 0) (vs := [.int (nI (N t)), .int (nI (N (t + 1))), .int (nI t)]) (st := []) rfl rfl rfl rfl (Nat.le_of_ble_eq_true rfl) (Nat.le_of_ble_eq_true rfl) (by decide) (by decide) (Nat.zero_le _) (Nat.zero_le _) (fun Q' h => n_take (hN t (by omega) (by omega)).2 (hN (t + 1) (by omega) (by omega)).2 (by omega) h) ?_
    refine Sp.go 2 (g := (40, [(4, .int (nI t + 1)), (0, .ref 0), (1, .ref (n + 23)), (2, .int (v2)), (3, .int (nI e))], [])) rfl ?_
    rw [← nI_succ]
    refine ih (t + 1) ((w.sa 4 (n_tk4 (w.a 4) (N t) (N (t + 1)) t)).sa 5 (n_tk5 (w.a 5) (N t) (N (t + 1)) t)) (by omega) (by omega) hp hn ?_
    rw [mWd.sa_45]
    exact hq
/-- behind giveJourney: the nodes s .. e out of the way, last e, the steps taken -/
def r_giveW (w : mWd) (n s e : Nat) (g t f : Int32) (nd : Nat → Int32) (N : Nat → Nat) : mWd :=
  (((w.sd (n + 1) (.inl (0, 65, .inl (r_copy (w.a 7) s (e + 1 - s) nd)))).sd n (.inr (1, [.int g, .int t, .ref (n + 24), .int (nI e), .int f]))).sa 4 (r_tk4 N s (e - s) (w.a 4))).sa 5 (r_tk5 N s (e - s) (w.a 5))
theorem r_copy_at (way : Nat → Int32) : ∀ (d t : Nat) (nd : Nat → Int32) (i : Nat), r_copy way t d nd i = if t ≤ i ∧ i < t + d then way i else nd i := by
  intro d
  induction d with
  | zero => intro t nd i; rw [if_neg (by omega)]; rfl
  | succ d ih =>
    intro t nd i
    simp only [r_copy]
    rw [ih]
    by_cases e : i = t
    · subst e
      rw [if_neg (by omega), if_pos (by omega)]
      simp [upd]
    · by_cases h : t + 1 ≤ i ∧ i < t + 1 + d
      · rw [if_pos h, if_pos (by omega)]
      · rw [if_neg h, if_neg (by omega)]
        simp [upd, e]
theorem r_give {X : mX} {C S : Nat} {Q : Outcome → mM → Prop} {w : mWd} {n s e : Nat} {g at0 l f : Int32} {nd : Nat → Int32} {N : Nat → Nat} (hse : s ≤ e) (he : e ≤ 64) (hp : w.d n = some (.inr (1, [.int g, .int (at0), .ref (n + 24), .int (l), .int f]))) (hn : w.d (n + 1) = some (.inl (0, 65, .inl nd))) (hN : ∀ i, s ≤ i → i ≤ e → w.a 7 i = nI (N i) ∧ N i < 8) (hq : Q (.returned none) (mw (r_giveW w n s e g at0 f nd N))) : Sp X 48 2 44 C S (0, [(0, .ref 0), (1, .ref (n + 23)), (2, .int (nI s)), (3, .int (nI e))], []) (mw w) Q := by
  refine Sp.go 2 (g := (3, [(4, .int (nI s)), (0, .ref 0), (1, .ref (n + 23)), (2, .int (nI s)), (3, .int (nI e))], [])) rfl ?_
  refine r_copy_loop he (e + 1 - s) s w nd (by omega) hp hn ?_
  refine Sp.go 2 (g := (34, [(4, .int (nI (e + 1))), (0, .ref 0), (1, .ref (n + 23)), (2, .int (nI s)), (3, .int (nI e))], [.int (nI e), .ref (n + 23)])) rfl ?_
  refine Sp.pl rfl (by rw [mWd.sd_ne _ _ (by omega)]; exact hp) (Nat.le_of_ble_eq_true rfl) rfl ?_
  refine Sp.go 2 (g := (40, [(4, .int (nI s)), (0, .ref 0), (1, .ref (n + 23)), (2, .int (nI s)), (3, .int (nI e))], [])) rfl ?_
  refine r_take_loop (lo := s) (nd := r_copy (w.a 7) s (e + 1 - s) nd) (N := N) he (fun i h1 h2 => ?_) (e - s) s _ (Nat.le_refl _) (by omega) (mWd.sd_d ..) (by rw [mWd.sd_ne _ _ (by omega)]; exact mWd.sd_d ..) hq
  rw [r_copy_at, if_pos (by omega)]
  exact hN i h1 h2
theorem r_back_loop {X : mX} {C S : Nat} {Q : Outcome → mM → Prop} {n e lo : Nat} {g at0 f v2 v3 : Int32} {nd : Nat → Int32} {N : Nat → Nat} (he : e ≤ 64) (hN : ∀ i, lo ≤ i → i ≤ e → nd i = nI (N i) ∧ N i < 8) : ∀ (d t : Nat) (w : mWd), lo ≤ t → t < 65 → t + d = max t e → w.d n = some (.inr (1, [.int g, .int (at0), .ref (n + 24), .int (nI e), .int f])) → w.d (n + 1) = some (.inl (0, 65, .inl nd)) → (∀ x : Int32, Sp X 49 2 44 C S (62, [(4, .int (x)), (3, .int (v3)), (2, .int (v2)), (0, .ref 0), (1, .ref (n + 23))], []) (mw ((w.sa 4 (r_gb4 N t d (w.a 4))).sa 5 (r_gb5 N t d (w.a 5)))) Q) → Sp X 49 2 44 C S (22, [(4, .int (nI t)), (3, .int (v3)), (2, .int (v2)), (0, .ref 0), (1, .ref (n + 23))], []) (mw w) Q := by
  intro d
  induction d with
  | zero =>
    intro t w hlo h65 ht hp hn kk
    simp only [r_gb4, r_gb5, mWd.sa_self] at kk
    refine Sp.go 2 (g := (25, [(4, .int (nI t)), (3, .int (v3)), (2, .int (v2)), (0, .ref 0), (1, .ref (n + 23))], [.ref (n + 23), .int (nI t)])) rfl ?_
    refine Sp.get (v := .int (nI e)) rfl hp rfl ?_
    refine Sp.icmp rfl (fun u1 => ?_) (fun u1 => absurd ((nI_le' (a := e) (b := t) (by omega) (by omega)).mpr (by omega)) u1)
    exact kk _
  | succ d ih =>
    intro t w hlo h65 ht hp hn kk
    refine Sp.go 2 (g := (25, [(4, .int (nI t)), (3, .int (v3)), (2, .int (v2)), (0, .ref 0), (1, .ref (n + 23))], [.ref (n + 23), .int (nI t)])) rfl ?_
    refine Sp.get (v := .int (nI e)) rfl hp rfl ?_
    refine Sp.icmp rfl (fun u1 => absurd u1 (fun q => absurd ((nI_le' (a := e) (b := t) (by omega) (by omega)).mp q) (by omega))) (fun u1 => ?_)
    refine Sp.go 1 (g := (32, [(4, .int (nI t)), (3, .int (v3)), (2, .int (v2)), (0, .ref 0), (1, .ref (n + 23))], [.ref 0])) rfl ?_
    refine Sp.get (v := .ref 1) rfl rfl rfl ?_
    refine Sp.go 1 (g := (36, [(4, .int (nI t)), (3, .int (v3)), (2, .int (v2)), (0, .ref 0), (1, .ref (n + 23))], [.ref (n + 23), .ref 1])) rfl ?_
    refine Sp.get (v := .ref (n + 24)) rfl hp rfl ?_
    refine Sp.go 1 (g := (41, [(4, .int (nI t)), (3, .int (v3)), (2, .int (v2)), (0, .ref 0), (1, .ref (n + 23))], [.int (nI t), .ref (n + 24), .ref 1])) rfl ?_
    refine Sp.iald (f := nd) (j := t) rfl hn (m_ix_of (by simp only [nI, Int32.ofNat_add, Int32.ofNat_mul] <;> rfl) (by omega) (by omega)) ?_
    rw [(hN t (by omega) (by omega)).1]
    refine Sp.go 1 (g := (43, [(4, .int (nI t)), (3, .int (v3)), (2, .int (v2)), (0, .ref 0), (1, .ref (n + 23))], [.ref (n + 23), .int (nI (N t)), .ref 1])) rfl ?_
    refine Sp.get (v := .ref (n + 24)) rfl hp rfl ?_
    refine Sp.go 3 (g := (50, [(4, .int (nI t)), (3, .int (v3)), (2, .int (v2)), (0, .ref 0), (1, .ref (n + 23))], [.int ((nI t) + 1), .ref (n + 24), .int (nI (N t)), .ref 1])) rfl ?_
    refine Sp.iald (f := nd) (j := t + 1) rfl hn (m_ix_of (by simp only [nI, Int32.ofNat_add, Int32.ofNat_mul] <;> rfl) (by omega) (by omega)) ?_
    rw [(hN (t + 1) (by omega) (by omega)).1]
    refine Sp.go 1 (g := (53, [(4, .int (nI t)), (3, .int (v3)), (2, .int (v2)), (0, .ref 0), (1, .ref (n + 23))], [.int (nI t), .int (nI (N (t + 1))), .int (nI (N t)), .ref 1])) rfl ?_
    refine Sp.vr none (mw ((w.sa 4 (n_gb4 (w.a 4) (N t) (N (t + 1)) t)).sa 5 (n_gb5 (w.a 5) (N t) (N (t + 1)) t))) (k' := 13) (F' := 1) (N' := 21) (C' := 0) (S' := 0) (vs := [.int (nI (N t)), .int (nI (N (t + 1))), .int (nI t)]) (st := []) rfl rfl rfl rfl (Nat.le_of_ble_eq_true rfl) (Nat.le_of_ble_eq_true rfl) (by decide) (by decide) (Nat.zero_le _) (Nat.zero_le _) (fun Q' h => n_giveBack (hN t (by omega) (by omega)).2 (hN (t + 1) (by omega) (by omega)).2 (by omega) h) ?_
    refine Sp.go 2 (g := (22, [(4, .int (nI t + 1)), (3, .int (v3)), (2, .int (v2)), (0, .ref 0), (1, .ref (n + 23))], [])) rfl ?_
    rw [← nI_succ]
    refine ih (t + 1) ((w.sa 4 (n_gb4 (w.a 4) (N t) (N (t + 1)) t)).sa 5 (n_gb5 (w.a 5) (N t) (N (t + 1)) t)) (by omega) (by omega) (by omega) hp hn (fun x => ?_)
    rw [mWd.sa_45]
    exact kk x
/-- behind cutOff: the steps from m on given back, last NOW or none -/
def r_cutW (w : mWd) (n m e : Nat) (g t f l' : Int32) (N : Nat → Nat) : mWd :=
  ((w.sa 4 (r_gb4 N m (e - m) (w.a 4))).sa 5 (r_gb5 N m (e - m) (w.a 5))).sd n (.inr (1, [.int g, .int t, .ref (n + 24), .int l', .int f]))
theorem r_cutOff {X : mX} {C S : Nat} {Q : Outcome → mM → Prop} {w : mWd} {n a0 T0 e : Nat} {g f : Int32} {nd : Nat → Int32} {N : Nat → Nat} (ha : a0 < 65) (hT : T0 ≤ 64) (he : e ≤ 64) (hnow : w.f 4 = nI T0) (hp : w.d n = some (.inr (1, [.int g, .int (nI a0), .ref (n + 24), .int (nI e), .int f]))) (hn : w.d (n + 1) = some (.inl (0, 65, .inl nd))) (hN : ∀ i, max a0 T0 ≤ i → i ≤ e → nd i = nI (N i) ∧ N i < 8) (hq : Q (.returned (some (.int (nI e - nI (max a0 T0))))) (mw (r_cutW w n (max a0 T0) e g (nI a0) f (if T0 < a0 then -1 else nI T0) N))) : Sp X 49 2 44 C S (0, [(0, .ref 0), (1, .ref (n + 23))], []) (mw w) Q := by
  refine Sp.go 1 (g := (1, [(0, .ref 0), (1, .ref (n + 23))], [.ref (n + 23)])) rfl ?_
  refine Sp.get (v := .int (nI a0)) rfl hp rfl ?_
  refine Sp.go 1 (g := (5, [(0, .ref 0), (1, .ref (n + 23))], [.ref 0, .int (nI a0)])) rfl ?_
  refine Sp.get (v := .int (nI T0)) rfl rfl (by rw [← hnow]; rfl) ?_
  refine Sp.max rfl (by decide) (Nat.le_of_ble_eq_true rfl) ?_
  rw [p_max (by omega) (by omega)]
  refine Sp.go 2 (g := (13, [(2, .int (nI (max a0 T0))), (0, .ref 0), (1, .ref (n + 23))], [.ref (n + 23)])) rfl ?_
  refine Sp.get (v := .int (nI e)) rfl hp rfl ?_
  refine Sp.go 5 (g := (22, [(4, .int (nI (max a0 T0))), (3, .int ((nI e) - (nI (max a0 T0)))), (2, .int (nI (max a0 T0))), (0, .ref 0), (1, .ref (n + 23))], [])) rfl ?_
  refine r_back_loop (lo := max a0 T0) he hN (e - max a0 T0) (max a0 T0) w (Nat.le_refl _) (by omega) (by omega) hp hn (fun x => ?_)
  refine Sp.go 2 (g := (64, [(4, .int (x)), (3, .int (nI e - nI (max a0 T0))), (2, .int (nI (max a0 T0))), (0, .ref 0), (1, .ref (n + 23))], [.ref (n + 23), .ref (n + 23)])) rfl ?_
  refine Sp.get (v := .int (nI a0)) rfl hp rfl ?_
  refine Sp.go 1 (g := (68, [(4, .int (x)), (3, .int (nI e - nI (max a0 T0))), (2, .int (nI (max a0 T0))), (0, .ref 0), (1, .ref (n + 23))], [.ref 0, .int (nI a0), .ref (n + 23)])) rfl ?_
  refine Sp.get (v := .int (nI T0)) rfl rfl (by rw [← hnow]; rfl) ?_
  refine Sp.icmp rfl (fun (h1 : (nI a0 : Int32) ≤ (nI T0 : Int32)) => ?_) (fun (h1 : ¬ ((nI a0 : Int32) ≤ (nI T0 : Int32))) => ?_)
  · skip
    refine Sp.go 1 (g := (79, [(4, .int (x)), (3, .int (nI e - nI (max a0 T0))), (2, .int (nI (max a0 T0))), (0, .ref 0), (1, .ref (n + 23))], [.ref 0, .ref (n + 23)])) rfl ?_
    refine Sp.get (v := .int (nI T0)) rfl rfl (by rw [← hnow]; rfl) ?_
    refine Sp.pl rfl hp (Nat.le_of_ble_eq_true rfl) rfl ?_
    refine Sp.go 1 (g := (86, [(4, .int (x)), (3, .int (nI e - nI (max a0 T0))), (2, .int (nI (max a0 T0))), (0, .ref 0), (1, .ref (n + 23))], [.int (nI e - nI (max a0 T0))])) rfl ?_
    refine Sp.iret rfl (Or.inl rfl) ?_
    rw [if_neg (show ¬ T0 < a0 from fun q => absurd ((nI_le' (by omega) (by omega)).mp h1) (by omega))] at hq; exact hq
  · skip
    refine Sp.go 2 (g := (82, [(4, .int (x)), (3, .int (nI e - nI (max a0 T0))), (2, .int (nI (max a0 T0))), (0, .ref 0), (1, .ref (n + 23))], [.int (-1), .ref (n + 23)])) rfl ?_
    refine Sp.pl rfl hp (Nat.le_of_ble_eq_true rfl) rfl ?_
    refine Sp.go 1 (g := (86, [(4, .int (x)), (3, .int (nI e - nI (max a0 T0))), (2, .int (nI (max a0 T0))), (0, .ref 0), (1, .ref (n + 23))], [.int (nI e - nI (max a0 T0))])) rfl ?_
    refine Sp.iret rfl (Or.inl rfl) ?_
    rw [if_pos (show T0 < a0 from Nat.lt_of_not_le fun q => h1 ((nI_le' (by omega) (by omega)).mpr q))] at hq; exact hq
theorem r_bookAnew_none {X : mX} {C S : Nat} {Q : Outcome → mM → Prop} {w : mWd} {n a0 T0 g a : Nat} {l f : Int32} {nd : Nat → Int32} (ha0 : a0 < 64) (hT : T0 < 64) (hnow : w.f 4 = nI T0) (hp : w.d n = some (.inr (1, [.int (nI g), .int (nI a0), .ref (n + 24), .int l, .int f]))) (hn : w.d (n + 1) = some (.inl (0, 65, .inl nd))) (hg : g < 8) (ha : a < 8) (hsrc : nd (max a0 T0) = nI a) (ho : w_end w a (max a0 T0) g = none) (hq : Q (.returned (some (.int 0))) (mw w)) : Sp X 51 5 119 C S (0, [(0, .ref 0), (1, .ref (n + 23))], []) (mw w) Q := by
  refine Sp.go 1 (g := (1, [(0, .ref 0), (1, .ref (n + 23))], [.ref (n + 23)])) rfl ?_
  refine Sp.get (v := .int (nI a0)) rfl hp rfl ?_
  refine Sp.go 1 (g := (5, [(0, .ref 0), (1, .ref (n + 23))], [.ref 0, .int (nI a0)])) rfl ?_
  refine Sp.get (v := .int (nI T0)) rfl rfl (by rw [← hnow]; rfl) ?_
  refine Sp.max rfl (by decide) (Nat.le_of_ble_eq_true rfl) ?_
  rw [p_max (by omega) (by omega)]
  refine Sp.go 2 (g := (13, [(2, .int (nI (max a0 T0))), (0, .ref 0), (1, .ref (n + 23))], [.ref 0])) rfl ?_
  refine Sp.get (v := .ref 6) rfl rfl rfl ?_
  refine Sp.go 1 (g := (17, [(2, .int (nI (max a0 T0))), (0, .ref 0), (1, .ref (n + 23))], [.ref 0, .ref 6])) rfl ?_
  refine Sp.get (v := .ref 1) rfl rfl rfl ?_
  refine Sp.go 1 (g := (21, [(2, .int (nI (max a0 T0))), (0, .ref 0), (1, .ref (n + 23))], [.ref (n + 23), .ref 1, .ref 6])) rfl ?_
  refine Sp.get (v := .ref (n + 24)) rfl hp rfl ?_
  refine Sp.go 1 (g := (25, [(2, .int (nI (max a0 T0))), (0, .ref 0), (1, .ref (n + 23))], [.int (nI (max a0 T0)), .ref (n + 24), .ref 1, .ref 6])) rfl ?_
  refine Sp.iald (f := nd) (j := max a0 T0) rfl hn (m_ix_of (by simp only [nI, Int32.ofNat_add, Int32.ofNat_mul] <;> rfl) (by omega) (by omega)) ?_
  rw [hsrc]
  refine Sp.go 2 (g := (28, [(2, .int (nI (max a0 T0))), (0, .ref 0), (1, .ref (n + 23))], [.ref (n + 23), .int (nI (max a0 T0)), .int (nI a), .ref 1, .ref 6])) rfl ?_
  refine Sp.get (v := .int (nI g)) rfl hp rfl ?_
  refine Sp.vr (some (.int (-1))) (mw (w)) (k' := 20) (F' := 4) (N' := 94) (C' := 0) (S' := 0) (vs := [.ref 1, .int (nI a), .int (nI (max a0 T0)), .int (nI g)]) (st := []) rfl rfl rfl rfl (Nat.le_of_ble_eq_true rfl) (Nat.le_of_ble_eq_true rfl) (by decide) (by decide) (Nat.zero_le _) (Nat.zero_le _) (fun Q' h => f_seek_none (by omega) hg ho h) ?_
  refine Sp.go 3 (g := (37, [(3, .int (-1)), (2, .int (nI (max a0 T0))), (0, .ref 0), (1, .ref (n + 23))], [.int (-1), .int (-1)])) rfl ?_
  refine Sp.icmp rfl (fun u1 => absurd u1 (fun q => q rfl)) (fun u1 => ?_)
  refine Sp.go 1 (g := (41, [(3, .int (-1)), (2, .int (nI (max a0 T0))), (0, .ref 0), (1, .ref (n + 23))], [.int 0])) rfl ?_
  refine Sp.iret rfl (Or.inr ⟨rfl, Or.inl rfl⟩) ?_
  exact hq
theorem r_bookAnew_some {X : mX} {C S : Nat} {Q : Outcome → mM → Prop} {w : mWd} {n a0 T0 g a : Nat} {l f : Int32} {nd : Nat → Int32} (ha0 : a0 < 64) (hT : T0 < 64) (hnow : w.f 4 = nI T0) (hp : w.d n = some (.inr (1, [.int (nI g), .int (nI a0), .ref (n + 24), .int l, .int f]))) (hn : w.d (n + 1) = some (.inl (0, 65, .inl nd))) (hg : g < 8) (ha : a < 8) (hsrc : nd (max a0 T0) = nI a) {e : Nat} {N : Nat → Nat} (ho : w_end w a (max a0 T0) g = some e) (hN : ∀ i, max a0 T0 ≤ i → i ≤ e → (w_sought w a (max a0 T0) e g).a 7 i = nI (N i) ∧ N i < 8) (hq : Q (.returned (some (.int 1))) (mw (r_giveW (w_sought w a (max a0 T0) e g) n (max a0 T0) e (nI g) (nI a0) f nd N))) : Sp X 51 5 119 C S (0, [(0, .ref 0), (1, .ref (n + 23))], []) (mw w) Q := by
  have he := f_soon_in _ _ _ _ _ _ ho
  refine Sp.go 1 (g := (1, [(0, .ref 0), (1, .ref (n + 23))], [.ref (n + 23)])) rfl ?_
  refine Sp.get (v := .int (nI a0)) rfl hp rfl ?_
  refine Sp.go 1 (g := (5, [(0, .ref 0), (1, .ref (n + 23))], [.ref 0, .int (nI a0)])) rfl ?_
  refine Sp.get (v := .int (nI T0)) rfl rfl (by rw [← hnow]; rfl) ?_
  refine Sp.max rfl (by decide) (Nat.le_of_ble_eq_true rfl) ?_
  rw [p_max (by omega) (by omega)]
  refine Sp.go 2 (g := (13, [(2, .int (nI (max a0 T0))), (0, .ref 0), (1, .ref (n + 23))], [.ref 0])) rfl ?_
  refine Sp.get (v := .ref 6) rfl rfl rfl ?_
  refine Sp.go 1 (g := (17, [(2, .int (nI (max a0 T0))), (0, .ref 0), (1, .ref (n + 23))], [.ref 0, .ref 6])) rfl ?_
  refine Sp.get (v := .ref 1) rfl rfl rfl ?_
  refine Sp.go 1 (g := (21, [(2, .int (nI (max a0 T0))), (0, .ref 0), (1, .ref (n + 23))], [.ref (n + 23), .ref 1, .ref 6])) rfl ?_
  refine Sp.get (v := .ref (n + 24)) rfl hp rfl ?_
  refine Sp.go 1 (g := (25, [(2, .int (nI (max a0 T0))), (0, .ref 0), (1, .ref (n + 23))], [.int (nI (max a0 T0)), .ref (n + 24), .ref 1, .ref 6])) rfl ?_
  refine Sp.iald (f := nd) (j := max a0 T0) rfl hn (m_ix_of (by simp only [nI, Int32.ofNat_add, Int32.ofNat_mul] <;> rfl) (by omega) (by omega)) ?_
  rw [hsrc]
  refine Sp.go 2 (g := (28, [(2, .int (nI (max a0 T0))), (0, .ref 0), (1, .ref (n + 23))], [.ref (n + 23), .int (nI (max a0 T0)), .int (nI a), .ref 1, .ref 6])) rfl ?_
  refine Sp.get (v := .int (nI g)) rfl hp rfl ?_
  refine Sp.vr (some (.int (nI e))) (mw ((w_sought w a (max a0 T0) e g))) (k' := 20) (F' := 4) (N' := 94) (C' := 0) (S' := 0) (vs := [.ref 1, .int (nI a), .int (nI (max a0 T0)), .int (nI g)]) (st := []) rfl rfl rfl rfl (Nat.le_of_ble_eq_true rfl) (Nat.le_of_ble_eq_true rfl) (by decide) (by decide) (Nat.zero_le _) (Nat.zero_le _) (fun Q' h => f_seek_some ha (by omega) hg ho h) ?_
  refine Sp.go 3 (g := (37, [(3, .int (nI e)), (2, .int (nI (max a0 T0))), (0, .ref 0), (1, .ref (n + 23))], [.int (-1), .int (nI e)])) rfl ?_
  refine Sp.icmp rfl (fun u1 => ?_) (fun u1 => absurd (f_ne1 (by omega)) u1)
  refine Sp.go 4 (g := (46, [(3, .int (nI e)), (2, .int (nI (max a0 T0))), (0, .ref 0), (1, .ref (n + 23))], [.int (nI e), .int (nI (max a0 T0)), .ref (n + 23), .ref 0])) rfl ?_
  refine Sp.vr none (mw (r_giveW (w_sought w a (max a0 T0) e g) n (max a0 T0) e (nI g) (nI a0) f nd N)) (k' := 48) (F' := 2) (N' := 44) (C' := 0) (S' := 0) (vs := [.ref (n + 23), .int (nI (max a0 T0)), .int (nI e)]) (st := []) rfl rfl rfl rfl (Nat.le_of_ble_eq_true rfl) (Nat.le_of_ble_eq_true rfl) (by decide) (by decide) (Nat.zero_le _) (Nat.zero_le _) (fun Q' h => r_give (N := N) (by omega) (by omega) hp hn hN h) ?_
  refine Sp.go 1 (g := (50, [(3, .int (nI e)), (2, .int (nI (max a0 T0))), (0, .ref 0), (1, .ref (n + 23))], [.int 1])) rfl ?_
  refine Sp.iret rfl (Or.inr ⟨rfl, Or.inr rfl⟩) ?_
  exact hq
