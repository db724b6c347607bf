/-! The network's loops. Rows laid by wip/gen/net2.py. -/
def m_any (p : Nat → Bool) : Nat → Nat → Bool
  | _, 0 => false
  | t, d + 1 => p t || m_any p (t + 1) d
theorem n_iow_loop {X : mX} {C S : Nat} {Q : Outcome → mM → Prop} {w : mWd} {a b e : Nat} {v : Int32} (ha : a < 8) (hb : b < 8) (he : e ≤ 64) : ∀ (d t : Nat), t + d = e → Q (.returned (some (.int (m_b2 (m_any (fun t => bt (w.a 3 (t * 8 + a)) b) t d))))) (mw w) → Sp X 5 1 21 C S (3, [(5, .int (nI t)), (0, .ref 1), (1, .int (nI a)), (2, .int (nI b)), (3, .int (v)), (4, .int (nI e))], []) (mw w) Q := by
  intro d
  induction d with
  | zero =>
    intro t  ht hq
    refine Sp.go 2 (g := (7, [(5, .int (nI t)), (0, .ref 1), (1, .int (nI a)), (2, .int (nI b)), (3, .int (v)), (4, .int (nI e))], [.int (nI e), .int (nI t)])) rfl ?_
    refine Sp.icmp rfl (fun u1 => ?_) (fun u1 => absurd ((nI_le' (by omega) (by omega)).mpr (by omega)) u1)
    refine Sp.go 1 (g := (37, [(5, .int (nI t)), (0, .ref 1), (1, .int (nI a)), (2, .int (nI b)), (3, .int (v)), (4, .int (nI e))], [.int 0])) rfl ?_
    refine Sp.iret rfl (Or.inr ⟨rfl, Or.inl rfl⟩) ?_
    exact hq
  | succ d ih =>
    intro t  ht hq
    refine Sp.go 2 (g := (7, [(5, .int (nI t)), (0, .ref 1), (1, .int (nI a)), (2, .int (nI b)), (3, .int (v)), (4, .int (nI e))], [.int (nI e), .int (nI t)])) rfl ?_
    refine Sp.icmp rfl (fun u1 => absurd u1 (fun q => absurd ((nI_le' (by omega) (by omega)).mp q) (by omega))) (fun u1 => ?_)
    refine Sp.go 1 (g := (11, [(5, .int (nI t)), (0, .ref 1), (1, .int (nI a)), (2, .int (nI b)), (3, .int (v)), (4, .int (nI e))], [.ref 1])) rfl ?_
    refine Sp.get (v := .ref 3) rfl rfl rfl ?_
    refine Sp.go 2 (g := (17, [(5, .int (nI t)), (0, .ref 1), (1, .int (nI a)), (2, .int (nI b)), (3, .int (v)), (4, .int (nI e))], [.int (nI t), .int (nI a), .ref 3])) rfl ?_
    refine Sp.sr (some (.int ((nI t) * 8 + (nI a)))) (mw (w)) (k' := 1) (F' := 0) (N' := 0) (C' := 0) (S' := 0) (vs := [.int (nI a), .int (nI t)]) (st := [.ref 3]) rfl (by decide) rfl (Nat.le_of_ble_eq_true rfl) (Nat.le_of_ble_eq_true rfl) (by decide) (by decide) (Nat.zero_le _) (Nat.zero_le _) (fun Q' h => n_cell h) ?_
    refine Sp.iald (f := w.a 3) (j := t * 8 + a) rfl rfl (m_ix_of (by simp only [nI, Int32.ofNat_add, Int32.ofNat_mul] <;> rfl) (by omega) (by omega)) ?_
    refine Sp.go 1 (g := (22, [(5, .int (nI t)), (0, .ref 1), (1, .int (nI a)), (2, .int (nI b)), (3, .int (v)), (4, .int (nI e))], [.int (nI b), .int (w.a 3 (t * 8 + a))])) rfl ?_
    refine Sp.sr (some (.int (m_b2 (bt (w.a 3 (t * 8 + a)) b)))) (mw (w)) (k' := 44) (F' := 0) (N' := 0) (C' := 0) (S' := 0) (vs := [.int (w.a 3 (t * 8 + a)), .int (nI b)]) (st := []) rfl (by decide) rfl (Nat.le_of_ble_eq_true rfl) (Nat.le_of_ble_eq_true rfl) (by decide) (by decide) (Nat.zero_le _) (Nat.zero_le _) (fun Q' h => n_inSet (by omega) h) ?_
    refine Sp.ifb rfl (fun h2 => ?_) (fun h2 => ?_)
    · skip
      refine Sp.go 2 (g := (3, [(5, .int (nI t + 1)), (0, .ref 1), (1, .int (nI a)), (2, .int (nI b)), (3, .int (v)), (4, .int (nI e))], [])) rfl ?_
      rw [← nI_succ]
      refine ih (t + 1) (by omega) ?_
      simp only [m_any, h2, Bool.false_or] at hq
      exact hq
    · skip
      refine Sp.go 1 (g := (29, [(5, .int (nI t)), (0, .ref 1), (1, .int (nI a)), (2, .int (nI b)), (3, .int (v)), (4, .int (nI e))], [.int 1])) rfl ?_
      refine Sp.iret rfl (Or.inr ⟨rfl, Or.inr rfl⟩) ?_
      simp only [m_any, h2, Bool.true_or] at hq; exact hq
theorem n_isOpenWithin {X : mX} {C S : Nat} {Q : Outcome → mM → Prop} {w : mWd} {a b s e : Nat} (ha : a < 8) (hb : b < 8) (hs : s ≤ e) (he : e ≤ 64) (hq : Q (.returned (some (.int (m_b2 (m_any (fun t => bt (w.a 3 (t * 8 + a)) b) s (e - s)))))) (mw w)) : Sp X 5 1 21 C S (0, [(0, .ref 1), (1, .int (nI a)), (2, .int (nI b)), (3, .int (nI s)), (4, .int (nI e))], []) (mw w) Q := by
  refine Sp.go 2 (g := (3, [(5, .int (nI s)), (0, .ref 1), (1, .int (nI a)), (2, .int (nI b)), (3, .int (nI s)), (4, .int (nI e))], [])) rfl ?_
  exact n_iow_loop ha hb he (e - s) s (by omega) hq
def n_mk1 (op : Nat → Int32) (a b t : Nat) : Nat → Int32 := upd (upd op (t * 8 + a) (op (t * 8 + a) ||| ((1 : Int32) <<< (nI b &&& 31)))) (t * 8 + b) (upd op (t * 8 + a) (op (t * 8 + a) ||| ((1 : Int32) <<< (nI b &&& 31))) (t * 8 + b) ||| ((1 : Int32) <<< (nI a &&& 31)))
def n_mk (a b : Nat) : Nat → Nat → (Nat → Int32) → Nat → Int32
  | _, 0, op => op
  | t, d + 1, op => n_mk a b (t + 1) d (n_mk1 op a b t)
theorem n_mk_loop {X : mX} {C S : Nat} {Q : Outcome → mM → Prop} {a b e : Nat} {v : Int32} (ha : a < 8) (hb : b < 8) (he : e ≤ 64) : ∀ (d t : Nat) (w : mWd), t + d = e → Q (.returned none) (mw ((w.sa 3 (n_mk a b t d (w.a 3))).sf 1 (w.f 1 + 1))) → Sp X 6 1 21 C S (3, [(5, .int (nI t)), (0, .ref 1), (1, .int (nI a)), (2, .int (nI b)), (3, .int (v)), (4, .int (nI e))], []) (mw w) Q := by
  intro d
  induction d with
  | zero =>
    intro t w ht hq
    refine Sp.go 2 (g := (7, [(5, .int (nI t)), (0, .ref 1), (1, .int (nI a)), (2, .int (nI b)), (3, .int (v)), (4, .int (nI e))], [.int (nI e), .int (nI t)])) rfl ?_
    refine Sp.icmp rfl (fun u1 => ?_) (fun u1 => absurd ((nI_le' (by omega) (by omega)).mpr (by omega)) u1)
    refine Sp.go 2 (g := (52, [(5, .int (nI t)), (0, .ref 1), (1, .int (nI a)), (2, .int (nI b)), (3, .int (v)), (4, .int (nI e))], [.ref 1, .ref 1])) rfl ?_
    refine Sp.get (v := .int (w.f 1)) rfl rfl rfl ?_
    refine Sp.go 2 (g := (57, [(5, .int (nI t)), (0, .ref 1), (1, .int (nI a)), (2, .int (nI b)), (3, .int (v)), (4, .int (nI e))], [.int ((w.f 1) + 1), .ref 1])) rfl ?_
    refine Sp.pf1 rfl ?_
    refine Sp.vret rfl rfl ?_
    simp only [n_mk, mWd.sa_self] at hq; exact hq
  | succ d ih =>
    intro t w ht hq
    refine Sp.go 2 (g := (7, [(5, .int (nI t)), (0, .ref 1), (1, .int (nI a)), (2, .int (nI b)), (3, .int (v)), (4, .int (nI e))], [.int (nI e), .int (nI t)])) rfl ?_
    refine Sp.icmp rfl (fun u1 => absurd u1 (fun q => absurd ((nI_le' (by omega) (by omega)).mp q) (by omega))) (fun u1 => ?_)
    refine Sp.go 1 (g := (11, [(5, .int (nI t)), (0, .ref 1), (1, .int (nI a)), (2, .int (nI b)), (3, .int (v)), (4, .int (nI e))], [.ref 1])) rfl ?_
    refine Sp.get (v := .ref 3) rfl rfl rfl ?_
    refine Sp.go 2 (g := (17, [(5, .int (nI t)), (0, .ref 1), (1, .int (nI a)), (2, .int (nI b)), (3, .int (v)), (4, .int (nI e))], [.int (nI t), .int (nI a), .ref 3])) rfl ?_
    refine Sp.sr (some (.int ((nI t) * 8 + (nI a)))) (mw (w)) (k' := 1) (F' := 0) (N' := 0) (C' := 0) (S' := 0) (vs := [.int (nI a), .int (nI t)]) (st := [.ref 3]) rfl (by decide) rfl (Nat.le_of_ble_eq_true rfl) (Nat.le_of_ble_eq_true rfl) (by decide) (by decide) (Nat.zero_le _) (Nat.zero_le _) (fun Q' h => n_cell h) ?_
    refine Sp.go 1 (g := (21, [(5, .int (nI t)), (0, .ref 1), (1, .int (nI a)), (2, .int (nI b)), (3, .int (v)), (4, .int (nI e))], [.int ((nI t) * 8 + (nI a)), .ref 3, .int ((nI t) * 8 + (nI a)), .ref 3])) rfl ?_
    refine Sp.iald (f := w.a 3) (j := t * 8 + a) rfl rfl (m_ix_of (by simp only [nI, Int32.ofNat_add, Int32.ofNat_mul] <;> rfl) (by omega) (by omega)) ?_
    refine Sp.go 4 (g := (26, [(5, .int (nI t)), (0, .ref 1), (1, .int (nI a)), (2, .int (nI b)), (3, .int (v)), (4, .int (nI e))], [.int ((w.a 3 (t * 8 + a)) ||| ((1 : Int32) <<< ((nI b) &&& 31))), .int ((nI t) * 8 + (nI a)), .ref 3])) rfl ?_
    refine Sp.pa3 (j := t * 8 + a) rfl (m_ix_of (by simp only [nI, Int32.ofNat_add, Int32.ofNat_mul] <;> rfl) (by omega) (by omega)) ?_
    refine Sp.go 1 (g := (28, [(5, .int (nI t)), (0, .ref 1), (1, .int (nI a)), (2, .int (nI b)), (3, .int (v)), (4, .int (nI e))], [.ref 1])) rfl ?_
    refine Sp.get (v := .ref 3) rfl rfl rfl ?_
    refine Sp.go 2 (g := (34, [(5, .int (nI t)), (0, .ref 1), (1, .int (nI a)), (2, .int (nI b)), (3, .int (v)), (4, .int (nI e))], [.int (nI t), .int (nI b), .ref 3])) rfl ?_
    refine Sp.sr (some (.int ((nI t) * 8 + (nI b)))) (mw (w.sa 3 (upd (w.a 3) (t * 8 + a) ((w.a 3 (t * 8 + a)) ||| ((1 : Int32) <<< ((nI b) &&& 31)))))) (k' := 1) (F' := 0) (N' := 0) (C' := 0) (S' := 0) (vs := [.int (nI b), .int (nI t)]) (st := [.ref 3]) rfl (by decide) rfl (Nat.le_of_ble_eq_true rfl) (Nat.le_of_ble_eq_true rfl) (by decide) (by decide) (Nat.zero_le _) (Nat.zero_le _) (fun Q' h => n_cell h) ?_
    refine Sp.go 1 (g := (38, [(5, .int (nI t)), (0, .ref 1), (1, .int (nI a)), (2, .int (nI b)), (3, .int (v)), (4, .int (nI e))], [.int ((nI t) * 8 + (nI b)), .ref 3, .int ((nI t) * 8 + (nI b)), .ref 3])) rfl ?_
    refine Sp.iald (f := (upd (w.a 3) (t * 8 + a) ((w.a 3 (t * 8 + a)) ||| ((1 : Int32) <<< ((nI b) &&& 31))))) (j := t * 8 + b) rfl rfl (m_ix_of (by simp only [nI, Int32.ofNat_add, Int32.ofNat_mul] <;> rfl) (by omega) (by omega)) ?_
    refine Sp.go 4 (g := (43, [(5, .int (nI t)), (0, .ref 1), (1, .int (nI a)), (2, .int (nI b)), (3, .int (v)), (4, .int (nI e))], [.int (((upd (w.a 3) (t * 8 + a) ((w.a 3 (t * 8 + a)) ||| ((1 : Int32) <<< ((nI b) &&& 31)))) (t * 8 + b)) ||| ((1 : Int32) <<< ((nI a) &&& 31))), .int ((nI t) * 8 + (nI b)), .ref 3])) rfl ?_
    refine Sp.pa3 (j := t * 8 + b) rfl (m_ix_of (by simp only [nI, Int32.ofNat_add, Int32.ofNat_mul] <;> rfl) (by omega) (by omega)) ?_
    refine Sp.wd (w' := w.sa 3 (upd (upd (w.a 3) (t * 8 + a) ((w.a 3 (t * 8 + a)) ||| ((1 : Int32) <<< ((nI b) &&& 31)))) (t * 8 + b) (((upd (w.a 3) (t * 8 + a) ((w.a 3 (t * 8 + a)) ||| ((1 : Int32) <<< ((nI b) &&& 31)))) (t * 8 + b)) ||| ((1 : Int32) <<< ((nI a) &&& 31))))) (mWd.sa_sa ..) ?_
    refine Sp.go 2 (g := (3, [(5, .int (nI t + 1)), (0, .ref 1), (1, .int (nI a)), (2, .int (nI b)), (3, .int (v)), (4, .int (nI e))], [])) rfl ?_
    rw [← nI_succ]
    refine ih (t + 1) (w.sa 3 (upd (upd (w.a 3) (t * 8 + a) ((w.a 3 (t * 8 + a)) ||| ((1 : Int32) <<< ((nI b) &&& 31)))) (t * 8 + b) (((upd (w.a 3) (t * 8 + a) ((w.a 3 (t * 8 + a)) ||| ((1 : Int32) <<< ((nI b) &&& 31)))) (t * 8 + b)) ||| ((1 : Int32) <<< ((nI a) &&& 31))))) (by omega) ?_
    simp only [n_mk] at hq
    refine Eq.mp (congrArg (fun z => Q _ (mw z)) ?_) hq
    rw [mWd.sa_sa]
    rfl
theorem n_makeContact {X : mX} {C S : Nat} {Q : Outcome → mM → Prop} {w : mWd} {a b s e : Nat} (ha : a < 8) (hb : b < 8) (hs : s ≤ e) (he : e ≤ 64) (hq : Q (.returned none) (mw ((w.sa 3 (n_mk a b s (e - s) (w.a 3))).sf 1 (w.f 1 + 1)))) : Sp X 6 1 21 C S (0, [(0, .ref 1), (1, .int (nI a)), (2, .int (nI b)), (3, .int (nI s)), (4, .int (nI e))], []) (mw w) Q := by
  refine Sp.go 2 (g := (3, [(5, .int (nI s)), (0, .ref 1), (1, .int (nI a)), (2, .int (nI b)), (3, .int (nI s)), (4, .int (nI e))], [])) rfl ?_
  exact n_mk_loop ha hb he (e - s) s w (by omega) hq
def n_cl1 (op : Nat → Int32) (a b t : Nat) : Nat → Int32 := upd (upd op (t * 8 + a) (op (t * 8 + a) &&& (((1 : Int32) <<< (nI b &&& 31)) ^^^ -1))) (t * 8 + b) (upd op (t * 8 + a) (op (t * 8 + a) &&& (((1 : Int32) <<< (nI b &&& 31)) ^^^ -1)) (t * 8 + b) &&& (((1 : Int32) <<< (nI a &&& 31)) ^^^ -1))
def n_cl (a b : Nat) : Nat → Nat → (Nat → Int32) → Nat → Int32
  | _, 0, op => op
  | t, d + 1, op => n_cl a b (t + 1) d (n_cl1 op a b t)
theorem n_cl_loop {X : mX} {C S : Nat} {Q : Outcome → mM → Prop} {a b : Nat} {v : Int32} (ha : a < 8) (hb : b < 8) : ∀ (d t : Nat) (w : mWd), t + d = 64 → Q (.returned none) (mw (w.sa 3 (n_cl a b t d (w.a 3)))) → Sp X 7 1 21 C S (3, [(4, .int (nI t)), (0, .ref 1), (1, .int (nI a)), (2, .int (nI b)), (3, .int (v))], []) (mw w) Q := by
  intro d
  induction d with
  | zero =>
    intro t w ht hq
    refine Sp.go 2 (g := (7, [(4, .int (nI t)), (0, .ref 1), (1, .int (nI a)), (2, .int (nI b)), (3, .int (v))], [.int 64, .int (nI t)])) rfl ?_
    refine Sp.icmp rfl (fun u1 => ?_) (fun u1 => absurd ((nI_le' (b := t) (a := 64) (by omega) (by omega)).mpr (by omega)) u1)
    refine Sp.vret rfl rfl ?_
    simp only [n_cl, mWd.sa_self] at hq; exact hq
  | succ d ih =>
    intro t w ht hq
    refine Sp.go 2 (g := (7, [(4, .int (nI t)), (0, .ref 1), (1, .int (nI a)), (2, .int (nI b)), (3, .int (v))], [.int 64, .int (nI t)])) rfl ?_
    refine Sp.icmp rfl (fun u1 => absurd u1 (fun q => absurd ((nI_le' (b := t) (a := 64) (by omega) (by omega)).mp q) (by omega))) (fun u1 => ?_)
    refine Sp.go 1 (g := (11, [(4, .int (nI t)), (0, .ref 1), (1, .int (nI a)), (2, .int (nI b)), (3, .int (v))], [.ref 1])) rfl ?_
    refine Sp.get (v := .ref 3) rfl rfl rfl ?_
    refine Sp.go 2 (g := (17, [(4, .int (nI t)), (0, .ref 1), (1, .int (nI a)), (2, .int (nI b)), (3, .int (v))], [.int (nI t), .int (nI a), .ref 3])) rfl ?_
    refine Sp.sr (some (.int ((nI t) * 8 + (nI a)))) (mw (w)) (k' := 1) (F' := 0) (N' := 0) (C' := 0) (S' := 0) (vs := [.int (nI a), .int (nI t)]) (st := [.ref 3]) rfl (by decide) rfl (Nat.le_of_ble_eq_true rfl) (Nat.le_of_ble_eq_true rfl) (by decide) (by decide) (Nat.zero_le _) (Nat.zero_le _) (fun Q' h => n_cell h) ?_
    refine Sp.go 1 (g := (21, [(4, .int (nI t)), (0, .ref 1), (1, .int (nI a)), (2, .int (nI b)), (3, .int (v))], [.int ((nI t) * 8 + (nI a)), .ref 3, .int ((nI t) * 8 + (nI a)), .ref 3])) rfl ?_
    refine Sp.iald (f := w.a 3) (j := t * 8 + a) rfl rfl (m_ix_of (by simp only [nI, Int32.ofNat_add, Int32.ofNat_mul] <;> rfl) (by omega) (by omega)) ?_
    refine Sp.go 6 (g := (28, [(4, .int (nI t)), (0, .ref 1), (1, .int (nI a)), (2, .int (nI b)), (3, .int (v))], [.int ((w.a 3 (t * 8 + a)) &&& (((1 : Int32) <<< ((nI b) &&& 31)) ^^^ (-1))), .int ((nI t) * 8 + (nI a)), .ref 3])) rfl ?_
    refine Sp.pa3 (j := t * 8 + a) rfl (m_ix_of (by simp only [nI, Int32.ofNat_add, Int32.ofNat_mul] <;> rfl) (by omega) (by omega)) ?_
    refine Sp.go 1 (g := (30, [(4, .int (nI t)), (0, .ref 1), (1, .int (nI a)), (2, .int (nI b)), (3, .int (v))], [.ref 1])) rfl ?_
    refine Sp.get (v := .ref 3) rfl rfl rfl ?_
    refine Sp.go 2 (g := (36, [(4, .int (nI t)), (0, .ref 1), (1, .int (nI a)), (2, .int (nI b)), (3, .int (v))], [.int (nI t), .int (nI b), .ref 3])) rfl ?_
    refine Sp.sr (some (.int ((nI t) * 8 + (nI b)))) (mw (w.sa 3 (upd (w.a 3) (t * 8 + a) ((w.a 3 (t * 8 + a)) &&& (((1 : Int32) <<< ((nI b) &&& 31)) ^^^ (-1)))))) (k' := 1) (F' := 0) (N' := 0) (C' := 0) (S' := 0) (vs := [.int (nI b), .int (nI t)]) (st := [.ref 3]) rfl (by decide) rfl (Nat.le_of_ble_eq_true rfl) (Nat.le_of_ble_eq_true rfl) (by decide) (by decide) (Nat.zero_le _) (Nat.zero_le _) (fun Q' h => n_cell h) ?_
    refine Sp.go 1 (g := (40, [(4, .int (nI t)), (0, .ref 1), (1, .int (nI a)), (2, .int (nI b)), (3, .int (v))], [.int ((nI t) * 8 + (nI b)), .ref 3, .int ((nI t) * 8 + (nI b)), .ref 3])) rfl ?_
    refine Sp.iald (f := (upd (w.a 3) (t * 8 + a) ((w.a 3 (t * 8 + a)) &&& (((1 : Int32) <<< ((nI b) &&& 31)) ^^^ (-1))))) (j := t * 8 + b) rfl rfl (m_ix_of (by simp only [nI, Int32.ofNat_add, Int32.ofNat_mul] <;> rfl) (by omega) (by omega)) ?_
    refine Sp.go 6 (g := (47, [(4, .int (nI t)), (0, .ref 1), (1, .int (nI a)), (2, .int (nI b)), (3, .int (v))], [.int (((upd (w.a 3) (t * 8 + a) ((w.a 3 (t * 8 + a)) &&& (((1 : Int32) <<< ((nI b) &&& 31)) ^^^ (-1)))) (t * 8 + b)) &&& (((1 : Int32) <<< ((nI a) &&& 31)) ^^^ (-1))), .int ((nI t) * 8 + (nI b)), .ref 3])) rfl ?_
    refine Sp.pa3 (j := t * 8 + b) rfl (m_ix_of (by simp only [nI, Int32.ofNat_add, Int32.ofNat_mul] <;> rfl) (by omega) (by omega)) ?_
    refine Sp.wd (w' := w.sa 3 (upd (upd (w.a 3) (t * 8 + a) ((w.a 3 (t * 8 + a)) &&& (((1 : Int32) <<< ((nI b) &&& 31)) ^^^ (-1)))) (t * 8 + b) (((upd (w.a 3) (t * 8 + a) ((w.a 3 (t * 8 + a)) &&& (((1 : Int32) <<< ((nI b) &&& 31)) ^^^ (-1)))) (t * 8 + b)) &&& (((1 : Int32) <<< ((nI a) &&& 31)) ^^^ (-1))))) (mWd.sa_sa ..) ?_
    refine Sp.go 2 (g := (3, [(4, .int (nI t + 1)), (0, .ref 1), (1, .int (nI a)), (2, .int (nI b)), (3, .int (v))], [])) rfl ?_
    rw [← nI_succ]
    refine ih (t + 1) (w.sa 3 (upd (upd (w.a 3) (t * 8 + a) ((w.a 3 (t * 8 + a)) &&& (((1 : Int32) <<< ((nI b) &&& 31)) ^^^ (-1)))) (t * 8 + b) (((upd (w.a 3) (t * 8 + a) ((w.a 3 (t * 8 + a)) &&& (((1 : Int32) <<< ((nI b) &&& 31)) ^^^ (-1)))) (t * 8 + b)) &&& (((1 : Int32) <<< ((nI a) &&& 31)) ^^^ (-1))))) (by omega) ?_
    simp only [n_cl] at hq
    refine Eq.mp (congrArg (fun z => Q _ (mw z)) ?_) hq
    rw [mWd.sa_sa]
    rfl
theorem n_closeFrom {X : mX} {C S : Nat} {Q : Outcome → mM → Prop} {w : mWd} {a b s : Nat} (ha : a < 8) (hb : b < 8) (hs : s ≤ 64) (hq : Q (.returned none) (mw (w.sa 3 (n_cl a b s (64 - s) (w.a 3))))) : Sp X 7 1 21 C S (0, [(0, .ref 1), (1, .int (nI a)), (2, .int (nI b)), (3, .int (nI s))], []) (mw w) Q := by
  refine Sp.go 2 (g := (3, [(4, .int (nI s)), (0, .ref 1), (1, .int (nI a)), (2, .int (nI b)), (3, .int (nI s))], [])) rfl ?_
  exact n_cl_loop ha hb (64 - s) s w (by omega) hq
