/-! The finder: seek. Rows laid by wip/gen/seek.py. -/
theorem f_soon_in (on : Nat → Nat → Int32) (g : Nat) : ∀ (d t : Nat) (r : Int32) (e : Nat), f_soon on g t d r = some e → t < e ∧ e ≤ t + d := by
  intro d
  induction d with
  | zero => intro t r e h; cases h
  | succ d ih =>
    intro t r e h
    unfold f_soon at h
    split at h
    · cases h; omega
    · have := ih _ _ _ h
      omega
/-- the steps that can be taken, by the sets of the network -/
def w_on (w : mWd) : Nat → Nat → Int32 := n_on (w.a 3) (w.a 4) (w.a 5) (w.a 2)
/-- the end of the best way, as the finder finds it -/
def w_end (w : mWd) (a s g : Nat) : Option Nat := f_soon (w_on w) g s (64 - s) ((1 : Int32) <<< (nI a &&& 31))
def w_lead (w : mWd) (s e g : Nat) : Nat → Int32 := f_lead (w_on w) s (e - s) (upd (w.a 8) e ((1 : Int32) <<< (nI g &&& 31)))
def w_way (w : mWd) (a s e g : Nat) : Nat → Int32 := f_walk (w_on w) (w_lead w s e g) s (e - s) a (upd (w.a 7) s (nI a))
/-- behind a search that found an end -/
def w_sought (w : mWd) (a s e g : Nat) : mWd := (w.sa 8 (w_lead w s e g)).sa 7 (w_way w a s e g)
theorem f_seek_none {X : mX} {C S : Nat} {Q : Outcome → mM → Prop} {w : mWd} {a s g : Nat} (hs : s < 64) (hg : g < 8) (ho : w_end w a s g = none) (hq : Q (.returned (some (.int (-1)))) (mw w)) : Sp X 20 4 94 C S (0, [(0, .ref 6), (1, .ref 1), (2, .int (nI a)), (3, .int (nI s)), (4, .int (nI g))], []) (mw w) Q := by
  refine Sp.go 4 (g := (5, [(0, .ref 6), (1, .ref 1), (2, .int (nI a)), (3, .int (nI s)), (4, .int (nI g))], [.int (nI g), .int (nI s), .int (nI a), .ref 1])) rfl ?_
  refine Sp.sr (some (.int (-1))) (mw (w)) (k' := 21) (F' := 3) (N' := 69) (C' := 0) (S' := 0) (vs := [.ref 1, .int (nI a), .int (nI s), .int (nI g)]) (st := []) rfl (by decide) rfl (Nat.le_of_ble_eq_true rfl) (Nat.le_of_ble_eq_true rfl) (by decide) (by decide) (Nat.zero_le _) (Nat.zero_le _) (fun Q' h => f_soonestEnd (by omega) (by omega) (by rw [show f_soon (n_on (w.a 3) (w.a 4) (w.a 5) (w.a 2)) g s (64 - s) ((1 : Int32) <<< (nI a &&& 31)) = none from ho]; exact h)) ?_
  refine Sp.go 3 (g := (13, [(5, .int (-1)), (0, .ref 6), (1, .ref 1), (2, .int (nI a)), (3, .int (nI s)), (4, .int (nI g))], [.int (-1), .int (-1)])) rfl ?_
  refine Sp.icmp rfl (fun u1 => ?_) (fun u1 => absurd rfl u1)
  refine Sp.go 1 (g := (37, [(5, .int (-1)), (0, .ref 6), (1, .ref 1), (2, .int (nI a)), (3, .int (nI s)), (4, .int (nI g))], [.int (-1)])) rfl ?_
  refine Sp.iret rfl (Or.inl rfl) ?_
  exact hq
theorem f_ne1 {n : Nat} (h : n < 2 ^ 31) : ¬ nI n = -1 := by
  intro q
  have := congrArg Int32.toInt q
  rw [nI_toInt h] at this
  have e : (-1 : Int32).toInt = -1 := by decide
  omega
theorem f_seek_some {X : mX} {C S : Nat} {Q : Outcome → mM → Prop} {w : mWd} {a s g e : Nat} (ha : a < 8) (hs : s < 64) (hg : g < 8) (ho : w_end w a s g = some e) (hq : Q (.returned (some (.int (nI e)))) (mw (w_sought w a s e g))) : Sp X 20 4 94 C S (0, [(0, .ref 6), (1, .ref 1), (2, .int (nI a)), (3, .int (nI s)), (4, .int (nI g))], []) (mw w) Q := by
  have he := f_soon_in _ _ _ _ _ _ ho
  refine Sp.go 4 (g := (5, [(0, .ref 6), (1, .ref 1), (2, .int (nI a)), (3, .int (nI s)), (4, .int (nI g))], [.int (nI g), .int (nI s), .int (nI a), .ref 1])) rfl ?_
  refine Sp.sr (some (.int (nI e))) (mw (w)) (k' := 21) (F' := 3) (N' := 69) (C' := 0) (S' := 0) (vs := [.ref 1, .int (nI a), .int (nI s), .int (nI g)]) (st := []) rfl (by decide) rfl (Nat.le_of_ble_eq_true rfl) (Nat.le_of_ble_eq_true rfl) (by decide) (by decide) (Nat.zero_le _) (Nat.zero_le _) (fun Q' h => f_soonestEnd (by omega) (by omega) (by rw [show f_soon (n_on (w.a 3) (w.a 4) (w.a 5) (w.a 2)) g s (64 - s) ((1 : Int32) <<< (nI a &&& 31)) = some e from ho]; exact h)) ?_
  refine Sp.go 3 (g := (13, [(5, .int (nI e)), (0, .ref 6), (1, .ref 1), (2, .int (nI a)), (3, .int (nI s)), (4, .int (nI g))], [.int (-1), .int (nI e)])) rfl ?_
  refine Sp.icmp rfl (fun u1 => absurd u1 (f_ne1 (by omega))) (fun u1 => ?_)
  refine Sp.go 5 (g := (23, [(5, .int (nI e)), (0, .ref 6), (1, .ref 1), (2, .int (nI a)), (3, .int (nI s)), (4, .int (nI g))], [.int (nI g), .int (nI e), .int (nI s), .ref 1, .ref 6])) rfl ?_
  refine Sp.vr none (mw (w.sa 8 (w_lead w s e g))) (k' := 23) (F' := 2) (N' := 45) (C' := 0) (S' := 0) (vs := [.ref 1, .int (nI s), .int (nI e), .int (nI g)]) (st := []) rfl rfl rfl rfl (Nat.le_of_ble_eq_true rfl) (Nat.le_of_ble_eq_true rfl) (by decide) (by decide) (Nat.zero_le _) (Nat.zero_le _) (fun Q' h => f_markLeading (by omega) (by omega) h) ?_
  refine Sp.go 5 (g := (32, [(5, .int (nI e)), (0, .ref 6), (1, .ref 1), (2, .int (nI a)), (3, .int (nI s)), (4, .int (nI g))], [.int (nI e), .int (nI s), .int (nI a), .ref 1, .ref 6])) rfl ?_
  refine Sp.vr none (mw (((w).sa 8 (w_lead w s e g)).sa 7 (w_way w a s e g))) (k' := 24) (F' := 2) (N' := 45) (C' := 0) (S' := 0) (vs := [.ref 1, .int (nI a), .int (nI s), .int (nI e)]) (st := []) rfl rfl rfl rfl (Nat.le_of_ble_eq_true rfl) (Nat.le_of_ble_eq_true rfl) (by decide) (by decide) (Nat.zero_le _) (Nat.zero_le _) (fun Q' h => f_walkT (by omega) (by omega) (by omega) h) ?_
  refine Sp.go 1 (g := (37, [(5, .int (nI e)), (0, .ref 6), (1, .ref 1), (2, .int (nI a)), (3, .int (nI s)), (4, .int (nI g))], [.int (nI e)])) rfl ?_
  refine Sp.iret rfl (Or.inl rfl) ?_
  exact hq
