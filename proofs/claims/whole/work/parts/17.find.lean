/-! The finder of ways. Rows laid by wip/gen/find.py. -/
theorem lv_pick_m (X : mX) (ls : List (Nat × Value)) (ks : List Nat) : lv_pick (m_lv X ls) ks = m_lv X (lv_pick ls ks) := by
  induction ks with
  | nil => rfl
  | cons k t ih =>
    unfold lv_pick m_lv at ih ⊢
    simp only [List.filterMap_cons, List.getElem?_map]
    cases ls[k]? with
    | none => simpa using ih
    | some q => simpa using ih
/-- fewer locals, in any order: by their places -/
theorem Sp.lsub {X : mX} {k F N C S pc : Nat} {ls ls' : List (Nat × Value)} {st : List Value} {M : mM} {Q : Outcome → mM → Prop} (ks : List Nat) (hl : lv_pick ls ks = ls') (kk : Sp X k F N C S (pc, ls', st) M Q) : Sp X k F N C S (pc, ls, st) M Q := by
  intro p e R s m args below meth c H locs cells slots mc ms la hC hF hN hc hs hmc hms hR hl0 hv
  exact kk p e R s m args below meth c H locs cells slots mc ms la hC hF hN hc hs hmc hms hR hl0 (lv_sub hv ks (by rw [lv_pick_m, hl]))
/-- the least node of a set, 7 where there is none below -/
def f_least (x : Int32) : Nat → Nat → Nat
  | n, 0 => n
  | n, d + 1 => if bt x n = true then n else f_least x (n + 1) d
theorem f_least_le (x : Int32) : ∀ d n, f_least x n d ≤ n + d := by
  intro d
  induction d with
  | zero => intro n; exact Nat.le_refl _
  | succ d ih =>
    intro n
    unfold f_least
    split
    · omega
    · have := ih (n + 1)
      omega
def f_all (on : Nat → Int32) (set : Int32) : Nat → Nat → Int32 → Int32
  | _, 0, acc => acc
  | n, d + 1, acc => f_all on set (n + 1) d (if bt set n = true then acc ||| on n else acc)
def f_soon (on : Nat → Nat → Int32) (g : Nat) : Nat → Nat → Int32 → Option Nat
  | _, 0, _ => none
  | t, d + 1, r => if bt (f_all (fun n => on n t) r 0 8 0) g = true then some (t + 1) else f_soon on g (t + 1) d (f_all (fun n => on n t) r 0 8 0)
def f_res (o : Option Nat) : Int32 := match o with
  | none => -1
  | some e => nI e
def f_set (on : Nat → Int32) (l : Int32) : Nat → Nat → Int32 → Int32
  | _, 0, acc => acc
  | n, d + 1, acc => f_set on l (n + 1) d (if on n &&& l = 0 then acc else acc ||| ((1 : Int32) <<< (nI n &&& 31)))
/-- the row of leading sets, from s + d - 1 down to s -/
def f_lead (on : Nat → Nat → Int32) (s : Nat) : Nat → (Nat → Int32) → Nat → Int32
  | 0, l => l
  | d + 1, l => f_lead on s d (upd l (s + d) (f_set (fun n => on n (s + d)) (l (s + d + 1)) 0 8 0))
def f_walk (on : Nat → Nat → Int32) (l : Nat → Int32) : Nat → Nat → Nat → (Nat → Int32) → Nat → Int32
  | _, 0, _, wy => wy
  | t, d + 1, n, wy => f_walk on l (t + 1) d (f_least (on n t &&& l (t + 1)) 0 7) (upd wy (t + 1) (nI (f_least (on n t &&& l (t + 1)) 0 7)))
theorem f_least_loop {X : mX} {C S : Nat} {Q : Outcome → mM → Prop} {x : Int32} {M : mM} : ∀ (d n : Nat), n + d = 7 → Q (.returned (some (.int (nI (f_least x n d))))) M → Sp X 25 1 21 C S (2, [(1, .int (nI n)), (0, .int (x))], []) M Q := by
  intro d
  induction d with
  | zero =>
    intro n hn hq
    refine Sp.go 2 (g := (5, [(1, .int (nI n)), (0, .int (x))], [.int 7, .int (nI n)])) rfl ?_
    refine Sp.icmp rfl (fun u1 => ?_) (fun u1 => absurd ((nI_le' (a := 7) (b := n) (by omega) (by omega)).mpr (by omega)) u1)
    refine Sp.go 1 (g := (23, [(1, .int (nI n)), (0, .int (x))], [.int (nI n)])) rfl ?_
    refine Sp.iret rfl (Or.inl rfl) ?_
    exact hq
  | succ d ih =>
    intro n hn hq
    unfold f_least at hq
    refine Sp.go 2 (g := (5, [(1, .int (nI n)), (0, .int (x))], [.int 7, .int (nI n)])) rfl ?_
    refine Sp.icmp rfl (fun u1 => absurd u1 (fun q => absurd ((nI_le' (a := 7) (b := n) (by omega) (by omega)).mp q) (by omega))) (fun u1 => ?_)
    refine Sp.go 2 (g := (10, [(1, .int (nI n)), (0, .int (x))], [.int (nI n), .int (x)])) rfl ?_
    refine Sp.sr (some (.int (m_b2 (bt (x) n)))) M (k' := 44) (F' := 0) (N' := 0) (C' := 0) (S' := 0) (vs := [.int (x), .int (nI n)]) (st := []) rfl (by decide) rfl (Nat.le_of_ble_eq_true rfl) (Nat.le_of_ble_eq_true rfl) (by decide) (by decide) (Nat.zero_le _) (Nat.zero_le _) (fun Q' h => n_inSet (by omega) h) ?_
    refine Sp.ifbn rfl (fun h2 => ?_) (fun h2 => ?_)
    · skip
      refine Sp.go 1 (g := (23, [(1, .int (nI n)), (0, .int (x))], [.int (nI n)])) rfl ?_
      refine Sp.iret rfl (Or.inl rfl) ?_
      rw [if_pos h2] at hq; exact hq
    · skip
      refine Sp.go 2 (g := (2, [(1, .int (nI n + 1)), (0, .int (x))], [])) rfl ?_
      rw [← nI_succ]
      refine ih (n + 1) (by omega) ?_
      rw [if_neg (by rw [h2]; decide)] at hq
      exact hq
theorem f_leastOf {X : mX} {C S : Nat} {Q : Outcome → mM → Prop} {x : Int32} {M : mM} (hq : Q (.returned (some (.int (nI (f_least x 0 7))))) M) : Sp X 25 1 21 C S (0, [(0, .int (x))], []) M Q := by
  refine Sp.go 2 (g := (2, [(1, .int 0), (0, .int (x))], [])) rfl ?_
  exact f_least_loop 7 0 rfl hq
theorem f_all_loop {X : mX} {C S : Nat} {Q : Outcome → mM → Prop} {w : mWd} {set : Int32} {t : Nat} (ht : t < 64) : ∀ (d n : Nat) (acc : Int32), n + d = 8 → Q (.returned (some (.int (f_all (fun n => n_on (w.a 3) (w.a 4) (w.a 5) (w.a 2) n t) set n d acc)))) (mw w) → Sp X 22 2 45 C S (5, [(4, .int (nI n)), (3, .int (acc)), (0, .ref 1), (1, .int (set)), (2, .int (nI t))], []) (mw w) Q := by
  intro d
  induction d with
  | zero =>
    intro n acc hn hq
    refine Sp.go 2 (g := (9, [(4, .int (nI n)), (3, .int (acc)), (0, .ref 1), (1, .int (set)), (2, .int (nI t))], [.int 8, .int (nI n)])) rfl ?_
    refine Sp.icmp rfl (fun u1 => ?_) (fun u1 => absurd ((nI_le' (a := 8) (b := n) (by omega) (by omega)).mpr (by omega)) u1)
    refine Sp.go 1 (g := (38, [(4, .int (nI n)), (3, .int (acc)), (0, .ref 1), (1, .int (set)), (2, .int (nI t))], [.int (acc)])) rfl ?_
    refine Sp.iret rfl (Or.inl rfl) ?_
    exact hq
  | succ d ih =>
    intro n acc hn hq
    unfold f_all at hq
    refine Sp.go 2 (g := (9, [(4, .int (nI n)), (3, .int (acc)), (0, .ref 1), (1, .int (set)), (2, .int (nI t))], [.int 8, .int (nI n)])) rfl ?_
    refine Sp.icmp rfl (fun u1 => absurd u1 (fun q => absurd ((nI_le' (a := 8) (b := n) (by omega) (by omega)).mp q) (by omega))) (fun u1 => ?_)
    refine Sp.go 2 (g := (15, [(4, .int (nI n)), (3, .int (acc)), (0, .ref 1), (1, .int (set)), (2, .int (nI t))], [.int (nI n), .int (set)])) rfl ?_
    refine Sp.sr (some (.int (m_b2 (bt (set) n)))) (mw (w)) (k' := 44) (F' := 0) (N' := 0) (C' := 0) (S' := 0) (vs := [.int (set), .int (nI n)]) (st := []) rfl (by decide) rfl (Nat.le_of_ble_eq_true rfl) (Nat.le_of_ble_eq_true rfl) (by decide) (by decide) (Nat.zero_le _) (Nat.zero_le _) (fun Q' h => n_inSet (by omega) h) ?_
    refine Sp.ifb rfl (fun h2 => ?_) (fun h2 => ?_)
    · skip
      refine Sp.go 2 (g := (5, [(4, .int (nI n + 1)), (3, .int (acc)), (0, .ref 1), (1, .int (set)), (2, .int (nI t))], [])) rfl ?_
      rw [← nI_succ]
      refine ih (n + 1) _ (by omega) ?_
      first | (rw [if_pos h2] at hq; exact hq) | (rw [if_neg (by rw [h2]; decide)] at hq; exact hq)
    · skip
      refine Sp.go 4 (g := (26, [(4, .int (nI n)), (3, .int (acc)), (0, .ref 1), (1, .int (set)), (2, .int (nI t))], [.int (nI t), .int (nI n), .ref 1, .int (acc)])) rfl ?_
      refine Sp.vr (some (.int (n_on (w.a 3) (w.a 4) (w.a 5) (w.a 2) n t))) (mw (w)) (k' := 11) (F' := 1) (N' := 21) (C' := 0) (S' := 0) (vs := [.int (nI n), .int (nI t)]) (st := [.int (acc)]) rfl rfl rfl rfl (Nat.le_of_ble_eq_true rfl) (Nat.le_of_ble_eq_true rfl) (by decide) (by decide) (Nat.zero_le _) (Nat.zero_le _) (fun Q' h => n_onward (by omega) (by omega) h) ?_
      refine Sp.go 4 (g := (5, [(4, .int (nI n + 1)), (3, .int (acc ||| (n_on (w.a 3) (w.a 4) (w.a 5) (w.a 2) n t))), (0, .ref 1), (1, .int (set)), (2, .int (nI t))], [])) rfl ?_
      rw [← nI_succ]
      refine ih (n + 1) _ (by omega) ?_
      first | (rw [if_pos h2] at hq; exact hq) | (rw [if_neg (by rw [h2]; decide)] at hq; exact hq)
theorem f_onwardOfAll {X : mX} {C S : Nat} {Q : Outcome → mM → Prop} {w : mWd} {set : Int32} {t : Nat} (ht : t < 64) (hq : Q (.returned (some (.int (f_all (fun n => n_on (w.a 3) (w.a 4) (w.a 5) (w.a 2) n t) set 0 8 0)))) (mw w)) : Sp X 22 2 45 C S (0, [(0, .ref 1), (1, .int (set)), (2, .int (nI t))], []) (mw w) Q := by
  refine Sp.go 4 (g := (5, [(4, .int 0), (3, .int 0), (0, .ref 1), (1, .int (set)), (2, .int (nI t))], [])) rfl ?_
  exact f_all_loop ht 8 0 0 rfl hq
theorem f_soon_loop {X : mX} {C S : Nat} {Q : Outcome → mM → Prop} {w : mWd} {v1 v2 : Int32} {g : Nat} (hg : g < 8) : ∀ (d t : Nat) (r : Int32), t + d = 64 → Q (.returned (some (.int (f_res (f_soon (n_on (w.a 3) (w.a 4) (w.a 5) (w.a 2)) g t d r))))) (mw w) → Sp X 21 3 69 C S (8, [(5, .int (nI t)), (4, .int (r)), (0, .ref 1), (1, .int (v1)), (2, .int (v2)), (3, .int (nI g))], []) (mw w) Q := by
  intro d
  induction d with
  | zero =>
    intro t r ht hq
    refine Sp.go 2 (g := (12, [(5, .int (nI t)), (4, .int (r)), (0, .ref 1), (1, .int (v1)), (2, .int (v2)), (3, .int (nI g))], [.int 64, .int (nI t)])) rfl ?_
    refine Sp.icmp rfl (fun u1 => ?_) (fun u1 => absurd ((nI_le' (a := 64) (b := t) (by omega) (by omega)).mpr (by omega)) u1)
    refine Sp.go 1 (g := (46, [(5, .int (nI t)), (4, .int (r)), (0, .ref 1), (1, .int (v1)), (2, .int (v2)), (3, .int (nI g))], [.int (-1)])) rfl ?_
    refine Sp.iret rfl (Or.inl rfl) ?_
    exact hq
  | succ d ih =>
    intro t r ht hq
    unfold f_soon at hq
    refine Sp.go 2 (g := (12, [(5, .int (nI t)), (4, .int (r)), (0, .ref 1), (1, .int (v1)), (2, .int (v2)), (3, .int (nI g))], [.int 64, .int (nI t)])) rfl ?_
    refine Sp.icmp rfl (fun u1 => absurd u1 (fun q => absurd ((nI_le' (a := 64) (b := t) (by omega) (by omega)).mp q) (by omega))) (fun u1 => ?_)
    refine Sp.go 3 (g := (20, [(5, .int (nI t)), (4, .int (r)), (0, .ref 1), (1, .int (v1)), (2, .int (v2)), (3, .int (nI g))], [.int (nI t), .int (r), .ref 1])) rfl ?_
    refine Sp.sr (some (.int (f_all (fun n => n_on (w.a 3) (w.a 4) (w.a 5) (w.a 2) n t) (r) 0 8 0))) (mw (w)) (k' := 22) (F' := 2) (N' := 45) (C' := 0) (S' := 0) (vs := [.ref 1, .int (r), .int (nI t)]) (st := []) rfl (by decide) rfl (Nat.le_of_ble_eq_true rfl) (Nat.le_of_ble_eq_true rfl) (by decide) (by decide) (Nat.zero_le _) (Nat.zero_le _) (fun Q' h => f_onwardOfAll (by omega) h) ?_
    refine Sp.go 3 (g := (28, [(4, .int (f_all (fun n => n_on (w.a 3) (w.a 4) (w.a 5) (w.a 2) n t) (r) 0 8 0)), (5, .int (nI t)), (0, .ref 1), (1, .int (v1)), (2, .int (v2)), (3, .int (nI g))], [.int (nI g), .int (f_all (fun n => n_on (w.a 3) (w.a 4) (w.a 5) (w.a 2) n t) (r) 0 8 0)])) rfl ?_
    refine Sp.sr (some (.int (m_b2 (bt (f_all (fun n => n_on (w.a 3) (w.a 4) (w.a 5) (w.a 2) n t) (r) 0 8 0) g)))) (mw (w)) (k' := 44) (F' := 0) (N' := 0) (C' := 0) (S' := 0) (vs := [.int (f_all (fun n => n_on (w.a 3) (w.a 4) (w.a 5) (w.a 2) n t) (r) 0 8 0), .int (nI g)]) (st := []) rfl (by decide) rfl (Nat.le_of_ble_eq_true rfl) (Nat.le_of_ble_eq_true rfl) (by decide) (by decide) (Nat.zero_le _) (Nat.zero_le _) (fun Q' h => n_inSet (by omega) h) ?_
    refine Sp.ifb rfl (fun h2 => ?_) (fun h2 => ?_)
    · skip
      refine Sp.go 2 (g := (8, [(5, .int (nI t + 1)), (4, .int (f_all (fun n => n_on (w.a 3) (w.a 4) (w.a 5) (w.a 2) n t) (r) 0 8 0)), (0, .ref 1), (1, .int (v1)), (2, .int (v2)), (3, .int (nI g))], [])) rfl ?_
      rw [← nI_succ]
      refine ih (t + 1) _ (by omega) ?_
      rw [if_neg (by rw [h2]; decide)] at hq
      exact hq
    · skip
      refine Sp.go 3 (g := (38, [(4, .int (f_all (fun n => n_on (w.a 3) (w.a 4) (w.a 5) (w.a 2) n t) (r) 0 8 0)), (5, .int (nI t)), (0, .ref 1), (1, .int (v1)), (2, .int (v2)), (3, .int (nI g))], [.int ((nI t) + 1)])) rfl ?_
      refine Sp.iret rfl (Or.inl rfl) ?_
      rw [if_pos h2] at hq; rw [show f_res (some (t + 1)) = nI t + 1 from nI_succ t] at hq; exact hq
theorem f_soonestEnd {X : mX} {C S : Nat} {Q : Outcome → mM → Prop} {w : mWd} {a s g : Nat} (hs : s ≤ 64) (hg : g < 8) (hq : Q (.returned (some (.int (f_res (f_soon (n_on (w.a 3) (w.a 4) (w.a 5) (w.a 2)) g s (64 - s) ((1 : Int32) <<< (nI a &&& 31))))))) (mw w)) : Sp X 21 3 69 C S (0, [(0, .ref 1), (1, .int (nI a)), (2, .int (nI s)), (3, .int (nI g))], []) (mw w) Q := by
  refine Sp.go 6 (g := (8, [(5, .int (nI s)), (4, .int ((1 : Int32) <<< ((nI a) &&& 31))), (0, .ref 1), (1, .int (nI a)), (2, .int (nI s)), (3, .int (nI g))], [])) rfl ?_
  exact f_soon_loop hg (64 - s) s _ (by omega) hq
theorem f_set_loop {X : mX} {C S : Nat} {Q : Outcome → mM → Prop} {w : mWd} {t s : Nat} {v3 v4 : Int32} (ht : t < 64) : ∀ (d n : Nat) (acc : Int32), n + d = 8 → Sp X 23 2 45 C S (70, [(7, .int (nI 8)), (6, .int (f_set (fun n => n_on (w.a 3) (w.a 4) (w.a 5) (w.a 2) n t) (w.a 8 (t + 1)) n d acc)), (5, .int (nI t)), (0, .ref 6), (1, .ref 1), (2, .int (nI s)), (3, .int (v3)), (4, .int (v4))], []) (mw w) Q → Sp X 23 2 45 C S (27, [(7, .int (nI n)), (6, .int (acc)), (5, .int (nI t)), (0, .ref 6), (1, .ref 1), (2, .int (nI s)), (3, .int (v3)), (4, .int (v4))], []) (mw w) Q := by
  intro d
  induction d with
  | zero =>
    intro n acc hn hq
    have e : n = 8 := by omega
    subst e
    refine Sp.go 2 (g := (31, [(7, .int (nI 8)), (6, .int (acc)), (5, .int (nI t)), (0, .ref 6), (1, .ref 1), (2, .int (nI s)), (3, .int (v3)), (4, .int (v4))], [.int 8, .int (nI 8)])) rfl ?_
    refine Sp.icmp rfl (fun u1 => ?_) (fun u1 => absurd ((nI_le' (a := 8) (b := 8) (by omega) (by omega)).mpr (by omega)) u1)
    exact hq
  | succ d ih =>
    intro n acc hn hq
    refine Sp.go 2 (g := (31, [(7, .int (nI n)), (6, .int (acc)), (5, .int (nI t)), (0, .ref 6), (1, .ref 1), (2, .int (nI s)), (3, .int (v3)), (4, .int (v4))], [.int 8, .int (nI n)])) rfl ?_
    refine Sp.icmp rfl (fun u1 => absurd u1 (fun q => absurd ((nI_le' (a := 8) (b := n) (by omega) (by omega)).mp q) (by omega))) (fun u1 => ?_)
    refine Sp.go 3 (g := (39, [(7, .int (nI n)), (6, .int (acc)), (5, .int (nI t)), (0, .ref 6), (1, .ref 1), (2, .int (nI s)), (3, .int (v3)), (4, .int (v4))], [.int (nI t), .int (nI n), .ref 1])) rfl ?_
    refine Sp.vr (some (.int (n_on (w.a 3) (w.a 4) (w.a 5) (w.a 2) n t))) (mw (w)) (k' := 11) (F' := 1) (N' := 21) (C' := 0) (S' := 0) (vs := [.int (nI n), .int (nI t)]) (st := []) rfl rfl rfl rfl (Nat.le_of_ble_eq_true rfl) (Nat.le_of_ble_eq_true rfl) (by decide) (by decide) (Nat.zero_le _) (Nat.zero_le _) (fun Q' h => n_onward (by omega) (by omega) h) ?_
    refine Sp.go 1 (g := (43, [(7, .int (nI n)), (6, .int (acc)), (5, .int (nI t)), (0, .ref 6), (1, .ref 1), (2, .int (nI s)), (3, .int (v3)), (4, .int (v4))], [.ref 6, .int (n_on (w.a 3) (w.a 4) (w.a 5) (w.a 2) n t)])) rfl ?_
    refine Sp.get (v := .ref 8) rfl rfl rfl ?_
    refine Sp.go 3 (g := (50, [(7, .int (nI n)), (6, .int (acc)), (5, .int (nI t)), (0, .ref 6), (1, .ref 1), (2, .int (nI s)), (3, .int (v3)), (4, .int (v4))], [.int ((nI t) + 1), .ref 8, .int (n_on (w.a 3) (w.a 4) (w.a 5) (w.a 2) n t)])) rfl ?_
    refine Sp.iald (f := w.a 8) (j := t + 1) rfl rfl (m_ix_of (by simp only [nI, Int32.ofNat_add, Int32.ofNat_mul] <;> rfl) (by omega) (by omega)) ?_
    refine Sp.go 1 (g := (52, [(7, .int (nI n)), (6, .int (acc)), (5, .int (nI t)), (0, .ref 6), (1, .ref 1), (2, .int (nI s)), (3, .int (v3)), (4, .int (v4))], [.int ((n_on (w.a 3) (w.a 4) (w.a 5) (w.a 2) n t) &&& (w.a 8 (t + 1)))])) rfl ?_
    refine Sp.if rfl (fun (h2 : ((n_on (w.a 3) (w.a 4) (w.a 5) (w.a 2) n t) &&& (w.a 8 (t + 1)) : Int32) = (0 : Int32)) => ?_) (fun (h2 : ¬ (((n_on (w.a 3) (w.a 4) (w.a 5) (w.a 2) n t) &&& (w.a 8 (t + 1)) : Int32) = (0 : Int32))) => ?_)
    · skip
      refine Sp.go 2 (g := (27, [(7, .int (nI n + 1)), (6, .int (acc)), (5, .int (nI t)), (0, .ref 6), (1, .ref 1), (2, .int (nI s)), (3, .int (v3)), (4, .int (v4))], [])) rfl ?_
      rw [← nI_succ]
      refine ih (n + 1) _ (by omega) ?_
      simp only [f_set] at hq
      first | (rw [if_pos h2] at hq; exact hq) | (rw [if_neg h2] at hq; exact hq)
    · skip
      refine Sp.go 8 (g := (27, [(7, .int (nI n + 1)), (6, .int (acc ||| ((1 : Int32) <<< ((nI n) &&& 31)))), (5, .int (nI t)), (0, .ref 6), (1, .ref 1), (2, .int (nI s)), (3, .int (v3)), (4, .int (v4))], [])) rfl ?_
      rw [← nI_succ]
      refine ih (n + 1) _ (by omega) ?_
      simp only [f_set] at hq
      first | (rw [if_pos h2] at hq; exact hq) | (rw [if_neg h2] at hq; exact hq)
theorem nI_m1 (n : Nat) : nI n + (-1) = nI n - 1 := by rw [Int32.sub_eq_add_neg]
theorem f_lt0 {s : Nat} (h : s < 2 ^ 31) : nI (s + 0) - 1 < nI s := by
  rw [Nat.add_zero]
  cases s with
  | zero => decide
  | succ s => rw [nI_pred, nI_lt' (by omega) h]; omega
theorem f_nlt {s d : Nat} (h : s + d < 2 ^ 31) : ¬ nI (s + d) < nI s := by rw [nI_lt' h (by omega)]; omega
theorem f_lead_loop {X : mX} {C S : Nat} {Q : Outcome → mM → Prop} {s : Nat} {v3 v4 : Int32} : ∀ (d : Nat) (w : mWd), s + d ≤ 64 → Q (.returned none) (mw (w.sa 8 (f_lead (n_on (w.a 3) (w.a 4) (w.a 5) (w.a 2)) s d (w.a 8)))) → Sp X 23 2 45 C S (15, [(5, .int (nI (s + d) - 1)), (0, .ref 6), (1, .ref 1), (2, .int (nI s)), (3, .int (v3)), (4, .int (v4))], []) (mw w) Q := by
  intro d
  induction d with
  | zero =>
    intro w hd hq
    simp only [f_lead, mWd.sa_self] at hq
    refine Sp.go 2 (g := (18, [(5, .int (nI (s + 0) - 1)), (0, .ref 6), (1, .ref 1), (2, .int (nI s)), (3, .int (v3)), (4, .int (v4))], [.int (nI s), .int (nI (s + 0) - 1)])) rfl ?_
    refine Sp.icmp rfl (fun u1 => ?_) (fun u1 => absurd (f_lt0 (by omega)) u1)
    refine Sp.vret rfl rfl ?_
    exact hq
  | succ d ih =>
    intro w hd hq
    rw [show nI (s + (d + 1)) - 1 = nI (s + d) from nI_pred (s + d)]
    refine Sp.go 2 (g := (18, [(5, .int (nI (s + d))), (0, .ref 6), (1, .ref 1), (2, .int (nI s)), (3, .int (v3)), (4, .int (v4))], [.int (nI s), .int (nI (s + d))])) rfl ?_
    refine Sp.icmp rfl (fun u1 => absurd u1 (f_nlt (by omega))) (fun u1 => ?_)
    refine Sp.go 4 (g := (27, [(7, .int 0), (6, .int 0), (5, .int (nI (s + d))), (0, .ref 6), (1, .ref 1), (2, .int (nI s)), (3, .int (v3)), (4, .int (v4))], [])) rfl ?_
    refine f_set_loop (by omega) 8 0 0 rfl ?_
    refine Sp.go 1 (g := (71, [(7, .int (nI 8)), (6, .int (f_set (fun n => n_on (w.a 3) (w.a 4) (w.a 5) (w.a 2) n (s + d)) (w.a 8 (s + d + 1)) 0 8 0)), (5, .int (nI (s + d))), (0, .ref 6), (1, .ref 1), (2, .int (nI s)), (3, .int (v3)), (4, .int (v4))], [.ref 6])) rfl ?_
    refine Sp.get (v := .ref 8) rfl rfl rfl ?_
    refine Sp.go 2 (g := (78, [(7, .int (nI 8)), (6, .int (f_set (fun n => n_on (w.a 3) (w.a 4) (w.a 5) (w.a 2) n (s + d)) (w.a 8 (s + d + 1)) 0 8 0)), (5, .int (nI (s + d))), (0, .ref 6), (1, .ref 1), (2, .int (nI s)), (3, .int (v3)), (4, .int (v4))], [.int (f_set (fun n => n_on (w.a 3) (w.a 4) (w.a 5) (w.a 2) n (s + d)) (w.a 8 (s + d + 1)) 0 8 0), .int (nI (s + d)), .ref 8])) rfl ?_
    refine Sp.pa8 (j := s + d) rfl (m_ix_of (by simp only [nI, Int32.ofNat_add, Int32.ofNat_mul] <;> rfl) (by omega) (by omega)) ?_
    refine Sp.go 2 (g := (15, [(5, .int (nI (s + d) + (-1))), (7, .int (nI 8)), (6, .int (f_set (fun n => n_on (w.a 3) (w.a 4) (w.a 5) (w.a 2) n (s + d)) (w.a 8 (s + d + 1)) 0 8 0)), (0, .ref 6), (1, .ref 1), (2, .int (nI s)), (3, .int (v3)), (4, .int (v4))], [])) rfl ?_
    refine Sp.lsub [0, 3, 4, 5, 6, 7] (ls' := [(5, .int (nI (s + d) + (-1))), (0, .ref 6), (1, .ref 1), (2, .int (nI s)), (3, .int (v3)), (4, .int (v4))]) rfl ?_
    rw [nI_m1]
    refine ih (w.sa 8 (upd (w.a 8) (s + d) (f_set (fun n => n_on (w.a 3) (w.a 4) (w.a 5) (w.a 2) n (s + d)) (w.a 8 (s + d + 1)) 0 8 0))) (by omega) ?_
    simp only [f_lead] at hq
    refine Eq.mp (congrArg (fun z => Q _ (mw z)) ?_) hq
    rw [mWd.sa_sa]
    rfl
theorem f_markLeading {X : mX} {C S : Nat} {Q : Outcome → mM → Prop} {w : mWd} {s e g : Nat} (hs : s < e) (he : e ≤ 64) (hq : Q (.returned none) (mw (w.sa 8 (f_lead (n_on (w.a 3) (w.a 4) (w.a 5) (w.a 2)) s (e - s) (upd (w.a 8) e ((1 : Int32) <<< (nI g &&& 31))))))) : Sp X 23 2 45 C S (0, [(0, .ref 6), (1, .ref 1), (2, .int (nI s)), (3, .int (nI e)), (4, .int (nI g))], []) (mw w) Q := by
  refine Sp.go 1 (g := (1, [(0, .ref 6), (1, .ref 1), (2, .int (nI s)), (3, .int (nI e)), (4, .int (nI g))], [.ref 6])) rfl ?_
  refine Sp.get (v := .ref 8) rfl rfl rfl ?_
  refine Sp.go 4 (g := (9, [(0, .ref 6), (1, .ref 1), (2, .int (nI s)), (3, .int (nI e)), (4, .int (nI g))], [.int ((1 : Int32) <<< ((nI g) &&& 31)), .int (nI e), .ref 8])) rfl ?_
  refine Sp.pa8 (j := e) rfl (m_ix_of (by simp only [nI, Int32.ofNat_add, Int32.ofNat_mul] <;> rfl) (by omega) (by omega)) ?_
  refine Sp.go 4 (g := (15, [(5, .int ((nI e) - 1)), (0, .ref 6), (1, .ref 1), (2, .int (nI s)), (3, .int (nI e)), (4, .int (nI g))], [])) rfl ?_
  rw [show nI e - 1 = nI (s + (e - s)) - 1 by rw [show s + (e - s) = e by omega]]
  refine f_lead_loop (e - s) (w.sa 8 (upd (w.a 8) e ((1 : Int32) <<< ((nI g) &&& 31)))) (by omega) ?_
  refine Eq.mp (congrArg (fun z => Q _ (mw z)) ?_) hq
  rw [mWd.sa_sa]
  rfl
theorem f_walk_loop {X : mX} {C S : Nat} {Q : Outcome → mM → Prop} {e : Nat} {v2 v3 : Int32} (he : e ≤ 64) : ∀ (d t n : Nat) (w : mWd), t + d = e → n < 8 → w.a 7 t = nI n → Q (.returned none) (mw (w.sa 7 (f_walk (n_on (w.a 3) (w.a 4) (w.a 5) (w.a 2)) (w.a 8) t d n (w.a 7)))) → Sp X 24 2 45 C S (10, [(5, .int (nI t)), (0, .ref 6), (1, .ref 1), (2, .int (v2)), (3, .int (v3)), (4, .int (nI e))], []) (mw w) Q := by
  intro d
  induction d with
  | zero =>
    intro t n w ht hn hw hq
    simp only [f_walk, mWd.sa_self] at hq
    refine Sp.go 2 (g := (14, [(5, .int (nI t)), (0, .ref 6), (1, .ref 1), (2, .int (v2)), (3, .int (v3)), (4, .int (nI e))], [.int (nI e), .int (nI t)])) rfl ?_
    refine Sp.icmp rfl (fun u1 => ?_) (fun u1 => absurd ((nI_le' (a := e) (b := t) (by omega) (by omega)).mpr (by omega)) u1)
    refine Sp.vret rfl rfl ?_
    exact hq
  | succ d ih =>
    intro t n w ht hn hw hq
    refine Sp.go 2 (g := (14, [(5, .int (nI t)), (0, .ref 6), (1, .ref 1), (2, .int (v2)), (3, .int (v3)), (4, .int (nI e))], [.int (nI e), .int (nI t)])) rfl ?_
    refine Sp.icmp rfl (fun u1 => absurd u1 (fun q => absurd ((nI_le' (a := e) (b := t) (by omega) (by omega)).mp q) (by omega))) (fun u1 => ?_)
    refine Sp.go 1 (g := (18, [(5, .int (nI t)), (0, .ref 6), (1, .ref 1), (2, .int (v2)), (3, .int (v3)), (4, .int (nI e))], [.ref 6])) rfl ?_
    refine Sp.get (v := .ref 7) rfl rfl rfl ?_
    refine Sp.go 5 (g := (27, [(5, .int (nI t)), (0, .ref 6), (1, .ref 1), (2, .int (v2)), (3, .int (v3)), (4, .int (nI e))], [.ref 6, .ref 1, .int ((nI t) + 1), .ref 7])) rfl ?_
    refine Sp.get (v := .ref 7) rfl rfl rfl ?_
    refine Sp.go 1 (g := (32, [(5, .int (nI t)), (0, .ref 6), (1, .ref 1), (2, .int (v2)), (3, .int (v3)), (4, .int (nI e))], [.int (nI t), .ref 7, .ref 1, .int ((nI t) + 1), .ref 7])) rfl ?_
    refine Sp.iald (f := w.a 7) (j := t) rfl rfl (m_ix_of (by simp only [nI, Int32.ofNat_add, Int32.ofNat_mul] <;> rfl) (by omega) (by omega)) ?_
    rw [hw]
    refine Sp.go 1 (g := (35, [(5, .int (nI t)), (0, .ref 6), (1, .ref 1), (2, .int (v2)), (3, .int (v3)), (4, .int (nI e))], [.int (nI t), .int (nI n), .ref 1, .int ((nI t) + 1), .ref 7])) rfl ?_
    refine Sp.vr (some (.int (n_on (w.a 3) (w.a 4) (w.a 5) (w.a 2) n t))) (mw (w)) (k' := 11) (F' := 1) (N' := 21) (C' := 0) (S' := 0) (vs := [.int (nI n), .int (nI t)]) (st := [.int ((nI t) + 1), .ref 7]) rfl rfl rfl rfl (Nat.le_of_ble_eq_true rfl) (Nat.le_of_ble_eq_true rfl) (by decide) (by decide) (Nat.zero_le _) (Nat.zero_le _) (fun Q' h => n_onward (by omega) (by omega) h) ?_
    refine Sp.go 1 (g := (39, [(5, .int (nI t)), (0, .ref 6), (1, .ref 1), (2, .int (v2)), (3, .int (v3)), (4, .int (nI e))], [.ref 6, .int (n_on (w.a 3) (w.a 4) (w.a 5) (w.a 2) n t), .int ((nI t) + 1), .ref 7])) rfl ?_
    refine Sp.get (v := .ref 8) rfl rfl rfl ?_
    refine Sp.go 3 (g := (46, [(5, .int (nI t)), (0, .ref 6), (1, .ref 1), (2, .int (v2)), (3, .int (v3)), (4, .int (nI e))], [.int ((nI t) + 1), .ref 8, .int (n_on (w.a 3) (w.a 4) (w.a 5) (w.a 2) n t), .int ((nI t) + 1), .ref 7])) rfl ?_
    refine Sp.iald (f := w.a 8) (j := t + 1) rfl rfl (m_ix_of (by simp only [nI, Int32.ofNat_add, Int32.ofNat_mul] <;> rfl) (by omega) (by omega)) ?_
    refine Sp.go 1 (g := (48, [(5, .int (nI t)), (0, .ref 6), (1, .ref 1), (2, .int (v2)), (3, .int (v3)), (4, .int (nI e))], [.int ((n_on (w.a 3) (w.a 4) (w.a 5) (w.a 2) n t) &&& (w.a 8 (t + 1))), .int ((nI t) + 1), .ref 7])) rfl ?_
    refine Sp.sr (some (.int (nI (f_least ((n_on (w.a 3) (w.a 4) (w.a 5) (w.a 2) n t) &&& (w.a 8 (t + 1))) 0 7)))) (mw (w)) (k' := 25) (F' := 1) (N' := 21) (C' := 0) (S' := 0) (vs := [.int ((n_on (w.a 3) (w.a 4) (w.a 5) (w.a 2) n t) &&& (w.a 8 (t + 1)))]) (st := [.int ((nI t) + 1), .ref 7]) rfl (by decide) rfl (Nat.le_of_ble_eq_true rfl) (Nat.le_of_ble_eq_true rfl) (by decide) (by decide) (Nat.zero_le _) (Nat.zero_le _) (fun Q' h => f_leastOf h) ?_
    refine Sp.pa7 (j := t + 1) rfl (m_ix_of (by simp only [nI, Int32.ofNat_add, Int32.ofNat_mul] <;> rfl) (by omega) (by omega)) ?_
    refine Sp.go 2 (g := (10, [(5, .int (nI t + 1)), (0, .ref 6), (1, .ref 1), (2, .int (v2)), (3, .int (v3)), (4, .int (nI e))], [])) rfl ?_
    rw [← nI_succ]
    refine ih (t + 1) (f_least (n_on (w.a 3) (w.a 4) (w.a 5) (w.a 2) n t &&& w.a 8 (t + 1)) 0 7) (w.sa 7 (upd (w.a 7) (t + 1) (nI (f_least ((n_on (w.a 3) (w.a 4) (w.a 5) (w.a 2) n t) &&& (w.a 8 (t + 1))) 0 7)))) (by omega) (by have := f_least_le (n_on (w.a 3) (w.a 4) (w.a 5) (w.a 2) n t &&& w.a 8 (t + 1)) 7 0; omega) (by show upd _ _ _ _ = _; simp [upd]) ?_
    simp only [f_walk] at hq
    refine Eq.mp (congrArg (fun z => Q _ (mw z)) ?_) hq
    rw [mWd.sa_sa]
    rfl
theorem f_walkT {X : mX} {C S : Nat} {Q : Outcome → mM → Prop} {w : mWd} {a s e : Nat} (ha : a < 8) (hs : s ≤ e) (he : e ≤ 64) (hq : Q (.returned none) (mw (w.sa 7 (f_walk (n_on (w.a 3) (w.a 4) (w.a 5) (w.a 2)) (w.a 8) s (e - s) a (upd (w.a 7) s (nI a)))))) : Sp X 24 2 45 C S (0, [(0, .ref 6), (1, .ref 1), (2, .int (nI a)), (3, .int (nI s)), (4, .int (nI e))], []) (mw w) Q := by
  refine Sp.go 1 (g := (1, [(0, .ref 6), (1, .ref 1), (2, .int (nI a)), (3, .int (nI s)), (4, .int (nI e))], [.ref 6])) rfl ?_
  refine Sp.get (v := .ref 7) rfl rfl rfl ?_
  refine Sp.go 2 (g := (6, [(0, .ref 6), (1, .ref 1), (2, .int (nI a)), (3, .int (nI s)), (4, .int (nI e))], [.int (nI a), .int (nI s), .ref 7])) rfl ?_
  refine Sp.pa7 (j := s) rfl (m_ix_of (by simp only [nI, Int32.ofNat_add, Int32.ofNat_mul] <;> rfl) (by omega) (by omega)) ?_
  refine Sp.go 2 (g := (10, [(5, .int (nI s)), (0, .ref 6), (1, .ref 1), (2, .int (nI a)), (3, .int (nI s)), (4, .int (nI e))], [])) rfl ?_
  refine f_walk_loop he (e - s) s a (w.sa 7 (upd (w.a 7) s (nI a))) (by omega) ha (by show upd _ _ _ _ = _; simp [upd]) ?_
  refine Eq.mp (congrArg (fun z => Q _ (mw z)) ?_) hq
  rw [mWd.sa_sa]
  rfl
