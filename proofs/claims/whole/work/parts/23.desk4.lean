/-! The desk: a new parcel, book, cancel, tick. Rows laid by wip/gen/desk4.py. -/
theorem mWd.mk_d (w : mWd) {m : Nat} (x : Option va_E) (k : Nat) (h : w.nx = m + 23) : (w.mk x k).d m = x := by
  have e : m = w.nx - 23 := by omega
  simp [mWd.mk, mWd.d, va_up, e]
theorem mWd.mk_ne (w : mWd) {m : Nat} (x : Option va_E) (k : Nat) (h : m + 23 ≠ w.nx) (h23 : 23 ≤ w.nx) : (w.mk x k).d m = w.d m := by
  have e : ¬ m = w.nx - 23 := by omega
  simp [mWd.mk, mWd.d, va_up, e]
section WQ
variable {X : mX} {k F N C S : Nat} {pc : Nat} {ls : List (Nat × Value)} {st : List Value} {w : mWd} {Q : Outcome → mM → Prop}
theorem Sp.plr {n idx j b : Nat} {fs : List Value} (hi : m_i k pc = some (.putfield idx, 1, j)) (hm : w.d n = some (.inr (1, fs))) (hj : j < fs.length) (hf : m_fit (m_ty 1 j) (.ref b) = true) (kk : Sp X k F N C S (pc + 3, ls, st) (mw (w.sd n (.inr (1, fs.set j (.ref b))))) Q) : Sp X k F N C S (pc, ls, .ref b :: .ref (n + 23) :: st) (mw w) Q :=
  Sp.put (a := n + 23) (fs := fs) (v := .ref b) hi hm hj hf (by rw [mw_d]; exact kk)
theorem Sp.nwi {a0 b0 n m : Nat} {x : Int32} (hi : m_i k pc = some (.newarray .int, a0, b0)) (hx0 : ¬ x < 0) (hx1 : x.toNatClampNeg = n) (hn1 : n ≤ 100000) (h1 : 1 ≤ C) (h2 : n ≤ S) (hnx : w.nx = m + 23) (kk : Sp X k F N (C - 1) (S - n) (pc + 2, ls, .ref (m + 23) :: st) (mw (w.mk (some (.inl (0, n, .inl fun _ => 0))) n)) Q) : Sp X k F N C S (pc, ls, .int x :: st) (mw w) Q := by
  refine Sp.newi hi hx0 hx1 hn1 h1 h2 ?_
  rw [mw_new _ _ _ (by omega), show (mw w).2.1 = m + 23 from hnx]
  exact kk
theorem Sp.nwp {idx m : Nat} (hi : m_i k pc = some (.new idx, 1, 0)) (h1 : 1 ≤ C) (h2 : 5 ≤ S) (hnx : w.nx = m + 23) (kk : Sp X k F N (C - 1) (S - 5) (pc + 3, ls, .ref (m + 23) :: st) (mw (w.mk (some (.inr (1, [.int 0, .int 0, .null, .int 0, .int 0]))) 5)) Q) : Sp X k F N C S (pc, ls, st) (mw w) Q := by
  refine Sp.new (n := 5) hi rfl rfl h1 h2 ?_
  rw [mw_new _ _ _ (by omega), show (mw w).2.1 = m + 23 from hnx]
  exact kk
theorem Sp.wpar {n j x0 y0 : Nat} {i : Int32} {fs : List Value} (hi : m_i k pc = some (.aastore, x0, y0)) (hm : w.d n = some (.inr (1, fs))) (hj : m_ix i j 32) (kk : Sp X k F N C S (pc + 1, ls, st) (mw (w.sp (va_up w.p j (some (n + 23))))) Q) : Sp X k F N C S (pc, ls, .ref (n + 23) :: .int i :: .ref 9 :: st) (mw w) Q :=
  Sp.aast (v := n + 23) (ci := 1) hi rfl hm rfl hj (by rw [mw_p]; exact kk)
end WQ
theorem p_init {X : mX} {C S : Nat} {Q : Outcome → mM → Prop} {w : mWd} {n : Nat} {g t : Int32} {fs : List Value} (hnx : w.nx = n + 24) (hp : w.d n = some (.inr (1, [.int 0, .int 0, .null, .int 0, .int 0]))) (hC : 1 ≤ C) (hS : 65 ≤ S)
    (hq : Q (.returned none) (mw ((w.mk (some (.inl (0, 65, .inl fun _ => 0))) 65).sd n (.inr (1, [.int g, .int t, .ref (n + 24), .int (-1), .int 0]))))) : Sp X 14 1 20 C S (0, [(0, .ref (n + 23)), (1, .int g), (2, .int t)], []) (mw w) Q := by
  refine Sp.go 1 (g := (1, [(0, .ref (n + 23)), (1, .int g), (2, .int t)], [.ref (n + 23)])) rfl ?_
  refine Sp.obj rfl (by decide) (Nat.le_of_ble_eq_true rfl) ?_
  refine Sp.go 2 (g := (7, [(0, .ref (n + 23)), (1, .int g), (2, .int t)], [.int 65, .ref (n + 23)])) rfl ?_
  refine Sp.nwi (n := 65) (m := n + 1) rfl (by decide) (by decide) (by decide) hC hS (by omega) ?_
  have hp1 : (w.mk (some (.inl (0, 65, .inl fun _ => 0))) 65).d n = some (.inr (1, [.int 0, .int 0, .null, .int 0, .int 0])) := by rw [mWd.mk_ne _ _ _ (by omega) (by omega)]; exact hp
  refine Sp.plr (n := n) rfl hp1 (Nat.le_of_ble_eq_true rfl) rfl ?_
  refine Sp.go 2 (g := (14, [(0, .ref (n + 23)), (1, .int g), (2, .int t)], [.int (-1), .ref (n + 23)])) rfl ?_
  refine Sp.pl (n := n) rfl (mWd.sd_d ..) (Nat.le_of_ble_eq_true rfl) rfl ?_
  refine Sp.wd (mWd.sd_sd ..) ?_
  refine Sp.go 2 (g := (19, [(0, .ref (n + 23)), (1, .int g), (2, .int t)], [.int 0, .ref (n + 23)])) rfl ?_
  refine Sp.pl (n := n) rfl (mWd.sd_d ..) (Nat.le_of_ble_eq_true rfl) rfl ?_
  refine Sp.wd (mWd.sd_sd ..) ?_
  refine Sp.go 2 (g := (24, [(0, .ref (n + 23)), (1, .int g), (2, .int t)], [.int g, .ref (n + 23)])) rfl ?_
  refine Sp.pl (n := n) rfl (mWd.sd_d ..) (Nat.le_of_ble_eq_true rfl) rfl ?_
  refine Sp.wd (mWd.sd_sd ..) ?_
  refine Sp.go 2 (g := (29, [(0, .ref (n + 23)), (1, .int g), (2, .int t)], [.int t, .ref (n + 23)])) rfl ?_
  refine Sp.pl (n := n) rfl (mWd.sd_d ..) (Nat.le_of_ble_eq_true rfl) rfl ?_
  refine Sp.wd (mWd.sd_sd ..) ?_
  exact Sp.vret rfl rfl hq
/-- the new parcel's cells, in the world w, at the place n -/
def r_born (w : mWd) (n : Nat) (g t : Int32) : mWd := (((w.mk (some (.inr (1, [.int 0, .int 0, .null, .int 0, .int 0]))) 5).mk (some (.inl (0, 65, .inl fun _ => 0))) 65).sd n (.inr (1, [.int g, .int t, .ref (n + 24), .int (-1), .int 0])))
def r_bookW (w : mWd) (a s e g P n : Nat) (N : Nat → Nat) : mWd :=
  ((r_giveW (r_born (w_sought w a s e g) n (nI g) (nI s)) n s e (nI g) (nI s) 0 (fun _ => 0) N).sp (va_up w.p P (some (n + 23)))).sf 3 (nI P + 1)
theorem r_book_some {X : mX} {C S : Nat} {Q : Outcome → mM → Prop} {w : mWd} {a g s : Nat} (ha : a < 8) (hgl : g < 8) (hs : s < 64) (hp : n_pair (w.f 2) (nI a) (nI g) = true) (hn : ¬ nI s < w.f 4) (h64 : nI s < 64) {e P n : Nat} {N : Nat → Nat} (hP : w.f 3 = nI P) (h32 : P < 32) (hnx : w.nx = n + 23) (hC : 2 ≤ C) (hS : 70 ≤ S) (ho : w_end w a s g = some e) (hN : ∀ i, s ≤ i → i ≤ e → (w_sought w a s e g).a 7 i = nI (N i) ∧ N i < 8) (hq : Q (.returned (some (.int (nI P)))) (mw (r_bookW w a s e g P n N))) : Sp X 30 8 127 C S (0, [(0, .ref 0), (1, .int (nI a)), (2, .int (nI g)), (3, .int (nI s))], []) (mw w) Q := by
  have hg : w.f 3 < 32 := by rw [hP]; exact (nI_lt' (b := 32) (by omega) (by omega)).mpr h32
  have he := f_soon_in _ _ _ _ _ _ ho
  refine Sp.go 4 (g := (4, [(0, .ref 0), (1, .int (nI a)), (2, .int (nI g)), (3, .int (nI s))], [.int (nI s), .int (nI g), .int (nI a), .ref 0])) rfl ?_
  refine Sp.vr none (mw (w)) (k' := 47) (F' := 7) (N' := 104) (C' := 0) (S' := 0) (vs := [.int (nI a), .int (nI g), .int (nI s)]) (st := []) rfl rfl rfl rfl (Nat.le_of_ble_eq_true rfl) (Nat.le_of_ble_eq_true rfl) (by decide) (by decide) (Nat.zero_le _) (Nat.zero_le _) (fun Q' h => r_checkBooking_ok hp hn h64 hg h) ?_
  refine Sp.go 1 (g := (8, [(0, .ref 0), (1, .int (nI a)), (2, .int (nI g)), (3, .int (nI s))], [.ref 0])) rfl ?_
  refine Sp.get (v := .ref 6) rfl rfl rfl ?_
  refine Sp.go 1 (g := (12, [(0, .ref 0), (1, .int (nI a)), (2, .int (nI g)), (3, .int (nI s))], [.ref 0, .ref 6])) rfl ?_
  refine Sp.get (v := .ref 1) rfl rfl rfl ?_
  refine Sp.go 3 (g := (18, [(0, .ref 0), (1, .int (nI a)), (2, .int (nI g)), (3, .int (nI s))], [.int (nI g), .int (nI s), .int (nI a), .ref 1, .ref 6])) rfl ?_
  refine Sp.vr (some (.int (nI e))) (mw (w_sought w a s e g)) (k' := 20) (F' := 4) (N' := 94) (C' := 0) (S' := 0) (vs := [.ref 1, .int (nI a), .int (nI s), .int (nI g)]) (st := []) rfl rfl rfl rfl (Nat.le_of_ble_eq_true rfl) (Nat.le_of_ble_eq_true rfl) (by decide) (by decide) (Nat.zero_le _) (Nat.zero_le _) (fun Q' h => f_seek_some (by omega) (by omega) (by omega) ho h) ?_
  refine Sp.go 3 (g := (26, [(4, .int (nI e)), (0, .ref 0), (1, .int (nI a)), (2, .int (nI g)), (3, .int (nI s))], [.int (-1), .int (nI e)])) rfl ?_
  refine Sp.icmp rfl (fun u1 => ?_) (fun u1 => absurd (f_ne1 (by omega)) u1)
  refine Sp.nwp (m := n) rfl (by omega) (by omega) hnx ?_
  refine Sp.go 3 (g := (37, [(4, .int (nI e)), (0, .ref 0), (1, .int (nI a)), (2, .int (nI g)), (3, .int (nI s))], [.int (nI s), .int (nI g), .ref (n + 23), .ref (n + 23)])) rfl ?_
  refine Sp.ir (mw (r_born (w_sought w a s e g) n (nI g) (nI s))) (k' := 14) (F' := 1) (N' := 20) (C' := 1) (S' := 65) (vs := [.int (nI g), .int (nI s)]) (st := [.ref (n + 23)]) rfl (by decide) rfl (Nat.le_of_ble_eq_true rfl) (Nat.le_of_ble_eq_true rfl) (by decide) (by decide) (by omega) (by omega) (fun Q' h => p_init (fs := []) (by show w.nx + 1 = n + 24; omega) (mWd.mk_d _ _ _ hnx) (by decide) (by decide) h) ?_
  have hb1 : (r_born (w_sought w a s e g) n (nI g) (nI s)).d n = some (.inr (1, [.int (nI g), .int (nI s), .ref (n + 24), .int (-1), .int 0])) := mWd.sd_d ..
  have hb2 : (r_born (w_sought w a s e g) n (nI g) (nI s)).d (n + 1) = some (.inl (0, 65, .inl fun _ => 0)) := by
    unfold r_born; rw [mWd.sd_ne _ _ (by omega)]; exact mWd.mk_d _ _ _ (by show w.nx + 1 = n + 1 + 23; omega)
  refine Sp.go 5 (g := (48, [(5, .ref (n + 23)), (4, .int (nI e)), (0, .ref 0), (1, .int (nI a)), (2, .int (nI g)), (3, .int (nI s))], [.int (nI e), .int (nI s), .ref (n + 23), .ref 0])) rfl ?_
  refine Sp.vr none (mw (r_giveW (r_born (w_sought w a s e g) n (nI g) (nI s)) n s e (nI g) (nI s) 0 (fun _ => 0) N)) (k' := 48) (F' := 2) (N' := 44) (C' := 0) (S' := 0) (vs := [.ref (n + 23), .int (nI s), .int (nI e)]) (st := []) rfl rfl rfl rfl (Nat.le_of_ble_eq_true rfl) (Nat.le_of_ble_eq_true rfl) (by decide) (by decide) (Nat.zero_le _) (Nat.zero_le _) (fun Q' h => r_give (N := N) (by omega) (by omega) hb1 hb2 hN h) ?_
  refine Sp.go 1 (g := (52, [(5, .ref (n + 23)), (4, .int (nI e)), (0, .ref 0), (1, .int (nI a)), (2, .int (nI g)), (3, .int (nI s))], [.ref 0])) rfl ?_
  refine Sp.get (v := .ref 9) rfl rfl rfl ?_
  refine Sp.go 1 (g := (56, [(5, .ref (n + 23)), (4, .int (nI e)), (0, .ref 0), (1, .int (nI a)), (2, .int (nI g)), (3, .int (nI s))], [.ref 0, .ref 9])) rfl ?_
  refine Sp.get (v := .int (nI P)) rfl rfl (by rw [← hP]; rfl) ?_
  refine Sp.go 1 (g := (61, [(5, .ref (n + 23)), (4, .int (nI e)), (0, .ref 0), (1, .int (nI a)), (2, .int (nI g)), (3, .int (nI s))], [.ref (n + 23), .int (nI P), .ref 9])) rfl ?_
  refine Sp.wpar (n := n) (j := P) (fs := [.int (nI g), .int (nI s), .ref (n + 24), .int (nI e), .int 0]) rfl (mWd.sd_d ..) (m_ix_of rfl h32 (by omega)) ?_
  refine Sp.go 2 (g := (64, [(5, .ref (n + 23)), (4, .int (nI e)), (0, .ref 0), (1, .int (nI a)), (2, .int (nI g)), (3, .int (nI s))], [.ref 0, .ref 0])) rfl ?_
  refine Sp.get (v := .int (nI P)) rfl rfl (by rw [← hP]; rfl) ?_
  refine Sp.go 2 (g := (69, [(5, .ref (n + 23)), (4, .int (nI e)), (0, .ref 0), (1, .int (nI a)), (2, .int (nI g)), (3, .int (nI s))], [.int ((nI P) + 1), .ref 0])) rfl ?_
  refine Sp.pf3 rfl ?_
  refine Sp.go 1 (g := (73, [(5, .ref (n + 23)), (4, .int (nI e)), (0, .ref 0), (1, .int (nI a)), (2, .int (nI g)), (3, .int (nI s))], [.ref 0])) rfl ?_
  refine Sp.get (v := .int (nI P + 1)) rfl rfl rfl ?_
  refine Sp.go 2 (g := (78, [(5, .ref (n + 23)), (4, .int (nI e)), (0, .ref 0), (1, .int (nI a)), (2, .int (nI g)), (3, .int (nI s))], [.int ((nI P + 1) - 1)])) rfl ?_
  refine Sp.iret rfl (Or.inl rfl) ?_
  rw [show nI P + 1 - 1 = nI P by rw [← nI_succ]; exact nI_pred P]; exact hq
/-- behind cancel: the steps given back, fate CANCELLED -/
theorem r_cancel_b0 {X : mX} {C S : Nat} {Q : Outcome → mM → Prop} {w : mWd} {x : Int32} (hxx : x < 0 ∨ w.f 3 ≤ x) (hC : 1 ≤ C) (hS : 6 ≤ S) (hx : 23 ≤ w.nx) (hq : Q (.threw 2) (mw (w.mk none 6))) : Sp X 32 6 82 C S (0, [(0, .ref 0), (1, .int (x))], []) (mw w) Q := by
  refine Sp.go 2 (g := (2, [(0, .ref 0), (1, .int (x))], [.int (x), .ref 0])) rfl ?_
  refine Sp.vr (some (.null)) (mw (w)) (k' := 45) (F' := 0) (N' := 0) (C' := 0) (S' := 0) (vs := [.int (x)]) (st := []) rfl rfl rfl rfl (Nat.le_of_ble_eq_true rfl) (Nat.le_of_ble_eq_true rfl) (by decide) (by decide) (Nat.zero_le _) (Nat.zero_le _) (fun Q' h => r_parcelOf_out hxx h) ?_
  refine Sp.go 3 (g := (10, [(2, .null), (0, .ref 0), (1, .int (x))], [])) rfl ?_
  refine Sp.th rfl (by decide) (Nat.le_of_ble_eq_true rfl) hC hS rfl hx ?_
  exact hq
theorem r_cancel_b1 {X : mX} {C S : Nat} {Q : Outcome → mM → Prop} {w : mWd} {P hd : Nat} {q : Nat → Nat} {g t l f : Nat → Int32} {nd : Nat → Nat → Int32} (hP : w.f 3 = nI P) (h32 : P ≤ 32) (hh : hd < P) (hc : c_P w P q g t l f nd) (hl : p_live (t hd) (l hd) (f hd) (w.f 4) = false) (hC : 1 ≤ C) (hS : 6 ≤ S) (hx : 23 ≤ w.nx) (hq : Q (.threw 1) (mw (w.mk none 6))) : Sp X 32 6 82 C S (0, [(0, .ref 0), (1, .int (nI hd))], []) (mw w) Q := by
  refine Sp.go 2 (g := (2, [(0, .ref 0), (1, .int (nI hd))], [.int (nI hd), .ref 0])) rfl ?_
  refine Sp.vr (some (.ref (q hd + 23))) (mw (w)) (k' := 45) (F' := 0) (N' := 0) (C' := 0) (S' := 0) (vs := [.int (nI hd)]) (st := []) rfl rfl rfl rfl (Nat.le_of_ble_eq_true rfl) (Nat.le_of_ble_eq_true rfl) (by decide) (by decide) (Nat.zero_le _) (Nat.zero_le _) (fun Q' h => r_parcelOf_in hP h32 hh (hc.1 hd hh).1 h) ?_
  refine Sp.go 5 (g := (22, [(2, .ref (q hd + 23)), (0, .ref 0), (1, .int (nI hd))], [.ref 0, .ref (q hd + 23)])) rfl ?_
  refine Sp.get (v := .int (w.f 4)) rfl rfl rfl ?_
  refine Sp.vr (some (.int (m_b2 (p_live (t hd) (l hd) (f hd) (w.f 4))))) (mw (w)) (k' := 16) (F' := 1) (N' := 21) (C' := 0) (S' := 0) (vs := [.int (w.f 4)]) (st := []) rfl (hc.1 hd hh).2.1 rfl rfl (Nat.le_of_ble_eq_true rfl) (Nat.le_of_ble_eq_true rfl) (by decide) (by decide) (Nat.zero_le _) (Nat.zero_le _) (fun Q' h => p_isUnderWay (hc.1 hd hh).2.1 h) ?_
  refine Sp.ifbn rfl (fun u1 => absurd u1 (by rw [hl]; decide)) (fun u1 => ?_)
  refine Sp.th rfl (by decide) (Nat.le_of_ble_eq_true rfl) hC hS rfl hx ?_
  exact hq
theorem r_cancel_ok {X : mX} {C S : Nat} {Q : Outcome → mM → Prop} {w : mWd} {P hd a0 T0 e : Nat} {q : Nat → Nat} {g t l f : Nat → Int32} {nd : Nat → Nat → Int32} {N : Nat → Nat} (hP : w.f 3 = nI P) (h32 : P ≤ 32) (hh : hd < P) (hc : c_P w P q g t l f nd) (ht : t hd = nI a0) (hl : l hd = nI e) (ha : a0 < 65) (hT : T0 ≤ 64) (he : e ≤ 64) (hnow : w.f 4 = nI T0) (hN : ∀ i, max a0 T0 ≤ i → i ≤ e → nd hd i = nI (N i) ∧ N i < 8) (hlv : p_live (t hd) (l hd) (f hd) (w.f 4) = true) (hq : Q (.returned (some (.int (nI e - nI (max a0 T0))))) (mw (r_cutW (w.sd (q hd) (.inr (1, [.int (g hd), .int (t hd), .ref (q hd + 24), .int (l hd), .int 4]))) (q hd) (max a0 T0) e (g hd) (nI a0) 4 (if T0 < a0 then -1 else nI T0) N))) : Sp X 32 6 82 C S (0, [(0, .ref 0), (1, .int (nI hd))], []) (mw w) Q := by
  refine Sp.go 2 (g := (2, [(0, .ref 0), (1, .int (nI hd))], [.int (nI hd), .ref 0])) rfl ?_
  refine Sp.vr (some (.ref (q hd + 23))) (mw (w)) (k' := 45) (F' := 0) (N' := 0) (C' := 0) (S' := 0) (vs := [.int (nI hd)]) (st := []) rfl rfl rfl rfl (Nat.le_of_ble_eq_true rfl) (Nat.le_of_ble_eq_true rfl) (by decide) (by decide) (Nat.zero_le _) (Nat.zero_le _) (fun Q' h => r_parcelOf_in hP h32 hh (hc.1 hd hh).1 h) ?_
  refine Sp.go 5 (g := (22, [(2, .ref (q hd + 23)), (0, .ref 0), (1, .int (nI hd))], [.ref 0, .ref (q hd + 23)])) rfl ?_
  refine Sp.get (v := .int (w.f 4)) rfl rfl rfl ?_
  refine Sp.vr (some (.int (m_b2 (p_live (t hd) (l hd) (f hd) (w.f 4))))) (mw (w)) (k' := 16) (F' := 1) (N' := 21) (C' := 0) (S' := 0) (vs := [.int (w.f 4)]) (st := []) rfl (hc.1 hd hh).2.1 rfl rfl (Nat.le_of_ble_eq_true rfl) (Nat.le_of_ble_eq_true rfl) (by decide) (by decide) (Nat.zero_le _) (Nat.zero_le _) (fun Q' h => p_isUnderWay (hc.1 hd hh).2.1 h) ?_
  refine Sp.ifbn rfl (fun u1 => ?_) (fun u1 => absurd u1 (by rw [hlv]; decide))
  refine Sp.go 2 (g := (43, [(2, .ref (q hd + 23)), (0, .ref 0), (1, .int (nI hd))], [.int 4, .ref (q hd + 23)])) rfl ?_
  refine Sp.pl rfl (hc.1 hd hh).2.1 (Nat.le_of_ble_eq_true rfl) rfl ?_
  refine Sp.go 2 (g := (48, [(2, .ref (q hd + 23)), (0, .ref 0), (1, .int (nI hd))], [.ref (q hd + 23), .ref 0])) rfl ?_
  refine Sp.vr (some (.int (nI e - nI (max a0 T0)))) (mw (r_cutW (w.sd (q hd) (.inr (1, [.int (g hd), .int (t hd), .ref (q hd + 24), .int (l hd), .int 4]))) (q hd) (max a0 T0) e (g hd) (nI a0) 4 (if T0 < a0 then -1 else nI T0) N)) (k' := 49) (F' := 2) (N' := 44) (C' := 0) (S' := 0) (vs := [.ref (q hd + 23)]) (st := []) rfl rfl rfl rfl (Nat.le_of_ble_eq_true rfl) (Nat.le_of_ble_eq_true rfl) (by decide) (by decide) (Nat.zero_le _) (Nat.zero_le _) (fun Q' h => r_cutOff ha hT he hnow (by rw [mWd.sd_d, ht, hl]; rfl) (by rw [mWd.sd_ne _ _ (by omega)]; exact (hc.1 hd hh).2.2.1) hN h) ?_
  refine Sp.iret rfl (Or.inl rfl) ?_
  exact hq
def r_cnt (p : Nat → Bool) : Nat → Nat → Int32 → Int32
  | _, 0, acc => acc
  | h, d + 1, acc => r_cnt p (h + 1) d (if p h = true then acc + 1 else acc)
/-- does the parcel h arrive with the tick k? -/
def r_arr (t l f : Nat → Int32) (k : Int32) (h : Nat) : Bool := decide (p_state (t h) (l h) (f h) k = 3) && decide (l h = k)
theorem r_tick_b0 {X : mX} {C S : Nat} {Q : Outcome → mM → Prop} {w : mWd} (h64 : (64 : Int32) ≤ w.f 4) (hC : 1 ≤ C) (hS : 6 ≤ S) (hx : 23 ≤ w.nx) (hq : Q (.threw 1) (mw (w.mk none 6))) : Sp X 34 6 82 C S (0, [(0, .ref 0)], []) (mw w) Q := by
  refine Sp.go 1 (g := (1, [(0, .ref 0)], [.ref 0])) rfl ?_
  refine Sp.get (v := .int (w.f 4)) rfl rfl rfl ?_
  refine Sp.go 1 (g := (6, [(0, .ref 0)], [.int 64, .int (w.f 4)])) rfl ?_
  refine Sp.icmp rfl (fun u1 => absurd u1 (k2_nlt h64)) (fun u1 => ?_)
  refine Sp.th rfl (by decide) (Nat.le_of_ble_eq_true rfl) hC hS rfl hx ?_
  exact hq
theorem r_tick_loop {X : mX} {C S : Nat} {Q : Outcome → mM → Prop} {w : mWd} {P : Nat} {q : Nat → Nat} {g t l f : Nat → Int32} {nd : Nat → Nat → Int32} (hP : w.f 3 = nI P) (h32 : P ≤ 32) (hc : c_P w P q g t l f nd) : ∀ (d hd : Nat) (acc : Int32), hd + d = P → Q (.returned (some (.int (r_cnt (r_arr t l f (w.f 4)) hd d acc)))) (mw w) → Sp X 34 6 82 C S (33, [(2, .int (nI hd)), (1, .int (acc)), (0, .ref 0)], []) (mw w) Q := by
  intro d
  induction d with
  | zero =>
    intro hd acc hh hq
    refine Sp.go 2 (g := (35, [(2, .int (nI hd)), (1, .int (acc)), (0, .ref 0)], [.ref 0, .int (nI hd)])) rfl ?_
    refine Sp.get (v := .int (w.f 3)) rfl rfl rfl ?_
    refine Sp.icmp rfl (fun u1 => ?_) (fun u1 => absurd (by rw [hP]; exact (nI_le' (by omega) (by omega)).mpr (by omega)) u1)
    refine Sp.go 1 (g := (84, [(2, .int (nI hd)), (1, .int (acc)), (0, .ref 0)], [.int (acc)])) rfl ?_
    refine Sp.iret rfl (Or.inl rfl) ?_
    exact hq
  | succ d ih =>
    intro hd acc hh0 hq
    have hh : hd < P := by omega
    simp only [r_cnt] at hq
    refine Sp.go 2 (g := (35, [(2, .int (nI hd)), (1, .int (acc)), (0, .ref 0)], [.ref 0, .int (nI hd)])) rfl ?_
    refine Sp.get (v := .int (w.f 3)) rfl rfl rfl ?_
    refine Sp.icmp rfl (fun u1 => absurd u1 (by rw [hP]; exact fun z => absurd ((nI_le' (by omega) (by omega)).mp z) (by omega))) (fun u1 => ?_)
    refine Sp.go 2 (g := (43, [(2, .int (nI hd)), (1, .int (acc)), (0, .ref 0)], [.int (nI hd), .ref 0])) rfl ?_
    refine Sp.vr (some (.ref (q hd + 23))) (mw (w)) (k' := 45) (F' := 0) (N' := 0) (C' := 0) (S' := 0) (vs := [.int (nI hd)]) (st := []) rfl rfl rfl rfl (Nat.le_of_ble_eq_true rfl) (Nat.le_of_ble_eq_true rfl) (by decide) (by decide) (Nat.zero_le _) (Nat.zero_le _) (fun Q' h => r_parcelOf_in hP h32 hh (hc.1 hd hh).1 h) ?_
    refine Sp.go 5 (g := (53, [(3, .ref (q hd + 23)), (2, .int (nI hd)), (1, .int (acc)), (0, .ref 0)], [.ref 0, .ref (q hd + 23)])) rfl ?_
    refine Sp.get (v := .int (w.f 4)) rfl rfl rfl ?_
    refine Sp.vr (some (.int (p_state (t hd) (l hd) (f hd) (w.f 4)))) (mw (w)) (k' := 15) (F' := 0) (N' := 0) (C' := 0) (S' := 0) (vs := [.int (w.f 4)]) (st := []) rfl (hc.1 hd hh).2.1 rfl rfl (Nat.le_of_ble_eq_true rfl) (Nat.le_of_ble_eq_true rfl) (by decide) (by decide) (Nat.zero_le _) (Nat.zero_le _) (fun Q' h => p_stateAt (hc.1 hd hh).2.1 h) ?_
    refine Sp.go 1 (g := (60, [(3, .ref (q hd + 23)), (2, .int (nI hd)), (1, .int (acc)), (0, .ref 0)], [.int 3, .int (p_state (t hd) (l hd) (f hd) (w.f 4))])) rfl ?_
    refine Sp.icmp rfl (fun (h2 : ¬ (p_state (t hd) (l hd) (f hd) (w.f 4) : Int32) = (3 : Int32)) => ?_) (fun (h2 : ¬ (¬ (p_state (t hd) (l hd) (f hd) (w.f 4) : Int32) = (3 : Int32))) => ?_)
    · skip
      refine Sp.go 2 (g := (33, [(2, .int (nI hd + 1)), (3, .ref (q hd + 23)), (1, .int (acc)), (0, .ref 0)], [])) rfl ?_
      refine Sp.lsub [0, 2, 3] (ls' := [(2, .int (nI hd + 1)), (1, .int (acc)), (0, .ref 0)]) rfl ?_
      rw [← nI_succ]
      refine ih (hd + 1) _ (by omega) ?_
      first | (rw [if_neg (by simp only [r_arr]; simp_all)] at hq; exact hq) | (rw [if_pos (by simp only [r_arr]; simp_all)] at hq; exact hq)
    · skip
      refine Sp.go 1 (g := (64, [(3, .ref (q hd + 23)), (2, .int (nI hd)), (1, .int (acc)), (0, .ref 0)], [.ref (q hd + 23)])) rfl ?_
      refine Sp.get (v := .int (l hd)) rfl (hc.1 hd hh).2.1 rfl ?_
      refine Sp.go 1 (g := (68, [(3, .ref (q hd + 23)), (2, .int (nI hd)), (1, .int (acc)), (0, .ref 0)], [.ref 0, .int (l hd)])) rfl ?_
      refine Sp.get (v := .int (w.f 4)) rfl rfl rfl ?_
      refine Sp.icmp rfl (fun (h3 : ¬ (l hd : Int32) = (w.f 4 : Int32)) => ?_) (fun (h3 : ¬ (¬ (l hd : Int32) = (w.f 4 : Int32))) => ?_)
      · skip
        refine Sp.go 2 (g := (33, [(2, .int (nI hd + 1)), (3, .ref (q hd + 23)), (1, .int (acc)), (0, .ref 0)], [])) rfl ?_
        refine Sp.lsub [0, 2, 3] (ls' := [(2, .int (nI hd + 1)), (1, .int (acc)), (0, .ref 0)]) rfl ?_
        rw [← nI_succ]
        refine ih (hd + 1) _ (by omega) ?_
        first | (rw [if_neg (by simp only [r_arr]; simp_all)] at hq; exact hq) | (rw [if_pos (by simp only [r_arr]; simp_all)] at hq; exact hq)
      · skip
        refine Sp.go 3 (g := (33, [(2, .int (nI hd + 1)), (1, .int (acc + 1)), (3, .ref (q hd + 23)), (0, .ref 0)], [])) rfl ?_
        refine Sp.lsub [0, 1, 3] (ls' := [(2, .int (nI hd + 1)), (1, .int (acc + 1)), (0, .ref 0)]) rfl ?_
        rw [← nI_succ]
        refine ih (hd + 1) _ (by omega) ?_
        first | (rw [if_neg (by simp only [r_arr]; simp_all)] at hq; exact hq) | (rw [if_pos (by simp only [r_arr]; simp_all)] at hq; exact hq)
theorem r_tick_ok {X : mX} {C S : Nat} {Q : Outcome → mM → Prop} {w : mWd} {P : Nat} {q : Nat → Nat} {g t l f : Nat → Int32} {nd : Nat → Nat → Int32} (hP : w.f 3 = nI P) (h32 : P ≤ 32) (hc : c_P w P q g t l f nd) (h64 : w.f 4 < 64) (hq : Q (.returned (some (.int (r_cnt (r_arr t l f (w.f 4 + 1)) 0 P 0)))) (mw (w.sf 4 (w.f 4 + 1)))) : Sp X 34 6 82 C S (0, [(0, .ref 0)], []) (mw w) Q := by
  refine Sp.go 1 (g := (1, [(0, .ref 0)], [.ref 0])) rfl ?_
  refine Sp.get (v := .int (w.f 4)) rfl rfl rfl ?_
  refine Sp.go 1 (g := (6, [(0, .ref 0)], [.int 64, .int (w.f 4)])) rfl ?_
  refine Sp.icmp rfl (fun u1 => ?_) (fun u1 => absurd h64 u1)
  refine Sp.go 2 (g := (21, [(0, .ref 0)], [.ref 0, .ref 0])) rfl ?_
  refine Sp.get (v := .int (w.f 4)) rfl rfl rfl ?_
  refine Sp.go 2 (g := (26, [(0, .ref 0)], [.int ((w.f 4) + 1), .ref 0])) rfl ?_
  refine Sp.pf4 rfl ?_
  refine Sp.go 4 (g := (33, [(2, .int 0), (1, .int 0), (0, .ref 0)], [])) rfl ?_
  exact r_tick_loop (w := w.sf 4 (w.f 4 + 1)) hP h32 hc P 0 0 (by omega) hq
