/-! The reference: what changes it. Rows laid by wip/gen/model5.py. -/
def aS.node (A : aS) (n c : Nat) : aS := (A.T, A.nc, A.P, fun m => if m = n then some c else A.pl m, A.op, A.go, A.at, A.la, A.fa, A.nd)
def aS.opn (A : aS) (a b s e : Nat) (v : Bool) : aS := (A.T, A.nc, A.P, A.pl, fun x y t => if ((x = a ∧ y = b) ∨ (x = b ∧ y = a)) ∧ s ≤ t ∧ t < e then v else A.op x y t, A.go, A.at, A.la, A.fa, A.nd)
def aS.ncs (A : aS) : aS := (A.T, A.nc + 1, A.P, A.pl, A.op, A.go, A.at, A.la, A.fa, A.nd)
def aS.end (A : aS) (h l f : Nat) : aS := (A.T, A.nc, A.P, A.pl, A.op, A.go, A.at, fun j => if j = h then l else A.la j, fun j => if j = h then f else A.fa j, A.nd)
def aS.tick (A : aS) : aS := (A.T + 1, A.nc, A.P, A.pl, A.op, A.go, A.at, A.la, fun j => if A.fa j = 0 ∧ A.la j = A.T + 1 then 3 else A.fa j, A.nd)
def aS.book (A : aS) (g s e : Nat) (r : Nat → Nat) : aS := (A.T, A.nc, A.P + 1, A.pl, A.op, fun j => if j = A.P then g else A.go j, fun j => if j = A.P then s else A.at j, fun j => if j = A.P then e else A.la j, fun j => if j = A.P then 0 else A.fa j, fun j => if j = A.P then r else A.nd j)
def a_many (A : aS) : Nat := g_cnt (fun n => (A.pl n).isSome) 8
/-- where a journey that is cut off ends -/
def a_cutla (A : aS) (h : Nat) : Nat := if A.T < A.at h then A.at h - 1 else A.T
theorem d_cnt {X : mX} {C S : Nat} {Q : Outcome → mM → Prop} {w : mWd} {A : aS} (ho : a_ok A) (hj : JR0 w A) {x y : Int32} : ∀ (d k c : Nat), k + d = 8 → c = g_cnt (fun n => (A.pl n).isSome) k → Q (.returned (some (.int (nI (a_many A))))) (mw w) → Sp X 65 0 0 C S (69, [(4, .int (nI k)), (3, .int (nI c)), (0, .ref 10), (1, .int (x)), (2, .int (y))], []) (mw w) Q := by
  intro d
  induction d with
  | zero =>
    intro k c hk hc hq
    refine Sp.go 2 (g := (73, [(4, .int (nI k)), (3, .int (nI c)), (0, .ref 10), (1, .int (x)), (2, .int (y))], [.int 8, .int (nI k)])) rfl ?_
    refine Sp.icmp rfl (fun u1 => ?_) (fun u1 => absurd ((nI_le' (a := 8) (b := k) (by omega) (by omega)).mpr (by omega)) u1)
    refine Sp.go 1 (g := (101, [(4, .int (nI k)), (3, .int (nI c)), (0, .ref 10), (1, .int (x)), (2, .int (y))], [.int (nI c)])) rfl ?_
    refine Sp.iret rfl (Or.inl rfl) ?_
    rw [hc, show k = 8 by omega]; exact hq
  | succ d ih =>
    intro k c hk hc hq
    have hcl : c ≤ k := by rw [hc]; exact g_cnt_le _ _
    refine Sp.go 2 (g := (73, [(4, .int (nI k)), (3, .int (nI c)), (0, .ref 10), (1, .int (x)), (2, .int (y))], [.int 8, .int (nI k)])) rfl ?_
    refine Sp.icmp rfl (fun u1 => absurd u1 (fun q => absurd ((nI_le' (a := 8) (b := k) (by omega) (by omega)).mp q) (by omega))) (fun u1 => ?_)
    refine Sp.go 1 (g := (77, [(4, .int (nI k)), (3, .int (nI c)), (0, .ref 10), (1, .int (x)), (2, .int (y))], [.ref 10])) rfl ?_
    refine Sp.get (v := .ref 11) rfl rfl rfl ?_
    refine Sp.go 1 (g := (82, [(4, .int (nI k)), (3, .int (nI c)), (0, .ref 10), (1, .int (x)), (2, .int (y))], [.int (nI k), .ref 11])) rfl ?_
    refine Sp.iald (f := w.a 11) (j := k) rfl rfl (m_ix_of (by simp only [nI, Int32.ofNat_add, Int32.ofNat_mul] <;> rfl) (by omega) (by omega)) ?_
    rw [hj.pl (by omega)]
    refine Sp.if rfl (fun (h2 : (a_places (A.pl k) : Int32) < (0 : Int32)) => ?_) (fun (h2 : ¬ ((a_places (A.pl k) : Int32) < (0 : Int32))) => ?_)
    · skip
      refine Sp.go 4 (g := (69, [(4, .int (nI k + 1)), (3, .int (nI c)), (0, .ref 10), (1, .int (x)), (2, .int (y))], [])) rfl ?_
      rw [show nI k + 1 = nI (k + 1) from (nI_succ k).symm]
      have e1 : (A.pl k).isSome = false := by cases hb : (A.pl k).isSome with | false => rfl | true => exact absurd h2 (i_nlt2 ((a_places_neg _ (fun c hc => ho.2.2.2.1 k c hc)).mpr hb))
      refine ih (k + 1) _ (by omega) ?_ hq
      simp only [g_cnt, ← hc, e1]; rfl
    · skip
      refine Sp.go 7 (g := (69, [(4, .int (nI k + 1)), (3, .int ((nI c) + 1)), (0, .ref 10), (1, .int (x)), (2, .int (y))], [])) rfl ?_
      rw [show nI c + 1 = nI (c + 1) from (nI_succ c).symm]
      rw [show nI k + 1 = nI (k + 1) from (nI_succ k).symm]
      have e1 : (A.pl k).isSome = true := (a_places_neg _ (fun c hc => ho.2.2.2.1 k c hc)).mp (i_nlt h2)
      refine ih (k + 1) _ (by omega) ?_ hq
      simp only [g_cnt, ← hc, e1]; rfl
theorem d_node_b1 {X : mX} {C S : Nat} {Q : Outcome → mM → Prop} {w : mWd} {x y : Int32} (hb : x < 0 ∨ (7 : Int32) < x ∨ y < 0 ∨ (4 : Int32) < y) (hq : Q (.returned (some (.int 0))) (mw (w.sf 5 1))) : Sp X 65 0 0 C S (0, [(0, .ref 10), (1, .int (x)), (2, .int (y))], []) (mw w) Q := by
  refine Sp.go 2 (g := (2, [(0, .ref 10), (1, .int (x)), (2, .int (y))], [.int (x), .ref 10])) rfl ?_
  refine Sp.if rfl (fun (h1 : (x : Int32) < (0 : Int32)) => ?_) (fun (h1 : ¬ ((x : Int32) < (0 : Int32))) => ?_)
  · skip
    refine Sp.go 2 (g := (45, [(0, .ref 10), (1, .int (x)), (2, .int (y))], [.int 1, .ref 10])) rfl ?_
    refine Sp.pf5 rfl ?_
    refine Sp.go 1 (g := (49, [(0, .ref 10), (1, .int (x)), (2, .int (y))], [.ref 10])) rfl ?_
    refine Sp.get (v := .int 1) rfl rfl rfl ?_
    refine Sp.if rfl (fun u2 => absurd u2 (show ¬ (1 : Int32) ≤ 0 by decide)) (fun u2 => ?_)
    refine Sp.go 1 (g := (56, [(0, .ref 10), (1, .int (x)), (2, .int (y))], [.int 0])) rfl ?_
    refine Sp.iret rfl (Or.inl rfl) ?_
    exact hq
  · skip
    refine Sp.go 2 (g := (8, [(0, .ref 10), (1, .int (x)), (2, .int (y))], [.int 7, .int (x), .ref 10])) rfl ?_
    refine Sp.icmp rfl (fun (h3 : (7 : Int32) < (x : Int32)) => ?_) (fun (h3 : ¬ ((7 : Int32) < (x : Int32))) => ?_)
    · skip
      refine Sp.go 2 (g := (45, [(0, .ref 10), (1, .int (x)), (2, .int (y))], [.int 1, .ref 10])) rfl ?_
      refine Sp.pf5 rfl ?_
      refine Sp.go 1 (g := (49, [(0, .ref 10), (1, .int (x)), (2, .int (y))], [.ref 10])) rfl ?_
      refine Sp.get (v := .int 1) rfl rfl rfl ?_
      refine Sp.if rfl (fun u4 => absurd u4 (show ¬ (1 : Int32) ≤ 0 by decide)) (fun u4 => ?_)
      refine Sp.go 1 (g := (56, [(0, .ref 10), (1, .int (x)), (2, .int (y))], [.int 0])) rfl ?_
      refine Sp.iret rfl (Or.inl rfl) ?_
      exact hq
    · skip
      refine Sp.go 1 (g := (12, [(0, .ref 10), (1, .int (x)), (2, .int (y))], [.int (y), .ref 10])) rfl ?_
      refine Sp.if rfl (fun (h5 : (y : Int32) < (0 : Int32)) => ?_) (fun (h5 : ¬ ((y : Int32) < (0 : Int32))) => ?_)
      · skip
        refine Sp.go 2 (g := (45, [(0, .ref 10), (1, .int (x)), (2, .int (y))], [.int 1, .ref 10])) rfl ?_
        refine Sp.pf5 rfl ?_
        refine Sp.go 1 (g := (49, [(0, .ref 10), (1, .int (x)), (2, .int (y))], [.ref 10])) rfl ?_
        refine Sp.get (v := .int 1) rfl rfl rfl ?_
        refine Sp.if rfl (fun u6 => absurd u6 (show ¬ (1 : Int32) ≤ 0 by decide)) (fun u6 => ?_)
        refine Sp.go 1 (g := (56, [(0, .ref 10), (1, .int (x)), (2, .int (y))], [.int 0])) rfl ?_
        refine Sp.iret rfl (Or.inl rfl) ?_
        exact hq
      · skip
        refine Sp.go 2 (g := (17, [(0, .ref 10), (1, .int (x)), (2, .int (y))], [.int 4, .int (y), .ref 10])) rfl ?_
        refine Sp.icmp rfl (fun (h7 : (y : Int32) ≤ (4 : Int32)) => ?_) (fun (h7 : ¬ ((y : Int32) ≤ (4 : Int32))) => ?_)
        · skip
          rcases hb with q | q | q | q
          · contradiction
          · contradiction
          · contradiction
          · exact absurd q (i_nlt2 (by assumption))
        · skip
          refine Sp.go 2 (g := (45, [(0, .ref 10), (1, .int (x)), (2, .int (y))], [.int 1, .ref 10])) rfl ?_
          refine Sp.pf5 rfl ?_
          refine Sp.go 1 (g := (49, [(0, .ref 10), (1, .int (x)), (2, .int (y))], [.ref 10])) rfl ?_
          refine Sp.get (v := .int 1) rfl rfl rfl ?_
          refine Sp.if rfl (fun u8 => absurd u8 (show ¬ (1 : Int32) ≤ 0 by decide)) (fun u8 => ?_)
          refine Sp.go 1 (g := (56, [(0, .ref 10), (1, .int (x)), (2, .int (y))], [.int 0])) rfl ?_
          refine Sp.iret rfl (Or.inl rfl) ?_
          exact hq
theorem d_node_b2 {X : mX} {C S : Nat} {Q : Outcome → mM → Prop} {w : mWd} {A : aS} (ho : a_ok A) (hj : JR0 w A) {n c : Nat} (hn : n < 8) (hc : c ≤ 4) (hb : (A.pl n).isSome = true ∨ 0 < A.nc) (hq : Q (.returned (some (.int 0))) (mw (w.sf 5 2))) : Sp X 65 0 0 C S (0, [(0, .ref 10), (1, .int (nI n)), (2, .int (nI c))], []) (mw w) Q := by
  have hnc := ho.2.1
  refine Sp.go 2 (g := (2, [(0, .ref 10), (1, .int (nI n)), (2, .int (nI c))], [.int (nI n), .ref 10])) rfl ?_
  refine Sp.if rfl (fun u1 => absurd u1 (nI_pos (by omega))) (fun u1 => ?_)
  refine Sp.go 2 (g := (8, [(0, .ref 10), (1, .int (nI n)), (2, .int (nI c))], [.int 7, .int (nI n), .ref 10])) rfl ?_
  refine Sp.icmp rfl (fun u2 => absurd u2 (fun z => absurd ((nI_lt' (a := 7) (by omega) (by omega)).mp z) (by omega))) (fun u2 => ?_)
  refine Sp.go 1 (g := (12, [(0, .ref 10), (1, .int (nI n)), (2, .int (nI c))], [.int (nI c), .ref 10])) rfl ?_
  refine Sp.if rfl (fun u3 => absurd u3 (nI_pos (by omega))) (fun u3 => ?_)
  refine Sp.go 2 (g := (17, [(0, .ref 10), (1, .int (nI n)), (2, .int (nI c))], [.int 4, .int (nI c), .ref 10])) rfl ?_
  refine Sp.icmp rfl (fun u4 => ?_) (fun u4 => absurd ((nI_le' (b := 4) (by omega) (by omega)).mpr (by omega)) u4)
  refine Sp.go 1 (g := (25, [(0, .ref 10), (1, .int (nI n)), (2, .int (nI c))], [.ref 10, .ref 10])) rfl ?_
  refine Sp.get (v := .ref 11) rfl rfl rfl ?_
  refine Sp.go 1 (g := (29, [(0, .ref 10), (1, .int (nI n)), (2, .int (nI c))], [.int (nI n), .ref 11, .ref 10])) rfl ?_
  refine Sp.iald (f := w.a 11) (j := n) rfl rfl (m_ix_of (by simp only [nI, Int32.ofNat_add, Int32.ofNat_mul] <;> rfl) (by omega) (by omega)) ?_
  rw [hj.pl (by omega)]
  refine Sp.if rfl (fun (h5 : (0 : Int32) ≤ (a_places (A.pl n) : Int32)) => ?_) (fun (h5 : ¬ ((0 : Int32) ≤ (a_places (A.pl n) : Int32))) => ?_)
  · skip
    refine Sp.go 2 (g := (45, [(0, .ref 10), (1, .int (nI n)), (2, .int (nI c))], [.int 2, .ref 10])) rfl ?_
    refine Sp.pf5 rfl ?_
    refine Sp.go 1 (g := (49, [(0, .ref 10), (1, .int (nI n)), (2, .int (nI c))], [.ref 10])) rfl ?_
    refine Sp.get (v := .int 2) rfl rfl rfl ?_
    refine Sp.if rfl (fun u6 => absurd u6 (show ¬ (2 : Int32) ≤ 0 by decide)) (fun u6 => ?_)
    refine Sp.go 1 (g := (56, [(0, .ref 10), (1, .int (nI n)), (2, .int (nI c))], [.int 0])) rfl ?_
    refine Sp.iret rfl (Or.inl rfl) ?_
    exact hq
  · skip
    refine Sp.go 1 (g := (34, [(0, .ref 10), (1, .int (nI n)), (2, .int (nI c))], [.ref 10, .ref 10])) rfl ?_
    refine Sp.get (v := .int (nI (A.nc))) rfl rfl (by rw [← hj.cs]; rfl) ?_
    refine Sp.if rfl (fun (h7 : (nI (A.nc) : Int32) ≤ (0 : Int32)) => ?_) (fun (h7 : ¬ ((nI (A.nc) : Int32) ≤ (0 : Int32))) => ?_)
    · skip
      rcases hb with q | q
      · exact absurd ((a_places_neg _ (fun c hc => ho.2.2.2.1 n c hc)).mpr q) h5
      · exact absurd ((nI_le0 (by omega)).mp ‹nI A.nc ≤ 0›) (by omega)
    · skip
      refine Sp.go 2 (g := (45, [(0, .ref 10), (1, .int (nI n)), (2, .int (nI c))], [.int 2, .ref 10])) rfl ?_
      refine Sp.pf5 rfl ?_
      refine Sp.go 1 (g := (49, [(0, .ref 10), (1, .int (nI n)), (2, .int (nI c))], [.ref 10])) rfl ?_
      refine Sp.get (v := .int 2) rfl rfl rfl ?_
      refine Sp.if rfl (fun u8 => absurd u8 (show ¬ (2 : Int32) ≤ 0 by decide)) (fun u8 => ?_)
      refine Sp.go 1 (g := (56, [(0, .ref 10), (1, .int (nI n)), (2, .int (nI c))], [.int 0])) rfl ?_
      refine Sp.iret rfl (Or.inl rfl) ?_
      exact hq
theorem JR.node {w : mWd} {A : aS} (hj : JR w A) (n c : Nat) (v : Int32) : JR ((w.sf 5 v).sa 11 (upd (w.a 11) n (nI c))) (A.node n c) := by
  obtain ⟨⟨h1, h2, h3, h4, h5, h6, _⟩, h7⟩ := hj
  refine ⟨⟨h1, h2, h3, fun m hm => ?_, h5, h6, trivial⟩, h7⟩
  show upd (w.a 11) n (nI c) m = a_places (if m = n then some c else A.pl m)
  unfold upd
  split
  · rfl
  · exact h4 m hm
theorem a_ok.node {A : aS} (ho : a_ok A) {n c : Nat} (hc : c ≤ 4) : a_ok (A.node n c) := by
  obtain ⟨h1, h2, h3, h4, h5⟩ := ho
  refine ⟨h1, h2, h3, fun m c' h => ?_, h5⟩
  have h : (if m = n then some c else A.pl m) = some c' := h
  split at h
  · cases h; exact hc
  · exact h4 m c' h
theorem d_node_ok {X : mX} {C S : Nat} {Q : Outcome → mM → Prop} {w : mWd} {A : aS} (ho : a_ok A) (hj : JR w A) {n c : Nat} (hn : n < 8) (hc : c ≤ 4) (hb : (A.pl n).isSome = false) (h0 : A.nc = 0) (hq : Q (.returned (some (.int (nI (a_many (A.node n c)))))) (mw ((w.sf 5 0).sa 11 (upd (w.a 11) n (nI c))))) : Sp X 65 0 0 C S (0, [(0, .ref 10), (1, .int (nI n)), (2, .int (nI c))], []) (mw w) Q := by
  have hnc := ho.2.1
  refine Sp.go 2 (g := (2, [(0, .ref 10), (1, .int (nI n)), (2, .int (nI c))], [.int (nI n), .ref 10])) rfl ?_
  refine Sp.if rfl (fun u1 => absurd u1 (nI_pos (by omega))) (fun u1 => ?_)
  refine Sp.go 2 (g := (8, [(0, .ref 10), (1, .int (nI n)), (2, .int (nI c))], [.int 7, .int (nI n), .ref 10])) rfl ?_
  refine Sp.icmp rfl (fun u2 => absurd u2 (fun z => absurd ((nI_lt' (a := 7) (by omega) (by omega)).mp z) (by omega))) (fun u2 => ?_)
  refine Sp.go 1 (g := (12, [(0, .ref 10), (1, .int (nI n)), (2, .int (nI c))], [.int (nI c), .ref 10])) rfl ?_
  refine Sp.if rfl (fun u3 => absurd u3 (nI_pos (by omega))) (fun u3 => ?_)
  refine Sp.go 2 (g := (17, [(0, .ref 10), (1, .int (nI n)), (2, .int (nI c))], [.int 4, .int (nI c), .ref 10])) rfl ?_
  refine Sp.icmp rfl (fun u4 => ?_) (fun u4 => absurd ((nI_le' (b := 4) (by omega) (by omega)).mpr (by omega)) u4)
  refine Sp.go 1 (g := (25, [(0, .ref 10), (1, .int (nI n)), (2, .int (nI c))], [.ref 10, .ref 10])) rfl ?_
  refine Sp.get (v := .ref 11) rfl rfl rfl ?_
  refine Sp.go 1 (g := (29, [(0, .ref 10), (1, .int (nI n)), (2, .int (nI c))], [.int (nI n), .ref 11, .ref 10])) rfl ?_
  refine Sp.iald (f := w.a 11) (j := n) rfl rfl (m_ix_of (by simp only [nI, Int32.ofNat_add, Int32.ofNat_mul] <;> rfl) (by omega) (by omega)) ?_
  rw [hj.1.pl (by omega)]
  refine Sp.if rfl (fun u5 => absurd u5 (fun z => absurd ((a_places_neg _ (fun c hc => ho.2.2.2.1 n c hc)).mp z) (by rw [hb]; decide))) (fun u5 => ?_)
  refine Sp.go 1 (g := (34, [(0, .ref 10), (1, .int (nI n)), (2, .int (nI c))], [.ref 10, .ref 10])) rfl ?_
  refine Sp.get (v := .int (nI (A.nc))) rfl rfl (by rw [← hj.1.cs]; rfl) ?_
  refine Sp.if rfl (fun u6 => ?_) (fun u6 => absurd ((nI_le0 (by omega)).mpr h0) u6)
  refine Sp.go 1 (g := (45, [(0, .ref 10), (1, .int (nI n)), (2, .int (nI c))], [.int 0, .ref 10])) rfl ?_
  refine Sp.pf5 rfl ?_
  refine Sp.go 1 (g := (49, [(0, .ref 10), (1, .int (nI n)), (2, .int (nI c))], [.ref 10])) rfl ?_
  refine Sp.get (v := .int 0) rfl rfl rfl ?_
  refine Sp.if rfl (fun u7 => ?_) (fun u7 => absurd (show (0 : Int32) ≤ 0 by decide) u7)
  refine Sp.go 1 (g := (58, [(0, .ref 10), (1, .int (nI n)), (2, .int (nI c))], [.ref 10])) rfl ?_
  refine Sp.get (v := .ref 11) rfl rfl rfl ?_
  refine Sp.go 2 (g := (63, [(0, .ref 10), (1, .int (nI n)), (2, .int (nI c))], [.int (nI c), .int (nI n), .ref 11])) rfl ?_
  refine Sp.pa11 (j := n) rfl (m_ix_of (by simp only [nI, Int32.ofNat_add, Int32.ofNat_mul] <;> rfl) (by omega) (by omega)) ?_
  refine Sp.wd (w' := ((w).sf 5 (0)).sa 11 (upd (w.a 11) n (nI c))) rfl ?_
  refine Sp.go 4 (g := (69, [(4, .int 0), (3, .int 0), (0, .ref 10), (1, .int (nI n)), (2, .int (nI c))], [])) rfl ?_
  exact d_cnt (ho.node hc) (hj.node n c 0).1 8 0 0 rfl rfl hq
theorem d_contact_t {X : mX} {C S : Nat} {Q : Outcome → mM → Prop} {w : mWd} {x y z u : Int32} : ∀ (v : Int32), ¬ v ≤ 0 → Q (.returned (some (.int 0))) (mw (w.sf 5 v)) → Sp X 66 2 43 C S (52, [(0, .ref 10), (1, .int (x)), (2, .int (y)), (3, .int (z)), (4, .int (u))], []) (mw (w.sf 5 v)) Q := by
  intro v h0 hq
  have h1 : ¬ v = 0 := fun z => h0 (by rw [z]; decide)
  refine Sp.go 4 (g := (59, [(5, .int (z)), (0, .ref 10), (1, .int (x)), (2, .int (y)), (3, .int (z)), (4, .int (u))], [.int (u), .int (z)])) rfl ?_
  refine Sp.icmp rfl (fun (h11 : (u : Int32) ≤ (z : Int32)) => ?_) (fun (h11 : ¬ ((u : Int32) ≤ (z : Int32))) => ?_)
  · skip
    refine Sp.go 1 (g := (96, [(5, .int (z)), (0, .ref 10), (1, .int (x)), (2, .int (y)), (3, .int (z)), (4, .int (u))], [.ref 10])) rfl ?_
    refine Sp.get (v := .int (v)) rfl rfl rfl ?_
    refine Sp.if rfl (fun u12 => absurd u12 h0) (fun u12 => ?_)
    refine Sp.go 1 (g := (103, [(5, .int (z)), (0, .ref 10), (1, .int (x)), (2, .int (y)), (3, .int (z)), (4, .int (u))], [.int 0])) rfl ?_
    refine Sp.iret rfl (Or.inl rfl) ?_
    exact hq
  · skip
    refine Sp.go 1 (g := (63, [(5, .int (z)), (0, .ref 10), (1, .int (x)), (2, .int (y)), (3, .int (z)), (4, .int (u))], [.ref 10])) rfl ?_
    refine Sp.get (v := .int (v)) rfl rfl rfl ?_
    refine Sp.if rfl (fun u13 => ?_) (fun u13 => absurd h1 u13)
    refine Sp.go 1 (g := (96, [(5, .int (z)), (0, .ref 10), (1, .int (x)), (2, .int (y)), (3, .int (z)), (4, .int (u))], [.ref 10])) rfl ?_
    refine Sp.get (v := .int (v)) rfl rfl rfl ?_
    refine Sp.if rfl (fun u14 => absurd u14 h0) (fun u14 => ?_)
    refine Sp.go 1 (g := (103, [(5, .int (z)), (0, .ref 10), (1, .int (x)), (2, .int (y)), (3, .int (z)), (4, .int (u))], [.int 0])) rfl ?_
    refine Sp.iret rfl (Or.inl rfl) ?_
    exact hq
theorem d_contact_b1 {X : mX} {C S : Nat} {Q : Outcome → mM → Prop} {w : mWd} {A : aS} (ho : a_ok A) (hj : JR0 w A) {x y z u : Int32} (hb : a_pair A x y = false ∨ z < nI A.T ∨ u ≤ z ∨ (64 : Int32) < u) (hq : Q (.returned (some (.int 0))) (mw (w.sf 5 1))) : Sp X 66 2 43 C S (0, [(0, .ref 10), (1, .int (x)), (2, .int (y)), (3, .int (z)), (4, .int (u))], []) (mw w) Q := by
  refine Sp.go 4 (g := (4, [(0, .ref 10), (1, .int (x)), (2, .int (y)), (3, .int (z)), (4, .int (u))], [.int (y), .int (x), .ref 10, .ref 10])) rfl ?_
  refine Sp.vr (some (.int (m_b2 (!a_pair A (x) (y))))) (mw (w)) (k' := 55) (F' := 1) (N' := 21) (C' := 0) (S' := 0) (vs := [.int (x), .int (y)]) (st := [.ref 10]) rfl rfl rfl rfl (Nat.le_of_ble_eq_true rfl) (Nat.le_of_ble_eq_true rfl) (by decide) (by decide) (Nat.zero_le _) (Nat.zero_le _) (fun Q' h => d_noPair ho hj h) ?_
  refine Sp.ifbn rfl (fun h1 => ?_) (fun h1 => ?_)
  · skip
    refine Sp.go 2 (g := (49, [(0, .ref 10), (1, .int (x)), (2, .int (y)), (3, .int (z)), (4, .int (u))], [.int 1, .ref 10])) rfl ?_
    refine Sp.pf5 rfl ?_
    exact d_contact_t 1 (by decide) hq
  · skip
    refine Sp.go 2 (g := (12, [(0, .ref 10), (1, .int (x)), (2, .int (y)), (3, .int (z)), (4, .int (u))], [.ref 10, .int (z), .ref 10])) rfl ?_
    refine Sp.get (v := .int (nI (A.T))) rfl rfl (by rw [← hj.now]; rfl) ?_
    refine Sp.icmp rfl (fun (h2 : (z : Int32) < (nI (A.T) : Int32)) => ?_) (fun (h2 : ¬ ((z : Int32) < (nI (A.T) : Int32))) => ?_)
    · skip
      refine Sp.go 2 (g := (49, [(0, .ref 10), (1, .int (x)), (2, .int (y)), (3, .int (z)), (4, .int (u))], [.int 1, .ref 10])) rfl ?_
      refine Sp.pf5 rfl ?_
      exact d_contact_t 1 (by decide) hq
    · skip
      refine Sp.go 2 (g := (21, [(0, .ref 10), (1, .int (x)), (2, .int (y)), (3, .int (z)), (4, .int (u))], [.int (u), .int (z), .ref 10])) rfl ?_
      refine Sp.icmp rfl (fun (h3 : (u : Int32) ≤ (z : Int32)) => ?_) (fun (h3 : ¬ ((u : Int32) ≤ (z : Int32))) => ?_)
      · skip
        refine Sp.go 2 (g := (49, [(0, .ref 10), (1, .int (x)), (2, .int (y)), (3, .int (z)), (4, .int (u))], [.int 1, .ref 10])) rfl ?_
        refine Sp.pf5 rfl ?_
        exact d_contact_t 1 (by decide) hq
      · skip
        refine Sp.go 2 (g := (28, [(0, .ref 10), (1, .int (x)), (2, .int (y)), (3, .int (z)), (4, .int (u))], [.int 64, .int (u), .ref 10])) rfl ?_
        refine Sp.icmp rfl (fun (h4 : (u : Int32) ≤ (64 : Int32)) => ?_) (fun (h4 : ¬ ((u : Int32) ≤ (64 : Int32))) => ?_)
        · skip
          rcases hb with q | q | q | q
          · rw [q] at h1; exact absurd h1 (by decide)
          · exact absurd q h2
          · exact absurd q h3
          · exact absurd q (i_nlt2 h4)
        · skip
          refine Sp.go 2 (g := (49, [(0, .ref 10), (1, .int (x)), (2, .int (y)), (3, .int (z)), (4, .int (u))], [.int 1, .ref 10])) rfl ?_
          refine Sp.pf5 rfl ?_
          exact d_contact_t 1 (by decide) hq
theorem d_contact_b2 {X : mX} {C S : Nat} {Q : Outcome → mM → Prop} {w : mWd} {A : aS} (ho : a_ok A) (hj : JR0 w A) {x y z u : Int32} (hp : a_pair A x y = true) (g1 : ¬ z < nI A.T) (g2 : ¬ u ≤ z) (g3 : u ≤ (64 : Int32)) (hk : A.nc = 24) (hq : Q (.returned (some (.int 0))) (mw (w.sf 5 2))) : Sp X 66 2 43 C S (0, [(0, .ref 10), (1, .int (x)), (2, .int (y)), (3, .int (z)), (4, .int (u))], []) (mw w) Q := by
  refine Sp.go 4 (g := (4, [(0, .ref 10), (1, .int (x)), (2, .int (y)), (3, .int (z)), (4, .int (u))], [.int (y), .int (x), .ref 10, .ref 10])) rfl ?_
  refine Sp.vr (some (.int (m_b2 (!a_pair A (x) (y))))) (mw (w)) (k' := 55) (F' := 1) (N' := 21) (C' := 0) (S' := 0) (vs := [.int (x), .int (y)]) (st := [.ref 10]) rfl rfl rfl rfl (Nat.le_of_ble_eq_true rfl) (Nat.le_of_ble_eq_true rfl) (by decide) (by decide) (Nat.zero_le _) (Nat.zero_le _) (fun Q' h => d_noPair ho hj h) ?_
  refine Sp.ifbn rfl (fun u1 => absurd u1 (by rw [hp]; decide)) (fun u1 => ?_)
  refine Sp.go 2 (g := (12, [(0, .ref 10), (1, .int (x)), (2, .int (y)), (3, .int (z)), (4, .int (u))], [.ref 10, .int (z), .ref 10])) rfl ?_
  refine Sp.get (v := .int (nI (A.T))) rfl rfl (by rw [← hj.now]; rfl) ?_
  refine Sp.icmp rfl (fun u2 => absurd u2 g1) (fun u2 => ?_)
  refine Sp.go 2 (g := (21, [(0, .ref 10), (1, .int (x)), (2, .int (y)), (3, .int (z)), (4, .int (u))], [.int (u), .int (z), .ref 10])) rfl ?_
  refine Sp.icmp rfl (fun u3 => absurd u3 g2) (fun u3 => ?_)
  refine Sp.go 2 (g := (28, [(0, .ref 10), (1, .int (x)), (2, .int (y)), (3, .int (z)), (4, .int (u))], [.int 64, .int (u), .ref 10])) rfl ?_
  refine Sp.icmp rfl (fun u4 => ?_) (fun u4 => absurd g3 u4)
  refine Sp.go 1 (g := (36, [(0, .ref 10), (1, .int (x)), (2, .int (y)), (3, .int (z)), (4, .int (u))], [.ref 10, .ref 10])) rfl ?_
  refine Sp.get (v := .int (nI (A.nc))) rfl rfl (by rw [← hj.cs]; rfl) ?_
  refine Sp.go 1 (g := (41, [(0, .ref 10), (1, .int (x)), (2, .int (y)), (3, .int (z)), (4, .int (u))], [.int 24, .int (nI (A.nc)), .ref 10])) rfl ?_
  refine Sp.icmp rfl (fun u5 => absurd u5 (fun z => z (by rw [hk]; rfl))) (fun u5 => ?_)
  refine Sp.go 2 (g := (49, [(0, .ref 10), (1, .int (x)), (2, .int (y)), (3, .int (z)), (4, .int (u))], [.int 2, .ref 10])) rfl ?_
  refine Sp.pf5 rfl ?_
  exact d_contact_t 2 (by decide) hq
theorem d_opens {X : mX} {C S : Nat} {Q : Outcome → mM → Prop} {w : mWd} {A : aS} (ho : a_ok A) (hj : JR0 w A) {a b e : Nat} {v3 : Int32} (ha : a < 8) (hb : b < 8) (he : e ≤ 64) : ∀ (d t : Nat), t + d = max t e → t ≤ 64 → (m_any (fun t => A.op a b t) t d = true → Q (.returned (some (.int 0))) (mw (w.sf 5 2))) → (m_any (fun t => A.op a b t) t d = false → ∀ x : Int32, Sp X 66 2 43 C S (95, [(5, .int x), (0, .ref 10), (1, .int (nI a)), (2, .int (nI b)), (3, .int (v3)), (4, .int (nI e))], []) (mw (w.sf 5 0)) Q) → Sp X 66 2 43 C S (55, [(5, .int (nI t)), (0, .ref 10), (1, .int (nI a)), (2, .int (nI b)), (3, .int (v3)), (4, .int (nI e))], []) (mw (w.sf 5 0)) Q := by
  intro d
  induction d with
  | zero =>
    intro t hd ht k1 k2
    refine Sp.go 2 (g := (59, [(5, .int (nI t)), (0, .ref 10), (1, .int (nI a)), (2, .int (nI b)), (3, .int (v3)), (4, .int (nI e))], [.int (nI e), .int (nI t)])) rfl ?_
    refine Sp.icmp rfl (fun u1 => ?_) (fun u1 => absurd ((nI_le' (by omega) (by omega)).mpr (by omega)) u1)
    exact k2 rfl _
  | succ d ih =>
    intro t hd ht k1 k2
    refine Sp.go 2 (g := (59, [(5, .int (nI t)), (0, .ref 10), (1, .int (nI a)), (2, .int (nI b)), (3, .int (v3)), (4, .int (nI e))], [.int (nI e), .int (nI t)])) rfl ?_
    refine Sp.icmp rfl (fun u1 => absurd u1 (fun z => absurd ((nI_le' (by omega) (by omega)).mp z) (by omega))) (fun u1 => ?_)
    refine Sp.go 1 (g := (63, [(5, .int (nI t)), (0, .ref 10), (1, .int (nI a)), (2, .int (nI b)), (3, .int (v3)), (4, .int (nI e))], [.ref 10])) rfl ?_
    refine Sp.get (v := .int 0) rfl rfl rfl ?_
    refine Sp.if rfl (fun u2 => absurd u2 (fun z => z rfl)) (fun u2 => ?_)
    refine Sp.go 5 (g := (75, [(5, .int (nI t)), (0, .ref 10), (1, .int (nI a)), (2, .int (nI b)), (3, .int (v3)), (4, .int (nI e))], [.int (nI t), .int (nI b), .int (nI a), .ref 10, .ref 10])) rfl ?_
    refine Sp.vr (some (.int (m_b2 (A.op a b t)))) (mw (w.sf 5 (0))) (k' := 57) (F' := 0) (N' := 0) (C' := 0) (S' := 0) (vs := [.int (nI a), .int (nI b), .int (nI t)]) (st := [.ref 10]) rfl rfl rfl rfl (Nat.le_of_ble_eq_true rfl) (Nat.le_of_ble_eq_true rfl) (by decide) (by decide) (Nat.zero_le _) (Nat.zero_le _) (fun Q' h => d_isOpen ho hj.t (by omega) (by omega) (by omega) h) ?_
    refine Sp.ifb rfl (fun h3 => ?_) (fun h3 => ?_)
    · skip
      refine Sp.go 1 (g := (86, [(5, .int (nI t)), (0, .ref 10), (1, .int (nI a)), (2, .int (nI b)), (3, .int (v3)), (4, .int (nI e))], [.int 0, .ref 10])) rfl ?_
      refine Sp.pf5 rfl ?_
      refine Sp.wd (w' := w.sf 5 (0)) (mWd.sf_sf ..) ?_
      refine Sp.go 2 (g := (55, [(5, .int (nI t + 1)), (0, .ref 10), (1, .int (nI a)), (2, .int (nI b)), (3, .int (v3)), (4, .int (nI e))], [])) rfl ?_
      rw [show nI t + 1 = nI (t + 1) from (nI_succ t).symm]
      refine ih (t + 1) (by omega) (by omega) (fun z => k1 (by simp only [m_any, z, Bool.or_true])) (fun z => k2 (by simp only [m_any, h3, z, Bool.or_false]))
    · skip
      refine Sp.go 2 (g := (86, [(5, .int (nI t)), (0, .ref 10), (1, .int (nI a)), (2, .int (nI b)), (3, .int (v3)), (4, .int (nI e))], [.int 2, .ref 10])) rfl ?_
      refine Sp.pf5 rfl ?_
      refine Sp.wd (w' := w.sf 5 (2)) (mWd.sf_sf ..) ?_
      refine Sp.go 2 (g := (55, [(5, .int (nI t + 1)), (0, .ref 10), (1, .int (nI a)), (2, .int (nI b)), (3, .int (v3)), (4, .int (nI e))], [])) rfl ?_
      have k3 := k1 (by simp only [m_any, h3, Bool.true_or])
      refine Sp.go 2 (g := (59, [(5, .int (nI t + 1)), (0, .ref 10), (1, .int (nI a)), (2, .int (nI b)), (3, .int (v3)), (4, .int (nI e))], [.int (nI e), .int (nI t + 1)])) rfl ?_
      refine Sp.icmp rfl (fun (h11 : (nI e : Int32) ≤ (nI t + 1 : Int32)) => ?_) (fun (h11 : ¬ ((nI e : Int32) ≤ (nI t + 1 : Int32))) => ?_)
      · skip
        refine Sp.go 1 (g := (96, [(5, .int (nI t + 1)), (0, .ref 10), (1, .int (nI a)), (2, .int (nI b)), (3, .int (v3)), (4, .int (nI e))], [.ref 10])) rfl ?_
        refine Sp.get (v := .int 2) rfl rfl rfl ?_
        refine Sp.if rfl (fun u12 => absurd u12 (show ¬ (2 : Int32) ≤ 0 by decide)) (fun u12 => ?_)
        refine Sp.go 1 (g := (103, [(5, .int (nI t + 1)), (0, .ref 10), (1, .int (nI a)), (2, .int (nI b)), (3, .int (v3)), (4, .int (nI e))], [.int 0])) rfl ?_
        refine Sp.iret rfl (Or.inl rfl) ?_
        exact k3
      · skip
        refine Sp.go 1 (g := (63, [(5, .int (nI t + 1)), (0, .ref 10), (1, .int (nI a)), (2, .int (nI b)), (3, .int (v3)), (4, .int (nI e))], [.ref 10])) rfl ?_
        refine Sp.get (v := .int 2) rfl rfl rfl ?_
        refine Sp.if rfl (fun u13 => ?_) (fun u13 => absurd (show ¬ (2 : Int32) = 0 by decide) u13)
        refine Sp.go 1 (g := (96, [(5, .int (nI t + 1)), (0, .ref 10), (1, .int (nI a)), (2, .int (nI b)), (3, .int (v3)), (4, .int (nI e))], [.ref 10])) rfl ?_
        refine Sp.get (v := .int 2) rfl rfl rfl ?_
        refine Sp.if rfl (fun u14 => absurd u14 (show ¬ (2 : Int32) ≤ 0 by decide)) (fun u14 => ?_)
        refine Sp.go 1 (g := (103, [(5, .int (nI t + 1)), (0, .ref 10), (1, .int (nI a)), (2, .int (nI b)), (3, .int (v3)), (4, .int (nI e))], [.int 0])) rfl ?_
        refine Sp.iret rfl (Or.inl rfl) ?_
        exact k3
def d_sets (a b : Nat) (v : Int32) : Nat → Nat → (Nat → Int32) → Nat → Int32
  | _, 0, ro => ro
  | t, d + 1, ro => d_sets a b v (t + 1) d (d_set ro a b t v)
theorem d_set_at {ro : Nat → Int32} {a b t x y u : Nat} {v : Int32} (ha : a < 8) (hb : b < 8) (ht : t < 64) (hx : x < 8) (hy : y < 8) (hu : u < 64) : d_set ro a b t v (512 * x + 64 * y + u) = if ((x = a ∧ y = b) ∨ (x = b ∧ y = a)) ∧ u = t then v else ro (512 * x + 64 * y + u) := by
  simp only [d_set, upd]
  split
  · rw [if_pos (by omega)]
  · split
    · rw [if_pos (by omega)]
    · rw [if_neg (by omega)]
theorem d_sets_at {a b : Nat} {v : Int32} (ha : a < 8) (hb : b < 8) {x y u : Nat} (hx : x < 8) (hy : y < 8) (hu : u < 64) : ∀ (d t : Nat) (ro : Nat → Int32), t + d ≤ 64 → d_sets a b v t d ro (512 * x + 64 * y + u) = if ((x = a ∧ y = b) ∨ (x = b ∧ y = a)) ∧ t ≤ u ∧ u < t + d then v else ro (512 * x + 64 * y + u) := by
  intro d
  induction d with
  | zero => intro t ro h; simp only [d_sets]; rw [if_neg (by omega)]
  | succ d ih =>
    intro t ro h
    simp only [d_sets]
    rw [ih (t + 1) _ (by omega), d_set_at ha hb (by omega) hx hy hu]
    by_cases hc : (x = a ∧ y = b) ∨ (x = b ∧ y = a)
    · by_cases h1 : t + 1 ≤ u ∧ u < t + 1 + d
      · rw [if_pos ⟨hc, h1⟩, if_pos ⟨hc, by omega, by omega⟩]
      · rw [if_neg (fun z => h1 z.2)]
        by_cases h2 : u = t
        · rw [if_pos ⟨hc, h2⟩, if_pos ⟨hc, by omega, by omega⟩]
        · rw [if_neg (fun z => h2 z.2), if_neg (fun z => by have := z.2; omega)]
    · rw [if_neg (fun z => hc z.1), if_neg (fun z => hc z.1), if_neg (fun z => hc z.1)]
theorem JR.opn {w : mWd} {A : aS} (hj : JR w A) {a b s d : Nat} (ha : a < 8) (hb : b < 8) (hd : s + d ≤ 64) (v : Bool) : JR (w.sa 12 (d_sets a b (m_b2 v) s d (w.a 12))) (A.opn a b s (s + d) v) := by
  obtain ⟨⟨h1, h2, h3, h4, h5, h6, _⟩, h7⟩ := hj
  refine ⟨⟨h1, h2, h3, h4, fun x y t hx hy ht => ?_, h6, trivial⟩, h7⟩
  show d_sets a b (m_b2 v) s d (w.a 12) (512 * x + 64 * y + t) = m_b2 (if ((x = a ∧ y = b) ∨ (x = b ∧ y = a)) ∧ s ≤ t ∧ t < s + d then v else A.op x y t)
  rw [d_sets_at ha hb hx hy ht d s _ hd]
  split
  · rfl
  · exact h5 x y t hx hy ht
theorem d_setsC {X : mX} {C S : Nat} {Q : Outcome → mM → Prop} {a b e : Nat} {v3 : Int32} (ha : a < 8) (hb : b < 8) (he : e ≤ 64) : ∀ (d t : Nat) (w : mWd), t + d = e → Sp X 66 2 43 C S (129, [(5, .int (nI e)), (0, .ref 10), (1, .int (nI a)), (2, .int (nI b)), (3, .int (v3)), (4, .int (nI e))], []) (mw (w.sa 12 (d_sets a b 1 t d (w.a 12)))) Q → Sp X 66 2 43 C S (107, [(5, .int (nI t)), (0, .ref 10), (1, .int (nI a)), (2, .int (nI b)), (3, .int (v3)), (4, .int (nI e))], []) (mw w) Q := by
  intro d
  induction d with
  | zero =>
    intro t w hd kk
    have et : t = e := by omega
    subst et
    refine Sp.go 2 (g := (111, [(5, .int (nI t)), (0, .ref 10), (1, .int (nI a)), (2, .int (nI b)), (3, .int (v3)), (4, .int (nI t))], [.int (nI t), .int (nI t)])) rfl ?_
    refine Sp.icmp rfl (fun u1 => ?_) (fun u1 => absurd ((nI_le' (by omega) (by omega)).mpr (by omega)) u1)
    rw [show d_sets a b 1 t 0 (w.a 12) = w.a 12 from rfl, mWd.sa_self] at kk
    exact kk
  | succ d ih =>
    intro t w hd kk
    refine Sp.go 2 (g := (111, [(5, .int (nI t)), (0, .ref 10), (1, .int (nI a)), (2, .int (nI b)), (3, .int (v3)), (4, .int (nI e))], [.int (nI e), .int (nI t)])) rfl ?_
    refine Sp.icmp rfl (fun u1 => absurd u1 (fun z => absurd ((nI_le' (by omega) (by omega)).mp z) (by omega))) (fun u1 => ?_)
    refine Sp.go 5 (g := (120, [(5, .int (nI t)), (0, .ref 10), (1, .int (nI a)), (2, .int (nI b)), (3, .int (v3)), (4, .int (nI e))], [.int 1, .int (nI t), .int (nI b), .int (nI a), .ref 10])) rfl ?_
    refine Sp.vr none (mw (w.sa 12 (d_set (w.a 12) a b t 1))) (k' := 58) (F' := 0) (N' := 0) (C' := 0) (S' := 0) (vs := [.int (nI a), .int (nI b), .int (nI t), .int 1]) (st := []) rfl rfl rfl rfl (Nat.le_of_ble_eq_true rfl) (Nat.le_of_ble_eq_true rfl) (by decide) (by decide) (Nat.zero_le _) (Nat.zero_le _) (fun Q' h => d_setT (by omega) (by omega) (by omega) (by decide) h) ?_
    refine Sp.go 2 (g := (107, [(5, .int (nI t + 1)), (0, .ref 10), (1, .int (nI a)), (2, .int (nI b)), (3, .int (v3)), (4, .int (nI e))], [])) rfl ?_
    rw [show nI t + 1 = nI (t + 1) from (nI_succ t).symm]
    refine ih (t + 1) _ (by omega) ?_
    rw [mWd.sa_sa]
    exact kk
theorem d_contact_b3 {X : mX} {C S : Nat} {Q : Outcome → mM → Prop} {w : mWd} {A : aS} (ho : a_ok A) (hj : JR0 w A) {a b s e : Nat} (ha : a < 8) (hb : b < 8) (he : e ≤ 64) (hse : s < e) (hp : a_pair A (nI a) (nI b) = true) (g1 : ¬ nI s < nI A.T) (g2 : ¬ nI e ≤ nI s) (g3 : nI e ≤ (64 : Int32)) (hk : A.nc < 24) (hx : m_any (fun t => A.op a b t) s (e - s) = true) (hq : Q (.returned (some (.int 0))) (mw (w.sf 5 2))) : Sp X 66 2 43 C S (0, [(0, .ref 10), (1, .int (nI a)), (2, .int (nI b)), (3, .int (nI s)), (4, .int (nI e))], []) (mw w) Q := by
  refine Sp.go 4 (g := (4, [(0, .ref 10), (1, .int (nI a)), (2, .int (nI b)), (3, .int (nI s)), (4, .int (nI e))], [.int (nI b), .int (nI a), .ref 10, .ref 10])) rfl ?_
  refine Sp.vr (some (.int (m_b2 (!a_pair A (nI a) (nI b))))) (mw (w)) (k' := 55) (F' := 1) (N' := 21) (C' := 0) (S' := 0) (vs := [.int (nI a), .int (nI b)]) (st := [.ref 10]) rfl rfl rfl rfl (Nat.le_of_ble_eq_true rfl) (Nat.le_of_ble_eq_true rfl) (by decide) (by decide) (Nat.zero_le _) (Nat.zero_le _) (fun Q' h => d_noPair ho hj h) ?_
  refine Sp.ifbn rfl (fun u1 => absurd u1 (by rw [hp]; decide)) (fun u1 => ?_)
  refine Sp.go 2 (g := (12, [(0, .ref 10), (1, .int (nI a)), (2, .int (nI b)), (3, .int (nI s)), (4, .int (nI e))], [.ref 10, .int (nI s), .ref 10])) rfl ?_
  refine Sp.get (v := .int (nI (A.T))) rfl rfl (by rw [← hj.now]; rfl) ?_
  refine Sp.icmp rfl (fun u2 => absurd u2 g1) (fun u2 => ?_)
  refine Sp.go 2 (g := (21, [(0, .ref 10), (1, .int (nI a)), (2, .int (nI b)), (3, .int (nI s)), (4, .int (nI e))], [.int (nI e), .int (nI s), .ref 10])) rfl ?_
  refine Sp.icmp rfl (fun u3 => absurd u3 g2) (fun u3 => ?_)
  refine Sp.go 2 (g := (28, [(0, .ref 10), (1, .int (nI a)), (2, .int (nI b)), (3, .int (nI s)), (4, .int (nI e))], [.int 64, .int (nI e), .ref 10])) rfl ?_
  refine Sp.icmp rfl (fun u4 => ?_) (fun u4 => absurd g3 u4)
  refine Sp.go 1 (g := (36, [(0, .ref 10), (1, .int (nI a)), (2, .int (nI b)), (3, .int (nI s)), (4, .int (nI e))], [.ref 10, .ref 10])) rfl ?_
  refine Sp.get (v := .int (nI (A.nc))) rfl rfl (by rw [← hj.cs]; rfl) ?_
  refine Sp.go 1 (g := (41, [(0, .ref 10), (1, .int (nI a)), (2, .int (nI b)), (3, .int (nI s)), (4, .int (nI e))], [.int 24, .int (nI (A.nc)), .ref 10])) rfl ?_
  refine Sp.icmp rfl (fun u5 => ?_) (fun u5 => absurd (fun z => absurd ((nI_inj (b := 24) (by omega) (by omega)).mp z) (by omega)) u5)
  refine Sp.go 1 (g := (49, [(0, .ref 10), (1, .int (nI a)), (2, .int (nI b)), (3, .int (nI s)), (4, .int (nI e))], [.int 0, .ref 10])) rfl ?_
  refine Sp.pf5 rfl ?_
  refine Sp.go 2 (g := (55, [(5, .int (nI s)), (0, .ref 10), (1, .int (nI a)), (2, .int (nI b)), (3, .int (nI s)), (4, .int (nI e))], [])) rfl ?_
  exact d_opens ho hj ha hb he (e - s) s (by omega) (by omega) (fun _ => hq) (fun z => absurd z (by rw [hx]; decide))
theorem d_contact_ok {X : mX} {C S : Nat} {Q : Outcome → mM → Prop} {w : mWd} {A : aS} (ho : a_ok A) (hj : JR0 w A) {a b s e : Nat} (ha : a < 8) (hb : b < 8) (he : e ≤ 64) (hse : s < e) (hp : a_pair A (nI a) (nI b) = true) (g1 : ¬ nI s < nI A.T) (g2 : ¬ nI e ≤ nI s) (g3 : nI e ≤ (64 : Int32)) (hk : A.nc < 24) (hx : m_any (fun t => A.op a b t) s (e - s) = false) (hq : Q (.returned (some (.int (nI A.nc + 1)))) (mw (((w.sf 5 0).sa 12 (d_sets a b 1 s (e - s) (w.a 12))).sf 7 (nI A.nc + 1)))) : Sp X 66 2 43 C S (0, [(0, .ref 10), (1, .int (nI a)), (2, .int (nI b)), (3, .int (nI s)), (4, .int (nI e))], []) (mw w) Q := by
  refine Sp.go 4 (g := (4, [(0, .ref 10), (1, .int (nI a)), (2, .int (nI b)), (3, .int (nI s)), (4, .int (nI e))], [.int (nI b), .int (nI a), .ref 10, .ref 10])) rfl ?_
  refine Sp.vr (some (.int (m_b2 (!a_pair A (nI a) (nI b))))) (mw (w)) (k' := 55) (F' := 1) (N' := 21) (C' := 0) (S' := 0) (vs := [.int (nI a), .int (nI b)]) (st := [.ref 10]) rfl rfl rfl rfl (Nat.le_of_ble_eq_true rfl) (Nat.le_of_ble_eq_true rfl) (by decide) (by decide) (Nat.zero_le _) (Nat.zero_le _) (fun Q' h => d_noPair ho hj h) ?_
  refine Sp.ifbn rfl (fun u1 => absurd u1 (by rw [hp]; decide)) (fun u1 => ?_)
  refine Sp.go 2 (g := (12, [(0, .ref 10), (1, .int (nI a)), (2, .int (nI b)), (3, .int (nI s)), (4, .int (nI e))], [.ref 10, .int (nI s), .ref 10])) rfl ?_
  refine Sp.get (v := .int (nI (A.T))) rfl rfl (by rw [← hj.now]; rfl) ?_
  refine Sp.icmp rfl (fun u2 => absurd u2 g1) (fun u2 => ?_)
  refine Sp.go 2 (g := (21, [(0, .ref 10), (1, .int (nI a)), (2, .int (nI b)), (3, .int (nI s)), (4, .int (nI e))], [.int (nI e), .int (nI s), .ref 10])) rfl ?_
  refine Sp.icmp rfl (fun u3 => absurd u3 g2) (fun u3 => ?_)
  refine Sp.go 2 (g := (28, [(0, .ref 10), (1, .int (nI a)), (2, .int (nI b)), (3, .int (nI s)), (4, .int (nI e))], [.int 64, .int (nI e), .ref 10])) rfl ?_
  refine Sp.icmp rfl (fun u4 => ?_) (fun u4 => absurd g3 u4)
  refine Sp.go 1 (g := (36, [(0, .ref 10), (1, .int (nI a)), (2, .int (nI b)), (3, .int (nI s)), (4, .int (nI e))], [.ref 10, .ref 10])) rfl ?_
  refine Sp.get (v := .int (nI (A.nc))) rfl rfl (by rw [← hj.cs]; rfl) ?_
  refine Sp.go 1 (g := (41, [(0, .ref 10), (1, .int (nI a)), (2, .int (nI b)), (3, .int (nI s)), (4, .int (nI e))], [.int 24, .int (nI (A.nc)), .ref 10])) rfl ?_
  refine Sp.icmp rfl (fun u5 => ?_) (fun u5 => absurd (fun z => absurd ((nI_inj (b := 24) (by omega) (by omega)).mp z) (by omega)) u5)
  refine Sp.go 1 (g := (49, [(0, .ref 10), (1, .int (nI a)), (2, .int (nI b)), (3, .int (nI s)), (4, .int (nI e))], [.int 0, .ref 10])) rfl ?_
  refine Sp.pf5 rfl ?_
  refine Sp.go 2 (g := (55, [(5, .int (nI s)), (0, .ref 10), (1, .int (nI a)), (2, .int (nI b)), (3, .int (nI s)), (4, .int (nI e))], [])) rfl ?_
  refine d_opens ho hj ha hb he (e - s) s (by omega) (by omega) (fun z => absurd z (by rw [hx]; decide)) (fun _ x9 => ?_)
  refine Sp.go 1 (g := (96, [(5, .int (x9)), (0, .ref 10), (1, .int (nI a)), (2, .int (nI b)), (3, .int (nI s)), (4, .int (nI e))], [.ref 10])) rfl ?_
  refine Sp.get (v := .int 0) rfl rfl rfl ?_
  refine Sp.if rfl (fun u21 => ?_) (fun u21 => absurd (show (0 : Int32) ≤ 0 by decide) u21)
  refine Sp.go 2 (g := (107, [(5, .int (nI s)), (0, .ref 10), (1, .int (nI a)), (2, .int (nI b)), (3, .int (nI s)), (4, .int (nI e))], [])) rfl ?_
  refine d_setsC ha hb he (e - s) s (w.sf 5 0) (by omega) ?_
  refine Sp.go 2 (g := (131, [(5, .int (nI e)), (0, .ref 10), (1, .int (nI a)), (2, .int (nI b)), (3, .int (nI s)), (4, .int (nI e))], [.ref 10, .ref 10])) rfl ?_
  refine Sp.get (v := .int (nI (A.nc))) rfl rfl (by rw [← hj.cs]; rfl) ?_
  refine Sp.go 2 (g := (136, [(5, .int (nI e)), (0, .ref 10), (1, .int (nI a)), (2, .int (nI b)), (3, .int (nI s)), (4, .int (nI e))], [.int ((nI (A.nc)) + 1), .ref 10])) rfl ?_
  refine Sp.pf7 rfl ?_
  refine Sp.go 1 (g := (140, [(5, .int (nI e)), (0, .ref 10), (1, .int (nI a)), (2, .int (nI b)), (3, .int (nI s)), (4, .int (nI e))], [.ref 10])) rfl ?_
  refine Sp.get (v := .int ((nI (A.nc)) + 1)) rfl rfl rfl ?_
  refine Sp.iret rfl (Or.inl rfl) ?_
  exact hq
theorem JR.ncs {w : mWd} {A : aS} (hj : JR w A) : JR (w.sf 7 (nI A.nc + 1)) A.ncs := by
  obtain ⟨⟨h1, h2, h3, h4, h5, h6, _⟩, h7⟩ := hj
  exact ⟨⟨h1, (nI_succ _).symm, h3, h4, h5, h6, trivial⟩, h7⟩
theorem JR.t {w : mWd} {A : aS} {v : Int32} (h : JR w A) : JR (w.sf 5 v) A := h
theorem JR.e {w : mWd} {A : aS} {E : Nat → Int32} (h : JR w A) : JR (w.sa 21 E) A := h
