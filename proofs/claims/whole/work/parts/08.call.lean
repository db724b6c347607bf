/-! Calls: into the method called, and out of it again, by its end or by what it throws. -/
section SC
variable {X : mX} {k k' F N C S F' N' C' S' : Nat} {pc : Nat} {ls : List (Nat × Value)} {M : mM} {Q Qc : Outcome → mM → Prop}
theorem m_weaken {tb : Tables} {e : Env} {g : Frame} {below : List Frame} {a b : State} (h : Steps tb e (g :: below) a b) : Steps tb e below a b := by
  obtain ⟨n, hn, hw⟩ := h
  exact ⟨n, hn, fun k hk => Within.weaken (mid := [g]) (hw k hk)⟩
theorem m_fact.spec {s : State} {mk : MethodId} {a : Nat} (hf : m_fact a) (hT : m_T X s) (hn : s.methodNamed? (m_y a) = some mk) : ∃ meth c, s.vm.method? mk = some meth ∧ meth.code = some c ∧ c.code = m_b a ∧ c.maxLocals = m_n a ∧ meth.sig.returnType = m_r a ∧ meth.locks = false ∧ c.exceptionTable.toList.map (fun h => (h.startPc, h.endPc, h.handlerPc, h.catchType)) = m_h a ∧ parseMethodDescriptor (m_y a).desc = some meth.sig := by
  rcases hf.1 with ⟨h0, hw⟩ | hw
  · obtain ⟨meth, c, h1, h2, h3, h4, h5, h6, h7, h8⟩ := Cond.code_spec hn (hT.w hw #[])
    refine ⟨meth, c, h1, h2, h3, h4, h5, h6, ?_, h8⟩
    rw [h0, Array.isEmpty_iff.mp h7]
    rfl
  · obtain ⟨m', meth, c, h0, h1, h2, h3, h4, h5, h6, h7, h8⟩ := Cond.codeWith_spec (hT.w hw #[])
    cases Option.some.inj (h0.symm.trans hn)
    exact ⟨meth, c, h1, h2, h3, h4, h6, h7, h5, h8⟩
theorem m_fact.named {s : State} {a : Nat} (hf : m_fact a) (hT : m_T X s) : ∃ mk, s.methodNamed? (m_y a) = some mk := by
  rcases hf.1 with ⟨-, hw⟩ | hw
  · exact Cond.code_named (hT.w hw #[])
  · obtain ⟨m', _, _, h0, -⟩ := Cond.codeWith_spec (hT.w hw #[])
    exact ⟨m', h0⟩
theorem m_lv_args (X : mX) (vs : List Value) : ∀ i : Nat, lv_args i (vs.map (m_v X)) = m_lv X (lv_args i vs) := by
  induction vs with
  | nil => intro i; rfl
  | cons v t ih =>
    intro i
    simp only [List.map_cons, lv_args, m_lv]
    rw [m_v_cat, ih]
    rfl
set_option maxHeartbeats 4000000 in
/-- from the caller's frame, at the call's entry, to what the caller finds behind it -/
theorem m_into {p : Program} {e : Env} {R : Room} {s : State} {m : MethodId} {args : Array Value} {below : List Frame} {meth : Method} {c : Code} {T : State} {locs : List Loc} {cells slots : Nat} {Qf : State → Prop} {vs : List Value}
    (hsp : Sp X k' F' N' C' S' (0, lv_args 0 vs, []) M Qc) (hf : m_fact k') (hexec : p.tables.exec = Jvm.exec) (hTs : m_T X s) (Y : Stand p X.l e R s m args below meth c T locs cells slots) (hR : m_R X M T.heap)
    {g : JFrame} (hg : g.method = m) (hsize : g.locals.size = c.maxLocals) {ig : Instr} {len : Nat} (hdg : decode c.code g.pc = .ok (ig, len)) {mk : MethodId} (hn : s.methodNamed? (m_y k') = some mk)
    (hmr : g.monitorRoom = 0) (hw : (g.stack.map fun v => v.category).sum ≤ 8) (hF : F' + 1 ≤ R.frames) (hN : 8 + (m_n k' + 11) + N' ≤ R.locals) (hc : cells + C' ≤ R.cells) (hs : slots + S' ≤ R.slots) (hnv : (lg_sl vs).length ≤ m_n k')
    (kr : ∀ (v : Option Value) (M' : mM) (T' : State) (L : List Loc), Qc (.returned v) M' → Stand p X.l e R s m args below meth c T' (locs ++ L) (cells + C') (slots + S') → m_R X M' T'.heap → (∀ q ∈ L, X.B ≤ q.base) →
      ∃ t, Steps p.tables e below (T'.setTop { g with pc := g.pc + len, stack := (v.map (m_v X)).toList ++ g.stack }) t ∧ Qf t)
    (kt : ∀ (x : Nat) (M' : mM) (T' : State) (L : List Loc) (ce : Cell), Qc (.threw x) M' → Stand p X.l e R s m args below meth c T' (locs ++ L) (cells + C') (slots + S') → m_R X M' T'.heap → (∀ q ∈ L, X.B ≤ q.base) → T'.heap[X.B + (M'.2.1 - 1)]? = some ce → ce.vm = .none → s.vm.findClass (m_exc x) = some ce.cls →
      ∃ t, Steps p.tables e below ((T'.setTop g).pushFrame (.throwing (X.B + (M'.2.1 - 1)))) t ∧ Qf t) :
    ∃ t, Steps p.tables e below (doInvoke e (T.setTop g) [] mk (vs.map (m_v X)).toArray).1 t ∧ Qf t := by
  have hnT : T.methodNamed? (m_y k') = some mk := Y.named hn
  have hTT : m_T X T := hTs.moved Y.warmed
  obtain ⟨methk, ck, h1, h2, h3, h4, h5, h6, h7, h8⟩ := m_fact.spec hf hTT hnT
  have hpk : T.plainMethod mk := State.plainMethod.of_named hf.2.2.1 hnT h1
  obtain ⟨Y0, hin⟩ := Y.into hg hsize hdg (vs.map (m_v X)).toArray (R' := { frames := F', locals := N', cells := C', slots := S' }) h1 h2 h6 hpk hF (by rw [hmr, h4]; show 2 * 0 + _ + _ + N' ≤ _; omega) hc hs
  have hvm : (T.calling g mk (vs.map (m_v X)).toArray).vm = T.vm := rfl
  have hCk : m_C X k' p (T.calling g mk (vs.map (m_v X)).toArray) mk methk ck := by
    refine ⟨hexec, h3, h5, h4, ?_, h6, (name_of_methodNamed hnT h1).1, h7, ?_⟩
    · exact findClass_of_methodNamed hnT
    · exact hTT.moved (State.WarmedH.refl T)
  have hheap : ((T.setTop g).pushFrame (.java (entryFrame mk (vs.map (m_v X)).toArray ck.maxLocals))).heap = T.heap := by
    simp [State.pushFrame, State.setFrames, State.setTop, State.modifyTopJava]
  have hlv : lv_has ((lg_sl (vs.map (m_v X)) ++ List.replicate (m_n k' - (lg_sl (vs.map (m_v X))).length) Slot.unset).toArray) (m_n k') (m_lv X (lv_args 0 vs)) := by
    rw [← m_lv_args]
    exact lv_entry _ (by
      have : ∀ us : List Value, (lg_sl (us.map (m_v X))).length = (lg_sl us).length := fun us => by
        induction us with
        | nil => rfl
        | cons u us ih =>
          simp only [lg_sl, List.map_cons, List.flatMap_cons, List.length_append] at ih ⊢
          rw [ih, m_v_cat]
          by_cases h : u.category = 2 <;> simp [h]
      rw [this]; exact hnv)
  have hW := hsp p e { frames := F', locals := N', cells := C', slots := S' } (T.calling g mk (vs.map (m_v X)).toArray) mk (vs.map (m_v X)).toArray (.java g :: below) methk ck T.heap [] 0 0 C' S' _ hCk (Nat.le_refl _) (Nat.le_refl _) (by omega) (by omega) (Nat.le_refl _) (Nat.le_refl _) hR (fun q hq => nomatch hq) hlv
  obtain ⟨t, st, o, po, M', L, g1, g2, g3, g4, g5, g6, g7, g8⟩ := hW _ hheap Y0
  have hst : Steps p.tables e below (doInvoke e (T.setTop g) [] mk (vs.map (m_v X)).toArray).1 t := by
    rw [hin []]
    rw [h4, lg_entry_eq]
    rw [h4, lg_entry_eq] at st
    exact m_weaken st
  cases po with
  | returned v =>
    have ho : o = .returned (v.map (m_v X)) := g8
    subst ho
    obtain ⟨T', Y', hW', hsm, ht⟩ := Y.outOf hg hdg g2 g3 g4
    have hth : t.heap = T'.heap := by rw [ht]; simp [State.setTop, State.modifyTopJava]
    obtain ⟨t2, q1, q2⟩ := kr v M' T' L g6 Y' (by rw [← hth]; exact g7) g5
    exact ⟨t2, hst.trans (by rw [ht]; exact q1), q2⟩
  | threw x =>
    obtain ⟨ce, ho, hce, hcv, hcl⟩ := g8
    subst ho
    obtain ⟨T', Y', hW', hsm, ht⟩ := Y.outOfThrown hg g2 g3 g4
    have hth : t.heap = T'.heap := by rw [ht]; simp [State.pushFrame, State.setFrames, State.setTop, State.modifyTopJava]
    have hcl' : s.vm.findClass (m_exc x) = some ce.cls := by
      have h9 : T.vm.findClass (m_exc x) = some ce.cls := hcl
      rw [Y.warmed.alike.findClass] at h9
      exact h9
    obtain ⟨t2, q1, q2⟩ := kt x M' T' L ce g6 Y' (by rw [← hth]; exact g7) g5 (by rw [← hth]; exact hce) hcv hcl'
    exact ⟨t2, hst.trans (by rw [ht]; exact q1), q2⟩
end SC
/-! What was thrown, in the caller: out again, or to a row of its table. -/
def m_cov (k pc : Nat) : Bool := (m_h k).any fun r => decide (r.1 ≤ pc) && decide (pc < r.2.1)
def m_hand : List (Nat × Nat × Nat × Nat) → List Nat → Nat → Nat → Option Nat
  | r :: t, x :: xs, pc, q => if (decide (r.1 ≤ pc) && decide (pc < r.2.1)) = true then (if x = q then some r.2.2.1 else m_hand t xs pc q) else m_hand t xs pc q
  | _, _, _, _ => none
def m_hok (cls : String) : List (Nat × Nat × Nat × Nat) → List Nat → Prop
  | r :: t, x :: xs => (r.2.2.2 ≠ 0 ∧ Cond.classLink cls r.2.2.2 (m_exc x) ∈ m_tall ∧ x < 3) ∧ m_hok cls t xs
  | _, _ => True
def m_thrown (X : mX) (k F N C S pc : Nat) (ls : List (Nat × Value)) (q : Nat) (M : mM) (Q : Outcome → mM → Prop) : Prop :=
  (m_cov k pc = false ∧ Q (.threw q) M) ∨ ∃ h, m_hand (m_h k) (m_hx k) pc q = some h ∧ Sp X k F N C S (h, ls, [.ref (M.2.1 - 1)]) M Q
theorem m_hall : ∀ k : Nat, m_hok (m_y k).cls (m_h k) (m_hx k)
  | 0 => trivial
  | 1 => trivial
  | 2 => trivial
  | 3 => trivial
  | 4 => trivial
  | 5 => trivial
  | 6 => trivial
  | 7 => trivial
  | 8 => trivial
  | 9 => trivial
  | 10 => trivial
  | 11 => trivial
  | 12 => trivial
  | 13 => trivial
  | 14 => trivial
  | 15 => trivial
  | 16 => trivial
  | 17 => trivial
  | 18 => trivial
  | 19 => trivial
  | 20 => trivial
  | 21 => trivial
  | 22 => trivial
  | 23 => trivial
  | 24 => trivial
  | 25 => trivial
  | 26 => trivial
  | 27 => trivial
  | 28 => trivial
  | 29 => trivial
  | 30 => trivial
  | 31 => trivial
  | 32 => trivial
  | 33 => trivial
  | 34 => trivial
  | 35 => trivial
  | 36 => trivial
  | 37 => trivial
  | 38 => trivial
  | 39 => trivial
  | 40 => trivial
  | 41 => trivial
  | 42 => trivial
  | 43 => trivial
  | 44 => trivial
  | 45 => trivial
  | 46 => trivial
  | 47 => trivial
  | 48 => trivial
  | 49 => trivial
  | 50 => trivial
  | 51 => trivial
  | 52 => trivial
  | 53 => trivial
  | 54 => trivial
  | 55 => trivial
  | 56 => trivial
  | 57 => trivial
  | 58 => trivial
  | 59 => trivial
  | 60 => trivial
  | 61 => trivial
  | 62 => trivial
  | 63 => trivial
  | 64 => trivial
  | 65 => trivial
  | 66 => trivial
  | 67 => trivial
  | 68 => trivial
  | 69 => trivial
  | 70 => trivial
  | 71 => trivial
  | 72 => trivial
  | 73 => trivial
  | 74 => trivial
  | 75 => trivial
  | 76 => trivial
  | 77 => trivial
  | 78 => trivial
  | 79 => trivial
  | 80 => trivial
  | 81 => trivial
  | 82 => trivial
  | 83 => trivial
  | 84 => trivial
  | 85 => ⟨⟨(by decide), mw_169, (by decide)⟩, ⟨(by decide), mw_170, (by decide)⟩, trivial⟩
  | 86 => ⟨⟨(by decide), mw_169, (by decide)⟩, ⟨(by decide), mw_170, (by decide)⟩, trivial⟩
  | 87 => ⟨⟨(by decide), mw_169, (by decide)⟩, ⟨(by decide), mw_170, (by decide)⟩, trivial⟩
  | 88 => ⟨⟨(by decide), mw_169, (by decide)⟩, ⟨(by decide), mw_170, (by decide)⟩, trivial⟩
  | 89 => ⟨⟨(by decide), mw_367, (by decide)⟩, ⟨(by decide), mw_170, (by decide)⟩, trivial⟩
  | 90 => ⟨⟨(by decide), mw_169, (by decide)⟩, trivial⟩
  | 91 => ⟨⟨(by decide), mw_170, (by decide)⟩, trivial⟩
  | _ + 92 => trivial
section SE
variable {Qh : Handler → Pre} {E : CtlPost} {e : Env} {s0 : State} {f : JFrame} {a : Addr} {cell : Cell} {cls : String} {q h : Nat}
theorem m_row {x : ExceptionTableEntry} {t : List ExceptionTableEntry} {c : ClassId} {S : State} {d : Bool} {acts : List Action} (hx : covers x f.pc = true) (h0 : x.catchType ≠ 0) (hl : S.vm.ClassLinks e.platform f.method.cls x.catchType c) (hcell : S.heap[a]? = some cell) (hobj : ∀ k, cell.vm ≠ .statics k)
    (hk : ∃ k, S.vm.classes[cell.cls]? = some k) (hc : ∃ k, S.vm.classes[c]? = some k) :
    wp (findHandler.go f a (x :: t)) Qh E e d acts S ↔ if S.vm.assignable cell.cls c = true then Qh (.found x.handlerPc) d acts (S.setVm (S.vm.noted f.method.cls x.catchType (.cls c))) else wp (findHandler.go f a t) Qh E e d acts (S.setVm (S.vm.noted f.method.cls x.catchType (.cls c))) := by
  simp only [covers] at hx
  obtain ⟨ha, ht⟩ := (resolveClass_links e.toSetting hl).op (op := VmOp.resolveClass f.method.cls x.catchType) rfl
  have hal : S.vm.Alike (S.vm.noted f.method.cls x.catchType (.cls c)) := (Vm.Alike.refl S.vm).noted _ _ _
  obtain ⟨k1, hk1⟩ := hk
  obtain ⟨k2, hk2⟩ := hc
  obtain ⟨k1', hk1', -⟩ := hal.2.2 _ _ hk1
  obtain ⟨k2', hk2', -⟩ := hal.2.2 _ _ hk2
  have hsame : (S.vm.noted f.method.cls x.catchType (.cls c)).assignable cell.cls c = S.vm.assignable cell.cls c := hal.assignable ..
  cases hfit : S.vm.assignable cell.cls c <;> rw [hfit] at hsame <;>
    simp [findHandler.go, hx, h0, ha, ht, hcell, hobj, hk1', hk2', hsame, VmOp.dirties, VmOp.acts]
theorem m_rows (hpl : e.platform.magicAccessors = ({} : Platform).magicAccessors) (hown : s0.vm.findClass cls = some f.method.cls) (hw : ∀ w ∈ m_tall, w.before #[] s0 = true) (hap : m_apart s0) (hobj : ∀ k, cell.vm ≠ .statics k) (hq : q < 3) (hcl : s0.vm.findClass (m_exc q) = some cell.cls) :
    ∀ (es : List ExceptionTableEntry) (xs : List Nat), m_hok cls (es.map fun h => (h.startPc, h.endPc, h.handlerPc, h.catchType)) xs → m_hand (es.map fun h => (h.startPc, h.endPc, h.handlerPc, h.catchType)) xs f.pc q = some h →
      ∀ S : State, s0.WarmedH S.vm → S.heap[a]? = some cell → ∃ vm', s0.WarmedH vm' ∧ ∀ (Qh : Handler → Pre) (E : CtlPost) (d : Bool) (acts : List Action), wp (findHandler.go f a es) Qh E e d acts S ↔ Qh (.found h) d acts (S.setVm vm') := by
  intro es
  induction es with
  | nil => intro xs _ hh; cases xs <;> cases hh
  | cons x t ih =>
    intro xs hok hh S hW hcell
    cases xs with
    | nil => cases hh
    | cons y ys =>
      obtain ⟨⟨h0, hlw, hy⟩, hok'⟩ := hok
      simp only [List.map_cons, m_hand] at hh
      by_cases hcov : covers x f.pc = true
      · rw [if_pos hcov] at hh
        obtain ⟨cT, hcT, hlk⟩ := Cond.classLink_spec hown (hw _ hlw) e.platform hpl
        obtain ⟨dk, _, _, kt, hd, _, _, _, _, hkt, _, hopen⟩ := hlk.here
        obtain ⟨k9, hk9, -⟩ := Vm.findClass_spec hcl
        obtain ⟨k9', hk9', -⟩ := hW.alike.2.2 _ _ hk9
        obtain ⟨kt', hkt', -⟩ := hW.alike.2.2 _ _ hkt
        have hWn : s0.WarmedH (S.vm.noted f.method.cls x.catchType (.cls cT)) := hW.noted hd hopen (State.rightAt_cls hlk)
        have has : S.vm.assignable cell.cls cT = decide (q = y) := by
          rw [hW.alike.assignable]
          exact hap q y hq hy _ _ hcl hcT
        by_cases hyq : y = q
        · rw [if_pos hyq] at hh
          refine ⟨_, hWn, fun Qh E d acts => ?_⟩
          rw [m_row hcov h0 (hW.classLinks hlk) hcell hobj ⟨k9', hk9'⟩ ⟨kt', hkt'⟩, if_pos (by rw [has, decide_eq_true_eq]; exact hyq.symm)]
          cases hh
          exact Iff.rfl
        · rw [if_neg hyq] at hh
          obtain ⟨vm', hW', hgo⟩ := ih ys hok' hh (S.setVm (S.vm.noted f.method.cls x.catchType (.cls cT))) hWn hcell
          refine ⟨vm', hW', fun Qh E d acts => ?_⟩
          rw [m_row hcov h0 (hW.classLinks hlk) hcell hobj ⟨k9', hk9'⟩ ⟨kt', hkt'⟩, if_neg (by rw [has]; simp; exact fun z => hyq z.symm)]
          exact hgo Qh E d acts
      · rw [if_neg hcov] at hh
        obtain ⟨vm', hW', hgo⟩ := ih ys hok' hh S hW hcell
        refine ⟨vm', hW', fun Qh E d acts => ?_⟩
        rw [W.findHandler_go_skip (by simpa using hcov)]
        exact hgo Qh E d acts
end SE
section SF
variable {X : mX} {k k' F N C S F' N' C' S' : Nat} {pc : Nat} {ls : List (Nat × Value)} {st : List Value} {M : mM} {Q Qc : Outcome → mM → Prop}
variable {p : Program} {e : Env} {R : Room} {s : State} {m : MethodId} {args : Array Value} {below : List Frame} {meth : Method} {c : Code} {locs : List Loc} {cells slots : Nat} {T : State}
theorem m_step_found {U : State} {g : JFrame} {a : Addr} {r : List Frame} {h : Nat} {vm' : Vm} (hfind : ∀ (Qh : Handler → Pre) (E : CtlPost) (d : Bool) (acts : List Action), wp (findHandler g a) Qh E e d acts U ↔ Qh (.found h) d acts (U.setVm vm')) :
    (stepThrowing e U a (.java g :: r)).1 = (U.setVm vm').setFrames (.java { g with pc := h, stack := [.ref a] } :: r) := by
  simp only [stepThrowing, searchFrame, vmDo]
  generalize hr : Sem.go _ e false [] U = res
  obtain ⟨as, rfl, -⟩ := Sem.eq_ok_of hr (a := Handler.found h) (s' := U.setVm vm') (acts' := []) (by simp [hfind _ _ _ _])
  rfl
theorem m_caught (Y : Stand p X.l e R s m args below meth c T locs cells slots) {g : JFrame} (hg : g.method = m) {a : Addr} {cell : Cell} {q h : Nat} {cls : String} {xs : List Nat} (hcell : T.heap[a]? = some cell) (hvm : cell.vm = .none) (hq : q < 3) (hcl : s.vm.findClass (m_exc q) = some cell.cls) (hown : s.vm.findClass cls = some m.cls)
    (hw : ∀ w ∈ m_tall, w.before #[] s = true) (hap : m_apart s) (hok : m_hok cls (c.exceptionTable.toList.map fun h => (h.startPc, h.endPc, h.handlerPc, h.catchType)) xs) (hh : m_hand (c.exceptionTable.toList.map fun h => (h.startPc, h.endPc, h.handlerPc, h.catchType)) xs g.pc q = some h) :
    ∃ vm', Stand p X.l e R s m args below meth c (T.setVm vm') locs cells slots ∧ ∀ target, Steps p.tables e below ((T.setVm vm').setTop { g with pc := h, stack := [.ref a] }) target → Steps p.tables e below ((T.setTop g).pushFrame (.throwing a)) target := by
  subst hg
  have hpl : e.platform.magicAccessors = ({} : Platform).magicAccessors := by rw [Y.admits.platform]
  obtain ⟨vm', hW', hgo⟩ := m_rows (e := e) (f := g) (a := a) (h := h) hpl hown hw hap (cell := cell) (fun k z => by rw [hvm] at z; cases z) hq hcl c.exceptionTable.toList xs hok hh ((T.setTop g).pushFrame (.throwing a)) Y.warmed hcell
  refine ⟨vm', Y.noted hW', fun target hrest => ?_⟩
  obtain ⟨h1, h2⟩ := Y.here.throwing (g := g) a
  refine Steps.head h1 h2 ?_
  rw [stepThread_throwing (frames_entered Y.here.top _), m_step_found (U := (T.setTop g).pushFrame (.throwing a)) (h := h) (vm' := vm') (fun Qh E d acts => (W.findHandler_eq (s := (T.setTop g).pushFrame (.throwing a)) (meth := meth) (code := c) Y.method' Y.code).trans (hgo Qh E d acts))]
  obtain ⟨g0, hg0⟩ := Option.isSome_iff_exists.mp Y.here.top
  obtain ⟨r, hr⟩ := State.topJava?_eq_some.mp hg0
  have hr' : (T.setVm vm').frames = .java g0 :: r := hr
  rw [State.setTop_of_frames _ hr'] at hrest
  rw [State.pushFrame, State.setTop_of_frames _ hr]
  have e1 : ∀ (u : State) (A B : List Frame), ((u.setFrames A).setVm vm').setFrames B = (u.setVm vm').setFrames B := fun u A B => by
    have : (u.setFrames A).setVm vm' = (u.setVm vm').setFrames A := rfl
    rw [this, State.setFrames_setFrames]
  rw [State.setFrames_setFrames, e1, hr]
  exact hrest
/-- what was thrown by a callee, in this frame -/
theorem m_behind {q mc ms : Nat} {la : Array Slot} {stk : List Value} {ce : Cell} (hq : q < 3) (ht : m_thrown X k F N C S pc ls q M Q) (hC : m_C X k p s m meth c) (hF : F ≤ R.frames) (hN : N ≤ R.locals) (hc : cells + C ≤ mc) (hs : slots + S ≤ ms) (hmc : mc ≤ R.cells) (hms : ms ≤ R.slots) (hv : lv_has la (m_n k) (m_lv X ls)) (hl : ∀ q ∈ locs, X.B ≤ q.base)
    (Y : Stand p X.l e R s m args below meth c T locs cells slots) (hR : m_R X M T.heap) (hce : T.heap[X.B + (M.2.1 - 1)]? = some ce) (hcv : ce.vm = .none) (hcl : s.vm.findClass (m_exc q) = some ce.cls) :
    ∃ t, Steps p.tables e below ((T.setTop (F0 m pc la stk)).pushFrame (.throwing (X.B + (M.2.1 - 1)))) t ∧ m_Q X below s mc ms Q t := by
  rcases ht with ⟨hcov, hQ⟩ | ⟨h, hh, kk⟩
  · have hout : ∀ x ∈ c.exceptionTable.toList, covers x (F0 m pc la stk).pc = false := fun x hx => by
      have h1 : (x.startPc, x.endPc, x.handlerPc, x.catchType) ∈ m_h k := by
        rw [← hC.2.2.2.2.2.2.2.1]
        exact List.mem_map.mpr ⟨x, hx, rfl⟩
      have h2 := List.any_eq_false.mp hcov _ h1
      simpa [covers] using h2
    obtain ⟨st1, hrun, hend, hW, hsm⟩ := Y.leaveThrown (X.B + (M.2.1 - 1)) (g := F0 m pc la stk) rfl rfl rfl hout hC.2.2.2.2.2.1
    exact ⟨_, st1, .threw (X.B + (M.2.1 - 1)), .threw q, M, locs, hrun, hend, hW, hsm.mono (by omega) (by omega), hl, hQ, hR, ce, rfl, hce, hcv, hcl⟩
  · obtain ⟨vm', Y', hgo⟩ := m_caught Y (g := F0 m pc la stk) rfl (h := h) (xs := m_hx k) hce hcv hq hcl hC.2.2.2.2.1 (fun w hw => hC.2.2.2.2.2.2.2.2.w hw #[]) hC.2.2.2.2.2.2.2.2.2.2.2.2.2.2.2.2 (by rw [hC.2.2.2.2.2.2.2.1]; exact m_hall k) (by rw [hC.2.2.2.2.2.2.2.1]; exact hh)
    obtain ⟨t, h1, h2⟩ := kk p e R s m args below meth c T.heap locs cells slots mc ms la hC hF hN hc hs hmc hms hR hl hv (T.setVm vm') rfl Y'
    exact ⟨t, hgo t h1, h2⟩
end SF
section SG
variable {X : mX} {k k' F N C S F' N' C' S' : Nat} {pc : Nat} {ls : List (Nat × Value)} {st : List Value} {M : mM} {Q Qc : Outcome → mM → Prop}
/-- a method that is called as 'receiver.m(..)' -/
theorem Sp.callV {idx b0 a ci : Nat} {vs fs : List Value} (hi : m_i k pc = some (.invokevirtual idx, k', b0)) (hm : M.1 a = some (.inr (ci, fs))) (hci : m_cname ci = (m_y k').cls) (hlen : vs.length = m_ar k') (hnv : (lg_sl (.ref a :: vs)).length ≤ m_n k') (hw : (st.map fun v => v.category).sum ≤ 8)
    (hF1 : F' + 1 ≤ F) (hN1 : 8 + (m_n k' + 11) + N' ≤ N) (hC1 : C' ≤ C) (hS1 : S' ≤ S) (hsp : Sp X k' F' N' C' S' (0, lv_args 0 (.ref a :: vs), []) M Qc)
    (kr : ∀ v M', Qc (.returned v) M' → Sp X k F N (C - C') (S - S') (pc + 3, ls, v.toList ++ st) M' Q) (kt : ∀ q M', Qc (.threw q) M' → q < 3 ∧ m_thrown X k F N (C - C') (S - S') pc ls q M' Q) : Sp X k F N C S (pc, ls, vs.reverse ++ .ref a :: st) M Q := by
  intro p e R s m args below meth c H locs cells slots mc ms la hC hF hN hc hs hmc hms hR hl hv T hT Y
  have hC' := hC
  obtain ⟨hx, hb, hr, hn, hown, hlk, hnm, htb, hTs⟩ := hC
  obtain ⟨hd, -, hf, hlink, winst, wsel⟩ := m_ok hi
  have hd' : decode c.code pc = .ok (.invokevirtual idx, 3) := by rw [hb]; exact hd
  obtain ⟨mk, methM, hnamed, hmethM, hstM, habM⟩ := Cond.instanceMethod_spec (hTs.w winst args)
  obtain ⟨methM', cM, hmethM', -, -, -, -, -, -, hsigM⟩ := m_fact.spec hf hTs hnamed
  cases Option.some.inj (hmethM.symm.trans hmethM')
  obtain ⟨r, hr1, cellB, g1, g2, g3, -⟩ := (hR.2.1 a _ hm).2
  have hcls0 := (hTs.2.1.1 ci r hr1).2.1
  rw [← m_cname_ok hr1, hci, ← g2] at hcls0
  obtain ⟨c2, r2, m2, q1, q2, q3, q4, kP, hkP, hkPi⟩ := Cond.selects_spec (hTs.w wsel args)
  cases Option.some.inj (hcls0.symm.trans q1)
  cases Option.some.inj ((State.methodFound?_of_named hnamed hf.2.2.2.1).symm.trans q2)
  cases Option.some.inj (hnamed.symm.trans q3)
  have hselP : selectMethod e.platform s.vm cellB.cls mk = .method mk := by rw [Launch.admits_selectMethod Y.admits]; exact q4
  have hlenM : (vs.map (m_v X)).length = methM.sig.parameters.length := by
    have h9 := hf.2.2.2.2
    rw [hsigM] at h9
    rw [List.length_map, hlen]
    exact (Option.some.inj h9).symm
  have hstk : (F0 m pc la ((vs.reverse ++ Value.ref a :: st).map (m_v X))).stack = (vs.map (m_v X)).reverse ++ .ref (X.B + a) :: st.map (m_v X) := by
    show (vs.reverse ++ Value.ref a :: st).map (m_v X) = _
    rw [List.map_append, List.map_reverse]
    rfl
  have hinv : ∃ vm₁, Stand p X.l e R s m args below meth c (T.setVm vm₁) locs cells slots ∧ ∀ target, (∀ acts, Steps p.tables e below (doInvoke e ((T.setVm vm₁).setTop (F0 m pc la (st.map (m_v X)))) acts mk (Value.ref (X.B + a) :: vs.map (m_v X)).toArray).1 target) → Steps p.tables e below (T.setTop (F0 m pc la ((vs.reverse ++ Value.ref a :: st).map (m_v X)))) target := by
    rcases hlink with hlink | hlink
    · exact Y.invokevirtual hx hown (hTs.w hlink args) hnamed hmethM hstM hkP hkPi hf.2.2.2.1 (a := X.B + a) (cell := cellB) (by rw [hT]; exact g1) (fun z h => by rw [g3] at h; cases h) hselP hmethM habM hkP hkPi (g := F0 m pc la ((vs.reverse ++ Value.ref a :: st).map (m_v X))) rfl (argsL := vs.map (m_v X)) (rest := st.map (m_v X)) hlenM hstk hd'
    · exact Y.invokevirtualNest hx hown (hTs.w hlink args) hnamed hmethM hstM hkP hkPi hf.2.2.2.1 (a := X.B + a) (cell := cellB) (by rw [hT]; exact g1) (fun z h => by rw [g3] at h; cases h) hselP hmethM habM hkP hkPi (g := F0 m pc la ((vs.reverse ++ Value.ref a :: st).map (m_v X))) rfl (argsL := vs.map (m_v X)) (rest := st.map (m_v X)) hlenM hstk hd'
  obtain ⟨vm₁, Y1, hstep⟩ := hinv
  obtain ⟨t, h1, h2⟩ := m_into (vs := .ref a :: vs) hsp hf hx hTs Y1 (by show m_R X M T.heap; rw [hT]; exact hR) (g := F0 m pc la (st.map (m_v X))) rfl (by show la.size = _; rw [hn]; exact hv.1) hd' hnamed rfl (by show ((st.map (m_v X)).map _).sum ≤ 8; rw [m_sum]; exact hw) (by omega) (by omega) (by omega) (by omega) hnv (Qf := m_Q X below s mc ms Q)
    (fun v M' T' L hq Y' hR' hL => by
      have hl' : ∀ q ∈ locs ++ L, X.B ≤ q.base := fun q hq => (List.mem_append.mp hq).elim (hl q) (hL q)
      have K := kr v M' hq p e R s m args below meth c T'.heap (locs ++ L) (cells + C') (slots + S') mc ms la hC' hF hN (by omega) (by omega) hmc hms hR' hl' hv T' rfl Y'
      have e1 : (v.toList ++ st).map (m_v X) = (v.map (m_v X)).toList ++ st.map (m_v X) := by cases v <;> simp
      simp only [e1] at K
      exact K)
    (fun q M' T' L ce hq Y' hR' hL hce hcv hcl => m_behind (kt q M' hq).1 (kt q M' hq).2 hC' hF hN (by omega) (by omega) hmc hms hv (fun z hz => (List.mem_append.mp hz).elim (hl z) (hL z)) Y' hR' hce hcv hcl)
  exact ⟨t, hstep t (fun acts => by rw [doInvoke_state]; exact h1), h2⟩
/-- a static method -/
theorem Sp.callS {idx b0 : Nat} {vs : List Value} (hi : m_i k pc = some (.invokestatic idx, k', b0)) (hk : k' ≠ 1000) (hlen : vs.length = m_ar k') (hnv : (lg_sl vs).length ≤ m_n k') (hw : (st.map fun v => v.category).sum ≤ 8)
    (hF1 : F' + 1 ≤ F) (hN1 : 8 + (m_n k' + 11) + N' ≤ N) (hC1 : C' ≤ C) (hS1 : S' ≤ S) (hsp : Sp X k' F' N' C' S' (0, lv_args 0 vs, []) M Qc)
    (kr : ∀ v M', Qc (.returned v) M' → Sp X k F N (C - C') (S - S') (pc + 3, ls, v.toList ++ st) M' Q) (kt : ∀ q M', Qc (.threw q) M' → q < 3 ∧ m_thrown X k F N (C - C') (S - S') pc ls q M' Q) : Sp X k F N C S (pc, ls, vs.reverse ++ st) M Q := by
  intro p e R s m args below meth c H locs cells slots mc ms la hC hF hN hc hs hmc hms hR hl hv T hT Y
  have hC' := hC
  obtain ⟨hx, hb, hr, hn, hown, hlk, hnm, htb, hTs⟩ := hC
  obtain ⟨hd, -, h9⟩ := m_ok hi
  obtain ⟨hf, hlink, wst⟩ := h9.2 hk
  have hd' : decode c.code pc = .ok (.invokestatic idx, 3) := by rw [hb]; exact hd
  obtain ⟨mk, hnamed⟩ := m_fact.named hf hTs
  obtain ⟨methM, cM, hmethM, -, -, -, -, -, -, hsigM⟩ := m_fact.spec hf hTs hnamed
  have hstatic : methM.isStatic = true := Cond.static_spec hnamed hmethM (hTs.w wst args)
  obtain ⟨kP, hkP, -⟩ := className_of_methodNamed hnamed
  have hinitP : kP.init = .initialized := Cond.initialized_spec (findClass_of_methodNamed hnamed) hkP (hTs.w hf.2.1 args)
  have hlenM : (vs.map (m_v X)).length = methM.sig.parameters.length := by
    have h9 := hf.2.2.2.2
    rw [hsigM] at h9
    rw [List.length_map, hlen]
    exact (Option.some.inj h9).symm
  have hstk : (F0 m pc la ((vs.reverse ++ st).map (m_v X))).stack = (vs.map (m_v X)).reverse ++ st.map (m_v X) := by
    show (vs.reverse ++ st).map (m_v X) = _
    rw [List.map_append, List.map_reverse]
  have hinv : ∃ vm₁, Stand p X.l e R s m args below meth c (T.setVm vm₁) locs cells slots ∧ ∀ target, (∀ acts, Steps p.tables e below (doInvoke e ((T.setVm vm₁).setTop (F0 m pc la (st.map (m_v X)))) acts mk (vs.map (m_v X)).toArray).1 target) → Steps p.tables e below (T.setTop (F0 m pc la ((vs.reverse ++ st).map (m_v X)))) target := by
    rcases hlink with hlink | hlink
    · exact Y.invokestatic hx hown (hTs.w hlink args) hnamed hmethM hstatic hkP hinitP hf.2.2.2.1 (g := F0 m pc la ((vs.reverse ++ st).map (m_v X))) rfl (argsL := vs.map (m_v X)) (rest := st.map (m_v X)) hlenM hstk hd'
    · exact Y.invokestaticNest hx hown (hTs.w hlink args) hnamed hmethM hstatic hkP hinitP hf.2.2.2.1 (g := F0 m pc la ((vs.reverse ++ st).map (m_v X))) rfl (argsL := vs.map (m_v X)) (rest := st.map (m_v X)) hlenM hstk hd'
  obtain ⟨vm₁, Y1, hstep⟩ := hinv
  obtain ⟨t, h1, h2⟩ := m_into (vs := vs) hsp hf hx hTs Y1 (by show m_R X M T.heap; rw [hT]; exact hR) (g := F0 m pc la (st.map (m_v X))) rfl (by show la.size = _; rw [hn]; exact hv.1) hd' hnamed rfl (by show ((st.map (m_v X)).map _).sum ≤ 8; rw [m_sum]; exact hw) (by omega) (by omega) (by omega) (by omega) hnv (Qf := m_Q X below s mc ms Q)
    (fun v M' T' L hq Y' hR' hL => by
      have hl' : ∀ q ∈ locs ++ L, X.B ≤ q.base := fun q hq => (List.mem_append.mp hq).elim (hl q) (hL q)
      have K := kr v M' hq p e R s m args below meth c T'.heap (locs ++ L) (cells + C') (slots + S') mc ms la hC' hF hN (by omega) (by omega) hmc hms hR' hl' hv T' rfl Y'
      have e1 : (v.toList ++ st).map (m_v X) = (v.map (m_v X)).toList ++ st.map (m_v X) := by cases v <;> simp
      simp only [e1] at K
      exact K)
    (fun q M' T' L ce hq Y' hR' hL hce hcv hcl => m_behind (kt q M' hq).1 (kt q M' hq).2 hC' hF hN (by omega) (by omega) hmc hms hv (fun z hz => (List.mem_append.mp hz).elim (hl z) (hL z)) Y' hR' hce hcv hcl)
  exact ⟨t, hstep t (fun acts => by rw [doInvoke_state]; exact h1), h2⟩
/-- a constructor -/
theorem Sp.callI {idx b0 a : Nat} {vs : List Value} (hi : m_i k pc = some (.invokespecial idx, k', b0)) (hk : k' ≠ 1000) (hlen : vs.length = m_ar k') (hnv : (lg_sl (.ref a :: vs)).length ≤ m_n k') (hw : (st.map fun v => v.category).sum ≤ 8)
    (hF1 : F' + 1 ≤ F) (hN1 : 8 + (m_n k' + 11) + N' ≤ N) (hC1 : C' ≤ C) (hS1 : S' ≤ S) (hsp : Sp X k' F' N' C' S' (0, lv_args 0 (.ref a :: vs), []) M Qc)
    (kr : ∀ v M', Qc (.returned v) M' → Sp X k F N (C - C') (S - S') (pc + 3, ls, v.toList ++ st) M' Q) (kt : ∀ q M', Qc (.threw q) M' → q < 3 ∧ m_thrown X k F N (C - C') (S - S') pc ls q M' Q) : Sp X k F N C S (pc, ls, vs.reverse ++ .ref a :: st) M Q := by
  intro p e R s m args below meth c H locs cells slots mc ms la hC hF hN hc hs hmc hms hR hl hv T hT Y
  have hC' := hC
  obtain ⟨hx, hb, hr, hn, hown, hlk, hnm, htb, hTs⟩ := hC
  obtain ⟨hd, -, h9⟩ := m_ok hi
  obtain ⟨hf, hlink, winst, wcode, hini⟩ := h9.2 hk
  have hd' : decode c.code pc = .ok (.invokespecial idx, 3) := by rw [hb]; exact hd
  have hpl : e.platform.magicAccessors = ({} : Platform).magicAccessors := by rw [Y.admits.platform]
  have hstk : (F0 m pc la ((vs.reverse ++ Value.ref a :: st).map (m_v X))).stack = (vs.map (m_v X)).reverse ++ .ref (X.B + a) :: st.map (m_v X) := by
    show (vs.reverse ++ Value.ref a :: st).map (m_v X) = _
    rw [List.map_append, List.map_reverse]
    rfl
  have hlenM : ∀ sig, parseMethodDescriptor (m_y k').desc = some sig → (vs.map (m_v X)).length = sig.parameters.length := fun sig h => by
    have h9 := hf.2.2.2.2
    rw [h] at h9
    rw [List.length_map, hlen]
    exact (Option.some.inj h9).symm
  have hinv : ∃ vm₁ mk, s.methodNamed? (m_y k') = some mk ∧ Stand p X.l e R s m args below meth c (T.setVm vm₁) locs cells slots ∧ ∀ target, (∀ acts, Steps p.tables e below (doInvoke e ((T.setVm vm₁).setTop (F0 m pc la (st.map (m_v X)))) acts mk (Value.ref (X.B + a) :: vs.map (m_v X)).toArray).1 target) → Steps p.tables e below (T.setTop (F0 m pc la ((vs.reverse ++ Value.ref a :: st).map (m_v X)))) target := by
    rcases hlink with hlink | hlink
    · obtain ⟨mk, methM, cM, kP, vm₁, hnamed, -, -, -, -, -, -, -, hW₁, hstep₁⟩ := Steps.initColdArgs (e := e) Y.here hx Y.warmed hpl hown hini hf.2.2.2.1 (hTs.w hlink args) (hTs.w winst args) (hTs.w wcode args) (f := F0 m pc la ((vs.reverse ++ Value.ref a :: st).map (m_v X))) rfl (argsL := vs.map (m_v X)) (rest := st.map (m_v X)) hlenM hstk hd'
      exact ⟨vm₁, mk, hnamed, Y.noted hW₁, hstep₁⟩
    · obtain ⟨mk, methM, cM, kP, vm₁, hnamed, -, -, -, -, -, -, -, hW₁, hstep₁⟩ := Steps.initColdArgsNest (e := e) Y.here hx Y.warmed hpl hown hini hf.2.2.2.1 (hTs.w hlink args) (hTs.w winst args) (hTs.w wcode args) (f := F0 m pc la ((vs.reverse ++ Value.ref a :: st).map (m_v X))) rfl (argsL := vs.map (m_v X)) (rest := st.map (m_v X)) hlenM hstk hd'
      exact ⟨vm₁, mk, hnamed, Y.noted hW₁, hstep₁⟩
  obtain ⟨vm₁, mk, hnamed, Y1, hstep⟩ := hinv
  obtain ⟨t, h1, h2⟩ := m_into (vs := .ref a :: vs) hsp hf hx hTs Y1 (by show m_R X M T.heap; rw [hT]; exact hR) (g := F0 m pc la (st.map (m_v X))) rfl (by show la.size = _; rw [hn]; exact hv.1) hd' hnamed rfl (by show ((st.map (m_v X)).map _).sum ≤ 8; rw [m_sum]; exact hw) (by omega) (by omega) (by omega) (by omega) hnv (Qf := m_Q X below s mc ms Q)
    (fun v M' T' L hq Y' hR' hL => by
      have hl' : ∀ q ∈ locs ++ L, X.B ≤ q.base := fun q hq => (List.mem_append.mp hq).elim (hl q) (hL q)
      have K := kr v M' hq p e R s m args below meth c T'.heap (locs ++ L) (cells + C') (slots + S') mc ms la hC' hF hN (by omega) (by omega) hmc hms hR' hl' hv T' rfl Y'
      have e1 : (v.toList ++ st).map (m_v X) = (v.map (m_v X)).toList ++ st.map (m_v X) := by cases v <;> simp
      simp only [e1] at K
      exact K)
    (fun q M' T' L ce hq Y' hR' hL hce hcv hcl => m_behind (kt q M' hq).1 (kt q M' hq).2 hC' hF hN (by omega) (by omega) hmc hms hv (fun z hz => (List.mem_append.mp hz).elim (hl z) (hL z)) Y' hR' hce hcv hcl)
  exact ⟨t, hstep t (fun acts => by rw [doInvoke_state]; exact h1), h2⟩
end SG
