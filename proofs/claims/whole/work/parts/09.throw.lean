/-! 'throw new E("text")': new, dup, ldc, <init>(String), athrow, in a method that catches nothing. -/
section ST
variable {X : mX} {k F N C S : Nat} {pc : Nat} {ls : List (Nat × Value)} {st : List Value} {M : mM} {Q : Outcome → mM → Prop}
variable {p : Program} {l : Launch} {e : Env} {R : Room} {s : State} {m : MethodId} {args : Array Value} {below : List Frame} {meth : Method} {c : Code} {locs : List Loc} {cells slots : Nat} {T : State}
/-- the state in which this invocation would begin, were it made at this heap -/
def m_re (s T : State) (m : MethodId) (args : Array Value) (below : List Frame) : State := (T.setVm s.vm).setFrames (.invoking m args :: below)
theorem m_anew (Y : Stand p l e R s m args below meth c T locs cells slots) {cs ss : Nat} (hc : cells + cs ≤ R.cells) (hs : slots + ss ≤ R.slots) : Stand p l e { frames := R.frames, locals := R.locals, cells := cs, slots := ss } (m_re s T m args below) m args below meth c T [] 0 0 := by
  obtain ⟨g0, hg0⟩ := Option.isSome_iff_exists.mp Y.here.top
  obtain ⟨r, hr⟩ := State.topJava?_eq_some.mp hg0
  have hcur : (T.setVm s.vm).cur < (T.setVm s.vm).threads.size := State.cur_lt_of_frames hr
  have hF : (m_re s T m args below).frames = .invoking m args :: below := State.frames_setFrames _ hcur
  obtain ⟨th, hth, -⟩ := State.frames_cons hF
  obtain ⟨th2, hth2, -⟩ := State.frames_cons (s := T.setVm s.vm) hr
  have hlim : e.platform.stackLimits (m_re s T m args below).me = e.platform.stackLimits s.me := by
    rw [m_re, State.stackLimits_setFrames]
    exact Y.limits
  have hbyt : (m_re s T m args below).me.stackBytes = s.me.stackBytes := by
    rw [m_re, State.stackBytes_setFrames]
    exact Y.bytes
  have hmeth : (m_re s T m args below).vm.method? m = some meth := Y.method
  refine ⟨Y.admits, Y.cas, Y.clock, hF, ?_, Y.hears, hmeth, Y.code, Y.here, Y.tail, Y.warmed, ?_, ?_, ?_⟩
  · have h := Y.room
    have hU : (m_re s T m args below).localsInUse = s.localsInUse := by
      rw [State.localsInUse_invoking hF hmeth Y.code, State.localsInUse_invoking Y.frames Y.method Y.code]
    have q1 := Y.heapSize
    have q2 := Y.used
    have q3 : (m_re s T m args below).slotsTrue = true := Y.book
    have q4 : (m_re s T m args below).frames.length = s.frames.length := by rw [hF, Y.frames]
    have q5 : (m_re s T m args below).heap.size = T.heap.size := rfl
    have q6 : (m_re s T m args below).slotsUsed = T.slotsUsed := rfl
    simp only [State.hasRoom, Bool.and_eq_true, decide_eq_true_eq] at h ⊢
    rw [hU, hlim, hbyt, q4, q5, q6]
    obtain ⟨⟨⟨⟨a1, a2⟩, a3⟩, a4⟩, -⟩ := h
    exact ⟨⟨⟨⟨a1, a2⟩, by omega⟩, by omega⟩, q3⟩
  · exact Y.limits.trans hlim.symm
  · exact Y.bytes.trans hbyt.symm
  · have h1 := (State.sameButNew.refl (m_re s T m args below) hth).setFrames (T.setVm s.vm).frames (State.cur_lt_of_frames hF)
    have h2 : (m_re s T m args below).setFrames (T.setVm s.vm).frames = T.setVm s.vm := by
      rw [m_re, State.setFrames_setFrames, State.setFrames_self hth2]
    rw [h2] at h1
    exact h1
/-- of a frame's condition with nothing written: every old cell is as it was -/
theorem m_kept {U V : State} {cs ss : Nat} (h : U.sameButNew ({ V with vm := U.vm } : State) [] cs ss) : U.heap.size ≤ V.heap.size ∧ ∀ q : Nat, q < U.heap.size → V.heap[q]? = U.heap[q]? := by
  obtain ⟨-, h2, -, -, -, h6⟩ := h
  refine ⟨h2, fun q hq => ?_⟩
  obtain ⟨c9, e1, e2, e3, e4⟩ := h6 q _ (Array.getElem?_eq_getElem hq)
  have hs : c9.slots = (U.heap[q]).slots := Array.ext_getElem? fun i => e4 i (fun hm => nomatch hm)
  have h9 : c9 = U.heap[q] := by
    rw [hs] at e2
    exact e2
  have e5 : V.heap[q]? = some c9 := e1
  rw [e5, h9, Array.getElem?_eq_getElem hq]
/-- what a static field of a class holds, its cell below the first new one -/
theorem m_stat {C n d : String} (h : m_L X C n d s) {U : State} (hvm : s.vm.Alike U.vm) (hh : ∀ q, q < X.B → U.heap[q]? = X.H0[q]?) (hB : X.H0.size = X.B) : (Cond.laysStatic C n d).before args U = true ∧ (Cond.isRef (.static C n d)).before args U = true := by
  obtain ⟨c, k, i, f, a, cell, v, h1, h2, h3, h4, h5, h6, h7, h8, h9, h10, h11⟩ := h
  obtain ⟨k', hi', he⟩ := State.fieldFound?_setVm hvm h2
  have hlt : a < X.B := by rw [← hB]; exact (Array.getElem?_eq_some_iff.mp h5).1
  have hcell : U.heap[a]? = some cell := by rw [hh a hlt]; exact h5
  have hst : k'.statics = some a := by rw [he]; exact h4
  refine ⟨?_, ?_⟩
  · show (Cond.laysStatic C n d).holds args U none U [] = true
    exact Cond.laysStatic_of (by rw [hvm.findClass]; exact h1) hi' h3 hst hcell h6 h7 h8 (by rw [he]; exact h9)
  · have hi2 : U.fieldFound? C n d = some (c, k', i, f) := hi'
    have hev : (Term.static C n d).eval args U none [] U = some v := by
      simp [Term.eval, State.fieldNamed?, hi2, h3, hst, hcell, h6, h10]
    have hv : v = .null ∨ ∃ x, v = .ref x := by
      cases v with
      | null => exact Or.inl rfl
      | ref x => exact Or.inr ⟨x, rfl⟩
      | _ => cases h11
    show (Cond.isRef (.static C n d)).holds args U none U [] = true
    simp only [Cond.holds, Cond.value, hev]
    rcases hv with rfl | ⟨x, rfl⟩ <;> rfl
set_option maxHeartbeats 4000000 in
/-- from the constructor's call to the throw's end: as the library's Stand.ctorThrowS, for a constructor whose own entry for RuntimeException's is any one -/
theorem m_ctor (Y : Stand p l e R s m args below meth c T [] cells slots) (hexec : p.tables.exec = Jvm.exec) (htr : e.platform.stackTraces = false) {own E : String} {ic ix : Nat} {bs : ByteArray} (hown : s.vm.findClass own = some m.cls) (hE : Bundle.fit E = true)
    (d0 : decode bs 0 = .ok (.aload_n 0, 1)) (d1 : decode bs 1 = .ok (.aload_n 1, 1)) (d2 : decode bs 2 = .ok (.invokespecial ix, 3)) (d5 : decode bs 5 = .ok (.return_, 1))
    (h : ∀ w ∈ m_ownL own ic E ix bs, w.before args s = true) {a : Addr} {cX : ClassId} {kX : Class} (hfX : s.vm.findClass E = some cX) (hkX : s.vm.classes[cX]? = some kX) (hcell : T.heap[a]? = some (freshCell cX kX)) (hnew : s.heap.size ≤ a) {msg : Value} (hmsg : msg.isRef = true)
    {g : JFrame} (hg : g.method = m) (hsize : g.locals.size = c.maxLocals) (hlocked : g.locked = none) (hentered : g.entered = []) {rest : List Value} (hstack : g.stack = msg :: .ref a :: .ref a :: rest)
    (hd6 : decode c.code g.pc = .ok (.invokespecial ic, 3)) (hd9 : decode c.code (g.pc + 3) = .ok (.athrow, 1)) (hout : ∀ x ∈ c.exceptionTable.toList, covers x (g.pc + 3) = false)
    (hRf : 5 < R.frames) (hRl : 2 * g.monitorRoom + ((Value.ref a :: rest).map fun v => v.category).sum + 81 ≤ R.locals) (hlocks : meth.locks = false) :
    ∃ U : State, Steps p.tables e below (T.setTop g) U ∧ U.status = .running ∧ Ended U below (.threw a) ∧ s.WarmedH U.vm ∧ s.sameButNew ({ U with vm := s.vm } : State) [] cells slots ∧ ∃ ce, U.heap[a]? = some ce ∧ ce.vm = .none ∧ s.vm.findClass E = some ce.cls := by
  have howns : e.platform.frameOwnsMonitors = true := by rw [Y.admits.platform]
  have hfin : e.platform.finalization = false := by rw [Y.admits.platform]
  have hpl : e.platform.magicAccessors = ({} : Platform).magicAccessors := by rw [Y.admits.platform]
  have a' : ∀ x, x ∈ m_ownL own ic E ix bs → x.holds args s none s [] = true := fun x hx => h x hx
  obtain ⟨T0, Z0, L, -, K⟩ := ThrowableC.of_atoms (args := args) howns hfin hpl (fun x hx => h x (by simp [m_ownL, hx]))
  obtain ⟨Z, M, LZ, LM, hnZ⟩ := Init0T.ofS_atoms (args := args) hpl L K (fun x hx => h x (by simp [m_ownL, hx]))
  obtain ⟨P1, L1, hP1m, hP1s⟩ := PassC.ofS_atoms (args := args) (s := s) hpl (X := E) (Y := "java/lang/RuntimeException") (index := ix) (bytes := bs) (Bundle.fit_spec hE).1 (by decide) d0 d1 d2 d5 (fun x hx => h x (by simp [m_ownL, hx]))
  obtain ⟨P2, Ps, hlen, L2, hL, hP2m, hlink1, hlink⟩ := Bundle.chainS (args := args) hpl hnZ ["java/lang/Exception"] "java/lang/RuntimeException" (by decide) (by decide) (fun x hx => h x (by simp [m_ownL, hx]))
  have hsup : P1.sup = P2.m := Option.some.inj (hP1s.symm.trans hP2m)
  have hfound : s.vm.findClass E = some P1.m.cls := findClass_of_methodNamed hP1m
  cases Option.some.inj (hfX.symm.trans hfound)
  obtain ⟨c1, kX', hc1, hk, hord, -, -, hn6⟩ := Cond.instantiable_spec (a' (.instantiable E 6) (by simp [m_ownL]))
  cases Option.some.inj (hc1.symm.trans hfound)
  cases Option.some.inj (hkX.symm.trans hk)
  have hsel0 : selectMethod e.platform s.vm P1.m.cls T0.fill0 = .method T0.fill0 := by
    obtain ⟨c2, r2, m2, q1, q2, q3, q4, -⟩ := Cond.selects_spec (a' (.selects E Bundle.tFill0 Bundle.tFill0) (by simp [m_ownL]))
    cases Option.some.inj (q1.symm.trans hfound)
    cases Option.some.inj (q2.symm.trans (State.methodFound?_of_named K.fill0 (by decide)))
    cases Option.some.inj (q3.symm.trans K.fill0)
    rw [Launch.admits_selectMethod Y.admits]; exact q4
  have hselF : selectMethod e.platform s.vm P1.m.cls T0.fill = .method T0.fill := by
    obtain ⟨c2, r2, m2, q1, q2, q3, q4, -⟩ := Cond.selects_spec (a' (.selects E Bundle.tFill Bundle.tFill) (by simp [m_ownL]))
    cases Option.some.inj (q1.symm.trans hfound)
    cases Option.some.inj (q2.symm.trans (State.methodFound?_of_named K.fill (by decide)))
    cases Option.some.inj (q3.symm.trans K.fill)
    rw [Launch.admits_selectMethod Y.admits]; exact q4
  obtain ⟨cS0, hcS0, hiss⟩ := K.statics
  obtain ⟨u0, hu0⟩ := Cond.staticRefV K.unassigned L.unassignedStatic L.statics hcS0 hiss (a' (.isRef (.static Bundle.tN "UNASSIGNED_STACK" Bundle.steD)) (by simp [m_ownL]))
  obtain ⟨sen, hsen⟩ := Cond.staticRefV K.sentinel L.sentinelStatic L.statics hcS0 hiss (a' (.isRef (.static Bundle.tN "SUPPRESSED_SENTINEL" Bundle.listD)) (by simp [m_ownL]))
  obtain ⟨ci198, i198, fB, hk198, hg198, ha198, hsB, -, hnB, htB, hffB⟩ := Cond.ownField (t := .object "java/lang/Object") K.found L.cls (by decide +kernel) (a' (.fieldLink Bundle.tN 198 Bundle.tN "backtrace" "Ljava/lang/Object;") (by simp [m_ownL])) (a' (.lays Bundle.tN Bundle.tN "backtrace" "Ljava/lang/Object;") (by simp [m_ownL])) e.platform hpl
  obtain ⟨cS, hcS', heS, -, hkeep⟩ := Y.same.2.2.2.2.2 T0.aS cS0 hcS0
  have hcellS : T.heap[T0.aS]? = some cS := hcS'
  have hknownS : cS.vm ≠ .unknown := by
    rw [heS]; intro hu
    rw [show cS0.vm = .unknown from hu] at hiss
    cases hiss
  have hneS : T0.aS ≠ a := Nat.ne_of_lt (Nat.lt_of_lt_of_le (Array.getElem?_eq_some_iff.mp hcS0).1 hnew)
  obtain ⟨iM, hffM⟩ := K.msg
  obtain ⟨tyC, dC, hdC, hdnC⟩ := Cond.laysAt hfound hk K.cause (a' (.lays E Bundle.tN "cause" "Ljava/lang/Throwable;") (by simp [m_ownL]))
  obtain ⟨tyS, dS, hdS, hdnS⟩ := Cond.laysAt hfound hk K.stack (a' (.lays E Bundle.tN "stackTrace" Bundle.steD) (by simp [m_ownL]))
  obtain ⟨tyP, dP, hdP, hdnP⟩ := Cond.laysAt hfound hk K.supp (a' (.lays E Bundle.tN "suppressedExceptions" Bundle.listD) (by simp [m_ownL]))
  obtain ⟨tyM, -⟩ := Cond.laysAt hfound hk hffM (a' (.lays E Bundle.tN "detailMessage" "Ljava/lang/String;") (by simp [m_ownL]))
  obtain ⟨tyB, dB, hdB, hdnB⟩ := Cond.laysAt hfound hk hffB (a' (.lays E Bundle.tN "backtrace" "Ljava/lang/Object;") (by simp [m_ownL]))
  have bC := Cond.laysApart hdB hdC hdnB hdnC (by rw [hnB, K.causeName]; decide)
  have bS := Cond.laysApart hdB hdS hdnB hdnS (by rw [hnB, K.stackName]; decide)
  have bP := Cond.laysApart hdB hdP hdnB hdnP (by rw [hnB, K.suppName]; decide)
  have hskip : SkipFacts T0 e.platform s (fun u => u) u0 ((preparedCellV T0.toThrowableT (freshCell P1.m.cls kX) a u0 sen).withEntry T.cur) :=
    ⟨{ ci198 := ci198, i198 := i198, fBack := fB }, ⟨hk198, hg198, ha198, hsB⟩, by
      have := fresh_default (c := P1.m.cls) tyB
      rw [htB] at this
      simpa [preparedCellV, Cell.setSlot, Cell.withEntry, Array.getElem?_setIfInBounds, bC, bS, bP, bC.symm, bS.symm, bP.symm, defaultValue] using this, fun _ _ => rfl⟩
  obtain ⟨tm, methC, cdC, kC, vm1, hnC, -, -, -, -, -, -, -, hW1, st1⟩ := Steps.initColdS (tb := p.tables) (e := e) (below := below) (s := s) (U := T) Y.here hexec Y.warmed hpl hown (t := Bundle.initS E) rfl rfl (Bundle.fit_spec hE).2
    (a' (.methodLink own ic (Bundle.initS E)) (by simp [m_ownL])) (h (.instanceMethod (Bundle.initS E)) (by simp [m_ownL, Bundle.passSAtoms])) (bytes := bs) (maxL := 2) (h (.code (Bundle.initS E) bs 2 none) (by simp [m_ownL, Bundle.passSAtoms]))
    (f := g) hg (a := a) (msg := msg) (rest := .ref a :: rest) hstack hd6
  cases Option.some.inj (hnC.symm.trans hP1m)
  have Y1 := Y.noted hW1
  obtain ⟨vm2, Y2, st2⟩ := Y1.ctorMessageOffV hexec (g := { g with stack := .ref a :: rest }) hg hsize T0 L Z LZ M LM (P1 :: P2 :: Ps)
    (fun P hP => by
      rcases List.mem_cons.mp hP with rfl | hP
      · exact L1
      · rcases List.mem_cons.mp hP with rfl | hP
        · exact L2
        · exact hL P hP) ⟨hsup, hlink1, hlink⟩ (u0 := u0) (sen := sen) (self := a) hmsg (cell := freshCell P1.m.cls kX) (cellS := cS)
    hcell (fun _ => by simp) (by simp) rfl rfl hsel0 hselF hcellS hneS hknownS (by rw [hkeep _ (fun z => nomatch z)]; exact hu0) (by rw [hkeep _ (fun z => nomatch z)]; exact hsen)
    (Takes.of_laid hk hord tyC (by rw [K.causeType]; rfl)) (Takes.of_laid hk hord tyS (by rw [K.stackType]; exact fits_refV_array _ u0)) (Takes.of_laid hk hord tyP (by rw [K.suppType]; exact fits_refV_object _ sen))
    (Takes.of_laid hk hord tyM (by rw [K.msgType]; exact fits_refV_object _ ⟨msg, hmsg⟩)) K.objLocals hskip htr [] hd6
    (by have hlen1 : Ps.length = 1 := hlen
        simp only [List.length_cons, hlen1]; omega) (by have hlen1 : Ps.length = 1 := hlen
                                                        simp only [List.length_cons, hlen1]; exact hRl)
  obtain ⟨hwalk, hrun, hended, hWU, hsame⟩ := Y2.athrowLeaves hexec (g := { g with stack := .ref a :: rest, pc := g.pc + 3 }) hg hlocked hentered hout (a := a) (rest := rest) rfl hd9 hlocks
  have hlt : a < ((T.setVm vm1).setVm vm2).heap.size := (Array.getElem?_eq_some_iff.mp hcell).1
  have hU := heapAt_setCell_self (s := (T.setVm vm1).setVm vm2) (plainBareV T0.toThrowableT (freshCell P1.m.cls kX) a u0 sen msg) hlt
  refine ⟨_, st1 _ (fun acts => ?_), hrun, hended, hWU, hsame.weaken (fun y hy hlt' => ?_) (Nat.le_refl _) (Nat.le_refl _), _, hU, rfl, hfound⟩
  · rw [doInvoke_state]
    exact st2 _ hwalk
  · exfalso
    have hb : y.base = a := by
      simp only [List.nil_append, List.mem_cons, List.not_mem_nil, or_false] at hy
      rcases hy with rfl | rfl | rfl | rfl | rfl <;> rfl
    rw [hb] at hlt'
    exact Nat.not_lt.mpr hnew hlt'
theorem m_six_dec (q : Nat) : decode (m_six q).2 0 = .ok (.aload_n 0, 1) ∧ decode (m_six q).2 1 = .ok (.aload_n 1, 1) ∧ decode (m_six q).2 2 = .ok (.invokespecial (m_six q).1, 3) ∧ decode (m_six q).2 5 = .ok (.return_, 1) := by
  match q with
  | 0 => decide +kernel
  | 1 => decide +kernel
  | _ + 2 => exact ⟨(by decide +kernel : decode (m_six 2).2 0 = .ok (.aload_n 0, 1)), (by decide +kernel : decode (m_six 2).2 1 = .ok (.aload_n 1, 1)), (by decide +kernel : decode (m_six 2).2 2 = .ok (.invokespecial (m_six 2).1, 3)), (by decide +kernel : decode (m_six 2).2 5 = .ok (.return_, 1))⟩
theorem m_exc_fit (q : Nat) : Bundle.fit (m_exc q) = true := by
  match q with
  | 0 => decide +kernel
  | 1 => decide +kernel
  | _ + 2 => exact (by decide +kernel : Bundle.fit (m_exc 2) = true)
set_option maxHeartbeats 4000000 in
theorem Sp.throw {ik q : Nat} (hi : m_i k pc = some (.new ik, q, 1)) (hF1 : 6 ≤ F) (hN1 : (st.map fun v => v.category).sum + 82 ≤ N) (hC1 : 1 ≤ C) (hS1 : 6 ≤ S) (hh : m_h k = []) (hQ : Q (.threw q) (m_new M none 6)) : Sp X k F N C S (pc, ls, st) M Q := by
  intro p e R s m args below meth c H locs cells slots mc ms la hC hF hN hc hs hmc hms hR hl hv T hT Y
  have hC' := hC
  obtain ⟨hx, hb, hr, hn, hown, hlk, hnm, htb, hTs⟩ := hC
  obtain ⟨hd, -, -, hthr⟩ := m_ok hi
  obtain ⟨is, ic, text, d3, d4, d6, d9, hq3, wcl, wini, wstr, watoms⟩ := hthr rfl
  have htr : e.platform.stackTraces = false := (show e.platform.stackTraces = X.l.stackTraces by rw [Y.admits.platform]).trans hTs.2.2.2.2.2.1
  have Z := m_anew Y (cs := 1) (ss := 6) (by omega) (by omega)
  have hvm : (m_re s T m args below).vm = s.vm := rfl
  have hheap : (m_re s T m args below).heap = H := hT
  have hW0 : s.WarmedH (m_re s T m args below).vm := State.WarmedH.refl s
  have hTr : m_T X (m_re s T m args below) := hTs.moved hW0
  have hat : ∀ w ∈ m_ownL (m_y k).cls ic (m_exc q) (m_six q).1 (m_six q).2, w.before args (m_re s T m args below) = true := by
    intro w hw
    have hst1 := m_stat (args := args) hTs.2.2.2.2.2.2.1 hW0.alike (fun q hq => by rw [hheap]; exact hR.2.2 q hq) hTs.2.2.2.2.1
    have hst2 := m_stat (args := args) hTs.2.2.2.2.2.2.2.1 hW0.alike (fun q hq => by rw [hheap]; exact hR.2.2 q hq) hTs.2.2.2.2.1
    rcases watoms w hw with h | rfl | rfl | rfl | rfl
    · exact hTr.w h args
    · exact hst1.1
    · exact hst1.2
    · exact hst2.1
    · exact hst2.2
  have hownr : (m_re s T m args below).vm.findClass (m_y k).cls = some m.cls := hown
  have hins : (Cond.instantiable (m_exc q) 6).before args (m_re s T m args below) = true := hat _ (by simp [m_ownL])
  obtain ⟨vm1, cX, kX, hfX, hkX, -, -, Z1, st1⟩ := Z.newCold hx (own := (m_y k).cls) (C := m_exc q) (index := ik) (n := 6) hownr (hTr.w wcl args) hins (hTr.w wini args) (g := F0 m pc la (st.map (m_v X))) rfl (by rw [hb]; exact hd) (by show 0 + 1 ≤ 1; omega) (by show 0 + 6 ≤ 6; omega)
  generalize hT1 : (T.setVm vm1).pushCell { cls := cX, slots := kX.instanceTypes.map defaultValue, vm := .none } = T1 at Z1 st1
  have hcellA : T1.heap[T.heap.size]? = some (freshCell cX kX) := by rw [← hT1]; exact State.heap_pushCell_size _ _
  have d3' : decode c.code (pc + 3) = .ok (.dup, 1) := by rw [hb]; exact d3
  have d4' : decode c.code (pc + 4) = .ok (.ldc is, 2) := by rw [hb]; exact d4
  obtain ⟨_, _, _, sa, -, -, -, -, -, hev⟩ := Cond.stringRef_spec (args := args) (first := m_re s T m args below) (o := none) (idx := []) hownr (hTr.w wstr args)
  have hout : ∀ x ∈ c.exceptionTable.toList, covers x (pc + 9) = false := fun x hx9 => by
    rw [hh] at htb
    rw [List.map_eq_nil_iff.mp htb] at hx9
    cases hx9
  obtain ⟨b0, b1, b2, b5⟩ := m_six_dec q
  obtain ⟨U, hsteps, hrun, hend, hW, hsame, ce, hce, hcv, hcls⟩ := m_ctor Z1 hx htr (own := (m_y k).cls) (E := m_exc q) (ic := ic) (ix := (m_six q).1) (bs := (m_six q).2) hownr (m_exc_fit q) b0 b1 b2 b5 hat hfX hkX hcellA (by rw [hheap, hT]; exact Nat.le_refl _) (msg := .ref sa) rfl
    (g := { method := m, pc := pc + 6, locals := la, stack := .ref sa :: .ref T.heap.size :: .ref T.heap.size :: st.map (m_v X), locked := none }) rfl (by show la.size = _; rw [hn]; exact hv.1) rfl rfl (rest := st.map (m_v X)) rfl
    (by rw [hb]; exact d6) (by rw [hb]; exact d9) hout (by show 5 < R.frames; omega) (by
      have h1 := m_sum (X := X) st
      simp only [List.map_cons, List.sum_cons, Value.category]
      show 2 * 0 + (1 + ((st.map (m_v X)).map fun v => v.category).sum) + 81 ≤ R.locals
      rw [h1]; omega) hlk
  obtain ⟨f1, f2⟩ := m_kept hsame
  rw [hheap] at f1 f2
  have hWs : s.WarmedH U.vm := State.WarmedH.trans hW0 hW
  have hsz : H.size = X.B + M.2.1 := hR.1
  have hUsz : U.heap.size = H.size + 1 := by
    have h1 := hsame.2.2.1
    rw [show ({ U with vm := (m_re s T m args below).vm } : State).heap.size = U.heap.size from rfl, hheap] at h1
    have h2 := (Array.getElem?_eq_some_iff.mp hce).1
    rw [hT] at h2
    omega
  have hRn : m_R X (m_new M none 6) U.heap := hR.new hUsz f2 (fun y hy => nomatch hy)
  have hall : s.sameButNew ({ U with vm := s.vm } : State) locs mc ms := by
    obtain ⟨e1, e2⟩ := hsame
    rw [m_re, State.setFrames_setFrames] at e1
    have h2 : (T.setVm s.vm).sameButNew ({ U with vm := s.vm } : State) [] (0 + 1) (0 + 6) := ⟨e1, e2⟩
    have h3 := Y.same.trans h2
    rw [List.append_nil] at h3
    exact h3.mono (by omega) (by omega)
  have hend' : T.heap.size = X.B + ((m_new M none 6).2.1 - 1) := by rw [hT, hsz]; rfl
  refine ⟨U, ?_, .threw T.heap.size, .threw q, m_new M none 6, locs, hrun, hend, hWs, hall, hl, hQ, hRn, ce, by rw [hend'], by rw [← hend']; exact hce, hcv, hcls⟩
  refine st1 _ ?_
  show Steps p.tables e below (T1.setTop { method := m, pc := pc + 3, locals := la, stack := .ref T.heap.size :: st.map (m_v X), locked := none }) _
  jvm_step Z1.here [Z1.here.top, hx, d3', Value.category]
  exact Z1.ldcString hx (own := (m_y k).cls) (text := text) (index := is) (a := sa) hownr (hTr.w wstr args) hev
    (g := { method := m, pc := pc + 4, locals := la, stack := .ref T.heap.size :: .ref T.heap.size :: st.map (m_v X), locked := none }) rfl d4' _ hsteps
end ST
