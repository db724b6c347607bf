/-! The judgement: method k, at a frame, with a memory, comes to its end with Q. -/
def m_O (X : mX) (s : State) (po : Outcome) (M : mM) (o : Outcome) (t : State) : Prop := match po with
  | .returned v => o = .returned (v.map (m_v X))
  | .threw q => ∃ ce : Cell, o = .threw (X.B + (M.2.1 - 1)) ∧ t.heap[X.B + (M.2.1 - 1)]? = some ce ∧ ce.vm = .none ∧ s.vm.findClass (m_exc q) = some ce.cls
def m_Q (X : mX) (below : List Frame) (s : State) (mc ms : Nat) (Q : Outcome → mM → Prop) : State → Prop := fun t =>
  ∃ (o po : Outcome) (M : mM) (L : List Loc), t.status = .running ∧ Ended t below o ∧ s.WarmedH t.vm ∧ s.sameButNew ({ t with vm := s.vm } : State) L mc ms ∧ (∀ q ∈ L, X.B ≤ q.base) ∧ Q po M ∧ m_R X M t.heap ∧ m_O X s po M o t
def m_C (X : mX) (k : Nat) (p : Program) (s : State) (m : MethodId) (meth : Method) (c : Code) : Prop :=
  p.tables.exec = Jvm.exec ∧ c.code = m_b k ∧ meth.sig.returnType = m_r k ∧ c.maxLocals = m_n k ∧ s.vm.findClass (m_y k).cls = some m.cls ∧ meth.locks = false ∧ meth.name = (m_y k).name ∧
    c.exceptionTable.toList.map (fun h => (h.startPc, h.endPc, h.handlerPc, h.catchType)) = m_h k ∧ m_T X s
def Sp (X : mX) (k F N C S : Nat) (f : mF) (M : mM) (Q : Outcome → mM → Prop) : Prop :=
  ∀ (p : Program) (e : Env) (R : Room) (s : State) (m : MethodId) (args : Array Value) (below : List Frame) (meth : Method) (c : Code) (H : Heap) (locs : List Loc) (cells slots mc ms : Nat) (la : Array Slot),
    m_C X k p s m meth c → F ≤ R.frames → N ≤ R.locals → cells + C ≤ mc → slots + S ≤ ms → mc ≤ R.cells → ms ≤ R.slots → m_R X M H → (∀ q ∈ locs, X.B ≤ q.base) → lv_has la (m_n k) (m_lv X f.2.1) →
    W p X.l e R s m args below meth c H locs cells slots (m_Q X below s mc ms Q) (F0 m f.1 la (f.2.2.map (m_v X)))
/-- a word of the tables, here -/
theorem m_T.w {X : mX} {s : State} (h : m_T X s) {w : Cond} (hw : w ∈ m_tall) (a : Array Value) : w.before a s = true := (h.1 w hw).here a
theorem m_T.moved {X : mX} {s U : State} (hW : s.WarmedH U.vm) (h : m_T X s) : m_T X U := by
  obtain ⟨h1, h2, ⟨scr, e1, e2, e3, e4, e5⟩, h4, h5, h6, h7, h8, h9⟩ := h
  exact ⟨fun w hw => (h1 w hw).moved hW, va_K.moved hW.alike h2, ⟨scr, e1, State.isArrayOf_alike hW.alike e2, e3, e4, e5⟩, h4, h5, h6, h7.moved hW.alike, h8.moved hW.alike, h9.moved hW.alike⟩
section SP
variable {X : mX} {k F N C S : Nat} {pc : Nat} {ls : List (Nat × Value)} {st : List Value} {M : mM} {Q : Outcome → mM → Prop}
theorem Sp.mono {f : mF} {Q' : Outcome → mM → Prop} (h : Sp X k F N C S f M Q) (hq : ∀ o M', Q o M' → Q' o M') : Sp X k F N C S f M Q' := by
  intro p e R s m args below meth c H locs cells slots mc ms la hC hF hN hc hs hmc hms hR hl hv T hT Y
  obtain ⟨t, h1, o, po, M', L, g1, g2, g3, g4, g5, g6, g7, g8⟩ := h p e R s m args below meth c H locs cells slots mc ms la hC hF hN hc hs hmc hms hR hl hv T hT Y
  exact ⟨t, h1, o, po, M', L, g1, g2, g3, g4, g5, hq _ _ g6, g7, g8⟩
theorem Sp.room {f : mF} {F' N' C' S' : Nat} (h : Sp X k F N C S f M Q) (h1 : F ≤ F') (h2 : N ≤ N') (h3 : C ≤ C') (h4 : S ≤ S') : Sp X k F' N' C' S' f M Q := by
  intro p e R s m args below meth c H locs cells slots mc ms la hC hF hN hc hs hmc hms hR hl hv
  exact h p e R s m args below meth c H locs cells slots mc ms la hC (by omega) (by omega) (by omega) (by omega) hmc hms hR hl hv
/-- n instructions that touch no cell -/
def m_go (k : Nat) : Nat → mF → Option mF
  | 0, f => some f
  | n + 1, f => match m_i k f.1 with
    | some (i, a, _) => match m_pure (m_n k) a f.1 f.2.1 i f.2.2 with
      | some g => m_go k n g
      | none => none
    | none => none
theorem Sp.go (n : Nat) {f g : mF} (hg : m_go k n f = some g) (kk : Sp X k F N C S g M Q) : Sp X k F N C S f M Q := by
  induction n generalizing f with
  | zero => cases hg; exact kk
  | succ n ih =>
    unfold m_go at hg
    cases hi : m_i k f.1 with
    | none => rw [hi] at hg; cases hg
    | some r =>
      obtain ⟨i, a, b⟩ := r
      rw [hi] at hg
      cases hp : m_pure (m_n k) a f.1 f.2.1 i f.2.2 with
      | none => simp only [hp] at hg; cases hg
      | some g' =>
        simp only [hp] at hg
        have k2 := ih hg
        intro p e R s m args below meth c H locs cells slots mc ms la hC hF hN hc hs hmc hms hR hl hv
        exact m_pure_W (X := X) hC.1 hC.2.1 (m_ok hi).1 (m_ok hi).2.1 hv hp fun la' hv' => k2 p e R s m args below meth c H locs cells slots mc ms la' hC hF hN hc hs hmc hms hR hl hv'
theorem Sp.if {q : ClassFile.Cond} {off : Int} {x : Int32} {a b : Nat} (hi : m_i k pc = some (.ifCond q off, a, b)) (k1 : m_cond q x 0 → Sp X k F N C S (a, ls, st) M Q) (k2 : ¬ m_cond q x 0 → Sp X k F N C S (pc + 3, ls, st) M Q) : Sp X k F N C S (pc, ls, .int x :: st) M Q := by
  intro p e R s m args below meth c H locs cells slots mc ms la hC hF hN hc hs hmc hms hR hl hv
  exact m_if_W (X := X) hC.1 hC.2.1 (m_ok hi).1 (m_ok hi).2.1 (fun h => k1 h p e R s m args below meth c H locs cells slots mc ms la hC hF hN hc hs hmc hms hR hl hv) (fun h => k2 h p e R s m args below meth c H locs cells slots mc ms la hC hF hN hc hs hmc hms hR hl hv)
theorem Sp.icmp {q : ClassFile.Cond} {off : Int} {x y : Int32} {a b : Nat} (hi : m_i k pc = some (.if_icmp q off, a, b)) (k1 : m_cond q x y → Sp X k F N C S (a, ls, st) M Q) (k2 : ¬ m_cond q x y → Sp X k F N C S (pc + 3, ls, st) M Q) : Sp X k F N C S (pc, ls, .int y :: .int x :: st) M Q := by
  intro p e R s m args below meth c H locs cells slots mc ms la hC hF hN hc hs hmc hms hR hl hv
  exact m_icmp_W (X := X) hC.1 hC.2.1 (m_ok hi).1 (m_ok hi).2.1 (fun h => k1 h p e R s m args below meth c H locs cells slots mc ms la hC hF hN hc hs hmc hms hR hl hv) (fun h => k2 h p e R s m args below meth c H locs cells slots mc ms la hC hF hN hc hs hmc hms hR hl hv)
/-! fields -/
theorem Sp.get {idx ci j a : Nat} {fs : List Value} {v : Value} (hi : m_i k pc = some (.getfield idx, ci, j)) (hm : M.1 a = some (.inr (ci, fs))) (hj : fs[j]? = some v) (kk : Sp X k F N C S (pc + 3, ls, v :: st) M Q) : Sp X k F N C S (pc, ls, .ref a :: st) M Q := by
  intro p e R s m args below meth c H locs cells slots mc ms la hC hF hN hc hs hmc hms hR hl hv
  have K := kk p e R s m args below meth c H locs cells slots mc ms la hC hF hN hc hs hmc hms hR hl hv
  obtain ⟨hx, hb, hr, hn, hown, hlk, hnm, htb, hT⟩ := hC
  obtain ⟨hd, -, r, hr1, hjr, hlink⟩ := m_ok hi
  obtain ⟨C0, T0, N0⟩ := r
  obtain ⟨hin, -⟩ := m_cls hr1
  have hP : va_P X.D vwCl [(X.B + a, .inr (ci, fs.map (m_v X)))] H := fun q w hq => by
    have : w = (X.B + a, .inr (ci, fs.map (m_v X))) := by
      cases q with
      | zero => exact (Option.some.inj hq).symm
      | succ q => cases hq
    subst this
    exact (hR.2.1 a _ hm).2
  have hv' : (fs.map (m_v X))[j]? = some (m_v X v) := by rw [List.getElem?_map, hj]; rfl
  rcases hlink with hlink | hlink
  · exact va_get hx hb (fun w hw => hT.w hw args) hin hown hT.2.1 hP 0 rfl hr1 j hjr (hT.w hlink args) (fun _ h => h) hv' hd K
  · exact va_getN hx hb (fun w hw => hT.w hw args) hin hown hT.2.1 hP 0 rfl hr1 j hjr (hT.w hlink args) (fun _ h => h) hv' hd K
/-- which values a field of a type takes here -/
def m_fit : FieldType → Value → Bool
  | .int, .int _ => true
  | .object _, .ref _ => true
  | .array _, .ref _ => true
  | _, _ => false
theorem m_fit_ok {ty : FieldType} {v : Value} (h : m_fit ty v = true) : narrow ty (m_v X v) = m_v X v ∧ fits ty (m_v X v) = true := by
  cases ty <;> cases v <;> first | (exact ⟨rfl, rfl⟩) | (simp [m_fit] at h)
theorem Sp.put {idx ci j a : Nat} {fs : List Value} {v : Value} (hi : m_i k pc = some (.putfield idx, ci, j)) (hm : M.1 a = some (.inr (ci, fs))) (hj : j < fs.length) (hf : m_fit (m_ty ci j) v = true) (kk : Sp X k F N C S (pc + 3, ls, st) (m_put M a (.inr (ci, fs.set j v))) Q) : Sp X k F N C S (pc, ls, v :: .ref a :: st) M Q := by
  intro p e R s m args below meth c H locs cells slots mc ms la hC hF hN hc hs hmc hms hR hl hv
  have hC' := hC
  obtain ⟨hx, hb, hr, hn, hown, hlk, hnm, htb, hT⟩ := hC
  obtain ⟨hd, -, r, hr1, hjr, hlink⟩ := m_ok hi
  obtain ⟨C0, T0, N0⟩ := r
  obtain ⟨hin, hty, hnms⟩ := m_cls hr1
  have hts : ∀ w ∈ m_tall, w.before args s = true := fun w hw => hT.w hw args
  have hap := va_apart (own := (m_y k).cls) hts hin (m_ty ci) hty hnms hT.2.1 hr1
  obtain ⟨hnar, hfits⟩ := m_fit_ok (X := X) hf
  obtain ⟨r', h1, cell, q1, q2, q3, q4⟩ := (hR.2.1 a _ hm).2
  have hr' : r' = (C0, T0, N0) := Option.some.inj (h1.symm.trans hr1)
  subst hr'
  obtain ⟨hS, hfc, kC, hkC, hkind⟩ := hT.2.1.1 ci _ hr1
  obtain ⟨cf, kf, fi, f, hfi, hsl⟩ := hS j hjr
  have hst := (u_facts hfc hkC (u_lays hts hin hjr) hfi).1
  have hlt : f.slot < cell.slots.size := by rw [hsl]; exact k2_hasslot (q4 j hjr)
  have fin : ∀ H' : Heap, H'[X.B + a]? = some (cell.setSlot f.slot (m_v X v)) → H'.size = H.size → (∀ q, q ≠ X.B + a → H'[q]? = H[q]?) → W p X.l e R s m args below meth c H' (locs ++ [⟨X.B + a, f.slot⟩]) cells slots (m_Q X below s mc ms Q) (F0 m (pc + 3) la (st.map (m_v X))) := by
    intro H' e1 e2 e3
    rw [hsl] at e1
    refine kk p e R s m args below meth c H' _ cells slots mc ms la hC' hF hN hc hs hmc hms (hR.put hm e2 e3 ?_) (fun q hq => ?_) hv
    · refine ⟨_, hr1, t_OB.to (V := updV (vp_V (fs.map (m_v X))) j (m_v X v)) ⟨_, e1, q2, q3, t_set q4 hap hjr (m_v X v)⟩ (fun i _ => ?_)⟩
      show _ = vp_V ((fs.set j v).map (m_v X)) i
      rw [vp_updV_set (by rw [List.length_map]; exact hj), List.map_set]
    · rcases List.mem_append.mp hq with h | h
      · exact hl q h
      · rw [List.mem_singleton.mp h]; exact Nat.le_add_right _ _
  have hlay := hts _ (hin _ (u_in_lay hjr))
  unfold u_lay at hlay
  rcases hlink with ⟨hfin, hlink⟩ | ⟨hfin, hlink⟩ | ⟨hfin, hnmi, hdecl, hlink⟩
  · rw [if_neg (by rw [hfin]; decide)] at hlay
    have h6 := u_store hfc hkC hkind hlay hfi (hty j hjr) hnar hfits
    exact W.putK hx hb (f := f) ⟨hown, hts _ hlink, ⟨_, _, _, hfi⟩, hst⟩ (by rw [q2]; exact h6) q1 q3 hlt rfl rfl hd fin
  · rw [if_neg (by rw [hfin]; decide)] at hlay
    have h6 := u_store hfc hkC hkind hlay hfi (hty j hjr) hnar hfits
    exact va_WputK hx hb (f := f) hown (hts _ hlink) hfi hst (by rw [q2]; exact h6) q1 q3 hlt rfl rfl hd fin
  · rw [if_pos hfin] at hlay
    have hcf : m.cls = cf := by
      obtain ⟨_, _, c', _, _, _, -, -, hf', -, -, -, hown2, -⟩ := Cond.laysFinal_spec hlay
      have e1 : c' = cf := by have := hfi.symm.trans hf'; simp at this; exact this.1.symm
      rw [hdecl] at hown2
      rw [← e1]; exact Option.some.inj (hown.symm.trans hown2)
    have h6 := u_fits hfc hkC hkind (Or.inr hlay) hfi (hty j hjr) hnar hfits
    exact W.putFinK hx hb hown (hts _ hlink) hfi hst hcf (hnm.trans hnmi) (by rw [q2]; exact h6) q1 q3 hlt rfl rfl hd fin
/-! arrays -/
/-- i is the place j of an array of n -/
def m_ix (i : Int32) (j n : Nat) : Prop := ¬ i < 0 ∧ i.toNatClampNeg = j ∧ j < n
theorem m_ix.in {i : Int32} {j n : Nat} (h : m_ix i j n) : vp_in i n := by
  obtain ⟨h1, h2, h3⟩ := h
  rintro (q | q)
  · exact h1 q
  · omega
theorem m_one {H : Heap} (hR : m_R X M H) {a : Nat} {x : va_E} (hm : M.1 a = some x) : va_P X.D vwCl [(X.B + a, m_e X x)] H := fun q w hq => by
  have : w = (X.B + a, m_e X x) := by
    cases q with
    | zero => exact (Option.some.inj hq).symm
    | succ q => cases hq
  subst this
  exact (hR.2.1 a _ hm).2
theorem Sp.iald {a n j x0 y0 : Nat} {i : Int32} {f : Nat → Int32} (hi : m_i k pc = some (.iaload, x0, y0)) (hm : M.1 a = some (.inl (0, n, .inl f))) (hj : m_ix i j n) (kk : Sp X k F N C S (pc + 1, ls, .int (f j) :: st) M Q) : Sp X k F N C S (pc, ls, .int i :: .ref a :: st) M Q := by
  intro p e R s m args below meth c H locs cells slots mc ms la hC hF hN hc hs hmc hms hR hl hv
  have K := kk p e R s m args below meth c H locs cells slots mc ms la hC hF hN hc hs hmc hms hR hl hv
  rw [← hj.2.1] at K
  exact va_iald hC.1 hC.2.1 hC.2.2.2.2.2.2.2.2.2.1 (m_one hR hm) 0 0 rfl rfl hj.in (m_ok hi).1 K
theorem Sp.zald {a n j x0 y0 : Nat} {i : Int32} {f : Nat → Int32} (hi : m_i k pc = some (.baload, x0, y0)) (hm : M.1 a = some (.inl (2, n, .inl f))) (hj : m_ix i j n) (kk : Sp X k F N C S (pc + 1, ls, .int (f j) :: st) M Q) : Sp X k F N C S (pc, ls, .int i :: .ref a :: st) M Q := by
  intro p e R s m args below meth c H locs cells slots mc ms la hC hF hN hc hs hmc hms hR hl hv
  have K := kk p e R s m args below meth c H locs cells slots mc ms la hC hF hN hc hs hmc hms hR hl hv
  rw [← hj.2.1] at K
  exact va_zald hC.1 hC.2.1 hC.2.2.2.2.2.2.2.2.2.1 (m_one hR hm) 0 2 rfl rfl hj.in (m_ok hi).1 K
theorem Sp.lald {a n j x0 y0 : Nat} {i : Int32} {f : Nat → Int64} (hi : m_i k pc = some (.laload, x0, y0)) (hm : M.1 a = some (.inl (1, n, .inr (.inl f)))) (hj : m_ix i j n) (kk : Sp X k F N C S (pc + 1, ls, .long (f j) :: st) M Q) : Sp X k F N C S (pc, ls, .int i :: .ref a :: st) M Q := by
  intro p e R s m args below meth c H locs cells slots mc ms la hC hF hN hc hs hmc hms hR hl hv
  have K := kk p e R s m args below meth c H locs cells slots mc ms la hC hF hN hc hs hmc hms hR hl hv
  rw [← hj.2.1] at K
  exact va_lald hC.1 hC.2.1 hC.2.2.2.2.2.2.2.2.2.1 (m_one hR hm) 0 1 rfl rfl hj.in (m_ok hi).1 K
theorem Sp.aald {a n j x0 y0 : Nat} {i : Int32} {f : Nat → Option Nat} (hi : m_i k pc = some (.aaload, x0, y0)) (hm : M.1 a = some (.inl (3, n, .inr (.inr (.inr (.inr f)))))) (hj : m_ix i j n) (kk : Sp X k F N C S (pc + 1, ls, va_rf (f j) :: st) M Q) : Sp X k F N C S (pc, ls, .int i :: .ref a :: st) M Q := by
  intro p e R s m args below meth c H locs cells slots mc ms la hC hF hN hc hs hmc hms hR hl hv
  have K := kk p e R s m args below meth c H locs cells slots mc ms la hC hF hN hc hs hmc hms hR hl hv
  rw [← hj.2.1] at K
  have e1 : ∀ r : Option Nat, m_v X (va_rf r) = va_rf (r.map (X.B + ·)) := fun r => by cases r <;> rfl
  simp only [List.map_cons, e1] at K
  exact va_aldq hC.1 hC.2.1 hC.2.2.2.2.2.2.2.2.2.1 (m_one hR hm) 0 3 rfl rfl hj.in (m_ok hi).1 K
/-- the script -/
theorem Sp.sld {j r x0 y0 : Nat} {i : Int32} (hi : m_i k pc = some (.iaload, x0, y0)) (hj : m_ix i j X.L) (kk : Sp X k F N C S (pc + 1, ls, .int (X.xs j) :: st) M Q) : Sp X k F N C S (pc, ls, .int i :: .retAddr r :: st) M Q := by
  intro p e R s m args below meth c H locs cells slots mc ms la hC hF hN hc hs hmc hms hR hl hv
  have K := kk p e R s m args below meth c H locs cells slots mc ms la hC hF hN hc hs hmc hms hR hl hv
  rw [← hj.2.1] at K
  obtain ⟨hx, hb, hr, hn, hown, hlk, hnm, htb, hT⟩ := hC
  obtain ⟨scr, e1, e2, e3, e4, e5⟩ := hT.2.2.1
  have hcell : H[X.b]? = some scr := by rw [hR.2.2 X.b hT.2.2.2.1]; exact e1
  have hin := hj.in
  have hlt : i.toNatClampNeg < X.L := by rw [hj.2.1]; exact hj.2.2
  exact W.iald (v := .int (X.xs i.toNatClampNeg)) hx hb hcell e2 e3 (by rw [e4]; exact hin) (e5 _ hlt) rfl rfl (m_ok hi).1 K
theorem Sp.slen {r x0 y0 : Nat} (hi : m_i k pc = some (.arraylength, x0, y0)) (kk : Sp X k F N C S (pc + 1, ls, .int (Int32.ofNat X.L) :: st) M Q) : Sp X k F N C S (pc, ls, .retAddr r :: st) M Q := by
  intro p e R s m args below meth c H locs cells slots mc ms la hC hF hN hc hs hmc hms hR hl hv
  have K := kk p e R s m args below meth c H locs cells slots mc ms la hC hF hN hc hs hmc hms hR hl hv
  obtain ⟨hx, hb, hr, hn, hown, hlk, hnm, htb, hT⟩ := hC
  obtain ⟨scr, e1, e2, e3, e4, e5⟩ := hT.2.2.1
  have hcell : H[X.b]? = some scr := by rw [hR.2.2 X.b hT.2.2.2.1]; exact e1
  exact W.alen (n := Int32.ofNat X.L) hx hb hcell e2 (by rw [e4]) rfl rfl (m_ok hi).1 K
theorem m_locs {locs : List Loc} {a i : Nat} (hl : ∀ q ∈ locs, X.B ≤ q.base) : ∀ q ∈ locs ++ [(⟨X.B + a, i⟩ : Loc)], X.B ≤ q.base := fun q hq => by
  rcases List.mem_append.mp hq with h | h
  · exact hl q h
  · rw [List.mem_singleton.mp h]; exact Nat.le_add_right _ _
theorem Sp.iast {a n j x0 y0 : Nat} {i x : Int32} {f : Nat → Int32} (hi : m_i k pc = some (.iastore, x0, y0)) (hm : M.1 a = some (.inl (0, n, .inl f))) (hj : m_ix i j n) (kk : Sp X k F N C S (pc + 1, ls, st) (m_put M a (.inl (0, n, .inl (upd f j x)))) Q) : Sp X k F N C S (pc, ls, .int x :: .int i :: .ref a :: st) M Q := by
  intro p e R s m args below meth c H locs cells slots mc ms la hC hF hN hc hs hmc hms hR hl hv
  have hcell : H[X.B + a]? = some (arrV (X.dA 0) n (fun j => .int (f j))) := (hR.2.1 a _ hm).2
  refine W.iast hC.1 hC.2.1 hcell ((hC.2.2.2.2.2.2.2.2.2.1.2 0 _ rfl).1 n (fun j => .int (f j))) (fun q => by cases q) (by rw [arrV_size]; exact hj.in) rfl rfl (m_ok hi).1 fun H' e1 e2 e3 => ?_
  refine kk p e R s m args below meth c H' _ cells slots mc ms la hC hF hN hc hs hmc hms (hR.put hm e2 e3 ?_) (m_locs hl) hv
  show H'[X.B + a]? = some (arrV (X.dA 0) n (fun q => .int (upd f j x q)))
  rw [e1, arrV_store, hj.2.1]
  congr 2
  funext q
  by_cases hq : q = j
  · subst hq; simp [updV, upd]
  · simp [updV, upd, hq]
theorem Sp.zast {a n j x0 y0 : Nat} {i x : Int32} {f : Nat → Int32} (hi : m_i k pc = some (.bastore, x0, y0)) (hm : M.1 a = some (.inl (2, n, .inl f))) (hj : m_ix i j n) (h01 : x = 0 ∨ x = 1) (kk : Sp X k F N C S (pc + 1, ls, st) (m_put M a (.inl (2, n, .inl (upd f j x)))) Q) : Sp X k F N C S (pc, ls, .int x :: .int i :: .ref a :: st) M Q := by
  intro p e R s m args below meth c H locs cells slots mc ms la hC hF hN hc hs hmc hms hR hl hv
  have hcell : H[X.B + a]? = some (arrV (X.dA 2) n (fun j => .int (f j))) := (hR.2.1 a _ hm).2
  refine W.zast hC.1 hC.2.1 hcell ((hC.2.2.2.2.2.2.2.2.2.1.2 2 _ rfl).1 n (fun j => .int (f j))) (fun q => by cases q) (by rw [arrV_size]; exact hj.in) rfl rfl (m_ok hi).1 fun H' e1 e2 e3 => ?_
  refine kk p e R s m args below meth c H' _ cells slots mc ms la hC hF hN hc hs hmc hms (hR.put hm e2 e3 ?_) (m_locs hl) hv
  show H'[X.B + a]? = some (arrV (X.dA 2) n (fun q => .int (upd f j x q)))
  have hnar : narrow .boolean (.int x) = .int x := by rcases h01 with rfl | rfl <;> rfl
  rw [e1, hnar, arrV_store, hj.2.1]
  congr 2
  funext q
  by_cases hq : q = j
  · subst hq; simp [updV, upd]
  · simp [updV, upd, hq]
theorem Sp.last {a n j x0 y0 : Nat} {i : Int32} {x : Int64} {f : Nat → Int64} (hi : m_i k pc = some (.lastore, x0, y0)) (hm : M.1 a = some (.inl (1, n, .inr (.inl f)))) (hj : m_ix i j n) (kk : Sp X k F N C S (pc + 1, ls, st) (m_put M a (.inl (1, n, .inr (.inl (vp_updL f j x))))) Q) : Sp X k F N C S (pc, ls, .long x :: .int i :: .ref a :: st) M Q := by
  intro p e R s m args below meth c H locs cells slots mc ms la hC hF hN hc hs hmc hms hR hl hv
  have hcell : H[X.B + a]? = some (arrV (X.dA 1) n (fun j => .long (f j))) := (hR.2.1 a _ hm).2
  refine W.last hC.1 hC.2.1 hcell ((hC.2.2.2.2.2.2.2.2.2.1.2 1 _ rfl).1 n (fun j => .long (f j))) (fun q => by cases q) (by rw [arrV_size]; exact hj.in) rfl rfl (m_ok hi).1 fun H' e1 e2 e3 => ?_
  refine kk p e R s m args below meth c H' _ cells slots mc ms la hC hF hN hc hs hmc hms (hR.put hm e2 e3 ?_) (m_locs hl) hv
  show H'[X.B + a]? = some (arrV (X.dA 1) n (fun q => .long (vp_updL f j x q)))
  rw [e1, arrV_store, hj.2.1]
  congr 2
  funext q
  by_cases hq : q = j
  · subst hq; simp [updV, vp_updL]
  · simp [updV, vp_updL, hq]
/-- a reference to a Parcel, into the row of parcels -/
theorem Sp.aast {a n j v x0 y0 ci : Nat} {i : Int32} {vs : List Value} {f : Nat → Option Nat} (hi : m_i k pc = some (.aastore, x0, y0)) (hm : M.1 a = some (.inl (3, n, .inr (.inr (.inr (.inr f)))))) (hv : M.1 v = some (.inr (ci, vs))) (hci : m_cname ci = m_parcel) (hj : m_ix i j n)
    (kk : Sp X k F N C S (pc + 1, ls, st) (m_put M a (.inl (3, n, .inr (.inr (.inr (.inr (va_up f j (some v)))))))) Q) : Sp X k F N C S (pc, ls, .ref v :: .int i :: .ref a :: st) M Q := by
  intro p e R s m args below meth c H locs cells slots mc ms la hC hF hN hc hs hmc hms hR hl hla
  have hcell : H[X.B + a]? = some (arrV (X.dA 3) n (fun j => va_rf ((f j).map (X.B + ·)))) := (hR.2.1 a _ hm).2
  obtain ⟨r, hr1, cellV, g1, g2, g3, -⟩ := (hR.2.1 v _ hv).2
  have hK := hC.2.2.2.2.2.2.2.2.2.1
  have hcls := (hK.1 ci r hr1).2
  have hnm : r.1 = m_parcel := (m_cname_ok hr1).symm.trans hci
  obtain ⟨kA, comp, k1, k2, k3, -⟩ := (hK.2 3 _ rfl).2
  rw [hnm] at hcls
  have hcomp : comp = X.D.1 ci := Option.some.inj (k3.symm.trans hcls.1)
  subst hcomp
  obtain ⟨kC, hkC, -⟩ := hcls.2
  refine W.aast hC.1 hC.2.1 hcell (fun q h => by cases h) (fun h => by cases h) k1 k2 rfl hkC ⟨hj.1, by rw [arrV_size, hj.2.1]; exact hj.2.2⟩ g1 (fun q h => by rw [g3] at h; cases h) (by rw [g2]; exact hkC) (by rw [g2]; exact va_assign hcls) rfl rfl (m_ok hi).1 fun H' e1 e2 e3 => ?_
  refine kk p e R s m args below meth c H' _ cells slots mc ms la hC hF hN hc hs hmc hms (hR.put hm e2 e3 ?_) (m_locs hl) hla
  show H'[X.B + a]? = some (arrV (X.dA 3) n (fun q => va_rf ((va_up f j (some v) q).map (X.B + ·))))
  rw [e1, arrV_store, hj.2.1]
  congr 2
  funext q
  by_cases hq : q = j
  · subst hq; simp [updV, va_up, va_rf]
  · simp [updV, va_up, hq]
theorem m_zero_ok {ci : Nat} {C : String} {T : u_T} {N n : Nat} {fs : List Value} (h : vwCl[ci]? = some (C, T, N)) (hz : m_zero ci = (n, fs)) : N = n ∧ ∀ (X : mX) (j : Nat), j < N → defaultValue (m_ty ci j) = vp_V (fs.map (m_v X)) j := by
  match ci, h, hz with
  | 0, h, hz =>
    cases h; cases hz
    refine ⟨rfl, fun X j hj => ?_⟩
    have : j = 0 ∨ j = 1 ∨ j = 2 ∨ j = 3 ∨ j = 4 ∨ j = 5 ∨ j = 6 := by omega
    rcases this with rfl | rfl | rfl | rfl | rfl | rfl | rfl <;> rfl
  | 1, h, hz =>
    cases h; cases hz
    refine ⟨rfl, fun X j hj => ?_⟩
    have : j = 0 ∨ j = 1 ∨ j = 2 ∨ j = 3 ∨ j = 4 := by omega
    rcases this with rfl | rfl | rfl | rfl | rfl <;> rfl
  | 2, h, hz =>
    cases h; cases hz
    refine ⟨rfl, fun X j hj => ?_⟩
    have : j = 0 ∨ j = 1 := by omega
    rcases this with rfl | rfl <;> rfl
  | 3, h, hz =>
    cases h; cases hz
    refine ⟨rfl, fun X j hj => ?_⟩
    have : j = 0 ∨ j = 1 ∨ j = 2 ∨ j = 3 ∨ j = 4 := by omega
    rcases this with rfl | rfl | rfl | rfl | rfl <;> rfl
  | 4, h, hz =>
    cases h; cases hz
    refine ⟨rfl, fun X j hj => ?_⟩
    have : j = 0 ∨ j = 1 ∨ j = 2 ∨ j = 3 ∨ j = 4 ∨ j = 5 ∨ j = 6 ∨ j = 7 ∨ j = 8 ∨ j = 9 ∨ j = 10 ∨ j = 11 ∨ j = 12 ∨ j = 13 ∨ j = 14 := by omega
    rcases this with rfl | rfl | rfl | rfl | rfl | rfl | rfl | rfl | rfl | rfl | rfl | rfl | rfl | rfl | rfl <;> rfl
  | _ + 5, h, hz => cases h
/-! new cells -/
theorem Sp.new {idx ci b0 n : Nat} {fs : List Value} (hi : m_i k pc = some (.new idx, ci, b0)) (hb0 : b0 = 0) (hfs : m_zero ci = (n, fs)) (h1 : 1 ≤ C) (h2 : n ≤ S) (kk : Sp X k F N (C - 1) (S - n) (pc + 3, ls, .ref M.2.1 :: st) (m_new M (some (.inr (ci, fs))) n) Q) : Sp X k F N C S (pc, ls, st) M Q := by
  intro p e R s m args below meth c H locs cells slots mc ms la hC hF hN hc hs hmc hms hR hl hv
  have hC' := hC
  obtain ⟨hx, hb, hr, hn, hown, hlk, hnm, htb, hT⟩ := hC
  obtain ⟨hd, -, hnw, -⟩ := m_ok hi
  obtain ⟨r, hr1, hcl, hins, hini⟩ := hnw hb0
  obtain ⟨C0, T0, N0⟩ := r
  obtain ⟨hin, hty, hnms⟩ := m_cls hr1
  have hts : ∀ w ∈ m_tall, w.before args s = true := fun w hw => hT.w hw args
  have hKn := hT.2.1.1 ci _ hr1
  obtain ⟨hz1, hz2⟩ := m_zero_ok hr1 hfs
  subst hz1
  refine W.newcK (n := N0) (C := C0) hx hb hown (hts _ hcl) (hts _ hins) (hts _ hini) rfl hd (by omega) (by omega) hKn.2.1 hR.1 fun H' kC hkC e1 e2 e3 => ?_
  refine kk p e R s m args below meth c H' locs (cells + 1) (slots + N0) mc ms la hC' hF hN (by omega) (by omega) hmc hms (hR.new (by rw [e2, hR.1]) (fun q hq => e3 q (by rw [← hR.1]; exact hq)) (fun y hy => ?_)) hl hv
  cases hy
  refine ⟨_, hr1, t_OB.to (u_born (m_ty ci) hts hin hKn hkC e1 hty) fun j hj => ?_⟩
  exact hz2 X j hj
theorem Sp.newi {a0 b0 n : Nat} {x : Int32} (hi : m_i k pc = some (.newarray .int, a0, b0)) (hx0 : ¬ x < 0) (hx1 : x.toNatClampNeg = n) (hn1 : n ≤ 100000) (h1 : 1 ≤ C) (h2 : n ≤ S) (kk : Sp X k F N (C - 1) (S - n) (pc + 2, ls, .ref M.2.1 :: st) (m_new M (some (.inl (0, n, .inl fun _ => 0))) n) Q) : Sp X k F N C S (pc, ls, .int x :: st) M Q := by
  intro p e R s m args below meth c H locs cells slots mc ms la hC hF hN hc hs hmc hms hR hl hv
  have hC' := hC
  obtain ⟨hx, hb, hr, hn, hown, hlk, hnm, htb, hT⟩ := hC
  obtain ⟨hd, -, hw⟩ := m_ok hi
  refine va_newaK (H := H) hx hb (hT.w hw args) rfl hd rfl hx0 hx1 (by show n * 4 ≤ _; omega) (by omega) (by omega) hR.1 fun H' cA e1 e2 e3 hA hfc => ?_
  have hcA : cA = X.dA 0 := Option.some.inj (hfc.symm.trans (hT.2.1.2 0 _ rfl).2)
  subst hcA
  refine kk p e R s m args below meth c H' locs (cells + 1) (slots + n) mc ms la hC' hF hN (by omega) (by omega) hmc hms (hR.new (by rw [e2, hR.1]) (fun q hq => e3 q (by rw [← hR.1]; exact hq)) (fun y hy => ?_)) hl hv
  cases hy
  exact e1
theorem Sp.newz {a0 b0 n : Nat} {x : Int32} (hi : m_i k pc = some (.newarray .boolean, a0, b0)) (hx0 : ¬ x < 0) (hx1 : x.toNatClampNeg = n) (hn1 : n ≤ 100000) (h1 : 1 ≤ C) (h2 : n ≤ S) (kk : Sp X k F N (C - 1) (S - n) (pc + 2, ls, .ref M.2.1 :: st) (m_new M (some (.inl (2, n, .inl fun _ => 0))) n) Q) : Sp X k F N C S (pc, ls, .int x :: st) M Q := by
  intro p e R s m args below meth c H locs cells slots mc ms la hC hF hN hc hs hmc hms hR hl hv
  have hC' := hC
  obtain ⟨hx, hb, hr, hn, hown, hlk, hnm, htb, hT⟩ := hC
  obtain ⟨hd, -, hw⟩ := m_ok hi
  refine va_newaK (H := H) hx hb (hT.w hw args) rfl hd rfl hx0 hx1 (by show n * 1 ≤ _; omega) (by omega) (by omega) hR.1 fun H' cA e1 e2 e3 hA hfc => ?_
  have hcA : cA = X.dA 2 := Option.some.inj (hfc.symm.trans (hT.2.1.2 2 _ rfl).2)
  subst hcA
  refine kk p e R s m args below meth c H' locs (cells + 1) (slots + n) mc ms la hC' hF hN (by omega) (by omega) hmc hms (hR.new (by rw [e2, hR.1]) (fun q hq => e3 q (by rw [← hR.1]; exact hq)) (fun y hy => ?_)) hl hv
  cases hy
  exact e1
theorem Sp.newl {a0 b0 n : Nat} {x : Int32} (hi : m_i k pc = some (.newarray .long, a0, b0)) (hx0 : ¬ x < 0) (hx1 : x.toNatClampNeg = n) (hn1 : n ≤ 100000) (h1 : 1 ≤ C) (h2 : n ≤ S) (kk : Sp X k F N (C - 1) (S - n) (pc + 2, ls, .ref M.2.1 :: st) (m_new M (some (.inl (1, n, .inr (.inl fun _ => 0)))) n) Q) : Sp X k F N C S (pc, ls, .int x :: st) M Q := by
  intro p e R s m args below meth c H locs cells slots mc ms la hC hF hN hc hs hmc hms hR hl hv
  have hC' := hC
  obtain ⟨hx, hb, hr, hn, hown, hlk, hnm, htb, hT⟩ := hC
  obtain ⟨hd, -, hw⟩ := m_ok hi
  refine va_newaK (H := H) hx hb (hT.w hw args) rfl hd rfl hx0 hx1 (by show n * 8 ≤ _; omega) (by omega) (by omega) hR.1 fun H' cA e1 e2 e3 hA hfc => ?_
  have hcA : cA = X.dA 1 := Option.some.inj (hfc.symm.trans (hT.2.1.2 1 _ rfl).2)
  subst hcA
  refine kk p e R s m args below meth c H' locs (cells + 1) (slots + n) mc ms la hC' hF hN (by omega) (by omega) hmc hms (hR.new (by rw [e2, hR.1]) (fun q hq => e3 q (by rw [← hR.1]; exact hq)) (fun y hy => ?_)) hl hv
  cases hy
  exact e1
theorem Sp.newq {a0 b0 n idx : Nat} {x : Int32} (hi : m_i k pc = some (.anewarray idx, a0, b0)) (hx0 : ¬ x < 0) (hx1 : x.toNatClampNeg = n) (hn1 : n ≤ 100000) (h1 : 1 ≤ C) (h2 : n ≤ S) (kk : Sp X k F N (C - 1) (S - n) (pc + 3, ls, .ref M.2.1 :: st) (m_new M (some (.inl (3, n, .inr (.inr (.inr (.inr fun _ => none)))))) n) Q) : Sp X k F N C S (pc, ls, .int x :: st) M Q := by
  intro p e R s m args below meth c H locs cells slots mc ms la hC hF hN hc hs hmc hms hR hl hv
  have hC' := hC
  obtain ⟨hx, hb, hr, hn, hown, hlk, hnm, htb, hT⟩ := hC
  obtain ⟨hd, -, hw1, hw2⟩ := m_ok hi
  subst hx1
  refine W.anew (H := H) hx hb hown (hT.w hw1 args) (hT.w hw2 args) rfl hd rfl hx0 (by omega) (by omega) (by omega) fun cA kA comp f1 f2 f3 f4 => ?_
  have hcA : cA = X.dA 3 := by
    obtain ⟨_, _, _, _, _, h9⟩ := (hT.2.1.2 3 _ rfl).2
    exact Option.some.inj (f1.symm.trans h9)
  subst hcA
  have hsz : H.size = X.B + M.2.1 := hR.1
  rw [hsz]
  refine kk p e R s m args below meth c _ locs (cells + 1) (slots + x.toNatClampNeg) mc ms la hC' hF hN (by omega) (by omega) hmc hms (hR.new (by rw [Array.size_push]) (fun q hq => by rw [Array.getElem?_push, if_neg (Nat.ne_of_lt hq)]) (fun y hy => ?_)) hl hv
  cases hy
  show _ = some (arrV (X.dA 3) x.toNatClampNeg (fun _ => .null))
  rw [← hsz, Array.getElem?_push_size, ← arrV_new]
/-! ends -/
theorem m_end {p : Program} {e : Env} {R : Room} {s : State} {m : MethodId} {args : Array Value} {below : List Frame} {meth : Method} {c : Code} {H : Heap} {locs : List Loc} {mc ms : Nat} {g : JFrame} {v : Option Value} (hR : m_R X M H) (hq : Q (.returned v) M)
    (h : W p X.l e R s m args below meth c H locs mc ms (MQ below (fun _ _ o t => o = .returned (v.map (m_v X)) ∧ t.heap = H) args s mc ms (fun q => X.B ≤ q)) g) : W p X.l e R s m args below meth c H locs mc ms (m_Q X below s mc ms Q) g := by
  intro T hT Y
  obtain ⟨t, st, o, h1, h2, h3, L, h4, h5⟩ := h T hT Y
  exact ⟨t, st, o, .returned v, M, L, h1, h2, h4.2.1, h4.2.2, h5, hq, by rw [h3.2]; exact hR, h3.1⟩
theorem Sp.iret {x0 y0 : Nat} {x : Int32} (hi : m_i k pc = some (.ireturn, x0, y0)) (hr : m_r k = some .int ∨ (m_r k = some .boolean ∧ (x = 0 ∨ x = 1))) (hq : Q (.returned (some (.int x))) M) : Sp X k F N C S (pc, ls, [.int x]) M Q := by
  intro p e R s m args below meth c H locs cells slots mc ms la hC hF hN hc hs hmc hms hR hl hv
  refine W.widen (k := mc) (n := ms) (by omega) (by omega) (m_end (v := some (.int x)) hR hq ?_)
  have hlocks : meth.locks = false := hC.2.2.2.2.2.1
  rcases hr with hr | ⟨hr, h01⟩
  · exact W.iret hC.1 hC.2.1 (hC.2.2.1.trans hr) (fun t h _ => ⟨rfl, h⟩) hl (m_ok hi).1
  · exact W.zret hC.1 hC.2.1 (hC.2.2.1.trans hr) (by rcases h01 with rfl | rfl <;> rfl) (fun t h _ => ⟨rfl, h⟩) hl (m_ok hi).1
theorem Sp.lret {x0 y0 : Nat} {x : Int64} (hi : m_i k pc = some (.lreturn, x0, y0)) (hr : m_r k = some .long) (hq : Q (.returned (some (.long x))) M) : Sp X k F N C S (pc, ls, [.long x]) M Q := by
  intro p e R s m args below meth c H locs cells slots mc ms la hC hF hN hc hs hmc hms hR hl hv
  refine W.widen (k := mc) (n := ms) (by omega) (by omega) (m_end (v := some (.long x)) hR hq ?_)
  have hlocks : meth.locks = false := hC.2.2.2.2.2.1
  exact W.lret hC.1 hC.2.1 (hC.2.2.1.trans hr) (fun t h _ => ⟨rfl, h⟩) hl (m_ok hi).1
theorem Sp.vret {x0 y0 : Nat} (hi : m_i k pc = some (.return_, x0, y0)) (hr : m_r k = none) (hq : Q (.returned none) M) : Sp X k F N C S (pc, ls, []) M Q := by
  intro p e R s m args below meth c H locs cells slots mc ms la hC hF hN hc hs hmc hms hR hl hv
  refine W.widen (k := mc) (n := ms) (by omega) (by omega) (m_end (v := none) hR hq ?_)
  have hlocks : meth.locks = false := hC.2.2.2.2.2.1
  exact W.vret hC.1 hC.2.1 (hC.2.2.1.trans hr) (fun t h _ => ⟨rfl, h⟩) hl (m_ok hi).1
theorem Sp.aret {x0 y0 : Nat} {v : Value} {nm : String} (hi : m_i k pc = some (.areturn, x0, y0)) (hr : m_r k = some (.object nm)) (hv0 : v = .null ∨ ∃ a, v = .ref a) (hq : Q (.returned (some v)) M) : Sp X k F N C S (pc, ls, [v]) M Q := by
  intro p e R s m args below meth c H locs cells slots mc ms la hC hF hN hc hs hmc hms hR hl hv
  refine W.widen (k := mc) (n := ms) (by omega) (by omega) (m_end (v := some v) hR hq ?_)
  have hlocks : meth.locks = false := hC.2.2.2.2.2.1
  exact W.aret hC.1 hC.2.1 (hC.2.2.1.trans hr) (Or.inl ⟨_, rfl⟩) (by rcases hv0 with rfl | ⟨a, rfl⟩; exact Or.inl rfl; exact Or.inr ⟨_, rfl⟩) (fun t h _ => ⟨rfl, h⟩) hl (m_ok hi).1
/-! Object.<init>, Math.max -/
theorem m_sum (st : List Value) : ((st.map (m_v X)).map fun v => v.category).sum = (st.map fun v => v.category).sum := by
  rw [List.map_map]
  congr 1
  exact List.map_congr_left fun v _ => m_v_cat X v
theorem Sp.obj {idx a b0 : Nat} (hi : m_i k pc = some (.invokespecial idx, 1000, b0)) (hF1 : 1 ≤ F) (hN1 : (st.map fun v => v.category).sum + 12 ≤ N) (kk : Sp X k F N C S (pc + 3, ls, st) M Q) : Sp X k F N C S (pc, ls, .ref a :: st) M Q := by
  intro p e R s m args below meth c H locs cells slots mc ms la hC hF hN hc hs hmc hms hR hl hv
  have K := kk p e R s m args below meth c H locs cells slots mc ms la hC hF hN hc hs hmc hms hR hl hv
  obtain ⟨hx, hb, hr, hn, hown, hlk, hnm, htb, hT⟩ := hC
  obtain ⟨hd, -, h9⟩ := m_ok hi
  obtain ⟨w1, w2, w3⟩ := h9.1 rfl
  exact W.objInit hx hb hown (hT.w w1 args) (hT.w w2 args) (hT.w w3 args) rfl (by rw [hn]; exact hv.1) rfl hd (by omega) (by show 2 * 0 + _ + 12 ≤ _; rw [m_sum]; omega) K
theorem Sp.max {idx b0 : Nat} {x y : Int32} (hi : m_i k pc = some (.invokestatic idx, 1000, b0)) (hF1 : 1 ≤ F) (hN1 : (st.map fun v => v.category).sum + 13 ≤ N) (kk : Sp X k F N C S (pc + 3, ls, .int (if x < y then y else x) :: st) M Q) : Sp X k F N C S (pc, ls, .int y :: .int x :: st) M Q := by
  intro p e R s m args below meth c H locs cells slots mc ms la hC hF hN hc hs hmc hms hR hl hv
  have K := kk p e R s m args below meth c H locs cells slots mc ms la hC hF hN hc hs hmc hms hR hl hv
  obtain ⟨hx, hb, hr, hn, hown, hlk, hnm, htb, hT⟩ := hC
  obtain ⟨hd, -, h9⟩ := m_ok hi
  obtain ⟨w1, w2, w3, w4⟩ := h9.1 rfl
  exact va_mmax hx hb (hn.trans hv.1.symm) hown (hT.w w1 args) (hT.w w2 args) (hT.w w3 args) (hT.w w4 args) (by omega) (by rw [m_sum]; omega) (by omega) (by omega) hd K
end SP
