/-! Instructions that read and write no cell. -/
def m_get (ls : List (Nat × Value)) (i : Nat) : Option Value := (ls.find? fun q => q.1 == i).map (·.2)
def m_st1 (i : Nat) (v : Value) (ls : List (Nat × Value)) : List (Nat × Value) := (i, v) :: ls.filter (fun q => !(q.1 == i) && !(q.1 + 1 == i && q.2.category == 2))
def m_st2 (i : Nat) (v : Value) (ls : List (Nat × Value)) : List (Nat × Value) := (i, v) :: ls.filter (fun q => !(q.1 == i) && (!(q.1 == i + 1) && !(q.1 + 1 == i && q.2.category == 2)))
theorem m_lv_st1 (X : mX) (i : Nat) (v : Value) (ls : List (Nat × Value)) : (i, m_v X v) :: (m_lv X ls).filter (fun q => !(q.1 == i) && !(q.1 + 1 == i && q.2.category == 2)) = m_lv X (m_st1 i v ls) := by
  unfold m_lv m_st1
  rw [List.map_cons, List.filter_map]
  congr 2
  apply List.filter_congr
  intro q _
  simp only [Function.comp_def, m_v_cat]
theorem m_lv_st2 (X : mX) (i : Nat) (v : Value) (ls : List (Nat × Value)) : (i, m_v X v) :: (m_lv X ls).filter (fun q => !(q.1 == i) && (!(q.1 == i + 1) && !(q.1 + 1 == i && q.2.category == 2))) = m_lv X (m_st2 i v ls) := by
  unfold m_lv m_st2
  rw [List.map_cons, List.filter_map]
  congr 2
  apply List.filter_congr
  intro q _
  simp only [Function.comp_def, m_v_cat]
theorem m_get_has {X : mX} {la : Array Slot} {n i : Nat} {ls : List (Nat × Value)} {v : Value} (h : lv_has la n (m_lv X ls)) (hg : m_get ls i = some v) : la[i]? = some (.val (m_v X v)) := by
  unfold m_get at hg
  cases hf : ls.find? (fun q => q.1 == i) with
  | none => rw [hf] at hg; cases hg
  | some q =>
    rw [hf] at hg
    have e1 : q.2 = v := by simpa using hg
    have e2 : q.1 = i := by simpa using List.find?_some hf
    have hm : (q.1, m_v X q.2) ∈ m_lv X ls := List.mem_map.mpr ⟨q, List.mem_of_find?_eq_some hf, rfl⟩
    have := h.2.2 _ hm
    rw [← e1, ← e2]
    exact this
theorem m_get_at {X : mX} {ls : List (Nat × Value)} {i : Nat} {v : Value} (hg : m_get ls i = some v) : ∃ k : Nat, (m_lv X ls)[k]? = some (i, m_v X v) := by
  unfold m_get at hg
  cases hf : ls.find? (fun q => q.1 == i) with
  | none => rw [hf] at hg; cases hg
  | some q =>
    rw [hf] at hg
    have e1 : q.2 = v := by simpa using hg
    have e2 : q.1 = i := by simpa using List.find?_some hf
    have hm : (q.1, m_v X q.2) ∈ m_lv X ls := List.mem_map.mpr ⟨q, List.mem_of_find?_eq_some hf, rfl⟩
    rw [e1, e2] at hm
    exact List.mem_iff_getElem?.mp hm
/-- one instruction; nL: how many locals; a: where a jump goes -/
def m_pure (nL a pc : Nat) (ls : List (Nat × Value)) : Instr → List Value → Option mF
  | .iconst n, st => some (pc + 1, ls, .int (Int32.ofInt n) :: st)
  | .bipush n, st => some (pc + 2, ls, .int (Int8.ofInt n).toInt32 :: st)
  | .sipush n, st => some (pc + 3, ls, .int (Int16.ofInt n).toInt32 :: st)
  | .lconst n, st => some (pc + 1, ls, .long (Int64.ofNat (n : Nat)) :: st)
  | .aconst_null, st => some (pc + 1, ls, .null :: st)
  | .iload i, st => match m_get ls i with
    | some (.int x) => some (pc + 2, ls, .int x :: st)
    | _ => none
  | .iload_n i, st => match m_get ls (i : Nat) with
    | some (.int x) => some (pc + 1, ls, .int x :: st)
    | _ => none
  | .lload i, st => match m_get ls i with
    | some (.long x) => some (pc + 2, ls, .long x :: st)
    | _ => none
  | .lload_n i, st => match m_get ls (i : Nat) with
    | some (.long x) => some (pc + 1, ls, .long x :: st)
    | _ => none
  | .aload i, st => match m_get ls i with
    | some (.ref x) => some (pc + 2, ls, .ref x :: st)
    | some (.retAddr x) => some (pc + 2, ls, .retAddr x :: st)
    | some .null => some (pc + 2, ls, .null :: st)
    | _ => none
  | .aload_n i, st => match m_get ls (i : Nat) with
    | some (.ref x) => some (pc + 1, ls, .ref x :: st)
    | some (.retAddr x) => some (pc + 1, ls, .retAddr x :: st)
    | some .null => some (pc + 1, ls, .null :: st)
    | _ => none
  | .istore i, .int x :: st => if i < nL then some (pc + 2, m_st1 i (.int x) ls, st) else none
  | .istore_n i, .int x :: st => if (i : Nat) < nL then some (pc + 1, m_st1 (i : Nat) (.int x) ls, st) else none
  | .lstore i, .long x :: st => if i + 1 < nL then some (pc + 2, m_st2 i (.long x) ls, st) else none
  | .lstore_n i, .long x :: st => if (i : Nat) + 1 < nL then some (pc + 1, m_st2 (i : Nat) (.long x) ls, st) else none
  | .astore i, .ref x :: st => if i < nL then some (pc + 2, m_st1 i (.ref x) ls, st) else none
  | .astore i, .null :: st => if i < nL then some (pc + 2, m_st1 i .null ls, st) else none
  | .astore_n i, .ref x :: st => if (i : Nat) < nL then some (pc + 1, m_st1 (i : Nat) (.ref x) ls, st) else none
  | .astore_n i, .null :: st => if (i : Nat) < nL then some (pc + 1, m_st1 (i : Nat) .null ls, st) else none
  | .iinc i n, st => match m_get ls i with
    | some (.int x) => if i < nL then some (pc + 3, m_st1 i (.int (x + Int32.ofInt n)) ls, st) else none
    | _ => none
  | .iadd, .int y :: .int x :: st => some (pc + 1, ls, .int (x + y) :: st)
  | .isub, .int y :: .int x :: st => some (pc + 1, ls, .int (x - y) :: st)
  | .imul, .int y :: .int x :: st => some (pc + 1, ls, .int (x * y) :: st)
  | .iand, .int y :: .int x :: st => some (pc + 1, ls, .int (x &&& y) :: st)
  | .ior, .int y :: .int x :: st => some (pc + 1, ls, .int (x ||| y) :: st)
  | .ixor, .int y :: .int x :: st => some (pc + 1, ls, .int (x ^^^ y) :: st)
  | .ishl, .int y :: .int x :: st => some (pc + 1, ls, .int (x <<< (y &&& 31)) :: st)
  | .ishr, .int y :: .int x :: st => some (pc + 1, ls, .int (x >>> (y &&& 31)) :: st)
  | .land, .long y :: .long x :: st => some (pc + 1, ls, .long (x &&& y) :: st)
  | .lor, .long y :: .long x :: st => some (pc + 1, ls, .long (x ||| y) :: st)
  | .lshl, .int y :: .long x :: st => some (pc + 1, ls, .long (x <<< (y.toInt64 &&& 63)) :: st)
  | .lshr, .int y :: .long x :: st => some (pc + 1, ls, .long (x >>> (y.toInt64 &&& 63)) :: st)
  | .lcmp, .long y :: .long x :: st => some (pc + 1, ls, .int (lg_cmp x y) :: st)
  | .i2l, .int x :: st => some (pc + 1, ls, .long x.toInt64 :: st)
  | .dup, .int x :: st => some (pc + 1, ls, .int x :: .int x :: st)
  | .dup, .ref x :: st => some (pc + 1, ls, .ref x :: .ref x :: st)
  | .dup2, .int y :: .ref x :: st => some (pc + 1, ls, .int y :: .ref x :: .int y :: .ref x :: st)
  | .pop, .int _ :: st => some (pc + 1, ls, st)
  | .pop, .ref _ :: st => some (pc + 1, ls, st)
  | .goto _, st => some (a, ls, st)
  | .ifnull _, .ref _ :: st => some (pc + 3, ls, st)
  | .ifnull _, .null :: st => some (a, ls, st)
  | .ifnonnull _, .ref _ :: st => some (a, ls, st)
  | .ifnonnull _, .null :: st => some (pc + 3, ls, st)
  | _, _ => none
def m_cond : ClassFile.Cond → Int32 → Int32 → Prop
  | .eq, x, y => x = y
  | .ne, x, y => ¬ x = y
  | .lt, x, y => x < y
  | .ge, x, y => y ≤ x
  | .gt, x, y => y < x
  | .le, x, y => x ≤ y
section MP
variable {p : Program} {e : Env} {R : Room} {s : State} {m : MethodId} {args : Array Value} {below : List Frame} {meth : Method} {c : Code} {H : Heap} {locs : List Loc} {cells slots : Nat} {Q : State → Prop}
set_option maxHeartbeats 4000000 in
theorem m_pure_W {X : mX} {l : Launch} {cc : ByteArray} {nL a pc : Nat} {ls : List (Nat × Value)} {i : Instr} {st : List Value} {f : mF} (hx : p.tables.exec = Jvm.exec) (hb : c.code = cc) (hd : decode cc pc = .ok (i, m_len i)) (ha : m_jump pc i a) {la : Array Slot} (hl : lv_has la nL (m_lv X ls)) (hp : m_pure nL a pc ls i st = some f)
    (kk : ∀ la' : Array Slot, lv_has la' nL (m_lv X f.2.1) → W p l e R s m args below meth c H locs cells slots Q (F0 m f.1 la' (f.2.2.map (m_v X)))) : W p l e R s m args below meth c H locs cells slots Q (F0 m pc la (st.map (m_v X))) := by
  unfold m_pure at hp
  split at hp
  · cases hp; exact lv_iconst hx hb hd rfl (kk la hl)
  · cases hp; exact lv_bipush hx hb hd rfl (kk la hl)
  · cases hp; exact lv_sipush hx hb hd rfl (kk la hl)
  · cases hp; exact lv_lconst hx hb hd rfl (kk la hl)
  · cases hp; exact lv_null hx hb hd (kk la hl)
  · split at hp
    · rename_i hg; cases hp; exact lv_iload hx hb hd (m_get_has hl hg) (kk la hl)
    · cases hp
  · split at hp
    · rename_i hg; cases hp; exact lv_iload_n hx hb hd rfl (m_get_has hl hg) (kk la hl)
    · cases hp
  · split at hp
    · rename_i hg; cases hp; exact lv_lload hx hb hd (m_get_has hl hg) (kk la hl)
    · cases hp
  · split at hp
    · rename_i hg; cases hp; exact lv_lload_n hx hb hd rfl (m_get_has hl hg) (kk la hl)
    · cases hp
  · split at hp
    · rename_i hg; cases hp; exact lv_aload hx hb hd (m_get_has hl hg) (kk la hl)
    · rename_i hg; cases hp; exact lv_aload hx hb hd (m_get_has hl hg) (kk la hl)
    · rename_i hg; cases hp; exact lv_aloadN hx hb hd (m_get_has hl hg) (kk la hl)
    · cases hp
  · split at hp
    · rename_i hg; cases hp; exact lv_aload_n hx hb hd rfl (m_get_has hl hg) (kk la hl)
    · rename_i hg; cases hp; exact lv_aload_n hx hb hd rfl (m_get_has hl hg) (kk la hl)
    · rename_i hg; cases hp; exact lv_aload_nN hx hb hd rfl (m_get_has hl hg) (kk la hl)
    · cases hp
  · split at hp
    · rename_i hi; cases hp; exact lv_istore hx hb hd hl hi (m_lv_st1 X _ (.int _) ls) kk
    · cases hp
  · split at hp
    · rename_i hi; cases hp; exact lv_istore_n hx hb hd rfl hl hi (m_lv_st1 X _ (.int _) ls) kk
    · cases hp
  · split at hp
    · rename_i hi; cases hp; exact lv_lstore hx hb hd hl hi (m_lv_st2 X _ (.long _) ls) kk
    · cases hp
  · split at hp
    · rename_i hi; cases hp; exact lv_lstore_n hx hb hd rfl hl hi (m_lv_st2 X _ (.long _) ls) kk
    · cases hp
  · split at hp
    · rename_i hi; cases hp; exact lv_astore hx hb hd hl hi (m_lv_st1 X _ (.ref _) ls) kk
    · cases hp
  · split at hp
    · rename_i hi; cases hp; exact lv_astoreN hx hb hd hl hi (m_lv_st1 X _ .null ls) kk
    · cases hp
  · split at hp
    · rename_i hi; cases hp; exact lv_astore_n hx hb hd rfl hl hi (m_lv_st1 X _ (.ref _) ls) kk
    · cases hp
  · split at hp
    · rename_i hi; cases hp; exact lv_astore_nN hx hb hd rfl hl hi (m_lv_st1 X _ .null ls) kk
    · cases hp
  · split at hp
    · rename_i hg
      split at hp
      · rename_i hi
        cases hp
        obtain ⟨k, hk⟩ := m_get_at (X := X) hg
        exact lv_iinc hx hb hd hl hk rfl hi (m_lv_st1 X _ (.int _) ls) kk
      · cases hp
    · cases hp
  · cases hp; exact lv_iadd hx hb hd (kk la hl)
  · cases hp; exact lv_isub hx hb hd (kk la hl)
  · cases hp; exact lv_imul hx hb hd (kk la hl)
  · cases hp; exact lv_iand hx hb hd (kk la hl)
  · cases hp; exact lv_ior hx hb hd (kk la hl)
  · cases hp; exact lv_ixor hx hb hd (kk la hl)
  · cases hp; exact lv_ishl hx hb hd (kk la hl)
  · cases hp; exact lv_ishr hx hb hd (kk la hl)
  · cases hp; exact lv_land hx hb hd (kk la hl)
  · cases hp; exact lv_lor hx hb hd (kk la hl)
  · cases hp; exact lv_lshl hx hb hd rfl (kk la hl)
  · cases hp; exact lv_lshr hx hb hd rfl (kk la hl)
  · cases hp; exact W.lcmp hx hb hd (kk la hl)
  · cases hp; exact lv_i2l hx hb hd rfl (kk la hl)
  · cases hp; exact lv_dup hx hb hd rfl (kk la hl)
  · cases hp; exact lv_dup hx hb hd rfl (kk la hl)
  · cases hp; exact lv_dup2_11 hx hb hd rfl rfl (kk la hl)
  · cases hp; exact lv_pop hx hb hd rfl (kk la hl)
  · cases hp; exact lv_pop hx hb hd rfl (kk la hl)
  · cases hp; exact lv_goto hx hb hd ha (kk la hl)
  · cases hp; exact lv_ifnull hx hb hd (kk la hl)
  · cases hp; exact lv_ifnullN hx hb hd ha (kk la hl)
  · cases hp; exact lv_ifnonnull hx hb hd ha (kk la hl)
  · cases hp; exact lv_ifnonnullN hx hb hd (kk la hl)
  · cases hp
theorem m_if_W {X : mX} {l : Launch} {cc : ByteArray} {a pc : Nat} {q : ClassFile.Cond} {off : Int} {x : Int32} {st : List Value} (hx : p.tables.exec = Jvm.exec) (hb : c.code = cc) (hd : decode cc pc = .ok (.ifCond q off, 3)) (ha : (pc : Int) + off = (a : Int)) {la : Array Slot}
    (k1 : m_cond q x 0 → W p l e R s m args below meth c H locs cells slots Q (F0 m a la (st.map (m_v X)))) (k2 : ¬ m_cond q x 0 → W p l e R s m args below meth c H locs cells slots Q (F0 m (pc + 3) la (st.map (m_v X)))) : W p l e R s m args below meth c H locs cells slots Q (F0 m pc la ((Value.int x :: st).map (m_v X))) := by
  cases q
  · exact lv_if_eq hx hb hd ha k1 k2
  · exact lv_if_ne hx hb hd ha k1 (fun h => k2 (fun h' => h' h))
  · exact lv_if_lt hx hb hd ha k1 k2
  · exact lv_if_ge hx hb hd ha k1 k2
  · exact lv_if_gt hx hb hd ha k1 k2
  · exact lv_if_le hx hb hd ha k1 k2
theorem m_icmp_W {X : mX} {l : Launch} {cc : ByteArray} {a pc : Nat} {q : ClassFile.Cond} {off : Int} {x y : Int32} {st : List Value} (hx : p.tables.exec = Jvm.exec) (hb : c.code = cc) (hd : decode cc pc = .ok (.if_icmp q off, 3)) (ha : (pc : Int) + off = (a : Int)) {la : Array Slot}
    (k1 : m_cond q x y → W p l e R s m args below meth c H locs cells slots Q (F0 m a la (st.map (m_v X)))) (k2 : ¬ m_cond q x y → W p l e R s m args below meth c H locs cells slots Q (F0 m (pc + 3) la (st.map (m_v X)))) : W p l e R s m args below meth c H locs cells slots Q (F0 m pc la ((Value.int y :: Value.int x :: st).map (m_v X))) := by
  cases q
  · exact lv_icmp_eq hx hb hd ha k1 k2
  · exact lv_icmp_ne hx hb hd ha k1 (fun h => k2 (fun h' => h' h))
  · exact lv_icmp_lt hx hb hd ha k1 k2
  · exact lv_icmp_ge hx hb hd ha k1 k2
  · exact lv_icmp_gt hx hb hd ha k1 k2
  · exact lv_icmp_le hx hb hd ha k1 k2
end MP
