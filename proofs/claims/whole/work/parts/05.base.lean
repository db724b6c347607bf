/-! Memory as a function: cells by their numbers from the law's first new cell on; what is known of a running method; the judgement Sp. -/
/-- cells by number; how many have been made; how many slots -/
abbrev mM : Type := (Nat → Option va_E) × Nat × Nat
/-- a frame: pc, locals that are known, operand stack -/
abbrev mF : Type := Nat × List (Nat × Value) × List Value
/-- launch; first new cell's address; the script's address, length, ints; the heap at the start; classes and slots; array classes -/
abbrev mX : Type := Launch × Nat × Nat × Nat × (Nat → Int32) × Heap × va_G × (Nat → ClassId)
abbrev mX.l (X : mX) : Launch := X.1
abbrev mX.B (X : mX) : Nat := X.2.1
abbrev mX.b (X : mX) : Nat := X.2.2.1
abbrev mX.L (X : mX) : Nat := X.2.2.2.1
abbrev mX.xs (X : mX) : Nat → Int32 := X.2.2.2.2.1
abbrev mX.H0 (X : mX) : Heap := X.2.2.2.2.2.1
abbrev mX.D (X : mX) : va_G := X.2.2.2.2.2.2.1
abbrev mX.dA (X : mX) : Nat → ClassId := X.2.2.2.2.2.2.2
/-- a value of the memory as the machine has it -/
def m_v (X : mX) : Value → Value
  | .ref a => .ref (X.B + a)
  | .retAddr _ => .ref X.b
  | .int x => .int x
  | .long x => .long x
  | .float x => .float x
  | .double x => .double x
  | .null => .null
theorem m_v_cat (X : mX) (v : Value) : (m_v X v).category = v.category := by cases v <;> rfl
def m_lv (X : mX) (ls : List (Nat × Value)) : List (Nat × Value) := ls.map fun q => (q.1, m_v X q.2)
def m_a (X : mX) : ((Nat → Int32) ⊕ (Nat → Int64) ⊕ (Nat → UInt32) ⊕ (Nat → UInt64) ⊕ (Nat → Option Nat)) → ((Nat → Int32) ⊕ (Nat → Int64) ⊕ (Nat → UInt32) ⊕ (Nat → UInt64) ⊕ (Nat → Option Nat))
  | .inl f => .inl f
  | .inr (.inl f) => .inr (.inl f)
  | .inr (.inr (.inl f)) => .inr (.inr (.inl f))
  | .inr (.inr (.inr (.inl f))) => .inr (.inr (.inr (.inl f)))
  | .inr (.inr (.inr (.inr f))) => .inr (.inr (.inr (.inr fun j => (f j).map (X.B + ·))))
def m_e (X : mX) : va_E → va_E
  | .inl (t, n, a) => .inl (X.dA t, n, m_a X a)
  | .inr (c, fs) => .inr (c, fs.map (m_v X))
/-- the heap holds the memory; below the first new cell it is as it was -/
def m_R (X : mX) (M : mM) (H : Heap) : Prop :=
  H.size = X.B + M.2.1 ∧ (∀ i x, M.1 i = some x → i < M.2.1 ∧ va_at X.D vwCl (X.B + i, m_e X x) H) ∧ ∀ q, q < X.B → H[q]? = X.H0[q]?
def m_put (M : mM) (a : Nat) (x : va_E) : mM := (va_up M.1 a (some x), M.2)
def m_new (M : mM) (x : Option va_E) (n : Nat) : mM := (va_up M.1 M.2.1 x, M.2.1 + 1, M.2.2 + n)
theorem m_R.put {X : mX} {M : mM} {H H' : Heap} (h : m_R X M H) {i : Nat} {x x' : va_E} (hi : M.1 i = some x) (hs : H'.size = H.size) (ho : ∀ q, q ≠ X.B + i → H'[q]? = H[q]?) (hx : va_at X.D vwCl (X.B + i, m_e X x') H') : m_R X (m_put M i x') H' := by
  refine ⟨by rw [hs]; exact h.1, fun j y hj => ?_, fun q hq => by rw [ho q (by omega)]; exact h.2.2 q hq⟩
  by_cases e : j = i
  · subst e
    have hj' : some x' = some y := by simpa [m_put, va_up] using hj
    cases hj'
    exact ⟨(h.2.1 j x hi).1, hx⟩
  · have hj' : M.1 j = some y := by simpa [m_put, va_up, e] using hj
    exact ⟨(h.2.1 j y hj').1, (h.2.1 j y hj').2.kept (ho _ (by show X.B + j ≠ X.B + i; omega))⟩
theorem m_R.new {X : mX} {M : mM} {H H' : Heap} (h : m_R X M H) {x : Option va_E} {n : Nat} (hs : H'.size = H.size + 1) (ho : ∀ q, q < H.size → H'[q]? = H[q]?) (hx : ∀ y, x = some y → va_at X.D vwCl (X.B + M.2.1, m_e X y) H') : m_R X (m_new M x n) H' := by
  have h1 := h.1
  refine ⟨by rw [hs, h1]; show X.B + M.2.1 + 1 = X.B + (M.2.1 + 1); omega, fun j y hj => ?_, fun q hq => by rw [ho q (by omega)]; exact h.2.2 q hq⟩
  by_cases e : j = M.2.1
  · subst e
    have hj' : x = some y := by simpa [m_new, va_up] using hj
    exact ⟨Nat.lt_succ_self _, hx y hj'⟩
  · have hj' : M.1 j = some y := by simpa [m_new, va_up, e] using hj
    have h3 := h.2.1 j y hj'
    exact ⟨Nat.lt_succ_of_lt h3.1, h3.2.kept (ho _ (by show X.B + j < H.size; have := h3.1; omega))⟩
/-- a word that holds here and in every state whose tables are warmer -/
def m_pw (s : State) (w : Cond) : Prop := ∀ (a : Array Value) (U : State), s.WarmedH U.vm → w.before a U = true
theorem m_pw.moved {s U : State} {w : Cond} (hW : s.WarmedH U.vm) (h : m_pw s w) : m_pw U w := fun a V hV => h a V (State.WarmedH.trans hW hV)
theorem m_pw.here {s : State} {w : Cond} (h : m_pw s w) (a : Array Value) : w.before a s = true := h a s (State.WarmedH.refl s)
def m_tys (X : mX) : List (ClassId × FieldType) := [(X.dA 0, .int), (X.dA 1, .long), (X.dA 2, .boolean), (X.dA 3, .object m_parcel)]
/-- a static field, its class's cell in the start's heap, the reference in it -/
def m_L (X : mX) (C n d : String) (U : State) : Prop := ∃ (c : ClassId) (k : Class) (i : Nat) (f : Field) (a : Nat) (cell : Cell) (v : Value), U.vm.findClass C = some c ∧ U.fieldFound? C n d = some (c, k, i, f) ∧ f.isStatic = true ∧ k.statics = some a ∧ X.H0[a]? = some cell ∧ cell.vm.isStatics = true ∧ cell.cls = c ∧ f.slot < cell.slots.size ∧ k.staticTypes[f.slot]? = some f.type ∧ cell.slots[f.slot]? = some v ∧ v.isRef = true
theorem m_L.moved {X : mX} {C n d : String} {u U : State} (hvm : u.vm.Alike U.vm) (h : m_L X C n d u) : m_L X C n d U := by
  obtain ⟨c, k, i, f, a, cell, v, h1, h2, h3, h4, h5, h6, h7, h8, h9, h10, h11⟩ := h
  obtain ⟨k', hi', he⟩ := State.fieldFound?_setVm hvm h2
  exact ⟨c, k', i, f, a, cell, v, by rw [hvm.findClass]; exact h1, hi', h3, by rw [he]; exact h4, h5, h6, h7, h8, by rw [he]; exact h9, h10, h11⟩
/-- the three exceptions: each is of its own class alone -/
def m_apart (s : State) : Prop := ∀ q r : Nat, q < 3 → r < 3 → ∀ cq cr : ClassId, s.vm.findClass (m_exc q) = some cq → s.vm.findClass (m_exc r) = some cr → s.vm.assignable cq cr = decide (q = r)
theorem m_apart.moved {u U : State} (hvm : u.vm.Alike U.vm) (h : m_apart u) : m_apart U := by
  intro q r hq hr cq cr h1 h2
  rw [hvm.findClass] at h1 h2
  rw [hvm.assignable]
  exact h q r hq hr cq cr h1 h2
/-- what the tables and the start's heap say, in every state of the run -/
def m_T (X : mX) (s : State) : Prop :=
  (∀ w ∈ m_tall, m_pw s w) ∧ va_K X.D vwCl (m_tys X) s ∧ va_X X.b X.L X.xs s X.H0 ∧ X.b < X.B ∧ X.H0.size = X.B ∧ X.l.stackTraces = false ∧
    m_L X Bundle.tN "UNASSIGNED_STACK" Bundle.steD s ∧ m_L X Bundle.tN "SUPPRESSED_SENTINEL" Bundle.listD s ∧ m_apart s
