/-! The run's memory: the desk (0), its network (1 .. 5), its finder (6 .. 8), the row of parcels (9), the reference (10 .. 21), the law's row (22); behind them what is made later. Printed by wip/gen/world.py. -/
/-- ints in fields; rows of ints; the row of parcels; the law's row; later cells; cells and slots made -/
abbrev mWd : Type := (Nat → Int32) × (Nat → Nat → Int32) × (Nat → Option Nat) × (Nat → Int64) × (Nat → Option va_E) × Nat × Nat
def mWd.f (w : mWd) (i : Nat) : Int32 := w.1 i
def mWd.a (w : mWd) (i : Nat) : Nat → Int32 := w.2.1 i
def mWd.p (w : mWd) : Nat → Option Nat := w.2.2.1
def mWd.o (w : mWd) : Nat → Int64 := w.2.2.2.1
def mWd.d (w : mWd) : Nat → Option va_E := w.2.2.2.2.1
def mWd.nx (w : mWd) : Nat := w.2.2.2.2.2.1
def mWd.sl (w : mWd) : Nat := w.2.2.2.2.2.2
def mWd.sf (w : mWd) (i : Nat) (x : Int32) : mWd := (va_up w.1 i x, w.2)
def mWd.sa (w : mWd) (i : Nat) (g : Nat → Int32) : mWd := (w.1, va_up w.2.1 i g, w.2.2)
def mWd.sp (w : mWd) (g : Nat → Option Nat) : mWd := (w.1, w.2.1, g, w.2.2.2)
def mWd.so (w : mWd) (g : Nat → Int64) : mWd := (w.1, w.2.1, w.2.2.1, g, w.2.2.2.2)
def mWd.sd (w : mWd) (n : Nat) (x : va_E) : mWd := (w.1, w.2.1, w.2.2.1, w.2.2.2.1, va_up w.2.2.2.2.1 n (some x), w.2.2.2.2.2)
/-- one cell more, of n slots -/
def mWd.mk (w : mWd) (x : Option va_E) (n : Nat) : mWd := (w.1, w.2.1, w.2.2.1, w.2.2.2.1, va_up w.2.2.2.2.1 (w.nx - 23) x, w.nx + 1, w.sl + n)
def mw (w : mWd) : mM := (fun i => match i with
  | 0 => some (.inr (3, [.ref 1, .ref 6, .ref 9, .int (w.f 3), .int (w.f 4)]))
  | 1 => some (.inr (0, [.int (w.f 0), .int (w.f 1), .int (w.f 2), .ref 2, .ref 3, .ref 4, .ref 5]))
  | 2 => some (.inl (0, 8, .inl (w.a 2)))
  | 3 => some (.inl (0, 512, .inl (w.a 3)))
  | 4 => some (.inl (0, 512, .inl (w.a 4)))
  | 5 => some (.inl (0, 512, .inl (w.a 5)))
  | 6 => some (.inr (2, [.ref 7, .ref 8]))
  | 7 => some (.inl (0, 65, .inl (w.a 7)))
  | 8 => some (.inl (0, 65, .inl (w.a 8)))
  | 9 => some (.inl (3, 32, .inr (.inr (.inr (.inr w.p)))))
  | 10 => some (.inr (4, [.int (w.f 5), .int (w.f 6), .int (w.f 7), .ref 11, .ref 12, .int (w.f 8), .ref 13, .ref 14, .ref 15, .ref 16, .ref 17, .ref 18, .ref 19, .ref 20, .ref 21]))
  | 11 => some (.inl (0, 8, .inl (w.a 11)))
  | 12 => some (.inl (2, 4096, .inl (w.a 12)))
  | 13 => some (.inl (0, 32, .inl (w.a 13)))
  | 14 => some (.inl (0, 32, .inl (w.a 14)))
  | 15 => some (.inl (0, 32, .inl (w.a 15)))
  | 16 => some (.inl (0, 32, .inl (w.a 16)))
  | 17 => some (.inl (0, 32, .inl (w.a 17)))
  | 18 => some (.inl (0, 32, .inl (w.a 18)))
  | 19 => some (.inl (0, 2080, .inl (w.a 19)))
  | 20 => some (.inl (2, 32, .inl (w.a 20)))
  | 21 => some (.inl (0, 520, .inl (w.a 21)))
  | 22 => some (.inl (1, 1, .inr (.inl w.o)))
  | n + 23 => w.d n, w.nx, w.sl)
theorem mw_f3 (w : mWd) (x : Int32) : m_put (mw w) 0 (.inr (3, [.ref 1, .ref 6, .ref 9, .int x, .int (w.f 4)])) = mw (w.sf 3 x) := by
  refine Prod.ext (funext fun i => ?_) rfl
  match i with
  | 0 => rfl
  | 1 => rfl
  | 2 => rfl
  | 3 => rfl
  | 4 => rfl
  | 5 => rfl
  | 6 => rfl
  | 7 => rfl
  | 8 => rfl
  | 9 => rfl
  | 10 => rfl
  | 11 => rfl
  | 12 => rfl
  | 13 => rfl
  | 14 => rfl
  | 15 => rfl
  | 16 => rfl
  | 17 => rfl
  | 18 => rfl
  | 19 => rfl
  | 20 => rfl
  | 21 => rfl
  | 22 => rfl
  | n + 23 => rfl
theorem mw_f4 (w : mWd) (x : Int32) : m_put (mw w) 0 (.inr (3, [.ref 1, .ref 6, .ref 9, .int (w.f 3), .int x])) = mw (w.sf 4 x) := by
  refine Prod.ext (funext fun i => ?_) rfl
  match i with
  | 0 => rfl
  | 1 => rfl
  | 2 => rfl
  | 3 => rfl
  | 4 => rfl
  | 5 => rfl
  | 6 => rfl
  | 7 => rfl
  | 8 => rfl
  | 9 => rfl
  | 10 => rfl
  | 11 => rfl
  | 12 => rfl
  | 13 => rfl
  | 14 => rfl
  | 15 => rfl
  | 16 => rfl
  | 17 => rfl
  | 18 => rfl
  | 19 => rfl
  | 20 => rfl
  | 21 => rfl
  | 22 => rfl
  | n + 23 => rfl
theorem mw_f0 (w : mWd) (x : Int32) : m_put (mw w) 1 (.inr (0, [.int x, .int (w.f 1), .int (w.f 2), .ref 2, .ref 3, .ref 4, .ref 5])) = mw (w.sf 0 x) := by
  refine Prod.ext (funext fun i => ?_) rfl
  match i with
  | 0 => rfl
  | 1 => rfl
  | 2 => rfl
  | 3 => rfl
  | 4 => rfl
  | 5 => rfl
  | 6 => rfl
  | 7 => rfl
  | 8 => rfl
  | 9 => rfl
  | 10 => rfl
  | 11 => rfl
  | 12 => rfl
  | 13 => rfl
  | 14 => rfl
  | 15 => rfl
  | 16 => rfl
  | 17 => rfl
  | 18 => rfl
  | 19 => rfl
  | 20 => rfl
  | 21 => rfl
  | 22 => rfl
  | n + 23 => rfl
theorem mw_f1 (w : mWd) (x : Int32) : m_put (mw w) 1 (.inr (0, [.int (w.f 0), .int x, .int (w.f 2), .ref 2, .ref 3, .ref 4, .ref 5])) = mw (w.sf 1 x) := by
  refine Prod.ext (funext fun i => ?_) rfl
  match i with
  | 0 => rfl
  | 1 => rfl
  | 2 => rfl
  | 3 => rfl
  | 4 => rfl
  | 5 => rfl
  | 6 => rfl
  | 7 => rfl
  | 8 => rfl
  | 9 => rfl
  | 10 => rfl
  | 11 => rfl
  | 12 => rfl
  | 13 => rfl
  | 14 => rfl
  | 15 => rfl
  | 16 => rfl
  | 17 => rfl
  | 18 => rfl
  | 19 => rfl
  | 20 => rfl
  | 21 => rfl
  | 22 => rfl
  | n + 23 => rfl
theorem mw_f2 (w : mWd) (x : Int32) : m_put (mw w) 1 (.inr (0, [.int (w.f 0), .int (w.f 1), .int x, .ref 2, .ref 3, .ref 4, .ref 5])) = mw (w.sf 2 x) := by
  refine Prod.ext (funext fun i => ?_) rfl
  match i with
  | 0 => rfl
  | 1 => rfl
  | 2 => rfl
  | 3 => rfl
  | 4 => rfl
  | 5 => rfl
  | 6 => rfl
  | 7 => rfl
  | 8 => rfl
  | 9 => rfl
  | 10 => rfl
  | 11 => rfl
  | 12 => rfl
  | 13 => rfl
  | 14 => rfl
  | 15 => rfl
  | 16 => rfl
  | 17 => rfl
  | 18 => rfl
  | 19 => rfl
  | 20 => rfl
  | 21 => rfl
  | 22 => rfl
  | n + 23 => rfl
theorem mw_f5 (w : mWd) (x : Int32) : m_put (mw w) 10 (.inr (4, [.int x, .int (w.f 6), .int (w.f 7), .ref 11, .ref 12, .int (w.f 8), .ref 13, .ref 14, .ref 15, .ref 16, .ref 17, .ref 18, .ref 19, .ref 20, .ref 21])) = mw (w.sf 5 x) := by
  refine Prod.ext (funext fun i => ?_) rfl
  match i with
  | 0 => rfl
  | 1 => rfl
  | 2 => rfl
  | 3 => rfl
  | 4 => rfl
  | 5 => rfl
  | 6 => rfl
  | 7 => rfl
  | 8 => rfl
  | 9 => rfl
  | 10 => rfl
  | 11 => rfl
  | 12 => rfl
  | 13 => rfl
  | 14 => rfl
  | 15 => rfl
  | 16 => rfl
  | 17 => rfl
  | 18 => rfl
  | 19 => rfl
  | 20 => rfl
  | 21 => rfl
  | 22 => rfl
  | n + 23 => rfl
theorem mw_f6 (w : mWd) (x : Int32) : m_put (mw w) 10 (.inr (4, [.int (w.f 5), .int x, .int (w.f 7), .ref 11, .ref 12, .int (w.f 8), .ref 13, .ref 14, .ref 15, .ref 16, .ref 17, .ref 18, .ref 19, .ref 20, .ref 21])) = mw (w.sf 6 x) := by
  refine Prod.ext (funext fun i => ?_) rfl
  match i with
  | 0 => rfl
  | 1 => rfl
  | 2 => rfl
  | 3 => rfl
  | 4 => rfl
  | 5 => rfl
  | 6 => rfl
  | 7 => rfl
  | 8 => rfl
  | 9 => rfl
  | 10 => rfl
  | 11 => rfl
  | 12 => rfl
  | 13 => rfl
  | 14 => rfl
  | 15 => rfl
  | 16 => rfl
  | 17 => rfl
  | 18 => rfl
  | 19 => rfl
  | 20 => rfl
  | 21 => rfl
  | 22 => rfl
  | n + 23 => rfl
theorem mw_f7 (w : mWd) (x : Int32) : m_put (mw w) 10 (.inr (4, [.int (w.f 5), .int (w.f 6), .int x, .ref 11, .ref 12, .int (w.f 8), .ref 13, .ref 14, .ref 15, .ref 16, .ref 17, .ref 18, .ref 19, .ref 20, .ref 21])) = mw (w.sf 7 x) := by
  refine Prod.ext (funext fun i => ?_) rfl
  match i with
  | 0 => rfl
  | 1 => rfl
  | 2 => rfl
  | 3 => rfl
  | 4 => rfl
  | 5 => rfl
  | 6 => rfl
  | 7 => rfl
  | 8 => rfl
  | 9 => rfl
  | 10 => rfl
  | 11 => rfl
  | 12 => rfl
  | 13 => rfl
  | 14 => rfl
  | 15 => rfl
  | 16 => rfl
  | 17 => rfl
  | 18 => rfl
  | 19 => rfl
  | 20 => rfl
  | 21 => rfl
  | 22 => rfl
  | n + 23 => rfl
theorem mw_f8 (w : mWd) (x : Int32) : m_put (mw w) 10 (.inr (4, [.int (w.f 5), .int (w.f 6), .int (w.f 7), .ref 11, .ref 12, .int x, .ref 13, .ref 14, .ref 15, .ref 16, .ref 17, .ref 18, .ref 19, .ref 20, .ref 21])) = mw (w.sf 8 x) := by
  refine Prod.ext (funext fun i => ?_) rfl
  match i with
  | 0 => rfl
  | 1 => rfl
  | 2 => rfl
  | 3 => rfl
  | 4 => rfl
  | 5 => rfl
  | 6 => rfl
  | 7 => rfl
  | 8 => rfl
  | 9 => rfl
  | 10 => rfl
  | 11 => rfl
  | 12 => rfl
  | 13 => rfl
  | 14 => rfl
  | 15 => rfl
  | 16 => rfl
  | 17 => rfl
  | 18 => rfl
  | 19 => rfl
  | 20 => rfl
  | 21 => rfl
  | 22 => rfl
  | n + 23 => rfl
theorem mw_a2 (w : mWd) (g : Nat → Int32) : m_put (mw w) 2 (.inl (0, 8, .inl g)) = mw (w.sa 2 g) := by
  refine Prod.ext (funext fun i => ?_) rfl
  match i with
  | 0 => rfl
  | 1 => rfl
  | 2 => rfl
  | 3 => rfl
  | 4 => rfl
  | 5 => rfl
  | 6 => rfl
  | 7 => rfl
  | 8 => rfl
  | 9 => rfl
  | 10 => rfl
  | 11 => rfl
  | 12 => rfl
  | 13 => rfl
  | 14 => rfl
  | 15 => rfl
  | 16 => rfl
  | 17 => rfl
  | 18 => rfl
  | 19 => rfl
  | 20 => rfl
  | 21 => rfl
  | 22 => rfl
  | n + 23 => rfl
theorem mw_a3 (w : mWd) (g : Nat → Int32) : m_put (mw w) 3 (.inl (0, 512, .inl g)) = mw (w.sa 3 g) := by
  refine Prod.ext (funext fun i => ?_) rfl
  match i with
  | 0 => rfl
  | 1 => rfl
  | 2 => rfl
  | 3 => rfl
  | 4 => rfl
  | 5 => rfl
  | 6 => rfl
  | 7 => rfl
  | 8 => rfl
  | 9 => rfl
  | 10 => rfl
  | 11 => rfl
  | 12 => rfl
  | 13 => rfl
  | 14 => rfl
  | 15 => rfl
  | 16 => rfl
  | 17 => rfl
  | 18 => rfl
  | 19 => rfl
  | 20 => rfl
  | 21 => rfl
  | 22 => rfl
  | n + 23 => rfl
theorem mw_a4 (w : mWd) (g : Nat → Int32) : m_put (mw w) 4 (.inl (0, 512, .inl g)) = mw (w.sa 4 g) := by
  refine Prod.ext (funext fun i => ?_) rfl
  match i with
  | 0 => rfl
  | 1 => rfl
  | 2 => rfl
  | 3 => rfl
  | 4 => rfl
  | 5 => rfl
  | 6 => rfl
  | 7 => rfl
  | 8 => rfl
  | 9 => rfl
  | 10 => rfl
  | 11 => rfl
  | 12 => rfl
  | 13 => rfl
  | 14 => rfl
  | 15 => rfl
  | 16 => rfl
  | 17 => rfl
  | 18 => rfl
  | 19 => rfl
  | 20 => rfl
  | 21 => rfl
  | 22 => rfl
  | n + 23 => rfl
theorem mw_a5 (w : mWd) (g : Nat → Int32) : m_put (mw w) 5 (.inl (0, 512, .inl g)) = mw (w.sa 5 g) := by
  refine Prod.ext (funext fun i => ?_) rfl
  match i with
  | 0 => rfl
  | 1 => rfl
  | 2 => rfl
  | 3 => rfl
  | 4 => rfl
  | 5 => rfl
  | 6 => rfl
  | 7 => rfl
  | 8 => rfl
  | 9 => rfl
  | 10 => rfl
  | 11 => rfl
  | 12 => rfl
  | 13 => rfl
  | 14 => rfl
  | 15 => rfl
  | 16 => rfl
  | 17 => rfl
  | 18 => rfl
  | 19 => rfl
  | 20 => rfl
  | 21 => rfl
  | 22 => rfl
  | n + 23 => rfl
theorem mw_a7 (w : mWd) (g : Nat → Int32) : m_put (mw w) 7 (.inl (0, 65, .inl g)) = mw (w.sa 7 g) := by
  refine Prod.ext (funext fun i => ?_) rfl
  match i with
  | 0 => rfl
  | 1 => rfl
  | 2 => rfl
  | 3 => rfl
  | 4 => rfl
  | 5 => rfl
  | 6 => rfl
  | 7 => rfl
  | 8 => rfl
  | 9 => rfl
  | 10 => rfl
  | 11 => rfl
  | 12 => rfl
  | 13 => rfl
  | 14 => rfl
  | 15 => rfl
  | 16 => rfl
  | 17 => rfl
  | 18 => rfl
  | 19 => rfl
  | 20 => rfl
  | 21 => rfl
  | 22 => rfl
  | n + 23 => rfl
theorem mw_a8 (w : mWd) (g : Nat → Int32) : m_put (mw w) 8 (.inl (0, 65, .inl g)) = mw (w.sa 8 g) := by
  refine Prod.ext (funext fun i => ?_) rfl
  match i with
  | 0 => rfl
  | 1 => rfl
  | 2 => rfl
  | 3 => rfl
  | 4 => rfl
  | 5 => rfl
  | 6 => rfl
  | 7 => rfl
  | 8 => rfl
  | 9 => rfl
  | 10 => rfl
  | 11 => rfl
  | 12 => rfl
  | 13 => rfl
  | 14 => rfl
  | 15 => rfl
  | 16 => rfl
  | 17 => rfl
  | 18 => rfl
  | 19 => rfl
  | 20 => rfl
  | 21 => rfl
  | 22 => rfl
  | n + 23 => rfl
theorem mw_a11 (w : mWd) (g : Nat → Int32) : m_put (mw w) 11 (.inl (0, 8, .inl g)) = mw (w.sa 11 g) := by
  refine Prod.ext (funext fun i => ?_) rfl
  match i with
  | 0 => rfl
  | 1 => rfl
  | 2 => rfl
  | 3 => rfl
  | 4 => rfl
  | 5 => rfl
  | 6 => rfl
  | 7 => rfl
  | 8 => rfl
  | 9 => rfl
  | 10 => rfl
  | 11 => rfl
  | 12 => rfl
  | 13 => rfl
  | 14 => rfl
  | 15 => rfl
  | 16 => rfl
  | 17 => rfl
  | 18 => rfl
  | 19 => rfl
  | 20 => rfl
  | 21 => rfl
  | 22 => rfl
  | n + 23 => rfl
theorem mw_a12 (w : mWd) (g : Nat → Int32) : m_put (mw w) 12 (.inl (2, 4096, .inl g)) = mw (w.sa 12 g) := by
  refine Prod.ext (funext fun i => ?_) rfl
  match i with
  | 0 => rfl
  | 1 => rfl
  | 2 => rfl
  | 3 => rfl
  | 4 => rfl
  | 5 => rfl
  | 6 => rfl
  | 7 => rfl
  | 8 => rfl
  | 9 => rfl
  | 10 => rfl
  | 11 => rfl
  | 12 => rfl
  | 13 => rfl
  | 14 => rfl
  | 15 => rfl
  | 16 => rfl
  | 17 => rfl
  | 18 => rfl
  | 19 => rfl
  | 20 => rfl
  | 21 => rfl
  | 22 => rfl
  | n + 23 => rfl
theorem mw_a13 (w : mWd) (g : Nat → Int32) : m_put (mw w) 13 (.inl (0, 32, .inl g)) = mw (w.sa 13 g) := by
  refine Prod.ext (funext fun i => ?_) rfl
  match i with
  | 0 => rfl
  | 1 => rfl
  | 2 => rfl
  | 3 => rfl
  | 4 => rfl
  | 5 => rfl
  | 6 => rfl
  | 7 => rfl
  | 8 => rfl
  | 9 => rfl
  | 10 => rfl
  | 11 => rfl
  | 12 => rfl
  | 13 => rfl
  | 14 => rfl
  | 15 => rfl
  | 16 => rfl
  | 17 => rfl
  | 18 => rfl
  | 19 => rfl
  | 20 => rfl
  | 21 => rfl
  | 22 => rfl
  | n + 23 => rfl
theorem mw_a14 (w : mWd) (g : Nat → Int32) : m_put (mw w) 14 (.inl (0, 32, .inl g)) = mw (w.sa 14 g) := by
  refine Prod.ext (funext fun i => ?_) rfl
  match i with
  | 0 => rfl
  | 1 => rfl
  | 2 => rfl
  | 3 => rfl
  | 4 => rfl
  | 5 => rfl
  | 6 => rfl
  | 7 => rfl
  | 8 => rfl
  | 9 => rfl
  | 10 => rfl
  | 11 => rfl
  | 12 => rfl
  | 13 => rfl
  | 14 => rfl
  | 15 => rfl
  | 16 => rfl
  | 17 => rfl
  | 18 => rfl
  | 19 => rfl
  | 20 => rfl
  | 21 => rfl
  | 22 => rfl
  | n + 23 => rfl
theorem mw_a15 (w : mWd) (g : Nat → Int32) : m_put (mw w) 15 (.inl (0, 32, .inl g)) = mw (w.sa 15 g) := by
  refine Prod.ext (funext fun i => ?_) rfl
  match i with
  | 0 => rfl
  | 1 => rfl
  | 2 => rfl
  | 3 => rfl
  | 4 => rfl
  | 5 => rfl
  | 6 => rfl
  | 7 => rfl
  | 8 => rfl
  | 9 => rfl
  | 10 => rfl
  | 11 => rfl
  | 12 => rfl
  | 13 => rfl
  | 14 => rfl
  | 15 => rfl
  | 16 => rfl
  | 17 => rfl
  | 18 => rfl
  | 19 => rfl
  | 20 => rfl
  | 21 => rfl
  | 22 => rfl
  | n + 23 => rfl
theorem mw_a16 (w : mWd) (g : Nat → Int32) : m_put (mw w) 16 (.inl (0, 32, .inl g)) = mw (w.sa 16 g) := by
  refine Prod.ext (funext fun i => ?_) rfl
  match i with
  | 0 => rfl
  | 1 => rfl
  | 2 => rfl
  | 3 => rfl
  | 4 => rfl
  | 5 => rfl
  | 6 => rfl
  | 7 => rfl
  | 8 => rfl
  | 9 => rfl
  | 10 => rfl
  | 11 => rfl
  | 12 => rfl
  | 13 => rfl
  | 14 => rfl
  | 15 => rfl
  | 16 => rfl
  | 17 => rfl
  | 18 => rfl
  | 19 => rfl
  | 20 => rfl
  | 21 => rfl
  | 22 => rfl
  | n + 23 => rfl
theorem mw_a17 (w : mWd) (g : Nat → Int32) : m_put (mw w) 17 (.inl (0, 32, .inl g)) = mw (w.sa 17 g) := by
  refine Prod.ext (funext fun i => ?_) rfl
  match i with
  | 0 => rfl
  | 1 => rfl
  | 2 => rfl
  | 3 => rfl
  | 4 => rfl
  | 5 => rfl
  | 6 => rfl
  | 7 => rfl
  | 8 => rfl
  | 9 => rfl
  | 10 => rfl
  | 11 => rfl
  | 12 => rfl
  | 13 => rfl
  | 14 => rfl
  | 15 => rfl
  | 16 => rfl
  | 17 => rfl
  | 18 => rfl
  | 19 => rfl
  | 20 => rfl
  | 21 => rfl
  | 22 => rfl
  | n + 23 => rfl
theorem mw_a18 (w : mWd) (g : Nat → Int32) : m_put (mw w) 18 (.inl (0, 32, .inl g)) = mw (w.sa 18 g) := by
  refine Prod.ext (funext fun i => ?_) rfl
  match i with
  | 0 => rfl
  | 1 => rfl
  | 2 => rfl
  | 3 => rfl
  | 4 => rfl
  | 5 => rfl
  | 6 => rfl
  | 7 => rfl
  | 8 => rfl
  | 9 => rfl
  | 10 => rfl
  | 11 => rfl
  | 12 => rfl
  | 13 => rfl
  | 14 => rfl
  | 15 => rfl
  | 16 => rfl
  | 17 => rfl
  | 18 => rfl
  | 19 => rfl
  | 20 => rfl
  | 21 => rfl
  | 22 => rfl
  | n + 23 => rfl
theorem mw_a19 (w : mWd) (g : Nat → Int32) : m_put (mw w) 19 (.inl (0, 2080, .inl g)) = mw (w.sa 19 g) := by
  refine Prod.ext (funext fun i => ?_) rfl
  match i with
  | 0 => rfl
  | 1 => rfl
  | 2 => rfl
  | 3 => rfl
  | 4 => rfl
  | 5 => rfl
  | 6 => rfl
  | 7 => rfl
  | 8 => rfl
  | 9 => rfl
  | 10 => rfl
  | 11 => rfl
  | 12 => rfl
  | 13 => rfl
  | 14 => rfl
  | 15 => rfl
  | 16 => rfl
  | 17 => rfl
  | 18 => rfl
  | 19 => rfl
  | 20 => rfl
  | 21 => rfl
  | 22 => rfl
  | n + 23 => rfl
theorem mw_a20 (w : mWd) (g : Nat → Int32) : m_put (mw w) 20 (.inl (2, 32, .inl g)) = mw (w.sa 20 g) := by
  refine Prod.ext (funext fun i => ?_) rfl
  match i with
  | 0 => rfl
  | 1 => rfl
  | 2 => rfl
  | 3 => rfl
  | 4 => rfl
  | 5 => rfl
  | 6 => rfl
  | 7 => rfl
  | 8 => rfl
  | 9 => rfl
  | 10 => rfl
  | 11 => rfl
  | 12 => rfl
  | 13 => rfl
  | 14 => rfl
  | 15 => rfl
  | 16 => rfl
  | 17 => rfl
  | 18 => rfl
  | 19 => rfl
  | 20 => rfl
  | 21 => rfl
  | 22 => rfl
  | n + 23 => rfl
theorem mw_a21 (w : mWd) (g : Nat → Int32) : m_put (mw w) 21 (.inl (0, 520, .inl g)) = mw (w.sa 21 g) := by
  refine Prod.ext (funext fun i => ?_) rfl
  match i with
  | 0 => rfl
  | 1 => rfl
  | 2 => rfl
  | 3 => rfl
  | 4 => rfl
  | 5 => rfl
  | 6 => rfl
  | 7 => rfl
  | 8 => rfl
  | 9 => rfl
  | 10 => rfl
  | 11 => rfl
  | 12 => rfl
  | 13 => rfl
  | 14 => rfl
  | 15 => rfl
  | 16 => rfl
  | 17 => rfl
  | 18 => rfl
  | 19 => rfl
  | 20 => rfl
  | 21 => rfl
  | 22 => rfl
  | n + 23 => rfl
theorem mw_p (w : mWd) (g : Nat → Option Nat) : m_put (mw w) 9 (.inl (3, 32, .inr (.inr (.inr (.inr g))))) = mw (w.sp g) := by
  refine Prod.ext (funext fun i => ?_) rfl
  match i with
  | 0 => rfl
  | 1 => rfl
  | 2 => rfl
  | 3 => rfl
  | 4 => rfl
  | 5 => rfl
  | 6 => rfl
  | 7 => rfl
  | 8 => rfl
  | 9 => rfl
  | 10 => rfl
  | 11 => rfl
  | 12 => rfl
  | 13 => rfl
  | 14 => rfl
  | 15 => rfl
  | 16 => rfl
  | 17 => rfl
  | 18 => rfl
  | 19 => rfl
  | 20 => rfl
  | 21 => rfl
  | 22 => rfl
  | n + 23 => rfl
theorem mw_o (w : mWd) (g : Nat → Int64) : m_put (mw w) 22 (.inl (1, 1, .inr (.inl g))) = mw (w.so g) := by
  refine Prod.ext (funext fun i => ?_) rfl
  match i with
  | 0 => rfl
  | 1 => rfl
  | 2 => rfl
  | 3 => rfl
  | 4 => rfl
  | 5 => rfl
  | 6 => rfl
  | 7 => rfl
  | 8 => rfl
  | 9 => rfl
  | 10 => rfl
  | 11 => rfl
  | 12 => rfl
  | 13 => rfl
  | 14 => rfl
  | 15 => rfl
  | 16 => rfl
  | 17 => rfl
  | 18 => rfl
  | 19 => rfl
  | 20 => rfl
  | 21 => rfl
  | 22 => rfl
  | n + 23 => rfl
theorem mw_d (w : mWd) (n : Nat) (x : va_E) : m_put (mw w) (n + 23) x = mw (w.sd n x) := by
  refine Prod.ext (funext fun i => ?_) rfl
  match i with
  | 0 => rfl
  | 1 => rfl
  | 2 => rfl
  | 3 => rfl
  | 4 => rfl
  | 5 => rfl
  | 6 => rfl
  | 7 => rfl
  | 8 => rfl
  | 9 => rfl
  | 10 => rfl
  | 11 => rfl
  | 12 => rfl
  | 13 => rfl
  | 14 => rfl
  | 15 => rfl
  | 16 => rfl
  | 17 => rfl
  | 18 => rfl
  | 19 => rfl
  | 20 => rfl
  | 21 => rfl
  | 22 => rfl
  | j + 23 =>
    show (if j + 23 = n + 23 then some x else w.d j) = (if j = n then some x else w.d j)
    by_cases h : j = n
    · rw [if_pos h, if_pos (by omega)]
    · rw [if_neg h, if_neg (by omega)]
theorem mw_new (w : mWd) (x : Option va_E) (n : Nat) (h : 23 ≤ w.nx) : m_new (mw w) x n = mw (w.mk x n) := by
  obtain ⟨j, hj⟩ : ∃ j, w.nx = j + 23 := ⟨w.nx - 23, by omega⟩
  refine Prod.ext (funext fun i => ?_) rfl
  match i with
  | 0 =>
    show (if 0 = w.nx then _ else _) = _
    rw [if_neg (by omega)]
    rfl
  | 1 =>
    show (if 1 = w.nx then _ else _) = _
    rw [if_neg (by omega)]
    rfl
  | 2 =>
    show (if 2 = w.nx then _ else _) = _
    rw [if_neg (by omega)]
    rfl
  | 3 =>
    show (if 3 = w.nx then _ else _) = _
    rw [if_neg (by omega)]
    rfl
  | 4 =>
    show (if 4 = w.nx then _ else _) = _
    rw [if_neg (by omega)]
    rfl
  | 5 =>
    show (if 5 = w.nx then _ else _) = _
    rw [if_neg (by omega)]
    rfl
  | 6 =>
    show (if 6 = w.nx then _ else _) = _
    rw [if_neg (by omega)]
    rfl
  | 7 =>
    show (if 7 = w.nx then _ else _) = _
    rw [if_neg (by omega)]
    rfl
  | 8 =>
    show (if 8 = w.nx then _ else _) = _
    rw [if_neg (by omega)]
    rfl
  | 9 =>
    show (if 9 = w.nx then _ else _) = _
    rw [if_neg (by omega)]
    rfl
  | 10 =>
    show (if 10 = w.nx then _ else _) = _
    rw [if_neg (by omega)]
    rfl
  | 11 =>
    show (if 11 = w.nx then _ else _) = _
    rw [if_neg (by omega)]
    rfl
  | 12 =>
    show (if 12 = w.nx then _ else _) = _
    rw [if_neg (by omega)]
    rfl
  | 13 =>
    show (if 13 = w.nx then _ else _) = _
    rw [if_neg (by omega)]
    rfl
  | 14 =>
    show (if 14 = w.nx then _ else _) = _
    rw [if_neg (by omega)]
    rfl
  | 15 =>
    show (if 15 = w.nx then _ else _) = _
    rw [if_neg (by omega)]
    rfl
  | 16 =>
    show (if 16 = w.nx then _ else _) = _
    rw [if_neg (by omega)]
    rfl
  | 17 =>
    show (if 17 = w.nx then _ else _) = _
    rw [if_neg (by omega)]
    rfl
  | 18 =>
    show (if 18 = w.nx then _ else _) = _
    rw [if_neg (by omega)]
    rfl
  | 19 =>
    show (if 19 = w.nx then _ else _) = _
    rw [if_neg (by omega)]
    rfl
  | 20 =>
    show (if 20 = w.nx then _ else _) = _
    rw [if_neg (by omega)]
    rfl
  | 21 =>
    show (if 21 = w.nx then _ else _) = _
    rw [if_neg (by omega)]
    rfl
  | 22 =>
    show (if 22 = w.nx then _ else _) = _
    rw [if_neg (by omega)]
    rfl
  | k + 23 =>
    show (if k + 23 = w.nx then x else w.d k) = (if k = w.nx - 23 then x else w.d k)
    by_cases h : k = j
    · rw [if_pos (by omega), if_pos (by omega)]
    · rw [if_neg (by omega), if_neg (by omega)]
section WR
variable {X : mX} {k F N C S : Nat} {pc : Nat} {ls : List (Nat × Value)} {st : List Value} {w : mWd} {Q : Outcome → mM → Prop}
theorem Sp.pf3 {idx : Nat} {x : Int32} (hi : m_i k pc = some (.putfield idx, 3, 3)) (kk : Sp X k F N C S (pc + 3, ls, st) (mw (w.sf 3 x)) Q) : Sp X k F N C S (pc, ls, .int x :: .ref 0 :: st) (mw w) Q := Sp.put hi rfl (Nat.le_of_ble_eq_true rfl) rfl (by rw [← mw_f3] at kk; exact kk)
theorem Sp.pf4 {idx : Nat} {x : Int32} (hi : m_i k pc = some (.putfield idx, 3, 4)) (kk : Sp X k F N C S (pc + 3, ls, st) (mw (w.sf 4 x)) Q) : Sp X k F N C S (pc, ls, .int x :: .ref 0 :: st) (mw w) Q := Sp.put hi rfl (Nat.le_of_ble_eq_true rfl) rfl (by rw [← mw_f4] at kk; exact kk)
theorem Sp.pf0 {idx : Nat} {x : Int32} (hi : m_i k pc = some (.putfield idx, 0, 0)) (kk : Sp X k F N C S (pc + 3, ls, st) (mw (w.sf 0 x)) Q) : Sp X k F N C S (pc, ls, .int x :: .ref 1 :: st) (mw w) Q := Sp.put hi rfl (Nat.le_of_ble_eq_true rfl) rfl (by rw [← mw_f0] at kk; exact kk)
theorem Sp.pf1 {idx : Nat} {x : Int32} (hi : m_i k pc = some (.putfield idx, 0, 1)) (kk : Sp X k F N C S (pc + 3, ls, st) (mw (w.sf 1 x)) Q) : Sp X k F N C S (pc, ls, .int x :: .ref 1 :: st) (mw w) Q := Sp.put hi rfl (Nat.le_of_ble_eq_true rfl) rfl (by rw [← mw_f1] at kk; exact kk)
theorem Sp.pf2 {idx : Nat} {x : Int32} (hi : m_i k pc = some (.putfield idx, 0, 2)) (kk : Sp X k F N C S (pc + 3, ls, st) (mw (w.sf 2 x)) Q) : Sp X k F N C S (pc, ls, .int x :: .ref 1 :: st) (mw w) Q := Sp.put hi rfl (Nat.le_of_ble_eq_true rfl) rfl (by rw [← mw_f2] at kk; exact kk)
theorem Sp.pf5 {idx : Nat} {x : Int32} (hi : m_i k pc = some (.putfield idx, 4, 0)) (kk : Sp X k F N C S (pc + 3, ls, st) (mw (w.sf 5 x)) Q) : Sp X k F N C S (pc, ls, .int x :: .ref 10 :: st) (mw w) Q := Sp.put hi rfl (Nat.le_of_ble_eq_true rfl) rfl (by rw [← mw_f5] at kk; exact kk)
theorem Sp.pf6 {idx : Nat} {x : Int32} (hi : m_i k pc = some (.putfield idx, 4, 1)) (kk : Sp X k F N C S (pc + 3, ls, st) (mw (w.sf 6 x)) Q) : Sp X k F N C S (pc, ls, .int x :: .ref 10 :: st) (mw w) Q := Sp.put hi rfl (Nat.le_of_ble_eq_true rfl) rfl (by rw [← mw_f6] at kk; exact kk)
theorem Sp.pf7 {idx : Nat} {x : Int32} (hi : m_i k pc = some (.putfield idx, 4, 2)) (kk : Sp X k F N C S (pc + 3, ls, st) (mw (w.sf 7 x)) Q) : Sp X k F N C S (pc, ls, .int x :: .ref 10 :: st) (mw w) Q := Sp.put hi rfl (Nat.le_of_ble_eq_true rfl) rfl (by rw [← mw_f7] at kk; exact kk)
theorem Sp.pf8 {idx : Nat} {x : Int32} (hi : m_i k pc = some (.putfield idx, 4, 5)) (kk : Sp X k F N C S (pc + 3, ls, st) (mw (w.sf 8 x)) Q) : Sp X k F N C S (pc, ls, .int x :: .ref 10 :: st) (mw w) Q := Sp.put hi rfl (Nat.le_of_ble_eq_true rfl) rfl (by rw [← mw_f8] at kk; exact kk)
theorem Sp.pa2 {i x : Int32} {j x0 y0 : Nat} (hi : m_i k pc = some (.iastore, x0, y0)) (hj : m_ix i j 8) (kk : Sp X k F N C S (pc + 1, ls, st) (mw (w.sa 2 (upd (w.a 2) j x))) Q) : Sp X k F N C S (pc, ls, .int x :: .int i :: .ref 2 :: st) (mw w) Q := Sp.iast hi rfl hj (by rw [← mw_a2] at kk; exact kk)
theorem Sp.pa3 {i x : Int32} {j x0 y0 : Nat} (hi : m_i k pc = some (.iastore, x0, y0)) (hj : m_ix i j 512) (kk : Sp X k F N C S (pc + 1, ls, st) (mw (w.sa 3 (upd (w.a 3) j x))) Q) : Sp X k F N C S (pc, ls, .int x :: .int i :: .ref 3 :: st) (mw w) Q := Sp.iast hi rfl hj (by rw [← mw_a3] at kk; exact kk)
theorem Sp.pa4 {i x : Int32} {j x0 y0 : Nat} (hi : m_i k pc = some (.iastore, x0, y0)) (hj : m_ix i j 512) (kk : Sp X k F N C S (pc + 1, ls, st) (mw (w.sa 4 (upd (w.a 4) j x))) Q) : Sp X k F N C S (pc, ls, .int x :: .int i :: .ref 4 :: st) (mw w) Q := Sp.iast hi rfl hj (by rw [← mw_a4] at kk; exact kk)
theorem Sp.pa5 {i x : Int32} {j x0 y0 : Nat} (hi : m_i k pc = some (.iastore, x0, y0)) (hj : m_ix i j 512) (kk : Sp X k F N C S (pc + 1, ls, st) (mw (w.sa 5 (upd (w.a 5) j x))) Q) : Sp X k F N C S (pc, ls, .int x :: .int i :: .ref 5 :: st) (mw w) Q := Sp.iast hi rfl hj (by rw [← mw_a5] at kk; exact kk)
theorem Sp.pa7 {i x : Int32} {j x0 y0 : Nat} (hi : m_i k pc = some (.iastore, x0, y0)) (hj : m_ix i j 65) (kk : Sp X k F N C S (pc + 1, ls, st) (mw (w.sa 7 (upd (w.a 7) j x))) Q) : Sp X k F N C S (pc, ls, .int x :: .int i :: .ref 7 :: st) (mw w) Q := Sp.iast hi rfl hj (by rw [← mw_a7] at kk; exact kk)
theorem Sp.pa8 {i x : Int32} {j x0 y0 : Nat} (hi : m_i k pc = some (.iastore, x0, y0)) (hj : m_ix i j 65) (kk : Sp X k F N C S (pc + 1, ls, st) (mw (w.sa 8 (upd (w.a 8) j x))) Q) : Sp X k F N C S (pc, ls, .int x :: .int i :: .ref 8 :: st) (mw w) Q := Sp.iast hi rfl hj (by rw [← mw_a8] at kk; exact kk)
theorem Sp.pa11 {i x : Int32} {j x0 y0 : Nat} (hi : m_i k pc = some (.iastore, x0, y0)) (hj : m_ix i j 8) (kk : Sp X k F N C S (pc + 1, ls, st) (mw (w.sa 11 (upd (w.a 11) j x))) Q) : Sp X k F N C S (pc, ls, .int x :: .int i :: .ref 11 :: st) (mw w) Q := Sp.iast hi rfl hj (by rw [← mw_a11] at kk; exact kk)
theorem Sp.pa12 {i x : Int32} {j x0 y0 : Nat} (hi : m_i k pc = some (.bastore, x0, y0)) (hj : m_ix i j 4096) (h01 : x = 0 ∨ x = 1) (kk : Sp X k F N C S (pc + 1, ls, st) (mw (w.sa 12 (upd (w.a 12) j x))) Q) : Sp X k F N C S (pc, ls, .int x :: .int i :: .ref 12 :: st) (mw w) Q := Sp.zast hi rfl hj h01 (by rw [← mw_a12] at kk; exact kk)
theorem Sp.pa13 {i x : Int32} {j x0 y0 : Nat} (hi : m_i k pc = some (.iastore, x0, y0)) (hj : m_ix i j 32) (kk : Sp X k F N C S (pc + 1, ls, st) (mw (w.sa 13 (upd (w.a 13) j x))) Q) : Sp X k F N C S (pc, ls, .int x :: .int i :: .ref 13 :: st) (mw w) Q := Sp.iast hi rfl hj (by rw [← mw_a13] at kk; exact kk)
theorem Sp.pa14 {i x : Int32} {j x0 y0 : Nat} (hi : m_i k pc = some (.iastore, x0, y0)) (hj : m_ix i j 32) (kk : Sp X k F N C S (pc + 1, ls, st) (mw (w.sa 14 (upd (w.a 14) j x))) Q) : Sp X k F N C S (pc, ls, .int x :: .int i :: .ref 14 :: st) (mw w) Q := Sp.iast hi rfl hj (by rw [← mw_a14] at kk; exact kk)
theorem Sp.pa15 {i x : Int32} {j x0 y0 : Nat} (hi : m_i k pc = some (.iastore, x0, y0)) (hj : m_ix i j 32) (kk : Sp X k F N C S (pc + 1, ls, st) (mw (w.sa 15 (upd (w.a 15) j x))) Q) : Sp X k F N C S (pc, ls, .int x :: .int i :: .ref 15 :: st) (mw w) Q := Sp.iast hi rfl hj (by rw [← mw_a15] at kk; exact kk)
theorem Sp.pa16 {i x : Int32} {j x0 y0 : Nat} (hi : m_i k pc = some (.iastore, x0, y0)) (hj : m_ix i j 32) (kk : Sp X k F N C S (pc + 1, ls, st) (mw (w.sa 16 (upd (w.a 16) j x))) Q) : Sp X k F N C S (pc, ls, .int x :: .int i :: .ref 16 :: st) (mw w) Q := Sp.iast hi rfl hj (by rw [← mw_a16] at kk; exact kk)
theorem Sp.pa17 {i x : Int32} {j x0 y0 : Nat} (hi : m_i k pc = some (.iastore, x0, y0)) (hj : m_ix i j 32) (kk : Sp X k F N C S (pc + 1, ls, st) (mw (w.sa 17 (upd (w.a 17) j x))) Q) : Sp X k F N C S (pc, ls, .int x :: .int i :: .ref 17 :: st) (mw w) Q := Sp.iast hi rfl hj (by rw [← mw_a17] at kk; exact kk)
theorem Sp.pa18 {i x : Int32} {j x0 y0 : Nat} (hi : m_i k pc = some (.iastore, x0, y0)) (hj : m_ix i j 32) (kk : Sp X k F N C S (pc + 1, ls, st) (mw (w.sa 18 (upd (w.a 18) j x))) Q) : Sp X k F N C S (pc, ls, .int x :: .int i :: .ref 18 :: st) (mw w) Q := Sp.iast hi rfl hj (by rw [← mw_a18] at kk; exact kk)
theorem Sp.pa19 {i x : Int32} {j x0 y0 : Nat} (hi : m_i k pc = some (.iastore, x0, y0)) (hj : m_ix i j 2080) (kk : Sp X k F N C S (pc + 1, ls, st) (mw (w.sa 19 (upd (w.a 19) j x))) Q) : Sp X k F N C S (pc, ls, .int x :: .int i :: .ref 19 :: st) (mw w) Q := Sp.iast hi rfl hj (by rw [← mw_a19] at kk; exact kk)
theorem Sp.pa20 {i x : Int32} {j x0 y0 : Nat} (hi : m_i k pc = some (.bastore, x0, y0)) (hj : m_ix i j 32) (h01 : x = 0 ∨ x = 1) (kk : Sp X k F N C S (pc + 1, ls, st) (mw (w.sa 20 (upd (w.a 20) j x))) Q) : Sp X k F N C S (pc, ls, .int x :: .int i :: .ref 20 :: st) (mw w) Q := Sp.zast hi rfl hj h01 (by rw [← mw_a20] at kk; exact kk)
theorem Sp.pa21 {i x : Int32} {j x0 y0 : Nat} (hi : m_i k pc = some (.iastore, x0, y0)) (hj : m_ix i j 520) (kk : Sp X k F N C S (pc + 1, ls, st) (mw (w.sa 21 (upd (w.a 21) j x))) Q) : Sp X k F N C S (pc, ls, .int x :: .int i :: .ref 21 :: st) (mw w) Q := Sp.iast hi rfl hj (by rw [← mw_a21] at kk; exact kk)
theorem Sp.po {x : Int64} {i : Int32} {x0 y0 : Nat} (hi : m_i k pc = some (.lastore, x0, y0)) (hj : m_ix i 0 1) (kk : Sp X k F N C S (pc + 1, ls, st) (mw (w.so (vp_updL w.o 0 x))) Q) : Sp X k F N C S (pc, ls, .long x :: .int i :: .ref 22 :: st) (mw w) Q := Sp.last hi rfl hj (by rw [← mw_o] at kk; exact kk)
theorem Sp.th {ik q : Nat} (hi : m_i k pc = some (.new ik, q, 1)) (hF1 : 6 ≤ F) (hN1 : (st.map fun v => v.category).sum + 82 ≤ N) (hC1 : 1 ≤ C) (hS1 : 6 ≤ S) (hh : m_h k = []) (hx : 23 ≤ w.nx) (hQ : Q (.threw q) (mw (w.mk none 6))) : Sp X k F N C S (pc, ls, st) (mw w) Q := Sp.throw hi hF1 hN1 hC1 hS1 hh (by rw [mw_new _ _ _ hx]; exact hQ)
theorem m_ix_of {x : Int32} {j n : Nat} (h : x = nI j) (h1 : j < n) (h2 : n ≤ 100000) : m_ix x j n := by
  subst h
  exact ⟨nI_pos (by omega), nI_clamp (by omega), h1⟩
theorem Sp.tsw {dflt lo hi0 off : Int} {offs : Array Int} {x : Int32} {a b tgt : Nat} {M : mM} (hi : m_i k pc = some (.tableswitch dflt lo hi0 offs, a, b)) (h1 : ¬ x.toInt < lo) (h2 : ¬ hi0 < x.toInt) (ho : offs[(x.toInt - lo).toNat]? = some off) (ht : (pc : Int) + off = (tgt : Int)) (kk : Sp X k F N C S (tgt, ls, st) M Q) : Sp X k F N C S (pc, ls, .int x :: st) M Q := by
  intro p e R s m args below meth c H locs cells slots mc ms la hC hF hN hc hs hmc hms hR hl hv
  exact lv_tableIn hC.1 hC.2.1 (m_ok hi).1 h1 h2 ho ht (kk p e R s m args below meth c H locs cells slots mc ms la hC hF hN hc hs hmc hms hR hl hv)
end WR
