/-! Int32 by its bits (a family pasted from kit/laws/BITS.to-paste.lean.txt, as it bids), and rows of mine on them. -/
def bt (x : Int32) (i : Nat) : Bool := x.toBitVec.getLsbD i
theorem b_ext {x y : Int32} (h : ∀ i, i < 32 → bt x i = bt y i) : x = y := Int32.toBitVec_inj.mp (BitVec.eq_of_getLsbD_eq (fun i hi => h i hi))
theorem b_or (x y : Int32) (i : Nat) : bt (x ||| y) i = (bt x i || bt y i) := by unfold bt; rw [Int32.toBitVec_or, BitVec.getLsbD_or]
theorem b_and (x y : Int32) (i : Nat) : bt (x &&& y) i = (bt x i && bt y i) := by unfold bt; rw [Int32.toBitVec_and, BitVec.getLsbD_and]
theorem b_xor (x y : Int32) (i : Nat) : bt (x ^^^ y) i = (bt x i ^^ bt y i) := by unfold bt; rw [Int32.toBitVec_xor, BitVec.getLsbD_xor]
theorem b_big {x : Int32} {i : Nat} (h : 32 ≤ i) : bt x i = false := BitVec.getLsbD_of_ge _ _ h
theorem b_255 (i : Nat) : bt 255 i = decide (i < 8) := by
  rcases Nat.lt_or_ge i 32 with h | h
  · exact (by decide +kernel : ∀ i, i < 32 → bt 255 i = decide (i < 8)) i h
  · rw [b_big h, decide_eq_false (by omega)]
theorem b_65535 (i : Nat) : bt 65535 i = decide (i < 16) := by
  rcases Nat.lt_or_ge i 32 with h | h
  · exact (by decide +kernel : ∀ i, i < 32 → bt 65535 i = decide (i < 16)) i h
  · rw [b_big h, decide_eq_false (by omega)]
theorem b_m1 : ∀ i, i < 32 → bt (-1) i = true := by decide +kernel
theorem b_0 (i : Nat) : bt 0 i = false := BitVec.getLsbD_zero
theorem s_l : ∀ n, n < 32 → ((nI n &&& 31).toBitVec.smod 32).toNat = n := by decide +kernel
theorem s_u : ∀ n, n < 32 → (((nI n).toUInt32 &&& Int32.toUInt32 31).toBitVec % 32).toNat = n := by decide +kernel
theorem b_shl (n : Nat) (hn : n < 32) (x : Int32) {i : Nat} (hi : i < 32) : bt (x <<< (nI n &&& 31)) i = (decide (n ≤ i) && bt x (i - n)) := by
  unfold bt
  rw [Int32.toBitVec_shiftLeft]
  show (x.toBitVec <<< ((nI n &&& 31).toBitVec.smod 32).toNat).getLsbD i = _
  rw [s_l n hn, BitVec.getLsbD_shiftLeft]
  rcases Nat.lt_or_ge i n with h | h
  · simp [h, Nat.not_le.mpr h]
  · simp [hi, h, Nat.not_lt.mpr h]
theorem b_ushr (n : Nat) (hn : n < 32) (x : Int32) (i : Nat) : bt ((x.toUInt32 >>> ((nI n).toUInt32 &&& Int32.toUInt32 31)).toInt32) i = bt x (n + i) := by
  show (x.toUInt32 >>> ((nI n).toUInt32 &&& Int32.toUInt32 31)).toBitVec.getLsbD i = x.toUInt32.toBitVec.getLsbD (n + i)
  rw [UInt32.toBitVec_shiftRight]
  show (x.toUInt32.toBitVec >>> (((nI n).toUInt32 &&& Int32.toUInt32 31).toBitVec % 32).toNat).getLsbD i = _
  rw [s_u n hn, BitVec.getLsbD_ushiftRight]
theorem b_sshr (n : Nat) (hn : n < 32) (x : Int32) {i : Nat} (hi : i < 32) : bt (x >>> (nI n &&& 31)) i = if n + i < 32 then bt x (n + i) else bt x 31 := by
  unfold bt
  rw [Int32.toBitVec_shiftRight]
  show (x.toBitVec.sshiftRight ((nI n &&& 31).toBitVec.smod 32).toNat).getLsbD i = _
  rw [s_l n hn, BitVec.getLsbD_sshiftRight, BitVec.msb_eq_getLsbD_last]
  simp [hi]
/-! mine -/
def m_b2 (b : Bool) : Int32 := if b = true then 1 else 0
theorem m_b2_01 (b : Bool) : m_b2 b = 0 ∨ m_b2 b = 1 := by cases b <;> simp [m_b2]
theorem m_b2_0 {b : Bool} : m_b2 b = 0 ↔ b = false := by cases b <;> decide
theorem m_nat {x : Int32} (h : ¬ x < 0) : x = nI x.toNatClampNeg := by
  apply Int32.toInt_inj.mp
  have h1 : 0 ≤ x.toInt := by
    have : ¬ x.toInt < (0 : Int32).toInt := fun q => h (Int32.lt_iff_toInt_lt.mpr q)
    rw [Int32.toInt_zero] at this
    omega
  have h2 : x.toInt < 2 ^ 31 := Int32.toInt_lt x
  have h3 : (x.toNatClampNeg : Int) = x.toInt := by
    show ((x.toInt.toNat : Nat) : Int) = x.toInt
    omega
  rw [nI_toInt (by omega), h3]
theorem nI_lt' {a b : Nat} (ha : a < 2 ^ 31) (hb : b < 2 ^ 31) : nI a < nI b ↔ a < b := by
  rw [Int32.lt_iff_toInt_lt, nI_toInt ha, nI_toInt hb]; omega
theorem nI_le' {a b : Nat} (ha : a < 2 ^ 31) (hb : b < 2 ^ 31) : nI a ≤ nI b ↔ a ≤ b := by
  rw [Int32.le_iff_toInt_le, nI_toInt ha, nI_toInt hb]; omega
theorem nI_inj {a b : Nat} (ha : a < 2 ^ 31) (hb : b < 2 ^ 31) : nI a = nI b ↔ a = b := by
  constructor
  · intro h
    have := congrArg Int32.toInt h
    rw [nI_toInt ha, nI_toInt hb] at this
    omega
  · intro h; rw [h]
/-- a bit, as the program asks for it -/
theorem m_bit (x : Int32) {n : Nat} (hn : n < 32) : (x >>> (nI n &&& 31)) &&& 1 = 0 ↔ bt x n = false := by
  have h1 : ∀ i, i < 32 → bt 1 i = decide (i = 0) := by decide +kernel
  constructor
  · intro h
    have h2 := congrArg (fun y => bt y 0) h
    simp only [b_and, b_0, b_sshr n hn x (i := 0) (by omega), h1 0 (by omega)] at h2
    simpa [hn] using h2
  · intro h
    refine b_ext fun i hi => ?_
    rw [b_and, b_0, b_sshr n hn x hi, h1 i hi]
    by_cases e : i = 0
    · subst e; simp [hn, h]
    · simp [e]
theorem b_one {n : Nat} (hn : n < 32) {i : Nat} (hi : i < 32) : bt ((1 : Int32) <<< (nI n &&& 31)) i = decide (i = n) := by
  rw [b_shl n hn 1 hi]
  have h1 : ∀ i, i < 32 → bt 1 i = decide (i = 0) := by decide +kernel
  rw [h1 (i - n) (by omega)]
  by_cases e : i = n
  · subst e; simp
  · by_cases h : n ≤ i
    · simp [h, e]; omega
    · simp [h, e]
theorem b_notone {n : Nat} (hn : n < 32) {i : Nat} (hi : i < 32) : bt (((1 : Int32) <<< (nI n &&& 31)) ^^^ (-1)) i = !decide (i = n) := by
  rw [b_xor, b_one hn hi, b_m1 i hi]
  cases decide (i = n) <;> rfl
theorem mWd.sa_sa (w : mWd) (i : Nat) (f g : Nat → Int32) : (w.sa i f).sa i g = w.sa i g := by
  unfold mWd.sa
  have : va_up (va_up w.2.1 i f) i g = va_up w.2.1 i g := by
    funext j
    by_cases h : j = i <;> simp [va_up, h]
  rw [this]
theorem mWd.sf_sf (w : mWd) (i : Nat) (x y : Int32) : (w.sf i x).sf i y = w.sf i y := by
  unfold mWd.sf
  have : va_up (va_up w.1 i x) i y = va_up w.1 i y := by
    funext j
    by_cases h : j = i <;> simp [va_up, h]
  rw [this]
section WB
variable {X : mX} {k F N C S : Nat} {pc : Nat} {ls : List (Nat × Value)} {st : List Value} {M : mM} {Q : Outcome → mM → Prop}
theorem Sp.wd {f : mF} {w w' : mWd} (h : w = w') (kk : Sp X k F N C S f (mw w') Q) : Sp X k F N C S f (mw w) Q := h ▸ kk
theorem Sp.ifb {off : Int} {v : Bool} {a b : Nat} (hi : m_i k pc = some (.ifCond .eq off, a, b)) (k1 : v = false → Sp X k F N C S (a, ls, st) M Q) (k2 : v = true → Sp X k F N C S (pc + 3, ls, st) M Q) : Sp X k F N C S (pc, ls, .int (m_b2 v) :: st) M Q :=
  Sp.if hi (fun h => k1 (m_b2_0.mp h)) (fun h => k2 (by cases v; exact absurd rfl h; rfl))
theorem Sp.ifbn {off : Int} {v : Bool} {a b : Nat} (hi : m_i k pc = some (.ifCond .ne off, a, b)) (k1 : v = true → Sp X k F N C S (a, ls, st) M Q) (k2 : v = false → Sp X k F N C S (pc + 3, ls, st) M Q) : Sp X k F N C S (pc, ls, .int (m_b2 v) :: st) M Q :=
  Sp.if hi (fun h => k1 (by cases v; exact absurd rfl h; rfl)) (fun h => k2 (by cases v; rfl; exact absurd (by decide : ¬ m_b2 true = 0) h))
theorem Sp.fr {f f' : mF} (h : f = f') (kk : Sp X k F N C S f' M Q) : Sp X k F N C S f M Q := h ▸ kk
end WB
