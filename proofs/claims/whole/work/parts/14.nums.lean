/-! small numbers: nI of a Nat, iI and lI of an Int -/
def iI (z : Int) : Int32 := Int32.ofInt z
def lI (z : Int) : Int64 := Int64.ofInt z
theorem nI_iI (n : Nat) : nI n = iI (n : Int) := by
  unfold nI iI
  exact (Int32.ofInt_eq_ofNat ..).symm
theorem iI_toInt {z : Int} (h1 : -2147483648 ≤ z) (h2 : z < 2147483648) : (iI z).toInt = z := Int32.toInt_ofInt_of_le (by simpa using h1) (by simpa using h2)
theorem lI_toInt {z : Int} (h1 : -9223372036854775808 ≤ z) (h2 : z < 9223372036854775808) : (lI z).toInt = z := Int64.toInt_ofInt_of_le (by simpa using h1) (by simpa using h2)
theorem iI_add (a b : Int) : iI a + iI b = iI (a + b) := (Int32.ofInt_add ..).symm
theorem iI_sub (a b : Int) : iI a - iI b = iI (a - b) := (Int32.ofInt_sub ..).symm
theorem iI_mul (a b : Int) : iI a * iI b = iI (a * b) := (Int32.ofInt_mul ..).symm
theorem iI_neg (a : Int) : -iI a = iI (-a) := (Int32.ofInt_neg ..).symm
theorem lI_add (a b : Int) : lI a + lI b = lI (a + b) := (Int64.ofInt_add ..).symm
theorem lI_sub (a b : Int) : lI a - lI b = lI (a - b) := (Int64.ofInt_sub ..).symm
theorem lI_mul (a b : Int) : lI a * lI b = lI (a * b) := (Int64.ofInt_mul ..).symm
theorem lI_neg (a : Int) : -lI a = lI (-a) := (Int64.ofInt_neg ..).symm
theorem iI_of (x : Int32) : x = iI x.toInt := (Int32.ofInt_toInt x).symm
theorem lI_of (x : Int64) : x = lI x.toInt := (Int64.ofInt_toInt x).symm
theorem iI_l {z : Int} (h1 : -2147483648 ≤ z) (h2 : z < 2147483648) : (iI z).toInt64 = lI z := by
  rw [lI_of (iI z).toInt64, Int32.toInt_toInt64, iI_toInt h1 h2]
theorem i2l_lI (x : Int32) : x.toInt64 = lI x.toInt := by rw [lI_of x.toInt64, Int32.toInt_toInt64]
theorem iI_lt {a b : Int} (a1 : -2147483648 ≤ a) (a2 : a < 2147483648) (b1 : -2147483648 ≤ b) (b2 : b < 2147483648) : iI a < iI b ↔ a < b := by rw [Int32.lt_iff_toInt_lt, iI_toInt a1 a2, iI_toInt b1 b2]
theorem iI_le {a b : Int} (a1 : -2147483648 ≤ a) (a2 : a < 2147483648) (b1 : -2147483648 ≤ b) (b2 : b < 2147483648) : iI a ≤ iI b ↔ a ≤ b := by rw [Int32.le_iff_toInt_le, iI_toInt a1 a2, iI_toInt b1 b2]
theorem iI_eq {a b : Int} (a1 : -2147483648 ≤ a) (a2 : a < 2147483648) (b1 : -2147483648 ≤ b) (b2 : b < 2147483648) : iI a = iI b ↔ a = b := by
  constructor
  · intro h
    have := congrArg Int32.toInt h
    rwa [iI_toInt a1 a2, iI_toInt b1 b2] at this
  · intro h; rw [h]
theorem lI_lt {a b : Int} (a1 : -9223372036854775808 ≤ a) (a2 : a < 9223372036854775808) (b1 : -9223372036854775808 ≤ b) (b2 : b < 9223372036854775808) : lI a < lI b ↔ a < b := by rw [Int64.lt_iff_toInt_lt, lI_toInt a1 a2, lI_toInt b1 b2]
theorem lI_le {a b : Int} (a1 : -9223372036854775808 ≤ a) (a2 : a < 9223372036854775808) (b1 : -9223372036854775808 ≤ b) (b2 : b < 9223372036854775808) : lI a ≤ lI b ↔ a ≤ b := by rw [Int64.le_iff_toInt_le, lI_toInt a1 a2, lI_toInt b1 b2]
theorem lI_eq {a b : Int} (a1 : -9223372036854775808 ≤ a) (a2 : a < 9223372036854775808) (b1 : -9223372036854775808 ≤ b) (b2 : b < 9223372036854775808) : lI a = lI b ↔ a = b := by
  constructor
  · intro h
    have := congrArg Int64.toInt h
    rwa [lI_toInt a1 a2, lI_toInt b1 b2] at this
  · intro h; rw [h]
/-! bits -/
theorem sh_amt : ∀ n, n < 32 → ((nI n &&& 31).toBitVec.smod 32).toNat = n := by decide +kernel
theorem nI_shr {s i : Nat} (hs : s < 2147483648) (hi : i < 32) : nI s >>> (nI i &&& 31) = nI (s >>> i) := by
  rw [pk_shrN hs (nI i &&& 31) i (sh_amt i hi), Nat.shiftRight_eq_div_pow]
theorem nI_bit {s i : Nat} (hs : s < 2147483648) (hi : i < 32) : (nI s >>> (nI i &&& 31)) &&& nI 1 = nI (if s.testBit i then 1 else 0) := by
  rw [nI_shr hs hi]
  have h1 : s >>> i < 2147483648 := Nat.lt_of_le_of_lt (Nat.shiftRight_le s i) hs
  rw [pk_andN (by omega) 1 (by decide)]
  congr 1
  rw [Nat.testBit]
  have h2 : (1 &&& s >>> i) = (s >>> i) % 2 := by rw [Nat.and_comm]; exact Nat.and_one_is_mod _
  rw [h2]
  rcases Nat.mod_two_eq_zero_or_one (s >>> i) with h | h <;> simp [h]
theorem nI_bit0 {s i : Nat} (hs : s < 2147483648) (hi : i < 32) : (nI s >>> (nI i &&& 31)) &&& nI 1 = 0 ↔ s.testBit i = false := by
  rw [nI_bit hs hi]
  cases s.testBit i <;> decide
theorem nI_bitn0 {s i : Nat} (hs : s < 2147483648) (hi : i < 32) : ¬ (nI s >>> (nI i &&& 31)) &&& nI 1 = 0 ↔ s.testBit i = true := by
  rw [nI_bit hs hi]
  cases s.testBit i <;> decide
theorem nI_bit1 {s i : Nat} (hs : s < 2147483648) (hi : i < 32) : (nI s >>> (nI i &&& 31)) &&& nI 1 = nI 1 ↔ s.testBit i = true := by
  rw [nI_bit hs hi]
  cases s.testBit i <;> decide
theorem nI_bitn1 {s i : Nat} (hs : s < 2147483648) (hi : i < 32) : ¬ (nI s >>> (nI i &&& 31)) &&& nI 1 = nI 1 ↔ s.testBit i = false := by
  rw [nI_bit hs hi]
  cases s.testBit i <;> decide
theorem nI_one_shl {i : Nat} (hi : i < 31) : nI 1 <<< (nI i &&& 31) = nI (2 ^ i) := by
  have h2 : 2 ^ i < 2 ^ 31 := Nat.pow_lt_pow_right (by decide) hi
  rw [pk_shlN (n := 1) (nI i &&& 31) i (sh_amt i (by omega)) (by omega), Nat.one_mul]
theorem nI_and (a b : Nat) : nI a &&& nI b = nI (a &&& b) := by
  unfold nI
  apply Int32.toBitVec_inj.mp
  simp [Int32.toBitVec_ofNat', BitVec.ofNat_and]
theorem nI_or (a b : Nat) : nI a ||| nI b = nI (a ||| b) := by
  unfold nI
  apply Int32.toBitVec_inj.mp
  simp [Int32.toBitVec_ofNat', BitVec.ofNat_or]
theorem nI_xor (a b : Nat) : nI a ^^^ nI b = nI (a ^^^ b) := by
  unfold nI
  apply Int32.toBitVec_inj.mp
  simp [Int32.toBitVec_ofNat', BitVec.ofNat_xor]
theorem nI_eq0 {n : Nat} (h : n < 2147483648) : nI n = 0 ↔ n = 0 := nI_eq (b := 0) h (by decide)
theorem nI_lt0 {n : Nat} (h : n < 2147483648) : ¬ nI n < 0 := nI_pos h
/-! comparisons as ones of Int -/
theorem i_lt (x y : Int32) : x < y ↔ x.toInt < y.toInt := Int32.lt_iff_toInt_lt
theorem i_le (x y : Int32) : x ≤ y ↔ x.toInt ≤ y.toInt := Int32.le_iff_toInt_le
theorem i_eq (x y : Int32) : x = y ↔ x.toInt = y.toInt := ⟨fun h => by rw [h], fun h => Int32.toInt_inj.mp h⟩
theorem l_lt (x y : Int64) : x < y ↔ x.toInt < y.toInt := Int64.lt_iff_toInt_lt
theorem l_le (x y : Int64) : x ≤ y ↔ x.toInt ≤ y.toInt := Int64.le_iff_toInt_le
theorem l_eq (x y : Int64) : x = y ↔ x.toInt = y.toInt := ⟨fun h => by rw [h], fun h => Int64.toInt_inj.mp h⟩
theorem i_0 : (0 : Int32).toInt = 0 := by decide
theorem i_m1 : (-1 : Int32).toInt = -1 := by decide
theorem l_0 : (0 : Int64).toInt = 0 := by decide
theorem nI_tI {n : Nat} (h : n < 2147483648) : (nI n).toInt = (n : Int) := nI_toInt h
theorem iI_tI {z : Int} (h1 : -2147483648 ≤ z) (h2 : z < 2147483648) : (iI z).toInt = z := iI_toInt h1 h2
theorem lI_tI {z : Int} (h1 : -9223372036854775808 ≤ z) (h2 : z < 9223372036854775808) : (lI z).toInt = z := lI_toInt h1 h2
theorem bI_t {b : Bool} (h : b = true) : Value.int (nI 1) = .int (bI b) := by subst h; rfl
theorem bI_f {b : Bool} (h : b = false) : Value.int (nI 0) = .int (bI b) := by subst h; rfl
theorem q_ret {v : Value} {w : Value} {h : ev_H} (e : v = w) : some v = some w ∧ h = h := ⟨by rw [e], rfl⟩
theorem nI_add1 (n : Nat) : nI n + nI 1 = nI (n + 1) := nI_add n 1
/-- a loop that counts up to L -/
theorem ev_upl {W : Nat → Prop} (L : Nat) (hs : ∀ i, i < L → W (i + 1) → W i) (hx : W L) : ∀ i, i ≤ L → W i := by
  intro i hi
  have key : ∀ k i, i + k = L → W i := by
    intro k
    induction k with
    | zero => intro i h; have e : i = L := by omega
              rw [e]; exact hx
    | succ k ih => intro i h; exact hs i (by omega) (ih (i + 1) (by omega))
  exact key (L - i) i (by omega)
/-- a set without one of its bits -/
theorem nI_andnot {s i : Nat} (hs : s < 2147483648) (hi : i < 31) : nI s &&& (nI (2 ^ i) ^^^ (-1)) = nI (s ^^^ (s &&& 2 ^ i)) := by
  have e : ((-1) : Int32) = nI 4294967295 := by decide
  rw [e, nI_xor, nI_and]
  have h2 : 2 ^ i < 2 ^ 31 := Nat.pow_lt_pow_right (by decide) hi
  congr 1
  apply Nat.eq_of_testBit_eq
  intro j
  simp only [Nat.testBit_and, Nat.testBit_xor]
  have hb : Nat.testBit 4294967295 j = decide (j < 32) := by
    rw [show 4294967295 = 2 ^ 32 - 1 by decide, Nat.testBit_two_pow_sub_one]
  rw [hb]
  by_cases hj : j < 32
  · simp only [hj, decide_true]
    cases s.testBit j <;> cases (2 ^ i).testBit j <;> rfl
  · have hsj : s.testBit j = false := Nat.testBit_lt_two_pow (Nat.lt_of_lt_of_le hs (Nat.le_trans (by decide : 2147483648 ≤ 2 ^ 31) (Nat.pow_le_pow_right (by decide) (by omega))))
    rw [hsj]; rfl
/-- bounds of a product -/
theorem mulb {a b A C : Int} (ha : -A ≤ a ∧ a ≤ A) (hb : -C ≤ b ∧ b ≤ C) : -(A * C) ≤ a * b ∧ a * b ≤ A * C := by
  have h1 : a.natAbs ≤ A.natAbs := by omega
  have h2 : b.natAbs ≤ C.natAbs := by omega
  have h3 : (a * b).natAbs ≤ (A * C).natAbs := by
    rw [Int.natAbs_mul, Int.natAbs_mul]
    exact Nat.mul_le_mul h1 h2
  have h4 : 0 ≤ A := by omega
  have h5 : 0 ≤ C := by omega
  have h6 : 0 ≤ A * C := Int.mul_nonneg h4 h5
  omega
theorem bI_true : bI true = nI 1 := rfl
theorem bI_false : bI false = nI 0 := rfl
theorem nI_bit_bit {s i j : Nat} (hs : s < 2147483648) (hi : i < 32) (hj : j < 32) : ((nI s >>> (nI i &&& 31)) &&& nI 1 = (nI s >>> (nI j &&& 31)) &&& nI 1) ↔ s.testBit i = s.testBit j := by
  rw [nI_bit hs hi, nI_bit hs hj]
  cases s.testBit i <;> cases s.testBit j <;> decide
