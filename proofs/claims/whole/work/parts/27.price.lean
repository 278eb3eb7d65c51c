/-! prices: the least, the best, the next bend; numbers alone -/
theorem mpos {q X : Int} (hq : 0 < q) (h : 0 < q * X) : 0 < X := by
  rcases Int.lt_or_le 0 X with g | g
  · exact g
  · have := Int.mul_nonpos_of_nonneg_of_nonpos (Int.le_of_lt hq) g; omega
theorem mnn {q X : Int} (hq : 0 < q) (h : 0 ≤ q * X) : 0 ≤ X := by
  rcases Int.lt_or_le X 0 with g | g
  · have := Int.mul_neg_of_pos_of_neg hq g; omega
  · exact g
theorem mneg {q X : Int} (hq : 0 < q) (h : q * X < 0) : X < 0 := by
  rcases Int.lt_or_le X 0 with g | g
  · exact g
  · have := Int.mul_nonneg (Int.le_of_lt hq) g; omega
theorem mnp {q X : Int} (hq : 0 < q) (h : q * X ≤ 0) : X ≤ 0 := by
  rcases Int.lt_or_le 0 X with g | g
  · have := Int.mul_pos hq g; omega
  · exact g
theorem mz {q X : Int} (hq : 0 < q) (h : q * X = 0) : X = 0 := by
  have h1 := mnn hq (by omega : 0 ≤ q * X)
  have h2 := mnp hq (by omega : q * X ≤ 0)
  omega
/-- what a choice costs at p / q, times q -/
def cst (S R : Nat → Int) (p q : Int) (j : Nat) : Int := S j * q + R j * p
/-- by what the best is chosen among those of like cost -/
def Kw (w : Nat) (R : Nat → Int) (j : Nat) : Int := if w = 1 then R j else if w = 2 then -R j else 0
def mnN (C : Nat → Int) : Nat → Int
  | 0 => C 0
  | i + 1 => if C i < mnN C i then C i else mnN C i
def bsN (C K : Nat → Int) (v : Int) : Nat → Int
  | 0 => -1
  | i + 1 => if C i = v ∧ (bsN C K v i = -1 ∨ K i < K (bsN C K v i).toNat) then i else bsN C K v i
def bst (C K : Nat → Int) : Nat → Nat
  | 0 => 0
  | i + 1 => if C i < C (bst C K i) ∨ (C i = C (bst C K i) ∧ K i < K (bst C K i)) then i else bst C K i
def IsB (C K : Nat → Int) (n b : Nat) : Prop := b < n ∧ ∀ j, j < n → C b < C j ∨ (C b = C j ∧ (K b < K j ∨ (K b = K j ∧ b ≤ j)))
theorem bst_lt (C K : Nat → Int) : ∀ n, 0 < n → bst C K n < n
  | 0, h => absurd h (by decide)
  | n + 1, _ => by
    simp only [bst]
    split
    · omega
    · rcases Nat.eq_zero_or_pos n with e | e
      · subst e; simp [bst]
      · have := bst_lt C K n e; omega
theorem bst_is (C K : Nat → Int) : ∀ n, 0 < n → IsB C K n (bst C K n)
  | 0, h => absurd h (by decide)
  | n + 1, _ => by
    refine ⟨bst_lt C K (n + 1) (by omega), fun j hj => ?_⟩
    rcases Nat.eq_zero_or_pos n with e | e
    · subst e
      have : j = 0 := by omega
      subst this
      simp [bst]
    · have ih := bst_is C K n e
      have hb := ih.1
      simp only [bst]
      by_cases ejn : j = n
      · subst ejn
        split <;> omega
      · have := ih.2 j (by omega)
        split <;> omega
theorem IsB.uniq {C K : Nat → Int} {n b b' : Nat} (h : IsB C K n b) (h' : IsB C K n b') : b = b' := by
  have h1 := h.2 b' h'.1
  have h2 := h'.2 b h.1
  omega
theorem mnN_le (C : Nat → Int) : ∀ n j, j < n → mnN C n ≤ C j
  | 0, j, h => absurd h (Nat.not_lt_zero j)
  | n + 1, j, h => by
    simp only [mnN]
    by_cases e : j = n
    · subst e; split <;> omega
    · have := mnN_le C n j (by omega)
      split <;> omega
theorem mnN_at (C : Nat → Int) : ∀ n, 0 < n → ∃ j, j < n ∧ mnN C n = C j
  | 0, h => absurd h (by decide)
  | n + 1, _ => by
    simp only [mnN]
    split
    · exact ⟨n, by omega, rfl⟩
    · rcases Nat.eq_zero_or_pos n with e | e
      · subst e; exact ⟨0, by omega, rfl⟩
      · obtain ⟨j, h1, h2⟩ := mnN_at C n e
        exact ⟨j, by omega, h2⟩
theorem mnN_bst (C K : Nat → Int) {n : Nat} (h : 0 < n) : C (bst C K n) = mnN C n := by
  obtain ⟨j, h1, h2⟩ := mnN_at C n h
  have hb := bst_is C K n h
  have h3 := hb.2 j h1
  have h4 := mnN_le C n _ hb.1
  omega
theorem bsN_in (C K : Nat → Int) (v : Int) : ∀ n, -1 ≤ bsN C K v n ∧ bsN C K v n < n
  | 0 => by simp [bsN]
  | n + 1 => by
    have := bsN_in C K v n
    simp only [bsN]
    split <;> omega
theorem bsN_is (C K : Nat → Int) (v : Int) : ∀ n, (bsN C K v n = -1 ∧ ∀ j, j < n → C j ≠ v) ∨ ∃ b : Nat, bsN C K v n = b ∧ b < n ∧ C b = v ∧ ∀ j, j < n → C j = v → K b < K j ∨ (K b = K j ∧ b ≤ j)
  | 0 => Or.inl ⟨rfl, fun j h => absurd h (Nat.not_lt_zero j)⟩
  | n + 1 => by
    rcases bsN_is C K v n with ⟨h1, h2⟩ | ⟨b, h1, h2, h3, h4⟩
    · by_cases e : C n = v
      · right
        refine ⟨n, by simp [bsN, e, h1], by omega, e, fun j hj hc => ?_⟩
        by_cases ej : j = n
        · subst ej; omega
        · exact absurd hc (h2 j (by omega))
      · left
        refine ⟨by simp [bsN, e, h1], fun j hj => ?_⟩
        by_cases ej : j = n
        · subst ej; exact e
        · exact h2 j (by omega)
    · right
      by_cases e : C n = v ∧ K n < K b
      · refine ⟨n, by simp [bsN, e.1, h1, e.2], by omega, e.1, fun j hj hc => ?_⟩
        by_cases ej : j = n
        · subst ej; omega
        · have := h4 j (by omega) hc; omega
      · refine ⟨b, ?_, by omega, h3, fun j hj hc => ?_⟩
        · simp only [bsN, h1, Int.toNat_natCast]
          rw [if_neg (by intro z; rcases z.2 with y | y; · omega
                         · exact e ⟨z.1, y⟩)]
        · by_cases ej : j = n
          · subst ej
            have : ¬ K j < K b := fun y => e ⟨hc, y⟩
            omega
          · exact h4 j (by omega) hc
theorem bsN_eq (C K : Nat → Int) {n : Nat} (h : 0 < n) : bsN C K (mnN C n) n = bst C K n := by
  have hb := bst_is C K n h
  have hm := mnN_bst C K h
  rcases bsN_is C K (mnN C n) n with ⟨h1, h2⟩ | ⟨b, h1, h2, h3, h4⟩
  · exact absurd hm (h2 _ hb.1)
  · rw [h1]
    have : IsB C K n b := ⟨h2, fun j hj => by
      by_cases e : C j = mnN C n
      · have := h4 j hj e; omega
      · have := mnN_le C n j hj; omega⟩
    rw [this.uniq hb]
/-- a like order among costs -/
theorem bst_scale {C C' K : Nat → Int} {m : Int} (hm : 0 < m) (e : ∀ j, C' j = m * C j) : ∀ n, bst C' K n = bst C K n
  | 0 => rfl
  | n + 1 => by
    have ih := bst_scale (K := K) hm e n
    simp only [bst, ih, e]
    have h1 : m * C n < m * C (bst C K n) ↔ C n < C (bst C K n) := Int.mul_lt_mul_left hm
    have h2 : m * C n = m * C (bst C K n) ↔ C n = C (bst C K n) := Int.mul_eq_mul_left_iff (by omega)
    simp only [h1, h2]
theorem mnN_scale {C C' : Nat → Int} {m : Int} (hm : 0 < m) (e : ∀ j, C' j = m * C j) : ∀ n, mnN C' n = m * mnN C n
  | 0 => e 0
  | n + 1 => by
    have ih := mnN_scale hm e n
    simp only [mnN, ih, e]
    have h1 : m * C n < m * mnN C n ↔ C n < mnN C n := Int.mul_lt_mul_left hm
    simp only [h1]
    split <;> rfl
/-! the next bend -/
abbrev mts (S R : Nat → Int) (a i b : Nat) : Prop := (S i - S a) * (R a - R b) < (S b - S a) * (R a - R i) ∨ ((S i - S a) * (R a - R b) = (S b - S a) * (R a - R i) ∧ R i < R b)
theorem mts_def (S R : Nat → Int) (a i b : Nat) : mts S R a i b ↔ ((S i - S a) * (R a - R b) < (S b - S a) * (R a - R i) ∨ ((S i - S a) * (R a - R b) = (S b - S a) * (R a - R i) ∧ R i < R b)) := Iff.rfl
def nxN (S R : Nat → Int) (a : Nat) : Nat → Int
  | 0 => -1
  | i + 1 => if R i < R a ∧ (nxN S R a i < 0 ∨ mts S R a i (nxN S R a i).toNat) then i else nxN S R a i
theorem nxN_in (S R : Nat → Int) (a : Nat) : ∀ n, -1 ≤ nxN S R a n ∧ nxN S R a n < n
  | 0 => by simp [nxN]
  | n + 1 => by
    have := nxN_in S R a n
    simp only [nxN]
    split <;> omega
/-- b is where a is met first -/
def IsN (S R : Nat → Int) (n a b : Nat) : Prop := b < n ∧ R b < R a ∧ ∀ j, j < n → R j < R a → (S b - S a) * (R a - R j) < (S j - S a) * (R a - R b) ∨ ((S b - S a) * (R a - R j) = (S j - S a) * (R a - R b) ∧ (R b < R j ∨ (R b = R j ∧ b ≤ j)))
theorem frac_lt_trans {a b c d e f : Int} (hb : 0 < b) (hd : 0 < d) (hf : 0 < f) (h1 : a * d ≤ c * b) (h2 : c * f < e * d) : a * f < e * b := by
  have k1 : (a * d) * f ≤ (c * b) * f := Int.mul_le_mul_of_nonneg_right h1 (Int.le_of_lt hf)
  have k2 : (c * f) * b < (e * d) * b := Int.mul_lt_mul_of_pos_right h2 hb
  have k3 : d * (a * f) < d * (e * b) := by
    have e1 : d * (a * f) = (a * d) * f := by grind
    have e2 : d * (e * b) = (e * d) * b := by grind
    have e3 : (c * b) * f = (c * f) * b := by grind
    omega
  exact Int.lt_of_mul_lt_mul_left k3 (Int.le_of_lt hd)
theorem frac_le_trans {a b c d e f : Int} (hb : 0 < b) (hd : 0 < d) (hf : 0 < f) (h1 : a * d ≤ c * b) (h2 : c * f ≤ e * d) : a * f ≤ e * b := by
  have k1 : (a * d) * f ≤ (c * b) * f := Int.mul_le_mul_of_nonneg_right h1 (Int.le_of_lt hf)
  have k2 : (c * f) * b ≤ (e * d) * b := Int.mul_le_mul_of_nonneg_right h2 (Int.le_of_lt hb)
  have k3 : d * (a * f) ≤ d * (e * b) := by
    have e1 : d * (a * f) = (a * d) * f := by grind
    have e2 : d * (e * b) = (e * d) * b := by grind
    have e3 : (c * b) * f = (c * f) * b := by grind
    omega
  exact Int.le_of_mul_le_mul_left k3 hd
theorem frac_lt_trans' {a b c d e f : Int} (hb : 0 < b) (hd : 0 < d) (hf : 0 < f) (h1 : a * d < c * b) (h2 : c * f ≤ e * d) : a * f < e * b := by
  have k1 : (a * d) * f < (c * b) * f := Int.mul_lt_mul_of_pos_right h1 hf
  have k2 : (c * f) * b ≤ (e * d) * b := Int.mul_le_mul_of_nonneg_right h2 (Int.le_of_lt hb)
  have k3 : d * (a * f) < d * (e * b) := by
    have e1 : d * (a * f) = (a * d) * f := by grind
    have e2 : d * (e * b) = (e * d) * b := by grind
    have e3 : (c * b) * f = (c * f) * b := by grind
    omega
  exact Int.lt_of_mul_lt_mul_left k3 (Int.le_of_lt hd)
theorem nxN_is (S R : Nat → Int) (a : Nat) : ∀ n, (nxN S R a n = -1 ∧ ∀ j, j < n → ¬ R j < R a) ∨ ∃ b : Nat, nxN S R a n = b ∧ IsN S R n a b
  | 0 => Or.inl ⟨rfl, fun j h => absurd h (Nat.not_lt_zero j)⟩
  | n + 1 => by
    rcases nxN_is S R a n with ⟨h1, h2⟩ | ⟨b, h1, h2, h3, h4⟩
    · by_cases e : R n < R a
      · right
        refine ⟨n, by simp [nxN, e, h1], by omega, e, fun j hj hc => ?_⟩
        by_cases ej : j = n
        · subst ej; omega
        · exact absurd hc (h2 j (by omega))
      · left
        refine ⟨by simp [nxN, e, h1], fun j hj => ?_⟩
        by_cases ej : j = n
        · subst ej; exact e
        · exact h2 j (by omega)
    · right
      by_cases e : R n < R a ∧ mts S R a n b
      · refine ⟨n, by simp [nxN, h1, e], by omega, e.1, fun j hj hc => ?_⟩
        by_cases ej : j = n
        · subst ej; omega
        · have h5 := h4 j (by omega) hc
          rcases e.2 with g | ⟨g1, g2⟩
          · left
            have h6 : (S b - S a) * (R a - R j) ≤ (S j - S a) * (R a - R b) := by omega
            exact frac_lt_trans' (by omega) (by omega : 0 < R a - R b) (by omega) g h6
          · rcases h5 with h6 | ⟨h6, h7⟩
            · left; exact frac_lt_trans (by omega) (by omega : 0 < R a - R b) (by omega) (Int.le_of_eq g1) h6
            · right
              refine ⟨?_, by omega⟩
              have q1 := frac_le_trans (by omega) (by omega : 0 < R a - R b) (by omega) (Int.le_of_eq g1) (Int.le_of_eq h6)
              have q2 := frac_le_trans (by omega) (by omega : 0 < R a - R b) (by omega) (Int.le_of_eq h6.symm) (Int.le_of_eq g1.symm)
              omega
      · refine ⟨b, ?_, by omega, h3, fun j hj hc => ?_⟩
        · simp only [nxN, h1, Int.toNat_natCast]
          rw [if_neg (by intro z; rcases z.2 with y | y; · omega
                         · exact e ⟨z.1, y⟩)]
        · by_cases ej : j = n
          · subst ej
            have hm : ¬ mts S R a j b := fun y => e ⟨hc, y⟩
            rw [mts_def] at hm
            omega
          · exact h4 j (by omega) hc
/-- at a price where a is above, and at the next bend -/
theorem cst_id (S R : Nat → Int) (p q P Q : Int) (j a : Nat) : q * (cst S R P Q j - cst S R P Q a) = Q * (cst S R p q j - cst S R p q a) + (R j - R a) * (P * q - p * Q) := by
  unfold cst; grind
theorem cst_x (S R : Nat → Int) (j a b : Nat) : cst S R (S b - S a) (R a - R b) j - cst S R (S b - S a) (R a - R b) a = (S j - S a) * (R a - R b) - (S b - S a) * (R a - R j) := by
  unfold cst; grind
theorem next_after {S R : Nat → Int} {n a b : Nat} {p q : Int} (hq : 0 < q) (ha : IsB (cst S R p q) R n a) (hb : IsN S R n a b) : p * (R a - R b) < (S b - S a) * q := by
  have h := ha.2 b hb.1
  have h1 := hb.2.1
  have e : cst S R p q b - cst S R p q a = (S b - S a) * q - p * (R a - R b) := by unfold cst; grind
  omega
theorem next_above {S R : Nat → Int} {n a b : Nat} {p q : Int} (hq : 0 < q) (ha : IsB (cst S R p q) R n a) (hb : IsN S R n a b) : IsB (cst S R (S b - S a) (R a - R b)) R n b := by
  have hlt := next_after hq ha hb
  have hR := hb.2.1
  refine ⟨hb.1, fun j hj => ?_⟩
  have eb := cst_x S R b a b
  have ej := cst_x S R j a b
  by_cases hc : R j < R a
  · have := hb.2.2 j hj hc
    have e1 : (S b - S a) * (R a - R b) - (S b - S a) * (R a - R b) = 0 := by omega
    omega
  · have h1 := ha.2 j hj
    have id := cst_id S R p q (S b - S a) (R a - R b) j a
    have e0 : 0 ≤ cst S R p q j - cst S R p q a := by omega
    have e1 : 0 ≤ (R a - R b) * (cst S R p q j - cst S R p q a) := Int.mul_nonneg (by omega) e0
    have e2 : 0 ≤ (R j - R a) * ((S b - S a) * q - p * (R a - R b)) := Int.mul_nonneg (by omega) (by omega)
    have e3 := mnn hq (X := cst S R (S b - S a) (R a - R b) j - cst S R (S b - S a) (R a - R b) a) (by omega)
    omega
theorem next_below {S R : Nat → Int} {n a b : Nat} {p q : Int} (hq : 0 < q) (ha : IsB (cst S R p q) R n a) (hb : IsN S R n a b) : IsB (cst S R (S b - S a) (R a - R b)) (fun j => -R j) n a := by
  have hlt := next_after hq ha hb
  have hR := hb.2.1
  refine ⟨ha.1, fun j hj => ?_⟩
  show cst S R (S b - S a) (R a - R b) a < cst S R (S b - S a) (R a - R b) j ∨ (cst S R (S b - S a) (R a - R b) a = cst S R (S b - S a) (R a - R b) j ∧ (-R a < -R j ∨ (-R a = -R j ∧ a ≤ j)))
  have eb := cst_x S R b a b
  have ej := cst_x S R j a b
  by_cases hc : R j < R a
  · have := hb.2.2 j hj hc
    omega
  · have h1 := ha.2 j hj
    have id := cst_id S R p q (S b - S a) (R a - R b) j a
    have e0 : 0 ≤ cst S R p q j - cst S R p q a := by omega
    have e1 : 0 ≤ (R a - R b) * (cst S R p q j - cst S R p q a) := Int.mul_nonneg (by omega) e0
    by_cases hc2 : R j = R a
    · have e2 : (R j - R a) * ((S b - S a) * q - p * (R a - R b)) = 0 := by rw [hc2]; simp
      have e3 := mnn hq (X := cst S R (S b - S a) (R a - R b) j - cst S R (S b - S a) (R a - R b) a) (by omega)
      by_cases hz : cst S R (S b - S a) (R a - R b) j - cst S R (S b - S a) (R a - R b) a = 0
      · rw [hz, e2] at id
        have hz2 := mz (q := R a - R b) (X := cst S R p q j - cst S R p q a) (by omega) (by omega)
        omega
      · omega
    · have e2 : 0 < (R j - R a) * ((S b - S a) * q - p * (R a - R b)) := Int.mul_pos (by omega) (by omega)
      have e3 := mpos hq (X := cst S R (S b - S a) (R a - R b) j - cst S R (S b - S a) (R a - R b) a) (by omega)
      omega
/-- from bend to bend -/
def bl (S R : Nat → Int) (n : Nat) (P2 Q2 : Int) : Nat → Nat → List (Nat × Nat)
  | 0, _ => []
  | k + 1, a => if 0 ≤ nxN S R a n ∧ (S (nxN S R a n).toNat - S a) * Q2 < P2 * (R a - R (nxN S R a n).toNat) then (a, (nxN S R a n).toNat) :: bl S R n P2 Q2 k (nxN S R a n).toNat else []
theorem bl_no {S R : Nat → Int} {n : Nat} {P2 Q2 : Int} {k a : Nat} (h : nxN S R a n < 0) : bl S R n P2 Q2 k a = [] := by
  cases k with
  | zero => rfl
  | succ k => simp only [bl]; rw [if_neg (by omega)]
theorem bl_out {S R : Nat → Int} {n : Nat} {P2 Q2 : Int} {k a b : Nat} (h : nxN S R a n = b) (g : ¬ (S b - S a) * Q2 < P2 * (R a - R b)) : bl S R n P2 Q2 k a = [] := by
  cases k with
  | zero => rfl
  | succ k => simp only [bl, h, Int.toNat_natCast]; rw [if_neg (fun z => g z.2)]
theorem bl_in {S R : Nat → Int} {n : Nat} {P2 Q2 : Int} {k a b : Nat} (h : nxN S R a n = b) (g : (S b - S a) * Q2 < P2 * (R a - R b)) : bl S R n P2 Q2 (k + 1) a = (a, b) :: bl S R n P2 Q2 k b := by
  simp only [bl, h, Int.toNat_natCast]; rw [if_pos ⟨by omega, g⟩]
/-- how many rises are less -/
def cl (R : Nat → Int) (r : Int) : Nat → Nat
  | 0 => 0
  | n + 1 => cl R r n + (if R n < r then 1 else 0)
theorem cl_mono {R : Nat → Int} {r r' : Int} (h : r ≤ r') : ∀ n, cl R r n ≤ cl R r' n
  | 0 => Nat.le_refl _
  | n + 1 => by
    have := cl_mono (R := R) h n
    simp only [cl]
    split <;> split <;> omega
theorem cl_lt {R : Nat → Int} {r r' : Int} {j : Nat} (h : r ≤ r') (h1 : r ≤ R j) (h2 : R j < r') : ∀ n, j < n → cl R r n < cl R r' n
  | 0, hj => absurd hj (Nat.not_lt_zero j)
  | n + 1, hj => by
    simp only [cl]
    by_cases e : j = n
    · subst e
      have := cl_mono (R := R) h j
      rw [if_neg (by omega), if_pos h2]; omega
    · have := cl_lt h h1 h2 n (by omega)
      split <;> split <;> omega
theorem cl_le (R : Nat → Int) (r : Int) : ∀ n, cl R r n ≤ n
  | 0 => Nat.le_refl _
  | n + 1 => by have := cl_le R r n; simp only [cl]; split <;> omega
theorem cl_own {R : Nat → Int} {a : Nat} : ∀ n, a < n → cl R (R a) n < n
  | 0, h => absurd h (Nat.not_lt_zero a)
  | n + 1, h => by
    simp only [cl]
    by_cases e : a = n
    · subst e; have := cl_le R (R a) a; simp; omega
    · have := cl_own (R := R) (a := a) n (by omega); split <;> omega
/-! fractions in lowest terms -/
theorem idvd {k m n : Int} (h : Int.gcd k m = 1) (h2 : k ∣ m * n) : k ∣ n := by
  have h3 : k.natAbs ∣ m.natAbs * n.natAbs := by rw [← Int.natAbs_mul]; exact Int.natAbs_dvd_natAbs.mpr h2
  exact Int.natAbs_dvd_natAbs.mp (Nat.Coprime.dvd_of_dvd_mul_left (show Nat.gcd k.natAbs m.natAbs = 1 from h) h3)
theorem low_eq {a b c d : Int} {w : Bool} (hb : 0 < b) (hd : 0 < d) (h : a * d = c * b) : low w a b = low w c d := by
  have g1 : 0 < Int.gcd a b := Int.gcd_pos_of_ne_zero_right _ (by omega)
  have g2 : 0 < Int.gcd c d := Int.gcd_pos_of_ne_zero_right _ (by omega)
  obtain ⟨a', ha⟩ := Int.gcd_dvd_left (a := a) (b := b)
  obtain ⟨b', hb'⟩ := Int.gcd_dvd_right (a := a) (b := b)
  obtain ⟨c', hc⟩ := Int.gcd_dvd_left (a := c) (b := d)
  obtain ⟨d', hd'⟩ := Int.gcd_dvd_right (a := c) (b := d)
  have l1 : low w a b = if w then a' else b' := by
    unfold low
    generalize (Int.gcd a b) = g at *
    subst ha; subst hb'
    cases w
    · simp; exact Int.mul_tdiv_cancel_left _ (by omega)
    · simp; exact Int.mul_tdiv_cancel_left _ (by omega)
  have l2 : low w c d = if w then c' else d' := by
    unfold low
    generalize (Int.gcd c d) = g at *
    subst hc; subst hd'
    cases w
    · simp; exact Int.mul_tdiv_cancel_left _ (by omega)
    · simp; exact Int.mul_tdiv_cancel_left _ (by omega)
  have k1 : Int.gcd a' b' = 1 := by
    have e := Int.gcd_mul_left (Int.gcd a b) a' b'
    rw [← ha, ← hb'] at e
    simp at e
    have e' : Int.gcd a b * 1 = Int.gcd a b * Int.gcd a' b' := by rw [Nat.mul_one]; exact e
    exact (Nat.eq_of_mul_eq_mul_left g1 e').symm
  have k2 : Int.gcd c' d' = 1 := by
    have e := Int.gcd_mul_left (Int.gcd c d) c' d'
    rw [← hc, ← hd'] at e
    simp at e
    have e' : Int.gcd c d * 1 = Int.gcd c d * Int.gcd c' d' := by rw [Nat.mul_one]; exact e
    exact (Nat.eq_of_mul_eq_mul_left g2 e').symm
  have b0 : 0 < b' := mpos (q := (Int.gcd a b : Int)) (by omega) (by rw [← hb']; exact hb)
  have d0 : 0 < d' := mpos (q := (Int.gcd c d : Int)) (by omega) (by rw [← hd']; exact hd)
  have x : a' * d' = c' * b' := by
    have h1 : ((Int.gcd a b : Int) * Int.gcd c d) * (a' * d' - c' * b') = 0 := by
      have z : ((Int.gcd a b : Int) * Int.gcd c d) * (a' * d' - c' * b') = (Int.gcd a b * a') * (Int.gcd c d * d') - (Int.gcd c d * c') * (Int.gcd a b * b') := by grind
      rw [z, ← ha, ← hb', ← hc, ← hd', h]; omega
    have := mz (Int.mul_pos (by omega) (by omega)) h1
    omega
  have y1 : b' ∣ d' := by
    have : b' ∣ a' * d' := ⟨c', by rw [x, Int.mul_comm]⟩
    exact idvd (by rw [Int.gcd_comm]; exact k1) this
  have y2 : d' ∣ b' := by
    have : d' ∣ c' * b' := ⟨a', by rw [← x, Int.mul_comm]⟩
    exact idvd (by rw [Int.gcd_comm]; exact k2) this
  have y3 : b' = d' := by
    have q1 := Int.le_of_dvd d0 y1
    have q2 := Int.le_of_dvd b0 y2
    omega
  have y4 : a' = c' := by
    rw [y3] at x
    exact Int.eq_of_mul_eq_mul_right (by omega) x
  rw [l1, l2, y3, y4]
theorem low_frac {a b : Int} (hb : 0 < b) : ∃ g : Int, 0 < g ∧ a = g * low true a b ∧ b = g * low false a b ∧ 0 < low false a b := by
  have g1 : 0 < Int.gcd a b := Int.gcd_pos_of_ne_zero_right _ (by omega)
  obtain ⟨a', ha⟩ := Int.gcd_dvd_left (a := a) (b := b)
  obtain ⟨b', hb'⟩ := Int.gcd_dvd_right (a := a) (b := b)
  have l1 : low true a b = a' := by
    unfold low
    generalize (Int.gcd a b) = g at *
    subst ha; subst hb'
    simp; exact Int.mul_tdiv_cancel_left _ (by omega)
  have l2 : low false a b = b' := by
    unfold low
    generalize (Int.gcd a b) = g at *
    subst ha; subst hb'
    simp; exact Int.mul_tdiv_cancel_left _ (by omega)
  refine ⟨Int.gcd a b, by omega, by rw [l1]; exact ha, by rw [l2]; exact hb', ?_⟩
  rw [l2]
  exact mpos (q := (Int.gcd a b : Int)) (by omega) (by rw [← hb']; exact hb)
theorem low_b {w : Bool} {a b A : Int} (ha : -A ≤ a ∧ a ≤ A) (hb : -A ≤ b ∧ b ≤ A) : -A ≤ low w a b ∧ low w a b ≤ A := by
  have hn : ∀ z : Int, ((z.tdiv (Int.gcd a b : Nat)).natAbs : Int) ≤ z.natAbs := by
    intro z; rw [Int.natAbs_tdiv]; exact_mod_cast Nat.div_le_self _ _
  unfold low
  cases w
  · have := hn b; simp; omega
  · have := hn a; simp; omega
