/-! what hangs together: both sides work out the least closed set -/
def sub (x : Nat) (Y : Nat → Bool) : Prop := ∀ i, x.testBit i = true → Y i = true
def Cl (fr to : Nat → Nat) (s : Nat) (bo : Bool) (L : Nat) (Y : Nat → Bool) : Prop := ∀ l, l < L → s.testBit l = true → (Y (fr l) = true → Y (to l) = true) ∧ (bo = true → Y (to l) = true → Y (fr l) = true)
theorem sub.rfl {x : Nat} : sub x x.testBit := fun _ h => h
theorem sub.trans {x y : Nat} {Y : Nat → Bool} (h : sub x y.testBit) (g : sub y Y) : sub x Y := fun i z => g i (h i z)
theorem sub_or {x y : Nat} {Y : Nat → Bool} : sub (x ||| y) Y ↔ sub x Y ∧ sub y Y := by
  unfold sub
  simp only [Nat.testBit_or, Bool.or_eq_true]
  exact ⟨fun h => ⟨fun i z => h i (Or.inl z), fun i z => h i (Or.inr z)⟩, fun h i z => z.elim (h.1 i) (h.2 i)⟩
theorem sub_or_l {x y : Nat} : sub x (x ||| y).testBit := fun i h => by rw [Nat.testBit_or, h, Bool.true_or]
theorem sub_or_r {x y : Nat} : sub y (x ||| y).testBit := fun i h => by rw [Nat.testBit_or, h, Bool.or_true]
theorem sub_2 {t : Nat} {Y : Nat → Bool} : sub (2 ^ t) Y ↔ Y t = true := by
  constructor
  · intro h; exact h t (Nat.testBit_two_pow_self ..)
  · intro h i z
    by_cases e : t = i
    · rw [← e]; exact h
    · rw [Nat.testBit_two_pow_of_ne e] at z; exact absurd z (by decide)
theorem sub_anti {x y : Nat} (h : sub x y.testBit) (g : sub y x.testBit) : x = y := by
  apply Nat.eq_of_testBit_eq
  intro i
  cases a : x.testBit i with
  | true => exact (h i a).symm
  | false =>
    cases b : y.testBit i with
    | false => rfl
    | true => rw [g i b] at a; exact absurd a (by decide)
theorem and_ne0 {x y : Nat} : x &&& y ≠ 0 ↔ ∃ i, x.testBit i = true ∧ y.testBit i = true := by
  constructor
  · intro h
    refine Classical.byContradiction fun hn => h ?_
    apply Nat.eq_of_testBit_eq
    intro i
    rw [Nat.testBit_and, Nat.zero_testBit]
    cases a : x.testBit i with
    | false => rfl
    | true =>
      cases b : y.testBit i with
      | false => rfl
      | true => exact absurd ⟨i, a, b⟩ hn
  · rintro ⟨i, a, b⟩ h
    have := congrArg (fun z => z.testBit i) h
    simp only [Nat.testBit_and, a, b, Nat.zero_testBit] at this
    exact absurd this (by decide)
theorem and_2 {x t : Nat} : x &&& 2 ^ t ≠ 0 ↔ x.testBit t = true := by
  rw [and_ne0]
  constructor
  · rintro ⟨i, a, b⟩
    by_cases e : t = i
    · rw [e]; exact a
    · rw [Nat.testBit_two_pow_of_ne e] at b; exact absurd b (by decide)
  · intro h; exact ⟨t, h, Nat.testBit_two_pow_self ..⟩
theorem and_ends {x l : Nat} {fr to : Nat → Nat} : x &&& ends fr to l ≠ 0 ↔ x.testBit (fr l) = true ∨ x.testBit (to l) = true := by
  unfold ends
  rw [Nat.and_or_distrib_left]
  constructor
  · intro h
    by_cases h1 : x &&& 2 ^ fr l = 0
    · right; apply and_2.mp; intro h2; exact h (by rw [h1, h2]; rfl)
    · exact Or.inl (and_2.mp h1)
  · rintro (h | h) z
    · exact and_2.mpr h (Nat.or_eq_zero_iff.mp z).1
    · exact and_2.mpr h (Nat.or_eq_zero_iff.mp z).2
/-! how many bits -/
def bc (x : Nat) : Nat → Nat
  | 0 => 0
  | n + 1 => bc x n + (if x.testBit n = true then 1 else 0)
theorem bc_le (x : Nat) : ∀ n, bc x n ≤ n
  | 0 => Nat.le_refl _
  | n + 1 => by
    have := bc_le x n
    simp only [bc]; split <;> omega
theorem bc_mono {x y : Nat} (h : sub x y.testBit) : ∀ n, bc x n ≤ bc y n
  | 0 => Nat.le_refl _
  | n + 1 => by
    have := bc_mono h n
    simp only [bc]
    by_cases e : x.testBit n = true
    · rw [if_pos e, if_pos (h n e)]; omega
    · rw [if_neg e]; omega
theorem bc_eq {x y : Nat} (h : sub x y.testBit) : ∀ n, bc x n = bc y n → ∀ i, i < n → x.testBit i = y.testBit i
  | 0, _, i, hi => absurd hi (Nat.not_lt_zero i)
  | n + 1, e, i, hi => by
    have m := bc_mono h n
    simp only [bc] at e
    have key : bc x n = bc y n ∧ x.testBit n = y.testBit n := by
      by_cases c1 : x.testBit n = true
      · have c2 := h n c1
        rw [if_pos c1, if_pos c2] at e
        exact ⟨by omega, by rw [c1, c2]⟩
      · rw [if_neg c1] at e
        by_cases c2 : y.testBit n = true
        · rw [if_pos c2] at e; omega
        · rw [if_neg c2] at e
          rw [Bool.not_eq_true] at c1 c2
          exact ⟨by omega, by rw [c1, c2]⟩
    by_cases z : i = n
    · rw [z]; exact key.2
    · exact bc_eq h n key.1 i (by omega)
theorem bc_two {t : Nat} : ∀ n, t < n → 1 ≤ bc (2 ^ t) n
  | 0, h => absurd h (Nat.not_lt_zero t)
  | n + 1, h => by
    simp only [bc]
    by_cases e : t = n
    · rw [e, if_pos (Nat.testBit_two_pow_self ..)]; omega
    · have := bc_two n (show t < n by omega)
      omega
theorem hi_false {x n i : Nat} (h : x < 2 ^ n) (hi : n ≤ i) : x.testBit i = false := Nat.testBit_lt_two_pow (Nat.lt_of_lt_of_le h (Nat.pow_le_pow_right (by decide) hi))
/-- a round over the lines of a set -/
def Rnd (f : Nat → Nat) (fr to : Nat → Nat) (s : Nat) (bo : Bool) (L T : Nat) : Prop := (∀ x, sub x (f x).testBit) ∧ (∀ x, x < 2 ^ T → f x < 2 ^ T) ∧ (∀ x Y, Cl fr to s bo L Y → sub x Y → sub (f x) Y) ∧ (∀ x, f x = x → Cl fr to s bo L x.testBit)
theorem Rnd.up {f : Nat → Nat} {fr to : Nat → Nat} {s : Nat} {bo : Bool} {L T : Nat} (h : Rnd f fr to s bo L T) : ∀ x, sub x (f x).testBit := h.1
theorem Rnd.lt {f : Nat → Nat} {fr to : Nat → Nat} {s : Nat} {bo : Bool} {L T : Nat} (h : Rnd f fr to s bo L T) : ∀ x, x < 2 ^ T → f x < 2 ^ T := h.2.1
theorem Rnd.min {f : Nat → Nat} {fr to : Nat → Nat} {s : Nat} {bo : Bool} {L T : Nat} (h : Rnd f fr to s bo L T) : ∀ x Y, Cl fr to s bo L Y → sub x Y → sub (f x) Y := h.2.2.1
theorem Rnd.cl {f : Nat → Nat} {fr to : Nat → Nat} {s : Nat} {bo : Bool} {L T : Nat} (h : Rnd f fr to s bo L T) : ∀ x, f x = x → Cl fr to s bo L x.testBit := h.2.2.2
def itr (f : Nat → Nat) : Nat → Nat → Nat
  | 0, x => x
  | k + 1, x => itr f k (f x)
theorem itr_fix {f : Nat → Nat} {x : Nat} (h : f x = x) : ∀ k, itr f k x = x
  | 0 => rfl
  | k + 1 => by rw [itr, h]; exact itr_fix h k
theorem itr_out {f : Nat → Nat} : ∀ k x, itr f (k + 1) x = f (itr f k x)
  | 0, _ => rfl
  | k + 1, x => by rw [itr, itr_out k (f x)]; rfl
section
variable {f : Nat → Nat} {fr to : Nat → Nat} {s : Nat} {bo : Bool} {L T : Nat}
theorem Rnd.itr_up (h : Rnd f fr to s bo L T) : ∀ k x, sub x (itr f k x).testBit
  | 0, _ => sub.rfl
  | k + 1, x => (h.up x).trans (h.itr_up k (f x))
theorem Rnd.itr_lt (h : Rnd f fr to s bo L T) : ∀ k x, x < 2 ^ T → itr f k x < 2 ^ T
  | 0, _, hx => hx
  | k + 1, x, hx => h.itr_lt k (f x) (h.lt x hx)
theorem Rnd.itr_min (h : Rnd f fr to s bo L T) {Y : Nat → Bool} (hY : Cl fr to s bo L Y) : ∀ k x, sub x Y → sub (itr f k x) Y
  | 0, _, hx => hx
  | k + 1, x, hx => h.itr_min hY k (f x) (h.min x Y hY hx)
theorem Rnd.itr_stop (h : Rnd f fr to s bo L T) : ∀ k x, x < 2 ^ T → T ≤ bc x T + k → f (itr f k x) = itr f k x
  | 0, x, hx, hk => by
    show f x = x
    refine (sub_anti (h.up x) ?_).symm
    intro i z
    have hl := h.lt x hx
    by_cases hi : i < T
    · rw [bc_eq (h.up x) T (by have := bc_le (f x) T; have := bc_mono (h.up x) T; omega) i hi]; exact z
    · rw [hi_false hl (by omega)] at z; exact absurd z (by decide)
  | k + 1, x, hx, hk => by
    by_cases e : f x = x
    · rw [itr_fix e]; exact e
    · refine h.itr_stop k (f x) (h.lt x hx) ?_
      have m := bc_mono (h.up x) T
      have ne : bc x T ≠ bc (f x) T := fun z => e (by
        have q := bc_eq (h.up x) T z
        apply Nat.eq_of_testBit_eq
        intro i
        by_cases hi : i < T
        · exact (q i hi).symm
        · rw [hi_false hx (by omega), hi_false (h.lt x hx) (by omega)])
      omega
/-- the set that is reached: closed, holds its start, within every closed set that holds it -/
theorem Rnd.full (h : Rnd f fr to s bo L T) {k t : Nat} (ht : t < T) (hk : T ≤ k + 1) : Cl fr to s bo L (itr f k (2 ^ t)).testBit ∧ (itr f k (2 ^ t)).testBit t = true ∧ itr f k (2 ^ t) < 2 ^ T ∧ ∀ Y, Cl fr to s bo L Y → Y t = true → sub (itr f k (2 ^ t)) Y := by
  have h2 : 2 ^ t < 2 ^ T := Nat.pow_lt_pow_right (by decide) ht
  have b := bc_two T ht
  exact ⟨h.cl _ (h.itr_stop k _ h2 (by omega)), h.itr_up k _ t (Nat.testBit_two_pow_self ..), h.itr_lt k _ h2, fun Y hY hy => h.itr_min hY k _ (sub_2.mpr hy)⟩
end
theorem Rnd.uniq {f g : Nat → Nat} {fr to : Nat → Nat} {s s' : Nat} {bo : Bool} {L T k m t : Nat} (h : Rnd f fr to s bo L T) (h' : Rnd g fr to s' bo L T) (hs : ∀ l, l < L → s.testBit l = s'.testBit l) (ht : t < T) (hk : T ≤ k + 1) (hm : T ≤ m + 1) : itr f k (2 ^ t) = itr g m (2 ^ t) := by
  have hc : ∀ Y, Cl fr to s bo L Y ↔ Cl fr to s' bo L Y := fun Y => by
    unfold Cl
    exact ⟨fun z l hl => by rw [← hs l hl]; exact z l hl, fun z l hl => by rw [hs l hl]; exact z l hl⟩
  have a := h.full ht hk
  have b := h'.full ht hm
  exact sub_anti (a.2.2.2 _ ((hc _).mpr b.1) b.2.1) (b.2.2.2 _ ((hc _).mp a.1) a.2.1)
/-! the rounds of both sides -/
theorem rndU_mono {fr to : Nat → Nat} {s r : Nat} : ∀ n k, sub (rndU fr to s r n) (rndU fr to s r (n + k)).testBit
  | n, 0 => sub.rfl
  | n, k + 1 => by
    refine (rndU_mono n k).trans ?_
    rw [show n + (k + 1) = n + k + 1 by omega]
    simp only [rndU]
    split
    · exact sub_or_l
    · exact sub.rfl
theorem rnd_ends_lt {fr to : Nat → Nat} {T l x : Nat} (h1 : fr l < T) (h2 : to l < T) (hx : x < 2 ^ T) : x ||| ends fr to l < 2 ^ T := Nat.or_lt_two_pow hx (Nat.or_lt_two_pow (Nat.pow_lt_pow_right (by decide) h1) (Nat.pow_lt_pow_right (by decide) h2))
theorem rndU_R {fr to : Nat → Nat} {s L T : Nat} (hw : ∀ l, l < L → fr l < T ∧ to l < T) : Rnd (fun r => rndU fr to s r L) fr to s true L T := by
  refine ⟨fun x => ?_, fun x hx => ?_, fun x Y hY hx => ?_, fun x hx l hl hs => ?_⟩
  · have := rndU_mono (fr := fr) (to := to) (s := s) (r := x) 0 L
    rw [Nat.zero_add] at this; exact this
  · have key : ∀ n, n ≤ L → rndU fr to s x n < 2 ^ T := by
      intro n
      induction n with
      | zero => intro _; exact hx
      | succ n ih =>
        intro hn
        have q := hw n (by omega)
        simp only [rndU]
        split
        · exact rnd_ends_lt q.1 q.2 (ih (by omega))
        · exact ih (by omega)
    exact key L (Nat.le_refl _)
  · have key : ∀ n, n ≤ L → sub (rndU fr to s x n) Y := by
      intro n
      induction n with
      | zero => intro _; exact hx
      | succ n ih =>
        intro hn
        have i := ih (by omega)
        simp only [rndU]
        split
        · next c =>
          have q := hY n (by omega) c.1
          have e := and_ends.mp c.2
          refine sub_or.mpr ⟨i, sub_or.mpr ⟨sub_2.mpr ?_, sub_2.mpr ?_⟩⟩
          · rcases e with z | z
            · exact i _ z
            · exact q.2 rfl (i _ z)
          · rcases e with z | z
            · exact q.1 (i _ z)
            · exact i _ z
        · exact i
    exact key L (Nat.le_refl _)
  · have lo : sub x (rndU fr to s x l).testBit := by
      have := rndU_mono (fr := fr) (to := to) (s := s) (r := x) 0 l
      rw [Nat.zero_add] at this; exact this
    have hi : sub (rndU fr to s x (l + 1)) x.testBit := by
      have := rndU_mono (fr := fr) (to := to) (s := s) (r := x) (l + 1) (L - (l + 1))
      rw [show l + 1 + (L - (l + 1)) = L by omega] at this
      have hx' : rndU fr to s x L = x := hx
      rw [hx'] at this; exact this
    have st : ∀ c : (rndU fr to s x l).testBit (fr l) = true ∨ (rndU fr to s x l).testBit (to l) = true, x.testBit (fr l) = true ∧ x.testBit (to l) = true := by
      intro c
      have e : rndU fr to s x (l + 1) = rndU fr to s x l ||| ends fr to l := by
        simp only [rndU]; rw [if_pos ⟨hs, and_ends.mpr c⟩]
      rw [e] at hi
      have z := (sub_or.mp (sub_or.mp hi).2)
      exact ⟨sub_2.mp z.1, sub_2.mp z.2⟩
    exact ⟨fun z => (st (Or.inl (lo _ z))).2, fun _ z => (st (Or.inr (lo _ z))).1⟩
theorem hangU_itr {fr to : Nat → Nat} {s L : Nat} : ∀ k r, hangU fr to s L k r = itr (fun r => rndU fr to s r L) k r
  | 0, _ => rfl
  | k + 1, r => by
    simp only [hangU]
    by_cases e : rndU fr to s r L = r
    · rw [if_pos e]; exact (itr_fix (f := fun r => rndU fr to s r L) e (k + 1)).symm
    · rw [if_neg e, hangU_itr k]; rfl
theorem rndM_mono {fr to : Nat → Nat} {s r : Nat} {bo : Bool} : ∀ n k, sub (rndM fr to s bo r n) (rndM fr to s bo r (n + k)).testBit
  | n, 0 => sub.rfl
  | n, k + 1 => by
    refine (rndM_mono n k).trans ?_
    rw [show n + (k + 1) = n + k + 1 by omega]
    simp only [rndM]
    split <;> split <;> first | exact sub.rfl | exact sub_or_l | exact sub_or_l.trans sub_or_l
theorem rndM_R {fr to : Nat → Nat} {s L T : Nat} {bo : Bool} (hw : ∀ l, l < L → fr l < T ∧ to l < T) : Rnd (fun r => rndM fr to s bo r L) fr to s bo L T := by
  refine ⟨fun x => ?_, fun x hx => ?_, fun x Y hY hx => ?_, fun x hx l hl hs => ?_⟩
  · have := rndM_mono (fr := fr) (to := to) (s := s) (bo := bo) (r := x) 0 L
    rw [Nat.zero_add] at this; exact this
  · have key : ∀ n, n ≤ L → rndM fr to s bo x n < 2 ^ T := by
      intro n
      induction n with
      | zero => intro _; exact hx
      | succ n ih =>
        intro hn
        have q := hw n (by omega)
        have i := ih (by omega)
        have p1 : 2 ^ fr n < 2 ^ T := Nat.pow_lt_pow_right (by decide) q.1
        have p2 : 2 ^ to n < 2 ^ T := Nat.pow_lt_pow_right (by decide) q.2
        simp only [rndM]
        split <;> split <;> first | exact i | exact Nat.or_lt_two_pow i p1 | exact Nat.or_lt_two_pow i p2 | exact Nat.or_lt_two_pow (Nat.or_lt_two_pow i p2) p1
    exact key L (Nat.le_refl _)
  · have key : ∀ n, n ≤ L → sub (rndM fr to s bo x n) Y := by
      intro n
      induction n with
      | zero => intro _; exact hx
      | succ n ih =>
        intro hn
        have i := ih (by omega)
        have one : sub (if s.testBit n = true ∧ (rndM fr to s bo x n).testBit (fr n) = true then rndM fr to s bo x n ||| 2 ^ to n else rndM fr to s bo x n) Y := by
          split
          · next c => exact sub_or.mpr ⟨i, sub_2.mpr ((hY n (by omega) c.1).1 (i _ c.2))⟩
          · exact i
        simp only [rndM]
        generalize (if s.testBit n = true ∧ (rndM fr to s bo x n).testBit (fr n) = true then rndM fr to s bo x n ||| 2 ^ to n else rndM fr to s bo x n) = r1 at *
        split
        · next c => exact sub_or.mpr ⟨one, sub_2.mpr ((hY n (by omega) c.1).2 c.2.1 (one _ c.2.2))⟩
        · exact one
    exact key L (Nat.le_refl _)
  · have lo : sub x (rndM fr to s bo x l).testBit := by
      have := rndM_mono (fr := fr) (to := to) (s := s) (bo := bo) (r := x) 0 l
      rw [Nat.zero_add] at this; exact this
    have hi : sub (rndM fr to s bo x (l + 1)) x.testBit := by
      have := rndM_mono (fr := fr) (to := to) (s := s) (bo := bo) (r := x) (l + 1) (L - (l + 1))
      rw [show l + 1 + (L - (l + 1)) = L by omega] at this
      have hx' : rndM fr to s bo x L = x := hx
      rw [hx'] at this; exact this
    simp only [rndM] at hi
    constructor
    · intro z
      have e1 : (if s.testBit l = true ∧ (rndM fr to s bo x l).testBit (fr l) = true then rndM fr to s bo x l ||| 2 ^ to l else rndM fr to s bo x l) = rndM fr to s bo x l ||| 2 ^ to l := if_pos ⟨hs, lo _ z⟩
      rw [e1] at hi
      split at hi
      · exact sub_2.mp (sub_or.mp (sub_or.mp hi).1).2
      · exact sub_2.mp (sub_or.mp hi).2
    · intro hb z
      have z1 : (if s.testBit l = true ∧ (rndM fr to s bo x l).testBit (fr l) = true then rndM fr to s bo x l ||| 2 ^ to l else rndM fr to s bo x l).testBit (to l) = true := by
        split
        · exact sub_or_l _ (lo _ z)
        · exact lo _ z
      rw [if_pos ⟨hs, hb, z1⟩] at hi
      exact sub_2.mp (sub_or.mp hi).2
theorem reaM_itr {fr to : Nat → Nat} {s L r : Nat} {bo : Bool} : ∀ k, reaM fr to s bo L r k = itr (fun r => rndM fr to s bo r L) k r
  | 0 => rfl
  | k + 1 => by rw [itr_out, ← reaM_itr k]; rfl
theorem rndD_mono {fr to : Nat → Nat} {r : Nat} : ∀ n k, sub (rndD fr to r n) (rndD fr to r (n + k)).testBit
  | n, 0 => sub.rfl
  | n, k + 1 => by
    refine (rndD_mono n k).trans ?_
    rw [show n + (k + 1) = n + k + 1 by omega]
    simp only [rndD]
    split
    · exact sub_or_l
    · exact sub.rfl
theorem rndD_R {fr to : Nat → Nat} {L T : Nat} (hw : ∀ l, l < L → fr l < T ∧ to l < T) : Rnd (fun r => rndD fr to r L) fr to (2 ^ L - 1) false L T := by
  refine ⟨fun x => ?_, fun x hx => ?_, fun x Y hY hx => ?_, fun x hx l hl hs => ?_⟩
  · have := rndD_mono (fr := fr) (to := to) (r := x) 0 L
    rw [Nat.zero_add] at this; exact this
  · have key : ∀ n, n ≤ L → rndD fr to x n < 2 ^ T := by
      intro n
      induction n with
      | zero => intro _; exact hx
      | succ n ih =>
        intro hn
        have q := hw n (by omega)
        simp only [rndD]
        split
        · exact Nat.or_lt_two_pow (ih (by omega)) (Nat.pow_lt_pow_right (by decide) q.2)
        · exact ih (by omega)
    exact key L (Nat.le_refl _)
  · have key : ∀ n, n ≤ L → sub (rndD fr to x n) Y := by
      intro n
      induction n with
      | zero => intro _; exact hx
      | succ n ih =>
        intro hn
        have i := ih (by omega)
        simp only [rndD]
        split
        · next c => exact sub_or.mpr ⟨i, sub_2.mpr ((hY n (by omega) (by rw [Nat.testBit_two_pow_sub_one]; exact decide_eq_true (by omega))).1 (i _ c))⟩
        · exact i
    exact key L (Nat.le_refl _)
  · have lo : sub x (rndD fr to x l).testBit := by
      have := rndD_mono (fr := fr) (to := to) (r := x) 0 l
      rw [Nat.zero_add] at this; exact this
    have hi : sub (rndD fr to x (l + 1)) x.testBit := by
      have := rndD_mono (fr := fr) (to := to) (r := x) (l + 1) (L - (l + 1))
      rw [show l + 1 + (L - (l + 1)) = L by omega] at this
      have hx' : rndD fr to x L = x := hx
      rw [hx'] at this; exact this
    refine ⟨fun z => ?_, fun hb => absurd hb (by decide)⟩
    simp only [rndD] at hi
    rw [if_pos (lo _ z)] at hi
    exact sub_2.mp (sub_or.mp hi).2
theorem ledD_itr {fr to : Nat → Nat} {L : Nat} : ∀ k r, ledD fr to L k r = itr (fun r => rndD fr to r L) k r
  | 0, _ => rfl
  | k + 1, r => by
    simp only [ledD]
    by_cases e : rndD fr to r L = r
    · rw [if_pos e]; exact (itr_fix (f := fun r => rndD fr to r L) e (k + 1)).symm
    · rw [if_neg e, ledD_itr k]; rfl
theorem hang_rea' {N : Nt} (hN : NetWf N) {s t : Nat} (ht : t < N.T) : hangU N.fr N.to s N.L N.T (2 ^ t) = reaM N.fr N.to s true N.L (2 ^ t) 7 := by
  have hw : ∀ l, l < N.L → N.fr l < N.T ∧ N.to l < N.T := fun l hl => ⟨(hN.2.2 l hl).1, (hN.2.2 l hl).2.1⟩
  have hT := hN.1
  rw [hangU_itr, reaM_itr]
  exact (rndU_R hw).uniq (rndM_R hw) (fun _ _ => rfl) ht (by omega) (by omega)
theorem led_rea' {N : Nt} (hN : NetWf N) {t : Nat} (ht : t < N.T) : ledD N.fr N.to N.L N.T (2 ^ t) = reaM N.fr N.to (2 ^ N.L - 1) false N.L (2 ^ t) 7 := by
  have hw : ∀ l, l < N.L → N.fr l < N.T ∧ N.to l < N.T := fun l hl => ⟨(hN.2.2 l hl).1, (hN.2.2 l hl).2.1⟩
  have hT := hN.1
  rw [ledD_itr, reaM_itr]
  exact (rndD_R hw).uniq (rndM_R hw) (fun _ _ => rfl) ht (by omega) (by omega)
theorem bes_bes' {N : Nt} (hN : NetWf N) {s sd : Nat} : besU N.fr N.to s sd N.L = besM N.fr N.to s N.L &&& otS N.T sd := by
  have hw : ∀ l, l < N.L → N.fr l < N.T ∧ N.to l < N.T := fun l hl => ⟨(hN.2.2 l hl).1, (hN.2.2 l hl).2.1⟩
  have lt : ∀ n, n ≤ N.L → besM N.fr N.to s n < 2 ^ N.T := by
    intro n
    induction n with
    | zero => intro _; exact Nat.two_pow_pos _
    | succ n ih =>
      intro hn
      have q := hw n (by omega)
      have i := ih (by omega)
      have p1 : 2 ^ N.fr n < 2 ^ N.T := Nat.pow_lt_pow_right (by decide) q.1
      have p2 : 2 ^ N.to n < 2 ^ N.T := Nat.pow_lt_pow_right (by decide) q.2
      simp only [besM]
      split <;> split <;> first | exact i | exact Nat.or_lt_two_pow i p1 | exact Nat.or_lt_two_pow i p2 | exact Nat.or_lt_two_pow (Nat.or_lt_two_pow i p2) p1
  have bt : ∀ x t : Nat, (x &&& 2 ^ t = 0) ↔ x.testBit t = false := fun x t => by
    have q := and_2 (x := x) (t := t)
    cases h : x.testBit t with
    | true => rw [h] at q; exact ⟨fun z => absurd z (q.mpr rfl), fun z => absurd z (by decide)⟩
    | false => rw [h] at q; exact ⟨fun _ => rfl, fun _ => Classical.byContradiction fun z => absurd (q.mp z) (by decide)⟩
  have key : ∀ n, n ≤ N.L → ∀ i, (besU N.fr N.to s sd n).testBit i = ((besM N.fr N.to s n).testBit i && !sd.testBit i) := by
    intro n
    induction n with
    | zero => intro _ i; simp [besU, besM]
    | succ n ih =>
      intro hn i
      have ih := ih (by omega) i
      simp only [besU, besM, ne_eq, bt]
      have two : ∀ t, (2 ^ t).testBit i = decide (t = i) := fun t => Nat.testBit_two_pow ..
      cases a : s.testBit (N.fr n) <;> cases b : s.testBit (N.to n) <;> cases c : sd.testBit (N.fr n) <;> cases e : sd.testBit (N.to n) <;> simp [ih, two, Nat.testBit_or] <;> (try (by_cases z1 : N.fr n = i <;> by_cases z2 : N.to n = i <;> simp_all))
  apply Nat.eq_of_testBit_eq
  intro i
  rw [key N.L (Nat.le_refl _), Nat.testBit_and]
  unfold otS
  rw [Nat.testBit_xor, Nat.testBit_and, Nat.testBit_two_pow_sub_one]
  by_cases hi : i < N.T
  · simp [hi]
  · rw [hi_false (lt N.L (Nat.le_refl _)) (by omega)]; simp
