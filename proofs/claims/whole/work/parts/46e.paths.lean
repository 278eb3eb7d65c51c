/-! ways and pairings gathered: those of the reference -/
theorem catL_mem {f : Nat → List Nat} {L s : Nat} : ∀ k, k ≤ L → (s ∈ catL f L k ↔ ∃ l, L - k ≤ l ∧ l < L ∧ s ∈ f l)
  | 0, _ => by
    simp only [catL]
    exact ⟨fun z => absurd z (by simp), fun ⟨l, h1, h2, _⟩ => absurd h1 (by omega)⟩
  | k + 1, h => by
    have ih := catL_mem (f := f) (s := s) k (show k ≤ L by omega)
    simp only [catL]
    rw [List.mem_append, ih]
    constructor
    · rintro (z | ⟨l, h1, h2, h3⟩)
      · exact ⟨L - (k + 1), Nat.le_refl _, by omega, z⟩
      · exact ⟨l, by omega, h2, h3⟩
    · rintro ⟨l, h1, h2, h3⟩
      by_cases e : l = L - (k + 1)
      · rw [e] at h3; exact Or.inl h3
      · exact Or.inr ⟨l, by omega, h2, h3⟩
theorem catL_nd {f : Nat → List Nat} {L : Nat} (h1 : ∀ l, l < L → (f l).Nodup) (h2 : ∀ l m s, l < L → m < L → s ∈ f l → s ∈ f m → l = m) : ∀ k, k ≤ L → (catL f L k).Nodup
  | 0, _ => List.nodup_nil
  | k + 1, h => by
    have ih := catL_nd h1 h2 k (by omega)
    simp only [catL]
    refine List.pairwise_append.mpr ⟨h1 _ (by omega), ih, fun x hx y hy e => ?_⟩
    rw [← e] at hy
    obtain ⟨m, m1, m2, m3⟩ := (catL_mem k (by omega)).mp hy
    have := h2 _ m x (by omega) m2 hx m3
    omega
theorem bc_or {x t : Nat} (h : x.testBit t = false) : ∀ n, bc (x ||| 2 ^ t) n = bc x n + (if t < n then 1 else 0)
  | 0 => by simp [bc]
  | n + 1 => by
    have ih := bc_or h n
    simp only [bc]
    rw [ih, or_bit]
    by_cases e : t = n
    · subst e
      rw [h, decide_eq_true rfl, if_neg (by omega), if_pos (by decide), if_neg (by decide), if_pos (by omega)]
    · rw [decide_eq_false e, Bool.or_false]
      by_cases c : t < n
      · rw [if_pos c, if_pos (show t < n + 1 by omega)]; omega
      · rw [if_neg c, if_neg (show ¬ t < n + 1 by omega)]; omega
/-- the lines of a set make one road -/
def Pw (N : Nt) (la : Nat) : Nat → Nat → Nat → Nat → Prop
  | 0, t, left, _ => t = la ∧ left = 0
  | k + 1, t, left, been => (t = la ∧ left = 0) ∨ (t ≠ la ∧ ∃ l, l < N.L ∧ left.testBit l = true ∧ N.fr l = t ∧ been.testBit (N.to l) = false ∧ Pw N la k (N.to l) (less left l) (been ||| 2 ^ N.to l))
theorem Pw.fin {N : Nt} {la t been : Nat} (h : t = la) : ∀ k, Pw N la k t 0 been
  | 0 => ⟨h, rfl⟩
  | _ + 1 => Or.inl ⟨h, rfl⟩
theorem Pw_new {N : Nt} {la : Nat} : ∀ k t left been, Pw N la k t left been → ∀ m, left.testBit m = true → been.testBit (N.to m) = false
  | 0, t, left, been, h, m, hm => by rw [h.2, Nat.zero_testBit] at hm; exact absurd hm (by decide)
  | k + 1, t, left, been, h, m, hm => by
    rcases h with h | ⟨-, l, h1, h2, h3, h4, h5⟩
    · rw [h.2, Nat.zero_testBit] at hm; exact absurd hm (by decide)
    · by_cases e : l = m
      · rw [← e]; exact h4
      · have q := Pw_new k _ _ _ h5 m (by rw [less_bit, hm, decide_eq_false e]; rfl)
        rw [or_bit] at q
        exact (Bool.or_eq_false_iff.mp q).1
theorem Pw_from {N : Nt} {la : Nat} : ∀ k t left been, Pw N la k t left been → ∀ m, left.testBit m = true → N.fr m = t ∨ been.testBit (N.fr m) = false
  | 0, t, left, been, h, m, hm => by rw [h.2, Nat.zero_testBit] at hm; exact absurd hm (by decide)
  | k + 1, t, left, been, h, m, hm => by
    rcases h with h | ⟨-, l, h1, h2, h3, h4, h5⟩
    · rw [h.2, Nat.zero_testBit] at hm; exact absurd hm (by decide)
    · by_cases e : l = m
      · rw [← e]; exact Or.inl h3
      · rcases Pw_from k _ _ _ h5 m (by rw [less_bit, hm, decide_eq_false e]; rfl) with q | q
        · rw [q]; exact Or.inr h4
        · rw [or_bit] at q
          exact Or.inr (Bool.or_eq_false_iff.mp q).1
/-- only one line leaves -/
theorem Pw_one {N : Nt} {la k l t left been : Nat} (ht : been.testBit t = true) (h2 : been.testBit (N.to l) = false) (h : Pw N la k (N.to l) (less left l) (been ||| 2 ^ N.to l)) : ∀ m, left.testBit m = true → N.fr m = t → m = l := by
  intro m hm he
  refine Classical.byContradiction fun hc => ?_
  rcases Pw_from k _ _ _ h m (by rw [less_bit, hm, decide_eq_false (fun z => hc z.symm)]; rfl) with q | q
  · rw [he] at q; rw [← q, ht] at h2; exact absurd h2 (by decide)
  · rw [he, or_bit, ht] at q; exact absurd q (by simp)
theorem less_or {left l : Nat} (h : left.testBit l = true) : 2 ^ l ||| less left l = left := by
  apply Nat.eq_of_testBit_eq
  intro i
  rw [Nat.testBit_or, less_bit, Nat.testBit_two_pow]
  by_cases e : l = i
  · rw [← e, h, decide_eq_true rfl]; rfl
  · rw [decide_eq_false e]; simp
theorem or_less {left l : Nat} (h : left.testBit l = false) : less (2 ^ l ||| left) l = left := by
  apply Nat.eq_of_testBit_eq
  intro i
  rw [less_bit, Nat.testBit_or, Nat.testBit_two_pow]
  by_cases e : l = i
  · rw [← e, h, decide_eq_true rfl]; rfl
  · rw [decide_eq_false e]; simp
theorem less_le {left l n : Nat} (h : left < 2 ^ n) : less left l < 2 ^ n := less_lt h
theorem walkL_ok {N : Nt} {la : Nat} : ∀ k t seen ch, seen.testBit t = true → (∀ l, ch.testBit l = true → seen.testBit (N.to l) = true) → (walkL N la k t seen ch).Nodup ∧ ∀ s, s ∈ walkL N la k t seen ch ↔ ∃ left, left < 2 ^ N.L ∧ s = ch ||| left ∧ Pw N la k t left seen := by
  intro k
  induction k with
  | zero =>
    intro t seen ch ht hch
    by_cases e : t = la
    · subst e
      rw [walkL_at]
      refine ⟨List.nodup_cons.mpr ⟨by simp, List.nodup_nil⟩, fun s => ?_⟩
      rw [List.mem_singleton]
      constructor
      · rintro rfl; exact ⟨0, Nat.two_pow_pos _, (Nat.or_zero _).symm, rfl, rfl⟩
      · rintro ⟨left, -, h2, h3⟩; rw [h3.2, Nat.or_zero] at h2; exact h2
    · rw [walkL_0 e]
      exact ⟨List.nodup_nil, fun s => ⟨fun z => absurd z (by simp), fun ⟨left, _, _, h3⟩ => absurd h3.1 e⟩⟩
  | succ k ih =>
    intro t seen ch ht hch
    by_cases e : t = la
    · subst e
      rw [walkL_at]
      refine ⟨List.nodup_cons.mpr ⟨by simp, List.nodup_nil⟩, fun s => ?_⟩
      rw [List.mem_singleton]
      constructor
      · rintro rfl; exact ⟨0, Nat.two_pow_pos _, (Nat.or_zero _).symm, Or.inl ⟨rfl, rfl⟩⟩
      · rintro ⟨left, -, h2, h3⟩
        rcases h3 with h3 | h3
        · rw [h3.2, Nat.or_zero] at h2; exact h2
        · exact absurd rfl h3.1
    · rw [walkL_s e]
      -- a line further
      have one : ∀ l, N.fr l = t → seen.testBit (N.to l) = false → (walkL N la k (N.to l) (seen ||| 2 ^ N.to l) (ch ||| 2 ^ l)).Nodup ∧ ∀ s, s ∈ walkL N la k (N.to l) (seen ||| 2 ^ N.to l) (ch ||| 2 ^ l) ↔ ∃ left, left < 2 ^ N.L ∧ s = ch ||| 2 ^ l ||| left ∧ Pw N la k (N.to l) left (seen ||| 2 ^ N.to l) := by
        intro l hf hn
        refine ih (N.to l) _ _ (by rw [or_bit, decide_eq_true rfl, Bool.or_true]) (fun m hm => ?_)
        rw [or_bit] at hm ⊢
        rcases Bool.or_eq_true_iff.mp hm with z | z
        · rw [hch m z]; rfl
        · rw [← of_decide_eq_true z, decide_eq_true rfl, Bool.or_true]
      have nl : ∀ l, seen.testBit (N.to l) = false → ch.testBit l = false := fun l hn => by
        cases c : ch.testBit l with
        | false => rfl
        | true => rw [hch l c] at hn; exact absurd hn (by decide)
      have fm : ∀ l s, s ∈ wlF N la k t seen ch l ↔ N.fr l = t ∧ seen.testBit (N.to l) = false ∧ s ∈ walkL N la k (N.to l) (seen ||| 2 ^ N.to l) (ch ||| 2 ^ l) := by
        intro l s
        unfold wlF
        by_cases c : N.fr l = t ∧ seen.testBit (N.to l) = false
        · rw [if_pos c]; exact ⟨fun z => ⟨c.1, c.2, z⟩, fun z => z.2.2⟩
        · rw [if_neg c]; exact ⟨fun z => absurd z (by simp), fun z => absurd ⟨z.1, z.2.1⟩ c⟩
      refine ⟨catL_nd (fun l _ => ?_) (fun l m s hl hm h1 h2 => ?_) N.L (Nat.le_refl _), fun s => ?_⟩
      · unfold wlF
        by_cases c : N.fr l = t ∧ seen.testBit (N.to l) = false
        · rw [if_pos c]; exact (one l c.1 c.2).1
        · rw [if_neg c]; exact List.nodup_nil
      · obtain ⟨a1, a2, a3⟩ := (fm l s).mp h1
        obtain ⟨b1, b2, b3⟩ := (fm m s).mp h2
        obtain ⟨left, l1, l2, l3⟩ := ((one l a1 a2).2 s).mp a3
        obtain ⟨lf2, m1, m2, m3⟩ := ((one m b1 b2).2 s).mp b3
        refine Classical.byContradiction fun hc => ?_
        have hs : s.testBit m = true := by rw [m2, Nat.testBit_or, or_bit, decide_eq_true rfl, Bool.or_true, Bool.true_or]
        rw [l2, Nat.testBit_or, or_bit, nl m b2, decide_eq_false hc, Bool.false_or, Bool.false_or] at hs
        rcases Pw_from k _ _ _ l3 m hs with q | q
        · rw [b1] at q; rw [← q, ht] at a2; exact absurd a2 (by decide)
        · rw [b1, or_bit, ht] at q; exact absurd q (by simp)
      · rw [catL_mem N.L (Nat.le_refl _)]
        constructor
        · rintro ⟨l, -, hl, hs⟩
          obtain ⟨a1, a2, a3⟩ := (fm l s).mp hs
          obtain ⟨left, l1, l2, l3⟩ := ((one l a1 a2).2 s).mp a3
          have hb : left.testBit l = false := by
            cases c : left.testBit l with
            | false => rfl
            | true =>
              have q := Pw_new k _ _ _ l3 l c
              rw [or_bit, decide_eq_true rfl, Bool.or_true] at q; exact absurd q (by decide)
          refine ⟨2 ^ l ||| left, Nat.or_lt_two_pow (Nat.pow_lt_pow_right (by decide) hl) l1, by rw [l2, Nat.or_assoc], Or.inr ⟨e, l, hl, ?_, a1, a2, ?_⟩⟩
          · rw [Nat.testBit_or, Nat.testBit_two_pow_self]; rfl
          · rw [or_less hb]; exact l3
        · rintro ⟨left, l1, l2, l3⟩
          rcases l3 with l3 | ⟨-, l, h1, h2, h3, h4, h5⟩
          · exact absurd l3.1 e
          · refine ⟨l, by omega, h1, (fm l s).mpr ⟨h3, h4, ((one l h3 h4).2 s).mpr ⟨less left l, less_le l1, ?_, h5⟩⟩⟩
            rw [Nat.or_assoc, less_or h2]; exact l2
/-! the reference's way -/
theorem scanW_none {fr : Nat → Nat} {left t : Nat} : ∀ n, (∀ m, m < n → left.testBit m = true → fr m ≠ t) → (scanW fr left t n).2 = 0
  | 0, _ => rfl
  | n + 1, h => by
    simp only [scanW]
    rw [if_neg (fun z => h n (by omega) z.1 z.2)]
    exact scanW_none n (fun m hm => h m (by omega))
theorem scanW_one {fr : Nat → Nat} {left t l : Nat} (h2 : left.testBit l = true) (h3 : fr l = t) : ∀ n, l < n → (∀ m, m < n → left.testBit m = true → fr m = t → m = l) → scanW fr left t n = ((l : Int), 1)
  | 0, h, _ => absurd h (Nat.not_lt_zero l)
  | n + 1, h, hu => by
    simp only [scanW]
    by_cases e : l = n
    · subst e
      rw [if_pos ⟨h2, h3⟩, scanW_none l (fun m hm hb hf => by have := hu m (by omega) hb hf; omega)]
    · rw [if_neg (fun z => e (hu n (by omega) z.1 z.2).symm)]
      exact scanW_one h2 h3 n (by omega) (fun m hm => hu m (by omega))
theorem scanW_is {fr : Nat → Nat} {left t : Nat} : ∀ n, (scanW fr left t n).2 = 0 ∧ (∀ m, m < n → left.testBit m = true → fr m ≠ t) ∨ 1 ≤ (scanW fr left t n).2 ∧ ∃ l : Nat, (scanW fr left t n).1 = l ∧ l < n ∧ left.testBit l = true ∧ fr l = t
  | 0 => Or.inl ⟨rfl, fun m hm => absurd hm (Nat.not_lt_zero m)⟩
  | n + 1 => by
    simp only [scanW]
    by_cases c : left.testBit n = true ∧ fr n = t
    · rw [if_pos c]
      exact Or.inr ⟨by dsimp only; omega, n, rfl, by omega, c.1, c.2⟩
    · rw [if_neg c]
      rcases scanW_is (fr := fr) (left := left) (t := t) n with ⟨h1, h2⟩ | ⟨h1, l, h2, h3, h4⟩
      · refine Or.inl ⟨h1, fun m hm hb hf => ?_⟩
        by_cases e : m = n
        · rw [e] at hb hf; exact c ⟨hb, hf⟩
        · exact h2 m (by omega) hb hf
      · exact Or.inr ⟨h1, l, h2, by omega, h4⟩
theorem wayM_to {N : Nt} (hN : NetWf N) {la : Nat} : ∀ m t left been k, been.testBit t = true → N.T ≤ bc been N.T + k → wayM N.fr N.to N.L la m t left been = true → Pw N la k t left been
  | 0, _, _, _, _, _, _, h => absurd h (by simp [wayM])
  | m + 1, t, left, been, k, ht, hk, h => by
    simp only [wayM] at h
    by_cases e : t = la
    · rw [if_pos e] at h
      rw [of_decide_eq_true h]
      exact Pw.fin e k
    · rw [if_neg e] at h
      split at h
      · next c =>
        rcases scanW_is (fr := N.fr) (left := left) (t := t) N.L with ⟨h1, -⟩ | ⟨-, l, h2, h3, h4, h5⟩
        · have := c.1; omega
        · rw [h2, Int.toNat_natCast] at h c
          have q := hN.2.2 l h3
          have b1 := bc_or c.2 N.T
          rw [if_pos q.2.1] at b1
          have b2 := bc_le (been ||| 2 ^ N.to l) N.T
          obtain ⟨k2, rfl⟩ : ∃ k2, k = k2 + 1 := ⟨k - 1, by omega⟩
          exact Or.inr ⟨e, l, h3, h4, h5, c.2, wayM_to hN m _ _ _ k2 (by rw [or_bit, decide_eq_true rfl, Bool.or_true]) (by omega) h⟩
      · exact absurd h (by decide)
theorem wayM_of {N : Nt} (hN : NetWf N) {la : Nat} : ∀ k t left been m, been.testBit t = true → N.T + 1 ≤ bc been N.T + m → Pw N la k t left been → wayM N.fr N.to N.L la m t left been = true
  | 0, t, left, been, m, ht, hm, h => by
    have b := bc_le been N.T
    obtain ⟨m2, rfl⟩ : ∃ m2, m = m2 + 1 := ⟨m - 1, by omega⟩
    simp only [wayM]
    rw [if_pos h.1, h.2]; rfl
  | k + 1, t, left, been, m, ht, hm, h => by
    have b := bc_le been N.T
    obtain ⟨m2, rfl⟩ : ∃ m2, m = m2 + 1 := ⟨m - 1, by omega⟩
    simp only [wayM]
    rcases h with h | ⟨e, l, h1, h2, h3, h4, h5⟩
    · rw [if_pos h.1, h.2]; rfl
    · have q := hN.2.2 l h1
      have b1 := bc_or h4 N.T
      rw [if_pos q.2.1] at b1
      rw [if_neg e, scanW_one h2 h3 N.L h1 (fun m _ => Pw_one ht h4 h5 m), Int.toNat_natCast, if_pos ⟨rfl, h4⟩]
      exact wayM_of hN k _ _ _ m2 (by rw [or_bit, decide_eq_true rfl, Bool.or_true]) (by omega) h5
theorem walk_wy {N : Nt} (hN : NetWf N) {f la : Nat} (hf : f < N.T) : (walkL N la N.T f (2 ^ f) 0).Nodup ∧ ∀ s, s ∈ walkL N la N.T f (2 ^ f) 0 ↔ s < 2 ^ N.L ∧ wayM N.fr N.to N.L la 128 f s (2 ^ f) = true := by
  have hT := hN.1
  have b1 := bc_two (t := f) N.T hf
  have b2 : (2 ^ f).testBit f = true := Nat.testBit_two_pow_self ..
  have h := walkL_ok (N := N) (la := la) N.T f (2 ^ f) 0 b2 (fun l z => by rw [Nat.zero_testBit] at z; exact absurd z (by decide))
  refine ⟨h.1, fun s => (h.2 s).trans ?_⟩
  constructor
  · rintro ⟨left, h1, h2, h3⟩
    rw [Nat.zero_or] at h2
    rw [h2]
    exact ⟨h1, wayM_of hN _ _ _ _ 128 b2 (by omega) h3⟩
  · rintro ⟨h1, h2⟩
    exact ⟨s, h1, (Nat.zero_or _).symm, wayM_to hN _ _ _ _ N.T b2 (by omega) h2⟩
/-! pairings -/
theorem prS_s {fr to : Nat → Nat} {s sd l : Nat} : prS fr to s sd (l + 1) = if s.testBit l = true then ((prS fr to s sd l).1 && decide ((prS fr to s sd l).2 &&& ends fr to l = 0) && decide (sd.testBit (fr l) ≠ sd.testBit (to l)), (prS fr to s sd l).2 ||| ends fr to l) else prS fr to s sd l := rfl
theorem prS_congr {fr to : Nat → Nat} {s s' sd : Nat} : ∀ n, (∀ i, i < n → s.testBit i = s'.testBit i) → prS fr to s sd n = prS fr to s' sd n
  | 0, _ => rfl
  | n + 1, h => by rw [prS_s, prS_s, prS_congr n (fun i hi => h i (by omega)), h n (by omega)]
theorem prS_down {fr to : Nat → Nat} {s sd : Nat} {n : Nat} : ∀ k, (prS fr to s sd (n + k)).1 = true → (prS fr to s sd n).1 = true ∧ ∀ i, (prS fr to s sd n).2.testBit i = true → (prS fr to s sd (n + k)).2.testBit i = true
  | 0, h => ⟨h, fun _ z => z⟩
  | k + 1, h => by
    rw [show n + (k + 1) = n + k + 1 by omega, prS_s] at *
    by_cases c : s.testBit (n + k) = true
    · rw [if_pos c] at *
      simp only [Bool.and_eq_true] at h
      have ih := prS_down k h.1.1
      exact ⟨ih.1, fun i z => by dsimp only; rw [Nat.testBit_or, ih.2 i z]; rfl⟩
    · rw [if_neg c] at *
      exact prS_down k h
theorem ends_bit {fr to : Nat → Nat} {l i : Nat} : (ends fr to l).testBit i = (decide (fr l = i) || decide (to l = i)) := by
  unfold ends
  rw [Nat.testBit_or, Nat.testBit_two_pow, Nat.testBit_two_pow]
theorem crs_iff {N : Nt} {sd l : Nat} : crsB N sd l = true ↔ sd.testBit (N.fr l) ≠ sd.testBit (N.to l) := by
  unfold crsB
  rw [decide_eq_true_eq, Nat.and_comm]
  have h1 := and_ends (x := sd) (l := l) (fr := N.fr) (to := N.to)
  have h2 : sd &&& ends N.fr N.to l = ends N.fr N.to l ↔ sd.testBit (N.fr l) = true ∧ sd.testBit (N.to l) = true := by
    constructor
    · intro h
      have g := fun i => congrArg (fun x => x.testBit i) h
      simp only [Nat.testBit_and, ends_bit] at g
      have g1 := g (N.fr l)
      have g2 := g (N.to l)
      rw [decide_eq_true rfl] at g1 g2
      simp only [Bool.true_or, Bool.or_true, Bool.and_true] at g1 g2
      exact ⟨g1, g2⟩
    · rintro ⟨a, b⟩
      apply Nat.eq_of_testBit_eq
      intro i
      rw [Nat.testBit_and, ends_bit]
      by_cases e1 : N.fr l = i
      · rw [← e1, a]; rfl
      · by_cases e2 : N.to l = i
        · rw [← e2, b]; rfl
        · rw [decide_eq_false e1, decide_eq_false e2]; simp
  rw [h1, ne_eq, h2]
  cases sd.testBit (N.fr l) <;> cases sd.testBit (N.to l) <;> decide
theorem pairL_ok {N : Nt} (hN : NetWf N) {sd : Nat} : ∀ k ln ch fr, ln + k = N.L → ch < 2 ^ ln → (prS N.fr N.to ch sd ln).1 = true → (∀ i, fr.testBit i = (decide (i < N.T) && !(prS N.fr N.to ch sd ln).2.testBit i)) → (pairL N sd k ln ch fr).Nodup ∧ ∀ s, s ∈ pairL N sd k ln ch fr ↔ s < 2 ^ N.L ∧ (∀ i, i < ln → s.testBit i = ch.testBit i) ∧ (prS N.fr N.to s sd N.L).1 = true ∧ ∀ i, i < N.T → (prS N.fr N.to s sd N.L).2.testBit i = true := by
  intro k
  -- nothing is free any more
  have done : ∀ k ln ch fr, ln + k = N.L → ch < 2 ^ ln → (prS N.fr N.to ch sd ln).1 = true → (∀ i, fr.testBit i = (decide (i < N.T) && !(prS N.fr N.to ch sd ln).2.testBit i)) → fr = 0 → ∀ s, s = ch ↔ s < 2 ^ N.L ∧ (∀ i, i < ln → s.testBit i = ch.testBit i) ∧ (prS N.fr N.to s sd N.L).1 = true ∧ ∀ i, i < N.T → (prS N.fr N.to s sd N.L).2.testBit i = true := by
    intro k ln ch fr hk hc ho hf h0 s
    have hp : 2 ^ ln ≤ 2 ^ N.L := Nat.pow_le_pow_right (by decide) (by omega)
    have full : ∀ i, i < N.T → (prS N.fr N.to ch sd ln).2.testBit i = true := by
      intro i hi
      have := hf i
      rw [h0, Nat.zero_testBit, decide_eq_true hi, Bool.true_and] at this
      cases c : (prS N.fr N.to ch sd ln).2.testBit i with
      | true => rfl
      | false => rw [c] at this; exact absurd this (by decide)
    constructor
    · rintro rfl
      have st : ∀ m, prS N.fr N.to s sd (ln + m) = prS N.fr N.to s sd ln := by
        intro m
        induction m with
        | zero => rfl
        | succ m im => rw [show ln + (m + 1) = ln + m + 1 by omega, prS_s, hi_false hc (by omega), if_neg (by decide)]; exact im
      rw [← hk, st k]
      exact ⟨by rw [hk]; omega, fun _ _ => rfl, ho, full⟩
    · rintro ⟨h1, h2, h3, -⟩
      refine bits_eq h1 (show ch < 2 ^ N.L by omega) (fun i hi => ?_)
      by_cases c : i < ln
      · exact h2 i c
      · rw [hi_false hc (by omega)]
        cases z : s.testBit i with
        | false => rfl
        | true =>
          exfalso
          have d1 := (prS_down (fr := N.fr) (to := N.to) (s := s) (sd := sd) (n := i + 1) (N.L - (i + 1)) (by rw [show i + 1 + (N.L - (i + 1)) = N.L by omega]; exact h3)).1
          rw [prS_s, if_pos z] at d1
          simp only [Bool.and_eq_true, decide_eq_true_eq] at d1
          have d2 := (prS_down (fr := N.fr) (to := N.to) (s := s) (sd := sd) (n := ln) (i - ln) (by rw [show ln + (i - ln) = i by omega]; exact d1.1.1)).2
          rw [show ln + (i - ln) = i by omega, prS_congr ln h2] at d2
          have q := hN.2.2 i hi
          exact and_ends.mpr (Or.inl (d2 _ (full _ q.1))) d1.1.2
  induction k with
  | zero =>
    intro ln ch fr hk hc ho hf
    by_cases h0 : fr = 0
    · have d := done 0 ln ch fr hk hc ho hf h0
      rw [h0, pairL_0]
      exact ⟨List.nodup_cons.mpr ⟨by simp, List.nodup_nil⟩, fun s => by rw [List.mem_singleton]; exact d s⟩
    · simp only [pairL]
      rw [if_neg h0]
      refine ⟨List.nodup_nil, fun s => ⟨fun z => absurd z (by simp), ?_⟩⟩
      rintro ⟨h1, h2, -, h4⟩
      refine absurd ?_ h0
      apply Nat.eq_of_testBit_eq
      intro i
      rw [hf i, Nat.zero_testBit]
      by_cases hi : i < N.T
      · have := h4 i hi
        rw [show N.L = ln by omega, prS_congr ln h2] at this
        rw [this]; simp
      · rw [decide_eq_false hi]; rfl
  | succ k ih =>
    intro ln ch fr hk hc ho hf
    by_cases h0 : fr = 0
    · have d := done (k + 1) ln ch fr hk hc ho hf h0
      rw [h0, pairL_0]
      exact ⟨List.nodup_cons.mpr ⟨by simp, List.nodup_nil⟩, fun s => by rw [List.mem_singleton]; exact d s⟩
    · have q := hN.2.2 ln (by omega)
      have cb : ch.testBit ln = false := hi_false hc (Nat.le_refl _)
      have c1 : (ch ||| 2 ^ ln).testBit ln = true := by rw [or_bit, decide_eq_true rfl, Bool.or_true]
      have c2 : ∀ i, i < ln → (ch ||| 2 ^ ln).testBit i = ch.testBit i := fun i hi => by rw [or_bit, decide_eq_false (by omega), Bool.or_false]
      have p1 : ch < 2 ^ (ln + 1) := Nat.lt_trans hc (Nat.pow_lt_pow_right (by decide) (by omega))
      have p2 : ch ||| 2 ^ ln < 2 ^ (ln + 1) := Nat.or_lt_two_pow p1 (Nat.pow_lt_pow_right (by decide) (by omega))
      have sB : prS N.fr N.to ch sd (ln + 1) = prS N.fr N.to ch sd ln := by rw [prS_s, cb, if_neg (by decide)]
      have hB := ih (ln + 1) ch fr (by omega) p1 (by rw [sB]; exact ho) (by rw [sB]; exact hf)
      have inB : ∀ s, s ∈ pairL N sd k (ln + 1) ch fr ↔ s.testBit ln = false ∧ s < 2 ^ N.L ∧ (∀ i, i < ln → s.testBit i = ch.testBit i) ∧ (prS N.fr N.to s sd N.L).1 = true ∧ ∀ i, i < N.T → (prS N.fr N.to s sd N.L).2.testBit i = true := by
        intro s
        rw [hB.2 s]
        constructor
        · rintro ⟨h1, h2, h3⟩
          exact ⟨by rw [h2 ln (by omega)]; exact cb, h1, fun i hi => h2 i (by omega), h3⟩
        · rintro ⟨g0, h1, h2, h3⟩
          refine ⟨h1, fun i hi => ?_, h3⟩
          by_cases e : i = ln
          · rw [e, g0, cb]
          · exact h2 i (by omega)
      -- the line may be taken just where its ends are free and it crosses
      have free : fr &&& ends N.fr N.to ln = ends N.fr N.to ln ↔ (prS N.fr N.to ch sd ln).2 &&& ends N.fr N.to ln = 0 := by
        constructor
        · intro h
          refine Classical.byContradiction fun z => ?_
          have g := fun i => congrArg (fun x => x.testBit i) h
          simp only [Nat.testBit_and, ends_bit] at g
          have g1 := g (N.fr ln)
          have g2 := g (N.to ln)
          rw [decide_eq_true rfl] at g1 g2
          simp only [Bool.true_or, Bool.or_true, Bool.and_true] at g1 g2
          rw [hf] at g1 g2
          simp only [Bool.and_eq_true, Bool.not_eq_true'] at g1 g2
          rcases and_ends.mp z with w | w
          · rw [g1.2] at w; exact absurd w (by decide)
          · rw [g2.2] at w; exact absurd w (by decide)
        · intro h
          apply Nat.eq_of_testBit_eq
          intro i
          have hn : ¬ ((prS N.fr N.to ch sd ln).2.testBit (N.fr ln) = true ∨ (prS N.fr N.to ch sd ln).2.testBit (N.to ln) = true) := fun z => and_ends.mpr z h
          have n1 : (prS N.fr N.to ch sd ln).2.testBit (N.fr ln) = false := by
            cases c : (prS N.fr N.to ch sd ln).2.testBit (N.fr ln) with
            | false => rfl
            | true => exact absurd (Or.inl c) hn
          have n2 : (prS N.fr N.to ch sd ln).2.testBit (N.to ln) = false := by
            cases c : (prS N.fr N.to ch sd ln).2.testBit (N.to ln) with
            | false => rfl
            | true => exact absurd (Or.inr c) hn
          rw [Nat.testBit_and, ends_bit, hf]
          by_cases e1 : N.fr ln = i
          · rw [← e1, n1, decide_eq_true q.1, decide_eq_true rfl]; rfl
          · by_cases e2 : N.to ln = i
            · rw [← e2, n2, decide_eq_true q.2.1, decide_eq_true rfl, Bool.or_true]; rfl
            · rw [decide_eq_false e1, decide_eq_false e2]; simp
      rw [pairL_s h0]
      by_cases hg : crsB N sd ln = true ∧ fr &&& ends N.fr N.to ln = ends N.fr N.to ln
      · rw [if_pos hg]
        have z1 := crs_iff.mp hg.1
        have z2 := free.mp hg.2
        have sA : prS N.fr N.to (ch ||| 2 ^ ln) sd (ln + 1) = (true, (prS N.fr N.to ch sd ln).2 ||| ends N.fr N.to ln) := by
          rw [prS_s, c1, if_pos rfl, prS_congr ln c2, ho, decide_eq_true z2, decide_eq_true z1]; rfl
        have hA := ih (ln + 1) (ch ||| 2 ^ ln) (fr ^^^ (fr &&& ends N.fr N.to ln)) (by omega) p2 (by rw [sA]) (by
          intro i
          rw [sA]
          dsimp only
          rw [Nat.testBit_xor, Nat.testBit_and, Nat.testBit_or, hf i]
          cases decide (i < N.T) <;> cases (prS N.fr N.to ch sd ln).2.testBit i <;> cases (ends N.fr N.to ln).testBit i <;> rfl)
        have inA : ∀ s, s ∈ pairL N sd k (ln + 1) (ch ||| 2 ^ ln) (fr ^^^ (fr &&& ends N.fr N.to ln)) ↔ s.testBit ln = true ∧ s < 2 ^ N.L ∧ (∀ i, i < ln → s.testBit i = ch.testBit i) ∧ (prS N.fr N.to s sd N.L).1 = true ∧ ∀ i, i < N.T → (prS N.fr N.to s sd N.L).2.testBit i = true := by
          intro s
          rw [hA.2 s]
          constructor
          · rintro ⟨h1, h2, h3⟩
            exact ⟨by rw [h2 ln (by omega)]; exact c1, h1, fun i hi => by rw [h2 i (by omega)]; exact c2 i hi, h3⟩
          · rintro ⟨g0, h1, h2, h3⟩
            refine ⟨h1, fun i hi => ?_, h3⟩
            by_cases e : i = ln
            · rw [e, g0, c1]
            · rw [c2 i (by omega)]; exact h2 i (by omega)
        refine ⟨List.pairwise_append.mpr ⟨hA.1, hB.1, fun x hx y hy e => ?_⟩, fun s => ?_⟩
        · have q1 := ((inA x).mp hx).1
          have q2 := ((inB y).mp hy).1
          rw [e, q2] at q1
          exact absurd q1 (by decide)
        · rw [List.mem_append, inA s, inB s]
          constructor
          · rintro (h | h) <;> exact h.2
          · intro h
            cases e : s.testBit ln with
            | true => exact Or.inl ⟨rfl, h⟩
            | false => exact Or.inr ⟨rfl, h⟩
      · rw [if_neg hg, List.nil_append]
        refine ⟨hB.1, fun s => ?_⟩
        rw [inB s]
        constructor
        · exact fun h => h.2
        · intro h
          refine ⟨?_, h⟩
          cases e : s.testBit ln with
          | false => rfl
          | true =>
            exfalso
            have d1 := (prS_down (fr := N.fr) (to := N.to) (s := s) (sd := sd) (n := ln + 1) k (by rw [show ln + 1 + k = N.L by omega]; exact h.2.2.1)).1
            rw [prS_s, if_pos e, prS_congr ln h.2.1] at d1
            simp only [Bool.and_eq_true, decide_eq_true_eq] at d1
            exact hg ⟨crs_iff.mpr d1.2, free.mpr d1.1.2⟩
theorem pair_pr {N : Nt} (hN : NetWf N) {sd : Nat} : (pairL N sd N.L 0 0 (2 ^ N.T - 1)).Nodup ∧ ∀ s, s ∈ pairL N sd N.L 0 0 (2 ^ N.T - 1) ↔ s < 2 ^ N.L ∧ prB N.fr N.to N.T N.L s sd = true := by
  have h := pairL_ok hN (sd := sd) N.L 0 0 (2 ^ N.T - 1) (by omega) (by decide) rfl (fun i => by
    rw [Nat.testBit_two_pow_sub_one]
    simp [prS])
  refine ⟨h.1, fun s => (h.2 s).trans ?_⟩
  have lt : ∀ n, n ≤ N.L → (prS N.fr N.to s sd n).2 < 2 ^ N.T := by
    intro n
    induction n with
    | zero => intro _; exact Nat.two_pow_pos _
    | succ n ih =>
      intro hn
      have q := hN.2.2 n (by omega)
      rw [prS_s]
      split
      · exact rnd_ends_lt q.1 q.2.1 (ih (by omega))
      · exact ih (by omega)
  unfold prB
  rw [Bool.and_eq_true, decide_eq_true_eq]
  constructor
  · rintro ⟨h1, -, h3, h4⟩
    refine ⟨h1, h3, bits_eq (lt N.L (Nat.le_refl _)) (by have := Nat.two_pow_pos N.T; omega) (fun i hi => ?_)⟩
    rw [h4 i hi, Nat.testBit_two_pow_sub_one, decide_eq_true hi]
  · rintro ⟨h1, h3, h4⟩
    refine ⟨h1, fun i hi => absurd hi (Nat.not_lt_zero i), h3, fun i hi => ?_⟩
    rw [h4, Nat.testBit_two_pow_sub_one, decide_eq_true hi]
/-! told sets -/
theorem tld_iff {su : Nat → Nat} {s : Nat} : ∀ m, tldB su s m = true ↔ ∃ i, i < m ∧ su i = s
  | 0 => ⟨fun z => absurd z (by simp [tldB]), fun ⟨i, h, _⟩ => absurd h (Nat.not_lt_zero i)⟩
  | m + 1 => by
    simp only [tldB, Bool.or_eq_true, decide_eq_true_eq]
    rw [tld_iff m]
    constructor
    · rintro (⟨i, h1, h2⟩ | h)
      · exact ⟨i, by omega, h2⟩
      · exact ⟨m, by omega, h⟩
    · rintro ⟨i, h1, h2⟩
      by_cases e : i = m
      · rw [e] at h2; exact Or.inr h2
      · exact Or.inl ⟨i, by omega, h2⟩
theorem told_tl {N : Nt} {o : Of} (hu : ∀ i j, i < o.m → j < o.m → o.su i = o.su j → i = j) : (toldL N o).Nodup ∧ ∀ s, s ∈ toldL N o ↔ s < 2 ^ N.L ∧ tldB o.su s o.m = true := by
  have fm : ∀ i s, s ∈ (if o.su i < 2 ^ N.L then [o.su i] else []) ↔ s = o.su i ∧ o.su i < 2 ^ N.L := by
    intro i s
    by_cases c : o.su i < 2 ^ N.L
    · rw [if_pos c, List.mem_singleton]; exact ⟨fun z => ⟨z, c⟩, fun z => z.1⟩
    · rw [if_neg c]; exact ⟨fun z => absurd z (by simp), fun z => absurd z.2 c⟩
  unfold toldL
  refine ⟨catL_nd (fun l _ => ?_) (fun l m s hl hm h1 h2 => ?_) o.m (Nat.le_refl _), fun s => ?_⟩
  · split
    · exact List.nodup_cons.mpr ⟨by simp, List.nodup_nil⟩
    · exact List.nodup_nil
  · exact hu l m hl hm (((fm l s).mp h1).1.symm.trans ((fm m s).mp h2).1)
  · rw [catL_mem o.m (Nat.le_refl _), tld_iff]
    constructor
    · rintro ⟨i, -, h2, h3⟩
      have q := (fm i s).mp h3
      exact ⟨by rw [q.1]; exact q.2, i, h2, q.1.symm⟩
    · rintro ⟨h1, i, h2, h3⟩
      exact ⟨i, by omega, h2, (fm i s).mpr ⟨h3.symm, by rw [h3]; exact h1⟩⟩
/-! what is gathered are the choices, in their order -/
theorem gat_ch' {N : Nt} {o : Of} (hN : NetWf N) (ho : OfW N.T o) : insA [] (gatL N o) = chL N o := by
  have hL := lt_2pow hN.2.1
  have key2 : (gatL N o).Nodup ∧ ∀ s, s ∈ gatL N o ↔ s < 2 ^ N.L ∧ chB N o s = true := by
    have hk := ho.k
    have hk4 : o.k = 0 ∨ o.k = 1 ∨ o.k = 2 ∨ o.k = 3 := by omega
    unfold gatL
    rcases hk4 with k0 | k0 | k0 | k0
    · rw [k0]
      have h := told_tl (N := N) ho.un
      refine ⟨h.1, fun s => (h.2 s).trans ⟨fun z => ⟨z.1, by rw [chB_0 z.1 k0]; exact z.2⟩, fun z => ⟨z.1, by rw [← chB_0 z.1 k0]; exact z.2⟩⟩⟩
    · rw [k0]
      by_cases h0 : 0 < N.T
      · rw [if_pos h0]
        have h := grow_tr hN h0
        refine ⟨h.1, fun s => (h.2 s).trans ⟨fun z => ⟨z.1, by rw [chB_1 z.1 k0]; exact z.2⟩, fun z => ⟨z.1, by rw [← chB_1 z.1 k0]; exact z.2⟩⟩⟩
      · rw [if_neg h0]
        refine ⟨List.nodup_nil, fun s => ⟨fun z => absurd z (by simp), fun z => ?_⟩⟩
        have q := z.2
        rw [chB_1 z.1 k0] at q
        exact absurd ((trB_iff hN z.1).mp q).1 h0
    · rw [k0]
      have h := walk_wy hN (f := o.f) (la := o.s) (ho.wy k0).1
      refine ⟨h.1, fun s => (h.2 s).trans ⟨fun z => ⟨z.1, by rw [chB_2 z.1 k0]; exact z.2⟩, fun z => ⟨z.1, by rw [← chB_2 z.1 k0]; exact z.2⟩⟩⟩
    · rw [k0]
      have h := pair_pr hN (sd := o.f)
      refine ⟨h.1, fun s => (h.2 s).trans ⟨fun z => ⟨z.1, by rw [chB_3 z.1 k0]; exact z.2⟩, fun z => ⟨z.1, by rw [← chB_3 z.1 k0]; exact z.2⟩⟩⟩
  refine ins_ch key2.1 (fun s => (key2.2 s).trans ⟨fun z => ⟨by omega, z.2⟩, fun z => ⟨?_, z.2⟩⟩)
  refine Classical.byContradiction fun hc => ?_
  have q := z.2
  rw [chB_no hc] at q
  exact absurd q (by decide)
