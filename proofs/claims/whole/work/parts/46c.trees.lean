/-! trees: what grows is what hangs together by as many lines as things, less one -/
def grW (N : Nt) (s : Nat) : Nat → Nat → Nat
  | 0 => fun u => u
  | n + 1 => if s.testBit n = true then joinG (grW N s n) (N.fr n) (N.to n) else grW N s n
def jW (N : Nt) (s : Nat) : Nat → Nat
  | 0 => 0
  | n + 1 => jW N s n + (if s.testBit n = true ∧ grW N s n (N.fr n) ≠ grW N s n (N.to n) then 1 else 0)
theorem cntB_s (s n : Nat) : cntB s (n + 1) = cntB s n + (if s.testBit n = true then 1 else 0) := rfl
theorem jW_gap {N : Nt} {s n : Nat} : ∀ k, jW N s (n + k) + cntB s n ≤ cntB s (n + k) + jW N s n
  | 0 => by rw [Nat.add_zero]; omega
  | k + 1 => by
    have := jW_gap (N := N) (s := s) (n := n) k
    rw [show n + (k + 1) = n + k + 1 by omega, cntB_s]
    simp only [jW]
    by_cases c : s.testBit (n + k) = true
    · rw [if_pos c]; split <;> omega
    · rw [if_neg c, if_neg (fun z => c z.1)]; omega
theorem cntB_gap {s n : Nat} : ∀ k, cntB s n ≤ cntB s (n + k) ∧ cntB s (n + k) ≤ cntB s n + k
  | 0 => ⟨Nat.le_refl _, Nat.le_refl _⟩
  | k + 1 => by
    have := cntB_gap (s := s) (n := n) k
    rw [show n + (k + 1) = n + k + 1 by omega, cntB_s]
    split <;> omega
theorem cntB_eq {s n : Nat} : ∀ k, cntB s (n + k) = cntB s n → ∀ i, n ≤ i → i < n + k → s.testBit i = false
  | 0, _, i, h1, h2 => absurd h2 (by omega)
  | k + 1, h, i, h1, h2 => by
    have := cntB_gap (s := s) (n := n) k
    rw [show n + (k + 1) = n + k + 1 by omega, cntB_s] at h
    by_cases c : s.testBit (n + k) = true
    · rw [if_pos c] at h; omega
    · rw [if_neg c] at h
      by_cases e : i = n + k
      · rw [e]; exact Bool.not_eq_true _ ▸ c
      · exact cntB_eq k (by omega) i h1 (by omega)
theorem cntB_none {s n : Nat} : ∀ k, (∀ i, n ≤ i → i < n + k → s.testBit i = false) → cntB s (n + k) = cntB s n
  | 0, _ => rfl
  | k + 1, h => by
    have := cntB_none k (fun i h1 h2 => h i h1 (by omega))
    rw [show n + (k + 1) = n + k + 1 by omega, cntB_s, h (n + k) (by omega) (by omega), if_neg (by decide), this, Nat.add_zero]
theorem cntB_congr {s s' : Nat} : ∀ n, (∀ i, i < n → s.testBit i = s'.testBit i) → cntB s n = cntB s' n
  | 0, _ => rfl
  | n + 1, h => by rw [cntB_s, cntB_s, cntB_congr n (fun i hi => h i (by omega)), h n (by omega)]
theorem grW_congr {N : Nt} {s s' : Nat} : ∀ n, (∀ i, i < n → s.testBit i = s'.testBit i) → grW N s n = grW N s' n
  | 0, _ => rfl
  | n + 1, h => by simp only [grW]; rw [grW_congr n (fun i hi => h i (by omega)), h n (by omega)]
theorem jW_congr {N : Nt} {s s' : Nat} : ∀ n, (∀ i, i < n → s.testBit i = s'.testBit i) → jW N s n = jW N s' n
  | 0, _ => rfl
  | n + 1, h => by simp only [jW]; rw [jW_congr n (fun i hi => h i (by omega)), grW_congr n (fun i hi => h i (by omega)), h n (by omega)]
theorem jW_none {N : Nt} {s n : Nat} : ∀ k, (∀ i, n ≤ i → i < n + k → s.testBit i = false) → jW N s (n + k) = jW N s n
  | 0, _ => rfl
  | k + 1, h => by
    have := jW_none (N := N) k (fun i h1 h2 => h i h1 (by omega))
    rw [show n + (k + 1) = n + k + 1 by omega]
    simp only [jW]
    rw [h (n + k) (by omega) (by omega), if_neg (fun z => absurd z.1 (by decide)), this, Nat.add_zero]
/-! groups and their heads -/
def GOK (gr : Nat → Nat) (T : Nat) : Prop := ∀ u, u < T → gr u < T ∧ gr (gr u) = gr u
theorem joinG_y {gr : Nat → Nat} {f t u : Nat} (c : gr u = gr t) : joinG gr f t u = gr f := if_pos c
theorem joinG_n {gr : Nat → Nat} {f t u : Nat} (c : ¬ gr u = gr t) : joinG gr f t u = gr u := if_neg c
theorem GOK.join {gr : Nat → Nat} {T f t : Nat} (h : GOK gr T) (hf : f < T) : GOK (joinG gr f t) T := by
  intro u hu
  have g1 := h u hu
  have g2 := h f hf
  by_cases c : gr u = gr t
  · rw [joinG_y c]
    refine ⟨g2.1, ?_⟩
    by_cases c2 : gr (gr f) = gr t
    · exact joinG_y c2
    · exact (joinG_n c2).trans g2.2
  · rw [joinG_n c]
    exact ⟨g1.1, (joinG_n (by rw [g1.2]; exact c)).trans g1.2⟩
theorem joinG_same {gr : Nat → Nat} {f t : Nat} (h : gr f = gr t) : joinG gr f t = gr := by
  funext u
  unfold joinG
  split
  · next e => rw [h, e]
  · rfl
def cR (gr : Nat → Nat) : Nat → Nat
  | 0 => 0
  | n + 1 => cR gr n + (if gr n = n then 1 else 0)
theorem cR_join {gr : Nat → Nat} {T f t : Nat} (h : GOK gr T) (hf : f < T) (ht : t < T) (hne : gr f ≠ gr t) : ∀ n, n ≤ T → cR gr n = cR (joinG gr f t) n + (if gr t < n then 1 else 0)
  | 0, _ => by simp [cR]
  | n + 1, hn => by
    have ih := cR_join h hf ht hne n (by omega)
    have g1 := h n (by omega)
    have g2 := h f hf
    have g3 := h t ht
    simp only [cR]
    rw [ih]
    by_cases e : n = gr t
    · have e1 : gr n = n := by rw [e]; exact g3.2
      have e2 : joinG gr f t n = gr f := by unfold joinG; rw [if_pos (by rw [e1]; exact e)]
      rw [if_pos e1, e2, if_neg (by omega), if_neg (by omega), if_pos (by omega)]
    · have key : (joinG gr f t n = n) ↔ (gr n = n) := by
        unfold joinG
        by_cases c : gr n = gr t
        · rw [if_pos c]
          constructor
          · intro z; rw [z] at g2; exact g2.2
          · intro z; omega
        · rw [if_neg c]
      by_cases c : gr n = n
      · rw [if_pos c, if_pos (key.mpr c)]
        by_cases l : gr t < n
        · rw [if_pos l, if_pos (by omega)]
        · rw [if_neg l, if_neg (by omega)]
      · rw [if_neg c, if_neg (fun z => c (key.mp z))]
        by_cases l : gr t < n
        · rw [if_pos l, if_pos (by omega)]
        · rw [if_neg l, if_neg (by omega)]
theorem cR_id : ∀ n, cR (fun u => u) n = n
  | 0 => rfl
  | n + 1 => by
    show cR (fun u => u) n + (if n = n then 1 else 0) = n + 1
    rw [cR_id n, if_pos rfl]
theorem cR_ge1 {gr : Nat → Nat} {x : Nat} (hx : gr x = x) : ∀ n, x < n → 1 ≤ cR gr n
  | 0, h => absurd h (Nat.not_lt_zero x)
  | n + 1, h => by
    simp only [cR]
    by_cases e : x = n
    · subst e; rw [if_pos hx]; omega
    · have := cR_ge1 hx n (by omega)
      omega
theorem cR_ge2 {gr : Nat → Nat} {x y : Nat} (hx : gr x = x) (hy : gr y = y) (hxy : x < y) : ∀ n, y < n → 2 ≤ cR gr n
  | 0, h => absurd h (Nat.not_lt_zero y)
  | n + 1, h => by
    simp only [cR]
    by_cases e : y = n
    · subst e
      have := cR_ge1 hx y hxy
      rw [if_pos hy]; omega
    · have := cR_ge2 hx hy hxy n (by omega)
      omega
theorem cR_one {gr : Nat → Nat} {T : Nat} (h : GOK gr T) (h0 : 0 < T) : (∀ u, u < T → gr u = gr 0) ↔ cR gr T = 1 := by
  have g0 := h 0 h0
  constructor
  · intro a
    have key : ∀ n, n ≤ T → cR gr n = if gr 0 < n then 1 else 0 := by
      intro n
      induction n with
      | zero => intro _; simp [cR]
      | succ n ih =>
        intro hn
        simp only [cR]
        rw [ih (by omega), a n (by omega)]
        by_cases c : gr 0 = n
        · rw [if_pos c, if_neg (by omega), if_pos (by omega)]
        · rw [if_neg c]
          by_cases l : gr 0 < n
          · rw [if_pos l, if_pos (by omega)]
          · rw [if_neg l, if_neg (by omega)]
    rw [key T (Nat.le_refl _), if_pos g0.1]
  · intro e u hu
    have gu := h u hu
    rcases Nat.lt_trichotomy (gr u) (gr 0) with z | z | z
    · have := cR_ge2 gu.2 g0.2 z T g0.1
      omega
    · exact z
    · have := cR_ge2 g0.2 gu.2 z T gu.1
      omega
section
variable {N : Nt}
theorem grW_ok (hN : NetWf N) {s : Nat} : ∀ n, n ≤ N.L → GOK (grW N s n) N.T
  | 0, _ => fun u hu => ⟨hu, rfl⟩
  | n + 1, h => by
    have ih := grW_ok hN (s := s) n (by omega)
    have q := hN.2.2 n (by omega)
    simp only [grW]
    split
    · exact ih.join q.1
    · exact ih
theorem grW_cnt (hN : NetWf N) {s : Nat} : ∀ n, n ≤ N.L → cR (grW N s n) N.T + jW N s n = N.T
  | 0, _ => by simp only [grW, jW]; rw [cR_id]; rfl
  | n + 1, h => by
    have ih := grW_cnt hN (s := s) n (by omega)
    have ok := grW_ok hN (s := s) n (by omega)
    have q := hN.2.2 n (by omega)
    simp only [grW, jW]
    by_cases c : s.testBit n = true
    · rw [if_pos c]
      by_cases e : grW N s n (N.fr n) = grW N s n (N.to n)
      · rw [joinG_same e, if_neg (fun z => z.2 e)]; omega
      · have j := cR_join ok q.1 q.2.1 e N.T (Nat.le_refl _)
        rw [if_pos (ok _ q.2.1).1] at j
        rw [if_pos ⟨c, e⟩]; omega
    · rw [if_neg c, if_neg (fun z => c z.1)]; omega
/-- what is alike at both ends of every line is alike in a group -/
theorem grW_const {s : Nat} {Y : Nat → Bool} : ∀ n, (∀ l, l < n → s.testBit l = true → Y (N.fr l) = Y (N.to l)) → ∀ u v, grW N s n u = grW N s n v → Y u = Y v
  | 0, _, u, v, h => by
    have h' : u = v := h
    rw [h']
  | n + 1, hY, u, v, h => by
    have ih := grW_const n (fun l hl => hY l (by omega))
    simp only [grW] at h
    by_cases c : s.testBit n = true
    · rw [if_pos c] at h
      have e := hY n (by omega) c
      simp only [joinG] at h
      by_cases a1 : grW N s n u = grW N s n (N.to n)
      · rw [if_pos a1] at h
        by_cases a2 : grW N s n v = grW N s n (N.to n)
        · rw [ih u _ a1, ih v _ a2]
        · rw [if_neg a2] at h
          rw [ih u _ a1, ← e, ih _ v h]
      · rw [if_neg a1] at h
        by_cases a2 : grW N s n v = grW N s n (N.to n)
        · rw [if_pos a2] at h
          rw [ih v _ a2, ← e, ih u _ h]
        · rw [if_neg a2] at h
          exact ih u v h
    · rw [if_neg c] at h
      exact ih u v h
theorem grW_keep {s u v : Nat} {n : Nat} (h : grW N s n u = grW N s n v) : ∀ k, grW N s (n + k) u = grW N s (n + k) v
  | 0 => h
  | k + 1 => by
    have ih := grW_keep h k
    rw [show n + (k + 1) = n + k + 1 by omega]
    simp only [grW]
    split
    · simp only [joinG]; rw [ih]
    · exact ih
theorem grW_line {s l n : Nat} (hl : l < n) (hs : s.testBit l = true) : grW N s n (N.fr l) = grW N s n (N.to l) := by
  have e : grW N s (l + 1) (N.fr l) = grW N s (l + 1) (N.to l) := by
    simp only [grW]
    rw [if_pos hs]
    simp only [joinG]
    rw [if_pos trivial]
    split <;> rfl
  have := grW_keep e (n - (l + 1))
  rwa [show l + 1 + (n - (l + 1)) = n by omega] at this
theorem Cl_eq {fr to : Nat → Nat} {s L : Nat} {Y : Nat → Bool} : Cl fr to s true L Y ↔ ∀ l, l < L → s.testBit l = true → Y (fr l) = Y (to l) := by
  unfold Cl
  constructor
  · intro h l hl hs
    have q := h l hl hs
    cases a : Y (fr l) with
    | true => exact (q.1 a).symm
    | false =>
      cases b : Y (to l) with
      | false => rfl
      | true => rw [q.2 rfl b] at a; exact absurd a (by decide)
  · intro h l hl hs
    have q := h l hl hs
    exact ⟨fun z => by rw [← q]; exact z, fun _ z => by rw [q]; exact z⟩
theorem hwN (hN : NetWf N) : ∀ l, l < N.L → N.fr l < N.T ∧ N.to l < N.T := fun l hl => ⟨(hN.2.2 l hl).1, (hN.2.2 l hl).2.1⟩
/-- what the reference reaches -/
theorem rea_full (hN : NetWf N) {s t : Nat} {bo : Bool} (ht : t < N.T) : Cl N.fr N.to s bo N.L (reaM N.fr N.to s bo N.L (2 ^ t) 7).testBit ∧ (reaM N.fr N.to s bo N.L (2 ^ t) 7).testBit t = true ∧ reaM N.fr N.to s bo N.L (2 ^ t) 7 < 2 ^ N.T ∧ ∀ Y, Cl N.fr N.to s bo N.L Y → Y t = true → sub (reaM N.fr N.to s bo N.L (2 ^ t) 7) Y := by
  have hT := hN.1
  rw [reaM_itr]
  exact (rndM_R (hwN hN)).full ht (by omega)
theorem rea_all (hN : NetWf N) {s : Nat} (h0 : 0 < N.T) : reaM N.fr N.to s true N.L 1 7 = 2 ^ N.T - 1 ↔ ∀ u, u < N.T → grW N s N.L u = grW N s N.L 0 := by
  obtain ⟨c, t0, lt, mn⟩ := rea_full hN (s := s) (bo := true) h0
  rw [show (2 : Nat) ^ 0 = 1 from rfl] at c t0 lt mn
  constructor
  · intro e u hu
    have hY : Cl N.fr N.to s true N.L (fun v => decide (grW N s N.L v = grW N s N.L 0)) := by
      rw [Cl_eq]
      intro l hl hs
      rw [grW_line hl hs]
    have q := mn _ hY (decide_eq_true rfl) u (by rw [e, Nat.testBit_two_pow_sub_one]; exact decide_eq_true hu)
    exact of_decide_eq_true q
  · intro h
    apply Nat.eq_of_testBit_eq
    intro i
    rw [Nat.testBit_two_pow_sub_one]
    by_cases hi : i < N.T
    · rw [decide_eq_true hi, grW_const (N := N) (s := s) N.L (Cl_eq.mp c) i 0 (h i hi)]; exact t0
    · rw [decide_eq_false hi]; exact hi_false lt (by omega)
theorem trB_iff (hN : NetWf N) {s : Nat} (hs : s < 2 ^ N.L) : trB N.fr N.to N.T N.L s = true ↔ 0 < N.T ∧ cntB s N.L = N.T - 1 ∧ jW N s N.L = N.T - 1 := by
  have hL := hN.2.1
  have e : cntB s 31 = cntB s N.L := by
    have := cntB_none (s := s) (n := N.L) (31 - N.L) (fun i h1 _ => hi_false hs h1)
    rwa [show N.L + (31 - N.L) = 31 by omega] at this
  unfold trB
  rw [e]
  simp only [Bool.and_eq_true, decide_eq_true_eq]
  constructor
  · rintro ⟨⟨h1, h2⟩, h3⟩
    have h4 := (cR_one (grW_ok hN (s := s) N.L (Nat.le_refl _)) h1).mp ((rea_all hN h1).mp h3)
    have h5 := grW_cnt hN (s := s) N.L (Nat.le_refl _)
    exact ⟨h1, h2, by omega⟩
  · rintro ⟨h1, h2, h3⟩
    have h5 := grW_cnt hN (s := s) N.L (Nat.le_refl _)
    exact ⟨⟨h1, h2⟩, (rea_all hN h1).mpr ((cR_one (grW_ok hN (s := s) N.L (Nat.le_refl _)) h1).mpr (by omega))⟩
theorem or_bit {c l i : Nat} : (c ||| 2 ^ l).testBit i = (c.testBit i || decide (l = i)) := by rw [Nat.testBit_or, Nat.testBit_two_pow]
theorem bits_eq {x y n : Nat} (hx : x < 2 ^ n) (hy : y < 2 ^ n) (h : ∀ i, i < n → x.testBit i = y.testBit i) : x = y := by
  apply Nat.eq_of_testBit_eq
  intro i
  by_cases hi : i < n
  · exact h i hi
  · rw [hi_false hx (by omega), hi_false hy (by omega)]
theorem growL_ok (hN : NetWf N) : ∀ k ln ch ms, ln + k = N.L → ch < 2 ^ ln → (growL N k ln ch ms (grW N ch ln)).Nodup ∧ ∀ s, s ∈ growL N k ln ch ms (grW N ch ln) ↔ s < 2 ^ N.L ∧ (∀ i, i < ln → s.testBit i = ch.testBit i) ∧ cntB s N.L = cntB ch ln + ms ∧ jW N s N.L = jW N ch ln + ms := by
  intro k
  -- no line is wanted any more
  have done : ∀ k ln ch, ln + k = N.L → ch < 2 ^ ln → ∀ s, s = ch ↔ s < 2 ^ N.L ∧ (∀ i, i < ln → s.testBit i = ch.testBit i) ∧ cntB s N.L = cntB ch ln + 0 ∧ jW N s N.L = jW N ch ln + 0 := by
    intro k ln ch hk hc s
    have hp : 2 ^ ln ≤ 2 ^ N.L := Nat.pow_le_pow_right (by decide) (by omega)
    constructor
    · rintro rfl
      have f : ∀ i, ln ≤ i → i < ln + k → s.testBit i = false := fun i h1 _ => hi_false hc h1
      refine ⟨by omega, fun _ _ => rfl, ?_, ?_⟩
      · rw [← hk, cntB_none k f]; rfl
      · rw [← hk, jW_none k f]; rfl
    · rintro ⟨h1, h2, h3, h4⟩
      refine bits_eq h1 (show ch < 2 ^ N.L by omega) (fun i hi => ?_)
      by_cases c : i < ln
      · exact h2 i c
      · have e : cntB s (ln + k) = cntB s ln := by rw [hk, h3, cntB_congr ln h2]; rfl
        rw [cntB_eq k e i (by omega) (by omega), hi_false hc (by omega)]
  induction k with
  | zero =>
    intro ln ch ms hk hc
    simp only [growL]
    by_cases hm : ms = 0
    · subst hm
      rw [if_pos rfl]
      refine ⟨List.nodup_cons.mpr ⟨by simp, List.nodup_nil⟩, fun s => ?_⟩
      rw [List.mem_singleton]
      exact done 0 ln ch hk hc s
    · rw [if_neg hm]
      refine ⟨List.nodup_nil, fun s => ⟨fun z => absurd z (by simp), ?_⟩⟩
      rintro ⟨h1, h2, h3, -⟩
      rw [show N.L = ln by omega, cntB_congr ln h2] at h3
      omega
  | succ k ih =>
    intro ln ch ms hk hc
    by_cases hm : ms = 0
    · subst hm
      rw [growL_0]
      refine ⟨List.nodup_cons.mpr ⟨by simp, List.nodup_nil⟩, fun s => ?_⟩
      rw [List.mem_singleton]
      exact done (k + 1) ln ch hk hc s
    · by_cases hl : N.L < ln + ms
      · rw [growL_n hm hl]
        refine ⟨List.nodup_nil, fun s => ⟨fun z => absurd z (by simp), ?_⟩⟩
        rintro ⟨h1, h2, h3, -⟩
        have g := cntB_gap (s := s) (n := ln) (k + 1)
        rw [hk, cntB_congr ln h2] at g
        omega
      · have cb : ch.testBit ln = false := hi_false hc (Nat.le_refl _)
        have gB : grW N ch (ln + 1) = grW N ch ln := by simp only [grW]; rw [cb, if_neg (by decide)]
        have c1 : (ch ||| 2 ^ ln).testBit ln = true := by rw [or_bit, decide_eq_true rfl, Bool.or_true]
        have c2 : ∀ i, i < ln → (ch ||| 2 ^ ln).testBit i = ch.testBit i := fun i hi => by rw [or_bit, decide_eq_false (by omega), Bool.or_false]
        have gA : grW N (ch ||| 2 ^ ln) (ln + 1) = joinG (grW N ch ln) (N.fr ln) (N.to ln) := by
          simp only [grW]; rw [c1, if_pos rfl, grW_congr ln c2]
        have p1 : ch < 2 ^ (ln + 1) := Nat.lt_trans hc (Nat.pow_lt_pow_right (by decide) (by omega))
        have p2 : ch ||| 2 ^ ln < 2 ^ (ln + 1) := Nat.or_lt_two_pow p1 (Nat.pow_lt_pow_right (by decide) (by omega))
        have hB := ih (ln + 1) ch ms (by omega) p1
        have hA := ih (ln + 1) (ch ||| 2 ^ ln) (ms - 1) (by omega) p2
        rw [gB] at hB
        rw [gA] at hA
        have kB : cntB ch (ln + 1) = cntB ch ln := by rw [cntB_s, cb, if_neg (by decide)]; rfl
        have jB : jW N ch (ln + 1) = jW N ch ln := by simp only [jW]; rw [cb, if_neg (fun z => absurd z.1 (by decide))]; rfl
        have kA : cntB (ch ||| 2 ^ ln) (ln + 1) = cntB ch ln + 1 := by rw [cntB_s, c1, if_pos rfl, cntB_congr ln c2]
        rw [growL_s hm hl]
        -- those without the line
        have inB : ∀ s, s ∈ growL N k (ln + 1) ch ms (grW N ch ln) ↔ s.testBit ln = false ∧ s < 2 ^ N.L ∧ (∀ i, i < ln → s.testBit i = ch.testBit i) ∧ cntB s N.L = cntB ch ln + ms ∧ jW N s N.L = jW N ch ln + ms := by
          intro s
          rw [hB.2 s, kB, jB]
          constructor
          · rintro ⟨h1, h2, h3, h4⟩
            exact ⟨by rw [h2 ln (by omega)]; exact cb, h1, fun i hi => h2 i (by omega), h3, h4⟩
          · rintro ⟨h0, h1, h2, h3, h4⟩
            refine ⟨h1, fun i hi => ?_, h3, h4⟩
            by_cases e : i = ln
            · rw [e, h0, cb]
            · exact h2 i (by omega)
        by_cases hg : grW N ch ln (N.fr ln) = grW N ch ln (N.to ln)
        · rw [if_pos hg, List.nil_append]
          refine ⟨hB.1, fun s => ?_⟩
          rw [inB s]
          constructor
          · exact fun h => h.2
          · intro h
            refine ⟨?_, h⟩
            cases e : s.testBit ln with
            | false => rfl
            | true =>
              have a1 : cntB s (ln + 1) = cntB ch ln + 1 := by rw [cntB_s, e, if_pos rfl, cntB_congr ln h.2.1]
              have a2 : jW N s (ln + 1) = jW N ch ln := by
                simp only [jW]
                rw [grW_congr ln h.2.1, if_neg (fun z => z.2 hg), jW_congr ln h.2.1]; rfl
              have a3 := jW_gap (N := N) (s := s) (n := ln + 1) k
              rw [show ln + 1 + k = N.L by omega] at a3
              omega
        · rw [if_neg hg]
          have jA : jW N (ch ||| 2 ^ ln) (ln + 1) = jW N ch ln + 1 := by
            simp only [jW]
            rw [grW_congr ln c2, jW_congr ln c2, if_pos ⟨c1, hg⟩]
          have inA : ∀ s, s ∈ growL N k (ln + 1) (ch ||| 2 ^ ln) (ms - 1) (joinG (grW N ch ln) (N.fr ln) (N.to ln)) ↔ s.testBit ln = true ∧ s < 2 ^ N.L ∧ (∀ i, i < ln → s.testBit i = ch.testBit i) ∧ cntB s N.L = cntB ch ln + ms ∧ jW N s N.L = jW N ch ln + ms := by
            intro s
            rw [hA.2 s, kA, jA]
            constructor
            · rintro ⟨h1, h2, h3, h4⟩
              exact ⟨by rw [h2 ln (by omega)]; exact c1, h1, fun i hi => by rw [h2 i (by omega)]; exact c2 i hi, by omega, by omega⟩
            · rintro ⟨h0, h1, h2, h3, h4⟩
              refine ⟨h1, fun i hi => ?_, by omega, by omega⟩
              by_cases e : i = ln
              · rw [e, h0, c1]
              · rw [c2 i (by omega)]; exact h2 i (by omega)
          refine ⟨List.pairwise_append.mpr ⟨hA.1, hB.1, fun x hx y hy e => ?_⟩, fun s => ?_⟩
          · have q1 := ((inA x).mp hx).1
            have q2 := ((inB y).mp hy).1
            rw [e, q2] at q1
            exact absurd q1 (by decide)
          · rw [List.mem_append, inA s, inB s]
            constructor
            · rintro (h | h) <;> exact h.2
            · intro h
              cases e : s.testBit ln with
              | true => exact Or.inl ⟨rfl, h⟩
              | false => exact Or.inr ⟨rfl, h⟩
theorem grow_tr (hN : NetWf N) (h0 : 0 < N.T) : (growL N N.L 0 0 (N.T - 1) (fun u => u)).Nodup ∧ ∀ s, s ∈ growL N N.L 0 0 (N.T - 1) (fun u => u) ↔ s < 2 ^ N.L ∧ trB N.fr N.to N.T N.L s = true := by
  have h := growL_ok hN N.L 0 0 (N.T - 1) (by omega) (by decide)
  refine ⟨h.1, fun s => (h.2 s).trans ?_⟩
  constructor
  · rintro ⟨h1, -, h3, h4⟩
    exact ⟨h1, (trB_iff hN h1).mpr ⟨h0, by rw [h3]; exact Nat.zero_add _, by rw [h4]; exact Nat.zero_add _⟩⟩
  · rintro ⟨h1, h2⟩
    obtain ⟨-, h3, h4⟩ := (trB_iff hN h1).mp h2
    exact ⟨h1, fun i hi => absurd hi (Nat.not_lt_zero i), by rw [h3]; exact (Nat.zero_add _).symm, by rw [h4]; exact (Nat.zero_add _).symm⟩
theorem less_bit {s o i : Nat} : (less s o).testBit i = (s.testBit i && !decide (o = i)) := by
  unfold less
  rw [Nat.testBit_xor, Nat.testBit_and, Nat.testBit_two_pow]
  cases s.testBit i <;> cases decide (o = i) <;> rfl
/-- a line of a tree parts it -/
theorem tr_less (hN : NetWf N) {s n : Nat} (hs : s < 2 ^ N.L) (h0 : 0 < N.T) (hc : cntB s N.L = N.T - 1) (hn : n < N.L) (hb : s.testBit n = true) (hr : ∀ u, u < N.T → grW N s N.L u = grW N s N.L 0) {Z : Nat → Bool} : ¬ ∀ Y : Nat → Bool, Cl N.fr N.to (less s n) true N.L Y → Y (N.fr n) = Y (N.to n) := by
  intro hY
  obtain ⟨c, t0, lt, mn⟩ := rea_full hN (s := less s n) (bo := true) h0
  have e := hY _ c
  have cs : Cl N.fr N.to s true N.L (reaM N.fr N.to (less s n) true N.L (2 ^ 0) 7).testBit := by
    rw [Cl_eq] at c ⊢
    intro l hl hsl
    by_cases z : n = l
    · rw [← z]; exact e
    · exact c l hl (by rw [less_bit, hsl, decide_eq_false z]; rfl)
  have all : ∀ u, u < N.T → grW N (less s n) N.L u = grW N (less s n) N.L 0 := by
    refine (rea_all hN h0).mp ?_
    apply Nat.eq_of_testBit_eq
    intro i
    rw [show (1 : Nat) = 2 ^ 0 from rfl, Nat.testBit_two_pow_sub_one]
    by_cases hi : i < N.T
    · rw [decide_eq_true hi, grW_const (N := N) (s := s) N.L (Cl_eq.mp cs) i 0 (hr i hi)]; exact t0
    · rw [decide_eq_false hi]; exact hi_false lt (by omega)
  have h1 := (cR_one (grW_ok hN (s := less s n) N.L (Nat.le_refl _)) h0).mp all
  have h2 := grW_cnt hN (s := less s n) N.L (Nat.le_refl _)
  have h3 := jW_gap (N := N) (s := less s n) (n := 0) N.L
  rw [Nat.zero_add] at h3
  have h4 : ∀ m, cntB (less s n) m + (if n < m then 1 else 0) = cntB s m := by
    intro m
    induction m with
    | zero => simp [cntB]
    | succ m ih =>
      rw [cntB_s, cntB_s, less_bit]
      by_cases z : n = m
      · subst z
        rw [decide_eq_true rfl, hb, if_pos rfl, if_neg (by decide), if_pos (by omega)]
        rw [if_neg (by omega)] at ih
        omega
      · rw [decide_eq_false z, show (s.testBit m && !false) = s.testBit m by simp]
        generalize (if s.testBit m = true then 1 else 0) = y
        by_cases w : n < m
        · rw [if_pos w] at ih
          rw [if_pos (show n < m + 1 by omega)]
          omega
        · rw [if_neg w] at ih
          rw [if_neg (show ¬ n < m + 1 by omega)]
          omega
  have h5 := h4 N.L
  rw [if_pos hn] at h5
  have h6 : jW N (less s n) 0 = 0 := rfl
  have h7 : cntB (less s n) 0 = 0 := rfl
  omega
theorem TrP_ok (hN : NetWf N) : TrP N := by
  intro s l _ hl htr hsl
  have hs : s < 2 ^ N.L ∨ ¬ s < 2 ^ N.L := Classical.em _
  -- lines above the net's are of no matter: take the set within
  obtain ⟨s', hs', hbit⟩ : ∃ s', s' < 2 ^ N.L ∧ ∀ i, i < N.L → s'.testBit i = s.testBit i := ⟨s % 2 ^ N.L, Nat.mod_lt _ (Nat.two_pow_pos _), fun i hi => by rw [Nat.testBit_mod_two_pow, decide_eq_true hi, Bool.true_and]⟩
  have q := hN.2.2 l hl
  have hL := hN.2.1
  unfold trB at htr
  simp only [Bool.and_eq_true, decide_eq_true_eq] at htr
  obtain ⟨⟨h0, hc⟩, hr⟩ := htr
  have hr2 := (rea_all hN h0).mp hr
  have e2 : grW N s' N.L = grW N s N.L := grW_congr N.L hbit
  have hr3 : ∀ u, u < N.T → grW N s' N.L u = grW N s' N.L 0 := fun u hu => by rw [e2]; exact hr2 u hu
  have hcl : cntB s' N.L = N.T - 1 := by
    have a1 := (cR_one (grW_ok hN (s := s') N.L (Nat.le_refl _)) h0).mp hr3
    have a2 := grW_cnt hN (s := s') N.L (Nat.le_refl _)
    have a3 := jW_gap (N := N) (s := s') (n := 0) N.L
    have a4 := cntB_gap (s := s) (n := N.L) (31 - N.L)
    rw [show N.L + (31 - N.L) = 31 by omega, hc, ← cntB_congr N.L hbit] at a4
    rw [Nat.zero_add] at a3
    have a5 : jW N s' 0 = 0 := rfl
    have a6 : cntB s' 0 = 0 := rfl
    omega
  -- the line by which the two things come together
  have ex : ∀ m, m ≤ N.L → grW N s' m (N.fr l) = grW N s' m (N.to l) → ∃ n, n < m ∧ grW N s' n (N.fr l) ≠ grW N s' n (N.to l) ∧ grW N s' (n + 1) (N.fr l) = grW N s' (n + 1) (N.to l) := by
    intro m
    induction m with
    | zero => intro _ h; exact absurd h q.2.2.1
    | succ m ih =>
      intro hm h
      by_cases e : grW N s' m (N.fr l) = grW N s' m (N.to l)
      · obtain ⟨n, n1, n2⟩ := ih (by omega) e
        exact ⟨n, by omega, n2⟩
      · exact ⟨m, by omega, e, h⟩
  obtain ⟨n, n1, n2, n3⟩ := ex N.L (Nat.le_refl _) (by rw [hr3 _ q.1, hr3 _ q.2.1])
  have hbn : s'.testBit n = true := by
    cases z : s'.testBit n with
    | true => rfl
    | false => simp only [grW] at n3; rw [z, if_neg (by decide)] at n3; exact absurd n3 n2
  refine ⟨n, n1, by rw [← hbit n n1]; exact hbn, ?_⟩
  unfold btwM
  rw [Bool.not_eq_true']
  cases hw : (reaM N.fr N.to (less s n) true N.L (2 ^ N.fr l) 7).testBit (N.to l) with
  | false => rfl
  | true =>
    exfalso
    refine tr_less hN hs' h0 hcl n1 hbn hr3 (Z := fun _ => true) (fun Y hY => ?_)
    obtain ⟨-, -, -, mn⟩ := rea_full hN (s := less s n) (bo := true) q.1
    have cl2 : ∀ Y, Cl N.fr N.to (less s' n) true N.L Y → Cl N.fr N.to (less s n) true N.L Y := by
      intro Y h
      rw [Cl_eq] at h ⊢
      intro i hi hb
      exact h i hi (by rw [less_bit, hbit i hi, ← less_bit]; exact hb)
    -- the two ends of the other line are alike
    have ab : Y (N.fr l) = Y (N.to l) := by
      cases y1 : Y (N.fr l) with
      | true => exact (mn Y (cl2 Y hY) y1 _ hw).symm
      | false =>
        cases y2 : Y (N.to l) with
        | false => rfl
        | true =>
          have hn' : Cl N.fr N.to (less s' n) true N.L (fun i => !Y i) := by
            rw [Cl_eq] at hY ⊢
            intro i hi hb
            show (!Y _) = (!Y _)
            rw [hY i hi hb]
          have := mn _ (cl2 _ hn') (by show (!Y _) = true; rw [y1]; rfl) _ hw
          dsimp only at this
          rw [y2] at this
          exact absurd this (by decide)
    -- and so are those of this one
    have low : ∀ u v, grW N s' n u = grW N s' n v → Y u = Y v := by
      refine grW_const (N := N) (s := s') n (fun i hi hb => ?_)
      exact (Cl_eq.mp hY) i (by omega) (by rw [less_bit, hb, decide_eq_false (by omega)]; rfl)
    simp only [grW] at n3
    rw [if_pos hbn] at n3
    simp only [joinG] at n3
    by_cases a1 : grW N s' n (N.fr l) = grW N s' n (N.to n)
    · rw [if_pos a1] at n3
      by_cases a2 : grW N s' n (N.to l) = grW N s' n (N.to n)
      · exact absurd (a1.trans a2.symm) n2
      · rw [if_neg a2] at n3
        rw [low _ _ n3, ← ab, low _ _ a1]
    · rw [if_neg a1] at n3
      by_cases a2 : grW N s' n (N.to l) = grW N s' n (N.to n)
      · rw [if_pos a2] at n3
        rw [← low _ _ n3, ab, low _ _ a2]
      · rw [if_neg a2] at n3
        exact absurd n3 n2
end
