/-! the order of the sets; lists in that order -/
def key : Nat → Nat → Nat
  | 0, _ => 0
  | n + 1, s => (if s % 2 = 1 then 0 else 2 ^ n) + key n (s / 2)
theorem key_lt : ∀ n s, key n s < 2 ^ n
  | 0, s => by simp [key]
  | n + 1, s => by
    have := key_lt n (s / 2)
    rw [Nat.pow_succ]
    simp only [key]
    split <;> omega
theorem key_inj : ∀ n s t, s < 2 ^ n → t < 2 ^ n → key n s = key n t → s = t
  | 0, s, t, hs, ht, _ => by rw [Nat.pow_zero] at hs ht; omega
  | n + 1, s, t, hs, ht, h => by
    rw [Nat.pow_succ] at hs ht
    have h1 := key_lt n (s / 2)
    have h2 := key_lt n (t / 2)
    have h3 := key_inj n (s / 2) (t / 2) (by omega) (by omega)
    simp only [key] at h
    split at h <;> split at h <;> first | omega | (have := h3 (by omega); omega)
/-- the lowest unlike line is of the first set -/
def bef (s t : Nat) : Prop := ∃ i, s.testBit i = true ∧ t.testBit i = false ∧ ∀ j, j < i → s.testBit j = t.testBit j
theorem bef.step {s t : Nat} (e : s % 2 = 1 ↔ t % 2 = 1) (h : bef (s / 2) (t / 2)) : bef s t := by
  obtain ⟨i, x1, x2, x3⟩ := h
  refine ⟨i + 1, by rw [Nat.testBit_succ]; exact x1, by rw [Nat.testBit_succ]; exact x2, fun j hj => ?_⟩
  cases j with
  | zero => rw [Nat.testBit_zero, Nat.testBit_zero]; exact decide_eq_decide.mpr e
  | succ j => rw [Nat.testBit_succ, Nat.testBit_succ]; exact x3 j (by omega)
theorem key_bef : ∀ n s t, s < 2 ^ n → t < 2 ^ n → (key n s < key n t ↔ bef s t)
  | 0, s, t, hs, ht => by
    rw [Nat.pow_zero] at hs ht
    obtain rfl : s = 0 := by omega
    constructor
    · intro h; simp [key] at h
    · rintro ⟨i, x1, -⟩; simp at x1
  | n + 1, s, t, hs, ht => by
    rw [Nat.pow_succ] at hs ht
    have ih := key_bef n (s / 2) (t / 2) (by omega) (by omega)
    have h1 := key_lt n (s / 2)
    have h2 := key_lt n (t / 2)
    constructor
    · intro h
      simp only [key] at h
      by_cases c1 : s % 2 = 1
      · by_cases c2 : t % 2 = 1
        · rw [if_pos c1, if_pos c2] at h
          exact bef.step ⟨fun _ => c2, fun _ => c1⟩ (ih.mp (by omega))
        · exact ⟨0, by rw [Nat.testBit_zero]; exact decide_eq_true c1, by rw [Nat.testBit_zero]; exact decide_eq_false c2, fun j hj => absurd hj (Nat.not_lt_zero _)⟩
      · by_cases c2 : t % 2 = 1
        · rw [if_neg c1, if_pos c2] at h; omega
        · rw [if_neg c1, if_neg c2] at h
          exact bef.step ⟨fun z => absurd z c1, fun z => absurd z c2⟩ (ih.mp (by omega))
    · rintro ⟨i, x1, x2, x3⟩
      cases i with
      | zero =>
        rw [Nat.testBit_zero] at x1 x2
        simp only [key]
        rw [if_pos (of_decide_eq_true x1), if_neg (of_decide_eq_false x2)]; omega
      | succ i =>
        have y := x3 0 (by omega)
        rw [Nat.testBit_zero, Nat.testBit_zero] at y
        have y2 := decide_eq_decide.mp y
        have z := ih.mpr ⟨i, by rw [← Nat.testBit_succ]; exact x1, by rw [← Nat.testBit_succ]; exact x2, fun j hj => by rw [← Nat.testBit_succ, ← Nat.testBit_succ]; exact x3 (j + 1) (by omega)⟩
        simp only [key]
        split <;> split <;> omega
theorem ahB_bef {s t : Nat} (hs : s < 4096) (ht : t < 4096) : ahB s t ≠ 0 ↔ bef s t := by
  have e : (ahB s t).toBitVec = (BitVec.ofNat 32 s &&& (BitVec.ofNat 32 s ^^^ BitVec.ofNat 32 t)) &&& -(BitVec.ofNat 32 s ^^^ BitVec.ofNat 32 t) := rfl
  have b : ∀ i, (ahB s t).toBitVec.getLsbD i = ((decide (i < 32) && s.testBit i) && ((decide (i < 32) && s.testBit i) ^^ (decide (i < 32) && t.testBit i)) && (((decide (i < 32) && s.testBit i) ^^ (decide (i < 32) && t.testBit i)) ^^ (decide (i < 32) && decide (∃ j, j < i ∧ (BitVec.ofNat 32 s ^^^ BitVec.ofNat 32 t).getLsbD j = true)))) := by
    intro i
    rw [e, BitVec.getLsbD_and, BitVec.getLsbD_and, BitVec.getLsbD_neg, BitVec.getLsbD_xor, BitVec.getLsbD_ofNat, BitVec.getLsbD_ofNat]
  have x : ∀ j, (BitVec.ofNat 32 s ^^^ BitVec.ofNat 32 t).getLsbD j = (decide (j < 32) && (s.testBit j ^^ t.testBit j)) := by
    intro j
    rw [BitVec.getLsbD_xor, BitVec.getLsbD_ofNat, BitVec.getLsbD_ofNat]
    cases decide (j < 32) <;> rfl
  constructor
  · intro h
    have hx : ∃ i, (ahB s t).toBitVec.getLsbD i = true := by
      refine Classical.byContradiction fun hn => h ?_
      apply Int32.toBitVec_inj.mp
      apply BitVec.eq_of_getLsbD_eq
      intro i _
      have h0 : (ahB s t).toBitVec.getLsbD i = false := by
        cases hb : (ahB s t).toBitVec.getLsbD i with
        | true => exact absurd ⟨i, hb⟩ hn
        | false => rfl
      rw [h0]
      exact (BitVec.getLsbD_zero (i := i) (w := 32)).symm
    obtain ⟨i, hi⟩ := hx
    rw [b] at hi
    have h1 : i < 32 := by
      by_cases z : i < 32
      · exact z
      · rw [decide_eq_false z] at hi; exact absurd hi (by simp)
    rw [decide_eq_true h1] at hi
    have h2 : s.testBit i = true := by
      cases z : s.testBit i with
      | true => rfl
      | false => rw [z] at hi; exact absurd hi (by simp)
    rw [h2] at hi
    have h3 : t.testBit i = false := by
      cases z : t.testBit i with
      | false => rfl
      | true => rw [z] at hi; exact absurd hi (by simp)
    rw [h3] at hi
    refine ⟨i, h2, h3, fun j hj => ?_⟩
    by_cases z : ∃ j, j < i ∧ (BitVec.ofNat 32 s ^^^ BitVec.ofNat 32 t).getLsbD j = true
    · rw [decide_eq_true z] at hi; exact absurd hi (by simp)
    · have z2 : ¬ (BitVec.ofNat 32 s ^^^ BitVec.ofNat 32 t).getLsbD j = true := fun y => z ⟨j, hj, y⟩
      rw [x, decide_eq_true (show j < 32 by omega)] at z2
      cases z3 : s.testBit j <;> cases z4 : t.testBit j <;> first | rfl | (rw [z3, z4] at z2; exact absurd rfl z2)
  · rintro ⟨i, h2, h3, hf⟩ h
    have h1 : i < 32 := by
      have := Nat.ge_two_pow_of_testBit h2
      by_cases z : i < 32
      · exact z
      · have : 2 ^ 32 ≤ 2 ^ i := Nat.pow_le_pow_right (by decide) (by omega)
        omega
    have hb := b i
    rw [h, h2, h3, decide_eq_true h1, decide_eq_false (show ¬ ∃ j, j < i ∧ (BitVec.ofNat 32 s ^^^ BitVec.ofNat 32 t).getLsbD j = true from ?_)] at hb
    · rw [show (0 : Int32).toBitVec = 0#32 from rfl, BitVec.getLsbD_zero] at hb
      exact absurd hb (by simp)
    · rintro ⟨j, hj, y⟩
      rw [x, hf j hj, decide_eq_true (show j < 32 by omega)] at y
      cases z4 : t.testBit j <;> (rw [z4] at y; exact absurd y (by simp))
theorem ahB_key {s t : Nat} (hs : s < 4096) (ht : t < 4096) : ahB s t = 0 ↔ key 12 t ≤ key 12 s := by
  have h := (ahB_bef hs ht).trans (key_bef 12 s t hs ht).symm
  constructor
  · intro z; exact Nat.le_of_not_lt fun y => h.mpr y z
  · intro z; exact Classical.byContradiction fun y => absurd (h.mp y) (by omega)
theorem key_ord0 : ∀ x, x < 64 → ∀ y, y < 64 → key 12 (ordM (64 * x + y) 12) = 64 * x + y := by decide +kernel
theorem key_ord {k : Nat} (h : k < 4096) : key 12 (ordM k 12) = k := by
  have := key_ord0 (k / 64) (by omega) (k % 64) (by omega)
  rwa [show 64 * (k / 64) + k % 64 = k by omega] at this
abbrev Srt (l : List Nat) : Prop := l.Pairwise (fun s t => key 12 s < key 12 t)
theorem chL_srt (N : Nt) (o : Of) : Srt (chL N o) := by
  refine List.Pairwise.filter _ (List.pairwise_map.mpr ?_)
  refine List.Pairwise.imp_of_mem (fun {u v} hu hv huv => ?_) (List.pairwise_lt_range (n := 4096))
  rw [key_ord (List.mem_range.mp hu), key_ord (List.mem_range.mp hv)]
  exact huv
theorem chL_mem {N : Nt} {o : Of} {s : Nat} : s ∈ chL N o ↔ s < 4096 ∧ chB N o s = true := by
  constructor
  · intro h; exact ⟨chL_lt h, (List.mem_filter.mp h).2⟩
  · rintro ⟨h1, h2⟩
    refine List.mem_filter.mpr ⟨List.mem_map.mpr ⟨key 12 s, List.mem_range.mpr (key_lt 12 s), ?_⟩, h2⟩
    exact key_inj 12 _ _ (ordM_lt _ 12 (by decide)) h1 (key_ord (key_lt 12 s))
theorem insK_spec {s : Nat} {l : List Nat} : ∀ k, (insK s l k = 0 ∨ ahB s (l.getD (insK s l k - 1) 0) = 0) ∧ ∀ j, insK s l k ≤ j → j < k → ahB s (l.getD j 0) ≠ 0
  | 0 => ⟨Or.inl rfl, fun j _ h => absurd h (Nat.not_lt_zero _)⟩
  | k + 1 => by
    have ih := insK_spec (s := s) (l := l) k
    by_cases e : ahB s (l.getD k 0) = 0
    · simp only [insK, if_pos e]
      exact ⟨Or.inr e, fun j h1 h2 => by omega⟩
    · simp only [insK, if_neg e]
      refine ⟨ih.1, fun j h1 h2 => ?_⟩
      by_cases z : j = k
      · rw [z]; exact e
      · exact ih.2 j h1 (by omega)
theorem gda {l : List Nat} {i : Nat} (h : i < l.length) : l.getD i 0 = l[i] := by simp [List.getD, h]
theorem mem_take_get {l : List Nat} {k u : Nat} (h : u ∈ l.take k) : ∃ i, i < k ∧ i < l.length ∧ l.getD i 0 = u := by
  obtain ⟨i, hi, e⟩ := List.mem_iff_getElem.mp h
  rw [List.length_take] at hi
  refine ⟨i, by omega, by omega, ?_⟩
  rw [List.getElem_take] at e
  rw [gda (by omega)]; exact e
theorem mem_drop_get {l : List Nat} {k u : Nat} (h : u ∈ l.drop k) : ∃ i, k ≤ i ∧ i < l.length ∧ l.getD i 0 = u := by
  obtain ⟨i, hi, e⟩ := List.mem_iff_getElem.mp h
  rw [List.length_drop] at hi
  refine ⟨k + i, by omega, by omega, ?_⟩
  rw [List.getElem_drop] at e
  rw [gda (by omega)]; exact e
theorem Srt.get {l : List Nat} (h : Srt l) {i j : Nat} (hij : i < j) (hj : j < l.length) : key 12 (l.getD i 0) < key 12 (l.getD j 0) := by
  rw [gda (by omega), gda hj]
  exact List.pairwise_iff_getElem.mp h i j (by omega) hj hij
theorem gdm {l : List Nat} {j : Nat} (hj : j < l.length) : l.getD j 0 ∈ l := by rw [gda hj]; exact List.getElem_mem hj
theorem insO_srt {l : List Nat} {s : Nat} (hl : Srt l) (hb : ∀ x, x ∈ l → x < 4096) (hs : s < 4096) (hn : s ∉ l) : Srt (insO s l) ∧ ∀ x, x ∈ insO s l ↔ x = s ∨ x ∈ l := by
  have hk := insK_le s l l.length
  have sp := insK_spec (s := s) (l := l) l.length
  constructor
  · unfold insO
    generalize insK s l l.length = k at *
    have e : Srt (l.take k ++ l.drop k) := by rw [List.take_append_drop]; exact hl
    obtain ⟨e1, e2, e3⟩ := List.pairwise_append.mp e
    refine List.pairwise_append.mpr ⟨e1, List.pairwise_cons.mpr ⟨fun y hy => ?_, e2⟩, fun u hu y hy => ?_⟩
    · obtain ⟨i, h1, h2, rfl⟩ := mem_drop_get hy
      have q := sp.2 i h1 h2
      have q2 := mt (ahB_key hs (hb _ (gdm h2))).mpr q
      omega
    · have q0 : key 12 u < key 12 s := by
        obtain ⟨i, h1, h2, rfl⟩ := mem_take_get hu
        have q := sp.1.resolve_left (by omega)
        have q2 := (ahB_key hs (hb _ (gdm (j := k - 1) (by omega)))).mp q
        have q3 : key 12 (l.getD (k - 1) 0) ≠ key 12 s := fun z => hn (by rw [← key_inj 12 _ _ (hb _ (gdm (by omega))) hs z]; exact gdm (by omega))
        by_cases e : i = k - 1
        · rw [e]; omega
        · have := hl.get (i := i) (j := k - 1) (by omega) (by omega)
          omega
      rcases List.mem_cons.mp hy with rfl | hy2
      · exact q0
      · exact e3 u hu y hy2
  · intro x
    unfold insO
    rw [List.mem_append, List.mem_cons]
    constructor
    · rintro (h | h | h)
      · exact Or.inr (List.mem_of_mem_take h)
      · exact Or.inl h
      · exact Or.inr (List.mem_of_mem_drop h)
    · rintro (h | h)
      · exact Or.inr (Or.inl h)
      · have h2 : x ∈ l.take (insK s l l.length) ++ l.drop (insK s l l.length) := by rw [List.take_append_drop]; exact h
        rcases List.mem_append.mp h2 with h3 | h3
        · exact Or.inl h3
        · exact Or.inr (Or.inr h3)
theorem insA_srt : ∀ (xs l : List Nat), Srt l → (∀ x, x ∈ l → x < 4096) → (∀ x, x ∈ xs → x < 4096) → xs.Nodup → (∀ x, x ∈ xs → x ∉ l) → Srt (insA l xs) ∧ ∀ x, x ∈ insA l xs ↔ x ∈ l ∨ x ∈ xs
  | [], l, h, _, _, _, _ => ⟨h, fun x => by simp [insA]⟩
  | s :: xs, l, h, h1, h2, h3, h4 => by
    have q := insO_srt h h1 (h2 s (List.mem_cons_self ..)) (h4 s (List.mem_cons_self ..))
    have n1 := List.nodup_cons.mp h3
    have ih := insA_srt xs (insO s l) q.1 (fun x hx => ?_) (fun x hx => h2 x (List.mem_cons_of_mem _ hx)) n1.2 (fun x hx hy => ?_)
    · refine ⟨ih.1, fun x => ?_⟩
      show x ∈ insA (insO s l) xs ↔ _
      rw [ih.2, q.2, List.mem_cons]
      constructor
      · rintro ((z | z) | z)
        · exact Or.inr (Or.inl z)
        · exact Or.inl z
        · exact Or.inr (Or.inr z)
      · rintro (z | z | z)
        · exact Or.inl (Or.inr z)
        · exact Or.inl (Or.inl z)
        · exact Or.inr z
    · rcases (q.2 x).mp hx with z | z
      · rw [z]; exact h2 s (List.mem_cons_self ..)
      · exact h1 x z
    · rcases (q.2 x).mp hy with z | z
      · rw [z] at hx; exact n1.1 hx
      · exact h4 x (List.mem_cons_of_mem _ hx) z
theorem srt_eq : ∀ {l m : List Nat}, Srt l → Srt m → (∀ x, x ∈ l ↔ x ∈ m) → l = m
  | [], [], _, _, _ => rfl
  | [], y :: m, _, _, h => absurd ((h y).mpr (List.mem_cons_self ..)) (by simp)
  | x :: l, [], _, _, h => absurd ((h x).mp (List.mem_cons_self ..)) (by simp)
  | x :: l, y :: m, h1, h2, h => by
    have a1 := List.pairwise_cons.mp h1
    have a2 := List.pairwise_cons.mp h2
    have e : x = y := by
      rcases List.mem_cons.mp ((h x).mp (List.mem_cons_self ..)) with z | z
      · exact z
      · rcases List.mem_cons.mp ((h y).mpr (List.mem_cons_self ..)) with w | w
        · exact w.symm
        · have b1 := a1.1 y w
          have b2 := a2.1 x z
          omega
    subst e
    congr 1
    refine srt_eq a1.2 a2.2 (fun u => ?_)
    have q := h u
    rw [List.mem_cons, List.mem_cons] at q
    constructor
    · intro z
      rcases q.mp (Or.inr z) with w | w
      · have b1 := a1.1 u z
        rw [w] at b1; omega
      · exact w
    · intro z
      rcases q.mpr (Or.inr z) with w | w
      · have b1 := a2.1 u z
        rw [w] at b1; omega
      · exact w
theorem ins_ch {N : Nt} {o : Of} {xs : List Nat} (h1 : xs.Nodup) (h2 : ∀ s, s ∈ xs ↔ s < 4096 ∧ chB N o s = true) : insA [] xs = chL N o := by
  have q := insA_srt xs [] List.Pairwise.nil (fun x hx => absurd hx (by simp)) (fun x hx => ((h2 x).mp hx).1) h1 (fun x _ => by simp)
  refine srt_eq q.1 (chL_srt N o) (fun x => ?_)
  rw [q.2, chL_mem, ← h2 x]
  simp
