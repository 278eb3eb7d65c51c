/-! the class: choices gathered -/
def okCap (c : Nat) : Prop := c = 8 ∨ c = 16 ∨ c = 32 ∨ c = 64 ∨ c = 128 ∨ c = 256 ∨ c = 512 ∨ c = 1024 ∨ c = 2048 ∨ c = 4096
theorem okCap.dbl {c : Nat} (h : okCap c) (h2 : c < 4096) : okCap (2 * c) := by unfold okCap at *; omega
theorem okCap.le {c : Nat} (h : okCap c) : 8 ≤ c ∧ c ≤ 4096 := by unfold okCap at *; omega
def insA (l xs : List Nat) : List Nat := xs.foldl (fun l s => insO s l) l
theorem insA_app (l xs ys : List Nat) : insA (insA l xs) ys = insA l (xs ++ ys) := by simp [insA, List.foldl_append]
theorem insA_len : ∀ (xs l : List Nat), (insA l xs).length = l.length + xs.length
  | [], l => rfl
  | x :: xs, l => by
    show (insA (insO x l) xs).length = _
    rw [insA_len xs, insO_len, List.length_cons]; omega
/-- sets were put, one behind the other -/
def GQ (X : Nat → Prop) (h0 : ev_H) (A0 : Nat → Nat) (C0 : Nat → Option ev_E) (b : Nat) (N : Nt) (l0 : List Nat) (cap0 : Nat) (xs : List Nat) (v : Option Value) (h' : ev_H) : Prop := v = none ∧ ∃ A' C' cap', CS X h' A' C' ∧ CG X h0 h' (7 * (cap' - cap0)) ∧ cap0 ≤ cap' ∧ okCap cap' ∧ (∀ t, t ≤ b ∨ b + 3 < t → A' t = A0 t) ∧ (∀ t, t < b ∨ b + 3 < t → C' t = C0 t) ∧ ChoS A' C' b N (insA l0 xs) cap'
theorem GQ.nil {X : Nat → Prop} {h : ev_H} {A : Nat → Nat} {C : Nat → Option ev_E} {b : Nat} {N : Nt} {l : List Nat} {cap : Nat} (hS : CS X h A C) (hc : okCap cap) (hC : ChoS A C b N l cap) : GQ X h A C b N l cap [] none h := ⟨rfl, A, C, cap, hS, CG.rfl, Nat.le_refl _, hc, fun _ _ => rfl, fun _ _ => rfl, hC⟩
theorem GQ.trans {X : Nat → Prop} {h h1 h2 : ev_H} {A A1 : Nat → Nat} {C C1 : Nat → Option ev_E} {b : Nat} {N : Nt} {l l1 : List Nat} {cap cap1 : Nat} {xs ys : List Nat} {v : Option Value} (o1 : CG X h h1 (7 * (cap1 - cap))) (hc1 : cap ≤ cap1) (a1 : ∀ t, t ≤ b ∨ b + 3 < t → A1 t = A t) (f1 : ∀ t, t < b ∨ b + 3 < t → C1 t = C t) (hl : l1 = insA l xs) (g : GQ X h1 A1 C1 b N l1 cap1 ys v h2) : GQ X h A C b N l cap (xs ++ ys) v h2 := by
  obtain ⟨rfl, A2, C2, cap2, S2, o2, hc2, ok2, a2, f2, Ch2⟩ := g
  refine ⟨rfl, A2, C2, cap2, S2, (o1.tr o2).le (by omega), by omega, ok2, fun t ht => (a2 t ht).trans (a1 t ht), fun t ht => (f2 t ht).trans (f1 t ht), ?_⟩
  rw [← insA_app, ← hl]; exact Ch2
theorem NetS.C' {X : Nat → Prop} {h : ev_H} {A : Nat → Nat} {C : Nat → Option ev_E} {σ : Sg} {ns n : Nat} (hN : NetS A C σ ns) (hS : CS X h A C) (hn : A 1 = n) : NetC h n σ.N.T σ.N.L σ.N.fr σ.N.to σ.N.sa σ.N.ri := by subst hn; exact hN.C hS
theorem put_GQ {B : ev_B} {d b cap s ns a n : Nat} {X : Nat → Prop} {h : ev_H} {A : Nat → Nat} {C : Nat → Option ev_E} {l : List Nat} {σ : Sg} (hS : CS X h A C) (hCh : ChoS A C b σ.N l cap) (hN : NetS A C σ ns) (hW : Wf σ) (hok : okCap cap) (ha : A b = a) (hn : A 1 = n) (hb5 : 5 < b) (hs : s < 4096) (hl : l.length < 4096) (hd : 3 ≤ d) : Wp B d M_X1_put 0 [some (.ref a), some (.ref n), some (.int (nI s)), none] [] h (GQ X h A C b σ.N l cap [s]) := by
  subst ha; subst hn
  have hle := hok.le
  refine (c_X1_put hS hCh hN hW hb5 hs (by omega) hd).mono ?_
  rintro v h' ⟨rfl, A', C', cap', S', o', hc, hcc, a', f', Ch'⟩
  refine ⟨rfl, A', C', cap', S', o', hc, ?_, a', f', Ch'⟩
  rcases hcc with e | ⟨e1, e2⟩
  · rw [e]; exact hok
  · rw [e2]; exact hok.dbl (by omega)
/-- an offer's object, its choices -/
def OffO (A : Nat → Nat) (C : Nat → Option ev_E) (t b ci : Nat) (V : Nat → Value) : Prop := C t = some (ev_ob ci V) ∧ V 2 = .ref (A b) ∧ 5 < t ∧ t < b
theorem OffO.same {A A' : Nat → Nat} {C C' : Nat → Option ev_E} {t b ci : Nat} {V : Nat → Value} (h : OffO A C t b ci V) (f : C' t = C t) (a : A' b = A b) : OffO A' C' t b ci V := ⟨f.trans h.1, by rw [a]; exact h.2.1, h.2.2⟩
/-! groups of things, packed in one number -/
def GE (e : Nat) (gr : Nat → Nat) (T : Nat) : Prop := e < 2097152 ∧ ∀ u, u < T → (e >>> (3 * u)) &&& 7 = gr u
def joinG (gr : Nat → Nat) (f t : Nat) : Nat → Nat := fun u => if gr u = gr t then gr f else gr u
def joinE (e g o : Nat) : Nat → Nat
  | 0 => e
  | u + 1 => if (e >>> (3 * u)) &&& 7 = o then joinE e g o u ^^^ ((o ^^^ g) * 2 ^ (3 * u)) else joinE e g o u
theorem and7_lt (x : Nat) : x &&& 7 < 8 := Nat.lt_of_le_of_lt Nat.and_le_right (by decide)
theorem xor8 {a b : Nat} (ha : a < 8) (hb : b < 8) : a ^^^ b < 8 := Nat.xor_lt_two_pow (n := 3) ha hb
theorem sh_lt {m u : Nat} (hm : m < 8) (hu : u < 7) : m * 2 ^ (3 * u) < 2097152 := by
  have h1 : 2 ^ (3 * u) ≤ 2 ^ 18 := Nat.pow_le_pow_right (by decide) (by omega)
  have h2 : m * 2 ^ (3 * u) ≤ 7 * 2 ^ 18 := Nat.mul_le_mul (by omega) h1
  omega
theorem sel3 {x m u v : Nat} (hm : m < 8) : ((x ^^^ (m * 2 ^ (3 * v))) >>> (3 * u)) &&& 7 = if u = v then ((x >>> (3 * u)) &&& 7) ^^^ m else (x >>> (3 * u)) &&& 7 := by
  have h7 : ∀ j, Nat.testBit 7 j = decide (j < 3) := fun j => by rw [show 7 = 2 ^ 3 - 1 by decide, Nat.testBit_two_pow_sub_one]
  have hm3 : ∀ j, 3 ≤ j → m.testBit j = false := fun j hj => Nat.testBit_lt_two_pow (Nat.lt_of_lt_of_le hm (show 2 ^ 3 ≤ 2 ^ j from Nat.pow_le_pow_right (by decide) hj))
  rw [← Nat.shiftLeft_eq]
  apply Nat.eq_of_testBit_eq
  intro j
  by_cases huv : u = v
  · rw [if_pos huv]
    subst huv
    simp only [Nat.testBit_and, Nat.testBit_xor, Nat.testBit_shiftRight, Nat.testBit_shiftLeft, h7]
    by_cases hj : j < 3
    · simp [hj]
    · simp [hj, hm3 j (by omega)]
  · rw [if_neg huv]
    simp only [Nat.testBit_and, Nat.testBit_xor, Nat.testBit_shiftRight, Nat.testBit_shiftLeft, h7]
    by_cases hj : j < 3
    · by_cases h1 : 3 * v ≤ 3 * u + j
      · have := hm3 (3 * u + j - 3 * v) (by omega)
        simp [h1, this]
      · simp [h1]
    · simp [hj]
theorem joinE_lt {e g o : Nat} (he : e < 2097152) (hg : g < 8) (ho : o < 8) : ∀ n, n ≤ 7 → joinE e g o n < 2097152
  | 0, _ => he
  | n + 1, h => by
    have ih := joinE_lt he hg ho n (by omega)
    simp only [joinE]
    split
    · exact Nat.xor_lt_two_pow (n := 21) ih (sh_lt (xor8 ho hg) (by omega))
    · exact ih
theorem joinE_sel {e g o : Nat} (hg : g < 8) (ho : o < 8) (u : Nat) : ∀ n, (joinE e g o n >>> (3 * u)) &&& 7 = if u < n ∧ (e >>> (3 * u)) &&& 7 = o then g else (e >>> (3 * u)) &&& 7
  | 0 => by simp [joinE]
  | n + 1 => by
    have ih := joinE_sel (e := e) hg ho u n
    simp only [joinE]
    split
    · next hn =>
      rw [sel3 (xor8 ho hg), ih]
      by_cases hun : u = n
      · subst hun
        rw [if_pos rfl, if_neg (by omega), if_pos ⟨by omega, hn⟩, hn, ← Nat.xor_assoc, Nat.xor_self, Nat.zero_xor]
      · rw [if_neg hun]
        by_cases h2 : u < n ∧ (e >>> (3 * u)) &&& 7 = o
        · rw [if_pos h2, if_pos ⟨by omega, h2.2⟩]
        · rw [if_neg h2, if_neg (fun z => h2 ⟨by omega, z.2⟩)]
    · next hn =>
      rw [ih]
      by_cases hun : u = n
      · subst hun
        rw [if_neg (by omega), if_neg (fun z => hn z.2)]
      · by_cases h2 : u < n ∧ (e >>> (3 * u)) &&& 7 = o
        · rw [if_pos h2, if_pos ⟨by omega, h2.2⟩]
        · rw [if_neg h2, if_neg (fun z => h2 ⟨by omega, z.2⟩)]
theorem GE.lt {e T u : Nat} {gr : Nat → Nat} (h : GE e gr T) (hu : u < T) : gr u < 8 := by rw [← h.2 u hu]; exact and7_lt _
theorem GE.join {e T f t : Nat} {gr : Nat → Nat} (h : GE e gr T) (hT : T ≤ 7) (hf : f < T) (ht : t < T) : GE (joinE e (gr f) (gr t) T) (joinG gr f t) T := by
  refine ⟨joinE_lt h.1 (h.lt hf) (h.lt ht) T hT, fun u hu => ?_⟩
  rw [joinE_sel (h.lt hf) (h.lt ht), h.2 u hu]
  simp only [joinG]
  by_cases e1 : gr u = gr t
  · rw [if_pos ⟨hu, e1⟩, if_pos e1]
  · rw [if_neg (fun z => e1 z.2), if_neg e1]
theorem GE.init {T : Nat} (hT : T ≤ 7) : GE 1754760 (fun u => u) T := by
  refine ⟨by decide, fun u hu => ?_⟩
  have h7 : ∀ u, u < 7 → (1754760 >>> (3 * u)) &&& 7 = u := by decide
  exact h7 u (by omega)
/-! what is put, in its order -/
def growL (N : Nt) : Nat → Nat → Nat → Nat → (Nat → Nat) → List Nat
  | 0, _, ch, ms, _ => if ms = 0 then [ch] else []
  | k + 1, ln, ch, ms, gr => if ms = 0 then [ch] else if N.L < ln + ms then [] else (if gr (N.fr ln) = gr (N.to ln) then [] else growL N k (ln + 1) (ch ||| 2 ^ ln) (ms - 1) (joinG gr (N.fr ln) (N.to ln))) ++ growL N k (ln + 1) ch ms gr
def crsB (N : Nt) (sd ln : Nat) : Bool := decide (ends N.fr N.to ln &&& sd ≠ 0 ∧ ends N.fr N.to ln &&& sd ≠ ends N.fr N.to ln)
def pairL (N : Nt) (sd : Nat) : Nat → Nat → Nat → Nat → List Nat
  | 0, _, ch, fr => if fr = 0 then [ch] else []
  | k + 1, ln, ch, fr => if fr = 0 then [ch] else (if crsB N sd ln = true ∧ fr &&& ends N.fr N.to ln = ends N.fr N.to ln then pairL N sd k (ln + 1) (ch ||| 2 ^ ln) (fr ^^^ (fr &&& ends N.fr N.to ln)) else []) ++ pairL N sd k (ln + 1) ch fr
/-- lists of the last k of L, one behind the other -/
def catL (f : Nat → List Nat) (L : Nat) : Nat → List Nat
  | 0 => []
  | k + 1 => f (L - (k + 1)) ++ catL f L k
def walkL (N : Nt) (la : Nat) : Nat → Nat → Nat → Nat → List Nat
  | 0, at_, _, ch => if at_ = la then [ch] else []
  | k + 1, at_, seen, ch => if at_ = la then [ch] else catL (fun l => if N.fr l = at_ ∧ seen.testBit (N.to l) = false then walkL N la k (N.to l) (seen ||| 2 ^ N.to l) (ch ||| 2 ^ l) else []) N.L N.L
theorem or_lt12 {x l : Nat} (hx : x < 4096) (hl : l < 12) : x ||| 2 ^ l < 4096 := Nat.or_lt_two_pow (n := 12) hx (Nat.pow_lt_pow_right (by decide) hl)
theorem c_X8_groupOf {B : ev_B} {d e T u : Nat} {h : ev_H} {gr : Nat → Nat} (hg : GE e gr T) (hT : T ≤ 7) (hu : u < T) :
    Wp B d M_X8_groupOf 0 [some (.int (nI e)), some (.int (nI u))] [] h (fun v h' => v = some (.int (nI (gr u))) ∧ h' = h) := by
  have he := hg.1
  refine Wp.iload_n dX8_groupOf_0 rfl rfl ?_
  refine Wp.iconst (v := (nI 3)) dX8_groupOf_1 (by decide) rfl ?_
  refine Wp.iload_n dX8_groupOf_2 rfl rfl ?_
  refine Wp.imul dX8_groupOf_3 rfl ?_
  rw [pk_mul]
  refine Wp.ishr dX8_groupOf_4 rfl ?_
  rw [nI_shr (by omega) (by omega)]
  refine Wp.bipush (v := (nI 7)) dX8_groupOf_5 (by decide) rfl ?_
  refine Wp.iand dX8_groupOf_7 rfl ?_
  rw [nI_and, hg.2 u hu]
  exact Wp.iret dX8_groupOf_8 rfl (by exact ⟨rfl, rfl⟩)
theorem c_X8_join {B : ev_B} {d e T g o : Nat} {h : ev_H} {gr : Nat → Nat} (hg : GE e gr T) (hT : T ≤ 7) (hg8 : g < 8) (ho8 : o < 8) (hd : 1 ≤ d) :
    Wp B d M_X8_join 0 [some (.int (nI e)), some (.int (nI g)), some (.int (nI o)), some (.int (nI T)), none, none] [] h (fun v h' => v = some (.int (nI (joinE e g o T))) ∧ h' = h) := by
  have he := hg.1
  have loop : ∀ i, i ≤ T → Wp B d M_X8_join 6 [some (.int (nI e)), some (.int (nI g)), some (.int (nI o)), some (.int (nI T)), some (.int (nI (joinE e g o i))), some (.int (nI i))] [] h (fun v h' => v = some (.int (nI (joinE e g o T))) ∧ h' = h) := by
    refine ev_upl T (fun i hi ih => ?_) ?_
    · have hgi := hg.lt hi
      refine Wp.iload dX8_join_6 rfl rfl ?_
      refine Wp.iload_n dX8_join_8 rfl rfl ?_
      refine Wp.icmp_ge (tgt := 41) (n := 12) dX8_join_9 (by decide) rfl (fun c_9 => ?_) (fun c_9 => ?_)
      · try simp (disch := omega) only [nI_bit0, nI_bit1, Bool.not_eq_false, Bool.not_eq_true] at c_9
        try simp (disch := omega) only [i_lt, i_le, i_eq, l_lt, l_le, l_eq, i_0, i_m1, l_0, nI_tI, iI_tI, lI_tI, Int.not_lt, Int.not_le] at c_9
        omega
      · try simp (disch := omega) only [nI_bit0, nI_bit1, Bool.not_eq_false, Bool.not_eq_true] at c_9
        try simp (disch := omega) only [i_lt, i_le, i_eq, l_lt, l_le, l_eq, i_0, i_m1, l_0, nI_tI, iI_tI, lI_tI, Int.not_lt, Int.not_le] at c_9
        refine Wp.iload_n dX8_join_12 rfl rfl ?_
        refine Wp.iload dX8_join_13 rfl rfl ?_
        refine Wp.cS dX8_join_15 cs_X8_39 rfl (by omega) rfl (Nat.le_of_ble_eq_true rfl) (Nat.le_of_ble_eq_true rfl) rfl (c_X8_groupOf (d := d - 1) hg hT hi) ?_
        rintro _ h_ ⟨rfl, e_⟩
        rw [e_]
        clear e_ h_
        dsimp only [Option.toList, List.drop, List.cons_append, List.nil_append]
        refine Wp.iload_n dX8_join_18 rfl rfl ?_
        refine Wp.icmp_ne (tgt := 35) (n := 22) dX8_join_19 (by decide) rfl (fun c_19 => ?_) (fun c_19 => ?_)
        · try simp (disch := omega) only [nI_bit0, nI_bit1, Bool.not_eq_false, Bool.not_eq_true] at c_19
          try simp (disch := omega) only [i_lt, i_le, i_eq, l_lt, l_le, l_eq, i_0, i_m1, l_0, nI_tI, iI_tI, lI_tI, Int.not_lt, Int.not_le] at c_19
          refine Wp.iinc (v := _ + (nI 1)) dX8_join_35 rfl rfl (Nat.le_of_ble_eq_true rfl) (by dsimp only [ev_st1, ev_cl] <;> rfl) rfl ?_
          refine Wp.goto (n := 6) dX8_join_38 (by decide) ?_
          rw [nI_add1]
          have hr : joinE e g o (i + 1) = if (e >>> (3 * i)) &&& 7 = o then joinE e g o i ^^^ ((o ^^^ g) * 2 ^ (3 * i)) else joinE e g o i := rfl
          rw [hg.2 i hi] at hr
          first
            | (rw [if_pos (by omega)] at hr; rw [hr] at ih; exact ih)
            | (rw [if_neg (by omega)] at hr; rw [hr] at ih; exact ih)
        · try simp (disch := omega) only [nI_bit0, nI_bit1, Bool.not_eq_false, Bool.not_eq_true] at c_19
          try simp (disch := omega) only [i_lt, i_le, i_eq, l_lt, l_le, l_eq, i_0, i_m1, l_0, nI_tI, iI_tI, lI_tI, Int.not_lt, Int.not_le] at c_19
          refine Wp.iload dX8_join_22 rfl rfl ?_
          refine Wp.iload_n dX8_join_24 rfl rfl ?_
          refine Wp.iload_n dX8_join_25 rfl rfl ?_
          refine Wp.ixor dX8_join_26 rfl ?_
          rw [nI_xor]
          refine Wp.iconst (v := (nI 3)) dX8_join_27 (by decide) rfl ?_
          refine Wp.iload dX8_join_28 rfl rfl ?_
          refine Wp.imul dX8_join_30 rfl ?_
          rw [pk_mul]
          refine Wp.ishl dX8_join_31 rfl ?_
          rw [pk_shlN (n := o ^^^ g) (nI (3 * i) &&& 31) (3 * i) (sh_amt (3 * i) (by omega)) (by have := sh_lt (xor8 ho8 hg8) (show i < 7 by omega); omega)]
          refine Wp.ixor dX8_join_32 rfl ?_
          rw [nI_xor]
          refine Wp.istore dX8_join_33 (Nat.le_of_ble_eq_true rfl) (by dsimp only [ev_st1, ev_st2, ev_cl] <;> rfl) rfl ?_
          refine Wp.iinc (v := _ + (nI 1)) dX8_join_35 rfl rfl (Nat.le_of_ble_eq_true rfl) (by dsimp only [ev_st1, ev_cl] <;> rfl) rfl ?_
          refine Wp.goto (n := 6) dX8_join_38 (by decide) ?_
          rw [nI_add1]
          have hr : joinE e g o (i + 1) = if (e >>> (3 * i)) &&& 7 = o then joinE e g o i ^^^ ((o ^^^ g) * 2 ^ (3 * i)) else joinE e g o i := rfl
          rw [hg.2 i hi] at hr
          first
            | (rw [if_pos (by omega)] at hr; rw [hr] at ih; exact ih)
            | (rw [if_neg (by omega)] at hr; rw [hr] at ih; exact ih)
    · refine Wp.iload dX8_join_6 rfl rfl ?_
      refine Wp.iload_n dX8_join_8 rfl rfl ?_
      refine Wp.icmp_ge (tgt := 41) (n := 12) dX8_join_9 (by decide) rfl (fun c_9 => ?_) (fun c_9 => ?_)
      · try simp (disch := omega) only [nI_bit0, nI_bit1, Bool.not_eq_false, Bool.not_eq_true] at c_9
        try simp (disch := omega) only [i_lt, i_le, i_eq, l_lt, l_le, l_eq, i_0, i_m1, l_0, nI_tI, iI_tI, lI_tI, Int.not_lt, Int.not_le] at c_9
        refine Wp.iload dX8_join_41 rfl rfl ?_
        exact Wp.iret dX8_join_43 rfl (by exact ⟨rfl, rfl⟩)
      · try simp (disch := omega) only [nI_bit0, nI_bit1, Bool.not_eq_false, Bool.not_eq_true] at c_9
        try simp (disch := omega) only [i_lt, i_le, i_eq, l_lt, l_le, l_eq, i_0, i_m1, l_0, nI_tI, iI_tI, lI_tI, Int.not_lt, Int.not_le] at c_9
        omega
  refine Wp.iload_n dX8_join_0 rfl rfl ?_
  refine Wp.istore dX8_join_1 (Nat.le_of_ble_eq_true rfl) (by dsimp only [ev_st1, ev_st2, ev_cl] <;> rfl) rfl ?_
  refine Wp.iconst (v := (nI 0)) dX8_join_3 (by decide) rfl ?_
  refine Wp.istore dX8_join_4 (Nat.le_of_ble_eq_true rfl) (by dsimp only [ev_st1, ev_st2, ev_cl] <;> rfl) rfl ?_
  exact loop 0 (by omega)
theorem bc_all : ∀ s, s < 128 → (fun x : Int32 => x) (nI s) = nI s := fun _ _ => rfl
set_option maxRecDepth 100000 in
theorem bc_128 : ∀ {s : Nat}, s < 128 → (((((((nI s - ((((nI s).toUInt32 >>> ((nI 1).toUInt32 &&& Int32.toUInt32 31)).toInt32) &&& 1431655765)) &&& 858993459) + (((((nI s - ((((nI s).toUInt32 >>> ((nI 1).toUInt32 &&& Int32.toUInt32 31)).toInt32) &&& 1431655765))).toUInt32 >>> ((nI 2).toUInt32 &&& Int32.toUInt32 31)).toInt32) &&& 858993459)) + ((((((nI s - ((((nI s).toUInt32 >>> ((nI 1).toUInt32 &&& Int32.toUInt32 31)).toInt32) &&& 1431655765)) &&& 858993459) + (((((nI s - ((((nI s).toUInt32 >>> ((nI 1).toUInt32 &&& Int32.toUInt32 31)).toInt32) &&& 1431655765))).toUInt32 >>> ((nI 2).toUInt32 &&& Int32.toUInt32 31)).toInt32) &&& 858993459))).toUInt32 >>> ((nI 4).toUInt32 &&& Int32.toUInt32 31)).toInt32)) &&& 252645135) + ((((((((nI s - ((((nI s).toUInt32 >>> ((nI 1).toUInt32 &&& Int32.toUInt32 31)).toInt32) &&& 1431655765)) &&& 858993459) + (((((nI s - ((((nI s).toUInt32 >>> ((nI 1).toUInt32 &&& Int32.toUInt32 31)).toInt32) &&& 1431655765))).toUInt32 >>> ((nI 2).toUInt32 &&& Int32.toUInt32 31)).toInt32) &&& 858993459)) + ((((((nI s - ((((nI s).toUInt32 >>> ((nI 1).toUInt32 &&& Int32.toUInt32 31)).toInt32) &&& 1431655765)) &&& 858993459) + (((((nI s - ((((nI s).toUInt32 >>> ((nI 1).toUInt32 &&& Int32.toUInt32 31)).toInt32) &&& 1431655765))).toUInt32 >>> ((nI 2).toUInt32 &&& Int32.toUInt32 31)).toInt32) &&& 858993459))).toUInt32 >>> ((nI 4).toUInt32 &&& Int32.toUInt32 31)).toInt32)) &&& 252645135)).toUInt32 >>> ((nI 8).toUInt32 &&& Int32.toUInt32 31)).toInt32)) + (((((((((nI s - ((((nI s).toUInt32 >>> ((nI 1).toUInt32 &&& Int32.toUInt32 31)).toInt32) &&& 1431655765)) &&& 858993459) + (((((nI s - ((((nI s).toUInt32 >>> ((nI 1).toUInt32 &&& Int32.toUInt32 31)).toInt32) &&& 1431655765))).toUInt32 >>> ((nI 2).toUInt32 &&& Int32.toUInt32 31)).toInt32) &&& 858993459)) + ((((((nI s - ((((nI s).toUInt32 >>> ((nI 1).toUInt32 &&& Int32.toUInt32 31)).toInt32) &&& 1431655765)) &&& 858993459) + (((((nI s - ((((nI s).toUInt32 >>> ((nI 1).toUInt32 &&& Int32.toUInt32 31)).toInt32) &&& 1431655765))).toUInt32 >>> ((nI 2).toUInt32 &&& Int32.toUInt32 31)).toInt32) &&& 858993459))).toUInt32 >>> ((nI 4).toUInt32 &&& Int32.toUInt32 31)).toInt32)) &&& 252645135) + ((((((((nI s - ((((nI s).toUInt32 >>> ((nI 1).toUInt32 &&& Int32.toUInt32 31)).toInt32) &&& 1431655765)) &&& 858993459) + (((((nI s - ((((nI s).toUInt32 >>> ((nI 1).toUInt32 &&& Int32.toUInt32 31)).toInt32) &&& 1431655765))).toUInt32 >>> ((nI 2).toUInt32 &&& Int32.toUInt32 31)).toInt32) &&& 858993459)) + ((((((nI s - ((((nI s).toUInt32 >>> ((nI 1).toUInt32 &&& Int32.toUInt32 31)).toInt32) &&& 1431655765)) &&& 858993459) + (((((nI s - ((((nI s).toUInt32 >>> ((nI 1).toUInt32 &&& Int32.toUInt32 31)).toInt32) &&& 1431655765))).toUInt32 >>> ((nI 2).toUInt32 &&& Int32.toUInt32 31)).toInt32) &&& 858993459))).toUInt32 >>> ((nI 4).toUInt32 &&& Int32.toUInt32 31)).toInt32)) &&& 252645135)).toUInt32 >>> ((nI 8).toUInt32 &&& Int32.toUInt32 31)).toInt32))).toUInt32 >>> ((nI 16).toUInt32 &&& Int32.toUInt32 31)).toInt32)) &&& nI 63 = nI (cntB s 31) := by
  have key : ∀ s, s < 128 → (((((((nI s - ((((nI s).toUInt32 >>> ((nI 1).toUInt32 &&& Int32.toUInt32 31)).toInt32) &&& 1431655765)) &&& 858993459) + (((((nI s - ((((nI s).toUInt32 >>> ((nI 1).toUInt32 &&& Int32.toUInt32 31)).toInt32) &&& 1431655765))).toUInt32 >>> ((nI 2).toUInt32 &&& Int32.toUInt32 31)).toInt32) &&& 858993459)) + ((((((nI s - ((((nI s).toUInt32 >>> ((nI 1).toUInt32 &&& Int32.toUInt32 31)).toInt32) &&& 1431655765)) &&& 858993459) + (((((nI s - ((((nI s).toUInt32 >>> ((nI 1).toUInt32 &&& Int32.toUInt32 31)).toInt32) &&& 1431655765))).toUInt32 >>> ((nI 2).toUInt32 &&& Int32.toUInt32 31)).toInt32) &&& 858993459))).toUInt32 >>> ((nI 4).toUInt32 &&& Int32.toUInt32 31)).toInt32)) &&& 252645135) + ((((((((nI s - ((((nI s).toUInt32 >>> ((nI 1).toUInt32 &&& Int32.toUInt32 31)).toInt32) &&& 1431655765)) &&& 858993459) + (((((nI s - ((((nI s).toUInt32 >>> ((nI 1).toUInt32 &&& Int32.toUInt32 31)).toInt32) &&& 1431655765))).toUInt32 >>> ((nI 2).toUInt32 &&& Int32.toUInt32 31)).toInt32) &&& 858993459)) + ((((((nI s - ((((nI s).toUInt32 >>> ((nI 1).toUInt32 &&& Int32.toUInt32 31)).toInt32) &&& 1431655765)) &&& 858993459) + (((((nI s - ((((nI s).toUInt32 >>> ((nI 1).toUInt32 &&& Int32.toUInt32 31)).toInt32) &&& 1431655765))).toUInt32 >>> ((nI 2).toUInt32 &&& Int32.toUInt32 31)).toInt32) &&& 858993459))).toUInt32 >>> ((nI 4).toUInt32 &&& Int32.toUInt32 31)).toInt32)) &&& 252645135)).toUInt32 >>> ((nI 8).toUInt32 &&& Int32.toUInt32 31)).toInt32)) + (((((((((nI s - ((((nI s).toUInt32 >>> ((nI 1).toUInt32 &&& Int32.toUInt32 31)).toInt32) &&& 1431655765)) &&& 858993459) + (((((nI s - ((((nI s).toUInt32 >>> ((nI 1).toUInt32 &&& Int32.toUInt32 31)).toInt32) &&& 1431655765))).toUInt32 >>> ((nI 2).toUInt32 &&& Int32.toUInt32 31)).toInt32) &&& 858993459)) + ((((((nI s - ((((nI s).toUInt32 >>> ((nI 1).toUInt32 &&& Int32.toUInt32 31)).toInt32) &&& 1431655765)) &&& 858993459) + (((((nI s - ((((nI s).toUInt32 >>> ((nI 1).toUInt32 &&& Int32.toUInt32 31)).toInt32) &&& 1431655765))).toUInt32 >>> ((nI 2).toUInt32 &&& Int32.toUInt32 31)).toInt32) &&& 858993459))).toUInt32 >>> ((nI 4).toUInt32 &&& Int32.toUInt32 31)).toInt32)) &&& 252645135) + ((((((((nI s - ((((nI s).toUInt32 >>> ((nI 1).toUInt32 &&& Int32.toUInt32 31)).toInt32) &&& 1431655765)) &&& 858993459) + (((((nI s - ((((nI s).toUInt32 >>> ((nI 1).toUInt32 &&& Int32.toUInt32 31)).toInt32) &&& 1431655765))).toUInt32 >>> ((nI 2).toUInt32 &&& Int32.toUInt32 31)).toInt32) &&& 858993459)) + ((((((nI s - ((((nI s).toUInt32 >>> ((nI 1).toUInt32 &&& Int32.toUInt32 31)).toInt32) &&& 1431655765)) &&& 858993459) + (((((nI s - ((((nI s).toUInt32 >>> ((nI 1).toUInt32 &&& Int32.toUInt32 31)).toInt32) &&& 1431655765))).toUInt32 >>> ((nI 2).toUInt32 &&& Int32.toUInt32 31)).toInt32) &&& 858993459))).toUInt32 >>> ((nI 4).toUInt32 &&& Int32.toUInt32 31)).toInt32)) &&& 252645135)).toUInt32 >>> ((nI 8).toUInt32 &&& Int32.toUInt32 31)).toInt32))).toUInt32 >>> ((nI 16).toUInt32 &&& Int32.toUInt32 31)).toInt32)) &&& nI 63 = nI (cntB s 31) := by decide +kernel
  intro s hs; exact key s hs
theorem c_J6_bitCount {B : ev_B} {d s : Nat} {h : ev_H} (hs : s < 128) :
    Wp B d M_J6_bitCount_0f7a4 0 [some (.int (nI s))] [] h (fun v h' => v = some (.int (nI (cntB s 31))) ∧ h' = h) := by
  refine Wp.iload_n dJ6_bitCount_0f7a4_0 rfl rfl ?_
  refine Wp.iload_n dJ6_bitCount_0f7a4_1 rfl rfl ?_
  refine Wp.iconst (v := (nI 1)) dJ6_bitCount_0f7a4_2 (by decide) rfl ?_
  refine Wp.iushr dJ6_bitCount_0f7a4_3 rfl ?_
  refine Wp.ldc_w kc_J6_265 dJ6_bitCount_0f7a4_4 rfl ?_
  refine Wp.iand dJ6_bitCount_0f7a4_7 rfl ?_
  refine Wp.isub dJ6_bitCount_0f7a4_8 rfl ?_
  refine Wp.istore_n dJ6_bitCount_0f7a4_9 (Nat.le_of_ble_eq_true rfl) (by dsimp only [ev_st1, ev_st2, ev_cl] <;> rfl) rfl ?_
  refine Wp.iload_n dJ6_bitCount_0f7a4_10 rfl rfl ?_
  refine Wp.ldc_w kc_J6_266 dJ6_bitCount_0f7a4_11 rfl ?_
  refine Wp.iand dJ6_bitCount_0f7a4_14 rfl ?_
  refine Wp.iload_n dJ6_bitCount_0f7a4_15 rfl rfl ?_
  refine Wp.iconst (v := (nI 2)) dJ6_bitCount_0f7a4_16 (by decide) rfl ?_
  refine Wp.iushr dJ6_bitCount_0f7a4_17 rfl ?_
  refine Wp.ldc_w kc_J6_266 dJ6_bitCount_0f7a4_18 rfl ?_
  refine Wp.iand dJ6_bitCount_0f7a4_21 rfl ?_
  refine Wp.iadd dJ6_bitCount_0f7a4_22 rfl ?_
  refine Wp.istore_n dJ6_bitCount_0f7a4_23 (Nat.le_of_ble_eq_true rfl) (by dsimp only [ev_st1, ev_st2, ev_cl] <;> rfl) rfl ?_
  refine Wp.iload_n dJ6_bitCount_0f7a4_24 rfl rfl ?_
  refine Wp.iload_n dJ6_bitCount_0f7a4_25 rfl rfl ?_
  refine Wp.iconst (v := (nI 4)) dJ6_bitCount_0f7a4_26 (by decide) rfl ?_
  refine Wp.iushr dJ6_bitCount_0f7a4_27 rfl ?_
  refine Wp.iadd dJ6_bitCount_0f7a4_28 rfl ?_
  refine Wp.ldc_w kc_J6_267 dJ6_bitCount_0f7a4_29 rfl ?_
  refine Wp.iand dJ6_bitCount_0f7a4_32 rfl ?_
  refine Wp.istore_n dJ6_bitCount_0f7a4_33 (Nat.le_of_ble_eq_true rfl) (by dsimp only [ev_st1, ev_st2, ev_cl] <;> rfl) rfl ?_
  refine Wp.iload_n dJ6_bitCount_0f7a4_34 rfl rfl ?_
  refine Wp.iload_n dJ6_bitCount_0f7a4_35 rfl rfl ?_
  refine Wp.bipush (v := (nI 8)) dJ6_bitCount_0f7a4_36 (by decide) rfl ?_
  refine Wp.iushr dJ6_bitCount_0f7a4_38 rfl ?_
  refine Wp.iadd dJ6_bitCount_0f7a4_39 rfl ?_
  refine Wp.istore_n dJ6_bitCount_0f7a4_40 (Nat.le_of_ble_eq_true rfl) (by dsimp only [ev_st1, ev_st2, ev_cl] <;> rfl) rfl ?_
  refine Wp.iload_n dJ6_bitCount_0f7a4_41 rfl rfl ?_
  refine Wp.iload_n dJ6_bitCount_0f7a4_42 rfl rfl ?_
  refine Wp.bipush (v := (nI 16)) dJ6_bitCount_0f7a4_43 (by decide) rfl ?_
  refine Wp.iushr dJ6_bitCount_0f7a4_45 rfl ?_
  refine Wp.iadd dJ6_bitCount_0f7a4_46 rfl ?_
  refine Wp.istore_n dJ6_bitCount_0f7a4_47 (Nat.le_of_ble_eq_true rfl) (by dsimp only [ev_st1, ev_st2, ev_cl] <;> rfl) rfl ?_
  refine Wp.iload_n dJ6_bitCount_0f7a4_48 rfl rfl ?_
  refine Wp.bipush (v := (nI 63)) dJ6_bitCount_0f7a4_49 (by decide) rfl ?_
  refine Wp.iand dJ6_bitCount_0f7a4_51 rfl ?_
  exact Wp.iret dJ6_bitCount_0f7a4_52 rfl (by exact ⟨by congr 2; revert s; exact bc_128, rfl⟩)
theorem growL_0 {N : Nt} {k ln ch : Nat} {gr : Nat → Nat} : growL N k ln ch 0 gr = [ch] := by cases k <;> simp [growL]
theorem growL_n {N : Nt} {k ln ch ms : Nat} {gr : Nat → Nat} (h : ms ≠ 0) (hl : N.L < ln + ms) : growL N k ln ch ms gr = [] := by cases k <;> simp [growL, h, hl]
theorem growL_s {N : Nt} {k ln ch ms : Nat} {gr : Nat → Nat} (h : ms ≠ 0) (hl : ¬ N.L < ln + ms) : growL N (k + 1) ln ch ms gr = (if gr (N.fr ln) = gr (N.to ln) then [] else growL N k (ln + 1) (ch ||| 2 ^ ln) (ms - 1) (joinG gr (N.fr ln) (N.to ln))) ++ growL N k (ln + 1) ch ms gr := by simp [growL, h, hl]
theorem pairL_0 {N : Nt} {sd k ln ch : Nat} : pairL N sd k ln ch 0 = [ch] := by cases k <;> simp [pairL]
theorem pairL_s {N : Nt} {sd k ln ch fr : Nat} (h : fr ≠ 0) : pairL N sd (k + 1) ln ch fr = (if crsB N sd ln = true ∧ fr &&& ends N.fr N.to ln = ends N.fr N.to ln then pairL N sd k (ln + 1) (ch ||| 2 ^ ln) (fr ^^^ (fr &&& ends N.fr N.to ln)) else []) ++ pairL N sd k (ln + 1) ch fr := by simp [pairL, h]
set_option maxHeartbeats 2000000 in
theorem c_X8_grow {B : ev_B} {X : Nat → Prop} {σ : Sg} {ns t b a n : Nat} {V : Nat → Value} (hW : Wf σ) :
    ∀ k ln, ln + k = σ.N.L → ∀ (d ch ms e : Nat) (gr : Nat → Nat) (h : ev_H) (A : Nat → Nat) (C : Nat → Option ev_E) (l : List Nat) (cap : Nat), CS X h A C → NetS A C σ ns → OffO A C t b 7 V → ChoS A C b σ.N l cap → okCap cap → A t = a → A 1 = n → ch < 4096 → ms ≤ 7 → GE e gr σ.N.T → l.length + (growL σ.N k ln ch ms gr).length ≤ 4096 → k + 6 ≤ d → Wp B d M_X8_grow 0 [some (.ref a), some (.ref n), some (.int (nI ln)), some (.int (nI ch)), some (.int (nI ms)), some (.int (nI e)), none, none, none] [] h (GQ X h A C b σ.N l cap (growL σ.N k ln ch ms gr)) := by
  intro k
  induction k with
  | zero =>
    intro ln hln d ch ms e gr h A C l cap hS hN hO hCh hok hat han hch hms hg hlen hd
    obtain ⟨Vn, n0, n1, n2, n3, hVn, z0, z1, z2, z3, z4, z5, z6, z7, z8, q0, q1, q2, q3, hgn⟩ := id hN
    have hLM := LM_ge σ
    have hT := hW.net.1
    have hL := hW.net.2.1
    obtain ⟨Vc, -, -, -, hVc, -⟩ := id hCh
    obtain ⟨ht5, htb⟩ := hO.2.2
    refine Wp.iload dX8_grow_0 rfl rfl ?_
    refine Wp.if_ne (tgt := 15) (n := 5) dX8_grow_2 (by decide) rfl (fun c_2 => ?_) (fun c_2 => ?_)
    · have c_2 : ms ≠ 0 := fun z => c_2 (by rw [z]; rfl)
      refine Wp.iload_n dX8_grow_15 rfl rfl ?_
      refine Wp.iload dX8_grow_16 rfl rfl ?_
      refine Wp.iadd dX8_grow_18 rfl ?_
      rw [nI_add]
      refine Wp.aload_n dX8_grow_19 rfl (by first | exact Or.inr ⟨_, rfl⟩ | exact Or.inl rfl) rfl ?_
      refine Wp.get dX8_grow_20 fl_X8_32 (hS.at' hVn han) z5 rfl ?_
      refine Wp.icmp_le (tgt := 27) (n := 26) dX8_grow_23 (by decide) rfl (fun c_23 => ?_) (fun c_23 => ?_)
      · try simp (disch := omega) only [nI_bit0, nI_bit1, Bool.not_eq_false, Bool.not_eq_true] at c_23
        try simp (disch := omega) only [i_lt, i_le, i_eq, l_lt, l_le, l_eq, i_0, i_m1, l_0, nI_tI, iI_tI, lI_tI, Int.not_lt, Int.not_le] at c_23
        try simp (disch := omega) only [nI_bit0, nI_bit1, Bool.not_eq_false, Bool.not_eq_true] at c_23
        try simp (disch := omega) only [i_lt, i_le, i_eq, l_lt, l_le, l_eq, i_0, i_m1, l_0, nI_tI, iI_tI, lI_tI, Int.not_lt, Int.not_le] at c_23
        omega
      · try simp (disch := omega) only [nI_bit0, nI_bit1, Bool.not_eq_false, Bool.not_eq_true] at c_23
        try simp (disch := omega) only [i_lt, i_le, i_eq, l_lt, l_le, l_eq, i_0, i_m1, l_0, nI_tI, iI_tI, lI_tI, Int.not_lt, Int.not_le] at c_23
        exact Wp.vret dX8_grow_26 rfl (by rw [growL_n c_2 (by omega)]; exact GQ.nil hS hok hCh)
    · have c_2 : ms = 0 := (nI_eq0 (by omega)).mp c_2
      subst c_2
      rw [growL_0] at hlen
      rw [List.length_singleton] at hlen
      refine Wp.aload_n dX8_grow_5 rfl (by first | exact Or.inr ⟨_, rfl⟩ | exact Or.inl rfl) rfl ?_
      refine Wp.get dX8_grow_6 fl_X8_22 (hS.at' hO.1 hat) hO.2.1 rfl ?_
      refine Wp.aload_n dX8_grow_9 rfl (by first | exact Or.inr ⟨_, rfl⟩ | exact Or.inl rfl) rfl ?_
      refine Wp.iload_n dX8_grow_10 rfl rfl ?_
      refine Wp.cV dX8_grow_11 cv_X8_26 rfl (by omega) rfl (Nat.le_of_ble_eq_true rfl) (Nat.le_of_ble_eq_true rfl) (hS.at hVc) rfl (put_GQ (d := d - 1) (a := A b) hS hCh hN hW hok rfl han (by omega) (by omega) (by omega) (by omega)) ?_
      rintro _ h1 g1
      have e_ := g1.1
      subst e_
      dsimp only [Option.toList, List.drop, List.cons_append, List.nil_append]
      exact Wp.vret dX8_grow_14 rfl (by rw [growL_0]; exact g1)
  | succ k ih =>
    intro ln hln d ch ms e gr h A C l cap hS hN hO hCh hok hat han hch hms hg hlen hd
    obtain ⟨Vn, n0, n1, n2, n3, hVn, z0, z1, z2, z3, z4, z5, z6, z7, z8, q0, q1, q2, q3, hgn⟩ := id hN
    have hLM := LM_ge σ
    have hT := hW.net.1
    have hL := hW.net.2.1
    obtain ⟨Vc, -, -, -, hVc, -⟩ := id hCh
    obtain ⟨ht5, htb⟩ := hO.2.2
    refine Wp.iload dX8_grow_0 rfl rfl ?_
    refine Wp.if_ne (tgt := 15) (n := 5) dX8_grow_2 (by decide) rfl (fun c_2 => ?_) (fun c_2 => ?_)
    · have c_2 : ms ≠ 0 := fun z => c_2 (by rw [z]; rfl)
      refine Wp.iload_n dX8_grow_15 rfl rfl ?_
      refine Wp.iload dX8_grow_16 rfl rfl ?_
      refine Wp.iadd dX8_grow_18 rfl ?_
      rw [nI_add]
      refine Wp.aload_n dX8_grow_19 rfl (by first | exact Or.inr ⟨_, rfl⟩ | exact Or.inl rfl) rfl ?_
      refine Wp.get dX8_grow_20 fl_X8_32 (hS.at' hVn han) z5 rfl ?_
      refine Wp.icmp_le (tgt := 27) (n := 26) dX8_grow_23 (by decide) rfl (fun c_23 => ?_) (fun c_23 => ?_)
      · try simp (disch := omega) only [nI_bit0, nI_bit1, Bool.not_eq_false, Bool.not_eq_true] at c_23
        try simp (disch := omega) only [i_lt, i_le, i_eq, l_lt, l_le, l_eq, i_0, i_m1, l_0, nI_tI, iI_tI, lI_tI, Int.not_lt, Int.not_le] at c_23
        have hnl := hW.net.2.2 ln (by omega)
        rw [growL_s c_2 (by omega)] at hlen ⊢
        rw [List.length_append] at hlen
        have hgn_ := hgn ln (by omega)
        have hgf := hg.lt hnl.1
        have hgt := hg.lt hnl.2.1
        refine Wp.iload dX8_grow_27 rfl rfl ?_
        refine Wp.aload_n dX8_grow_29 rfl (by first | exact Or.inr ⟨_, rfl⟩ | exact Or.inl rfl) rfl ?_
        refine Wp.get dX8_grow_30 fl_X8_35 (hS.at' hVn han) z0 rfl ?_
        refine Wp.iload_n dX8_grow_33 rfl rfl ?_
        refine Wp.iaload dX8_grow_34 (hS.at q0) (nI_toInt (by omega)) (by omega) rfl ?_
        rw [hgn_.1]
        refine Wp.cS dX8_grow_35 cs_X8_39 rfl (by omega) rfl (Nat.le_of_ble_eq_true rfl) (Nat.le_of_ble_eq_true rfl) rfl (c_X8_groupOf (d := d - 1) hg hT hnl.1) ?_
        rintro _ h_ ⟨rfl, e_⟩
        rw [e_]
        clear e_ h_
        dsimp only [Option.toList, List.drop, List.cons_append, List.nil_append]
        refine Wp.istore dX8_grow_38 (Nat.le_of_ble_eq_true rfl) (by dsimp only [ev_st1, ev_st2, ev_cl] <;> rfl) rfl ?_
        refine Wp.iload dX8_grow_40 rfl rfl ?_
        refine Wp.aload_n dX8_grow_42 rfl (by first | exact Or.inr ⟨_, rfl⟩ | exact Or.inl rfl) rfl ?_
        refine Wp.get dX8_grow_43 fl_X8_43 (hS.at' hVn han) z1 rfl ?_
        refine Wp.iload_n dX8_grow_46 rfl rfl ?_
        refine Wp.iaload dX8_grow_47 (hS.at q1) (nI_toInt (by omega)) (by omega) rfl ?_
        rw [hgn_.2.1]
        refine Wp.cS dX8_grow_48 cs_X8_39 rfl (by omega) rfl (Nat.le_of_ble_eq_true rfl) (Nat.le_of_ble_eq_true rfl) rfl (c_X8_groupOf (d := d - 1) hg hT hnl.2.1) ?_
        rintro _ h_ ⟨rfl, e_⟩
        rw [e_]
        clear e_ h_
        dsimp only [Option.toList, List.drop, List.cons_append, List.nil_append]
        refine Wp.istore dX8_grow_51 (Nat.le_of_ble_eq_true rfl) (by dsimp only [ev_st1, ev_st2, ev_cl] <;> rfl) rfl ?_
        refine Wp.iload dX8_grow_53 rfl rfl ?_
        refine Wp.iload dX8_grow_55 rfl rfl ?_
        refine Wp.icmp_eq (tgt := 94) (n := 60) dX8_grow_57 (by decide) rfl (fun c_57 => ?_) (fun c_57 => ?_)
        · try simp (disch := omega) only [nI_bit0, nI_bit1, Bool.not_eq_false, Bool.not_eq_true] at c_57
          try simp (disch := omega) only [i_lt, i_le, i_eq, l_lt, l_le, l_eq, i_0, i_m1, l_0, nI_tI, iI_tI, lI_tI, Int.not_lt, Int.not_le] at c_57
          rw [if_pos (by omega)] at hlen ⊢
          rw [List.nil_append]
          rw [List.length_nil, Nat.zero_add] at hlen
          refine Wp.aload_n dX8_grow_94 rfl (by first | exact Or.inr ⟨_, rfl⟩ | exact Or.inl rfl) rfl ?_
          refine Wp.aload_n dX8_grow_95 rfl (by first | exact Or.inr ⟨_, rfl⟩ | exact Or.inl rfl) rfl ?_
          refine Wp.iload_n dX8_grow_96 rfl rfl ?_
          refine Wp.iconst (v := (nI 1)) dX8_grow_97 (by decide) rfl ?_
          refine Wp.iadd dX8_grow_98 rfl ?_
          rw [nI_add1]
          refine Wp.iload_n dX8_grow_99 rfl rfl ?_
          refine Wp.iload dX8_grow_100 rfl rfl ?_
          refine Wp.iload dX8_grow_102 rfl rfl ?_
          refine Wp.cS dX8_grow_104 cs_X8_18 rfl (by omega) rfl (Nat.le_of_ble_eq_true rfl) (Nat.le_of_ble_eq_true rfl) rfl (ih (ln + 1) (by omega) (d - 1) ch ms _ _ h A C l cap hS hN hO hCh hok hat han hch (by omega) hg (by omega) (by omega)) ?_
          rintro _ h2 g2
          have e_ := g2.1
          subst e_
          dsimp only [Option.toList, List.drop, List.cons_append, List.nil_append]
          exact Wp.vret dX8_grow_107 rfl (by exact g2)
        · try simp (disch := omega) only [nI_bit0, nI_bit1, Bool.not_eq_false, Bool.not_eq_true] at c_57
          try simp (disch := omega) only [i_lt, i_le, i_eq, l_lt, l_le, l_eq, i_0, i_m1, l_0, nI_tI, iI_tI, lI_tI, Int.not_lt, Int.not_le] at c_57
          rw [if_neg (by omega)] at hlen ⊢
          refine Wp.iload dX8_grow_60 rfl rfl ?_
          refine Wp.iload dX8_grow_62 rfl rfl ?_
          refine Wp.iload dX8_grow_64 rfl rfl ?_
          refine Wp.aload_n dX8_grow_66 rfl (by first | exact Or.inr ⟨_, rfl⟩ | exact Or.inl rfl) rfl ?_
          refine Wp.get dX8_grow_67 fl_X8_9 (hS.at' hVn han) z4 rfl ?_
          refine Wp.cS dX8_grow_70 cs_X8_46 rfl (by omega) rfl (Nat.le_of_ble_eq_true rfl) (Nat.le_of_ble_eq_true rfl) rfl (c_X8_join (d := d - 1) hg hT hgf hgt (by omega)) ?_
          rintro _ h_ ⟨rfl, e_⟩
          rw [e_]
          clear e_ h_
          dsimp only [Option.toList, List.drop, List.cons_append, List.nil_append]
          refine Wp.istore dX8_grow_73 (Nat.le_of_ble_eq_true rfl) (by dsimp only [ev_st1, ev_st2, ev_cl] <;> rfl) rfl ?_
          refine Wp.aload_n dX8_grow_75 rfl (by first | exact Or.inr ⟨_, rfl⟩ | exact Or.inl rfl) rfl ?_
          refine Wp.aload_n dX8_grow_76 rfl (by first | exact Or.inr ⟨_, rfl⟩ | exact Or.inl rfl) rfl ?_
          refine Wp.iload_n dX8_grow_77 rfl rfl ?_
          refine Wp.iconst (v := (nI 1)) dX8_grow_78 (by decide) rfl ?_
          refine Wp.iadd dX8_grow_79 rfl ?_
          rw [nI_add1]
          refine Wp.iload_n dX8_grow_80 rfl rfl ?_
          refine Wp.iconst (v := (nI 1)) dX8_grow_81 (by decide) rfl ?_
          refine Wp.iload_n dX8_grow_82 rfl rfl ?_
          refine Wp.ishl dX8_grow_83 rfl ?_
          rw [nI_one_shl (by omega)]
          refine Wp.ior dX8_grow_84 rfl ?_
          rw [nI_or]
          refine Wp.iload dX8_grow_85 rfl rfl ?_
          refine Wp.iconst (v := (nI 1)) dX8_grow_87 (by decide) rfl ?_
          refine Wp.isub dX8_grow_88 rfl ?_
          rw [pk_sub (by omega)]
          refine Wp.iload dX8_grow_89 rfl rfl ?_
          refine Wp.cS dX8_grow_91 cs_X8_18 rfl (by omega) rfl (Nat.le_of_ble_eq_true rfl) (Nat.le_of_ble_eq_true rfl) rfl (ih (ln + 1) (by omega) (d - 1) (ch ||| 2 ^ ln) (ms - 1) _ _ h A C l cap hS hN hO hCh hok hat han (or_lt12 hch (by omega)) (by omega) (hg.join hT hnl.1 hnl.2.1) (by omega) (by omega)) ?_
          rintro _ h1 ⟨rfl, A1, C1, cap1, S1, o1, hc1, ok1, a1, f1, Ch1⟩
          dsimp only [Option.toList, List.drop, List.cons_append, List.nil_append]
          have N1 := hN.same (fun s h1 h2 => f1 s (by omega)) (fun s h1 h2 => a1 s (by omega))
          have O1 := hO.same (f1 t (by omega)) (a1 b (by omega))
          have v2_1 := O1.2.1
          have z0_1 : Vn 0 = .ref (A1 2) := by rw [a1 2 (by omega)]; exact z0
          have z1_1 : Vn 1 = .ref (A1 3) := by rw [a1 3 (by omega)]; exact z1
          obtain ⟨Vc1, -, -, -, hVc1, -⟩ := id Ch1
          refine Wp.aload_n dX8_grow_94 rfl (by first | exact Or.inr ⟨_, rfl⟩ | exact Or.inl rfl) rfl ?_
          refine Wp.aload_n dX8_grow_95 rfl (by first | exact Or.inr ⟨_, rfl⟩ | exact Or.inl rfl) rfl ?_
          refine Wp.iload_n dX8_grow_96 rfl rfl ?_
          refine Wp.iconst (v := (nI 1)) dX8_grow_97 (by decide) rfl ?_
          refine Wp.iadd dX8_grow_98 rfl ?_
          rw [nI_add1]
          refine Wp.iload_n dX8_grow_99 rfl rfl ?_
          refine Wp.iload dX8_grow_100 rfl rfl ?_
          refine Wp.iload dX8_grow_102 rfl rfl ?_
          refine Wp.cS dX8_grow_104 cs_X8_18 rfl (by omega) rfl (Nat.le_of_ble_eq_true rfl) (Nat.le_of_ble_eq_true rfl) rfl (ih (ln + 1) (by omega) (d - 1) ch ms _ _ h1 A1 C1 _ cap1 S1 N1 O1 Ch1 ok1 ((a1 t (by omega)).trans hat) ((a1 1 (by omega)).trans han) hch (by omega) hg (by rw [insA_len]; omega) (by omega)) ?_
          rintro _ h2 g2
          have e_ := g2.1
          subst e_
          dsimp only [Option.toList, List.drop, List.cons_append, List.nil_append]
          exact Wp.vret dX8_grow_107 rfl (GQ.trans o1 hc1 a1 f1 rfl g2)
      · try simp (disch := omega) only [nI_bit0, nI_bit1, Bool.not_eq_false, Bool.not_eq_true] at c_23
        try simp (disch := omega) only [i_lt, i_le, i_eq, l_lt, l_le, l_eq, i_0, i_m1, l_0, nI_tI, iI_tI, lI_tI, Int.not_lt, Int.not_le] at c_23
        exact Wp.vret dX8_grow_26 rfl (by rw [growL_n c_2 (by omega)]; exact GQ.nil hS hok hCh)
    · have c_2 : ms = 0 := (nI_eq0 (by omega)).mp c_2
      subst c_2
      rw [growL_0] at hlen
      rw [List.length_singleton] at hlen
      refine Wp.aload_n dX8_grow_5 rfl (by first | exact Or.inr ⟨_, rfl⟩ | exact Or.inl rfl) rfl ?_
      refine Wp.get dX8_grow_6 fl_X8_22 (hS.at' hO.1 hat) hO.2.1 rfl ?_
      refine Wp.aload_n dX8_grow_9 rfl (by first | exact Or.inr ⟨_, rfl⟩ | exact Or.inl rfl) rfl ?_
      refine Wp.iload_n dX8_grow_10 rfl rfl ?_
      refine Wp.cV dX8_grow_11 cv_X8_26 rfl (by omega) rfl (Nat.le_of_ble_eq_true rfl) (Nat.le_of_ble_eq_true rfl) (hS.at hVc) rfl (put_GQ (d := d - 1) (a := A b) hS hCh hN hW hok rfl han (by omega) (by omega) (by omega) (by omega)) ?_
      rintro _ h1 g1
      have e_ := g1.1
      subst e_
      dsimp only [Option.toList, List.drop, List.cons_append, List.nil_append]
      exact Wp.vret dX8_grow_14 rfl (by rw [growL_0]; exact g1)
set_option maxHeartbeats 2000000 in
theorem c_X4_pair {B : ev_B} {X : Nat → Prop} {σ : Sg} {ns t b a n : Nat} {V : Nat → Value} {sd : Nat} (hW : Wf σ) (hsd6 : V 6 = .int (nI sd)) (hsd : sd < 128) :
    ∀ k ln, ln + k = σ.N.L → ∀ (d ch fe : Nat) (h : ev_H) (A : Nat → Nat) (C : Nat → Option ev_E) (l : List Nat) (cap : Nat), CS X h A C → NetS A C σ ns → OffO A C t b 3 V → ChoS A C b σ.N l cap → okCap cap → A t = a → A 1 = n → ch < 4096 → fe < 128 → l.length + (pairL σ.N sd k ln ch fe).length ≤ 4096 → k + 6 ≤ d → Wp B d M_X4_pair 0 [some (.ref a), some (.ref n), some (.int (nI ln)), some (.int (nI ch)), some (.int (nI fe)), none, none, none] [] h (GQ X h A C b σ.N l cap (pairL σ.N sd k ln ch fe)) := by
  intro k
  induction k with
  | zero =>
    intro ln hln d ch fe h A C l cap hS hN hO hCh hok hat han hch hfr hlen hd
    obtain ⟨Vn, n0, n1, n2, n3, hVn, z0, z1, z2, z3, z4, z5, z6, z7, z8, q0, q1, q2, q3, hgn⟩ := id hN
    have hLM := LM_ge σ
    have hT := hW.net.1
    have hL := hW.net.2.1
    obtain ⟨Vc, -, -, -, hVc, -⟩ := id hCh
    obtain ⟨ht5, htb⟩ := hO.2.2
    refine Wp.iload dX4_pair_0 rfl rfl ?_
    refine Wp.if_ne (tgt := 15) (n := 5) dX4_pair_2 (by decide) rfl (fun c_2 => ?_) (fun c_2 => ?_)
    · have c_2 : fe ≠ 0 := fun z => c_2 (by rw [z]; rfl)
      refine Wp.iload_n dX4_pair_15 rfl rfl ?_
      refine Wp.aload_n dX4_pair_16 rfl (by first | exact Or.inr ⟨_, rfl⟩ | exact Or.inl rfl) rfl ?_
      refine Wp.get dX4_pair_17 fl_X4_35 (hS.at' hVn han) z5 rfl ?_
      refine Wp.icmp_lt (tgt := 24) (n := 23) dX4_pair_20 (by decide) rfl (fun c_20 => ?_) (fun c_20 => ?_)
      · try simp (disch := omega) only [nI_bit0, nI_bit1, Bool.not_eq_false, Bool.not_eq_true] at c_20
        try simp (disch := omega) only [i_lt, i_le, i_eq, l_lt, l_le, l_eq, i_0, i_m1, l_0, nI_tI, iI_tI, lI_tI, Int.not_lt, Int.not_le] at c_20
        try simp (disch := omega) only [nI_bit0, nI_bit1, Bool.not_eq_false, Bool.not_eq_true] at c_20
        try simp (disch := omega) only [i_lt, i_le, i_eq, l_lt, l_le, l_eq, i_0, i_m1, l_0, nI_tI, iI_tI, lI_tI, Int.not_lt, Int.not_le] at c_20
        omega
      · try simp (disch := omega) only [nI_bit0, nI_bit1, Bool.not_eq_false, Bool.not_eq_true] at c_20
        try simp (disch := omega) only [i_lt, i_le, i_eq, l_lt, l_le, l_eq, i_0, i_m1, l_0, nI_tI, iI_tI, lI_tI, Int.not_lt, Int.not_le] at c_20
        exact Wp.vret dX4_pair_23 rfl (by rw [show pairL σ.N sd 0 ln ch fe = [] by simp [pairL, c_2]]; exact GQ.nil hS hok hCh)
    · have c_2 : fe = 0 := (nI_eq0 (by omega)).mp c_2
      subst c_2
      rw [pairL_0] at hlen
      rw [List.length_singleton] at hlen
      refine Wp.aload_n dX4_pair_5 rfl (by first | exact Or.inr ⟨_, rfl⟩ | exact Or.inl rfl) rfl ?_
      refine Wp.get dX4_pair_6 fl_X4_25 (hS.at' hO.1 hat) hO.2.1 rfl ?_
      refine Wp.aload_n dX4_pair_9 rfl (by first | exact Or.inr ⟨_, rfl⟩ | exact Or.inl rfl) rfl ?_
      refine Wp.iload_n dX4_pair_10 rfl rfl ?_
      refine Wp.cV dX4_pair_11 cv_X4_29 rfl (by omega) rfl (Nat.le_of_ble_eq_true rfl) (Nat.le_of_ble_eq_true rfl) (hS.at hVc) rfl (put_GQ (d := d - 1) (a := A b) hS hCh hN hW hok rfl han (by omega) (by omega) (by omega) (by omega)) ?_
      rintro _ h1 g1
      have e_ := g1.1
      subst e_
      dsimp only [Option.toList, List.drop, List.cons_append, List.nil_append]
      exact Wp.vret dX4_pair_14 rfl (by rw [pairL_0]; exact g1)
  | succ k ih =>
    intro ln hln d ch fe h A C l cap hS hN hO hCh hok hat han hch hfr hlen hd
    obtain ⟨Vn, n0, n1, n2, n3, hVn, z0, z1, z2, z3, z4, z5, z6, z7, z8, q0, q1, q2, q3, hgn⟩ := id hN
    have hLM := LM_ge σ
    have hT := hW.net.1
    have hL := hW.net.2.1
    obtain ⟨Vc, -, -, -, hVc, -⟩ := id hCh
    obtain ⟨ht5, htb⟩ := hO.2.2
    refine Wp.iload dX4_pair_0 rfl rfl ?_
    refine Wp.if_ne (tgt := 15) (n := 5) dX4_pair_2 (by decide) rfl (fun c_2 => ?_) (fun c_2 => ?_)
    · have c_2 : fe ≠ 0 := fun z => c_2 (by rw [z]; rfl)
      refine Wp.iload_n dX4_pair_15 rfl rfl ?_
      refine Wp.aload_n dX4_pair_16 rfl (by first | exact Or.inr ⟨_, rfl⟩ | exact Or.inl rfl) rfl ?_
      refine Wp.get dX4_pair_17 fl_X4_35 (hS.at' hVn han) z5 rfl ?_
      refine Wp.icmp_lt (tgt := 24) (n := 23) dX4_pair_20 (by decide) rfl (fun c_20 => ?_) (fun c_20 => ?_)
      · try simp (disch := omega) only [nI_bit0, nI_bit1, Bool.not_eq_false, Bool.not_eq_true] at c_20
        try simp (disch := omega) only [i_lt, i_le, i_eq, l_lt, l_le, l_eq, i_0, i_m1, l_0, nI_tI, iI_tI, lI_tI, Int.not_lt, Int.not_le] at c_20
        have hnl := hW.net.2.2 ln (by omega)
        rw [pairL_s c_2] at hlen ⊢
        rw [List.length_append] at hlen
        have hgn_ := hgn ln (by omega)
        have hen : (ends σ.N.fr σ.N.to ln) < 128 := ends_lt (by omega) (by omega)
        have hens : (ends σ.N.fr σ.N.to ln) &&& sd < 128 := Nat.lt_of_le_of_lt Nat.and_le_left hen
        have hfe : fe &&& (ends σ.N.fr σ.N.to ln) < 128 := Nat.lt_of_le_of_lt Nat.and_le_left hfr
        have hfx : fe ^^^ (fe &&& (ends σ.N.fr σ.N.to ln)) < 128 := Nat.xor_lt_two_pow (n := 7) hfr hfe
        refine Wp.iconst (v := (nI 1)) dX4_pair_24 (by decide) rfl ?_
        refine Wp.aload_n dX4_pair_25 rfl (by first | exact Or.inr ⟨_, rfl⟩ | exact Or.inl rfl) rfl ?_
        refine Wp.get dX4_pair_26 fl_X4_38 (hS.at' hVn han) z0 rfl ?_
        refine Wp.iload_n dX4_pair_29 rfl rfl ?_
        refine Wp.iaload dX4_pair_30 (hS.at q0) (nI_toInt (by omega)) (by omega) rfl ?_
        rw [hgn_.1]
        refine Wp.ishl dX4_pair_31 rfl ?_
        rw [nI_one_shl (by omega)]
        refine Wp.iconst (v := (nI 1)) dX4_pair_32 (by decide) rfl ?_
        refine Wp.aload_n dX4_pair_33 rfl (by first | exact Or.inr ⟨_, rfl⟩ | exact Or.inl rfl) rfl ?_
        refine Wp.get dX4_pair_34 fl_X4_42 (hS.at' hVn han) z1 rfl ?_
        refine Wp.iload_n dX4_pair_37 rfl rfl ?_
        refine Wp.iaload dX4_pair_38 (hS.at q1) (nI_toInt (by omega)) (by omega) rfl ?_
        rw [hgn_.2.1]
        refine Wp.ishl dX4_pair_39 rfl ?_
        rw [nI_one_shl (by omega)]
        refine Wp.ior dX4_pair_40 rfl ?_
        rw [nI_or, show 2 ^ σ.N.fr ln ||| 2 ^ σ.N.to ln = (ends σ.N.fr σ.N.to ln) from rfl]
        refine Wp.istore dX4_pair_41 (Nat.le_of_ble_eq_true rfl) (by dsimp only [ev_st1, ev_st2, ev_cl] <;> rfl) rfl ?_
        refine Wp.iload dX4_pair_43 rfl rfl ?_
        refine Wp.aload_n dX4_pair_45 rfl (by first | exact Or.inr ⟨_, rfl⟩ | exact Or.inl rfl) rfl ?_
        refine Wp.get dX4_pair_46 fl_X4_9 (hS.at' hO.1 hat) hsd6 rfl ?_
        refine Wp.iand dX4_pair_49 rfl ?_
        rw [nI_and]
        refine Wp.istore dX4_pair_50 (Nat.le_of_ble_eq_true rfl) (by dsimp only [ev_st1, ev_st2, ev_cl] <;> rfl) rfl ?_
        refine Wp.iload dX4_pair_52 rfl rfl ?_
        refine Wp.if_eq (tgt := 68) (n := 57) dX4_pair_54 (by decide) rfl (fun c_54 => ?_) (fun c_54 => ?_)
        · try simp (disch := omega) only [nI_bit0, nI_bit1, Bool.not_eq_false, Bool.not_eq_true] at c_54
          try simp (disch := omega) only [i_lt, i_le, i_eq, l_lt, l_le, l_eq, i_0, i_m1, l_0, nI_tI, iI_tI, lI_tI, Int.not_lt, Int.not_le] at c_54
          have c_54 : (ends σ.N.fr σ.N.to ln) &&& sd = 0 := by omega
          have hncr : ¬ (crsB σ.N sd ln = true ∧ fe &&& (ends σ.N.fr σ.N.to ln) = (ends σ.N.fr σ.N.to ln)) := fun z => by
            have z1 := of_decide_eq_true z.1
            omega
          rw [if_neg hncr] at hlen ⊢
          rw [List.nil_append]
          rw [List.length_nil, Nat.zero_add] at hlen
          refine Wp.iconst (v := (nI 0)) dX4_pair_68 (by decide) rfl ?_
          refine Wp.istore dX4_pair_69 (Nat.le_of_ble_eq_true rfl) (by dsimp only [ev_st1, ev_st2, ev_cl] <;> rfl) rfl ?_
          refine Wp.iload dX4_pair_71 rfl rfl ?_
          refine Wp.if_eq (tgt := 106) (n := 76) dX4_pair_73 (by decide) rfl (fun _ => ?_) (fun c_ => absurd c_ (by decide))
          refine Wp.aload_n dX4_pair_106 rfl (by first | exact Or.inr ⟨_, rfl⟩ | exact Or.inl rfl) rfl ?_
          refine Wp.aload_n dX4_pair_107 rfl (by first | exact Or.inr ⟨_, rfl⟩ | exact Or.inl rfl) rfl ?_
          refine Wp.iload_n dX4_pair_108 rfl rfl ?_
          refine Wp.iconst (v := (nI 1)) dX4_pair_109 (by decide) rfl ?_
          refine Wp.iadd dX4_pair_110 rfl ?_
          rw [nI_add1]
          refine Wp.iload_n dX4_pair_111 rfl rfl ?_
          refine Wp.iload dX4_pair_112 rfl rfl ?_
          refine Wp.cS dX4_pair_114 cs_X4_21 rfl (by omega) rfl (Nat.le_of_ble_eq_true rfl) (Nat.le_of_ble_eq_true rfl) rfl (ih (ln + 1) (by omega) (d - 1) ch fe h A C l cap hS hN hO hCh hok hat han hch hfr (by omega) (by omega)) ?_
          rintro _ h2 g2
          have e_ := g2.1
          subst e_
          dsimp only [Option.toList, List.drop, List.cons_append, List.nil_append]
          exact Wp.vret dX4_pair_117 rfl (by exact g2)
        · try simp (disch := omega) only [nI_bit0, nI_bit1, Bool.not_eq_false, Bool.not_eq_true] at c_54
          try simp (disch := omega) only [i_lt, i_le, i_eq, l_lt, l_le, l_eq, i_0, i_m1, l_0, nI_tI, iI_tI, lI_tI, Int.not_lt, Int.not_le] at c_54
          have c_54 : (ends σ.N.fr σ.N.to ln) &&& sd ≠ 0 := by omega
          refine Wp.iload dX4_pair_57 rfl rfl ?_
          refine Wp.iload dX4_pair_59 rfl rfl ?_
          refine Wp.icmp_eq (tgt := 68) (n := 64) dX4_pair_61 (by decide) rfl (fun c_61 => ?_) (fun c_61 => ?_)
          · try simp (disch := omega) only [nI_bit0, nI_bit1, Bool.not_eq_false, Bool.not_eq_true] at c_61
            try simp (disch := omega) only [i_lt, i_le, i_eq, l_lt, l_le, l_eq, i_0, i_m1, l_0, nI_tI, iI_tI, lI_tI, Int.not_lt, Int.not_le] at c_61
            have hncr : ¬ (crsB σ.N sd ln = true ∧ fe &&& (ends σ.N.fr σ.N.to ln) = (ends σ.N.fr σ.N.to ln)) := fun z => by
              have z1 := of_decide_eq_true z.1
              omega
            rw [if_neg hncr] at hlen ⊢
            rw [List.nil_append]
            rw [List.length_nil, Nat.zero_add] at hlen
            refine Wp.iconst (v := (nI 0)) dX4_pair_68 (by decide) rfl ?_
            refine Wp.istore dX4_pair_69 (Nat.le_of_ble_eq_true rfl) (by dsimp only [ev_st1, ev_st2, ev_cl] <;> rfl) rfl ?_
            refine Wp.iload dX4_pair_71 rfl rfl ?_
            refine Wp.if_eq (tgt := 106) (n := 76) dX4_pair_73 (by decide) rfl (fun _ => ?_) (fun c_ => absurd c_ (by decide))
            refine Wp.aload_n dX4_pair_106 rfl (by first | exact Or.inr ⟨_, rfl⟩ | exact Or.inl rfl) rfl ?_
            refine Wp.aload_n dX4_pair_107 rfl (by first | exact Or.inr ⟨_, rfl⟩ | exact Or.inl rfl) rfl ?_
            refine Wp.iload_n dX4_pair_108 rfl rfl ?_
            refine Wp.iconst (v := (nI 1)) dX4_pair_109 (by decide) rfl ?_
            refine Wp.iadd dX4_pair_110 rfl ?_
            rw [nI_add1]
            refine Wp.iload_n dX4_pair_111 rfl rfl ?_
            refine Wp.iload dX4_pair_112 rfl rfl ?_
            refine Wp.cS dX4_pair_114 cs_X4_21 rfl (by omega) rfl (Nat.le_of_ble_eq_true rfl) (Nat.le_of_ble_eq_true rfl) rfl (ih (ln + 1) (by omega) (d - 1) ch fe h A C l cap hS hN hO hCh hok hat han hch hfr (by omega) (by omega)) ?_
            rintro _ h2 g2
            have e_ := g2.1
            subst e_
            dsimp only [Option.toList, List.drop, List.cons_append, List.nil_append]
            exact Wp.vret dX4_pair_117 rfl (by exact g2)
          · try simp (disch := omega) only [nI_bit0, nI_bit1, Bool.not_eq_false, Bool.not_eq_true] at c_61
            try simp (disch := omega) only [i_lt, i_le, i_eq, l_lt, l_le, l_eq, i_0, i_m1, l_0, nI_tI, iI_tI, lI_tI, Int.not_lt, Int.not_le] at c_61
            refine Wp.iconst (v := (nI 1)) dX4_pair_64 (by decide) rfl ?_
            refine Wp.goto (n := 69) dX4_pair_65 (by decide) ?_
            refine Wp.istore dX4_pair_69 (Nat.le_of_ble_eq_true rfl) (by dsimp only [ev_st1, ev_st2, ev_cl] <;> rfl) rfl ?_
            refine Wp.iload dX4_pair_71 rfl rfl ?_
            refine Wp.if_eq (tgt := 106) (n := 76) dX4_pair_73 (by decide) rfl (fun c_ => absurd c_ (by decide)) (fun _ => ?_)
            refine Wp.iload dX4_pair_76 rfl rfl ?_
            refine Wp.iload dX4_pair_78 rfl rfl ?_
            refine Wp.iand dX4_pair_80 rfl ?_
            rw [nI_and]
            refine Wp.iload dX4_pair_81 rfl rfl ?_
            refine Wp.icmp_ne (tgt := 106) (n := 86) dX4_pair_83 (by decide) rfl (fun c_83 => ?_) (fun c_83 => ?_)
            · try simp (disch := omega) only [nI_bit0, nI_bit1, Bool.not_eq_false, Bool.not_eq_true] at c_83
              try simp (disch := omega) only [i_lt, i_le, i_eq, l_lt, l_le, l_eq, i_0, i_m1, l_0, nI_tI, iI_tI, lI_tI, Int.not_lt, Int.not_le] at c_83
              have hncr : ¬ (crsB σ.N sd ln = true ∧ fe &&& (ends σ.N.fr σ.N.to ln) = (ends σ.N.fr σ.N.to ln)) := fun z => by
                have z1 := of_decide_eq_true z.1
                have z2 := z.2; omega
              rw [if_neg hncr] at hlen ⊢
              rw [List.nil_append]
              rw [List.length_nil, Nat.zero_add] at hlen
              refine Wp.aload_n dX4_pair_106 rfl (by first | exact Or.inr ⟨_, rfl⟩ | exact Or.inl rfl) rfl ?_
              refine Wp.aload_n dX4_pair_107 rfl (by first | exact Or.inr ⟨_, rfl⟩ | exact Or.inl rfl) rfl ?_
              refine Wp.iload_n dX4_pair_108 rfl rfl ?_
              refine Wp.iconst (v := (nI 1)) dX4_pair_109 (by decide) rfl ?_
              refine Wp.iadd dX4_pair_110 rfl ?_
              rw [nI_add1]
              refine Wp.iload_n dX4_pair_111 rfl rfl ?_
              refine Wp.iload dX4_pair_112 rfl rfl ?_
              refine Wp.cS dX4_pair_114 cs_X4_21 rfl (by omega) rfl (Nat.le_of_ble_eq_true rfl) (Nat.le_of_ble_eq_true rfl) rfl (ih (ln + 1) (by omega) (d - 1) ch fe h A C l cap hS hN hO hCh hok hat han hch hfr (by omega) (by omega)) ?_
              rintro _ h2 g2
              have e_ := g2.1
              subst e_
              dsimp only [Option.toList, List.drop, List.cons_append, List.nil_append]
              exact Wp.vret dX4_pair_117 rfl (by exact g2)
            · try simp (disch := omega) only [nI_bit0, nI_bit1, Bool.not_eq_false, Bool.not_eq_true] at c_83
              try simp (disch := omega) only [i_lt, i_le, i_eq, l_lt, l_le, l_eq, i_0, i_m1, l_0, nI_tI, iI_tI, lI_tI, Int.not_lt, Int.not_le] at c_83
              have hcr : crsB σ.N sd ln = true ∧ fe &&& (ends σ.N.fr σ.N.to ln) = (ends σ.N.fr σ.N.to ln) := ⟨decide_eq_true (by omega), by omega⟩
              rw [if_pos hcr] at hlen ⊢
              refine Wp.aload_n dX4_pair_86 rfl (by first | exact Or.inr ⟨_, rfl⟩ | exact Or.inl rfl) rfl ?_
              refine Wp.aload_n dX4_pair_87 rfl (by first | exact Or.inr ⟨_, rfl⟩ | exact Or.inl rfl) rfl ?_
              refine Wp.iload_n dX4_pair_88 rfl rfl ?_
              refine Wp.iconst (v := (nI 1)) dX4_pair_89 (by decide) rfl ?_
              refine Wp.iadd dX4_pair_90 rfl ?_
              rw [nI_add1]
              refine Wp.iload_n dX4_pair_91 rfl rfl ?_
              refine Wp.iconst (v := (nI 1)) dX4_pair_92 (by decide) rfl ?_
              refine Wp.iload_n dX4_pair_93 rfl rfl ?_
              refine Wp.ishl dX4_pair_94 rfl ?_
              rw [nI_one_shl (by omega)]
              refine Wp.ior dX4_pair_95 rfl ?_
              rw [nI_or]
              refine Wp.iload dX4_pair_96 rfl rfl ?_
              refine Wp.iload dX4_pair_98 rfl rfl ?_
              refine Wp.iconst (v := (-1)) dX4_pair_100 (by decide) rfl ?_
              refine Wp.ixor dX4_pair_101 rfl ?_
              refine Wp.iand dX4_pair_102 rfl ?_
              rw [nI_andn (by omega)]
              refine Wp.cS dX4_pair_103 cs_X4_21 rfl (by omega) rfl (Nat.le_of_ble_eq_true rfl) (Nat.le_of_ble_eq_true rfl) rfl (ih (ln + 1) (by omega) (d - 1) (ch ||| 2 ^ ln) (fe ^^^ (fe &&& (ends σ.N.fr σ.N.to ln))) h A C l cap hS hN hO hCh hok hat han (or_lt12 hch (by omega)) hfx (by omega) (by omega)) ?_
              rintro _ h1 ⟨rfl, A1, C1, cap1, S1, o1, hc1, ok1, a1, f1, Ch1⟩
              dsimp only [Option.toList, List.drop, List.cons_append, List.nil_append]
              have N1 := hN.same (fun s h1 h2 => f1 s (by omega)) (fun s h1 h2 => a1 s (by omega))
              have O1 := hO.same (f1 t (by omega)) (a1 b (by omega))
              have v2_1 := O1.2.1
              have z0_1 : Vn 0 = .ref (A1 2) := by rw [a1 2 (by omega)]; exact z0
              have z1_1 : Vn 1 = .ref (A1 3) := by rw [a1 3 (by omega)]; exact z1
              obtain ⟨Vc1, -, -, -, hVc1, -⟩ := id Ch1
              refine Wp.aload_n dX4_pair_106 rfl (by first | exact Or.inr ⟨_, rfl⟩ | exact Or.inl rfl) rfl ?_
              refine Wp.aload_n dX4_pair_107 rfl (by first | exact Or.inr ⟨_, rfl⟩ | exact Or.inl rfl) rfl ?_
              refine Wp.iload_n dX4_pair_108 rfl rfl ?_
              refine Wp.iconst (v := (nI 1)) dX4_pair_109 (by decide) rfl ?_
              refine Wp.iadd dX4_pair_110 rfl ?_
              rw [nI_add1]
              refine Wp.iload_n dX4_pair_111 rfl rfl ?_
              refine Wp.iload dX4_pair_112 rfl rfl ?_
              refine Wp.cS dX4_pair_114 cs_X4_21 rfl (by omega) rfl (Nat.le_of_ble_eq_true rfl) (Nat.le_of_ble_eq_true rfl) rfl (ih (ln + 1) (by omega) (d - 1) ch fe h1 A1 C1 _ cap1 S1 N1 O1 Ch1 ok1 ((a1 t (by omega)).trans hat) ((a1 1 (by omega)).trans han) hch hfr (by rw [insA_len]; omega) (by omega)) ?_
              rintro _ h2 g2
              have e_ := g2.1
              subst e_
              dsimp only [Option.toList, List.drop, List.cons_append, List.nil_append]
              exact Wp.vret dX4_pair_117 rfl (GQ.trans o1 hc1 a1 f1 rfl g2)
      · try simp (disch := omega) only [nI_bit0, nI_bit1, Bool.not_eq_false, Bool.not_eq_true] at c_20
        try simp (disch := omega) only [i_lt, i_le, i_eq, l_lt, l_le, l_eq, i_0, i_m1, l_0, nI_tI, iI_tI, lI_tI, Int.not_lt, Int.not_le] at c_20
        try simp (disch := omega) only [nI_bit0, nI_bit1, Bool.not_eq_false, Bool.not_eq_true] at c_20
        try simp (disch := omega) only [i_lt, i_le, i_eq, l_lt, l_le, l_eq, i_0, i_m1, l_0, nI_tI, iI_tI, lI_tI, Int.not_lt, Int.not_le] at c_20
        omega
    · have c_2 : fe = 0 := (nI_eq0 (by omega)).mp c_2
      subst c_2
      rw [pairL_0] at hlen
      rw [List.length_singleton] at hlen
      refine Wp.aload_n dX4_pair_5 rfl (by first | exact Or.inr ⟨_, rfl⟩ | exact Or.inl rfl) rfl ?_
      refine Wp.get dX4_pair_6 fl_X4_25 (hS.at' hO.1 hat) hO.2.1 rfl ?_
      refine Wp.aload_n dX4_pair_9 rfl (by first | exact Or.inr ⟨_, rfl⟩ | exact Or.inl rfl) rfl ?_
      refine Wp.iload_n dX4_pair_10 rfl rfl ?_
      refine Wp.cV dX4_pair_11 cv_X4_29 rfl (by omega) rfl (Nat.le_of_ble_eq_true rfl) (Nat.le_of_ble_eq_true rfl) (hS.at hVc) rfl (put_GQ (d := d - 1) (a := A b) hS hCh hN hW hok rfl han (by omega) (by omega) (by omega) (by omega)) ?_
      rintro _ h1 g1
      have e_ := g1.1
      subst e_
      dsimp only [Option.toList, List.drop, List.cons_append, List.nil_append]
      exact Wp.vret dX4_pair_14 rfl (by rw [pairL_0]; exact g1)
