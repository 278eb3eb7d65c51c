/-! the net of the class: reads. A net: T things, L lines (from fr to to, start sa, rise ri) -/
def NetW (T L : Nat) (fr to : Nat → Nat) (sa ri : Nat → Int) : Prop := T ≤ 7 ∧ L ≤ 12 ∧ ∀ l, l < L → fr l < T ∧ to l < T ∧ fr l ≠ to l ∧ -100 ≤ sa l ∧ sa l ≤ 100 ∧ -20 ≤ ri l ∧ ri l ≤ 20
def NetC (h : ev_H) (a T L : Nat) (fr to : Nat → Nat) (sa ri : Nat → Int) : Prop := ∃ (V : Nat → Value) (a0 a1 a2 a3 : Nat) (g0 g1 g2 g3 : Nat → Int32), h.1 a = some (ev_ob 2 V) ∧ V 0 = .ref a0 ∧ V 1 = .ref a1 ∧ V 2 = .ref a2 ∧ V 3 = .ref a3 ∧ V 4 = .int (nI T) ∧ V 5 = .int (nI L) ∧
  h.1 a0 = some (ev_ia 12 g0) ∧ h.1 a1 = some (ev_ia 12 g1) ∧ h.1 a2 = some (ev_ia 12 g2) ∧ h.1 a3 = some (ev_ia 12 g3) ∧ (∀ l, l < L → g0 l = nI (fr l)) ∧ (∀ l, l < L → g1 l = nI (to l)) ∧ (∀ l, l < L → g2 l = iI (sa l)) ∧ (∀ l, l < L → g3 l = iI (ri l))
def sumS (f : Nat → Int) (s : Nat) : Nat → Int
  | 0 => 0
  | n + 1 => sumS f s n + (if s.testBit n then f n else 0)
theorem pow_lt7 {i : Nat} (h : i < 7) : 2 ^ i < 128 := Nat.pow_lt_pow_right (by decide) h
theorem or_lt7 {x y : Nat} (hx : x < 128) (hy : y < 128) : x ||| y < 128 := Nat.or_lt_two_pow (n := 7) hx hy
theorem and_lt7 {x y : Nat} (hx : x < 128) : x &&& y < 128 := Nat.lt_of_le_of_lt Nat.and_le_left hx
/-- the two things of a line, as bits -/
def ends (fr to : Nat → Nat) (l : Nat) : Nat := 2 ^ fr l ||| 2 ^ to l
/-- one round over the lines of a set, whichever way they go -/
def rndU (fr to : Nat → Nat) (s r : Nat) : Nat → Nat
  | 0 => r
  | l + 1 => if s.testBit l = true ∧ rndU fr to s r l &&& ends fr to l ≠ 0 then rndU fr to s r l ||| ends fr to l else rndU fr to s r l
def hangU (fr to : Nat → Nat) (s L : Nat) : Nat → Nat → Nat
  | 0, r => r
  | k + 1, r => if rndU fr to s r L = r then r else hangU fr to s L k (rndU fr to s r L)
/-- one round over the lines as they go -/
def rndD (fr to : Nat → Nat) (r : Nat) : Nat → Nat
  | 0 => r
  | l + 1 => if (rndD fr to r l).testBit (fr l) = true then rndD fr to r l ||| 2 ^ to l else rndD fr to r l
def ledD (fr to : Nat → Nat) (L : Nat) : Nat → Nat → Nat
  | 0, r => r
  | k + 1, r => if rndD fr to r L = r then r else ledD fr to L k (rndD fr to r L)
def besU (fr to : Nat → Nat) (s sd : Nat) : Nat → Nat
  | 0 => 0
  | l + 1 =>
    let r1 := if s &&& 2 ^ fr l ≠ 0 ∧ sd &&& 2 ^ to l = 0 then besU fr to s sd l ||| 2 ^ to l else besU fr to s sd l
    if s &&& 2 ^ to l ≠ 0 ∧ sd &&& 2 ^ fr l = 0 then r1 ||| 2 ^ fr l else r1
theorem ends_lt {fr to : Nat → Nat} {l : Nat} (h1 : fr l < 7) (h2 : to l < 7) : ends fr to l < 128 := or_lt7 (pow_lt7 h1) (pow_lt7 h2)
theorem rndU_lt {fr to : Nat → Nat} {s r L : Nat} (hw : ∀ l, l < L → fr l < 7 ∧ to l < 7) (hr : r < 128) : ∀ n, n ≤ L → rndU fr to s r n < 128
  | 0, _ => hr
  | n + 1, h => by
    have ih := rndU_lt hw hr (s := s) n (by omega)
    have hn := hw n (by omega)
    simp only [rndU]
    split
    · exact or_lt7 ih (ends_lt hn.1 hn.2)
    · exact ih
theorem rndD_lt {fr to : Nat → Nat} {r L : Nat} (hw : ∀ l, l < L → fr l < 7 ∧ to l < 7) (hr : r < 128) : ∀ n, n ≤ L → rndD fr to r n < 128
  | 0, _ => hr
  | n + 1, h => by
    have ih := rndD_lt hw hr n (by omega)
    have hn := hw n (by omega)
    simp only [rndD]
    split
    · exact or_lt7 ih (pow_lt7 hn.2)
    · exact ih
theorem besU_lt {fr to : Nat → Nat} {s sd L : Nat} (hw : ∀ l, l < L → fr l < 7 ∧ to l < 7) : ∀ n, n ≤ L → besU fr to s sd n < 128
  | 0, _ => (by decide : 0 < 128)
  | n + 1, h => by
    have ih := besU_lt hw (s := s) (sd := sd) n (by omega)
    have hn := hw n (by omega)
    simp only [besU]
    split <;> split <;> first | exact or_lt7 (or_lt7 ih (pow_lt7 hn.2)) (pow_lt7 hn.1) | exact or_lt7 ih (pow_lt7 hn.1) | exact or_lt7 ih (pow_lt7 hn.2) | exact ih
theorem c_X2_isThing {B : ev_B} {d a : Nat} {h : ev_H} {T L : Nat} {fr to : Nat → Nat} {sa ri : Nat → Int} {x : Int32} (hN : NetC h a T L fr to sa ri) (hW : NetW T L fr to sa ri) :
    Wp B d M_X2_isThing 0 [some (.ref a), some (.int (x))] [] h (fun v h' => v = some (.int (bI (decide (0 ≤ x.toInt ∧ x.toInt < T)))) ∧ h' = h) := by
  have hN0 := hN
  have hW0 := hW
  obtain ⟨V, a0, a1, a2, a3, g0, g1, g2, g3, hV, v0, v1, v2, v3, v4, v5, k0, k1, k2, k3, e0, e1, e2, e3⟩ := hN
  obtain ⟨hT, hL, hW⟩ := hW
  refine Wp.iload_n dX2_isThing_0 rfl rfl ?_
  refine Wp.if_lt (tgt := 16) (n := 4) dX2_isThing_1 (by decide) rfl (fun c_1 => ?_) (fun c_1 => ?_)
  · try simp (disch := omega) only [nI_bit0, nI_bit1, Bool.not_eq_false, Bool.not_eq_true] at c_1
    try simp (disch := omega) only [i_lt, i_le, i_eq, l_lt, l_le, l_eq, i_0, i_m1, l_0, nI_tI, iI_tI, lI_tI, Int.not_lt, Int.not_le] at c_1
    refine Wp.iconst (v := (nI 0)) dX2_isThing_16 (by decide) rfl ?_
    exact Wp.zret dX2_isThing_17 rfl (by decide) (q_ret (bI_f (decide_eq_false (by omega))))
  · try simp (disch := omega) only [nI_bit0, nI_bit1, Bool.not_eq_false, Bool.not_eq_true] at c_1
    try simp (disch := omega) only [i_lt, i_le, i_eq, l_lt, l_le, l_eq, i_0, i_m1, l_0, nI_tI, iI_tI, lI_tI, Int.not_lt, Int.not_le] at c_1
    refine Wp.iload_n dX2_isThing_4 rfl rfl ?_
    refine Wp.aload_n dX2_isThing_5 rfl (by first | exact Or.inr ⟨_, rfl⟩ | exact Or.inl rfl) rfl ?_
    refine Wp.get dX2_isThing_6 fl_X2_28 (by assumption) (by first | assumption | rfl) rfl ?_
    refine Wp.icmp_ge (tgt := 16) (n := 12) dX2_isThing_9 (by decide) rfl (fun c_9 => ?_) (fun c_9 => ?_)
    · try simp (disch := omega) only [nI_bit0, nI_bit1, Bool.not_eq_false, Bool.not_eq_true] at c_9
      try simp (disch := omega) only [i_lt, i_le, i_eq, l_lt, l_le, l_eq, i_0, i_m1, l_0, nI_tI, iI_tI, lI_tI, Int.not_lt, Int.not_le] at c_9
      refine Wp.iconst (v := (nI 0)) dX2_isThing_16 (by decide) rfl ?_
      exact Wp.zret dX2_isThing_17 rfl (by decide) (q_ret (bI_f (decide_eq_false (by omega))))
    · try simp (disch := omega) only [nI_bit0, nI_bit1, Bool.not_eq_false, Bool.not_eq_true] at c_9
      try simp (disch := omega) only [i_lt, i_le, i_eq, l_lt, l_le, l_eq, i_0, i_m1, l_0, nI_tI, iI_tI, lI_tI, Int.not_lt, Int.not_le] at c_9
      refine Wp.iconst (v := (nI 1)) dX2_isThing_12 (by decide) rfl ?_
      refine Wp.goto (n := 17) dX2_isThing_13 (by decide) ?_
      exact Wp.zret dX2_isThing_17 rfl (by decide) (q_ret (bI_t (decide_eq_true (by omega))))
theorem c_X2_isLine {B : ev_B} {d a : Nat} {h : ev_H} {T L : Nat} {fr to : Nat → Nat} {sa ri : Nat → Int} {x : Int32} (hN : NetC h a T L fr to sa ri) (hW : NetW T L fr to sa ri) :
    Wp B d M_X2_isLine 0 [some (.ref a), some (.int (x))] [] h (fun v h' => v = some (.int (bI (decide (0 ≤ x.toInt ∧ x.toInt < L)))) ∧ h' = h) := by
  have hN0 := hN
  have hW0 := hW
  obtain ⟨V, a0, a1, a2, a3, g0, g1, g2, g3, hV, v0, v1, v2, v3, v4, v5, k0, k1, k2, k3, e0, e1, e2, e3⟩ := hN
  obtain ⟨hT, hL, hW⟩ := hW
  refine Wp.iload_n dX2_isLine_0 rfl rfl ?_
  refine Wp.if_lt (tgt := 16) (n := 4) dX2_isLine_1 (by decide) rfl (fun c_1 => ?_) (fun c_1 => ?_)
  · try simp (disch := omega) only [nI_bit0, nI_bit1, Bool.not_eq_false, Bool.not_eq_true] at c_1
    try simp (disch := omega) only [i_lt, i_le, i_eq, l_lt, l_le, l_eq, i_0, i_m1, l_0, nI_tI, iI_tI, lI_tI, Int.not_lt, Int.not_le] at c_1
    refine Wp.iconst (v := (nI 0)) dX2_isLine_16 (by decide) rfl ?_
    exact Wp.zret dX2_isLine_17 rfl (by decide) (q_ret (bI_f (decide_eq_false (by omega))))
  · try simp (disch := omega) only [nI_bit0, nI_bit1, Bool.not_eq_false, Bool.not_eq_true] at c_1
    try simp (disch := omega) only [i_lt, i_le, i_eq, l_lt, l_le, l_eq, i_0, i_m1, l_0, nI_tI, iI_tI, lI_tI, Int.not_lt, Int.not_le] at c_1
    refine Wp.iload_n dX2_isLine_4 rfl rfl ?_
    refine Wp.aload_n dX2_isLine_5 rfl (by first | exact Or.inr ⟨_, rfl⟩ | exact Or.inl rfl) rfl ?_
    refine Wp.get dX2_isLine_6 fl_X2_31 (by assumption) (by first | assumption | rfl) rfl ?_
    refine Wp.icmp_ge (tgt := 16) (n := 12) dX2_isLine_9 (by decide) rfl (fun c_9 => ?_) (fun c_9 => ?_)
    · try simp (disch := omega) only [nI_bit0, nI_bit1, Bool.not_eq_false, Bool.not_eq_true] at c_9
      try simp (disch := omega) only [i_lt, i_le, i_eq, l_lt, l_le, l_eq, i_0, i_m1, l_0, nI_tI, iI_tI, lI_tI, Int.not_lt, Int.not_le] at c_9
      refine Wp.iconst (v := (nI 0)) dX2_isLine_16 (by decide) rfl ?_
      exact Wp.zret dX2_isLine_17 rfl (by decide) (q_ret (bI_f (decide_eq_false (by omega))))
    · try simp (disch := omega) only [nI_bit0, nI_bit1, Bool.not_eq_false, Bool.not_eq_true] at c_9
      try simp (disch := omega) only [i_lt, i_le, i_eq, l_lt, l_le, l_eq, i_0, i_m1, l_0, nI_tI, iI_tI, lI_tI, Int.not_lt, Int.not_le] at c_9
      refine Wp.iconst (v := (nI 1)) dX2_isLine_12 (by decide) rfl ?_
      refine Wp.goto (n := 17) dX2_isLine_13 (by decide) ?_
      exact Wp.zret dX2_isLine_17 rfl (by decide) (q_ret (bI_t (decide_eq_true (by omega))))
theorem c_X2_allThings {B : ev_B} {d a : Nat} {h : ev_H} {T L : Nat} {fr to : Nat → Nat} {sa ri : Nat → Int} (hN : NetC h a T L fr to sa ri) (hW : NetW T L fr to sa ri) :
    Wp B d M_X2_allThings 0 [some (.ref a)] [] h (fun v h' => v = some (.int (nI (2 ^ T - 1))) ∧ h' = h) := by
  have hN0 := hN
  have hW0 := hW
  obtain ⟨V, a0, a1, a2, a3, g0, g1, g2, g3, hV, v0, v1, v2, v3, v4, v5, k0, k1, k2, k3, e0, e1, e2, e3⟩ := hN
  obtain ⟨hT, hL, hW⟩ := hW
  refine Wp.iconst (v := (nI 1)) dX2_allThings_0 (by decide) rfl ?_
  refine Wp.aload_n dX2_allThings_1 rfl (by first | exact Or.inr ⟨_, rfl⟩ | exact Or.inl rfl) rfl ?_
  refine Wp.get dX2_allThings_2 fl_X2_28 (by assumption) (by first | assumption | rfl) rfl ?_
  refine Wp.ishl dX2_allThings_5 rfl ?_
  rw [nI_one_shl (by omega)]
  refine Wp.iconst (v := (nI 1)) dX2_allThings_6 (by decide) rfl ?_
  refine Wp.isub dX2_allThings_7 rfl ?_
  rw [pk_sub Nat.one_le_two_pow]
  exact Wp.iret dX2_allThings_8 rfl (by exact ⟨rfl, rfl⟩)
theorem c_X2_sumOver {B : ev_B} {d a : Nat} {h : ev_H} {T L : Nat} {fr to : Nat → Nat} {sa ri : Nat → Int} {b s : Nat} {g : Nat → Int32} {f : Nat → Int} (hN : NetC h a T L fr to sa ri) (hW : NetW T L fr to sa ri) (hb : h.1 b = some (ev_ia 12 g)) (hg : ∀ i, i < L → g i = iI (f i)) (hs : s < 4096) :
    Wp B d M_X2_sumOver 0 [some (.ref a), some (.ref b), some (.int (nI s)), none, none] [] h (fun v h' => v = some (.int (iI (sumS f s L))) ∧ h' = h) := by
  have hN0 := hN
  have hW0 := hW
  obtain ⟨V, a0, a1, a2, a3, g0, g1, g2, g3, hV, v0, v1, v2, v3, v4, v5, k0, k1, k2, k3, e0, e1, e2, e3⟩ := hN
  obtain ⟨hT, hL, hW⟩ := hW
  have loop : ∀ i, i ≤ L → Wp B d M_X2_sumOver 5 [some (.ref a), some (.ref b), some (.int (nI s)), some (.int (iI (sumS f s i))), some (.int (nI i))] [] h (fun v h' => v = some (.int (iI (sumS f s L))) ∧ h' = h) := by
    refine ev_upl L (fun i hi ih => ?_) ?_
    · refine Wp.iload dX2_sumOver_5 rfl rfl ?_
      refine Wp.aload_n dX2_sumOver_7 rfl (by first | exact Or.inr ⟨_, rfl⟩ | exact Or.inl rfl) rfl ?_
      refine Wp.get dX2_sumOver_8 fl_X2_31 (by assumption) (by first | assumption | rfl) rfl ?_
      refine Wp.icmp_ge (tgt := 36) (n := 14) dX2_sumOver_11 (by decide) rfl (fun c_11 => ?_) (fun c_11 => ?_)
      · try simp (disch := omega) only [nI_bit0, nI_bit1, Bool.not_eq_false, Bool.not_eq_true] at c_11
        try simp (disch := omega) only [i_lt, i_le, i_eq, l_lt, l_le, l_eq, i_0, i_m1, l_0, nI_tI, iI_tI, lI_tI, Int.not_lt, Int.not_le] at c_11
        omega
      · try simp (disch := omega) only [nI_bit0, nI_bit1, Bool.not_eq_false, Bool.not_eq_true] at c_11
        try simp (disch := omega) only [i_lt, i_le, i_eq, l_lt, l_le, l_eq, i_0, i_m1, l_0, nI_tI, iI_tI, lI_tI, Int.not_lt, Int.not_le] at c_11
        refine Wp.iload_n dX2_sumOver_14 rfl rfl ?_
        refine Wp.iload dX2_sumOver_15 rfl rfl ?_
        refine Wp.ishr dX2_sumOver_17 rfl ?_
        refine Wp.iconst (v := (nI 1)) dX2_sumOver_18 (by decide) rfl ?_
        refine Wp.iand dX2_sumOver_19 rfl ?_
        refine Wp.if_eq (tgt := 30) (n := 23) dX2_sumOver_20 (by decide) rfl (fun c_20 => ?_) (fun c_20 => ?_)
        · try simp (disch := omega) only [nI_bit0, nI_bit1, Bool.not_eq_false, Bool.not_eq_true] at c_20
          try simp (disch := omega) only [i_lt, i_le, i_eq, l_lt, l_le, l_eq, i_0, i_m1, l_0, nI_tI, iI_tI, lI_tI, Int.not_lt, Int.not_le] at c_20
          refine Wp.iinc (v := _ + (nI 1)) dX2_sumOver_30 rfl rfl (Nat.le_of_ble_eq_true rfl) (by dsimp only [ev_st1, ev_cl] <;> rfl) rfl ?_
          refine Wp.goto (n := 5) dX2_sumOver_33 (by decide) ?_
          rw [nI_add1]
          simp [sumS, *] at ih
          exact ih
        · try simp (disch := omega) only [nI_bit0, nI_bit1, Bool.not_eq_false, Bool.not_eq_true] at c_20
          try simp (disch := omega) only [i_lt, i_le, i_eq, l_lt, l_le, l_eq, i_0, i_m1, l_0, nI_tI, iI_tI, lI_tI, Int.not_lt, Int.not_le] at c_20
          refine Wp.iload_n dX2_sumOver_23 rfl rfl ?_
          refine Wp.aload_n dX2_sumOver_24 rfl (by first | exact Or.inr ⟨_, rfl⟩ | exact Or.inl rfl) rfl ?_
          refine Wp.iload dX2_sumOver_25 rfl rfl ?_
          refine Wp.iaload dX2_sumOver_27 (by assumption) (nI_toInt (by omega)) (by omega) rfl ?_
          refine Wp.iadd dX2_sumOver_28 rfl ?_
          rw [hg i (by omega), iI_add]
          refine Wp.istore_n dX2_sumOver_29 (Nat.le_of_ble_eq_true rfl) (by dsimp only [ev_st1, ev_st2, ev_cl] <;> rfl) rfl ?_
          refine Wp.iinc (v := _ + (nI 1)) dX2_sumOver_30 rfl rfl (Nat.le_of_ble_eq_true rfl) (by dsimp only [ev_st1, ev_cl] <;> rfl) rfl ?_
          refine Wp.goto (n := 5) dX2_sumOver_33 (by decide) ?_
          rw [nI_add1]
          simp [sumS, *] at ih
          exact ih
    · refine Wp.iload dX2_sumOver_5 rfl rfl ?_
      refine Wp.aload_n dX2_sumOver_7 rfl (by first | exact Or.inr ⟨_, rfl⟩ | exact Or.inl rfl) rfl ?_
      refine Wp.get dX2_sumOver_8 fl_X2_31 (by assumption) (by first | assumption | rfl) rfl ?_
      refine Wp.icmp_ge (tgt := 36) (n := 14) dX2_sumOver_11 (by decide) rfl (fun c_11 => ?_) (fun c_11 => ?_)
      · try simp (disch := omega) only [nI_bit0, nI_bit1, Bool.not_eq_false, Bool.not_eq_true] at c_11
        try simp (disch := omega) only [i_lt, i_le, i_eq, l_lt, l_le, l_eq, i_0, i_m1, l_0, nI_tI, iI_tI, lI_tI, Int.not_lt, Int.not_le] at c_11
        refine Wp.iload_n dX2_sumOver_36 rfl rfl ?_
        exact Wp.iret dX2_sumOver_37 rfl (by exact ⟨rfl, rfl⟩)
      · try simp (disch := omega) only [nI_bit0, nI_bit1, Bool.not_eq_false, Bool.not_eq_true] at c_11
        try simp (disch := omega) only [i_lt, i_le, i_eq, l_lt, l_le, l_eq, i_0, i_m1, l_0, nI_tI, iI_tI, lI_tI, Int.not_lt, Int.not_le] at c_11
        omega
  refine Wp.iconst (v := (nI 0)) dX2_sumOver_0 (by decide) rfl ?_
  refine Wp.istore_n dX2_sumOver_1 (Nat.le_of_ble_eq_true rfl) (by dsimp only [ev_st1, ev_st2, ev_cl] <;> rfl) rfl ?_
  refine Wp.iconst (v := (nI 0)) dX2_sumOver_2 (by decide) rfl ?_
  refine Wp.istore dX2_sumOver_3 (Nat.le_of_ble_eq_true rfl) (by dsimp only [ev_st1, ev_st2, ev_cl] <;> rfl) rfl ?_
  exact loop 0 (by omega)
theorem c_X2_lineCost {B : ev_B} {d a : Nat} {h : ev_H} {T L : Nat} {fr to : Nat → Nat} {sa ri : Nat → Int} {l : Nat} {p q : Int32} (hN : NetC h a T L fr to sa ri) (hW : NetW T L fr to sa ri) (hl : l < L) :
    Wp B d M_X2_lineCost 0 [some (.ref a), some (.int (nI l)), some (.int (p)), some (.int (q))] [] h (fun v h' => v = some (.long (lI (sa l * q.toInt + ri l * p.toInt))) ∧ h' = h) := by
  have hN0 := hN
  have hW0 := hW
  obtain ⟨V, a0, a1, a2, a3, g0, g1, g2, g3, hV, v0, v1, v2, v3, v4, v5, k0, k1, k2, k3, e0, e1, e2, e3⟩ := hN
  obtain ⟨hT, hL, hW⟩ := hW
  have hw := hW l hl
  refine Wp.aload_n dX2_lineCost_0 rfl (by first | exact Or.inr ⟨_, rfl⟩ | exact Or.inl rfl) rfl ?_
  refine Wp.get dX2_lineCost_1 fl_X2_18 (by assumption) (by first | assumption | rfl) rfl ?_
  refine Wp.iload_n dX2_lineCost_4 rfl rfl ?_
  refine Wp.iaload dX2_lineCost_5 (by assumption) (nI_toInt (by omega)) (by omega) rfl ?_
  rw [e2 l hl]
  refine Wp.i2l dX2_lineCost_6 rfl ?_
  rw [iI_l (by omega) (by omega)]
  refine Wp.iload_n dX2_lineCost_7 rfl rfl ?_
  refine Wp.i2l dX2_lineCost_8 rfl ?_
  rw [i2l_lI]
  refine Wp.lmul dX2_lineCost_9 rfl ?_
  rw [lI_mul]
  refine Wp.aload_n dX2_lineCost_10 rfl (by first | exact Or.inr ⟨_, rfl⟩ | exact Or.inl rfl) rfl ?_
  refine Wp.get dX2_lineCost_11 fl_X2_21 (by assumption) (by first | assumption | rfl) rfl ?_
  refine Wp.iload_n dX2_lineCost_14 rfl rfl ?_
  refine Wp.iaload dX2_lineCost_15 (by assumption) (nI_toInt (by omega)) (by omega) rfl ?_
  rw [e3 l hl]
  refine Wp.i2l dX2_lineCost_16 rfl ?_
  rw [iI_l (by omega) (by omega)]
  refine Wp.iload_n dX2_lineCost_17 rfl rfl ?_
  refine Wp.i2l dX2_lineCost_18 rfl ?_
  rw [i2l_lI]
  refine Wp.lmul dX2_lineCost_19 rfl ?_
  rw [lI_mul]
  refine Wp.ladd dX2_lineCost_20 rfl ?_
  rw [lI_add]
  exact Wp.lret dX2_lineCost_21 rfl (by exact ⟨rfl, rfl⟩)
theorem hang_eq {fr to : Nat → Nat} {s L k r : Nat} (h : rndU fr to s r L = r) : hangU fr to s L k r = r := by
  cases k with
  | zero => rfl
  | succ k => simp [hangU, h]
theorem led_eq {fr to : Nat → Nat} {L k r : Nat} (h : rndD fr to r L = r) : ledD fr to L k r = r := by
  cases k with
  | zero => rfl
  | succ k => simp [ledD, h]
theorem c_X2_hangingWith {B : ev_B} {d a : Nat} {h : ev_H} {T L : Nat} {fr to : Nat → Nat} {sa ri : Nat → Int} {t s : Nat} (hN : NetC h a T L fr to sa ri) (hW : NetW T L fr to sa ri) (ht : t < T) (hs : s < 4096) :
    Wp B d M_X2_hangingWith 0 [some (.ref a), some (.int (nI t)), some (.int (nI s)), none, none, none, none, none] [] h (fun v h' => v = some (.int (nI (hangU fr to s L T (2 ^ t)))) ∧ h' = h) := by
  have hN0 := hN
  have hW0 := hW
  obtain ⟨V, a0, a1, a2, a3, g0, g1, g2, g3, hV, v0, v1, v2, v3, v4, v5, k0, k1, k2, k3, e0, e1, e2, e3⟩ := hN
  obtain ⟨hT, hL, hW⟩ := hW
  have hwl : ∀ l, l < L → fr l < 7 ∧ to l < 7 := fun l hl => ⟨by have := hW l hl; omega, by have := hW l hl; omega⟩
  have outer : ∀ k rd r, rd + k = T → r < 128 → ∀ (j5 j6 j7 : Option Value), Wp B d M_X2_hangingWith 7 [some (.ref a), some (.int (nI t)), some (.int (nI s)), some (.int (nI r)), some (.int (nI rd)), j5, j6, j7] [] h (fun v h' => v = some (.int (nI (hangU fr to s L k r))) ∧ h' = h) := by
    intro k
    induction k with
    | zero =>
      intro rd r hk hr j5 j6 j7
      refine Wp.iload dX2_hangingWith_7 rfl rfl ?_
      refine Wp.aload_n dX2_hangingWith_9 rfl (by first | exact Or.inr ⟨_, rfl⟩ | exact Or.inl rfl) rfl ?_
      refine Wp.get dX2_hangingWith_10 fl_X2_28 (by assumption) (by first | assumption | rfl) rfl ?_
      refine Wp.icmp_ge (tgt := 94) (n := 16) dX2_hangingWith_13 (by decide) rfl (fun c_13 => ?_) (fun c_13 => ?_)
      · try simp (disch := omega) only [nI_bit0, nI_bit1, Bool.not_eq_false, Bool.not_eq_true] at c_13
        try simp (disch := omega) only [i_lt, i_le, i_eq, l_lt, l_le, l_eq, i_0, i_m1, l_0, nI_tI, iI_tI, lI_tI, Int.not_lt, Int.not_le] at c_13
        refine Wp.iload_n dX2_hangingWith_94 rfl rfl ?_
        exact Wp.iret dX2_hangingWith_95 rfl (by exact ⟨rfl, rfl⟩)
      · try simp (disch := omega) only [nI_bit0, nI_bit1, Bool.not_eq_false, Bool.not_eq_true] at c_13
        try simp (disch := omega) only [i_lt, i_le, i_eq, l_lt, l_le, l_eq, i_0, i_m1, l_0, nI_tI, iI_tI, lI_tI, Int.not_lt, Int.not_le] at c_13
        omega
    | succ k ih =>
      intro rd r hk hr j5 j6 j7
      have loop : ∀ i, i ≤ L → ∀ (j7 : Option Value), Wp B d M_X2_hangingWith 22 [some (.ref a), some (.int (nI t)), some (.int (nI s)), some (.int (nI (rndU fr to s r i))), some (.int (nI rd)), some (.int (nI r)), some (.int (nI i)), j7] [] h (fun v h' => v = some (.int (nI (hangU fr to s L (k + 1) r))) ∧ h' = h) := by
        refine ev_upl L (fun i hi ih => ?_) ?_
        · intro j7
          have hw := hW i hi
          have hr1 := rndU_lt (s := s) hwl hr i (by omega)
          refine Wp.iload dX2_hangingWith_22 rfl rfl ?_
          refine Wp.aload_n dX2_hangingWith_24 rfl (by first | exact Or.inr ⟨_, rfl⟩ | exact Or.inl rfl) rfl ?_
          refine Wp.get dX2_hangingWith_25 fl_X2_31 (by assumption) (by first | assumption | rfl) rfl ?_
          refine Wp.icmp_ge (tgt := 79) (n := 31) dX2_hangingWith_28 (by decide) rfl (fun c_28 => ?_) (fun c_28 => ?_)
          · try simp (disch := omega) only [nI_bit0, nI_bit1, Bool.not_eq_false, Bool.not_eq_true] at c_28
            try simp (disch := omega) only [i_lt, i_le, i_eq, l_lt, l_le, l_eq, i_0, i_m1, l_0, nI_tI, iI_tI, lI_tI, Int.not_lt, Int.not_le] at c_28
            omega
          · try simp (disch := omega) only [nI_bit0, nI_bit1, Bool.not_eq_false, Bool.not_eq_true] at c_28
            try simp (disch := omega) only [i_lt, i_le, i_eq, l_lt, l_le, l_eq, i_0, i_m1, l_0, nI_tI, iI_tI, lI_tI, Int.not_lt, Int.not_le] at c_28
            refine Wp.iconst (v := (nI 1)) dX2_hangingWith_31 (by decide) rfl ?_
            refine Wp.aload_n dX2_hangingWith_32 rfl (by first | exact Or.inr ⟨_, rfl⟩ | exact Or.inl rfl) rfl ?_
            refine Wp.get dX2_hangingWith_33 fl_X2_9 (by assumption) (by first | assumption | rfl) rfl ?_
            refine Wp.iload dX2_hangingWith_36 rfl rfl ?_
            refine Wp.iaload dX2_hangingWith_38 (by assumption) (nI_toInt (by omega)) (by omega) rfl ?_
            rw [e0 i hi]
            refine Wp.ishl dX2_hangingWith_39 rfl ?_
            rw [nI_one_shl (by omega)]
            refine Wp.iconst (v := (nI 1)) dX2_hangingWith_40 (by decide) rfl ?_
            refine Wp.aload_n dX2_hangingWith_41 rfl (by first | exact Or.inr ⟨_, rfl⟩ | exact Or.inl rfl) rfl ?_
            refine Wp.get dX2_hangingWith_42 fl_X2_15 (by assumption) (by first | assumption | rfl) rfl ?_
            refine Wp.iload dX2_hangingWith_45 rfl rfl ?_
            refine Wp.iaload dX2_hangingWith_47 (by assumption) (nI_toInt (by omega)) (by omega) rfl ?_
            rw [e1 i hi]
            refine Wp.ishl dX2_hangingWith_48 rfl ?_
            rw [nI_one_shl (by omega)]
            refine Wp.ior dX2_hangingWith_49 rfl ?_
            rw [nI_or]
            refine Wp.istore dX2_hangingWith_50 (Nat.le_of_ble_eq_true rfl) (by dsimp only [ev_st1, ev_st2, ev_cl] <;> rfl) rfl ?_
            refine Wp.iload_n dX2_hangingWith_52 rfl rfl ?_
            refine Wp.iload dX2_hangingWith_53 rfl rfl ?_
            refine Wp.ishr dX2_hangingWith_55 rfl ?_
            refine Wp.iconst (v := (nI 1)) dX2_hangingWith_56 (by decide) rfl ?_
            refine Wp.iand dX2_hangingWith_57 rfl ?_
            refine Wp.if_eq (tgt := 73) (n := 61) dX2_hangingWith_58 (by decide) rfl (fun c_58 => ?_) (fun c_58 => ?_)
            · try simp (disch := omega) only [nI_bit0, nI_bit1, Bool.not_eq_false, Bool.not_eq_true] at c_58
              try simp (disch := omega) only [i_lt, i_le, i_eq, l_lt, l_le, l_eq, i_0, i_m1, l_0, nI_tI, iI_tI, lI_tI, Int.not_lt, Int.not_le] at c_58
              refine Wp.iinc (v := _ + (nI 1)) dX2_hangingWith_73 rfl rfl (Nat.le_of_ble_eq_true rfl) (by dsimp only [ev_st1, ev_cl] <;> rfl) rfl ?_
              refine Wp.goto (n := 22) dX2_hangingWith_76 (by decide) ?_
              rw [nI_add1]
              simp [rndU, ends, *] at ih
              exact ih _
            · try simp (disch := omega) only [nI_bit0, nI_bit1, Bool.not_eq_false, Bool.not_eq_true] at c_58
              try simp (disch := omega) only [i_lt, i_le, i_eq, l_lt, l_le, l_eq, i_0, i_m1, l_0, nI_tI, iI_tI, lI_tI, Int.not_lt, Int.not_le] at c_58
              refine Wp.iload_n dX2_hangingWith_61 rfl rfl ?_
              refine Wp.iload dX2_hangingWith_62 rfl rfl ?_
              refine Wp.iand dX2_hangingWith_64 rfl ?_
              rw [nI_and]
              refine Wp.if_eq (tgt := 73) (n := 68) dX2_hangingWith_65 (by decide) rfl (fun c_65 => ?_) (fun c_65 => ?_)
              · rw [nI_eq0 (by have := and_lt7 (y := 2 ^ fr i ||| 2 ^ to i) hr1; omega)] at c_65
                refine Wp.iinc (v := _ + (nI 1)) dX2_hangingWith_73 rfl rfl (Nat.le_of_ble_eq_true rfl) (by dsimp only [ev_st1, ev_cl] <;> rfl) rfl ?_
                refine Wp.goto (n := 22) dX2_hangingWith_76 (by decide) ?_
                rw [nI_add1]
                simp [rndU, ends, *] at ih
                exact ih _
              · rw [nI_eq0 (by have := and_lt7 (y := 2 ^ fr i ||| 2 ^ to i) hr1; omega)] at c_65
                refine Wp.iload_n dX2_hangingWith_68 rfl rfl ?_
                refine Wp.iload dX2_hangingWith_69 rfl rfl ?_
                refine Wp.ior dX2_hangingWith_71 rfl ?_
                rw [nI_or]
                refine Wp.istore_n dX2_hangingWith_72 (Nat.le_of_ble_eq_true rfl) (by dsimp only [ev_st1, ev_st2, ev_cl] <;> rfl) rfl ?_
                refine Wp.iinc (v := _ + (nI 1)) dX2_hangingWith_73 rfl rfl (Nat.le_of_ble_eq_true rfl) (by dsimp only [ev_st1, ev_cl] <;> rfl) rfl ?_
                refine Wp.goto (n := 22) dX2_hangingWith_76 (by decide) ?_
                rw [nI_add1]
                simp [rndU, ends, *] at ih
                exact ih _
        · intro j7
          have hr1 := rndU_lt (s := s) hwl hr L (by omega)
          refine Wp.iload dX2_hangingWith_22 rfl rfl ?_
          refine Wp.aload_n dX2_hangingWith_24 rfl (by first | exact Or.inr ⟨_, rfl⟩ | exact Or.inl rfl) rfl ?_
          refine Wp.get dX2_hangingWith_25 fl_X2_31 (by assumption) (by first | assumption | rfl) rfl ?_
          refine Wp.icmp_ge (tgt := 79) (n := 31) dX2_hangingWith_28 (by decide) rfl (fun c_28 => ?_) (fun c_28 => ?_)
          · try simp (disch := omega) only [nI_bit0, nI_bit1, Bool.not_eq_false, Bool.not_eq_true] at c_28
            try simp (disch := omega) only [i_lt, i_le, i_eq, l_lt, l_le, l_eq, i_0, i_m1, l_0, nI_tI, iI_tI, lI_tI, Int.not_lt, Int.not_le] at c_28
            refine Wp.iload_n dX2_hangingWith_79 rfl rfl ?_
            refine Wp.iload dX2_hangingWith_80 rfl rfl ?_
            refine Wp.icmp_ne (tgt := 88) (n := 85) dX2_hangingWith_82 (by decide) rfl (fun c_82 => ?_) (fun c_82 => ?_)
            · rw [nI_eq (by omega) (by omega)] at c_82
              refine Wp.iinc (v := _ + (nI 1)) dX2_hangingWith_88 rfl rfl (Nat.le_of_ble_eq_true rfl) (by dsimp only [ev_st1, ev_cl] <;> rfl) rfl ?_
              refine Wp.goto (n := 7) dX2_hangingWith_91 (by decide) ?_
              rw [nI_add1, show hangU fr to s L (k + 1) r = hangU fr to s L k (rndU fr to s r L) from by simp [hangU, c_82]]
              exact ih (rd + 1) (rndU fr to s r L) (by omega) hr1 _ _ _
            · rw [nI_eq (by omega) (by omega)] at c_82
              refine Wp.goto (n := 94) dX2_hangingWith_85 (by decide) ?_
              refine Wp.iload_n dX2_hangingWith_94 rfl rfl ?_
              exact Wp.iret dX2_hangingWith_95 rfl (by rw [hang_eq c_82, c_82]; exact ⟨rfl, rfl⟩)
          · try simp (disch := omega) only [nI_bit0, nI_bit1, Bool.not_eq_false, Bool.not_eq_true] at c_28
            try simp (disch := omega) only [i_lt, i_le, i_eq, l_lt, l_le, l_eq, i_0, i_m1, l_0, nI_tI, iI_tI, lI_tI, Int.not_lt, Int.not_le] at c_28
            omega
      refine Wp.iload dX2_hangingWith_7 rfl rfl ?_
      refine Wp.aload_n dX2_hangingWith_9 rfl (by first | exact Or.inr ⟨_, rfl⟩ | exact Or.inl rfl) rfl ?_
      refine Wp.get dX2_hangingWith_10 fl_X2_28 (by assumption) (by first | assumption | rfl) rfl ?_
      refine Wp.icmp_ge (tgt := 94) (n := 16) dX2_hangingWith_13 (by decide) rfl (fun c_13 => ?_) (fun c_13 => ?_)
      · try simp (disch := omega) only [nI_bit0, nI_bit1, Bool.not_eq_false, Bool.not_eq_true] at c_13
        try simp (disch := omega) only [i_lt, i_le, i_eq, l_lt, l_le, l_eq, i_0, i_m1, l_0, nI_tI, iI_tI, lI_tI, Int.not_lt, Int.not_le] at c_13
        omega
      · try simp (disch := omega) only [nI_bit0, nI_bit1, Bool.not_eq_false, Bool.not_eq_true] at c_13
        try simp (disch := omega) only [i_lt, i_le, i_eq, l_lt, l_le, l_eq, i_0, i_m1, l_0, nI_tI, iI_tI, lI_tI, Int.not_lt, Int.not_le] at c_13
        refine Wp.iload_n dX2_hangingWith_16 rfl rfl ?_
        refine Wp.istore dX2_hangingWith_17 (Nat.le_of_ble_eq_true rfl) (by dsimp only [ev_st1, ev_st2, ev_cl] <;> rfl) rfl ?_
        refine Wp.iconst (v := (nI 0)) dX2_hangingWith_19 (by decide) rfl ?_
        refine Wp.istore dX2_hangingWith_20 (Nat.le_of_ble_eq_true rfl) (by dsimp only [ev_st1, ev_st2, ev_cl] <;> rfl) rfl ?_
        exact loop 0 (by omega) _
  refine Wp.iconst (v := (nI 1)) dX2_hangingWith_0 (by decide) rfl ?_
  refine Wp.iload_n dX2_hangingWith_1 rfl rfl ?_
  refine Wp.ishl dX2_hangingWith_2 rfl ?_
  rw [nI_one_shl (by omega)]
  refine Wp.istore_n dX2_hangingWith_3 (Nat.le_of_ble_eq_true rfl) (by dsimp only [ev_st1, ev_st2, ev_cl] <;> rfl) rfl ?_
  refine Wp.iconst (v := (nI 0)) dX2_hangingWith_4 (by decide) rfl ?_
  refine Wp.istore dX2_hangingWith_5 (Nat.le_of_ble_eq_true rfl) (by dsimp only [ev_st1, ev_st2, ev_cl] <;> rfl) rfl ?_
  exact outer T 0 (2 ^ t) (by omega) (pow_lt7 (by omega)) _ _ _
theorem c_X2_ledToFrom {B : ev_B} {d a : Nat} {h : ev_H} {T L : Nat} {fr to : Nat → Nat} {sa ri : Nat → Int} {t : Nat} (hN : NetC h a T L fr to sa ri) (hW : NetW T L fr to sa ri) (ht : t < T) :
    Wp B d M_X2_ledToFrom 0 [some (.ref a), some (.int (nI t)), none, none, none, none] [] h (fun v h' => v = some (.int (nI (ledD fr to L T (2 ^ t)))) ∧ h' = h) := by
  have hN0 := hN
  have hW0 := hW
  obtain ⟨V, a0, a1, a2, a3, g0, g1, g2, g3, hV, v0, v1, v2, v3, v4, v5, k0, k1, k2, k3, e0, e1, e2, e3⟩ := hN
  obtain ⟨hT, hL, hW⟩ := hW
  have hwl : ∀ l, l < L → fr l < 7 ∧ to l < 7 := fun l hl => ⟨by have := hW l hl; omega, by have := hW l hl; omega⟩
  have outer : ∀ k rd r, rd + k = T → r < 128 → ∀ (j5 j6 : Option Value), Wp B d M_X2_ledToFrom 6 [some (.ref a), some (.int (nI t)), some (.int (nI r)), some (.int (nI rd)), j5, j6] [] h (fun v h' => v = some (.int (nI (ledD fr to L k r))) ∧ h' = h) := by
    intro k
    induction k with
    | zero =>
      intro rd r hk hr j5 j6
      refine Wp.iload_n dX2_ledToFrom_6 rfl rfl ?_
      refine Wp.aload_n dX2_ledToFrom_7 rfl (by first | exact Or.inr ⟨_, rfl⟩ | exact Or.inl rfl) rfl ?_
      refine Wp.get dX2_ledToFrom_8 fl_X2_28 (by assumption) (by first | assumption | rfl) rfl ?_
      refine Wp.icmp_ge (tgt := 76) (n := 14) dX2_ledToFrom_11 (by decide) rfl (fun c_11 => ?_) (fun c_11 => ?_)
      · try simp (disch := omega) only [nI_bit0, nI_bit1, Bool.not_eq_false, Bool.not_eq_true] at c_11
        try simp (disch := omega) only [i_lt, i_le, i_eq, l_lt, l_le, l_eq, i_0, i_m1, l_0, nI_tI, iI_tI, lI_tI, Int.not_lt, Int.not_le] at c_11
        refine Wp.iload_n dX2_ledToFrom_76 rfl rfl ?_
        exact Wp.iret dX2_ledToFrom_77 rfl (by exact ⟨rfl, rfl⟩)
      · try simp (disch := omega) only [nI_bit0, nI_bit1, Bool.not_eq_false, Bool.not_eq_true] at c_11
        try simp (disch := omega) only [i_lt, i_le, i_eq, l_lt, l_le, l_eq, i_0, i_m1, l_0, nI_tI, iI_tI, lI_tI, Int.not_lt, Int.not_le] at c_11
        omega
    | succ k ih =>
      intro rd r hk hr j5 j6
      have loop : ∀ i, i ≤ L → Wp B d M_X2_ledToFrom 20 [some (.ref a), some (.int (nI t)), some (.int (nI (rndD fr to r i))), some (.int (nI rd)), some (.int (nI r)), some (.int (nI i))] [] h (fun v h' => v = some (.int (nI (ledD fr to L (k + 1) r))) ∧ h' = h) := by
        refine ev_upl L (fun i hi ih => ?_) ?_
        · have hw := hW i hi
          have hr1 := rndD_lt hwl hr i (by omega)
          refine Wp.iload dX2_ledToFrom_20 rfl rfl ?_
          refine Wp.aload_n dX2_ledToFrom_22 rfl (by first | exact Or.inr ⟨_, rfl⟩ | exact Or.inl rfl) rfl ?_
          refine Wp.get dX2_ledToFrom_23 fl_X2_31 (by assumption) (by first | assumption | rfl) rfl ?_
          refine Wp.icmp_ge (tgt := 61) (n := 29) dX2_ledToFrom_26 (by decide) rfl (fun c_26 => ?_) (fun c_26 => ?_)
          · try simp (disch := omega) only [nI_bit0, nI_bit1, Bool.not_eq_false, Bool.not_eq_true] at c_26
            try simp (disch := omega) only [i_lt, i_le, i_eq, l_lt, l_le, l_eq, i_0, i_m1, l_0, nI_tI, iI_tI, lI_tI, Int.not_lt, Int.not_le] at c_26
            omega
          · try simp (disch := omega) only [nI_bit0, nI_bit1, Bool.not_eq_false, Bool.not_eq_true] at c_26
            try simp (disch := omega) only [i_lt, i_le, i_eq, l_lt, l_le, l_eq, i_0, i_m1, l_0, nI_tI, iI_tI, lI_tI, Int.not_lt, Int.not_le] at c_26
            refine Wp.iload_n dX2_ledToFrom_29 rfl rfl ?_
            refine Wp.aload_n dX2_ledToFrom_30 rfl (by first | exact Or.inr ⟨_, rfl⟩ | exact Or.inl rfl) rfl ?_
            refine Wp.get dX2_ledToFrom_31 fl_X2_9 (by assumption) (by first | assumption | rfl) rfl ?_
            refine Wp.iload dX2_ledToFrom_34 rfl rfl ?_
            refine Wp.iaload dX2_ledToFrom_36 (by assumption) (nI_toInt (by omega)) (by omega) rfl ?_
            rw [e0 i hi]
            refine Wp.ishr dX2_ledToFrom_37 rfl ?_
            refine Wp.iconst (v := (nI 1)) dX2_ledToFrom_38 (by decide) rfl ?_
            refine Wp.iand dX2_ledToFrom_39 rfl ?_
            refine Wp.if_eq (tgt := 55) (n := 43) dX2_ledToFrom_40 (by decide) rfl (fun c_40 => ?_) (fun c_40 => ?_)
            · try simp (disch := omega) only [nI_bit0, nI_bit1, Bool.not_eq_false, Bool.not_eq_true] at c_40
              try simp (disch := omega) only [i_lt, i_le, i_eq, l_lt, l_le, l_eq, i_0, i_m1, l_0, nI_tI, iI_tI, lI_tI, Int.not_lt, Int.not_le] at c_40
              refine Wp.iinc (v := _ + (nI 1)) dX2_ledToFrom_55 rfl rfl (Nat.le_of_ble_eq_true rfl) (by dsimp only [ev_st1, ev_cl] <;> rfl) rfl ?_
              refine Wp.goto (n := 20) dX2_ledToFrom_58 (by decide) ?_
              rw [nI_add1]
              simp [rndD, *] at ih
              exact ih
            · try simp (disch := omega) only [nI_bit0, nI_bit1, Bool.not_eq_false, Bool.not_eq_true] at c_40
              try simp (disch := omega) only [i_lt, i_le, i_eq, l_lt, l_le, l_eq, i_0, i_m1, l_0, nI_tI, iI_tI, lI_tI, Int.not_lt, Int.not_le] at c_40
              refine Wp.iload_n dX2_ledToFrom_43 rfl rfl ?_
              refine Wp.iconst (v := (nI 1)) dX2_ledToFrom_44 (by decide) rfl ?_
              refine Wp.aload_n dX2_ledToFrom_45 rfl (by first | exact Or.inr ⟨_, rfl⟩ | exact Or.inl rfl) rfl ?_
              refine Wp.get dX2_ledToFrom_46 fl_X2_15 (by assumption) (by first | assumption | rfl) rfl ?_
              refine Wp.iload dX2_ledToFrom_49 rfl rfl ?_
              refine Wp.iaload dX2_ledToFrom_51 (by assumption) (nI_toInt (by omega)) (by omega) rfl ?_
              rw [e1 i hi]
              refine Wp.ishl dX2_ledToFrom_52 rfl ?_
              rw [nI_one_shl (by omega)]
              refine Wp.ior dX2_ledToFrom_53 rfl ?_
              rw [nI_or]
              refine Wp.istore_n dX2_ledToFrom_54 (Nat.le_of_ble_eq_true rfl) (by dsimp only [ev_st1, ev_st2, ev_cl] <;> rfl) rfl ?_
              refine Wp.iinc (v := _ + (nI 1)) dX2_ledToFrom_55 rfl rfl (Nat.le_of_ble_eq_true rfl) (by dsimp only [ev_st1, ev_cl] <;> rfl) rfl ?_
              refine Wp.goto (n := 20) dX2_ledToFrom_58 (by decide) ?_
              rw [nI_add1]
              simp [rndD, *] at ih
              exact ih
        · have hr1 := rndD_lt hwl hr L (by omega)
          refine Wp.iload dX2_ledToFrom_20 rfl rfl ?_
          refine Wp.aload_n dX2_ledToFrom_22 rfl (by first | exact Or.inr ⟨_, rfl⟩ | exact Or.inl rfl) rfl ?_
          refine Wp.get dX2_ledToFrom_23 fl_X2_31 (by assumption) (by first | assumption | rfl) rfl ?_
          refine Wp.icmp_ge (tgt := 61) (n := 29) dX2_ledToFrom_26 (by decide) rfl (fun c_26 => ?_) (fun c_26 => ?_)
          · try simp (disch := omega) only [nI_bit0, nI_bit1, Bool.not_eq_false, Bool.not_eq_true] at c_26
            try simp (disch := omega) only [i_lt, i_le, i_eq, l_lt, l_le, l_eq, i_0, i_m1, l_0, nI_tI, iI_tI, lI_tI, Int.not_lt, Int.not_le] at c_26
            refine Wp.iload_n dX2_ledToFrom_61 rfl rfl ?_
            refine Wp.iload dX2_ledToFrom_62 rfl rfl ?_
            refine Wp.icmp_ne (tgt := 70) (n := 67) dX2_ledToFrom_64 (by decide) rfl (fun c_64 => ?_) (fun c_64 => ?_)
            · rw [nI_eq (by omega) (by omega)] at c_64
              refine Wp.iinc (v := _ + (nI 1)) dX2_ledToFrom_70 rfl rfl (Nat.le_of_ble_eq_true rfl) (by dsimp only [ev_st1, ev_cl] <;> rfl) rfl ?_
              refine Wp.goto (n := 6) dX2_ledToFrom_73 (by decide) ?_
              rw [nI_add1, show ledD fr to L (k + 1) r = ledD fr to L k (rndD fr to r L) from by simp [ledD, c_64]]
              exact ih (rd + 1) (rndD fr to r L) (by omega) hr1 _ _
            · rw [nI_eq (by omega) (by omega)] at c_64
              refine Wp.goto (n := 76) dX2_ledToFrom_67 (by decide) ?_
              refine Wp.iload_n dX2_ledToFrom_76 rfl rfl ?_
              exact Wp.iret dX2_ledToFrom_77 rfl (by rw [led_eq c_64, c_64]; exact ⟨rfl, rfl⟩)
          · try simp (disch := omega) only [nI_bit0, nI_bit1, Bool.not_eq_false, Bool.not_eq_true] at c_26
            try simp (disch := omega) only [i_lt, i_le, i_eq, l_lt, l_le, l_eq, i_0, i_m1, l_0, nI_tI, iI_tI, lI_tI, Int.not_lt, Int.not_le] at c_26
            omega
      refine Wp.iload_n dX2_ledToFrom_6 rfl rfl ?_
      refine Wp.aload_n dX2_ledToFrom_7 rfl (by first | exact Or.inr ⟨_, rfl⟩ | exact Or.inl rfl) rfl ?_
      refine Wp.get dX2_ledToFrom_8 fl_X2_28 (by assumption) (by first | assumption | rfl) rfl ?_
      refine Wp.icmp_ge (tgt := 76) (n := 14) dX2_ledToFrom_11 (by decide) rfl (fun c_11 => ?_) (fun c_11 => ?_)
      · try simp (disch := omega) only [nI_bit0, nI_bit1, Bool.not_eq_false, Bool.not_eq_true] at c_11
        try simp (disch := omega) only [i_lt, i_le, i_eq, l_lt, l_le, l_eq, i_0, i_m1, l_0, nI_tI, iI_tI, lI_tI, Int.not_lt, Int.not_le] at c_11
        omega
      · try simp (disch := omega) only [nI_bit0, nI_bit1, Bool.not_eq_false, Bool.not_eq_true] at c_11
        try simp (disch := omega) only [i_lt, i_le, i_eq, l_lt, l_le, l_eq, i_0, i_m1, l_0, nI_tI, iI_tI, lI_tI, Int.not_lt, Int.not_le] at c_11
        refine Wp.iload_n dX2_ledToFrom_14 rfl rfl ?_
        refine Wp.istore dX2_ledToFrom_15 (Nat.le_of_ble_eq_true rfl) (by dsimp only [ev_st1, ev_st2, ev_cl] <;> rfl) rfl ?_
        refine Wp.iconst (v := (nI 0)) dX2_ledToFrom_17 (by decide) rfl ?_
        refine Wp.istore dX2_ledToFrom_18 (Nat.le_of_ble_eq_true rfl) (by dsimp only [ev_st1, ev_st2, ev_cl] <;> rfl) rfl ?_
        exact loop 0 (by omega)
  refine Wp.iconst (v := (nI 1)) dX2_ledToFrom_0 (by decide) rfl ?_
  refine Wp.iload_n dX2_ledToFrom_1 rfl rfl ?_
  refine Wp.ishl dX2_ledToFrom_2 rfl ?_
  rw [nI_one_shl (by omega)]
  refine Wp.istore_n dX2_ledToFrom_3 (Nat.le_of_ble_eq_true rfl) (by dsimp only [ev_st1, ev_st2, ev_cl] <;> rfl) rfl ?_
  refine Wp.iconst (v := (nI 0)) dX2_ledToFrom_4 (by decide) rfl ?_
  refine Wp.istore_n dX2_ledToFrom_5 (Nat.le_of_ble_eq_true rfl) (by dsimp only [ev_st1, ev_st2, ev_cl] <;> rfl) rfl ?_
  exact outer T 0 (2 ^ t) (by omega) (pow_lt7 (by omega)) _ _
set_option maxHeartbeats 1000000 in
theorem c_X2_beside {B : ev_B} {d a : Nat} {h : ev_H} {T L : Nat} {fr to : Nat → Nat} {sa ri : Nat → Int} {s sd : Nat} (hN : NetC h a T L fr to sa ri) (hW : NetW T L fr to sa ri) (hs : s < 128) (hsd : sd < 128) :
    Wp B d M_X2_beside 0 [some (.ref a), some (.int (nI s)), some (.int (nI sd)), none, none, none, none] [] h (fun v h' => v = some (.int (nI (besU fr to s sd L))) ∧ h' = h) := by
  have hN0 := hN
  have hW0 := hW
  obtain ⟨V, a0, a1, a2, a3, g0, g1, g2, g3, hV, v0, v1, v2, v3, v4, v5, k0, k1, k2, k3, e0, e1, e2, e3⟩ := hN
  obtain ⟨hT, hL, hW⟩ := hW
  have hwl : ∀ l, l < L → fr l < 7 ∧ to l < 7 := fun l hl => ⟨by have := hW l hl; omega, by have := hW l hl; omega⟩
  have loop : ∀ i, i ≤ L → ∀ (j5 j6 : Option Value), Wp B d M_X2_beside 5 [some (.ref a), some (.int (nI s)), some (.int (nI sd)), some (.int (nI (besU fr to s sd i))), some (.int (nI i)), j5, j6] [] h (fun v h' => v = some (.int (nI (besU fr to s sd L))) ∧ h' = h) := by
    refine ev_upl L (fun i hi ih => ?_) ?_
    · intro j5 j6
      have hw := hW i hi
      refine Wp.iload dX2_beside_5 rfl rfl ?_
      refine Wp.aload_n dX2_beside_7 rfl (by first | exact Or.inr ⟨_, rfl⟩ | exact Or.inl rfl) rfl ?_
      refine Wp.get dX2_beside_8 fl_X2_31 (by assumption) (by first | assumption | rfl) rfl ?_
      refine Wp.icmp_ge (tgt := 80) (n := 14) dX2_beside_11 (by decide) rfl (fun c_11 => ?_) (fun c_11 => ?_)
      · try simp (disch := omega) only [nI_bit0, nI_bit1, Bool.not_eq_false, Bool.not_eq_true] at c_11
        try simp (disch := omega) only [i_lt, i_le, i_eq, l_lt, l_le, l_eq, i_0, i_m1, l_0, nI_tI, iI_tI, lI_tI, Int.not_lt, Int.not_le] at c_11
        omega
      · try simp (disch := omega) only [nI_bit0, nI_bit1, Bool.not_eq_false, Bool.not_eq_true] at c_11
        try simp (disch := omega) only [i_lt, i_le, i_eq, l_lt, l_le, l_eq, i_0, i_m1, l_0, nI_tI, iI_tI, lI_tI, Int.not_lt, Int.not_le] at c_11
        refine Wp.iconst (v := (nI 1)) dX2_beside_14 (by decide) rfl ?_
        refine Wp.aload_n dX2_beside_15 rfl (by first | exact Or.inr ⟨_, rfl⟩ | exact Or.inl rfl) rfl ?_
        refine Wp.get dX2_beside_16 fl_X2_9 (by assumption) (by first | assumption | rfl) rfl ?_
        refine Wp.iload dX2_beside_19 rfl rfl ?_
        refine Wp.iaload dX2_beside_21 (by assumption) (nI_toInt (by omega)) (by omega) rfl ?_
        rw [e0 i hi]
        refine Wp.ishl dX2_beside_22 rfl ?_
        rw [nI_one_shl (by omega)]
        refine Wp.istore dX2_beside_23 (Nat.le_of_ble_eq_true rfl) (by dsimp only [ev_st1, ev_st2, ev_cl] <;> rfl) rfl ?_
        refine Wp.iconst (v := (nI 1)) dX2_beside_25 (by decide) rfl ?_
        refine Wp.aload_n dX2_beside_26 rfl (by first | exact Or.inr ⟨_, rfl⟩ | exact Or.inl rfl) rfl ?_
        refine Wp.get dX2_beside_27 fl_X2_15 (by assumption) (by first | assumption | rfl) rfl ?_
        refine Wp.iload dX2_beside_30 rfl rfl ?_
        refine Wp.iaload dX2_beside_32 (by assumption) (nI_toInt (by omega)) (by omega) rfl ?_
        rw [e1 i hi]
        refine Wp.ishl dX2_beside_33 rfl ?_
        rw [nI_one_shl (by omega)]
        refine Wp.istore dX2_beside_34 (Nat.le_of_ble_eq_true rfl) (by dsimp only [ev_st1, ev_st2, ev_cl] <;> rfl) rfl ?_
        refine Wp.iload_n dX2_beside_36 rfl rfl ?_
        refine Wp.iload dX2_beside_37 rfl rfl ?_
        refine Wp.iand dX2_beside_39 rfl ?_
        refine Wp.if_eq (tgt := 55) (n := 43) dX2_beside_40 (by decide) rfl (fun c_40 => ?_) (fun c_40 => ?_)
        · rw [nI_and, nI_eq0 (by have := Nat.and_le_left (n := s) (m := 2 ^ fr i); omega)] at c_40
          refine Wp.iload_n dX2_beside_55 rfl rfl ?_
          refine Wp.iload dX2_beside_56 rfl rfl ?_
          refine Wp.iand dX2_beside_58 rfl ?_
          refine Wp.if_eq (tgt := 74) (n := 62) dX2_beside_59 (by decide) rfl (fun c_59 => ?_) (fun c_59 => ?_)
          · rw [nI_and, nI_eq0 (by have := Nat.and_le_left (n := s) (m := 2 ^ to i); omega)] at c_59
            refine Wp.iinc (v := _ + (nI 1)) dX2_beside_74 rfl rfl (Nat.le_of_ble_eq_true rfl) (by dsimp only [ev_st1, ev_cl] <;> rfl) rfl ?_
            refine Wp.goto (n := 5) dX2_beside_77 (by decide) ?_
            rw [nI_add1]
            simp [besU, *] at ih
            exact ih _ _
          · rw [nI_and, nI_eq0 (by have := Nat.and_le_left (n := s) (m := 2 ^ to i); omega)] at c_59
            refine Wp.iload_n dX2_beside_62 rfl rfl ?_
            refine Wp.iload dX2_beside_63 rfl rfl ?_
            refine Wp.iand dX2_beside_65 rfl ?_
            refine Wp.if_ne (tgt := 74) (n := 69) dX2_beside_66 (by decide) rfl (fun c_66 => ?_) (fun c_66 => ?_)
            · rw [nI_and, nI_eq0 (by have := Nat.and_le_left (n := sd) (m := 2 ^ fr i); omega)] at c_66
              refine Wp.iinc (v := _ + (nI 1)) dX2_beside_74 rfl rfl (Nat.le_of_ble_eq_true rfl) (by dsimp only [ev_st1, ev_cl] <;> rfl) rfl ?_
              refine Wp.goto (n := 5) dX2_beside_77 (by decide) ?_
              rw [nI_add1]
              simp [besU, *] at ih
              exact ih _ _
            · rw [nI_and, nI_eq0 (by have := Nat.and_le_left (n := sd) (m := 2 ^ fr i); omega)] at c_66
              refine Wp.iload_n dX2_beside_69 rfl rfl ?_
              refine Wp.iload dX2_beside_70 rfl rfl ?_
              refine Wp.ior dX2_beside_72 rfl ?_
              rw [nI_or]
              refine Wp.istore_n dX2_beside_73 (Nat.le_of_ble_eq_true rfl) (by dsimp only [ev_st1, ev_st2, ev_cl] <;> rfl) rfl ?_
              refine Wp.iinc (v := _ + (nI 1)) dX2_beside_74 rfl rfl (Nat.le_of_ble_eq_true rfl) (by dsimp only [ev_st1, ev_cl] <;> rfl) rfl ?_
              refine Wp.goto (n := 5) dX2_beside_77 (by decide) ?_
              rw [nI_add1]
              simp [besU, *] at ih
              exact ih _ _
        · rw [nI_and, nI_eq0 (by have := Nat.and_le_left (n := s) (m := 2 ^ fr i); omega)] at c_40
          refine Wp.iload_n dX2_beside_43 rfl rfl ?_
          refine Wp.iload dX2_beside_44 rfl rfl ?_
          refine Wp.iand dX2_beside_46 rfl ?_
          refine Wp.if_ne (tgt := 55) (n := 50) dX2_beside_47 (by decide) rfl (fun c_47 => ?_) (fun c_47 => ?_)
          · rw [nI_and, nI_eq0 (by have := Nat.and_le_left (n := sd) (m := 2 ^ to i); omega)] at c_47
            refine Wp.iload_n dX2_beside_55 rfl rfl ?_
            refine Wp.iload dX2_beside_56 rfl rfl ?_
            refine Wp.iand dX2_beside_58 rfl ?_
            refine Wp.if_eq (tgt := 74) (n := 62) dX2_beside_59 (by decide) rfl (fun c_59 => ?_) (fun c_59 => ?_)
            · rw [nI_and, nI_eq0 (by have := Nat.and_le_left (n := s) (m := 2 ^ to i); omega)] at c_59
              refine Wp.iinc (v := _ + (nI 1)) dX2_beside_74 rfl rfl (Nat.le_of_ble_eq_true rfl) (by dsimp only [ev_st1, ev_cl] <;> rfl) rfl ?_
              refine Wp.goto (n := 5) dX2_beside_77 (by decide) ?_
              rw [nI_add1]
              simp [besU, *] at ih
              exact ih _ _
            · rw [nI_and, nI_eq0 (by have := Nat.and_le_left (n := s) (m := 2 ^ to i); omega)] at c_59
              refine Wp.iload_n dX2_beside_62 rfl rfl ?_
              refine Wp.iload dX2_beside_63 rfl rfl ?_
              refine Wp.iand dX2_beside_65 rfl ?_
              refine Wp.if_ne (tgt := 74) (n := 69) dX2_beside_66 (by decide) rfl (fun c_66 => ?_) (fun c_66 => ?_)
              · rw [nI_and, nI_eq0 (by have := Nat.and_le_left (n := sd) (m := 2 ^ fr i); omega)] at c_66
                refine Wp.iinc (v := _ + (nI 1)) dX2_beside_74 rfl rfl (Nat.le_of_ble_eq_true rfl) (by dsimp only [ev_st1, ev_cl] <;> rfl) rfl ?_
                refine Wp.goto (n := 5) dX2_beside_77 (by decide) ?_
                rw [nI_add1]
                simp [besU, *] at ih
                exact ih _ _
              · rw [nI_and, nI_eq0 (by have := Nat.and_le_left (n := sd) (m := 2 ^ fr i); omega)] at c_66
                refine Wp.iload_n dX2_beside_69 rfl rfl ?_
                refine Wp.iload dX2_beside_70 rfl rfl ?_
                refine Wp.ior dX2_beside_72 rfl ?_
                rw [nI_or]
                refine Wp.istore_n dX2_beside_73 (Nat.le_of_ble_eq_true rfl) (by dsimp only [ev_st1, ev_st2, ev_cl] <;> rfl) rfl ?_
                refine Wp.iinc (v := _ + (nI 1)) dX2_beside_74 rfl rfl (Nat.le_of_ble_eq_true rfl) (by dsimp only [ev_st1, ev_cl] <;> rfl) rfl ?_
                refine Wp.goto (n := 5) dX2_beside_77 (by decide) ?_
                rw [nI_add1]
                simp [besU, *] at ih
                exact ih _ _
          · rw [nI_and, nI_eq0 (by have := Nat.and_le_left (n := sd) (m := 2 ^ to i); omega)] at c_47
            refine Wp.iload_n dX2_beside_50 rfl rfl ?_
            refine Wp.iload dX2_beside_51 rfl rfl ?_
            refine Wp.ior dX2_beside_53 rfl ?_
            rw [nI_or]
            refine Wp.istore_n dX2_beside_54 (Nat.le_of_ble_eq_true rfl) (by dsimp only [ev_st1, ev_st2, ev_cl] <;> rfl) rfl ?_
            refine Wp.iload_n dX2_beside_55 rfl rfl ?_
            refine Wp.iload dX2_beside_56 rfl rfl ?_
            refine Wp.iand dX2_beside_58 rfl ?_
            refine Wp.if_eq (tgt := 74) (n := 62) dX2_beside_59 (by decide) rfl (fun c_59 => ?_) (fun c_59 => ?_)
            · rw [nI_and, nI_eq0 (by have := Nat.and_le_left (n := s) (m := 2 ^ to i); omega)] at c_59
              refine Wp.iinc (v := _ + (nI 1)) dX2_beside_74 rfl rfl (Nat.le_of_ble_eq_true rfl) (by dsimp only [ev_st1, ev_cl] <;> rfl) rfl ?_
              refine Wp.goto (n := 5) dX2_beside_77 (by decide) ?_
              rw [nI_add1]
              simp [besU, *] at ih
              exact ih _ _
            · rw [nI_and, nI_eq0 (by have := Nat.and_le_left (n := s) (m := 2 ^ to i); omega)] at c_59
              refine Wp.iload_n dX2_beside_62 rfl rfl ?_
              refine Wp.iload dX2_beside_63 rfl rfl ?_
              refine Wp.iand dX2_beside_65 rfl ?_
              refine Wp.if_ne (tgt := 74) (n := 69) dX2_beside_66 (by decide) rfl (fun c_66 => ?_) (fun c_66 => ?_)
              · rw [nI_and, nI_eq0 (by have := Nat.and_le_left (n := sd) (m := 2 ^ fr i); omega)] at c_66
                refine Wp.iinc (v := _ + (nI 1)) dX2_beside_74 rfl rfl (Nat.le_of_ble_eq_true rfl) (by dsimp only [ev_st1, ev_cl] <;> rfl) rfl ?_
                refine Wp.goto (n := 5) dX2_beside_77 (by decide) ?_
                rw [nI_add1]
                simp [besU, *] at ih
                exact ih _ _
              · rw [nI_and, nI_eq0 (by have := Nat.and_le_left (n := sd) (m := 2 ^ fr i); omega)] at c_66
                refine Wp.iload_n dX2_beside_69 rfl rfl ?_
                refine Wp.iload dX2_beside_70 rfl rfl ?_
                refine Wp.ior dX2_beside_72 rfl ?_
                rw [nI_or]
                refine Wp.istore_n dX2_beside_73 (Nat.le_of_ble_eq_true rfl) (by dsimp only [ev_st1, ev_st2, ev_cl] <;> rfl) rfl ?_
                refine Wp.iinc (v := _ + (nI 1)) dX2_beside_74 rfl rfl (Nat.le_of_ble_eq_true rfl) (by dsimp only [ev_st1, ev_cl] <;> rfl) rfl ?_
                refine Wp.goto (n := 5) dX2_beside_77 (by decide) ?_
                rw [nI_add1]
                simp [besU, *] at ih
                exact ih _ _
    · intro j5 j6
      refine Wp.iload dX2_beside_5 rfl rfl ?_
      refine Wp.aload_n dX2_beside_7 rfl (by first | exact Or.inr ⟨_, rfl⟩ | exact Or.inl rfl) rfl ?_
      refine Wp.get dX2_beside_8 fl_X2_31 (by assumption) (by first | assumption | rfl) rfl ?_
      refine Wp.icmp_ge (tgt := 80) (n := 14) dX2_beside_11 (by decide) rfl (fun c_11 => ?_) (fun c_11 => ?_)
      · try simp (disch := omega) only [nI_bit0, nI_bit1, Bool.not_eq_false, Bool.not_eq_true] at c_11
        try simp (disch := omega) only [i_lt, i_le, i_eq, l_lt, l_le, l_eq, i_0, i_m1, l_0, nI_tI, iI_tI, lI_tI, Int.not_lt, Int.not_le] at c_11
        refine Wp.iload_n dX2_beside_80 rfl rfl ?_
        exact Wp.iret dX2_beside_81 rfl (by exact ⟨rfl, rfl⟩)
      · try simp (disch := omega) only [nI_bit0, nI_bit1, Bool.not_eq_false, Bool.not_eq_true] at c_11
        try simp (disch := omega) only [i_lt, i_le, i_eq, l_lt, l_le, l_eq, i_0, i_m1, l_0, nI_tI, iI_tI, lI_tI, Int.not_lt, Int.not_le] at c_11
        omega
  refine Wp.iconst (v := (nI 0)) dX2_beside_0 (by decide) rfl ?_
  refine Wp.istore_n dX2_beside_1 (Nat.le_of_ble_eq_true rfl) (by dsimp only [ev_st1, ev_st2, ev_cl] <;> rfl) rfl ?_
  refine Wp.iconst (v := (nI 0)) dX2_beside_2 (by decide) rfl ?_
  refine Wp.istore dX2_beside_3 (Nat.le_of_ble_eq_true rfl) (by dsimp only [ev_st1, ev_st2, ev_cl] <;> rfl) rfl ?_
  exact loop 0 (by omega) _ _
/-- a set without a line -/
def less (s o : Nat) : Nat := s ^^^ (s &&& 2 ^ o)
theorem less_lt {s o n : Nat} (h : s < 2 ^ n) : less s o < 2 ^ n := Nat.xor_lt_two_pow h (Nat.lt_of_le_of_lt Nat.and_le_left h)
theorem hangU_lt {fr to : Nat → Nat} {s L : Nat} (hw : ∀ l, l < L → fr l < 7 ∧ to l < 7) : ∀ k r, r < 128 → hangU fr to s L k r < 128
  | 0, r, h => h
  | k + 1, r, h => by
    simp only [hangU]
    split
    · exact h
    · exact hangU_lt hw k _ (rndU_lt hw h L (by omega))
/-- line o of the set is on the way between line l's things: without it these fall apart -/
def btw (fr to : Nat → Nat) (L T s o l : Nat) : Bool := !(hangU fr to (less s o) L T (2 ^ fr l)).testBit (to l)
/-- the dearest of the lines that are 'on'; -1: none is -/
def drS (on : Nat → Bool) (c : Nat → Int) : Nat → Int
  | 0 => -1
  | l + 1 => if on l = true ∧ (drS on c l < 0 ∨ c (drS on c l).toNat < c l) then (l : Int) else drS on c l
theorem drS_lt (on : Nat → Bool) (c : Nat → Int) : ∀ n, -1 ≤ drS on c n ∧ drS on c n < n
  | 0 => by simp [drS]
  | n + 1 => by
    have := drS_lt on c n
    simp only [drS]
    split <;> omega
theorem c_X2_isBetween {B : ev_B} {d a : Nat} {h : ev_H} {T L : Nat} {fr to : Nat → Nat} {sa ri : Nat → Int} {s o l : Nat} (hN : NetC h a T L fr to sa ri) (hW : NetW T L fr to sa ri) (hs : s < 4096) (ho : o < L) (hl : l < L) (hd : 1 ≤ d) :
    Wp B d M_X2_isBetween 0 [some (.ref a), some (.int (nI s)), some (.int (nI o)), some (.int (nI l)), none] [] h (fun v h' => v = some (.int (bI (btw fr to L T s o l))) ∧ h' = h) := by
  have hN0 := hN
  have hW0 := hW
  obtain ⟨V, a0, a1, a2, a3, g0, g1, g2, g3, hV, v0, v1, v2, v3, v4, v5, k0, k1, k2, k3, e0, e1, e2, e3⟩ := hN
  obtain ⟨hT, hL, hW⟩ := hW
  have hwl : ∀ l, l < L → fr l < 7 ∧ to l < 7 := fun l hl => ⟨by have := hW l hl; omega, by have := hW l hl; omega⟩
  have hw := hW l hl
  have hr := hangU_lt hwl (s := less s o) T (2 ^ fr l) (pow_lt7 (by omega))
  refine Wp.iload_n dX2_isBetween_0 rfl rfl ?_
  refine Wp.iconst (v := (nI 1)) dX2_isBetween_1 (by decide) rfl ?_
  refine Wp.iload_n dX2_isBetween_2 rfl rfl ?_
  refine Wp.ishl dX2_isBetween_3 rfl ?_
  rw [nI_one_shl (by omega)]
  refine Wp.iconst (v := (-1)) dX2_isBetween_4 (by decide) rfl ?_
  refine Wp.ixor dX2_isBetween_5 rfl ?_
  refine Wp.iand dX2_isBetween_6 rfl ?_
  rw [nI_andnot (by omega) (by omega)]
  refine Wp.istore dX2_isBetween_7 (Nat.le_of_ble_eq_true rfl) (by dsimp only [ev_st1, ev_st2, ev_cl] <;> rfl) rfl ?_
  refine Wp.aload_n dX2_isBetween_9 rfl (by first | exact Or.inr ⟨_, rfl⟩ | exact Or.inl rfl) rfl ?_
  refine Wp.aload_n dX2_isBetween_10 rfl (by first | exact Or.inr ⟨_, rfl⟩ | exact Or.inl rfl) rfl ?_
  refine Wp.get dX2_isBetween_11 fl_X2_9 (by assumption) (by first | assumption | rfl) rfl ?_
  refine Wp.iload_n dX2_isBetween_14 rfl rfl ?_
  refine Wp.iaload dX2_isBetween_15 (by assumption) (nI_toInt (by omega)) (by omega) rfl ?_
  rw [e0 l hl]
  refine Wp.iload dX2_isBetween_16 rfl rfl ?_
  refine Wp.cV dX2_isBetween_18 cv_X2_66 rfl (by omega) rfl (Nat.le_of_ble_eq_true rfl) (Nat.le_of_ble_eq_true rfl) (by assumption) rfl (c_X2_hangingWith (d := d - 1) hN0 hW0 (t := fr l) (s := less s o) (by omega) (less_lt (n := 12) hs)) ?_
  rintro _ h_ ⟨rfl, e_⟩
  rw [e_]
  clear e_ h_
  dsimp only [Option.toList, List.drop, List.cons_append, List.nil_append]
  refine Wp.aload_n dX2_isBetween_21 rfl (by first | exact Or.inr ⟨_, rfl⟩ | exact Or.inl rfl) rfl ?_
  refine Wp.get dX2_isBetween_22 fl_X2_15 (by assumption) (by first | assumption | rfl) rfl ?_
  refine Wp.iload_n dX2_isBetween_25 rfl rfl ?_
  refine Wp.iaload dX2_isBetween_26 (by assumption) (nI_toInt (by omega)) (by omega) rfl ?_
  rw [e1 l hl]
  refine Wp.ishr dX2_isBetween_27 rfl ?_
  refine Wp.iconst (v := (nI 1)) dX2_isBetween_28 (by decide) rfl ?_
  refine Wp.iand dX2_isBetween_29 rfl ?_
  refine Wp.if_ne (tgt := 37) (n := 33) dX2_isBetween_30 (by decide) rfl (fun c_30 => ?_) (fun c_30 => ?_)
  · try simp (disch := omega) only [nI_bit0, nI_bit1, Bool.not_eq_false, Bool.not_eq_true] at c_30
    try simp (disch := omega) only [i_lt, i_le, i_eq, l_lt, l_le, l_eq, i_0, i_m1, l_0, nI_tI, iI_tI, lI_tI, Int.not_lt, Int.not_le] at c_30
    refine Wp.iconst (v := (nI 0)) dX2_isBetween_37 (by decide) rfl ?_
    exact Wp.zret dX2_isBetween_38 rfl (by decide) (q_ret (bI_f (by simp [btw, c_30])))
  · try simp (disch := omega) only [nI_bit0, nI_bit1, Bool.not_eq_false, Bool.not_eq_true] at c_30
    try simp (disch := omega) only [i_lt, i_le, i_eq, l_lt, l_le, l_eq, i_0, i_m1, l_0, nI_tI, iI_tI, lI_tI, Int.not_lt, Int.not_le] at c_30
    refine Wp.iconst (v := (nI 1)) dX2_isBetween_33 (by decide) rfl ?_
    refine Wp.goto (n := 38) dX2_isBetween_34 (by decide) ?_
    exact Wp.zret dX2_isBetween_38 rfl (by decide) (q_ret (bI_t (by simp [btw, c_30])))
set_option maxHeartbeats 1000000 in
theorem c_X2_dearestBetween {B : ev_B} {d a : Nat} {h : ev_H} {T L : Nat} {fr to : Nat → Nat} {sa ri : Nat → Int} {s l : Nat} {p q : Int32} (hN : NetC h a T L fr to sa ri) (hW : NetW T L fr to sa ri) (hs : s < 4096) (hl : l < L) (hp : -1000000 ≤ p.toInt ∧ p.toInt ≤ 1000000) (hq : -1000000 ≤ q.toInt ∧ q.toInt ≤ 1000000) (hd : 2 ≤ d) :
    Wp B d M_X2_dearestBetween 0 [some (.ref a), some (.int (nI s)), some (.int (nI l)), some (.int (p)), some (.int (q)), none, none] [] h (fun v h' => v = some (.int (iI (drS (fun o => s.testBit o && btw fr to L T s o l) (fun o => sa o * q.toInt + ri o * p.toInt) L))) ∧ h' = h) := by
  have hN0 := hN
  have hW0 := hW
  obtain ⟨V, a0, a1, a2, a3, g0, g1, g2, g3, hV, v0, v1, v2, v3, v4, v5, k0, k1, k2, k3, e0, e1, e2, e3⟩ := hN
  obtain ⟨hT, hL, hW⟩ := hW
  have loop : ∀ i, i ≤ L → Wp B d M_X2_dearestBetween 6 [some (.ref a), some (.int (nI s)), some (.int (nI l)), some (.int (p)), some (.int (q)), some (.int (iI (drS (fun o => s.testBit o && btw fr to L T s o l) (fun o => sa o * q.toInt + ri o * p.toInt) i))), some (.int (nI i))] [] h (fun v h' => v = some (.int (iI (drS (fun o => s.testBit o && btw fr to L T s o l) (fun o => sa o * q.toInt + ri o * p.toInt) L))) ∧ h' = h) := by
    refine ev_upl L (fun i hi ih => ?_) ?_
    · have hb := drS_lt (fun o => s.testBit o && btw fr to L T s o l) (fun o => sa o * q.toInt + ri o * p.toInt) i
      have hw := hW i hi
      refine Wp.iload dX2_dearestBetween_6 rfl rfl ?_
      refine Wp.aload_n dX2_dearestBetween_8 rfl (by first | exact Or.inr ⟨_, rfl⟩ | exact Or.inl rfl) rfl ?_
      refine Wp.get dX2_dearestBetween_9 fl_X2_31 (by assumption) (by first | assumption | rfl) rfl ?_
      refine Wp.icmp_ge (tgt := 72) (n := 15) dX2_dearestBetween_12 (by decide) rfl (fun c_12 => ?_) (fun c_12 => ?_)
      · try simp (disch := omega) only [nI_bit0, nI_bit1, Bool.not_eq_false, Bool.not_eq_true] at c_12
        try simp (disch := omega) only [i_lt, i_le, i_eq, l_lt, l_le, l_eq, i_0, i_m1, l_0, nI_tI, iI_tI, lI_tI, Int.not_lt, Int.not_le] at c_12
        omega
      · try simp (disch := omega) only [nI_bit0, nI_bit1, Bool.not_eq_false, Bool.not_eq_true] at c_12
        try simp (disch := omega) only [i_lt, i_le, i_eq, l_lt, l_le, l_eq, i_0, i_m1, l_0, nI_tI, iI_tI, lI_tI, Int.not_lt, Int.not_le] at c_12
        refine Wp.iload_n dX2_dearestBetween_15 rfl rfl ?_
        refine Wp.iload dX2_dearestBetween_16 rfl rfl ?_
        refine Wp.ishr dX2_dearestBetween_18 rfl ?_
        refine Wp.iconst (v := (nI 1)) dX2_dearestBetween_19 (by decide) rfl ?_
        refine Wp.iand dX2_dearestBetween_20 rfl ?_
        refine Wp.if_eq (tgt := 66) (n := 24) dX2_dearestBetween_21 (by decide) rfl (fun c_21 => ?_) (fun c_21 => ?_)
        · try simp (disch := omega) only [nI_bit0, nI_bit1, Bool.not_eq_false, Bool.not_eq_true] at c_21
          try simp (disch := omega) only [i_lt, i_le, i_eq, l_lt, l_le, l_eq, i_0, i_m1, l_0, nI_tI, iI_tI, lI_tI, Int.not_lt, Int.not_le] at c_21
          refine Wp.iinc (v := _ + (nI 1)) dX2_dearestBetween_66 rfl rfl (Nat.le_of_ble_eq_true rfl) (by dsimp only [ev_st1, ev_cl] <;> rfl) rfl ?_
          refine Wp.goto (n := 6) dX2_dearestBetween_69 (by decide) ?_
          rw [nI_add1]
          simp [drS, ← nI_iI, *] at ih
          first | exact ih | (rw [if_pos (by omega)] at ih; exact ih) | (rw [if_neg (by omega)] at ih; exact ih)
        · try simp (disch := omega) only [nI_bit0, nI_bit1, Bool.not_eq_false, Bool.not_eq_true] at c_21
          try simp (disch := omega) only [i_lt, i_le, i_eq, l_lt, l_le, l_eq, i_0, i_m1, l_0, nI_tI, iI_tI, lI_tI, Int.not_lt, Int.not_le] at c_21
          refine Wp.aload_n dX2_dearestBetween_24 rfl (by first | exact Or.inr ⟨_, rfl⟩ | exact Or.inl rfl) rfl ?_
          refine Wp.iload_n dX2_dearestBetween_25 rfl rfl ?_
          refine Wp.iload dX2_dearestBetween_26 rfl rfl ?_
          refine Wp.iload_n dX2_dearestBetween_28 rfl rfl ?_
          refine Wp.cV dX2_dearestBetween_29 cv_X2_58 rfl (by omega) rfl (Nat.le_of_ble_eq_true rfl) (Nat.le_of_ble_eq_true rfl) (by assumption) rfl (c_X2_isBetween (d := d - 1) hN0 hW0 (s := s) (o := i) (l := l) hs hi hl (by omega)) ?_
          rintro _ h_ ⟨rfl, e_⟩
          rw [e_]
          clear e_ h_
          dsimp only [Option.toList, List.drop, List.cons_append, List.nil_append]
          refine Wp.bif_eq (tgt := 66) (n := 35) dX2_dearestBetween_32 (by decide) rfl (fun c_32 => ?_) (fun c_32 => ?_)
          · refine Wp.iinc (v := _ + (nI 1)) dX2_dearestBetween_66 rfl rfl (Nat.le_of_ble_eq_true rfl) (by dsimp only [ev_st1, ev_cl] <;> rfl) rfl ?_
            refine Wp.goto (n := 6) dX2_dearestBetween_69 (by decide) ?_
            rw [nI_add1]
            simp [drS, ← nI_iI, *] at ih
            first | exact ih | (rw [if_pos (by omega)] at ih; exact ih) | (rw [if_neg (by omega)] at ih; exact ih)
          · refine Wp.iload dX2_dearestBetween_35 rfl rfl ?_
            refine Wp.if_lt (tgt := 62) (n := 40) dX2_dearestBetween_37 (by decide) rfl (fun c_37 => ?_) (fun c_37 => ?_)
            · try simp (disch := omega) only [nI_bit0, nI_bit1, Bool.not_eq_false, Bool.not_eq_true] at c_37
              try simp (disch := omega) only [i_lt, i_le, i_eq, l_lt, l_le, l_eq, i_0, i_m1, l_0, nI_tI, iI_tI, lI_tI, Int.not_lt, Int.not_le] at c_37
              refine Wp.iload dX2_dearestBetween_62 rfl rfl ?_
              refine Wp.istore dX2_dearestBetween_64 (Nat.le_of_ble_eq_true rfl) (by dsimp only [ev_st1, ev_st2, ev_cl] <;> rfl) rfl ?_
              refine Wp.iinc (v := _ + (nI 1)) dX2_dearestBetween_66 rfl rfl (Nat.le_of_ble_eq_true rfl) (by dsimp only [ev_st1, ev_cl] <;> rfl) rfl ?_
              refine Wp.goto (n := 6) dX2_dearestBetween_69 (by decide) ?_
              rw [nI_add1]
              simp [drS, ← nI_iI, *] at ih
              first | exact ih | (rw [if_pos (by omega)] at ih; exact ih) | (rw [if_neg (by omega)] at ih; exact ih)
            · try simp (disch := omega) only [nI_bit0, nI_bit1, Bool.not_eq_false, Bool.not_eq_true] at c_37
              try simp (disch := omega) only [i_lt, i_le, i_eq, l_lt, l_le, l_eq, i_0, i_m1, l_0, nI_tI, iI_tI, lI_tI, Int.not_lt, Int.not_le] at c_37
              refine Wp.aload_n dX2_dearestBetween_40 rfl (by first | exact Or.inr ⟨_, rfl⟩ | exact Or.inl rfl) rfl ?_
              refine Wp.iload dX2_dearestBetween_41 rfl rfl ?_
              refine Wp.iload_n dX2_dearestBetween_43 rfl rfl ?_
              refine Wp.iload dX2_dearestBetween_44 rfl rfl ?_
              refine Wp.cV dX2_dearestBetween_46 cv_X2_62 rfl (by omega) rfl (Nat.le_of_ble_eq_true rfl) (Nat.le_of_ble_eq_true rfl) (by assumption) rfl (c_X2_lineCost (d := d - 1) hN0 hW0 (l := i) hi) ?_
              rintro _ h_ ⟨rfl, e_⟩
              rw [e_]
              clear e_ h_
              dsimp only [Option.toList, List.drop, List.cons_append, List.nil_append]
              obtain ⟨D, hD⟩ : ∃ D : Nat, drS (fun o => s.testBit o && btw fr to L T s o l) (fun o => sa o * q.toInt + ri o * p.toInt) i = D := ⟨_, (Int.toNat_of_nonneg c_37).symm⟩
              rw [hD, ← nI_iI]
              refine Wp.aload_n dX2_dearestBetween_49 rfl (by first | exact Or.inr ⟨_, rfl⟩ | exact Or.inl rfl) rfl ?_
              refine Wp.iload dX2_dearestBetween_50 rfl rfl ?_
              refine Wp.iload_n dX2_dearestBetween_52 rfl rfl ?_
              refine Wp.iload dX2_dearestBetween_53 rfl rfl ?_
              refine Wp.cV dX2_dearestBetween_55 cv_X2_62 rfl (by omega) rfl (Nat.le_of_ble_eq_true rfl) (Nat.le_of_ble_eq_true rfl) (by assumption) rfl (c_X2_lineCost (d := d - 1) hN0 hW0 (l := D) (by omega)) ?_
              rintro _ h_ ⟨rfl, e_⟩
              rw [e_]
              clear e_ h_
              dsimp only [Option.toList, List.drop, List.cons_append, List.nil_append]
              have hw2 := hW D (by omega)
              have m1 := mulb (a := sa i) (b := q.toInt) (A := 100) (C := 1000000) (by omega) (by omega)
              have m2 := mulb (a := ri i) (b := p.toInt) (A := 20) (C := 1000000) (by omega) (by omega)
              have m3 := mulb (a := sa D) (b := q.toInt) (A := 100) (C := 1000000) (by omega) (by omega)
              have m4 := mulb (a := ri D) (b := p.toInt) (A := 20) (C := 1000000) (by omega) (by omega)
              refine Wp.lcmp_le (tgt := 66) (n := 62) dX2_dearestBetween_58 rfl dX2_dearestBetween_59 (by decide) rfl (fun c_58 => ?_) (fun c_58 => ?_)
              · try simp (disch := omega) only [nI_bit0, nI_bit1, Bool.not_eq_false, Bool.not_eq_true] at c_58
                try simp (disch := omega) only [i_lt, i_le, i_eq, l_lt, l_le, l_eq, i_0, i_m1, l_0, nI_tI, iI_tI, lI_tI, Int.not_lt, Int.not_le] at c_58
                refine Wp.iinc (v := _ + (nI 1)) dX2_dearestBetween_66 rfl rfl (Nat.le_of_ble_eq_true rfl) (by dsimp only [ev_st1, ev_cl] <;> rfl) rfl ?_
                refine Wp.goto (n := 6) dX2_dearestBetween_69 (by decide) ?_
                rw [nI_add1]
                simp [drS, ← nI_iI, *] at ih
                first | exact ih | (rw [if_pos (by omega)] at ih; exact ih) | (rw [if_neg (by omega)] at ih; exact ih)
              · try simp (disch := omega) only [nI_bit0, nI_bit1, Bool.not_eq_false, Bool.not_eq_true] at c_58
                try simp (disch := omega) only [i_lt, i_le, i_eq, l_lt, l_le, l_eq, i_0, i_m1, l_0, nI_tI, iI_tI, lI_tI, Int.not_lt, Int.not_le] at c_58
                refine Wp.iload dX2_dearestBetween_62 rfl rfl ?_
                refine Wp.istore dX2_dearestBetween_64 (Nat.le_of_ble_eq_true rfl) (by dsimp only [ev_st1, ev_st2, ev_cl] <;> rfl) rfl ?_
                refine Wp.iinc (v := _ + (nI 1)) dX2_dearestBetween_66 rfl rfl (Nat.le_of_ble_eq_true rfl) (by dsimp only [ev_st1, ev_cl] <;> rfl) rfl ?_
                refine Wp.goto (n := 6) dX2_dearestBetween_69 (by decide) ?_
                rw [nI_add1]
                simp [drS, ← nI_iI, *] at ih
                first | exact ih | (rw [if_pos (by omega)] at ih; exact ih) | (rw [if_neg (by omega)] at ih; exact ih)
    · refine Wp.iload dX2_dearestBetween_6 rfl rfl ?_
      refine Wp.aload_n dX2_dearestBetween_8 rfl (by first | exact Or.inr ⟨_, rfl⟩ | exact Or.inl rfl) rfl ?_
      refine Wp.get dX2_dearestBetween_9 fl_X2_31 (by assumption) (by first | assumption | rfl) rfl ?_
      refine Wp.icmp_ge (tgt := 72) (n := 15) dX2_dearestBetween_12 (by decide) rfl (fun c_12 => ?_) (fun c_12 => ?_)
      · try simp (disch := omega) only [nI_bit0, nI_bit1, Bool.not_eq_false, Bool.not_eq_true] at c_12
        try simp (disch := omega) only [i_lt, i_le, i_eq, l_lt, l_le, l_eq, i_0, i_m1, l_0, nI_tI, iI_tI, lI_tI, Int.not_lt, Int.not_le] at c_12
        refine Wp.iload dX2_dearestBetween_72 rfl rfl ?_
        exact Wp.iret dX2_dearestBetween_74 rfl (by exact ⟨rfl, rfl⟩)
      · try simp (disch := omega) only [nI_bit0, nI_bit1, Bool.not_eq_false, Bool.not_eq_true] at c_12
        try simp (disch := omega) only [i_lt, i_le, i_eq, l_lt, l_le, l_eq, i_0, i_m1, l_0, nI_tI, iI_tI, lI_tI, Int.not_lt, Int.not_le] at c_12
        omega
  refine Wp.iconst (v := (-1)) dX2_dearestBetween_0 (by decide) rfl ?_
  refine Wp.istore dX2_dearestBetween_1 (Nat.le_of_ble_eq_true rfl) (by dsimp only [ev_st1, ev_st2, ev_cl] <;> rfl) rfl ?_
  refine Wp.iconst (v := (nI 0)) dX2_dearestBetween_3 (by decide) rfl ?_
  refine Wp.istore dX2_dearestBetween_4 (Nat.le_of_ble_eq_true rfl) (by dsimp only [ev_st1, ev_st2, ev_cl] <;> rfl) rfl ?_
  exact loop 0 (by omega)
