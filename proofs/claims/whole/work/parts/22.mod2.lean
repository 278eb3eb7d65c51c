/-! the reference: trees, ways, pairings, the dearest line -/
def besM (fr to : Nat → Nat) (s : Nat) : Nat → Nat
  | 0 => 0
  | l + 1 =>
    let r1 := if s.testBit (fr l) = true then besM fr to s l ||| 2 ^ to l else besM fr to s l
    if s.testBit (to l) = true then r1 ||| 2 ^ fr l else r1
theorem besM_lt {fr to : Nat → Nat} {s L : Nat} (hw : ∀ l, l < L → fr l < 7 ∧ to l < 7) : ∀ n, n ≤ L → besM fr to s n < 128
  | 0, _ => (by decide : 0 < 128)
  | n + 1, h => by
    have ih := besM_lt hw (s := s) n (by omega)
    have hn := hw n (by omega)
    simp only [besM]
    split <;> split <;> first | exact or_lt7 (or_lt7 ih (pow_lt7 hn.2)) (pow_lt7 hn.1) | exact or_lt7 ih (pow_lt7 hn.1) | exact or_lt7 ih (pow_lt7 hn.2) | exact ih
def prS (fr to : Nat → Nat) (s sd : Nat) : Nat → Bool × Nat
  | 0 => (true, 0)
  | l + 1 => if s.testBit l = true then ((prS fr to s sd l).1 && decide ((prS fr to s sd l).2 &&& ends fr to l = 0) && decide (sd.testBit (fr l) ≠ sd.testBit (to l)), (prS fr to s sd l).2 ||| ends fr to l) else prS fr to s sd l
theorem prS_lt {fr to : Nat → Nat} {s sd L : Nat} (hw : ∀ l, l < L → fr l < 7 ∧ to l < 7) : ∀ n, n ≤ L → (prS fr to s sd n).2 < 128
  | 0, _ => (by decide : 0 < 128)
  | n + 1, h => by
    have ih := prS_lt hw (s := s) (sd := sd) n (by omega)
    have hn := hw n (by omega)
    simp only [prS]
    split
    · exact or_lt7 ih (ends_lt hn.1 hn.2)
    · exact ih
def trB (fr to : Nat → Nat) (T L s : Nat) : Bool := decide (0 < T) && decide (cntB s 31 = T - 1) && decide (reaM fr to s true L 1 7 = 2 ^ T - 1)
def prB (fr to : Nat → Nat) (T L s sd : Nat) : Bool := (prS fr to s sd L).1 && decide ((prS fr to s sd L).2 = 2 ^ T - 1)
def btwM (fr to : Nat → Nat) (L s o l : Nat) : Bool := !(reaM fr to (less s o) true L (2 ^ fr l) 7).testBit (to l)
def ordM (k : Nat) : Nat → Nat
  | 0 => 0
  | l + 1 => if (4095 - k).testBit l = true then ordM k l ||| 2 ^ (11 - l) else ordM k l
theorem ordM_lt (k : Nat) : ∀ n, n ≤ 12 → ordM k n < 4096
  | 0, _ => (by decide : 0 < 4096)
  | n + 1, h => by
    have ih := ordM_lt k n (by omega)
    simp only [ordM]
    split
    · exact Nat.or_lt_two_pow (n := 12) ih (Nat.pow_lt_pow_right (by decide) (by omega))
    · exact ih
/-- the last line of what is left that leaves a thing, and how many leave it -/
def scanW (fr : Nat → Nat) (left t : Nat) : Nat → Int × Nat
  | 0 => (-1, 0)
  | l + 1 => if left.testBit l = true ∧ fr l = t then ((l : Int), (scanW fr left t l).2 + 1) else scanW fr left t l
theorem scanW_in (fr : Nat → Nat) (left t : Nat) : ∀ n, (scanW fr left t n).2 ≤ n ∧ -1 ≤ (scanW fr left t n).1 ∧ (scanW fr left t n).1 < n ∧ ((scanW fr left t n).2 ≠ 0 → 0 ≤ (scanW fr left t n).1)
  | 0 => by simp [scanW]
  | n + 1 => by
    have := scanW_in fr left t n
    simp only [scanW]
    split
    · dsimp only; omega
    · omega
def wayM (fr to : Nat → Nat) (L b : Nat) : Nat → Nat → Nat → Nat → Bool
  | 0, _, _, _ => false
  | k + 1, t, left, been => if t = b then decide (left = 0) else
      if (scanW fr left t L).2 = 1 ∧ been.testBit (to (scanW fr left t L).1.toNat) = false then wayM fr to L b k (to (scanW fr left t L).1.toNat) (less left (scanW fr left t L).1.toNat) (been ||| 2 ^ to (scanW fr left t L).1.toNat) else false
theorem or_bit_gt {x i : Nat} (h : x.testBit i = false) : x < x ||| 2 ^ i := by
  rcases Nat.lt_or_ge x (x ||| 2 ^ i) with g | g
  · exact g
  · have h1 : x ||| 2 ^ i = x := Nat.le_antisymm g Nat.left_le_or
    have h2 : (x ||| 2 ^ i).testBit i = true := by simp [Nat.testBit_or]
    rw [h1, h] at h2
    cases h2
theorem pow_T {T : Nat} (h : T ≤ 7) : 2 ^ T ≤ 128 := Nat.pow_le_pow_right (n := 2) (by decide) h
theorem c_X12_lineCost {B : ev_B} {d x : Nat} {h : ev_H} {T L : Nat} {fr to : Nat → Nat} {sa ri : Nat → Int} {l : Nat} {p q : Int32} (hN : NetM h x T L fr to sa ri) (hW : NetW T L fr to sa ri) (hl : l < L) :
    Wp B d M_X12_lineCost 0 [some (.ref x), some (.int (nI l)), some (.int (p)), some (.int (q))] [] h (fun v h' => v = some (.long (lI (sa l * q.toInt + ri l * p.toInt))) ∧ h' = h) := by
  have hN0 := hN
  have hW0 := hW
  obtain ⟨V, n0, g, hV, v0, k0, g0, g1, e0, e1, e2, e3⟩ := hN
  obtain ⟨hT, hL, hW⟩ := hW
  have hw := hW l hl
  refine Wp.aload_n dX12_lineCost_0 rfl (by first | exact Or.inr ⟨_, rfl⟩ | exact Or.inl rfl) rfl ?_
  refine Wp.get dX12_lineCost_1 fl_X12_7 (by assumption) (by first | assumption | rfl) rfl ?_
  refine Wp.iconst (v := (nI 4)) dX12_lineCost_4 (by decide) rfl ?_
  refine Wp.iconst (v := (nI 4)) dX12_lineCost_5 (by decide) rfl ?_
  refine Wp.iload_n dX12_lineCost_6 rfl rfl ?_
  refine Wp.imul dX12_lineCost_7 rfl ?_
  refine Wp.iadd dX12_lineCost_8 rfl ?_
  refine Wp.iaload dX12_lineCost_9 (by assumption) (nI_46 4 (by omega) (by decide)) (by omega) rfl ?_
  rw [e2 l hl]
  refine Wp.i2l dX12_lineCost_10 rfl ?_
  rw [iI_l (by omega) (by omega)]
  refine Wp.iload_n dX12_lineCost_11 rfl rfl ?_
  refine Wp.i2l dX12_lineCost_12 rfl ?_
  rw [i2l_lI]
  refine Wp.lmul dX12_lineCost_13 rfl ?_
  rw [lI_mul]
  refine Wp.aload_n dX12_lineCost_14 rfl (by first | exact Or.inr ⟨_, rfl⟩ | exact Or.inl rfl) rfl ?_
  refine Wp.get dX12_lineCost_15 fl_X12_7 (by assumption) (by first | assumption | rfl) rfl ?_
  refine Wp.iconst (v := (nI 5)) dX12_lineCost_18 (by decide) rfl ?_
  refine Wp.iconst (v := (nI 4)) dX12_lineCost_19 (by decide) rfl ?_
  refine Wp.iload_n dX12_lineCost_20 rfl rfl ?_
  refine Wp.imul dX12_lineCost_21 rfl ?_
  refine Wp.iadd dX12_lineCost_22 rfl ?_
  refine Wp.iaload dX12_lineCost_23 (by assumption) (nI_46 5 (by omega) (by decide)) (by omega) rfl ?_
  rw [e3 l hl]
  refine Wp.i2l dX12_lineCost_24 rfl ?_
  rw [iI_l (by omega) (by omega)]
  refine Wp.iload_n dX12_lineCost_25 rfl rfl ?_
  refine Wp.i2l dX12_lineCost_26 rfl ?_
  rw [i2l_lI]
  refine Wp.lmul dX12_lineCost_27 rfl ?_
  rw [lI_mul]
  refine Wp.ladd dX12_lineCost_28 rfl ?_
  rw [lI_add]
  exact Wp.lret dX12_lineCost_29 rfl (by exact ⟨rfl, rfl⟩)
theorem c_X12_isTree {B : ev_B} {d x : Nat} {h : ev_H} {T L : Nat} {fr to : Nat → Nat} {sa ri : Nat → Int} {s : Nat} (hN : NetM h x T L fr to sa ri) (hW : NetW T L fr to sa ri) (hs : s < 4096) (hd : 2 ≤ d) :
    Wp B d M_X12_isTree 0 [some (.ref x), some (.int (nI s))] [] h (fun v h' => v = some (.int (bI (trB fr to T L s))) ∧ h' = h) := by
  have hN0 := hN
  have hW0 := hW
  obtain ⟨V, n0, g, hV, v0, k0, g0, g1, e0, e1, e2, e3⟩ := hN
  obtain ⟨hT, hL, hW⟩ := hW
  have hwl : ∀ l, l < L → fr l < 7 ∧ to l < 7 := fun l hl => ⟨by have := hW l hl; omega, by have := hW l hl; omega⟩
  have hr := reaM_lt hwl (s := s) (bo := true) (r := 1) (by decide) 7
  have hc := cntB_le s 31
  have hp := pow_T hT
  refine Wp.aload_n dX12_isTree_0 rfl (by first | exact Or.inr ⟨_, rfl⟩ | exact Or.inl rfl) rfl ?_
  refine Wp.cV dX12_isTree_1 cv_X12_82 rfl (by omega) rfl (Nat.le_of_ble_eq_true rfl) (Nat.le_of_ble_eq_true rfl) (by assumption) rfl (c_X12_things (d := d - 1) hN0 hW0) ?_
  rintro _ h_ ⟨rfl, e_⟩
  rw [e_]
  clear e_ h_
  dsimp only [Option.toList, List.drop, List.cons_append, List.nil_append]
  refine Wp.if_le (tgt := 38) (n := 7) dX12_isTree_4 (by decide) rfl (fun c_4 => ?_) (fun c_4 => ?_)
  · try simp (disch := omega) only [i_lt, i_le, i_0, nI_tI] at c_4
    refine Wp.iconst (v := (nI 0)) dX12_isTree_38 (by decide) rfl ?_
    exact Wp.zret dX12_isTree_39 rfl (by decide) (q_ret (bI_f (by simp [trB, *]; try omega)))
  · try simp (disch := omega) only [i_lt, i_le, i_0, nI_tI] at c_4
    refine Wp.iload_n dX12_isTree_7 rfl rfl ?_
    refine Wp.cS dX12_isTree_8 cs_X12_125 rfl (by omega) rfl (Nat.le_of_ble_eq_true rfl) (Nat.le_of_ble_eq_true rfl) rfl (c_X12_bits (d := d - 1) (s := s) (by omega)) ?_
    rintro _ h_ ⟨rfl, e_⟩
    rw [e_]
    clear e_ h_
    dsimp only [Option.toList, List.drop, List.cons_append, List.nil_append]
    refine Wp.aload_n dX12_isTree_11 rfl (by first | exact Or.inr ⟨_, rfl⟩ | exact Or.inl rfl) rfl ?_
    refine Wp.cV dX12_isTree_12 cv_X12_82 rfl (by omega) rfl (Nat.le_of_ble_eq_true rfl) (Nat.le_of_ble_eq_true rfl) (by assumption) rfl (c_X12_things (d := d - 1) hN0 hW0) ?_
    rintro _ h_ ⟨rfl, e_⟩
    rw [e_]
    clear e_ h_
    dsimp only [Option.toList, List.drop, List.cons_append, List.nil_append]
    refine Wp.iconst (v := (nI 1)) dX12_isTree_15 (by decide) rfl ?_
    refine Wp.isub dX12_isTree_16 rfl ?_
    rw [pk_sub (by omega)]
    refine Wp.icmp_ne (tgt := 38) (n := 20) dX12_isTree_17 (by decide) rfl (fun c_17 => ?_) (fun c_17 => ?_)
    · rw [nI_eq (by omega) (by omega)] at c_17
      refine Wp.iconst (v := (nI 0)) dX12_isTree_38 (by decide) rfl ?_
      exact Wp.zret dX12_isTree_39 rfl (by decide) (q_ret (bI_f (by simp [trB, *]; try omega)))
    · rw [nI_eq (by omega) (by omega)] at c_17
      refine Wp.aload_n dX12_isTree_20 rfl (by first | exact Or.inr ⟨_, rfl⟩ | exact Or.inl rfl) rfl ?_
      refine Wp.iload_n dX12_isTree_21 rfl rfl ?_
      refine Wp.iconst (v := (nI 1)) dX12_isTree_22 (by decide) rfl ?_
      refine Wp.iconst (v := (nI 1)) dX12_isTree_23 (by decide) rfl ?_
      refine Wp.cV dX12_isTree_24 cv_X12_128 rfl (by omega) rfl (Nat.le_of_ble_eq_true rfl) (Nat.le_of_ble_eq_true rfl) (by assumption) rfl (c_X12_reached (d := d - 1) hN0 hW0 (s := s) (r := 1) (bo := true) hs (by decide) (by omega)) ?_
      rintro _ h_ ⟨rfl, e_⟩
      rw [e_]
      clear e_ h_
      dsimp only [Option.toList, List.drop, List.cons_append, List.nil_append]
      refine Wp.aload_n dX12_isTree_27 rfl (by first | exact Or.inr ⟨_, rfl⟩ | exact Or.inl rfl) rfl ?_
      refine Wp.cV dX12_isTree_28 cv_X12_132 rfl (by omega) rfl (Nat.le_of_ble_eq_true rfl) (Nat.le_of_ble_eq_true rfl) (by assumption) rfl (c_X12_allThings (d := d - 1) hN0 hW0 (by omega)) ?_
      rintro _ h_ ⟨rfl, e_⟩
      rw [e_]
      clear e_ h_
      dsimp only [Option.toList, List.drop, List.cons_append, List.nil_append]
      refine Wp.icmp_ne (tgt := 38) (n := 34) dX12_isTree_31 (by decide) rfl (fun c_31 => ?_) (fun c_31 => ?_)
      · rw [nI_eq (by omega) (by omega)] at c_31
        refine Wp.iconst (v := (nI 0)) dX12_isTree_38 (by decide) rfl ?_
        exact Wp.zret dX12_isTree_39 rfl (by decide) (q_ret (bI_f (by simp [trB, *]; try omega)))
      · rw [nI_eq (by omega) (by omega)] at c_31
        refine Wp.iconst (v := (nI 1)) dX12_isTree_34 (by decide) rfl ?_
        refine Wp.goto (n := 39) dX12_isTree_35 (by decide) ?_
        exact Wp.zret dX12_isTree_39 rfl (by decide) (q_ret (bI_t (by simp [trB, *]; omega)))
theorem c_X12_beside {B : ev_B} {d x : Nat} {h : ev_H} {T L : Nat} {fr to : Nat → Nat} {sa ri : Nat → Int} {s : Nat} (hN : NetM h x T L fr to sa ri) (hW : NetW T L fr to sa ri) (hs : s < 128) (hd : 1 ≤ d) :
    Wp B d M_X12_beside 0 [some (.ref x), some (.int (nI s)), none, none] [] h (fun v h' => v = some (.int (nI (besM fr to s L))) ∧ h' = h) := by
  have hN0 := hN
  have hW0 := hW
  obtain ⟨V, n0, g, hV, v0, k0, g0, g1, e0, e1, e2, e3⟩ := hN
  obtain ⟨hT, hL, hW⟩ := hW
  have loop : ∀ i, i ≤ L → Wp B d M_X12_beside 4 [some (.ref x), some (.int (nI s)), some (.int (nI (besM fr to s i))), some (.int (nI i))] [] h (fun v h' => v = some (.int (nI (besM fr to s L))) ∧ h' = h) := by
    refine ev_upl L (fun i hi ih => ?_) ?_
    · have hw := hW i hi
      refine Wp.iload_n dX12_beside_4 rfl rfl ?_
      refine Wp.aload_n dX12_beside_5 rfl (by first | exact Or.inr ⟨_, rfl⟩ | exact Or.inl rfl) rfl ?_
      refine Wp.cV dX12_beside_6 cv_X12_78 rfl (by omega) rfl (Nat.le_of_ble_eq_true rfl) (Nat.le_of_ble_eq_true rfl) (by assumption) rfl (c_X12_lines (d := d - 1) hN0 hW0) ?_
      rintro _ h_ ⟨rfl, e_⟩
      rw [e_]
      clear e_ h_
      dsimp only [Option.toList, List.drop, List.cons_append, List.nil_append]
      refine Wp.icmp_ge (tgt := 72) (n := 12) dX12_beside_9 (by decide) rfl (fun c_9 => ?_) (fun c_9 => ?_)
      · try simp (disch := omega) only [nI_bit0, nI_bit1, Bool.not_eq_false, Bool.not_eq_true] at c_9
        try simp (disch := omega) only [i_lt, i_le, i_eq, l_lt, l_le, l_eq, i_0, i_m1, l_0, nI_tI, iI_tI, lI_tI, Int.not_lt, Int.not_le] at c_9
        omega
      · try simp (disch := omega) only [nI_bit0, nI_bit1, Bool.not_eq_false, Bool.not_eq_true] at c_9
        try simp (disch := omega) only [i_lt, i_le, i_eq, l_lt, l_le, l_eq, i_0, i_m1, l_0, nI_tI, iI_tI, lI_tI, Int.not_lt, Int.not_le] at c_9
        refine Wp.iload_n dX12_beside_12 rfl rfl ?_
        refine Wp.iload_n dX12_beside_13 rfl rfl ?_
        refine Wp.aload_n dX12_beside_14 rfl (by first | exact Or.inr ⟨_, rfl⟩ | exact Or.inl rfl) rfl ?_
        refine Wp.iload_n dX12_beside_15 rfl rfl ?_
        refine Wp.cV dX12_beside_16 cv_X12_118 rfl (by omega) rfl (Nat.le_of_ble_eq_true rfl) (Nat.le_of_ble_eq_true rfl) (by assumption) rfl (c_X12_from (d := d - 1) hN0 hW0 (l := i) hi) ?_
        rintro _ h_ ⟨rfl, e_⟩
        rw [e_]
        clear e_ h_
        dsimp only [Option.toList, List.drop, List.cons_append, List.nil_append]
        refine Wp.ishr dX12_beside_19 rfl ?_
        refine Wp.iconst (v := (nI 1)) dX12_beside_20 (by decide) rfl ?_
        refine Wp.iand dX12_beside_21 rfl ?_
        refine Wp.iconst (v := (nI 1)) dX12_beside_22 (by decide) rfl ?_
        refine Wp.icmp_ne (tgt := 36) (n := 26) dX12_beside_23 (by decide) rfl (fun c_23 => ?_) (fun c_23 => ?_)
        · try simp (disch := omega) only [nI_bit0, nI_bit1, Bool.not_eq_false, Bool.not_eq_true] at c_23
          try simp (disch := omega) only [i_lt, i_le, i_eq, l_lt, l_le, l_eq, i_0, i_m1, l_0, nI_tI, iI_tI, lI_tI, Int.not_lt, Int.not_le] at c_23
          refine Wp.iconst (v := (nI 0)) dX12_beside_36 (by decide) rfl ?_
          refine Wp.ior dX12_beside_37 rfl ?_
          rw [nI_or]
          try simp only [Nat.or_zero]
          refine Wp.istore_n dX12_beside_38 (Nat.le_of_ble_eq_true rfl) (by dsimp only [ev_st1, ev_st2, ev_cl] <;> rfl) rfl ?_
          refine Wp.iload_n dX12_beside_39 rfl rfl ?_
          refine Wp.iload_n dX12_beside_40 rfl rfl ?_
          refine Wp.aload_n dX12_beside_41 rfl (by first | exact Or.inr ⟨_, rfl⟩ | exact Or.inl rfl) rfl ?_
          refine Wp.iload_n dX12_beside_42 rfl rfl ?_
          refine Wp.cV dX12_beside_43 cv_X12_122 rfl (by omega) rfl (Nat.le_of_ble_eq_true rfl) (Nat.le_of_ble_eq_true rfl) (by assumption) rfl (c_X12_to (d := d - 1) hN0 hW0 (l := i) hi) ?_
          rintro _ h_ ⟨rfl, e_⟩
          rw [e_]
          clear e_ h_
          dsimp only [Option.toList, List.drop, List.cons_append, List.nil_append]
          refine Wp.ishr dX12_beside_46 rfl ?_
          refine Wp.iconst (v := (nI 1)) dX12_beside_47 (by decide) rfl ?_
          refine Wp.iand dX12_beside_48 rfl ?_
          refine Wp.iconst (v := (nI 1)) dX12_beside_49 (by decide) rfl ?_
          refine Wp.icmp_ne (tgt := 63) (n := 53) dX12_beside_50 (by decide) rfl (fun c_50 => ?_) (fun c_50 => ?_)
          · try simp (disch := omega) only [nI_bit0, nI_bit1, Bool.not_eq_false, Bool.not_eq_true] at c_50
            try simp (disch := omega) only [i_lt, i_le, i_eq, l_lt, l_le, l_eq, i_0, i_m1, l_0, nI_tI, iI_tI, lI_tI, Int.not_lt, Int.not_le] at c_50
            refine Wp.iconst (v := (nI 0)) dX12_beside_63 (by decide) rfl ?_
            refine Wp.ior dX12_beside_64 rfl ?_
            rw [nI_or]
            try simp only [Nat.or_zero]
            refine Wp.istore_n dX12_beside_65 (Nat.le_of_ble_eq_true rfl) (by dsimp only [ev_st1, ev_st2, ev_cl] <;> rfl) rfl ?_
            refine Wp.iinc (v := _ + (nI 1)) dX12_beside_66 rfl rfl (Nat.le_of_ble_eq_true rfl) (by dsimp only [ev_st1, ev_cl] <;> rfl) rfl ?_
            refine Wp.goto (n := 4) dX12_beside_69 (by decide) ?_
            rw [nI_add1]
            simp [besM, *] at ih
            exact ih
          · try simp (disch := omega) only [nI_bit0, nI_bit1, Bool.not_eq_false, Bool.not_eq_true] at c_50
            try simp (disch := omega) only [i_lt, i_le, i_eq, l_lt, l_le, l_eq, i_0, i_m1, l_0, nI_tI, iI_tI, lI_tI, Int.not_lt, Int.not_le] at c_50
            refine Wp.iconst (v := (nI 1)) dX12_beside_53 (by decide) rfl ?_
            refine Wp.aload_n dX12_beside_54 rfl (by first | exact Or.inr ⟨_, rfl⟩ | exact Or.inl rfl) rfl ?_
            refine Wp.iload_n dX12_beside_55 rfl rfl ?_
            refine Wp.cV dX12_beside_56 cv_X12_118 rfl (by omega) rfl (Nat.le_of_ble_eq_true rfl) (Nat.le_of_ble_eq_true rfl) (by assumption) rfl (c_X12_from (d := d - 1) hN0 hW0 (l := i) hi) ?_
            rintro _ h_ ⟨rfl, e_⟩
            rw [e_]
            clear e_ h_
            dsimp only [Option.toList, List.drop, List.cons_append, List.nil_append]
            refine Wp.ishl dX12_beside_59 rfl ?_
            rw [nI_one_shl (by omega)]
            refine Wp.goto (n := 64) dX12_beside_60 (by decide) ?_
            refine Wp.ior dX12_beside_64 rfl ?_
            rw [nI_or]
            try simp only [Nat.or_zero]
            refine Wp.istore_n dX12_beside_65 (Nat.le_of_ble_eq_true rfl) (by dsimp only [ev_st1, ev_st2, ev_cl] <;> rfl) rfl ?_
            refine Wp.iinc (v := _ + (nI 1)) dX12_beside_66 rfl rfl (Nat.le_of_ble_eq_true rfl) (by dsimp only [ev_st1, ev_cl] <;> rfl) rfl ?_
            refine Wp.goto (n := 4) dX12_beside_69 (by decide) ?_
            rw [nI_add1]
            simp [besM, *] at ih
            exact ih
        · try simp (disch := omega) only [nI_bit0, nI_bit1, Bool.not_eq_false, Bool.not_eq_true] at c_23
          try simp (disch := omega) only [i_lt, i_le, i_eq, l_lt, l_le, l_eq, i_0, i_m1, l_0, nI_tI, iI_tI, lI_tI, Int.not_lt, Int.not_le] at c_23
          refine Wp.iconst (v := (nI 1)) dX12_beside_26 (by decide) rfl ?_
          refine Wp.aload_n dX12_beside_27 rfl (by first | exact Or.inr ⟨_, rfl⟩ | exact Or.inl rfl) rfl ?_
          refine Wp.iload_n dX12_beside_28 rfl rfl ?_
          refine Wp.cV dX12_beside_29 cv_X12_122 rfl (by omega) rfl (Nat.le_of_ble_eq_true rfl) (Nat.le_of_ble_eq_true rfl) (by assumption) rfl (c_X12_to (d := d - 1) hN0 hW0 (l := i) hi) ?_
          rintro _ h_ ⟨rfl, e_⟩
          rw [e_]
          clear e_ h_
          dsimp only [Option.toList, List.drop, List.cons_append, List.nil_append]
          refine Wp.ishl dX12_beside_32 rfl ?_
          rw [nI_one_shl (by omega)]
          refine Wp.goto (n := 37) dX12_beside_33 (by decide) ?_
          refine Wp.ior dX12_beside_37 rfl ?_
          rw [nI_or]
          try simp only [Nat.or_zero]
          refine Wp.istore_n dX12_beside_38 (Nat.le_of_ble_eq_true rfl) (by dsimp only [ev_st1, ev_st2, ev_cl] <;> rfl) rfl ?_
          refine Wp.iload_n dX12_beside_39 rfl rfl ?_
          refine Wp.iload_n dX12_beside_40 rfl rfl ?_
          refine Wp.aload_n dX12_beside_41 rfl (by first | exact Or.inr ⟨_, rfl⟩ | exact Or.inl rfl) rfl ?_
          refine Wp.iload_n dX12_beside_42 rfl rfl ?_
          refine Wp.cV dX12_beside_43 cv_X12_122 rfl (by omega) rfl (Nat.le_of_ble_eq_true rfl) (Nat.le_of_ble_eq_true rfl) (by assumption) rfl (c_X12_to (d := d - 1) hN0 hW0 (l := i) hi) ?_
          rintro _ h_ ⟨rfl, e_⟩
          rw [e_]
          clear e_ h_
          dsimp only [Option.toList, List.drop, List.cons_append, List.nil_append]
          refine Wp.ishr dX12_beside_46 rfl ?_
          refine Wp.iconst (v := (nI 1)) dX12_beside_47 (by decide) rfl ?_
          refine Wp.iand dX12_beside_48 rfl ?_
          refine Wp.iconst (v := (nI 1)) dX12_beside_49 (by decide) rfl ?_
          refine Wp.icmp_ne (tgt := 63) (n := 53) dX12_beside_50 (by decide) rfl (fun c_50 => ?_) (fun c_50 => ?_)
          · try simp (disch := omega) only [nI_bit0, nI_bit1, Bool.not_eq_false, Bool.not_eq_true] at c_50
            try simp (disch := omega) only [i_lt, i_le, i_eq, l_lt, l_le, l_eq, i_0, i_m1, l_0, nI_tI, iI_tI, lI_tI, Int.not_lt, Int.not_le] at c_50
            refine Wp.iconst (v := (nI 0)) dX12_beside_63 (by decide) rfl ?_
            refine Wp.ior dX12_beside_64 rfl ?_
            rw [nI_or]
            try simp only [Nat.or_zero]
            refine Wp.istore_n dX12_beside_65 (Nat.le_of_ble_eq_true rfl) (by dsimp only [ev_st1, ev_st2, ev_cl] <;> rfl) rfl ?_
            refine Wp.iinc (v := _ + (nI 1)) dX12_beside_66 rfl rfl (Nat.le_of_ble_eq_true rfl) (by dsimp only [ev_st1, ev_cl] <;> rfl) rfl ?_
            refine Wp.goto (n := 4) dX12_beside_69 (by decide) ?_
            rw [nI_add1]
            simp [besM, *] at ih
            exact ih
          · try simp (disch := omega) only [nI_bit0, nI_bit1, Bool.not_eq_false, Bool.not_eq_true] at c_50
            try simp (disch := omega) only [i_lt, i_le, i_eq, l_lt, l_le, l_eq, i_0, i_m1, l_0, nI_tI, iI_tI, lI_tI, Int.not_lt, Int.not_le] at c_50
            refine Wp.iconst (v := (nI 1)) dX12_beside_53 (by decide) rfl ?_
            refine Wp.aload_n dX12_beside_54 rfl (by first | exact Or.inr ⟨_, rfl⟩ | exact Or.inl rfl) rfl ?_
            refine Wp.iload_n dX12_beside_55 rfl rfl ?_
            refine Wp.cV dX12_beside_56 cv_X12_118 rfl (by omega) rfl (Nat.le_of_ble_eq_true rfl) (Nat.le_of_ble_eq_true rfl) (by assumption) rfl (c_X12_from (d := d - 1) hN0 hW0 (l := i) hi) ?_
            rintro _ h_ ⟨rfl, e_⟩
            rw [e_]
            clear e_ h_
            dsimp only [Option.toList, List.drop, List.cons_append, List.nil_append]
            refine Wp.ishl dX12_beside_59 rfl ?_
            rw [nI_one_shl (by omega)]
            refine Wp.goto (n := 64) dX12_beside_60 (by decide) ?_
            refine Wp.ior dX12_beside_64 rfl ?_
            rw [nI_or]
            try simp only [Nat.or_zero]
            refine Wp.istore_n dX12_beside_65 (Nat.le_of_ble_eq_true rfl) (by dsimp only [ev_st1, ev_st2, ev_cl] <;> rfl) rfl ?_
            refine Wp.iinc (v := _ + (nI 1)) dX12_beside_66 rfl rfl (Nat.le_of_ble_eq_true rfl) (by dsimp only [ev_st1, ev_cl] <;> rfl) rfl ?_
            refine Wp.goto (n := 4) dX12_beside_69 (by decide) ?_
            rw [nI_add1]
            simp [besM, *] at ih
            exact ih
    · refine Wp.iload_n dX12_beside_4 rfl rfl ?_
      refine Wp.aload_n dX12_beside_5 rfl (by first | exact Or.inr ⟨_, rfl⟩ | exact Or.inl rfl) rfl ?_
      refine Wp.cV dX12_beside_6 cv_X12_78 rfl (by omega) rfl (Nat.le_of_ble_eq_true rfl) (Nat.le_of_ble_eq_true rfl) (by assumption) rfl (c_X12_lines (d := d - 1) hN0 hW0) ?_
      rintro _ h_ ⟨rfl, e_⟩
      rw [e_]
      clear e_ h_
      dsimp only [Option.toList, List.drop, List.cons_append, List.nil_append]
      refine Wp.icmp_ge (tgt := 72) (n := 12) dX12_beside_9 (by decide) rfl (fun c_9 => ?_) (fun c_9 => ?_)
      · try simp (disch := omega) only [nI_bit0, nI_bit1, Bool.not_eq_false, Bool.not_eq_true] at c_9
        try simp (disch := omega) only [i_lt, i_le, i_eq, l_lt, l_le, l_eq, i_0, i_m1, l_0, nI_tI, iI_tI, lI_tI, Int.not_lt, Int.not_le] at c_9
        refine Wp.iload_n dX12_beside_72 rfl rfl ?_
        exact Wp.iret dX12_beside_73 rfl (by exact ⟨rfl, rfl⟩)
      · try simp (disch := omega) only [nI_bit0, nI_bit1, Bool.not_eq_false, Bool.not_eq_true] at c_9
        try simp (disch := omega) only [i_lt, i_le, i_eq, l_lt, l_le, l_eq, i_0, i_m1, l_0, nI_tI, iI_tI, lI_tI, Int.not_lt, Int.not_le] at c_9
        omega
  refine Wp.iconst (v := (nI 0)) dX12_beside_0 (by decide) rfl ?_
  refine Wp.istore_n dX12_beside_1 (Nat.le_of_ble_eq_true rfl) (by dsimp only [ev_st1, ev_st2, ev_cl] <;> rfl) rfl ?_
  refine Wp.iconst (v := (nI 0)) dX12_beside_2 (by decide) rfl ?_
  refine Wp.istore_n dX12_beside_3 (Nat.le_of_ble_eq_true rfl) (by dsimp only [ev_st1, ev_st2, ev_cl] <;> rfl) rfl ?_
  exact loop 0 (by omega)
set_option maxHeartbeats 1000000 in
theorem c_X12_isPairing {B : ev_B} {d x : Nat} {h : ev_H} {T L : Nat} {fr to : Nat → Nat} {sa ri : Nat → Int} {s sd : Nat} (hN : NetM h x T L fr to sa ri) (hW : NetW T L fr to sa ri) (hs : s < 4096) (hsd : sd < 128) (hd : 2 ≤ d) :
    Wp B d M_X12_isPairing 0 [some (.ref x), some (.int (nI s)), some (.int (nI sd)), none, none, none, none] [] h (fun v h' => v = some (.int (bI (prB fr to T L s sd))) ∧ h' = h) := by
  have hN0 := hN
  have hW0 := hW
  obtain ⟨V, n0, g, hV, v0, k0, g0, g1, e0, e1, e2, e3⟩ := hN
  obtain ⟨hT, hL, hW⟩ := hW
  have hwl : ∀ l, l < L → fr l < 7 ∧ to l < 7 := fun l hl => ⟨by have := hW l hl; omega, by have := hW l hl; omega⟩
  have hp := pow_T hT
  have loop : ∀ i, i ≤ L → ∀ (j6 : Option Value), Wp B d M_X12_isPairing 8 [some (.ref x), some (.int (nI s)), some (.int (nI sd)), some (.int (nI (prS fr to s sd i).2)), some (.int (bI (prS fr to s sd i).1)), some (.int (nI i)), j6] [] h (fun v h' => v = some (.int (bI (prB fr to T L s sd))) ∧ h' = h) := by
    refine ev_upl L (fun i hi ih => ?_) ?_
    · intro j6
      have hw := hW i hi
      have hr1 := prS_lt hwl (s := s) (sd := sd) i (by omega)
      have he := ends_lt (fr := fr) (to := to) (l := i) (by omega) (by omega)
      have hand := Nat.and_le_left (n := (prS fr to s sd i).2) (m := ends fr to i)
      refine Wp.iload dX12_isPairing_8 rfl rfl ?_
      refine Wp.aload_n dX12_isPairing_10 rfl (by first | exact Or.inr ⟨_, rfl⟩ | exact Or.inl rfl) rfl ?_
      refine Wp.cV dX12_isPairing_11 cv_X12_78 rfl (by omega) rfl (Nat.le_of_ble_eq_true rfl) (Nat.le_of_ble_eq_true rfl) (by assumption) rfl (c_X12_lines (d := d - 1) hN0 hW0) ?_
      rintro _ h_ ⟨rfl, e_⟩
      rw [e_]
      clear e_ h_
      dsimp only [Option.toList, List.drop, List.cons_append, List.nil_append]
      refine Wp.icmp_ge (tgt := 99) (n := 17) dX12_isPairing_14 (by decide) rfl (fun c_14 => ?_) (fun c_14 => ?_)
      · try simp (disch := omega) only [nI_bit0, nI_bit1, Bool.not_eq_false, Bool.not_eq_true] at c_14
        try simp (disch := omega) only [i_lt, i_le, i_eq, l_lt, l_le, l_eq, i_0, i_m1, l_0, nI_tI, iI_tI, lI_tI, Int.not_lt, Int.not_le] at c_14
        omega
      · try simp (disch := omega) only [nI_bit0, nI_bit1, Bool.not_eq_false, Bool.not_eq_true] at c_14
        try simp (disch := omega) only [i_lt, i_le, i_eq, l_lt, l_le, l_eq, i_0, i_m1, l_0, nI_tI, iI_tI, lI_tI, Int.not_lt, Int.not_le] at c_14
        refine Wp.iload_n dX12_isPairing_17 rfl rfl ?_
        refine Wp.iload dX12_isPairing_18 rfl rfl ?_
        refine Wp.ishr dX12_isPairing_20 rfl ?_
        refine Wp.iconst (v := (nI 1)) dX12_isPairing_21 (by decide) rfl ?_
        refine Wp.iand dX12_isPairing_22 rfl ?_
        refine Wp.iconst (v := (nI 1)) dX12_isPairing_23 (by decide) rfl ?_
        refine Wp.icmp_ne (tgt := 93) (n := 27) dX12_isPairing_24 (by decide) rfl (fun c_24 => ?_) (fun c_24 => ?_)
        · try simp (disch := omega) only [nI_bit0, nI_bit1, Bool.not_eq_false, Bool.not_eq_true] at c_24
          try simp (disch := omega) only [i_lt, i_le, i_eq, l_lt, l_le, l_eq, i_0, i_m1, l_0, nI_tI, iI_tI, lI_tI, Int.not_lt, Int.not_le] at c_24
          refine Wp.iinc (v := _ + (nI 1)) dX12_isPairing_93 rfl rfl (Nat.le_of_ble_eq_true rfl) (by dsimp only [ev_st1, ev_cl] <;> rfl) rfl ?_
          refine Wp.goto (n := 8) dX12_isPairing_96 (by decide) ?_
          rw [nI_add1]
          simp [prS, bI_true, bI_false, *] at ih
          exact ih _
        · try simp (disch := omega) only [nI_bit0, nI_bit1, Bool.not_eq_false, Bool.not_eq_true] at c_24
          try simp (disch := omega) only [i_lt, i_le, i_eq, l_lt, l_le, l_eq, i_0, i_m1, l_0, nI_tI, iI_tI, lI_tI, Int.not_lt, Int.not_le] at c_24
          refine Wp.iconst (v := (nI 1)) dX12_isPairing_27 (by decide) rfl ?_
          refine Wp.aload_n dX12_isPairing_28 rfl (by first | exact Or.inr ⟨_, rfl⟩ | exact Or.inl rfl) rfl ?_
          refine Wp.iload dX12_isPairing_29 rfl rfl ?_
          refine Wp.cV dX12_isPairing_31 cv_X12_118 rfl (by omega) rfl (Nat.le_of_ble_eq_true rfl) (Nat.le_of_ble_eq_true rfl) (by assumption) rfl (c_X12_from (d := d - 1) hN0 hW0 (l := i) hi) ?_
          rintro _ h_ ⟨rfl, e_⟩
          rw [e_]
          clear e_ h_
          dsimp only [Option.toList, List.drop, List.cons_append, List.nil_append]
          refine Wp.ishl dX12_isPairing_34 rfl ?_
          rw [nI_one_shl (by omega)]
          refine Wp.iconst (v := (nI 1)) dX12_isPairing_35 (by decide) rfl ?_
          refine Wp.aload_n dX12_isPairing_36 rfl (by first | exact Or.inr ⟨_, rfl⟩ | exact Or.inl rfl) rfl ?_
          refine Wp.iload dX12_isPairing_37 rfl rfl ?_
          refine Wp.cV dX12_isPairing_39 cv_X12_122 rfl (by omega) rfl (Nat.le_of_ble_eq_true rfl) (Nat.le_of_ble_eq_true rfl) (by assumption) rfl (c_X12_to (d := d - 1) hN0 hW0 (l := i) hi) ?_
          rintro _ h_ ⟨rfl, e_⟩
          rw [e_]
          clear e_ h_
          dsimp only [Option.toList, List.drop, List.cons_append, List.nil_append]
          refine Wp.ishl dX12_isPairing_42 rfl ?_
          rw [nI_one_shl (by omega)]
          refine Wp.ior dX12_isPairing_43 rfl ?_
          rw [nI_or]
          rw [show 2 ^ fr i ||| 2 ^ to i = ends fr to i from rfl]
          refine Wp.istore dX12_isPairing_44 (Nat.le_of_ble_eq_true rfl) (by dsimp only [ev_st1, ev_st2, ev_cl] <;> rfl) rfl ?_
          refine Wp.iload dX12_isPairing_46 rfl rfl ?_
          refine Wp.bif_eq (tgt := 85) (n := 51) dX12_isPairing_48 (by decide) rfl (fun c_48 => ?_) (fun c_48 => ?_)
          · refine Wp.iconst (v := (nI 0)) dX12_isPairing_85 (by decide) rfl ?_
            refine Wp.istore dX12_isPairing_86 (Nat.le_of_ble_eq_true rfl) (by dsimp only [ev_st1, ev_st2, ev_cl] <;> rfl) rfl ?_
            refine Wp.iload_n dX12_isPairing_88 rfl rfl ?_
            refine Wp.iload dX12_isPairing_89 rfl rfl ?_
            refine Wp.ior dX12_isPairing_91 rfl ?_
            rw [nI_or]
            refine Wp.istore_n dX12_isPairing_92 (Nat.le_of_ble_eq_true rfl) (by dsimp only [ev_st1, ev_st2, ev_cl] <;> rfl) rfl ?_
            refine Wp.iinc (v := _ + (nI 1)) dX12_isPairing_93 rfl rfl (Nat.le_of_ble_eq_true rfl) (by dsimp only [ev_st1, ev_cl] <;> rfl) rfl ?_
            refine Wp.goto (n := 8) dX12_isPairing_96 (by decide) ?_
            rw [nI_add1]
            simp [prS, bI_true, bI_false, *] at ih
            exact ih _
          · refine Wp.iload_n dX12_isPairing_51 rfl rfl ?_
            refine Wp.iload dX12_isPairing_52 rfl rfl ?_
            refine Wp.iand dX12_isPairing_54 rfl ?_
            rw [nI_and]
            refine Wp.if_ne (tgt := 85) (n := 58) dX12_isPairing_55 (by decide) rfl (fun c_55 => ?_) (fun c_55 => ?_)
            · rw [nI_eq0 (by omega)] at c_55
              refine Wp.iconst (v := (nI 0)) dX12_isPairing_85 (by decide) rfl ?_
              refine Wp.istore dX12_isPairing_86 (Nat.le_of_ble_eq_true rfl) (by dsimp only [ev_st1, ev_st2, ev_cl] <;> rfl) rfl ?_
              refine Wp.iload_n dX12_isPairing_88 rfl rfl ?_
              refine Wp.iload dX12_isPairing_89 rfl rfl ?_
              refine Wp.ior dX12_isPairing_91 rfl ?_
              rw [nI_or]
              refine Wp.istore_n dX12_isPairing_92 (Nat.le_of_ble_eq_true rfl) (by dsimp only [ev_st1, ev_st2, ev_cl] <;> rfl) rfl ?_
              refine Wp.iinc (v := _ + (nI 1)) dX12_isPairing_93 rfl rfl (Nat.le_of_ble_eq_true rfl) (by dsimp only [ev_st1, ev_cl] <;> rfl) rfl ?_
              refine Wp.goto (n := 8) dX12_isPairing_96 (by decide) ?_
              rw [nI_add1]
              simp [prS, bI_true, bI_false, *] at ih
              exact ih _
            · rw [nI_eq0 (by omega)] at c_55
              refine Wp.iload_n dX12_isPairing_58 rfl rfl ?_
              refine Wp.aload_n dX12_isPairing_59 rfl (by first | exact Or.inr ⟨_, rfl⟩ | exact Or.inl rfl) rfl ?_
              refine Wp.iload dX12_isPairing_60 rfl rfl ?_
              refine Wp.cV dX12_isPairing_62 cv_X12_118 rfl (by omega) rfl (Nat.le_of_ble_eq_true rfl) (Nat.le_of_ble_eq_true rfl) (by assumption) rfl (c_X12_from (d := d - 1) hN0 hW0 (l := i) hi) ?_
              rintro _ h_ ⟨rfl, e_⟩
              rw [e_]
              clear e_ h_
              dsimp only [Option.toList, List.drop, List.cons_append, List.nil_append]
              refine Wp.ishr dX12_isPairing_65 rfl ?_
              refine Wp.iconst (v := (nI 1)) dX12_isPairing_66 (by decide) rfl ?_
              refine Wp.iand dX12_isPairing_67 rfl ?_
              refine Wp.iload_n dX12_isPairing_68 rfl rfl ?_
              refine Wp.aload_n dX12_isPairing_69 rfl (by first | exact Or.inr ⟨_, rfl⟩ | exact Or.inl rfl) rfl ?_
              refine Wp.iload dX12_isPairing_70 rfl rfl ?_
              refine Wp.cV dX12_isPairing_72 cv_X12_122 rfl (by omega) rfl (Nat.le_of_ble_eq_true rfl) (Nat.le_of_ble_eq_true rfl) (by assumption) rfl (c_X12_to (d := d - 1) hN0 hW0 (l := i) hi) ?_
              rintro _ h_ ⟨rfl, e_⟩
              rw [e_]
              clear e_ h_
              dsimp only [Option.toList, List.drop, List.cons_append, List.nil_append]
              refine Wp.ishr dX12_isPairing_75 rfl ?_
              refine Wp.iconst (v := (nI 1)) dX12_isPairing_76 (by decide) rfl ?_
              refine Wp.iand dX12_isPairing_77 rfl ?_
              refine Wp.icmp_eq (tgt := 85) (n := 81) dX12_isPairing_78 (by decide) rfl (fun c_78 => ?_) (fun c_78 => ?_)
              · rw [nI_bit_bit (by omega) (by omega) (by omega)] at c_78
                refine Wp.iconst (v := (nI 0)) dX12_isPairing_85 (by decide) rfl ?_
                refine Wp.istore dX12_isPairing_86 (Nat.le_of_ble_eq_true rfl) (by dsimp only [ev_st1, ev_st2, ev_cl] <;> rfl) rfl ?_
                refine Wp.iload_n dX12_isPairing_88 rfl rfl ?_
                refine Wp.iload dX12_isPairing_89 rfl rfl ?_
                refine Wp.ior dX12_isPairing_91 rfl ?_
                rw [nI_or]
                refine Wp.istore_n dX12_isPairing_92 (Nat.le_of_ble_eq_true rfl) (by dsimp only [ev_st1, ev_st2, ev_cl] <;> rfl) rfl ?_
                refine Wp.iinc (v := _ + (nI 1)) dX12_isPairing_93 rfl rfl (Nat.le_of_ble_eq_true rfl) (by dsimp only [ev_st1, ev_cl] <;> rfl) rfl ?_
                refine Wp.goto (n := 8) dX12_isPairing_96 (by decide) ?_
                rw [nI_add1]
                simp [prS, bI_true, bI_false, *] at ih
                exact ih _
              · rw [nI_bit_bit (by omega) (by omega) (by omega)] at c_78
                refine Wp.iconst (v := (nI 1)) dX12_isPairing_81 (by decide) rfl ?_
                refine Wp.goto (n := 86) dX12_isPairing_82 (by decide) ?_
                refine Wp.istore dX12_isPairing_86 (Nat.le_of_ble_eq_true rfl) (by dsimp only [ev_st1, ev_st2, ev_cl] <;> rfl) rfl ?_
                refine Wp.iload_n dX12_isPairing_88 rfl rfl ?_
                refine Wp.iload dX12_isPairing_89 rfl rfl ?_
                refine Wp.ior dX12_isPairing_91 rfl ?_
                rw [nI_or]
                refine Wp.istore_n dX12_isPairing_92 (Nat.le_of_ble_eq_true rfl) (by dsimp only [ev_st1, ev_st2, ev_cl] <;> rfl) rfl ?_
                refine Wp.iinc (v := _ + (nI 1)) dX12_isPairing_93 rfl rfl (Nat.le_of_ble_eq_true rfl) (by dsimp only [ev_st1, ev_cl] <;> rfl) rfl ?_
                refine Wp.goto (n := 8) dX12_isPairing_96 (by decide) ?_
                rw [nI_add1]
                simp [prS, bI_true, bI_false, *] at ih
                exact ih _
    · intro j6
      have hr1 := prS_lt hwl (s := s) (sd := sd) L (by omega)
      refine Wp.iload dX12_isPairing_8 rfl rfl ?_
      refine Wp.aload_n dX12_isPairing_10 rfl (by first | exact Or.inr ⟨_, rfl⟩ | exact Or.inl rfl) rfl ?_
      refine Wp.cV dX12_isPairing_11 cv_X12_78 rfl (by omega) rfl (Nat.le_of_ble_eq_true rfl) (Nat.le_of_ble_eq_true rfl) (by assumption) rfl (c_X12_lines (d := d - 1) hN0 hW0) ?_
      rintro _ h_ ⟨rfl, e_⟩
      rw [e_]
      clear e_ h_
      dsimp only [Option.toList, List.drop, List.cons_append, List.nil_append]
      refine Wp.icmp_ge (tgt := 99) (n := 17) dX12_isPairing_14 (by decide) rfl (fun c_14 => ?_) (fun c_14 => ?_)
      · try simp (disch := omega) only [nI_bit0, nI_bit1, Bool.not_eq_false, Bool.not_eq_true] at c_14
        try simp (disch := omega) only [i_lt, i_le, i_eq, l_lt, l_le, l_eq, i_0, i_m1, l_0, nI_tI, iI_tI, lI_tI, Int.not_lt, Int.not_le] at c_14
        refine Wp.iload dX12_isPairing_99 rfl rfl ?_
        refine Wp.bif_eq (tgt := 116) (n := 104) dX12_isPairing_101 (by decide) rfl (fun c_101 => ?_) (fun c_101 => ?_)
        · refine Wp.iconst (v := (nI 0)) dX12_isPairing_116 (by decide) rfl ?_
          exact Wp.zret dX12_isPairing_117 rfl (by decide) (q_ret (bI_f (by simp [prB, *])))
        · refine Wp.iload_n dX12_isPairing_104 rfl rfl ?_
          refine Wp.aload_n dX12_isPairing_105 rfl (by first | exact Or.inr ⟨_, rfl⟩ | exact Or.inl rfl) rfl ?_
          refine Wp.cV dX12_isPairing_106 cv_X12_132 rfl (by omega) rfl (Nat.le_of_ble_eq_true rfl) (Nat.le_of_ble_eq_true rfl) (by assumption) rfl (c_X12_allThings (d := d - 1) hN0 hW0 (by omega)) ?_
          rintro _ h_ ⟨rfl, e_⟩
          rw [e_]
          clear e_ h_
          dsimp only [Option.toList, List.drop, List.cons_append, List.nil_append]
          refine Wp.icmp_ne (tgt := 116) (n := 112) dX12_isPairing_109 (by decide) rfl (fun c_109 => ?_) (fun c_109 => ?_)
          · rw [nI_eq (by omega) (by omega)] at c_109
            refine Wp.iconst (v := (nI 0)) dX12_isPairing_116 (by decide) rfl ?_
            exact Wp.zret dX12_isPairing_117 rfl (by decide) (q_ret (bI_f (by simp [prB, *])))
          · rw [nI_eq (by omega) (by omega)] at c_109
            refine Wp.iconst (v := (nI 1)) dX12_isPairing_112 (by decide) rfl ?_
            refine Wp.goto (n := 117) dX12_isPairing_113 (by decide) ?_
            exact Wp.zret dX12_isPairing_117 rfl (by decide) (q_ret (bI_t (by simp [prB, *])))
      · try simp (disch := omega) only [nI_bit0, nI_bit1, Bool.not_eq_false, Bool.not_eq_true] at c_14
        try simp (disch := omega) only [i_lt, i_le, i_eq, l_lt, l_le, l_eq, i_0, i_m1, l_0, nI_tI, iI_tI, lI_tI, Int.not_lt, Int.not_le] at c_14
        omega
  refine Wp.iconst (v := (nI 0)) dX12_isPairing_0 (by decide) rfl ?_
  refine Wp.istore_n dX12_isPairing_1 (Nat.le_of_ble_eq_true rfl) (by dsimp only [ev_st1, ev_st2, ev_cl] <;> rfl) rfl ?_
  refine Wp.iconst (v := (nI 1)) dX12_isPairing_2 (by decide) rfl ?_
  refine Wp.istore dX12_isPairing_3 (Nat.le_of_ble_eq_true rfl) (by dsimp only [ev_st1, ev_st2, ev_cl] <;> rfl) rfl ?_
  refine Wp.iconst (v := (nI 0)) dX12_isPairing_5 (by decide) rfl ?_
  refine Wp.istore dX12_isPairing_6 (Nat.le_of_ble_eq_true rfl) (by dsimp only [ev_st1, ev_st2, ev_cl] <;> rfl) rfl ?_
  exact loop 0 (by omega) _
theorem c_X12_ordered {B : ev_B} {d : Nat} {h : ev_H} {k : Nat} (hk : k < 4096) :
    Wp B d M_X12_ordered 0 [some (.int (nI k)), none, none] [] h (fun v h' => v = some (.int (nI (ordM k 12))) ∧ h' = h) := by
  obtain ⟨R, hR⟩ : ∃ R, ordM k 12 = R := ⟨_, rfl⟩
  rw [hR]
  have loop : ∀ i, i ≤ 12 → Wp B d M_X12_ordered 4 [some (.int (nI k)), some (.int (nI (ordM k i))), some (.int (nI i))] [] h (fun v h' => v = some (.int (nI R)) ∧ h' = h) := by
    refine ev_upl 12 (fun i hi ih => ?_) ?_
    · refine Wp.iload_n dX12_ordered_4 rfl rfl ?_
      refine Wp.bipush (v := (nI 12)) dX12_ordered_5 (by decide) rfl ?_
      refine Wp.icmp_ge (tgt := 42) (n := 10) dX12_ordered_7 (by decide) rfl (fun c_7 => ?_) (fun c_7 => ?_)
      · try simp (disch := omega) only [nI_bit0, nI_bit1, Bool.not_eq_false, Bool.not_eq_true] at c_7
        try simp (disch := omega) only [i_lt, i_le, i_eq, l_lt, l_le, l_eq, i_0, i_m1, l_0, nI_tI, iI_tI, lI_tI, Int.not_lt, Int.not_le] at c_7
        omega
      · try simp (disch := omega) only [nI_bit0, nI_bit1, Bool.not_eq_false, Bool.not_eq_true] at c_7
        try simp (disch := omega) only [i_lt, i_le, i_eq, l_lt, l_le, l_eq, i_0, i_m1, l_0, nI_tI, iI_tI, lI_tI, Int.not_lt, Int.not_le] at c_7
        refine Wp.iload_n dX12_ordered_10 rfl rfl ?_
        refine Wp.sipush (v := (nI 4095)) dX12_ordered_11 (by decide) rfl ?_
        refine Wp.iload_n dX12_ordered_14 rfl rfl ?_
        refine Wp.isub dX12_ordered_15 rfl ?_
        rw [pk_sub (by omega)]
        refine Wp.iload_n dX12_ordered_16 rfl rfl ?_
        refine Wp.ishr dX12_ordered_17 rfl ?_
        refine Wp.iconst (v := (nI 1)) dX12_ordered_18 (by decide) rfl ?_
        refine Wp.iand dX12_ordered_19 rfl ?_
        refine Wp.iconst (v := (nI 1)) dX12_ordered_20 (by decide) rfl ?_
        refine Wp.icmp_ne (tgt := 33) (n := 24) dX12_ordered_21 (by decide) rfl (fun c_21 => ?_) (fun c_21 => ?_)
        · try simp (disch := omega) only [nI_bit0, nI_bit1, Bool.not_eq_false, Bool.not_eq_true] at c_21
          try simp (disch := omega) only [i_lt, i_le, i_eq, l_lt, l_le, l_eq, i_0, i_m1, l_0, nI_tI, iI_tI, lI_tI, Int.not_lt, Int.not_le] at c_21
          refine Wp.iconst (v := (nI 0)) dX12_ordered_33 (by decide) rfl ?_
          refine Wp.ior dX12_ordered_34 rfl ?_
          rw [nI_or]
          try simp only [Nat.or_zero]
          refine Wp.istore_n dX12_ordered_35 (Nat.le_of_ble_eq_true rfl) (by dsimp only [ev_st1, ev_st2, ev_cl] <;> rfl) rfl ?_
          refine Wp.iinc (v := _ + (nI 1)) dX12_ordered_36 rfl rfl (Nat.le_of_ble_eq_true rfl) (by dsimp only [ev_st1, ev_cl] <;> rfl) rfl ?_
          refine Wp.goto (n := 4) dX12_ordered_39 (by decide) ?_
          rw [nI_add1]
          simp only [ordM, c_21, if_true, if_false, Bool.false_eq_true] at ih
          exact ih
        · try simp (disch := omega) only [nI_bit0, nI_bit1, Bool.not_eq_false, Bool.not_eq_true] at c_21
          try simp (disch := omega) only [i_lt, i_le, i_eq, l_lt, l_le, l_eq, i_0, i_m1, l_0, nI_tI, iI_tI, lI_tI, Int.not_lt, Int.not_le] at c_21
          refine Wp.iconst (v := (nI 1)) dX12_ordered_24 (by decide) rfl ?_
          refine Wp.bipush (v := (nI 11)) dX12_ordered_25 (by decide) rfl ?_
          refine Wp.iload_n dX12_ordered_27 rfl rfl ?_
          refine Wp.isub dX12_ordered_28 rfl ?_
          rw [pk_sub (by omega)]
          refine Wp.ishl dX12_ordered_29 rfl ?_
          rw [nI_one_shl (by omega)]
          refine Wp.goto (n := 34) dX12_ordered_30 (by decide) ?_
          refine Wp.ior dX12_ordered_34 rfl ?_
          rw [nI_or]
          try simp only [Nat.or_zero]
          refine Wp.istore_n dX12_ordered_35 (Nat.le_of_ble_eq_true rfl) (by dsimp only [ev_st1, ev_st2, ev_cl] <;> rfl) rfl ?_
          refine Wp.iinc (v := _ + (nI 1)) dX12_ordered_36 rfl rfl (Nat.le_of_ble_eq_true rfl) (by dsimp only [ev_st1, ev_cl] <;> rfl) rfl ?_
          refine Wp.goto (n := 4) dX12_ordered_39 (by decide) ?_
          rw [nI_add1]
          simp only [ordM, c_21, if_true, if_false, Bool.false_eq_true] at ih
          exact ih
    · refine Wp.iload_n dX12_ordered_4 rfl rfl ?_
      refine Wp.bipush (v := (nI 12)) dX12_ordered_5 (by decide) rfl ?_
      refine Wp.icmp_ge (tgt := 42) (n := 10) dX12_ordered_7 (by decide) rfl (fun c_7 => ?_) (fun c_7 => ?_)
      · try simp (disch := omega) only [nI_bit0, nI_bit1, Bool.not_eq_false, Bool.not_eq_true] at c_7
        try simp (disch := omega) only [i_lt, i_le, i_eq, l_lt, l_le, l_eq, i_0, i_m1, l_0, nI_tI, iI_tI, lI_tI, Int.not_lt, Int.not_le] at c_7
        refine Wp.iload_n dX12_ordered_42 rfl rfl ?_
        exact Wp.iret dX12_ordered_43 rfl (by rw [hR]; exact ⟨rfl, rfl⟩)
      · try simp (disch := omega) only [nI_bit0, nI_bit1, Bool.not_eq_false, Bool.not_eq_true] at c_7
        try simp (disch := omega) only [i_lt, i_le, i_eq, l_lt, l_le, l_eq, i_0, i_m1, l_0, nI_tI, iI_tI, lI_tI, Int.not_lt, Int.not_le] at c_7
        omega
  refine Wp.iconst (v := (nI 0)) dX12_ordered_0 (by decide) rfl ?_
  refine Wp.istore_n dX12_ordered_1 (Nat.le_of_ble_eq_true rfl) (by dsimp only [ev_st1, ev_st2, ev_cl] <;> rfl) rfl ?_
  refine Wp.iconst (v := (nI 0)) dX12_ordered_2 (by decide) rfl ?_
  refine Wp.istore_n dX12_ordered_3 (Nat.le_of_ble_eq_true rfl) (by dsimp only [ev_st1, ev_st2, ev_cl] <;> rfl) rfl ?_
  exact loop 0 (by omega)
set_option maxHeartbeats 2000000 in
theorem c_X12_dearest {B : ev_B} {d x : Nat} {h : ev_H} {T L : Nat} {fr to : Nat → Nat} {sa ri : Nat → Int} {s l : Nat} {p q : Int32} (hN : NetM h x T L fr to sa ri) (hW : NetW T L fr to sa ri) (hs : s < 4096) (hl : l < L) (hp : -1000000 ≤ p.toInt ∧ p.toInt ≤ 1000000) (hq : -1000000 ≤ q.toInt ∧ q.toInt ≤ 1000000) (hd : 3 ≤ d) :
    Wp B d M_X12_dearest 0 [some (.ref x), some (.int (nI s)), some (.int (nI l)), some (.int (p)), some (.int (q)), none, none, none] [] h (fun v h' => v = some (.int (iI (drS (fun o => s.testBit o && btwM fr to L s o l) (fun o => sa o * q.toInt + ri o * p.toInt) L))) ∧ h' = h) := by
  have hN0 := hN
  have hW0 := hW
  obtain ⟨V, n0, g, hV, v0, k0, g0, g1, e0, e1, e2, e3⟩ := hN
  obtain ⟨hT, hL, hW⟩ := hW
  have hwl : ∀ l, l < L → fr l < 7 ∧ to l < 7 := fun l hl => ⟨by have := hW l hl; omega, by have := hW l hl; omega⟩
  have hwt := hW l hl
  have loop : ∀ i, i ≤ L → ∀ (j7 : Option Value), Wp B d M_X12_dearest 6 [some (.ref x), some (.int (nI s)), some (.int (nI l)), some (.int (p)), some (.int (q)), some (.int (iI (drS (fun o => s.testBit o && btwM fr to L s o l) (fun o => sa o * q.toInt + ri o * p.toInt) i))), some (.int (nI i)), j7] [] h (fun v h' => v = some (.int (iI (drS (fun o => s.testBit o && btwM fr to L s o l) (fun o => sa o * q.toInt + ri o * p.toInt) L))) ∧ h' = h) := by
    refine ev_upl L (fun i hi ih => ?_) ?_
    · intro j7
      have hb := drS_lt (fun o => s.testBit o && btwM fr to L s o l) (fun o => sa o * q.toInt + ri o * p.toInt) i
      have hw := hW i hi
      refine Wp.iload dX12_dearest_6 rfl rfl ?_
      refine Wp.aload_n dX12_dearest_8 rfl (by first | exact Or.inr ⟨_, rfl⟩ | exact Or.inl rfl) rfl ?_
      refine Wp.cV dX12_dearest_9 cv_X12_78 rfl (by omega) rfl (Nat.le_of_ble_eq_true rfl) (Nat.le_of_ble_eq_true rfl) (by assumption) rfl (c_X12_lines (d := d - 1) hN0 hW0) ?_
      rintro _ h_ ⟨rfl, e_⟩
      rw [e_]
      clear e_ h_
      dsimp only [Option.toList, List.drop, List.cons_append, List.nil_append]
      refine Wp.icmp_ge (tgt := 111) (n := 15) dX12_dearest_12 (by decide) rfl (fun c_12 => ?_) (fun c_12 => ?_)
      · try simp (disch := omega) only [nI_bit0, nI_bit1, Bool.not_eq_false, Bool.not_eq_true] at c_12
        try simp (disch := omega) only [i_lt, i_le, i_eq, l_lt, l_le, l_eq, i_0, i_m1, l_0, nI_tI, iI_tI, lI_tI, Int.not_lt, Int.not_le] at c_12
        omega
      · try simp (disch := omega) only [nI_bit0, nI_bit1, Bool.not_eq_false, Bool.not_eq_true] at c_12
        try simp (disch := omega) only [i_lt, i_le, i_eq, l_lt, l_le, l_eq, i_0, i_m1, l_0, nI_tI, iI_tI, lI_tI, Int.not_lt, Int.not_le] at c_12
        refine Wp.iload_n dX12_dearest_15 rfl rfl ?_
        refine Wp.iload dX12_dearest_16 rfl rfl ?_
        refine Wp.ishr dX12_dearest_18 rfl ?_
        refine Wp.iconst (v := (nI 1)) dX12_dearest_19 (by decide) rfl ?_
        refine Wp.iand dX12_dearest_20 rfl ?_
        refine Wp.iconst (v := (nI 1)) dX12_dearest_21 (by decide) rfl ?_
        refine Wp.icmp_ne (tgt := 60) (n := 25) dX12_dearest_22 (by decide) rfl (fun c_22 => ?_) (fun c_22 => ?_)
        · try simp (disch := omega) only [nI_bit0, nI_bit1, Bool.not_eq_false, Bool.not_eq_true] at c_22
          try simp (disch := omega) only [i_lt, i_le, i_eq, l_lt, l_le, l_eq, i_0, i_m1, l_0, nI_tI, iI_tI, lI_tI, Int.not_lt, Int.not_le] at c_22
          refine Wp.iconst (v := (nI 0)) dX12_dearest_60 (by decide) rfl ?_
          refine Wp.istore dX12_dearest_61 (Nat.le_of_ble_eq_true rfl) (by dsimp only [ev_st1, ev_st2, ev_cl] <;> rfl) rfl ?_
          refine Wp.iload dX12_dearest_63 rfl rfl ?_
          refine Wp.if_eq (tgt := 101) (n := 68) dX12_dearest_65 (by decide) rfl (fun _ => ?_) (fun c_ => absurd c_ (by decide))
          refine Wp.iload dX12_dearest_101 rfl rfl ?_
          refine Wp.istore dX12_dearest_103 (Nat.le_of_ble_eq_true rfl) (by dsimp only [ev_st1, ev_st2, ev_cl] <;> rfl) rfl ?_
          refine Wp.iinc (v := _ + (nI 1)) dX12_dearest_105 rfl rfl (Nat.le_of_ble_eq_true rfl) (by dsimp only [ev_st1, ev_cl] <;> rfl) rfl ?_
          refine Wp.goto (n := 6) dX12_dearest_108 (by decide) ?_
          rw [nI_add1]
          simp [drS, ← nI_iI, *] at ih
          first | exact ih _ | (rw [if_pos (by omega)] at ih; exact ih _) | (rw [if_neg (by omega)] at ih; exact ih _)
        · try simp (disch := omega) only [nI_bit0, nI_bit1, Bool.not_eq_false, Bool.not_eq_true] at c_22
          try simp (disch := omega) only [i_lt, i_le, i_eq, l_lt, l_le, l_eq, i_0, i_m1, l_0, nI_tI, iI_tI, lI_tI, Int.not_lt, Int.not_le] at c_22
          refine Wp.aload_n dX12_dearest_25 rfl (by first | exact Or.inr ⟨_, rfl⟩ | exact Or.inl rfl) rfl ?_
          refine Wp.iload_n dX12_dearest_26 rfl rfl ?_
          refine Wp.iconst (v := (nI 1)) dX12_dearest_27 (by decide) rfl ?_
          refine Wp.iload dX12_dearest_28 rfl rfl ?_
          refine Wp.ishl dX12_dearest_30 rfl ?_
          rw [nI_one_shl (by omega)]
          refine Wp.iconst (v := (-1)) dX12_dearest_31 (by decide) rfl ?_
          refine Wp.ixor dX12_dearest_32 rfl ?_
          refine Wp.iand dX12_dearest_33 rfl ?_
          rw [nI_andnot (by omega) (by omega)]
          refine Wp.iconst (v := (nI 1)) dX12_dearest_34 (by decide) rfl ?_
          refine Wp.aload_n dX12_dearest_35 rfl (by first | exact Or.inr ⟨_, rfl⟩ | exact Or.inl rfl) rfl ?_
          refine Wp.iload_n dX12_dearest_36 rfl rfl ?_
          refine Wp.cV dX12_dearest_37 cv_X12_118 rfl (by omega) rfl (Nat.le_of_ble_eq_true rfl) (Nat.le_of_ble_eq_true rfl) (by assumption) rfl (c_X12_from (d := d - 1) hN0 hW0 (l := l) hl) ?_
          rintro _ h_ ⟨rfl, e_⟩
          rw [e_]
          clear e_ h_
          dsimp only [Option.toList, List.drop, List.cons_append, List.nil_append]
          refine Wp.ishl dX12_dearest_40 rfl ?_
          rw [nI_one_shl (by omega)]
          refine Wp.iconst (v := (nI 1)) dX12_dearest_41 (by decide) rfl ?_
          refine Wp.cV dX12_dearest_42 cv_X12_128 rfl (by omega) rfl (Nat.le_of_ble_eq_true rfl) (Nat.le_of_ble_eq_true rfl) (by assumption) rfl (c_X12_reached (d := d - 1) hN0 hW0 (s := less s i) (r := 2 ^ fr l) (bo := true) (less_lt (n := 12) hs) (pow_lt7 (by omega)) (by omega)) ?_
          rintro _ h_ ⟨rfl, e_⟩
          rw [e_]
          clear e_ h_
          dsimp only [Option.toList, List.drop, List.cons_append, List.nil_append]
          refine Wp.aload_n dX12_dearest_45 rfl (by first | exact Or.inr ⟨_, rfl⟩ | exact Or.inl rfl) rfl ?_
          refine Wp.iload_n dX12_dearest_46 rfl rfl ?_
          refine Wp.cV dX12_dearest_47 cv_X12_122 rfl (by omega) rfl (Nat.le_of_ble_eq_true rfl) (Nat.le_of_ble_eq_true rfl) (by assumption) rfl (c_X12_to (d := d - 1) hN0 hW0 (l := l) hl) ?_
          rintro _ h_ ⟨rfl, e_⟩
          rw [e_]
          clear e_ h_
          dsimp only [Option.toList, List.drop, List.cons_append, List.nil_append]
          have hr := reaM_lt hwl (s := less s i) (bo := true) (pow_lt7 (i := fr l) (by omega)) 7
          refine Wp.ishr dX12_dearest_50 rfl ?_
          refine Wp.iconst (v := (nI 1)) dX12_dearest_51 (by decide) rfl ?_
          refine Wp.iand dX12_dearest_52 rfl ?_
          refine Wp.if_ne (tgt := 60) (n := 56) dX12_dearest_53 (by decide) rfl (fun c_53 => ?_) (fun c_53 => ?_)
          · try simp (disch := omega) only [nI_bit0, nI_bit1, Bool.not_eq_false, Bool.not_eq_true] at c_53
            try simp (disch := omega) only [i_lt, i_le, i_eq, l_lt, l_le, l_eq, i_0, i_m1, l_0, nI_tI, iI_tI, lI_tI, Int.not_lt, Int.not_le] at c_53
            have hbt : btwM fr to L s i l = false := by simp [btwM, c_53]
            refine Wp.iconst (v := (nI 0)) dX12_dearest_60 (by decide) rfl ?_
            refine Wp.istore dX12_dearest_61 (Nat.le_of_ble_eq_true rfl) (by dsimp only [ev_st1, ev_st2, ev_cl] <;> rfl) rfl ?_
            refine Wp.iload dX12_dearest_63 rfl rfl ?_
            refine Wp.if_eq (tgt := 101) (n := 68) dX12_dearest_65 (by decide) rfl (fun _ => ?_) (fun c_ => absurd c_ (by decide))
            refine Wp.iload dX12_dearest_101 rfl rfl ?_
            refine Wp.istore dX12_dearest_103 (Nat.le_of_ble_eq_true rfl) (by dsimp only [ev_st1, ev_st2, ev_cl] <;> rfl) rfl ?_
            refine Wp.iinc (v := _ + (nI 1)) dX12_dearest_105 rfl rfl (Nat.le_of_ble_eq_true rfl) (by dsimp only [ev_st1, ev_cl] <;> rfl) rfl ?_
            refine Wp.goto (n := 6) dX12_dearest_108 (by decide) ?_
            rw [nI_add1]
            simp [drS, ← nI_iI, *] at ih
            first | exact ih _ | (rw [if_pos (by omega)] at ih; exact ih _) | (rw [if_neg (by omega)] at ih; exact ih _)
          · try simp (disch := omega) only [nI_bit0, nI_bit1, Bool.not_eq_false, Bool.not_eq_true] at c_53
            try simp (disch := omega) only [i_lt, i_le, i_eq, l_lt, l_le, l_eq, i_0, i_m1, l_0, nI_tI, iI_tI, lI_tI, Int.not_lt, Int.not_le] at c_53
            have hbt : btwM fr to L s i l = true := by simp [btwM, c_53]
            refine Wp.iconst (v := (nI 1)) dX12_dearest_56 (by decide) rfl ?_
            refine Wp.goto (n := 61) dX12_dearest_57 (by decide) ?_
            refine Wp.istore dX12_dearest_61 (Nat.le_of_ble_eq_true rfl) (by dsimp only [ev_st1, ev_st2, ev_cl] <;> rfl) rfl ?_
            refine Wp.iload dX12_dearest_63 rfl rfl ?_
            refine Wp.if_eq (tgt := 101) (n := 68) dX12_dearest_65 (by decide) rfl (fun c_ => absurd c_ (by decide)) (fun _ => ?_)
            refine Wp.iload dX12_dearest_68 rfl rfl ?_
            refine Wp.iconst (v := (-1)) dX12_dearest_70 (by decide) rfl ?_
            refine Wp.icmp_eq (tgt := 96) (n := 74) dX12_dearest_71 (by decide) rfl (fun c_71 => ?_) (fun c_71 => ?_)
            · try simp (disch := omega) only [nI_bit0, nI_bit1, Bool.not_eq_false, Bool.not_eq_true] at c_71
              try simp (disch := omega) only [i_lt, i_le, i_eq, l_lt, l_le, l_eq, i_0, i_m1, l_0, nI_tI, iI_tI, lI_tI, Int.not_lt, Int.not_le] at c_71
              refine Wp.iload dX12_dearest_96 rfl rfl ?_
              refine Wp.goto (n := 103) dX12_dearest_98 (by decide) ?_
              refine Wp.istore dX12_dearest_103 (Nat.le_of_ble_eq_true rfl) (by dsimp only [ev_st1, ev_st2, ev_cl] <;> rfl) rfl ?_
              refine Wp.iinc (v := _ + (nI 1)) dX12_dearest_105 rfl rfl (Nat.le_of_ble_eq_true rfl) (by dsimp only [ev_st1, ev_cl] <;> rfl) rfl ?_
              refine Wp.goto (n := 6) dX12_dearest_108 (by decide) ?_
              rw [nI_add1]
              simp [drS, ← nI_iI, *] at ih
              first | exact ih _ | (rw [if_pos (by omega)] at ih; exact ih _) | (rw [if_neg (by omega)] at ih; exact ih _)
            · try simp (disch := omega) only [nI_bit0, nI_bit1, Bool.not_eq_false, Bool.not_eq_true] at c_71
              try simp (disch := omega) only [i_lt, i_le, i_eq, l_lt, l_le, l_eq, i_0, i_m1, l_0, nI_tI, iI_tI, lI_tI, Int.not_lt, Int.not_le] at c_71
              refine Wp.aload_n dX12_dearest_74 rfl (by first | exact Or.inr ⟨_, rfl⟩ | exact Or.inl rfl) rfl ?_
              refine Wp.iload dX12_dearest_75 rfl rfl ?_
              refine Wp.iload_n dX12_dearest_77 rfl rfl ?_
              refine Wp.iload dX12_dearest_78 rfl rfl ?_
              refine Wp.cV dX12_dearest_80 cv_X12_243 rfl (by omega) rfl (Nat.le_of_ble_eq_true rfl) (Nat.le_of_ble_eq_true rfl) (by assumption) rfl (c_X12_lineCost (d := d - 1) hN0 hW0 (l := i) hi) ?_
              rintro _ h_ ⟨rfl, e_⟩
              rw [e_]
              clear e_ h_
              dsimp only [Option.toList, List.drop, List.cons_append, List.nil_append]
              obtain ⟨D, hD⟩ : ∃ D : Nat, drS (fun o => s.testBit o && btwM fr to L s o l) (fun o => sa o * q.toInt + ri o * p.toInt) i = D := ⟨_, (Int.toNat_of_nonneg (by omega)).symm⟩
              rw [hD, ← nI_iI]
              refine Wp.aload_n dX12_dearest_83 rfl (by first | exact Or.inr ⟨_, rfl⟩ | exact Or.inl rfl) rfl ?_
              refine Wp.iload dX12_dearest_84 rfl rfl ?_
              refine Wp.iload_n dX12_dearest_86 rfl rfl ?_
              refine Wp.iload dX12_dearest_87 rfl rfl ?_
              refine Wp.cV dX12_dearest_89 cv_X12_243 rfl (by omega) rfl (Nat.le_of_ble_eq_true rfl) (Nat.le_of_ble_eq_true rfl) (by assumption) rfl (c_X12_lineCost (d := d - 1) hN0 hW0 (l := D) (by omega)) ?_
              rintro _ h_ ⟨rfl, e_⟩
              rw [e_]
              clear e_ h_
              dsimp only [Option.toList, List.drop, List.cons_append, List.nil_append]
              have hw2 := hW D (by omega)
              have m1 := mulb (a := sa i) (b := q.toInt) (A := 100) (C := 1000000) (by omega) (by omega)
              have m2 := mulb (a := ri i) (b := p.toInt) (A := 20) (C := 1000000) (by omega) (by omega)
              have m3 := mulb (a := sa D) (b := q.toInt) (A := 100) (C := 1000000) (by omega) (by omega)
              have m4 := mulb (a := ri D) (b := p.toInt) (A := 20) (C := 1000000) (by omega) (by omega)
              refine Wp.lcmp_le (tgt := 101) (n := 96) dX12_dearest_92 rfl dX12_dearest_93 (by decide) rfl (fun c_92 => ?_) (fun c_92 => ?_)
              · try simp (disch := omega) only [nI_bit0, nI_bit1, Bool.not_eq_false, Bool.not_eq_true] at c_92
                try simp (disch := omega) only [i_lt, i_le, i_eq, l_lt, l_le, l_eq, i_0, i_m1, l_0, nI_tI, iI_tI, lI_tI, Int.not_lt, Int.not_le] at c_92
                refine Wp.iload dX12_dearest_101 rfl rfl ?_
                refine Wp.istore dX12_dearest_103 (Nat.le_of_ble_eq_true rfl) (by dsimp only [ev_st1, ev_st2, ev_cl] <;> rfl) rfl ?_
                refine Wp.iinc (v := _ + (nI 1)) dX12_dearest_105 rfl rfl (Nat.le_of_ble_eq_true rfl) (by dsimp only [ev_st1, ev_cl] <;> rfl) rfl ?_
                refine Wp.goto (n := 6) dX12_dearest_108 (by decide) ?_
                rw [nI_add1]
                simp [drS, ← nI_iI, *] at ih
                first | exact ih _ | (rw [if_pos (by omega)] at ih; exact ih _) | (rw [if_neg (by omega)] at ih; exact ih _)
              · try simp (disch := omega) only [nI_bit0, nI_bit1, Bool.not_eq_false, Bool.not_eq_true] at c_92
                try simp (disch := omega) only [i_lt, i_le, i_eq, l_lt, l_le, l_eq, i_0, i_m1, l_0, nI_tI, iI_tI, lI_tI, Int.not_lt, Int.not_le] at c_92
                refine Wp.iload dX12_dearest_96 rfl rfl ?_
                refine Wp.goto (n := 103) dX12_dearest_98 (by decide) ?_
                refine Wp.istore dX12_dearest_103 (Nat.le_of_ble_eq_true rfl) (by dsimp only [ev_st1, ev_st2, ev_cl] <;> rfl) rfl ?_
                refine Wp.iinc (v := _ + (nI 1)) dX12_dearest_105 rfl rfl (Nat.le_of_ble_eq_true rfl) (by dsimp only [ev_st1, ev_cl] <;> rfl) rfl ?_
                refine Wp.goto (n := 6) dX12_dearest_108 (by decide) ?_
                rw [nI_add1]
                simp [drS, ← nI_iI, *] at ih
                first | exact ih _ | (rw [if_pos (by omega)] at ih; exact ih _) | (rw [if_neg (by omega)] at ih; exact ih _)
    · intro j7
      have hb := drS_lt (fun o => s.testBit o && btwM fr to L s o l) (fun o => sa o * q.toInt + ri o * p.toInt) L
      refine Wp.iload dX12_dearest_6 rfl rfl ?_
      refine Wp.aload_n dX12_dearest_8 rfl (by first | exact Or.inr ⟨_, rfl⟩ | exact Or.inl rfl) rfl ?_
      refine Wp.cV dX12_dearest_9 cv_X12_78 rfl (by omega) rfl (Nat.le_of_ble_eq_true rfl) (Nat.le_of_ble_eq_true rfl) (by assumption) rfl (c_X12_lines (d := d - 1) hN0 hW0) ?_
      rintro _ h_ ⟨rfl, e_⟩
      rw [e_]
      clear e_ h_
      dsimp only [Option.toList, List.drop, List.cons_append, List.nil_append]
      refine Wp.icmp_ge (tgt := 111) (n := 15) dX12_dearest_12 (by decide) rfl (fun c_12 => ?_) (fun c_12 => ?_)
      · try simp (disch := omega) only [nI_bit0, nI_bit1, Bool.not_eq_false, Bool.not_eq_true] at c_12
        try simp (disch := omega) only [i_lt, i_le, i_eq, l_lt, l_le, l_eq, i_0, i_m1, l_0, nI_tI, iI_tI, lI_tI, Int.not_lt, Int.not_le] at c_12
        refine Wp.iload dX12_dearest_111 rfl rfl ?_
        exact Wp.iret dX12_dearest_113 rfl (by exact ⟨rfl, rfl⟩)
      · try simp (disch := omega) only [nI_bit0, nI_bit1, Bool.not_eq_false, Bool.not_eq_true] at c_12
        try simp (disch := omega) only [i_lt, i_le, i_eq, l_lt, l_le, l_eq, i_0, i_m1, l_0, nI_tI, iI_tI, lI_tI, Int.not_lt, Int.not_le] at c_12
        omega
  refine Wp.iconst (v := (-1)) dX12_dearest_0 (by decide) rfl ?_
  refine Wp.istore dX12_dearest_1 (Nat.le_of_ble_eq_true rfl) (by dsimp only [ev_st1, ev_st2, ev_cl] <;> rfl) rfl ?_
  refine Wp.iconst (v := (nI 0)) dX12_dearest_3 (by decide) rfl ?_
  refine Wp.istore dX12_dearest_4 (Nat.le_of_ble_eq_true rfl) (by dsimp only [ev_st1, ev_st2, ev_cl] <;> rfl) rfl ?_
  exact loop 0 (by omega) _
