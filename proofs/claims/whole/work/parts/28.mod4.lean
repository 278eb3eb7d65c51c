/-! the reference: costs, the least, the best -/
def PrA (V : Nat → Value) (G : Nat → Nat → Int32) (n : Nat) (S R : Nat → Int) : Prop := V 20 = .int (nI n) ∧ ∀ j, j < n → G 22 j = iI (S j) ∧ G 23 j = iI (R j)
def PrB (n : Nat) (S R : Nat → Int) : Prop := n ≤ 4096 ∧ ∀ j, j < n → -1200 ≤ S j ∧ S j ≤ 1200 ∧ -240 ≤ R j ∧ R j ≤ 240
def pqB (p q : Int) : Prop := -1000000000 ≤ p ∧ p ≤ 1000000000 ∧ -1000000000 ≤ q ∧ q ≤ 1000000000
theorem cst_b {n : Nat} {S R : Nat → Int} {p q : Int} {j : Nat} (hB : PrB n S R) (hj : j < n) (h : pqB p q) : -1440000000000 ≤ cst S R p q j ∧ cst S R p q j ≤ 1440000000000 := by
  obtain ⟨-, hB⟩ := hB
  have hb := hB j hj
  obtain ⟨h1, h2, h3, h4⟩ := h
  have m1 := mulb (a := S j) (b := q) (A := 1200) (C := 1000000000) (by omega) (by omega)
  have m2 := mulb (a := R j) (b := p) (A := 240) (C := 1000000000) (by omega) (by omega)
  unfold cst
  omega
theorem mnN_b {n : Nat} {S R : Nat → Int} {p q : Int} {i : Nat} (hB : PrB n S R) (hi : i ≤ n) (h0 : 0 < i) (h : pqB p q) : -1440000000000 ≤ mnN (cst S R p q) i ∧ mnN (cst S R p q) i ≤ 1440000000000 := by
  obtain ⟨j, hj, e⟩ := mnN_at (cst S R p q) i h0
  rw [e]; exact cst_b hB (by omega) h
theorem c_X12_costAt {B : ev_B} {d x : Nat} {h : ev_H} {V : Nat → Value} {G : Nat → Nat → Int32} {Z : Nat → Nat → Int64} {n : Nat} {S R : Nat → Int} {p q : Int} {c : Nat} (hM : MH h x V G Z) (hA : PrA V G n S R) (hB : PrB n S R) (hc : c < n) :
    Wp B d M_X12_costAt 0 [some (.ref x), some (.int (nI c)), some (.long (lI p)), none, some (.long (lI q)), none] [] h (fun v h' => v = some (.long (lI (cst S R p q c))) ∧ h' = h) := by
  have hn := hB.1
  have hb := hB.2 c hc
  have ha := hA.2 c hc
  refine Wp.aload_n dX12_costAt_0 rfl (by first | exact Or.inr ⟨_, rfl⟩ | exact Or.inl rfl) rfl ?_
  refine Wp.get dX12_costAt_1 fl_X12_60 hM.ob (hM.rf 22 (by decide)) rfl ?_
  refine Wp.iload_n dX12_costAt_4 rfl rfl ?_
  refine Wp.iaload dX12_costAt_5 (hM.ia 22 (by decide)) (nI_toInt (by omega)) (by show _ < 4096; omega) rfl ?_
  rw [ha.1]
  refine Wp.i2l dX12_costAt_6 rfl ?_
  rw [iI_l (by omega) (by omega)]
  refine Wp.lload dX12_costAt_7 rfl rfl ?_
  refine Wp.lmul dX12_costAt_9 rfl ?_
  rw [lI_mul]
  refine Wp.aload_n dX12_costAt_10 rfl (by first | exact Or.inr ⟨_, rfl⟩ | exact Or.inl rfl) rfl ?_
  refine Wp.get dX12_costAt_11 fl_X12_63 hM.ob (hM.rf 23 (by decide)) rfl ?_
  refine Wp.iload_n dX12_costAt_14 rfl rfl ?_
  refine Wp.iaload dX12_costAt_15 (hM.ia 23 (by decide)) (nI_toInt (by omega)) (by show _ < 4096; omega) rfl ?_
  rw [ha.2]
  refine Wp.i2l dX12_costAt_16 rfl ?_
  rw [iI_l (by omega) (by omega)]
  refine Wp.lload_n dX12_costAt_17 rfl rfl ?_
  refine Wp.lmul dX12_costAt_18 rfl ?_
  rw [lI_mul]
  refine Wp.ladd dX12_costAt_19 rfl ?_
  rw [lI_add]
  exact Wp.lret dX12_costAt_20 rfl (by exact ⟨rfl, rfl⟩)
theorem c_X12_leastAt {B : ev_B} {d x : Nat} {h : ev_H} {V : Nat → Value} {G : Nat → Nat → Int32} {Z : Nat → Nat → Int64} {n : Nat} {S R : Nat → Int} {p q : Int} (hM : MH h x V G Z) (hA : PrA V G n S R) (hB : PrB n S R) (h0 : 0 < n) (hpq : pqB p q) (hd : 1 ≤ d) :
    Wp B d M_X12_leastAt 0 [some (.ref x), some (.long (lI p)), none, some (.long (lI q)), none, none, none, none] [] h (fun v h' => v = some (.long (lI (mnN (cst S R p q) n))) ∧ h' = h) := by
  have hn := hB.1
  have loop : ∀ i, i ≤ n → 0 < i → Wp B d M_X12_leastAt 12 [some (.ref x), some (.long (lI p)), none, some (.long (lI q)), none, some (.long (lI (mnN (cst S R p q) i))), none, some (.int (nI i))] [] h (fun v h' => v = some (.long (lI (mnN (cst S R p q) n))) ∧ h' = h) := by
    refine ev_upl n (fun i hi ih => ?_) ?_
    · intro hi0
      have hcb := cst_b hB hi hpq
      have hmb := mnN_b hB (Nat.le_of_lt hi) hi0 hpq
      refine Wp.iload dX12_leastAt_12 rfl rfl ?_
      refine Wp.aload_n dX12_leastAt_14 rfl (by first | exact Or.inr ⟨_, rfl⟩ | exact Or.inl rfl) rfl ?_
      refine Wp.get dX12_leastAt_15 fl_X12_150 hM.ob hA.1 rfl ?_
      refine Wp.icmp_ge (tgt := 56) (n := 21) dX12_leastAt_18 (by decide) rfl (fun c_18 => ?_) (fun c_18 => ?_)
      · try simp (disch := omega) only [nI_bit0, nI_bit1, Bool.not_eq_false, Bool.not_eq_true] at c_18
        try simp (disch := omega) only [i_lt, i_le, i_eq, l_lt, l_le, l_eq, i_0, i_m1, l_0, nI_tI, iI_tI, lI_tI, Int.not_lt, Int.not_le] at c_18
        omega
      · try simp (disch := omega) only [nI_bit0, nI_bit1, Bool.not_eq_false, Bool.not_eq_true] at c_18
        try simp (disch := omega) only [i_lt, i_le, i_eq, l_lt, l_le, l_eq, i_0, i_m1, l_0, nI_tI, iI_tI, lI_tI, Int.not_lt, Int.not_le] at c_18
        refine Wp.aload_n dX12_leastAt_21 rfl (by first | exact Or.inr ⟨_, rfl⟩ | exact Or.inl rfl) rfl ?_
        refine Wp.iload dX12_leastAt_22 rfl rfl ?_
        refine Wp.lload_n dX12_leastAt_24 rfl rfl ?_
        refine Wp.lload_n dX12_leastAt_25 rfl rfl ?_
        refine Wp.cV dX12_leastAt_26 cv_X12_184 rfl (by omega) rfl (Nat.le_of_ble_eq_true rfl) (Nat.le_of_ble_eq_true rfl) hM.ob rfl (c_X12_costAt (d := d - 1) hM hA hB (p := p) (q := q) (c := i) hi) ?_
        rintro _ h_ ⟨rfl, e_⟩
        rw [e_]
        clear e_ h_
        dsimp only [Option.toList, List.drop, List.cons_append, List.nil_append]
        refine Wp.lload dX12_leastAt_29 rfl rfl ?_
        refine Wp.lcmp_ge (tgt := 46) (n := 35) dX12_leastAt_31 rfl dX12_leastAt_32 (by decide) rfl (fun c_31 => ?_) (fun c_31 => ?_)
        · try simp (disch := omega) only [nI_bit0, nI_bit1, Bool.not_eq_false, Bool.not_eq_true] at c_31
          try simp (disch := omega) only [i_lt, i_le, i_eq, l_lt, l_le, l_eq, i_0, i_m1, l_0, nI_tI, iI_tI, lI_tI, Int.not_lt, Int.not_le] at c_31
          refine Wp.lload dX12_leastAt_46 rfl rfl ?_
          refine Wp.lstore dX12_leastAt_48 (Nat.le_of_ble_eq_true rfl) (by dsimp only [ev_st1, ev_st2, ev_cl] <;> rfl) rfl ?_
          refine Wp.iinc (v := _ + (nI 1)) dX12_leastAt_50 rfl rfl (Nat.le_of_ble_eq_true rfl) (by dsimp only [ev_st1, ev_cl] <;> rfl) rfl ?_
          refine Wp.goto (n := 12) dX12_leastAt_53 (by decide) ?_
          rw [nI_add1]
          simp [mnN, *] at ih
          first | exact ih | (rw [if_neg (by omega)] at ih; exact ih) | (rw [if_pos (by omega)] at ih; exact ih)
        · try simp (disch := omega) only [nI_bit0, nI_bit1, Bool.not_eq_false, Bool.not_eq_true] at c_31
          try simp (disch := omega) only [i_lt, i_le, i_eq, l_lt, l_le, l_eq, i_0, i_m1, l_0, nI_tI, iI_tI, lI_tI, Int.not_lt, Int.not_le] at c_31
          refine Wp.aload_n dX12_leastAt_35 rfl (by first | exact Or.inr ⟨_, rfl⟩ | exact Or.inl rfl) rfl ?_
          refine Wp.iload dX12_leastAt_36 rfl rfl ?_
          refine Wp.lload_n dX12_leastAt_38 rfl rfl ?_
          refine Wp.lload_n dX12_leastAt_39 rfl rfl ?_
          refine Wp.cV dX12_leastAt_40 cv_X12_184 rfl (by omega) rfl (Nat.le_of_ble_eq_true rfl) (Nat.le_of_ble_eq_true rfl) hM.ob rfl (c_X12_costAt (d := d - 1) hM hA hB (p := p) (q := q) (c := i) hi) ?_
          rintro _ h_ ⟨rfl, e_⟩
          rw [e_]
          clear e_ h_
          dsimp only [Option.toList, List.drop, List.cons_append, List.nil_append]
          refine Wp.goto (n := 48) dX12_leastAt_43 (by decide) ?_
          refine Wp.lstore dX12_leastAt_48 (Nat.le_of_ble_eq_true rfl) (by dsimp only [ev_st1, ev_st2, ev_cl] <;> rfl) rfl ?_
          refine Wp.iinc (v := _ + (nI 1)) dX12_leastAt_50 rfl rfl (Nat.le_of_ble_eq_true rfl) (by dsimp only [ev_st1, ev_cl] <;> rfl) rfl ?_
          refine Wp.goto (n := 12) dX12_leastAt_53 (by decide) ?_
          rw [nI_add1]
          simp [mnN, *] at ih
          first | exact ih | (rw [if_neg (by omega)] at ih; exact ih) | (rw [if_pos (by omega)] at ih; exact ih)
    · intro hi0
      refine Wp.iload dX12_leastAt_12 rfl rfl ?_
      refine Wp.aload_n dX12_leastAt_14 rfl (by first | exact Or.inr ⟨_, rfl⟩ | exact Or.inl rfl) rfl ?_
      refine Wp.get dX12_leastAt_15 fl_X12_150 hM.ob hA.1 rfl ?_
      refine Wp.icmp_ge (tgt := 56) (n := 21) dX12_leastAt_18 (by decide) rfl (fun c_18 => ?_) (fun c_18 => ?_)
      · try simp (disch := omega) only [nI_bit0, nI_bit1, Bool.not_eq_false, Bool.not_eq_true] at c_18
        try simp (disch := omega) only [i_lt, i_le, i_eq, l_lt, l_le, l_eq, i_0, i_m1, l_0, nI_tI, iI_tI, lI_tI, Int.not_lt, Int.not_le] at c_18
        refine Wp.lload dX12_leastAt_56 rfl rfl ?_
        exact Wp.lret dX12_leastAt_58 rfl (by exact ⟨rfl, rfl⟩)
      · try simp (disch := omega) only [nI_bit0, nI_bit1, Bool.not_eq_false, Bool.not_eq_true] at c_18
        try simp (disch := omega) only [i_lt, i_le, i_eq, l_lt, l_le, l_eq, i_0, i_m1, l_0, nI_tI, iI_tI, lI_tI, Int.not_lt, Int.not_le] at c_18
        omega
  refine Wp.aload_n dX12_leastAt_0 rfl (by first | exact Or.inr ⟨_, rfl⟩ | exact Or.inl rfl) rfl ?_
  refine Wp.iconst (v := (nI 0)) dX12_leastAt_1 (by decide) rfl ?_
  refine Wp.lload_n dX12_leastAt_2 rfl rfl ?_
  refine Wp.lload_n dX12_leastAt_3 rfl rfl ?_
  refine Wp.cV dX12_leastAt_4 cv_X12_184 rfl (by omega) rfl (Nat.le_of_ble_eq_true rfl) (Nat.le_of_ble_eq_true rfl) hM.ob rfl (c_X12_costAt (d := d - 1) hM hA hB (p := p) (q := q) (c := 0) h0) ?_
  rintro _ h_ ⟨rfl, e_⟩
  rw [e_]
  clear e_ h_
  dsimp only [Option.toList, List.drop, List.cons_append, List.nil_append]
  refine Wp.lstore dX12_leastAt_7 (Nat.le_of_ble_eq_true rfl) (by dsimp only [ev_st1, ev_st2, ev_cl] <;> rfl) rfl ?_
  refine Wp.iconst (v := (nI 1)) dX12_leastAt_9 (by decide) rfl ?_
  refine Wp.istore dX12_leastAt_10 (Nat.le_of_ble_eq_true rfl) (by dsimp only [ev_st1, ev_st2, ev_cl] <;> rfl) rfl ?_
  rw [show cst S R p q 0 = mnN (cst S R p q) 1 from by simp [mnN]]
  exact loop 1 (by omega) (by omega)
theorem Kw1 {R : Nat → Int} : Kw 1 R = R := rfl
theorem Kw2 {R : Nat → Int} : Kw 2 R = fun j => -R j := rfl
theorem Kw0 {R : Nat → Int} {w : Nat} (h1 : w ≠ 1) (h2 : w ≠ 2) : Kw w R = fun _ => 0 := by funext j; simp [Kw, h1, h2]
set_option maxHeartbeats 2000000 in
theorem c_X12_bestAt {B : ev_B} {d x : Nat} {h : ev_H} {V : Nat → Value} {G : Nat → Nat → Int32} {Z : Nat → Nat → Int64} {n : Nat} {S R : Nat → Int} {p q : Int} {w : Nat} (hM : MH h x V G Z) (hA : PrA V G n S R) (hB : PrB n S R) (h0 : 0 < n) (hpq : pqB p q) (hw : w ≤ 2) (hd : 2 ≤ d) :
    Wp B d M_X12_bestAt 0 [some (.ref x), some (.long (lI p)), none, some (.long (lI q)), none, some (.int (nI w)), none, none, none, none, none] [] h (fun v h' => v = some (.int (nI (bst (cst S R p q) (Kw w R) n))) ∧ h' = h) := by
  have hn := hB.1
  have hLb := mnN_b hB (Nat.le_refl n) h0 hpq
  have loop : ∀ i, i ≤ n → ∀ j10 : Option Value, Wp B d M_X12_bestAt 14 [some (.ref x), some (.long (lI p)), none, some (.long (lI q)), none, some (.int (nI w)), some (.long (lI (mnN (cst S R p q) n))), none, some (.int (iI (bsN (cst S R p q) (Kw w R) (mnN (cst S R p q) n) i))), some (.int (nI i)), j10] [] h (fun v h' => v = some (.int (nI (bst (cst S R p q) (Kw w R) n))) ∧ h' = h) := by
    refine ev_upl n (fun i hi ih => ?_) ?_
    · intro j10
      have hcb := cst_b hB hi hpq
      have hib := hB.2 i hi
      have hbi := bsN_in (cst S R p q) (Kw w R) (mnN (cst S R p q) n) i
      refine Wp.iload dX12_bestAt_14 rfl rfl ?_
      refine Wp.aload_n dX12_bestAt_16 rfl (by first | exact Or.inr ⟨_, rfl⟩ | exact Or.inl rfl) rfl ?_
      refine Wp.get dX12_bestAt_17 fl_X12_150 hM.ob hA.1 rfl ?_
      refine Wp.icmp_ge (tgt := 116) (n := 23) dX12_bestAt_20 (by decide) rfl (fun c_20 => ?_) (fun c_20 => ?_)
      · try simp (disch := omega) only [nI_bit0, nI_bit1, Bool.not_eq_false, Bool.not_eq_true] at c_20
        try simp (disch := omega) only [i_lt, i_le, i_eq, l_lt, l_le, l_eq, i_0, i_m1, l_0, nI_tI, iI_tI, lI_tI, Int.not_lt, Int.not_le] at c_20
        omega
      · try simp (disch := omega) only [nI_bit0, nI_bit1, Bool.not_eq_false, Bool.not_eq_true] at c_20
        try simp (disch := omega) only [i_lt, i_le, i_eq, l_lt, l_le, l_eq, i_0, i_m1, l_0, nI_tI, iI_tI, lI_tI, Int.not_lt, Int.not_le] at c_20
        refine Wp.aload_n dX12_bestAt_23 rfl (by first | exact Or.inr ⟨_, rfl⟩ | exact Or.inl rfl) rfl ?_
        refine Wp.iload dX12_bestAt_24 rfl rfl ?_
        refine Wp.lload_n dX12_bestAt_26 rfl rfl ?_
        refine Wp.lload_n dX12_bestAt_27 rfl rfl ?_
        refine Wp.cV dX12_bestAt_28 cv_X12_184 rfl (by omega) rfl (Nat.le_of_ble_eq_true rfl) (Nat.le_of_ble_eq_true rfl) hM.ob rfl (c_X12_costAt (d := d - 1) hM hA hB (p := p) (q := q) (c := i) hi) ?_
        rintro _ h_ ⟨rfl, e_⟩
        rw [e_]
        clear e_ h_
        dsimp only [Option.toList, List.drop, List.cons_append, List.nil_append]
        refine Wp.lload dX12_bestAt_31 rfl rfl ?_
        refine Wp.lcmp_ne (tgt := 110) (n := 37) dX12_bestAt_33 rfl dX12_bestAt_34 (by decide) rfl (fun c_33 => ?_) (fun c_33 => ?_)
        · try simp (disch := omega) only [nI_bit0, nI_bit1, Bool.not_eq_false, Bool.not_eq_true] at c_33
          try simp (disch := omega) only [i_lt, i_le, i_eq, l_lt, l_le, l_eq, i_0, i_m1, l_0, nI_tI, iI_tI, lI_tI, Int.not_lt, Int.not_le] at c_33
          refine Wp.iinc (v := _ + (nI 1)) dX12_bestAt_110 rfl rfl (Nat.le_of_ble_eq_true rfl) (by dsimp only [ev_st1, ev_cl] <;> rfl) rfl ?_
          refine Wp.goto (n := 14) dX12_bestAt_113 (by decide) ?_
          rw [nI_add1]
          rw [show bsN (cst S R p q) (Kw w R) (mnN (cst S R p q) n) (i + 1) = if cst S R p q i = mnN (cst S R p q) n ∧ (bsN (cst S R p q) (Kw w R) (mnN (cst S R p q) n) i = -1 ∨ Kw w R i < Kw w R (bsN (cst S R p q) (Kw w R) (mnN (cst S R p q) n) i).toNat) then (i : Int) else bsN (cst S R p q) (Kw w R) (mnN (cst S R p q) n) i from rfl] at ih
          first
            | (rw [if_pos ⟨by omega, by first | (left; omega) | (right; rw [hD, Int.toNat_natCast]; simp only [Kw]; omega)⟩] at ih; rw [nI_iI] ; first | exact ih _ | (rw [← nI_iI]; exact ih _))
            | (rw [if_neg (by intro z; first | omega | (have z1 := z.1; have z2 := z.2; rw [hD, Int.toNat_natCast] at z2; simp only [Kw] at z2; omega))] at ih; first | exact ih _ | (rw [hD, ← nI_iI] at ih; exact ih _))
        · try simp (disch := omega) only [nI_bit0, nI_bit1, Bool.not_eq_false, Bool.not_eq_true] at c_33
          try simp (disch := omega) only [i_lt, i_le, i_eq, l_lt, l_le, l_eq, i_0, i_m1, l_0, nI_tI, iI_tI, lI_tI, Int.not_lt, Int.not_le] at c_33
          refine Wp.iload dX12_bestAt_37 rfl rfl ?_
          refine Wp.iconst (v := (-1)) dX12_bestAt_39 (by decide) rfl ?_
          refine Wp.icmp_eq (tgt := 89) (n := 43) dX12_bestAt_40 (by decide) rfl (fun c_40 => ?_) (fun c_40 => ?_)
          · try simp (disch := omega) only [nI_bit0, nI_bit1, Bool.not_eq_false, Bool.not_eq_true] at c_40
            try simp (disch := omega) only [i_lt, i_le, i_eq, l_lt, l_le, l_eq, i_0, i_m1, l_0, nI_tI, iI_tI, lI_tI, Int.not_lt, Int.not_le] at c_40
            refine Wp.iconst (v := (nI 1)) dX12_bestAt_89 (by decide) rfl ?_
            refine Wp.goto (n := 94) dX12_bestAt_90 (by decide) ?_
            refine Wp.istore dX12_bestAt_94 (Nat.le_of_ble_eq_true rfl) (by dsimp only [ev_st1, ev_st2, ev_cl] <;> rfl) rfl ?_
            refine Wp.iload dX12_bestAt_96 rfl rfl ?_
            refine Wp.if_eq (tgt := 106) (n := 101) dX12_bestAt_98 (by decide) rfl (fun c_ => absurd c_ (by decide)) (fun _ => ?_)
            refine Wp.iload dX12_bestAt_101 rfl rfl ?_
            refine Wp.goto (n := 108) dX12_bestAt_103 (by decide) ?_
            refine Wp.istore dX12_bestAt_108 (Nat.le_of_ble_eq_true rfl) (by dsimp only [ev_st1, ev_st2, ev_cl] <;> rfl) rfl ?_
            refine Wp.iinc (v := _ + (nI 1)) dX12_bestAt_110 rfl rfl (Nat.le_of_ble_eq_true rfl) (by dsimp only [ev_st1, ev_cl] <;> rfl) rfl ?_
            refine Wp.goto (n := 14) dX12_bestAt_113 (by decide) ?_
            rw [nI_add1]
            rw [show bsN (cst S R p q) (Kw w R) (mnN (cst S R p q) n) (i + 1) = if cst S R p q i = mnN (cst S R p q) n ∧ (bsN (cst S R p q) (Kw w R) (mnN (cst S R p q) n) i = -1 ∨ Kw w R i < Kw w R (bsN (cst S R p q) (Kw w R) (mnN (cst S R p q) n) i).toNat) then (i : Int) else bsN (cst S R p q) (Kw w R) (mnN (cst S R p q) n) i from rfl] at ih
            first
              | (rw [if_pos ⟨by omega, by first | (left; omega) | (right; rw [hD, Int.toNat_natCast]; simp only [Kw]; omega)⟩] at ih; rw [nI_iI] ; first | exact ih _ | (rw [← nI_iI]; exact ih _))
              | (rw [if_neg (by intro z; first | omega | (have z1 := z.1; have z2 := z.2; rw [hD, Int.toNat_natCast] at z2; simp only [Kw] at z2; omega))] at ih; first | exact ih _ | (rw [hD, ← nI_iI] at ih; exact ih _))
          · try simp (disch := omega) only [nI_bit0, nI_bit1, Bool.not_eq_false, Bool.not_eq_true] at c_40
            try simp (disch := omega) only [i_lt, i_le, i_eq, l_lt, l_le, l_eq, i_0, i_m1, l_0, nI_tI, iI_tI, lI_tI, Int.not_lt, Int.not_le] at c_40
            obtain ⟨D, hD⟩ : ∃ D : Nat, bsN (cst S R p q) (Kw w R) (mnN (cst S R p q) n) i = D := ⟨_, (Int.toNat_of_nonneg (by omega)).symm⟩
            have hDn : D < n := by omega
            have hDb := hB.2 D hDn
            rw [hD, ← nI_iI]
            refine Wp.iload dX12_bestAt_43 rfl rfl ?_
            refine Wp.iconst (v := (nI 1)) dX12_bestAt_45 (by decide) rfl ?_
            refine Wp.icmp_ne (tgt := 66) (n := 49) dX12_bestAt_46 (by decide) rfl (fun c_46 => ?_) (fun c_46 => ?_)
            · try simp (disch := omega) only [i_lt, i_le, i_eq, i_m1, nI_tI, iI_tI, Int.not_lt, Int.not_le] at c_46
              refine Wp.iload dX12_bestAt_66 rfl rfl ?_
              refine Wp.iconst (v := (nI 2)) dX12_bestAt_68 (by decide) rfl ?_
              refine Wp.icmp_ne (tgt := 93) (n := 72) dX12_bestAt_69 (by decide) rfl (fun c_69 => ?_) (fun c_69 => ?_)
              · try simp (disch := omega) only [i_lt, i_le, i_eq, i_m1, nI_tI, iI_tI, Int.not_lt, Int.not_le] at c_69
                refine Wp.iconst (v := (nI 0)) dX12_bestAt_93 (by decide) rfl ?_
                refine Wp.istore dX12_bestAt_94 (Nat.le_of_ble_eq_true rfl) (by dsimp only [ev_st1, ev_st2, ev_cl] <;> rfl) rfl ?_
                refine Wp.iload dX12_bestAt_96 rfl rfl ?_
                refine Wp.if_eq (tgt := 106) (n := 101) dX12_bestAt_98 (by decide) rfl (fun _ => ?_) (fun c_ => absurd c_ (by decide))
                refine Wp.iload dX12_bestAt_106 rfl rfl ?_
                refine Wp.istore dX12_bestAt_108 (Nat.le_of_ble_eq_true rfl) (by dsimp only [ev_st1, ev_st2, ev_cl] <;> rfl) rfl ?_
                refine Wp.iinc (v := _ + (nI 1)) dX12_bestAt_110 rfl rfl (Nat.le_of_ble_eq_true rfl) (by dsimp only [ev_st1, ev_cl] <;> rfl) rfl ?_
                refine Wp.goto (n := 14) dX12_bestAt_113 (by decide) ?_
                rw [nI_add1]
                rw [show bsN (cst S R p q) (Kw w R) (mnN (cst S R p q) n) (i + 1) = if cst S R p q i = mnN (cst S R p q) n ∧ (bsN (cst S R p q) (Kw w R) (mnN (cst S R p q) n) i = -1 ∨ Kw w R i < Kw w R (bsN (cst S R p q) (Kw w R) (mnN (cst S R p q) n) i).toNat) then (i : Int) else bsN (cst S R p q) (Kw w R) (mnN (cst S R p q) n) i from rfl] at ih
                first
                  | (rw [if_pos ⟨by omega, by first | (left; omega) | (right; rw [hD, Int.toNat_natCast]; simp only [Kw]; omega)⟩] at ih; rw [nI_iI] ; first | exact ih _ | (rw [← nI_iI]; exact ih _))
                  | (rw [if_neg (by intro z; first | omega | (have z1 := z.1; have z2 := z.2; rw [hD, Int.toNat_natCast] at z2; simp only [Kw] at z2; omega))] at ih; first | exact ih _ | (rw [hD, ← nI_iI] at ih; exact ih _))
              · try simp (disch := omega) only [i_lt, i_le, i_eq, i_m1, nI_tI, iI_tI, Int.not_lt, Int.not_le] at c_69
                refine Wp.aload_n dX12_bestAt_72 rfl (by first | exact Or.inr ⟨_, rfl⟩ | exact Or.inl rfl) rfl ?_
                refine Wp.get dX12_bestAt_73 fl_X12_63 hM.ob (hM.rf 23 (by decide)) rfl ?_
                refine Wp.iload dX12_bestAt_76 rfl rfl ?_
                refine Wp.iaload dX12_bestAt_78 (hM.ia 23 (by decide)) (nI_toInt (by omega)) (by show _ < 4096; omega) rfl ?_
                rw [(hA.2 i hi).2]
                refine Wp.aload_n dX12_bestAt_79 rfl (by first | exact Or.inr ⟨_, rfl⟩ | exact Or.inl rfl) rfl ?_
                refine Wp.get dX12_bestAt_80 fl_X12_63 hM.ob (hM.rf 23 (by decide)) rfl ?_
                refine Wp.iload dX12_bestAt_83 rfl rfl ?_
                refine Wp.iaload dX12_bestAt_85 (hM.ia 23 (by decide)) (nI_toInt (by omega)) (by show _ < 4096; omega) rfl ?_
                rw [(hA.2 D hDn).2]
                refine Wp.icmp_le (tgt := 93) (n := 89) dX12_bestAt_86 (by decide) rfl (fun c_86 => ?_) (fun c_86 => ?_)
                · try simp (disch := omega) only [i_lt, i_le, i_eq, i_m1, nI_tI, iI_tI, Int.not_lt, Int.not_le] at c_86
                  refine Wp.iconst (v := (nI 0)) dX12_bestAt_93 (by decide) rfl ?_
                  refine Wp.istore dX12_bestAt_94 (Nat.le_of_ble_eq_true rfl) (by dsimp only [ev_st1, ev_st2, ev_cl] <;> rfl) rfl ?_
                  refine Wp.iload dX12_bestAt_96 rfl rfl ?_
                  refine Wp.if_eq (tgt := 106) (n := 101) dX12_bestAt_98 (by decide) rfl (fun _ => ?_) (fun c_ => absurd c_ (by decide))
                  refine Wp.iload dX12_bestAt_106 rfl rfl ?_
                  refine Wp.istore dX12_bestAt_108 (Nat.le_of_ble_eq_true rfl) (by dsimp only [ev_st1, ev_st2, ev_cl] <;> rfl) rfl ?_
                  refine Wp.iinc (v := _ + (nI 1)) dX12_bestAt_110 rfl rfl (Nat.le_of_ble_eq_true rfl) (by dsimp only [ev_st1, ev_cl] <;> rfl) rfl ?_
                  refine Wp.goto (n := 14) dX12_bestAt_113 (by decide) ?_
                  rw [nI_add1]
                  rw [show bsN (cst S R p q) (Kw w R) (mnN (cst S R p q) n) (i + 1) = if cst S R p q i = mnN (cst S R p q) n ∧ (bsN (cst S R p q) (Kw w R) (mnN (cst S R p q) n) i = -1 ∨ Kw w R i < Kw w R (bsN (cst S R p q) (Kw w R) (mnN (cst S R p q) n) i).toNat) then (i : Int) else bsN (cst S R p q) (Kw w R) (mnN (cst S R p q) n) i from rfl] at ih
                  first
                    | (rw [if_pos ⟨by omega, by first | (left; omega) | (right; rw [hD, Int.toNat_natCast]; simp only [Kw]; omega)⟩] at ih; rw [nI_iI] ; first | exact ih _ | (rw [← nI_iI]; exact ih _))
                    | (rw [if_neg (by intro z; first | omega | (have z1 := z.1; have z2 := z.2; rw [hD, Int.toNat_natCast] at z2; simp only [Kw] at z2; omega))] at ih; first | exact ih _ | (rw [hD, ← nI_iI] at ih; exact ih _))
                · try simp (disch := omega) only [i_lt, i_le, i_eq, i_m1, nI_tI, iI_tI, Int.not_lt, Int.not_le] at c_86
                  refine Wp.iconst (v := (nI 1)) dX12_bestAt_89 (by decide) rfl ?_
                  refine Wp.goto (n := 94) dX12_bestAt_90 (by decide) ?_
                  refine Wp.istore dX12_bestAt_94 (Nat.le_of_ble_eq_true rfl) (by dsimp only [ev_st1, ev_st2, ev_cl] <;> rfl) rfl ?_
                  refine Wp.iload dX12_bestAt_96 rfl rfl ?_
                  refine Wp.if_eq (tgt := 106) (n := 101) dX12_bestAt_98 (by decide) rfl (fun c_ => absurd c_ (by decide)) (fun _ => ?_)
                  refine Wp.iload dX12_bestAt_101 rfl rfl ?_
                  refine Wp.goto (n := 108) dX12_bestAt_103 (by decide) ?_
                  refine Wp.istore dX12_bestAt_108 (Nat.le_of_ble_eq_true rfl) (by dsimp only [ev_st1, ev_st2, ev_cl] <;> rfl) rfl ?_
                  refine Wp.iinc (v := _ + (nI 1)) dX12_bestAt_110 rfl rfl (Nat.le_of_ble_eq_true rfl) (by dsimp only [ev_st1, ev_cl] <;> rfl) rfl ?_
                  refine Wp.goto (n := 14) dX12_bestAt_113 (by decide) ?_
                  rw [nI_add1]
                  rw [show bsN (cst S R p q) (Kw w R) (mnN (cst S R p q) n) (i + 1) = if cst S R p q i = mnN (cst S R p q) n ∧ (bsN (cst S R p q) (Kw w R) (mnN (cst S R p q) n) i = -1 ∨ Kw w R i < Kw w R (bsN (cst S R p q) (Kw w R) (mnN (cst S R p q) n) i).toNat) then (i : Int) else bsN (cst S R p q) (Kw w R) (mnN (cst S R p q) n) i from rfl] at ih
                  first
                    | (rw [if_pos ⟨by omega, by first | (left; omega) | (right; rw [hD, Int.toNat_natCast]; simp only [Kw]; omega)⟩] at ih; rw [nI_iI] ; first | exact ih _ | (rw [← nI_iI]; exact ih _))
                    | (rw [if_neg (by intro z; first | omega | (have z1 := z.1; have z2 := z.2; rw [hD, Int.toNat_natCast] at z2; simp only [Kw] at z2; omega))] at ih; first | exact ih _ | (rw [hD, ← nI_iI] at ih; exact ih _))
            · try simp (disch := omega) only [i_lt, i_le, i_eq, i_m1, nI_tI, iI_tI, Int.not_lt, Int.not_le] at c_46
              refine Wp.aload_n dX12_bestAt_49 rfl (by first | exact Or.inr ⟨_, rfl⟩ | exact Or.inl rfl) rfl ?_
              refine Wp.get dX12_bestAt_50 fl_X12_63 hM.ob (hM.rf 23 (by decide)) rfl ?_
              refine Wp.iload dX12_bestAt_53 rfl rfl ?_
              refine Wp.iaload dX12_bestAt_55 (hM.ia 23 (by decide)) (nI_toInt (by omega)) (by show _ < 4096; omega) rfl ?_
              rw [(hA.2 i hi).2]
              refine Wp.aload_n dX12_bestAt_56 rfl (by first | exact Or.inr ⟨_, rfl⟩ | exact Or.inl rfl) rfl ?_
              refine Wp.get dX12_bestAt_57 fl_X12_63 hM.ob (hM.rf 23 (by decide)) rfl ?_
              refine Wp.iload dX12_bestAt_60 rfl rfl ?_
              refine Wp.iaload dX12_bestAt_62 (hM.ia 23 (by decide)) (nI_toInt (by omega)) (by show _ < 4096; omega) rfl ?_
              rw [(hA.2 D hDn).2]
              refine Wp.icmp_lt (tgt := 89) (n := 66) dX12_bestAt_63 (by decide) rfl (fun c_63 => ?_) (fun c_63 => ?_)
              · try simp (disch := omega) only [i_lt, i_le, i_eq, i_m1, nI_tI, iI_tI, Int.not_lt, Int.not_le] at c_63
                refine Wp.iconst (v := (nI 1)) dX12_bestAt_89 (by decide) rfl ?_
                refine Wp.goto (n := 94) dX12_bestAt_90 (by decide) ?_
                refine Wp.istore dX12_bestAt_94 (Nat.le_of_ble_eq_true rfl) (by dsimp only [ev_st1, ev_st2, ev_cl] <;> rfl) rfl ?_
                refine Wp.iload dX12_bestAt_96 rfl rfl ?_
                refine Wp.if_eq (tgt := 106) (n := 101) dX12_bestAt_98 (by decide) rfl (fun c_ => absurd c_ (by decide)) (fun _ => ?_)
                refine Wp.iload dX12_bestAt_101 rfl rfl ?_
                refine Wp.goto (n := 108) dX12_bestAt_103 (by decide) ?_
                refine Wp.istore dX12_bestAt_108 (Nat.le_of_ble_eq_true rfl) (by dsimp only [ev_st1, ev_st2, ev_cl] <;> rfl) rfl ?_
                refine Wp.iinc (v := _ + (nI 1)) dX12_bestAt_110 rfl rfl (Nat.le_of_ble_eq_true rfl) (by dsimp only [ev_st1, ev_cl] <;> rfl) rfl ?_
                refine Wp.goto (n := 14) dX12_bestAt_113 (by decide) ?_
                rw [nI_add1]
                rw [show bsN (cst S R p q) (Kw w R) (mnN (cst S R p q) n) (i + 1) = if cst S R p q i = mnN (cst S R p q) n ∧ (bsN (cst S R p q) (Kw w R) (mnN (cst S R p q) n) i = -1 ∨ Kw w R i < Kw w R (bsN (cst S R p q) (Kw w R) (mnN (cst S R p q) n) i).toNat) then (i : Int) else bsN (cst S R p q) (Kw w R) (mnN (cst S R p q) n) i from rfl] at ih
                first
                  | (rw [if_pos ⟨by omega, by first | (left; omega) | (right; rw [hD, Int.toNat_natCast]; simp only [Kw]; omega)⟩] at ih; rw [nI_iI] ; first | exact ih _ | (rw [← nI_iI]; exact ih _))
                  | (rw [if_neg (by intro z; first | omega | (have z1 := z.1; have z2 := z.2; rw [hD, Int.toNat_natCast] at z2; simp only [Kw] at z2; omega))] at ih; first | exact ih _ | (rw [hD, ← nI_iI] at ih; exact ih _))
              · try simp (disch := omega) only [i_lt, i_le, i_eq, i_m1, nI_tI, iI_tI, Int.not_lt, Int.not_le] at c_63
                refine Wp.iload dX12_bestAt_66 rfl rfl ?_
                refine Wp.iconst (v := (nI 2)) dX12_bestAt_68 (by decide) rfl ?_
                refine Wp.icmp_ne (tgt := 93) (n := 72) dX12_bestAt_69 (by decide) rfl (fun c_69 => ?_) (fun c_69 => ?_)
                · try simp (disch := omega) only [i_lt, i_le, i_eq, i_m1, nI_tI, iI_tI, Int.not_lt, Int.not_le] at c_69
                  refine Wp.iconst (v := (nI 0)) dX12_bestAt_93 (by decide) rfl ?_
                  refine Wp.istore dX12_bestAt_94 (Nat.le_of_ble_eq_true rfl) (by dsimp only [ev_st1, ev_st2, ev_cl] <;> rfl) rfl ?_
                  refine Wp.iload dX12_bestAt_96 rfl rfl ?_
                  refine Wp.if_eq (tgt := 106) (n := 101) dX12_bestAt_98 (by decide) rfl (fun _ => ?_) (fun c_ => absurd c_ (by decide))
                  refine Wp.iload dX12_bestAt_106 rfl rfl ?_
                  refine Wp.istore dX12_bestAt_108 (Nat.le_of_ble_eq_true rfl) (by dsimp only [ev_st1, ev_st2, ev_cl] <;> rfl) rfl ?_
                  refine Wp.iinc (v := _ + (nI 1)) dX12_bestAt_110 rfl rfl (Nat.le_of_ble_eq_true rfl) (by dsimp only [ev_st1, ev_cl] <;> rfl) rfl ?_
                  refine Wp.goto (n := 14) dX12_bestAt_113 (by decide) ?_
                  rw [nI_add1]
                  rw [show bsN (cst S R p q) (Kw w R) (mnN (cst S R p q) n) (i + 1) = if cst S R p q i = mnN (cst S R p q) n ∧ (bsN (cst S R p q) (Kw w R) (mnN (cst S R p q) n) i = -1 ∨ Kw w R i < Kw w R (bsN (cst S R p q) (Kw w R) (mnN (cst S R p q) n) i).toNat) then (i : Int) else bsN (cst S R p q) (Kw w R) (mnN (cst S R p q) n) i from rfl] at ih
                  first
                    | (rw [if_pos ⟨by omega, by first | (left; omega) | (right; rw [hD, Int.toNat_natCast]; simp only [Kw]; omega)⟩] at ih; rw [nI_iI] ; first | exact ih _ | (rw [← nI_iI]; exact ih _))
                    | (rw [if_neg (by intro z; first | omega | (have z1 := z.1; have z2 := z.2; rw [hD, Int.toNat_natCast] at z2; simp only [Kw] at z2; omega))] at ih; first | exact ih _ | (rw [hD, ← nI_iI] at ih; exact ih _))
                · try simp (disch := omega) only [i_lt, i_le, i_eq, i_m1, nI_tI, iI_tI, Int.not_lt, Int.not_le] at c_69
                  refine Wp.aload_n dX12_bestAt_72 rfl (by first | exact Or.inr ⟨_, rfl⟩ | exact Or.inl rfl) rfl ?_
                  refine Wp.get dX12_bestAt_73 fl_X12_63 hM.ob (hM.rf 23 (by decide)) rfl ?_
                  refine Wp.iload dX12_bestAt_76 rfl rfl ?_
                  refine Wp.iaload dX12_bestAt_78 (hM.ia 23 (by decide)) (nI_toInt (by omega)) (by show _ < 4096; omega) rfl ?_
                  rw [(hA.2 i hi).2]
                  refine Wp.aload_n dX12_bestAt_79 rfl (by first | exact Or.inr ⟨_, rfl⟩ | exact Or.inl rfl) rfl ?_
                  refine Wp.get dX12_bestAt_80 fl_X12_63 hM.ob (hM.rf 23 (by decide)) rfl ?_
                  refine Wp.iload dX12_bestAt_83 rfl rfl ?_
                  refine Wp.iaload dX12_bestAt_85 (hM.ia 23 (by decide)) (nI_toInt (by omega)) (by show _ < 4096; omega) rfl ?_
                  rw [(hA.2 D hDn).2]
                  refine Wp.icmp_le (tgt := 93) (n := 89) dX12_bestAt_86 (by decide) rfl (fun c_86 => ?_) (fun c_86 => ?_)
                  · try simp (disch := omega) only [i_lt, i_le, i_eq, i_m1, nI_tI, iI_tI, Int.not_lt, Int.not_le] at c_86
                    refine Wp.iconst (v := (nI 0)) dX12_bestAt_93 (by decide) rfl ?_
                    refine Wp.istore dX12_bestAt_94 (Nat.le_of_ble_eq_true rfl) (by dsimp only [ev_st1, ev_st2, ev_cl] <;> rfl) rfl ?_
                    refine Wp.iload dX12_bestAt_96 rfl rfl ?_
                    refine Wp.if_eq (tgt := 106) (n := 101) dX12_bestAt_98 (by decide) rfl (fun _ => ?_) (fun c_ => absurd c_ (by decide))
                    refine Wp.iload dX12_bestAt_106 rfl rfl ?_
                    refine Wp.istore dX12_bestAt_108 (Nat.le_of_ble_eq_true rfl) (by dsimp only [ev_st1, ev_st2, ev_cl] <;> rfl) rfl ?_
                    refine Wp.iinc (v := _ + (nI 1)) dX12_bestAt_110 rfl rfl (Nat.le_of_ble_eq_true rfl) (by dsimp only [ev_st1, ev_cl] <;> rfl) rfl ?_
                    refine Wp.goto (n := 14) dX12_bestAt_113 (by decide) ?_
                    rw [nI_add1]
                    rw [show bsN (cst S R p q) (Kw w R) (mnN (cst S R p q) n) (i + 1) = if cst S R p q i = mnN (cst S R p q) n ∧ (bsN (cst S R p q) (Kw w R) (mnN (cst S R p q) n) i = -1 ∨ Kw w R i < Kw w R (bsN (cst S R p q) (Kw w R) (mnN (cst S R p q) n) i).toNat) then (i : Int) else bsN (cst S R p q) (Kw w R) (mnN (cst S R p q) n) i from rfl] at ih
                    first
                      | (rw [if_pos ⟨by omega, by first | (left; omega) | (right; rw [hD, Int.toNat_natCast]; simp only [Kw]; omega)⟩] at ih; rw [nI_iI] ; first | exact ih _ | (rw [← nI_iI]; exact ih _))
                      | (rw [if_neg (by intro z; first | omega | (have z1 := z.1; have z2 := z.2; rw [hD, Int.toNat_natCast] at z2; simp only [Kw] at z2; omega))] at ih; first | exact ih _ | (rw [hD, ← nI_iI] at ih; exact ih _))
                  · try simp (disch := omega) only [i_lt, i_le, i_eq, i_m1, nI_tI, iI_tI, Int.not_lt, Int.not_le] at c_86
                    refine Wp.iconst (v := (nI 1)) dX12_bestAt_89 (by decide) rfl ?_
                    refine Wp.goto (n := 94) dX12_bestAt_90 (by decide) ?_
                    refine Wp.istore dX12_bestAt_94 (Nat.le_of_ble_eq_true rfl) (by dsimp only [ev_st1, ev_st2, ev_cl] <;> rfl) rfl ?_
                    refine Wp.iload dX12_bestAt_96 rfl rfl ?_
                    refine Wp.if_eq (tgt := 106) (n := 101) dX12_bestAt_98 (by decide) rfl (fun c_ => absurd c_ (by decide)) (fun _ => ?_)
                    refine Wp.iload dX12_bestAt_101 rfl rfl ?_
                    refine Wp.goto (n := 108) dX12_bestAt_103 (by decide) ?_
                    refine Wp.istore dX12_bestAt_108 (Nat.le_of_ble_eq_true rfl) (by dsimp only [ev_st1, ev_st2, ev_cl] <;> rfl) rfl ?_
                    refine Wp.iinc (v := _ + (nI 1)) dX12_bestAt_110 rfl rfl (Nat.le_of_ble_eq_true rfl) (by dsimp only [ev_st1, ev_cl] <;> rfl) rfl ?_
                    refine Wp.goto (n := 14) dX12_bestAt_113 (by decide) ?_
                    rw [nI_add1]
                    rw [show bsN (cst S R p q) (Kw w R) (mnN (cst S R p q) n) (i + 1) = if cst S R p q i = mnN (cst S R p q) n ∧ (bsN (cst S R p q) (Kw w R) (mnN (cst S R p q) n) i = -1 ∨ Kw w R i < Kw w R (bsN (cst S R p q) (Kw w R) (mnN (cst S R p q) n) i).toNat) then (i : Int) else bsN (cst S R p q) (Kw w R) (mnN (cst S R p q) n) i from rfl] at ih
                    first
                      | (rw [if_pos ⟨by omega, by first | (left; omega) | (right; rw [hD, Int.toNat_natCast]; simp only [Kw]; omega)⟩] at ih; rw [nI_iI] ; first | exact ih _ | (rw [← nI_iI]; exact ih _))
                      | (rw [if_neg (by intro z; first | omega | (have z1 := z.1; have z2 := z.2; rw [hD, Int.toNat_natCast] at z2; simp only [Kw] at z2; omega))] at ih; first | exact ih _ | (rw [hD, ← nI_iI] at ih; exact ih _))
    · intro j10
      refine Wp.iload dX12_bestAt_14 rfl rfl ?_
      refine Wp.aload_n dX12_bestAt_16 rfl (by first | exact Or.inr ⟨_, rfl⟩ | exact Or.inl rfl) rfl ?_
      refine Wp.get dX12_bestAt_17 fl_X12_150 hM.ob hA.1 rfl ?_
      refine Wp.icmp_ge (tgt := 116) (n := 23) dX12_bestAt_20 (by decide) rfl (fun c_20 => ?_) (fun c_20 => ?_)
      · try simp (disch := omega) only [nI_bit0, nI_bit1, Bool.not_eq_false, Bool.not_eq_true] at c_20
        try simp (disch := omega) only [i_lt, i_le, i_eq, l_lt, l_le, l_eq, i_0, i_m1, l_0, nI_tI, iI_tI, lI_tI, Int.not_lt, Int.not_le] at c_20
        refine Wp.iload dX12_bestAt_116 rfl rfl ?_
        exact Wp.iret dX12_bestAt_118 rfl (by rw [bsN_eq _ _ h0, ← nI_iI]; exact ⟨rfl, rfl⟩)
      · try simp (disch := omega) only [nI_bit0, nI_bit1, Bool.not_eq_false, Bool.not_eq_true] at c_20
        try simp (disch := omega) only [i_lt, i_le, i_eq, l_lt, l_le, l_eq, i_0, i_m1, l_0, nI_tI, iI_tI, lI_tI, Int.not_lt, Int.not_le] at c_20
        omega
  refine Wp.aload_n dX12_bestAt_0 rfl (by first | exact Or.inr ⟨_, rfl⟩ | exact Or.inl rfl) rfl ?_
  refine Wp.lload_n dX12_bestAt_1 rfl rfl ?_
  refine Wp.lload_n dX12_bestAt_2 rfl rfl ?_
  refine Wp.cV dX12_bestAt_3 cv_X12_188 rfl (by omega) rfl (Nat.le_of_ble_eq_true rfl) (Nat.le_of_ble_eq_true rfl) hM.ob rfl (c_X12_leastAt (d := d - 1) hM hA hB h0 hpq (by omega)) ?_
  rintro _ h_ ⟨rfl, e_⟩
  rw [e_]
  clear e_ h_
  dsimp only [Option.toList, List.drop, List.cons_append, List.nil_append]
  refine Wp.lstore dX12_bestAt_6 (Nat.le_of_ble_eq_true rfl) (by dsimp only [ev_st1, ev_st2, ev_cl] <;> rfl) rfl ?_
  refine Wp.iconst (v := (-1)) dX12_bestAt_8 (by decide) rfl ?_
  refine Wp.istore dX12_bestAt_9 (Nat.le_of_ble_eq_true rfl) (by dsimp only [ev_st1, ev_st2, ev_cl] <;> rfl) rfl ?_
  refine Wp.iconst (v := (nI 0)) dX12_bestAt_11 (by decide) rfl ?_
  refine Wp.istore dX12_bestAt_12 (Nat.le_of_ble_eq_true rfl) (by dsimp only [ev_st1, ev_st2, ev_cl] <;> rfl) rfl ?_
  exact loop 0 (by omega) _
