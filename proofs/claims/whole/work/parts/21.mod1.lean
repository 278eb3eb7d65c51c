/-! the reference: what it reads of its net -/
def NetM (h : ev_H) (x T L : Nat) (fr to : Nat → Nat) (sa ri : Nat → Int) : Prop := ∃ (V : Nat → Value) (n : Nat) (g : Nat → Int32), h.1 x = some (ev_ob 11 V) ∧ V 0 = .ref n ∧ h.1 n = some (ev_ia 50 g) ∧ g 0 = nI T ∧ g 1 = nI L ∧
  (∀ l, l < L → g (2 + 4 * l) = nI (fr l)) ∧ (∀ l, l < L → g (3 + 4 * l) = nI (to l)) ∧ (∀ l, l < L → g (4 + 4 * l) = iI (sa l)) ∧ (∀ l, l < L → g (5 + 4 * l) = iI (ri l))
theorem nI_m1 {n : Nat} (h : n < 2147483648) : (nI n - nI 1).toInt = (n : Int) - 1 := by
  rw [nI_iI, nI_iI, iI_sub, iI_toInt (by omega) (by omega)]; rfl
theorem nI_46 {l : Nat} (k : Nat) (h : l < 12) (hk : k < 100) : (nI k + nI 4 * nI l).toInt = ((k + 4 * l : Nat) : Int) := by
  rw [pk_mul, nI_add]; exact nI_toInt (by omega)
theorem c_X12_in {B : ev_B} {d : Nat} {h : ev_H} {z lo hi : Int32} :
    Wp B d M_X12_in 0 [some (.int (z)), some (.int (lo)), some (.int (hi))] [] h (fun v h' => v = some (.int (bI (decide (lo.toInt ≤ z.toInt ∧ z.toInt ≤ hi.toInt)))) ∧ h' = h) := by
  refine Wp.iload_n dX12_in_0 rfl rfl ?_
  refine Wp.iload_n dX12_in_1 rfl rfl ?_
  refine Wp.icmp_lt (tgt := 14) (n := 5) dX12_in_2 (by decide) rfl (fun c_2 => ?_) (fun c_2 => ?_)
  · try simp (disch := omega) only [nI_bit0, nI_bit1, Bool.not_eq_false, Bool.not_eq_true] at c_2
    try simp (disch := omega) only [i_lt, i_le, i_eq, l_lt, l_le, l_eq, i_0, i_m1, l_0, nI_tI, iI_tI, lI_tI, Int.not_lt, Int.not_le] at c_2
    refine Wp.iconst (v := (nI 0)) dX12_in_14 (by decide) rfl ?_
    exact Wp.zret dX12_in_15 rfl (by decide) (q_ret (bI_f (decide_eq_false (by omega))))
  · try simp (disch := omega) only [nI_bit0, nI_bit1, Bool.not_eq_false, Bool.not_eq_true] at c_2
    try simp (disch := omega) only [i_lt, i_le, i_eq, l_lt, l_le, l_eq, i_0, i_m1, l_0, nI_tI, iI_tI, lI_tI, Int.not_lt, Int.not_le] at c_2
    refine Wp.iload_n dX12_in_5 rfl rfl ?_
    refine Wp.iload_n dX12_in_6 rfl rfl ?_
    refine Wp.icmp_gt (tgt := 14) (n := 10) dX12_in_7 (by decide) rfl (fun c_7 => ?_) (fun c_7 => ?_)
    · try simp (disch := omega) only [nI_bit0, nI_bit1, Bool.not_eq_false, Bool.not_eq_true] at c_7
      try simp (disch := omega) only [i_lt, i_le, i_eq, l_lt, l_le, l_eq, i_0, i_m1, l_0, nI_tI, iI_tI, lI_tI, Int.not_lt, Int.not_le] at c_7
      refine Wp.iconst (v := (nI 0)) dX12_in_14 (by decide) rfl ?_
      exact Wp.zret dX12_in_15 rfl (by decide) (q_ret (bI_f (decide_eq_false (by omega))))
    · try simp (disch := omega) only [nI_bit0, nI_bit1, Bool.not_eq_false, Bool.not_eq_true] at c_7
      try simp (disch := omega) only [i_lt, i_le, i_eq, l_lt, l_le, l_eq, i_0, i_m1, l_0, nI_tI, iI_tI, lI_tI, Int.not_lt, Int.not_le] at c_7
      refine Wp.iconst (v := (nI 1)) dX12_in_10 (by decide) rfl ?_
      refine Wp.goto (n := 15) dX12_in_11 (by decide) ?_
      exact Wp.zret dX12_in_15 rfl (by decide) (q_ret (bI_t (decide_eq_true (by omega))))
theorem c_X12_things {B : ev_B} {d x : Nat} {h : ev_H} {T L : Nat} {fr to : Nat → Nat} {sa ri : Nat → Int} (hN : NetM h x T L fr to sa ri) (hW : NetW T L fr to sa ri) :
    Wp B d M_X12_things 0 [some (.ref x)] [] h (fun v h' => v = some (.int (nI T)) ∧ h' = h) := by
  have hN0 := hN
  have hW0 := hW
  obtain ⟨V, n0, g, hV, v0, k0, g0, g1, e0, e1, e2, e3⟩ := hN
  obtain ⟨hT, hL, hW⟩ := hW
  refine Wp.aload_n dX12_things_0 rfl (by first | exact Or.inr ⟨_, rfl⟩ | exact Or.inl rfl) rfl ?_
  refine Wp.get dX12_things_1 fl_X12_7 (by assumption) (by first | assumption | rfl) rfl ?_
  refine Wp.iconst (v := (nI 0)) dX12_things_4 (by decide) rfl ?_
  refine Wp.iaload dX12_things_5 (by assumption) (j := 0) (by decide) (by omega) rfl ?_
  rw [g0]
  exact Wp.iret dX12_things_6 rfl (by exact ⟨rfl, rfl⟩)
theorem c_X12_lines {B : ev_B} {d x : Nat} {h : ev_H} {T L : Nat} {fr to : Nat → Nat} {sa ri : Nat → Int} (hN : NetM h x T L fr to sa ri) (hW : NetW T L fr to sa ri) :
    Wp B d M_X12_lines 0 [some (.ref x)] [] h (fun v h' => v = some (.int (nI L)) ∧ h' = h) := by
  have hN0 := hN
  have hW0 := hW
  obtain ⟨V, n0, g, hV, v0, k0, g0, g1, e0, e1, e2, e3⟩ := hN
  obtain ⟨hT, hL, hW⟩ := hW
  refine Wp.aload_n dX12_lines_0 rfl (by first | exact Or.inr ⟨_, rfl⟩ | exact Or.inl rfl) rfl ?_
  refine Wp.get dX12_lines_1 fl_X12_7 (by assumption) (by first | assumption | rfl) rfl ?_
  refine Wp.iconst (v := (nI 1)) dX12_lines_4 (by decide) rfl ?_
  refine Wp.iaload dX12_lines_5 (by assumption) (j := 1) (by decide) (by omega) rfl ?_
  rw [g1]
  exact Wp.iret dX12_lines_6 rfl (by exact ⟨rfl, rfl⟩)
theorem c_X12_from {B : ev_B} {d x : Nat} {h : ev_H} {T L : Nat} {fr to : Nat → Nat} {sa ri : Nat → Int} {l : Nat} (hN : NetM h x T L fr to sa ri) (hW : NetW T L fr to sa ri) (hl : l < L) :
    Wp B d M_X12_from 0 [some (.ref x), some (.int (nI l))] [] h (fun v h' => v = some (.int (nI (fr l))) ∧ h' = h) := by
  have hN0 := hN
  have hW0 := hW
  obtain ⟨V, n0, g, hV, v0, k0, g0, g1, e0, e1, e2, e3⟩ := hN
  obtain ⟨hT, hL, hW⟩ := hW
  refine Wp.aload_n dX12_from_0 rfl (by first | exact Or.inr ⟨_, rfl⟩ | exact Or.inl rfl) rfl ?_
  refine Wp.get dX12_from_1 fl_X12_7 (by assumption) (by first | assumption | rfl) rfl ?_
  refine Wp.iconst (v := (nI 2)) dX12_from_4 (by decide) rfl ?_
  refine Wp.iconst (v := (nI 4)) dX12_from_5 (by decide) rfl ?_
  refine Wp.iload_n dX12_from_6 rfl rfl ?_
  refine Wp.imul dX12_from_7 rfl ?_
  refine Wp.iadd dX12_from_8 rfl ?_
  refine Wp.iaload dX12_from_9 (by assumption) (nI_46 2 (by omega) (by decide)) (by omega) rfl ?_
  rw [e0 l hl]
  exact Wp.iret dX12_from_10 rfl (by exact ⟨rfl, rfl⟩)
theorem c_X12_to {B : ev_B} {d x : Nat} {h : ev_H} {T L : Nat} {fr to : Nat → Nat} {sa ri : Nat → Int} {l : Nat} (hN : NetM h x T L fr to sa ri) (hW : NetW T L fr to sa ri) (hl : l < L) :
    Wp B d M_X12_to 0 [some (.ref x), some (.int (nI l))] [] h (fun v h' => v = some (.int (nI (to l))) ∧ h' = h) := by
  have hN0 := hN
  have hW0 := hW
  obtain ⟨V, n0, g, hV, v0, k0, g0, g1, e0, e1, e2, e3⟩ := hN
  obtain ⟨hT, hL, hW⟩ := hW
  refine Wp.aload_n dX12_to_0 rfl (by first | exact Or.inr ⟨_, rfl⟩ | exact Or.inl rfl) rfl ?_
  refine Wp.get dX12_to_1 fl_X12_7 (by assumption) (by first | assumption | rfl) rfl ?_
  refine Wp.iconst (v := (nI 3)) dX12_to_4 (by decide) rfl ?_
  refine Wp.iconst (v := (nI 4)) dX12_to_5 (by decide) rfl ?_
  refine Wp.iload_n dX12_to_6 rfl rfl ?_
  refine Wp.imul dX12_to_7 rfl ?_
  refine Wp.iadd dX12_to_8 rfl ?_
  refine Wp.iaload dX12_to_9 (by assumption) (nI_46 3 (by omega) (by decide)) (by omega) rfl ?_
  rw [e1 l hl]
  exact Wp.iret dX12_to_10 rfl (by exact ⟨rfl, rfl⟩)
theorem c_X12_startOf {B : ev_B} {d x : Nat} {h : ev_H} {T L : Nat} {fr to : Nat → Nat} {sa ri : Nat → Int} {s : Nat} (hN : NetM h x T L fr to sa ri) (hW : NetW T L fr to sa ri) (hs : s < 4096) (hd : 1 ≤ d) :
    Wp B d M_X12_startOf 0 [some (.ref x), some (.int (nI s)), none, none] [] h (fun v h' => v = some (.int (iI (sumS sa s L))) ∧ h' = h) := by
  have hN0 := hN
  have hW0 := hW
  obtain ⟨V, n0, g, hV, v0, k0, g0, g1, e0, e1, e2, e3⟩ := hN
  obtain ⟨hT, hL, hW⟩ := hW
  have loop : ∀ i, i ≤ L → Wp B d M_X12_startOf 4 [some (.ref x), some (.int (nI s)), some (.int (iI (sumS sa s i))), some (.int (nI i))] [] h (fun v h' => v = some (.int (iI (sumS sa s L))) ∧ h' = h) := by
    refine ev_upl L (fun i hi ih => ?_) ?_
    · refine Wp.iload_n dX12_startOf_4 rfl rfl ?_
      refine Wp.aload_n dX12_startOf_5 rfl (by first | exact Or.inr ⟨_, rfl⟩ | exact Or.inl rfl) rfl ?_
      refine Wp.cV dX12_startOf_6 cv_X12_78 rfl (by omega) rfl (Nat.le_of_ble_eq_true rfl) (Nat.le_of_ble_eq_true rfl) (by assumption) rfl (c_X12_lines (d := d - 1) hN0 hW0) ?_
      rintro _ h_ ⟨rfl, e_⟩
      rw [e_]
      clear e_ h_
      dsimp only [Option.toList, List.drop, List.cons_append, List.nil_append]
      refine Wp.icmp_ge (tgt := 44) (n := 12) dX12_startOf_9 (by decide) rfl (fun c_9 => ?_) (fun c_9 => ?_)
      · try simp (disch := omega) only [nI_bit0, nI_bit1, Bool.not_eq_false, Bool.not_eq_true] at c_9
        try simp (disch := omega) only [i_lt, i_le, i_eq, l_lt, l_le, l_eq, i_0, i_m1, l_0, nI_tI, iI_tI, lI_tI, Int.not_lt, Int.not_le] at c_9
        omega
      · try simp (disch := omega) only [nI_bit0, nI_bit1, Bool.not_eq_false, Bool.not_eq_true] at c_9
        try simp (disch := omega) only [i_lt, i_le, i_eq, l_lt, l_le, l_eq, i_0, i_m1, l_0, nI_tI, iI_tI, lI_tI, Int.not_lt, Int.not_le] at c_9
        refine Wp.iload_n dX12_startOf_12 rfl rfl ?_
        refine Wp.iload_n dX12_startOf_13 rfl rfl ?_
        refine Wp.iload_n dX12_startOf_14 rfl rfl ?_
        refine Wp.ishr dX12_startOf_15 rfl ?_
        refine Wp.iconst (v := (nI 1)) dX12_startOf_16 (by decide) rfl ?_
        refine Wp.iand dX12_startOf_17 rfl ?_
        refine Wp.iconst (v := (nI 1)) dX12_startOf_18 (by decide) rfl ?_
        refine Wp.icmp_ne (tgt := 35) (n := 22) dX12_startOf_19 (by decide) rfl (fun c_19 => ?_) (fun c_19 => ?_)
        · try simp (disch := omega) only [nI_bit0, nI_bit1, Bool.not_eq_false, Bool.not_eq_true] at c_19
          try simp (disch := omega) only [i_lt, i_le, i_eq, l_lt, l_le, l_eq, i_0, i_m1, l_0, nI_tI, iI_tI, lI_tI, Int.not_lt, Int.not_le] at c_19
          refine Wp.iconst (v := (nI 0)) dX12_startOf_35 (by decide) rfl ?_
          refine Wp.iadd dX12_startOf_36 rfl ?_
          first | rw [iI_add] | rw [show nI 0 = iI 0 from rfl, iI_add]
          refine Wp.istore_n dX12_startOf_37 (Nat.le_of_ble_eq_true rfl) (by dsimp only [ev_st1, ev_st2, ev_cl] <;> rfl) rfl ?_
          refine Wp.iinc (v := _ + (nI 1)) dX12_startOf_38 rfl rfl (Nat.le_of_ble_eq_true rfl) (by dsimp only [ev_st1, ev_cl] <;> rfl) rfl ?_
          refine Wp.goto (n := 4) dX12_startOf_41 (by decide) ?_
          rw [nI_add1]
          simp [sumS, *] at ih ⊢
          exact ih
        · try simp (disch := omega) only [nI_bit0, nI_bit1, Bool.not_eq_false, Bool.not_eq_true] at c_19
          try simp (disch := omega) only [i_lt, i_le, i_eq, l_lt, l_le, l_eq, i_0, i_m1, l_0, nI_tI, iI_tI, lI_tI, Int.not_lt, Int.not_le] at c_19
          refine Wp.aload_n dX12_startOf_22 rfl (by first | exact Or.inr ⟨_, rfl⟩ | exact Or.inl rfl) rfl ?_
          refine Wp.get dX12_startOf_23 fl_X12_7 (by assumption) (by first | assumption | rfl) rfl ?_
          refine Wp.iconst (v := (nI 4)) dX12_startOf_26 (by decide) rfl ?_
          refine Wp.iconst (v := (nI 4)) dX12_startOf_27 (by decide) rfl ?_
          refine Wp.iload_n dX12_startOf_28 rfl rfl ?_
          refine Wp.imul dX12_startOf_29 rfl ?_
          refine Wp.iadd dX12_startOf_30 rfl ?_
          refine Wp.iaload dX12_startOf_31 (by assumption) (nI_46 4 (by omega) (by decide)) (by omega) rfl ?_
          rw [e2 i hi]
          refine Wp.goto (n := 36) dX12_startOf_32 (by decide) ?_
          refine Wp.iadd dX12_startOf_36 rfl ?_
          first | rw [iI_add] | rw [show nI 0 = iI 0 from rfl, iI_add]
          refine Wp.istore_n dX12_startOf_37 (Nat.le_of_ble_eq_true rfl) (by dsimp only [ev_st1, ev_st2, ev_cl] <;> rfl) rfl ?_
          refine Wp.iinc (v := _ + (nI 1)) dX12_startOf_38 rfl rfl (Nat.le_of_ble_eq_true rfl) (by dsimp only [ev_st1, ev_cl] <;> rfl) rfl ?_
          refine Wp.goto (n := 4) dX12_startOf_41 (by decide) ?_
          rw [nI_add1]
          simp [sumS, *] at ih ⊢
          exact ih
    · refine Wp.iload_n dX12_startOf_4 rfl rfl ?_
      refine Wp.aload_n dX12_startOf_5 rfl (by first | exact Or.inr ⟨_, rfl⟩ | exact Or.inl rfl) rfl ?_
      refine Wp.cV dX12_startOf_6 cv_X12_78 rfl (by omega) rfl (Nat.le_of_ble_eq_true rfl) (Nat.le_of_ble_eq_true rfl) (by assumption) rfl (c_X12_lines (d := d - 1) hN0 hW0) ?_
      rintro _ h_ ⟨rfl, e_⟩
      rw [e_]
      clear e_ h_
      dsimp only [Option.toList, List.drop, List.cons_append, List.nil_append]
      refine Wp.icmp_ge (tgt := 44) (n := 12) dX12_startOf_9 (by decide) rfl (fun c_9 => ?_) (fun c_9 => ?_)
      · try simp (disch := omega) only [nI_bit0, nI_bit1, Bool.not_eq_false, Bool.not_eq_true] at c_9
        try simp (disch := omega) only [i_lt, i_le, i_eq, l_lt, l_le, l_eq, i_0, i_m1, l_0, nI_tI, iI_tI, lI_tI, Int.not_lt, Int.not_le] at c_9
        refine Wp.iload_n dX12_startOf_44 rfl rfl ?_
        exact Wp.iret dX12_startOf_45 rfl (by exact ⟨rfl, rfl⟩)
      · try simp (disch := omega) only [nI_bit0, nI_bit1, Bool.not_eq_false, Bool.not_eq_true] at c_9
        try simp (disch := omega) only [i_lt, i_le, i_eq, l_lt, l_le, l_eq, i_0, i_m1, l_0, nI_tI, iI_tI, lI_tI, Int.not_lt, Int.not_le] at c_9
        omega
  refine Wp.iconst (v := (nI 0)) dX12_startOf_0 (by decide) rfl ?_
  refine Wp.istore_n dX12_startOf_1 (Nat.le_of_ble_eq_true rfl) (by dsimp only [ev_st1, ev_st2, ev_cl] <;> rfl) rfl ?_
  refine Wp.iconst (v := (nI 0)) dX12_startOf_2 (by decide) rfl ?_
  refine Wp.istore_n dX12_startOf_3 (Nat.le_of_ble_eq_true rfl) (by dsimp only [ev_st1, ev_st2, ev_cl] <;> rfl) rfl ?_
  exact loop 0 (by omega)
theorem c_X12_riseOf {B : ev_B} {d x : Nat} {h : ev_H} {T L : Nat} {fr to : Nat → Nat} {sa ri : Nat → Int} {s : Nat} (hN : NetM h x T L fr to sa ri) (hW : NetW T L fr to sa ri) (hs : s < 4096) (hd : 1 ≤ d) :
    Wp B d M_X12_riseOf 0 [some (.ref x), some (.int (nI s)), none, none] [] h (fun v h' => v = some (.int (iI (sumS ri s L))) ∧ h' = h) := by
  have hN0 := hN
  have hW0 := hW
  obtain ⟨V, n0, g, hV, v0, k0, g0, g1, e0, e1, e2, e3⟩ := hN
  obtain ⟨hT, hL, hW⟩ := hW
  have loop : ∀ i, i ≤ L → Wp B d M_X12_riseOf 4 [some (.ref x), some (.int (nI s)), some (.int (iI (sumS ri s i))), some (.int (nI i))] [] h (fun v h' => v = some (.int (iI (sumS ri s L))) ∧ h' = h) := by
    refine ev_upl L (fun i hi ih => ?_) ?_
    · refine Wp.iload_n dX12_riseOf_4 rfl rfl ?_
      refine Wp.aload_n dX12_riseOf_5 rfl (by first | exact Or.inr ⟨_, rfl⟩ | exact Or.inl rfl) rfl ?_
      refine Wp.cV dX12_riseOf_6 cv_X12_78 rfl (by omega) rfl (Nat.le_of_ble_eq_true rfl) (Nat.le_of_ble_eq_true rfl) (by assumption) rfl (c_X12_lines (d := d - 1) hN0 hW0) ?_
      rintro _ h_ ⟨rfl, e_⟩
      rw [e_]
      clear e_ h_
      dsimp only [Option.toList, List.drop, List.cons_append, List.nil_append]
      refine Wp.icmp_ge (tgt := 44) (n := 12) dX12_riseOf_9 (by decide) rfl (fun c_9 => ?_) (fun c_9 => ?_)
      · try simp (disch := omega) only [nI_bit0, nI_bit1, Bool.not_eq_false, Bool.not_eq_true] at c_9
        try simp (disch := omega) only [i_lt, i_le, i_eq, l_lt, l_le, l_eq, i_0, i_m1, l_0, nI_tI, iI_tI, lI_tI, Int.not_lt, Int.not_le] at c_9
        omega
      · try simp (disch := omega) only [nI_bit0, nI_bit1, Bool.not_eq_false, Bool.not_eq_true] at c_9
        try simp (disch := omega) only [i_lt, i_le, i_eq, l_lt, l_le, l_eq, i_0, i_m1, l_0, nI_tI, iI_tI, lI_tI, Int.not_lt, Int.not_le] at c_9
        refine Wp.iload_n dX12_riseOf_12 rfl rfl ?_
        refine Wp.iload_n dX12_riseOf_13 rfl rfl ?_
        refine Wp.iload_n dX12_riseOf_14 rfl rfl ?_
        refine Wp.ishr dX12_riseOf_15 rfl ?_
        refine Wp.iconst (v := (nI 1)) dX12_riseOf_16 (by decide) rfl ?_
        refine Wp.iand dX12_riseOf_17 rfl ?_
        refine Wp.iconst (v := (nI 1)) dX12_riseOf_18 (by decide) rfl ?_
        refine Wp.icmp_ne (tgt := 35) (n := 22) dX12_riseOf_19 (by decide) rfl (fun c_19 => ?_) (fun c_19 => ?_)
        · try simp (disch := omega) only [nI_bit0, nI_bit1, Bool.not_eq_false, Bool.not_eq_true] at c_19
          try simp (disch := omega) only [i_lt, i_le, i_eq, l_lt, l_le, l_eq, i_0, i_m1, l_0, nI_tI, iI_tI, lI_tI, Int.not_lt, Int.not_le] at c_19
          refine Wp.iconst (v := (nI 0)) dX12_riseOf_35 (by decide) rfl ?_
          refine Wp.iadd dX12_riseOf_36 rfl ?_
          first | rw [iI_add] | rw [show nI 0 = iI 0 from rfl, iI_add]
          refine Wp.istore_n dX12_riseOf_37 (Nat.le_of_ble_eq_true rfl) (by dsimp only [ev_st1, ev_st2, ev_cl] <;> rfl) rfl ?_
          refine Wp.iinc (v := _ + (nI 1)) dX12_riseOf_38 rfl rfl (Nat.le_of_ble_eq_true rfl) (by dsimp only [ev_st1, ev_cl] <;> rfl) rfl ?_
          refine Wp.goto (n := 4) dX12_riseOf_41 (by decide) ?_
          rw [nI_add1]
          simp [sumS, *] at ih ⊢
          exact ih
        · try simp (disch := omega) only [nI_bit0, nI_bit1, Bool.not_eq_false, Bool.not_eq_true] at c_19
          try simp (disch := omega) only [i_lt, i_le, i_eq, l_lt, l_le, l_eq, i_0, i_m1, l_0, nI_tI, iI_tI, lI_tI, Int.not_lt, Int.not_le] at c_19
          refine Wp.aload_n dX12_riseOf_22 rfl (by first | exact Or.inr ⟨_, rfl⟩ | exact Or.inl rfl) rfl ?_
          refine Wp.get dX12_riseOf_23 fl_X12_7 (by assumption) (by first | assumption | rfl) rfl ?_
          refine Wp.iconst (v := (nI 5)) dX12_riseOf_26 (by decide) rfl ?_
          refine Wp.iconst (v := (nI 4)) dX12_riseOf_27 (by decide) rfl ?_
          refine Wp.iload_n dX12_riseOf_28 rfl rfl ?_
          refine Wp.imul dX12_riseOf_29 rfl ?_
          refine Wp.iadd dX12_riseOf_30 rfl ?_
          refine Wp.iaload dX12_riseOf_31 (by assumption) (nI_46 5 (by omega) (by decide)) (by omega) rfl ?_
          rw [e3 i hi]
          refine Wp.goto (n := 36) dX12_riseOf_32 (by decide) ?_
          refine Wp.iadd dX12_riseOf_36 rfl ?_
          first | rw [iI_add] | rw [show nI 0 = iI 0 from rfl, iI_add]
          refine Wp.istore_n dX12_riseOf_37 (Nat.le_of_ble_eq_true rfl) (by dsimp only [ev_st1, ev_st2, ev_cl] <;> rfl) rfl ?_
          refine Wp.iinc (v := _ + (nI 1)) dX12_riseOf_38 rfl rfl (Nat.le_of_ble_eq_true rfl) (by dsimp only [ev_st1, ev_cl] <;> rfl) rfl ?_
          refine Wp.goto (n := 4) dX12_riseOf_41 (by decide) ?_
          rw [nI_add1]
          simp [sumS, *] at ih ⊢
          exact ih
    · refine Wp.iload_n dX12_riseOf_4 rfl rfl ?_
      refine Wp.aload_n dX12_riseOf_5 rfl (by first | exact Or.inr ⟨_, rfl⟩ | exact Or.inl rfl) rfl ?_
      refine Wp.cV dX12_riseOf_6 cv_X12_78 rfl (by omega) rfl (Nat.le_of_ble_eq_true rfl) (Nat.le_of_ble_eq_true rfl) (by assumption) rfl (c_X12_lines (d := d - 1) hN0 hW0) ?_
      rintro _ h_ ⟨rfl, e_⟩
      rw [e_]
      clear e_ h_
      dsimp only [Option.toList, List.drop, List.cons_append, List.nil_append]
      refine Wp.icmp_ge (tgt := 44) (n := 12) dX12_riseOf_9 (by decide) rfl (fun c_9 => ?_) (fun c_9 => ?_)
      · try simp (disch := omega) only [nI_bit0, nI_bit1, Bool.not_eq_false, Bool.not_eq_true] at c_9
        try simp (disch := omega) only [i_lt, i_le, i_eq, l_lt, l_le, l_eq, i_0, i_m1, l_0, nI_tI, iI_tI, lI_tI, Int.not_lt, Int.not_le] at c_9
        refine Wp.iload_n dX12_riseOf_44 rfl rfl ?_
        exact Wp.iret dX12_riseOf_45 rfl (by exact ⟨rfl, rfl⟩)
      · try simp (disch := omega) only [nI_bit0, nI_bit1, Bool.not_eq_false, Bool.not_eq_true] at c_9
        try simp (disch := omega) only [i_lt, i_le, i_eq, l_lt, l_le, l_eq, i_0, i_m1, l_0, nI_tI, iI_tI, lI_tI, Int.not_lt, Int.not_le] at c_9
        omega
  refine Wp.iconst (v := (nI 0)) dX12_riseOf_0 (by decide) rfl ?_
  refine Wp.istore_n dX12_riseOf_1 (Nat.le_of_ble_eq_true rfl) (by dsimp only [ev_st1, ev_st2, ev_cl] <;> rfl) rfl ?_
  refine Wp.iconst (v := (nI 0)) dX12_riseOf_2 (by decide) rfl ?_
  refine Wp.istore_n dX12_riseOf_3 (Nat.le_of_ble_eq_true rfl) (by dsimp only [ev_st1, ev_st2, ev_cl] <;> rfl) rfl ?_
  exact loop 0 (by omega)
theorem c_X12_isThing {B : ev_B} {d x : Nat} {h : ev_H} {T L : Nat} {fr to : Nat → Nat} {sa ri : Nat → Int} {t : Int32} (hN : NetM h x T L fr to sa ri) (hW : NetW T L fr to sa ri) (hd : 1 ≤ d) :
    Wp B d M_X12_isThing 0 [some (.ref x), some (.int (t))] [] h (fun v h' => v = some (.int (bI (decide (0 ≤ t.toInt ∧ t.toInt < T)))) ∧ h' = h) := by
  have hN0 := hN
  have hW0 := hW
  obtain ⟨V, n0, g, hV, v0, k0, g0, g1, e0, e1, e2, e3⟩ := hN
  obtain ⟨hT, hL, hW⟩ := hW
  refine Wp.iload_n dX12_isThing_0 rfl rfl ?_
  refine Wp.iconst (v := (nI 0)) dX12_isThing_1 (by decide) rfl ?_
  refine Wp.aload_n dX12_isThing_2 rfl (by first | exact Or.inr ⟨_, rfl⟩ | exact Or.inl rfl) rfl ?_
  refine Wp.cV dX12_isThing_3 cv_X12_82 rfl (by omega) rfl (Nat.le_of_ble_eq_true rfl) (Nat.le_of_ble_eq_true rfl) (by assumption) rfl (c_X12_things (d := d - 1) hN0 hW0) ?_
  rintro _ h_ ⟨rfl, e_⟩
  rw [e_]
  clear e_ h_
  dsimp only [Option.toList, List.drop, List.cons_append, List.nil_append]
  refine Wp.iconst (v := (nI 1)) dX12_isThing_6 (by decide) rfl ?_
  refine Wp.isub dX12_isThing_7 rfl ?_
  refine Wp.cS dX12_isThing_8 cs_X12_85 rfl (by omega) rfl (Nat.le_of_ble_eq_true rfl) (Nat.le_of_ble_eq_true rfl) rfl (c_X12_in (d := d - 1)) ?_
  rintro _ h_ ⟨rfl, e_⟩
  rw [e_]
  clear e_ h_
  dsimp only [Option.toList, List.drop, List.cons_append, List.nil_append]
  rw [nI_m1 (by omega), show (nI 0).toInt = 0 by decide, show (decide (0 ≤ t.toInt ∧ t.toInt ≤ (T : Int) - 1)) = decide (0 ≤ t.toInt ∧ t.toInt < T) from decide_eq_decide.mpr (by omega)]
  exact Wp.bret dX12_isThing_11 rfl (by exact ⟨rfl, rfl⟩)
theorem c_X12_isPrice {B : ev_B} {d : Nat} {h : ev_H} {p q : Int32} (hd : 1 ≤ d) :
    Wp B d M_X12_isPrice 0 [some (.int (p)), some (.int (q))] [] h (fun v h' => v = some (.int (bI (decide ((-10000 ≤ p.toInt ∧ p.toInt ≤ 10000) ∧ 1 ≤ q.toInt ∧ q.toInt ≤ 1000)))) ∧ h' = h) := by
  refine Wp.iload_n dX12_isPrice_0 rfl rfl ?_
  refine Wp.sipush (v := (-10000)) dX12_isPrice_1 (by decide) rfl ?_
  refine Wp.sipush (v := (nI 10000)) dX12_isPrice_4 (by decide) rfl ?_
  refine Wp.cS dX12_isPrice_7 cs_X12_85 rfl (by omega) rfl (Nat.le_of_ble_eq_true rfl) (Nat.le_of_ble_eq_true rfl) rfl (c_X12_in (d := d - 1)) ?_
  rintro _ h_ ⟨rfl, e_⟩
  rw [e_]
  clear e_ h_
  dsimp only [Option.toList, List.drop, List.cons_append, List.nil_append]
  rw [show (-10000 : Int32).toInt = -10000 by decide, show (nI 10000).toInt = 10000 by decide]
  refine Wp.bif_eq (tgt := 28) (n := 13) dX12_isPrice_10 (by decide) rfl (fun c_10 => ?_) (fun c_10 => ?_)
  · refine Wp.iconst (v := (nI 0)) dX12_isPrice_28 (by decide) rfl ?_
    exact Wp.zret dX12_isPrice_29 rfl (by decide) (q_ret (bI_f (by first | (simp_all; done) | (simp_all; omega))))
  · refine Wp.iload_n dX12_isPrice_13 rfl rfl ?_
    refine Wp.iconst (v := (nI 1)) dX12_isPrice_14 (by decide) rfl ?_
    refine Wp.sipush (v := (nI 1000)) dX12_isPrice_15 (by decide) rfl ?_
    refine Wp.cS dX12_isPrice_18 cs_X12_85 rfl (by omega) rfl (Nat.le_of_ble_eq_true rfl) (Nat.le_of_ble_eq_true rfl) rfl (c_X12_in (d := d - 1)) ?_
    rintro _ h_ ⟨rfl, e_⟩
    rw [e_]
    clear e_ h_
    dsimp only [Option.toList, List.drop, List.cons_append, List.nil_append]
    rw [show (nI 1).toInt = 1 by decide, show (nI 1000).toInt = 1000 by decide]
    refine Wp.bif_eq (tgt := 28) (n := 24) dX12_isPrice_21 (by decide) rfl (fun c_21 => ?_) (fun c_21 => ?_)
    · refine Wp.iconst (v := (nI 0)) dX12_isPrice_28 (by decide) rfl ?_
      exact Wp.zret dX12_isPrice_29 rfl (by decide) (q_ret (bI_f (by first | (simp_all; done) | (simp_all; omega))))
    · refine Wp.iconst (v := (nI 1)) dX12_isPrice_24 (by decide) rfl ?_
      refine Wp.goto (n := 29) dX12_isPrice_25 (by decide) ?_
      exact Wp.zret dX12_isPrice_29 rfl (by decide) (q_ret (bI_t (by simp_all)))
theorem c_X12_areTold {B : ev_B} {d : Nat} {h : ev_H} {p q : Int32} (hd : 1 ≤ d) :
    Wp B d M_X12_areTold 0 [some (.int (p)), some (.int (q))] [] h (fun v h' => v = some (.int (bI (decide ((-100 ≤ p.toInt ∧ p.toInt ≤ 100) ∧ -20 ≤ q.toInt ∧ q.toInt ≤ 20)))) ∧ h' = h) := by
  refine Wp.iload_n dX12_areTold_0 rfl rfl ?_
  refine Wp.bipush (v := (-100)) dX12_areTold_1 (by decide) rfl ?_
  refine Wp.bipush (v := (nI 100)) dX12_areTold_3 (by decide) rfl ?_
  refine Wp.cS dX12_areTold_5 cs_X12_85 rfl (by omega) rfl (Nat.le_of_ble_eq_true rfl) (Nat.le_of_ble_eq_true rfl) rfl (c_X12_in (d := d - 1)) ?_
  rintro _ h_ ⟨rfl, e_⟩
  rw [e_]
  clear e_ h_
  dsimp only [Option.toList, List.drop, List.cons_append, List.nil_append]
  rw [show (-100 : Int32).toInt = -100 by decide, show (nI 100).toInt = 100 by decide]
  refine Wp.bif_eq (tgt := 26) (n := 11) dX12_areTold_8 (by decide) rfl (fun c_8 => ?_) (fun c_8 => ?_)
  · refine Wp.iconst (v := (nI 0)) dX12_areTold_26 (by decide) rfl ?_
    exact Wp.zret dX12_areTold_27 rfl (by decide) (q_ret (bI_f (by first | (simp_all; done) | (simp_all; omega))))
  · refine Wp.iload_n dX12_areTold_11 rfl rfl ?_
    refine Wp.bipush (v := (-20)) dX12_areTold_12 (by decide) rfl ?_
    refine Wp.bipush (v := (nI 20)) dX12_areTold_14 (by decide) rfl ?_
    refine Wp.cS dX12_areTold_16 cs_X12_85 rfl (by omega) rfl (Nat.le_of_ble_eq_true rfl) (Nat.le_of_ble_eq_true rfl) rfl (c_X12_in (d := d - 1)) ?_
    rintro _ h_ ⟨rfl, e_⟩
    rw [e_]
    clear e_ h_
    dsimp only [Option.toList, List.drop, List.cons_append, List.nil_append]
    rw [show (-20 : Int32).toInt = -20 by decide, show (nI 20).toInt = 20 by decide]
    refine Wp.bif_eq (tgt := 26) (n := 22) dX12_areTold_19 (by decide) rfl (fun c_19 => ?_) (fun c_19 => ?_)
    · refine Wp.iconst (v := (nI 0)) dX12_areTold_26 (by decide) rfl ?_
      exact Wp.zret dX12_areTold_27 rfl (by decide) (q_ret (bI_f (by first | (simp_all; done) | (simp_all; omega))))
    · refine Wp.iconst (v := (nI 1)) dX12_areTold_22 (by decide) rfl ?_
      refine Wp.goto (n := 27) dX12_areTold_23 (by decide) ?_
      exact Wp.zret dX12_areTold_27 rfl (by decide) (q_ret (bI_t (by simp_all)))
theorem c_X12_allThings {B : ev_B} {d x : Nat} {h : ev_H} {T L : Nat} {fr to : Nat → Nat} {sa ri : Nat → Int} (hN : NetM h x T L fr to sa ri) (hW : NetW T L fr to sa ri) (hd : 1 ≤ d) :
    Wp B d M_X12_allThings 0 [some (.ref x)] [] h (fun v h' => v = some (.int (nI (2 ^ T - 1))) ∧ h' = h) := by
  have hN0 := hN
  have hW0 := hW
  obtain ⟨V, n0, g, hV, v0, k0, g0, g1, e0, e1, e2, e3⟩ := hN
  obtain ⟨hT, hL, hW⟩ := hW
  refine Wp.iconst (v := (nI 1)) dX12_allThings_0 (by decide) rfl ?_
  refine Wp.aload_n dX12_allThings_1 rfl (by first | exact Or.inr ⟨_, rfl⟩ | exact Or.inl rfl) rfl ?_
  refine Wp.cV dX12_allThings_2 cv_X12_82 rfl (by omega) rfl (Nat.le_of_ble_eq_true rfl) (Nat.le_of_ble_eq_true rfl) (by assumption) rfl (c_X12_things (d := d - 1) hN0 hW0) ?_
  rintro _ h_ ⟨rfl, e_⟩
  rw [e_]
  clear e_ h_
  dsimp only [Option.toList, List.drop, List.cons_append, List.nil_append]
  refine Wp.ishl dX12_allThings_5 rfl ?_
  rw [nI_one_shl (by omega)]
  refine Wp.iconst (v := (nI 1)) dX12_allThings_6 (by decide) rfl ?_
  refine Wp.isub dX12_allThings_7 rfl ?_
  rw [pk_sub Nat.one_le_two_pow]
  exact Wp.iret dX12_allThings_8 rfl (by exact ⟨rfl, rfl⟩)
theorem c_X12_allLines {B : ev_B} {d x : Nat} {h : ev_H} {T L : Nat} {fr to : Nat → Nat} {sa ri : Nat → Int} (hN : NetM h x T L fr to sa ri) (hW : NetW T L fr to sa ri) (hd : 1 ≤ d) :
    Wp B d M_X12_allLines 0 [some (.ref x)] [] h (fun v h' => v = some (.int (nI (2 ^ L - 1))) ∧ h' = h) := by
  have hN0 := hN
  have hW0 := hW
  obtain ⟨V, n0, g, hV, v0, k0, g0, g1, e0, e1, e2, e3⟩ := hN
  obtain ⟨hT, hL, hW⟩ := hW
  refine Wp.iconst (v := (nI 1)) dX12_allLines_0 (by decide) rfl ?_
  refine Wp.aload_n dX12_allLines_1 rfl (by first | exact Or.inr ⟨_, rfl⟩ | exact Or.inl rfl) rfl ?_
  refine Wp.cV dX12_allLines_2 cv_X12_78 rfl (by omega) rfl (Nat.le_of_ble_eq_true rfl) (Nat.le_of_ble_eq_true rfl) (by assumption) rfl (c_X12_lines (d := d - 1) hN0 hW0) ?_
  rintro _ h_ ⟨rfl, e_⟩
  rw [e_]
  clear e_ h_
  dsimp only [Option.toList, List.drop, List.cons_append, List.nil_append]
  refine Wp.ishl dX12_allLines_5 rfl ?_
  rw [nI_one_shl (by omega)]
  refine Wp.iconst (v := (nI 1)) dX12_allLines_6 (by decide) rfl ?_
  refine Wp.isub dX12_allLines_7 rfl ?_
  rw [pk_sub Nat.one_le_two_pow]
  exact Wp.iret dX12_allLines_8 rfl (by exact ⟨rfl, rfl⟩)
/-- how many of the first n bits are set -/
def cntB (s : Nat) : Nat → Nat
  | 0 => 0
  | n + 1 => cntB s n + (if s.testBit n then 1 else 0)
theorem cntB_le (s : Nat) : ∀ n, cntB s n ≤ n
  | 0 => Nat.le_refl _
  | n + 1 => by have := cntB_le s n; simp only [cntB]; split <;> omega
/-- one round of the reference over the lines of a set -/
def rndM (fr to : Nat → Nat) (s : Nat) (bo : Bool) (r : Nat) : Nat → Nat
  | 0 => r
  | l + 1 =>
    let r0 := rndM fr to s bo r l
    let r1 := if s.testBit l = true ∧ r0.testBit (fr l) = true then r0 ||| 2 ^ to l else r0
    if s.testBit l = true ∧ bo = true ∧ r1.testBit (to l) = true then r1 ||| 2 ^ fr l else r1
def reaM (fr to : Nat → Nat) (s : Nat) (bo : Bool) (L : Nat) (r : Nat) : Nat → Nat
  | 0 => r
  | n + 1 => rndM fr to s bo (reaM fr to s bo L r n) L
theorem rndM_lt {fr to : Nat → Nat} {s r L : Nat} {bo : Bool} (hw : ∀ l, l < L → fr l < 7 ∧ to l < 7) (hr : r < 128) : ∀ n, n ≤ L → rndM fr to s bo r n < 128
  | 0, _ => hr
  | n + 1, h => by
    have ih := rndM_lt (s := s) (bo := bo) hw hr n (by omega)
    have hn := hw n (by omega)
    simp only [rndM]
    split <;> split <;> first | exact or_lt7 (or_lt7 ih (pow_lt7 hn.2)) (pow_lt7 hn.1) | exact or_lt7 ih (pow_lt7 hn.1) | exact or_lt7 ih (pow_lt7 hn.2) | exact ih
theorem reaM_lt {fr to : Nat → Nat} {s r L : Nat} {bo : Bool} (hw : ∀ l, l < L → fr l < 7 ∧ to l < 7) (hr : r < 128) : ∀ n, reaM fr to s bo L r n < 128
  | 0 => hr
  | n + 1 => rndM_lt hw (reaM_lt hw hr n) L (Nat.le_refl _)
theorem c_X12_bits {B : ev_B} {d : Nat} {h : ev_H} {s : Nat} (hs : s < 2147483648) :
    Wp B d M_X12_bits 0 [some (.int (nI s)), none, none] [] h (fun v h' => v = some (.int (nI (cntB s 31))) ∧ h' = h) := by
  have loop : ∀ i, i ≤ 31 → Wp B d M_X12_bits 4 [some (.int (nI s)), some (.int (nI (cntB s i))), some (.int (nI i))] [] h (fun v h' => v = some (.int (nI (cntB s 31))) ∧ h' = h) := by
    refine ev_upl 31 (fun i hi ih => ?_) ?_
    · refine Wp.iload_n dX12_bits_4 rfl rfl ?_
      refine Wp.bipush (v := (nI 31)) dX12_bits_5 (by decide) rfl ?_
      refine Wp.icmp_ge (tgt := 24) (n := 10) dX12_bits_7 (by decide) rfl (fun c_7 => ?_) (fun c_7 => ?_)
      · try simp (disch := omega) only [nI_bit0, nI_bit1, Bool.not_eq_false, Bool.not_eq_true] at c_7
        try simp (disch := omega) only [i_lt, i_le, i_eq, l_lt, l_le, l_eq, i_0, i_m1, l_0, nI_tI, iI_tI, lI_tI, Int.not_lt, Int.not_le] at c_7
        omega
      · try simp (disch := omega) only [nI_bit0, nI_bit1, Bool.not_eq_false, Bool.not_eq_true] at c_7
        try simp (disch := omega) only [i_lt, i_le, i_eq, l_lt, l_le, l_eq, i_0, i_m1, l_0, nI_tI, iI_tI, lI_tI, Int.not_lt, Int.not_le] at c_7
        refine Wp.iload_n dX12_bits_10 rfl rfl ?_
        refine Wp.iload_n dX12_bits_11 rfl rfl ?_
        refine Wp.iload_n dX12_bits_12 rfl rfl ?_
        refine Wp.ishr dX12_bits_13 rfl ?_
        refine Wp.iconst (v := (nI 1)) dX12_bits_14 (by decide) rfl ?_
        refine Wp.iand dX12_bits_15 rfl ?_
        rw [nI_bit (by omega) (by omega)]
        refine Wp.iadd dX12_bits_16 rfl ?_
        rw [nI_add]
        refine Wp.istore_n dX12_bits_17 (Nat.le_of_ble_eq_true rfl) (by dsimp only [ev_st1, ev_st2, ev_cl] <;> rfl) rfl ?_
        refine Wp.iinc (v := _ + (nI 1)) dX12_bits_18 rfl rfl (Nat.le_of_ble_eq_true rfl) (by dsimp only [ev_st1, ev_cl] <;> rfl) rfl ?_
        refine Wp.goto (n := 4) dX12_bits_21 (by decide) ?_
        rw [nI_add1]
        exact ih
    · refine Wp.iload_n dX12_bits_4 rfl rfl ?_
      refine Wp.bipush (v := (nI 31)) dX12_bits_5 (by decide) rfl ?_
      refine Wp.icmp_ge (tgt := 24) (n := 10) dX12_bits_7 (by decide) rfl (fun c_7 => ?_) (fun c_7 => ?_)
      · try simp (disch := omega) only [nI_bit0, nI_bit1, Bool.not_eq_false, Bool.not_eq_true] at c_7
        try simp (disch := omega) only [i_lt, i_le, i_eq, l_lt, l_le, l_eq, i_0, i_m1, l_0, nI_tI, iI_tI, lI_tI, Int.not_lt, Int.not_le] at c_7
        refine Wp.iload_n dX12_bits_24 rfl rfl ?_
        exact Wp.iret dX12_bits_25 rfl (by exact ⟨rfl, rfl⟩)
      · try simp (disch := omega) only [nI_bit0, nI_bit1, Bool.not_eq_false, Bool.not_eq_true] at c_7
        try simp (disch := omega) only [i_lt, i_le, i_eq, l_lt, l_le, l_eq, i_0, i_m1, l_0, nI_tI, iI_tI, lI_tI, Int.not_lt, Int.not_le] at c_7
        omega
  refine Wp.iconst (v := (nI 0)) dX12_bits_0 (by decide) rfl ?_
  refine Wp.istore_n dX12_bits_1 (Nat.le_of_ble_eq_true rfl) (by dsimp only [ev_st1, ev_st2, ev_cl] <;> rfl) rfl ?_
  refine Wp.iconst (v := (nI 0)) dX12_bits_2 (by decide) rfl ?_
  refine Wp.istore_n dX12_bits_3 (Nat.le_of_ble_eq_true rfl) (by dsimp only [ev_st1, ev_st2, ev_cl] <;> rfl) rfl ?_
  exact loop 0 (by omega)
theorem rr_lt {r0 : Nat} {fr to : Nat → Nat} {l : Nat} (h : r0 < 128) (h1 : fr l < 7) (h2 : to l < 7) : r0 ||| 2 ^ to l < 128 := or_lt7 h (pow_lt7 h2)
set_option maxHeartbeats 4000000 in
theorem c_X12_reached {B : ev_B} {d x : Nat} {h : ev_H} {T L : Nat} {fr to : Nat → Nat} {sa ri : Nat → Int} {s r : Nat} {bo : Bool} (hN : NetM h x T L fr to sa ri) (hW : NetW T L fr to sa ri) (hs : s < 4096) (hr : r < 128) (hd : 1 ≤ d) :
    Wp B d M_X12_reached 0 [some (.ref x), some (.int (nI s)), some (.int (nI r)), some (.int (bI bo)), none, none, none, none] [] h (fun v h' => v = some (.int (nI (reaM fr to s bo L r 7))) ∧ h' = h) := by
  have hN0 := hN
  have hW0 := hW
  obtain ⟨V, n0, g, hV, v0, k0, g0, g1, e0, e1, e2, e3⟩ := hN
  obtain ⟨hT, hL, hW⟩ := hW
  have hwl : ∀ l, l < L → fr l < 7 ∧ to l < 7 := fun l hl => ⟨by have := hW l hl; omega, by have := hW l hl; omega⟩
  have outer : ∀ n, n ≤ 7 → ∀ (j6 j7 : Option Value), Wp B d M_X12_reached 6 [some (.ref x), some (.int (nI s)), some (.int (nI r)), some (.int (bI bo)), some (.int (nI (reaM fr to s bo L r n))), some (.int (nI n)), j6, j7] [] h (fun v h' => v = some (.int (nI (reaM fr to s bo L r 7))) ∧ h' = h) := by
    refine ev_upl 7 (fun n hn ih => ?_) ?_
    · intro j6 j7
      have loop : ∀ i, i ≤ L → ∀ (j7 : Option Value), Wp B d M_X12_reached 16 [some (.ref x), some (.int (nI s)), some (.int (nI r)), some (.int (bI bo)), some (.int (nI (rndM fr to s bo (reaM fr to s bo L r n) i))), some (.int (nI n)), some (.int (nI i)), j7] [] h (fun v h' => v = some (.int (nI (reaM fr to s bo L r 7))) ∧ h' = h) := by
        refine ev_upl L (fun i hi ih => ?_) ?_
        · intro j7
          have hw := hW i hi
          have hr1 := rndM_lt (s := s) (bo := bo) hwl (reaM_lt (s := s) (bo := bo) hwl hr n) i (by omega)
          refine Wp.iload dX12_reached_16 rfl rfl ?_
          refine Wp.aload_n dX12_reached_18 rfl (by first | exact Or.inr ⟨_, rfl⟩ | exact Or.inl rfl) rfl ?_
          refine Wp.cV dX12_reached_19 cv_X12_78 rfl (by omega) rfl (Nat.le_of_ble_eq_true rfl) (Nat.le_of_ble_eq_true rfl) (by assumption) rfl (c_X12_lines (d := d - 1) hN0 hW0) ?_
          rintro _ h_ ⟨rfl, e_⟩
          rw [e_]
          clear e_ h_
          dsimp only [Option.toList, List.drop, List.cons_append, List.nil_append]
          refine Wp.icmp_ge (tgt := 126) (n := 25) dX12_reached_22 (by decide) rfl (fun c_22 => ?_) (fun c_22 => ?_)
          · try simp (disch := omega) only [nI_bit0, nI_bit1, Bool.not_eq_false, Bool.not_eq_true] at c_22
            try simp (disch := omega) only [i_lt, i_le, i_eq, l_lt, l_le, l_eq, i_0, i_m1, l_0, nI_tI, iI_tI, lI_tI, Int.not_lt, Int.not_le] at c_22
            omega
          · try simp (disch := omega) only [nI_bit0, nI_bit1, Bool.not_eq_false, Bool.not_eq_true] at c_22
            try simp (disch := omega) only [i_lt, i_le, i_eq, l_lt, l_le, l_eq, i_0, i_m1, l_0, nI_tI, iI_tI, lI_tI, Int.not_lt, Int.not_le] at c_22
            refine Wp.iload_n dX12_reached_25 rfl rfl ?_
            refine Wp.iload dX12_reached_26 rfl rfl ?_
            refine Wp.ishr dX12_reached_28 rfl ?_
            refine Wp.iconst (v := (nI 1)) dX12_reached_29 (by decide) rfl ?_
            refine Wp.iand dX12_reached_30 rfl ?_
            refine Wp.iconst (v := (nI 1)) dX12_reached_31 (by decide) rfl ?_
            refine Wp.icmp_ne (tgt := 39) (n := 35) dX12_reached_32 (by decide) rfl (fun c_32 => ?_) (fun c_32 => ?_)
            · try simp (disch := omega) only [nI_bit0, nI_bit1, Bool.not_eq_false, Bool.not_eq_true] at c_32
              try simp (disch := omega) only [i_lt, i_le, i_eq, l_lt, l_le, l_eq, i_0, i_m1, l_0, nI_tI, iI_tI, lI_tI, Int.not_lt, Int.not_le] at c_32
              refine Wp.iconst (v := (nI 0)) dX12_reached_39 (by decide) rfl ?_
              refine Wp.istore dX12_reached_40 (Nat.le_of_ble_eq_true rfl) (by dsimp only [ev_st1, ev_st2, ev_cl] <;> rfl) rfl ?_
              refine Wp.iload dX12_reached_42 rfl rfl ?_
              refine Wp.iload dX12_reached_44 rfl rfl ?_
              refine Wp.if_eq (tgt := 75) (n := 49) dX12_reached_46 (by decide) rfl (fun _ => ?_) (fun c_ => absurd c_ (by decide))
              refine Wp.iconst (v := (nI 0)) dX12_reached_75 (by decide) rfl ?_
              refine Wp.ior dX12_reached_76 rfl ?_
              rw [nI_or]
              refine Wp.istore dX12_reached_77 (Nat.le_of_ble_eq_true rfl) (by dsimp only [ev_st1, ev_st2, ev_cl] <;> rfl) rfl ?_
              try simp only [Nat.or_zero]
              have hr2 := rr_lt (r0 := rndM fr to s bo (reaM fr to s bo L r n) i) (fr := fr) (to := to) (l := i) hr1 (by omega) (by omega)
              refine Wp.iload dX12_reached_79 rfl rfl ?_
              refine Wp.iload dX12_reached_81 rfl rfl ?_
              refine Wp.if_eq (tgt := 116) (n := 86) dX12_reached_83 (by decide) rfl (fun _ => ?_) (fun c_ => absurd c_ (by decide))
              refine Wp.iconst (v := (nI 0)) dX12_reached_116 (by decide) rfl ?_
              refine Wp.ior dX12_reached_117 rfl ?_
              rw [nI_or]
              refine Wp.istore dX12_reached_118 (Nat.le_of_ble_eq_true rfl) (by dsimp only [ev_st1, ev_st2, ev_cl] <;> rfl) rfl ?_
              refine Wp.iinc (v := _ + (nI 1)) dX12_reached_120 rfl rfl (Nat.le_of_ble_eq_true rfl) (by dsimp only [ev_st1, ev_cl] <;> rfl) rfl ?_
              refine Wp.goto (n := 16) dX12_reached_123 (by decide) ?_
              rw [nI_add1]
              try simp only [Nat.or_zero]
              simp [rndM, *] at ih
              exact ih _
            · try simp (disch := omega) only [nI_bit0, nI_bit1, Bool.not_eq_false, Bool.not_eq_true] at c_32
              try simp (disch := omega) only [i_lt, i_le, i_eq, l_lt, l_le, l_eq, i_0, i_m1, l_0, nI_tI, iI_tI, lI_tI, Int.not_lt, Int.not_le] at c_32
              refine Wp.iconst (v := (nI 1)) dX12_reached_35 (by decide) rfl ?_
              refine Wp.goto (n := 40) dX12_reached_36 (by decide) ?_
              refine Wp.istore dX12_reached_40 (Nat.le_of_ble_eq_true rfl) (by dsimp only [ev_st1, ev_st2, ev_cl] <;> rfl) rfl ?_
              refine Wp.iload dX12_reached_42 rfl rfl ?_
              refine Wp.iload dX12_reached_44 rfl rfl ?_
              refine Wp.if_eq (tgt := 75) (n := 49) dX12_reached_46 (by decide) rfl (fun c_ => absurd c_ (by decide)) (fun _ => ?_)
              refine Wp.iload dX12_reached_49 rfl rfl ?_
              refine Wp.aload_n dX12_reached_51 rfl (by first | exact Or.inr ⟨_, rfl⟩ | exact Or.inl rfl) rfl ?_
              refine Wp.iload dX12_reached_52 rfl rfl ?_
              refine Wp.cV dX12_reached_54 cv_X12_118 rfl (by omega) rfl (Nat.le_of_ble_eq_true rfl) (Nat.le_of_ble_eq_true rfl) (by assumption) rfl (c_X12_from (d := d - 1) hN0 hW0 (l := i) hi) ?_
              rintro _ h_ ⟨rfl, e_⟩
              rw [e_]
              clear e_ h_
              dsimp only [Option.toList, List.drop, List.cons_append, List.nil_append]
              refine Wp.ishr dX12_reached_57 rfl ?_
              refine Wp.iconst (v := (nI 1)) dX12_reached_58 (by decide) rfl ?_
              refine Wp.iand dX12_reached_59 rfl ?_
              refine Wp.iconst (v := (nI 1)) dX12_reached_60 (by decide) rfl ?_
              refine Wp.icmp_ne (tgt := 75) (n := 64) dX12_reached_61 (by decide) rfl (fun c_61 => ?_) (fun c_61 => ?_)
              · try simp (disch := omega) only [nI_bit0, nI_bit1, Bool.not_eq_false, Bool.not_eq_true] at c_61
                try simp (disch := omega) only [i_lt, i_le, i_eq, l_lt, l_le, l_eq, i_0, i_m1, l_0, nI_tI, iI_tI, lI_tI, Int.not_lt, Int.not_le] at c_61
                refine Wp.iconst (v := (nI 0)) dX12_reached_75 (by decide) rfl ?_
                refine Wp.ior dX12_reached_76 rfl ?_
                rw [nI_or]
                refine Wp.istore dX12_reached_77 (Nat.le_of_ble_eq_true rfl) (by dsimp only [ev_st1, ev_st2, ev_cl] <;> rfl) rfl ?_
                try simp only [Nat.or_zero]
                have hr2 := rr_lt (r0 := rndM fr to s bo (reaM fr to s bo L r n) i) (fr := fr) (to := to) (l := i) hr1 (by omega) (by omega)
                refine Wp.iload dX12_reached_79 rfl rfl ?_
                refine Wp.iload dX12_reached_81 rfl rfl ?_
                refine Wp.if_eq (tgt := 116) (n := 86) dX12_reached_83 (by decide) rfl (fun c_ => absurd c_ (by decide)) (fun _ => ?_)
                refine Wp.iload_n dX12_reached_86 rfl rfl ?_
                refine Wp.bif_eq (tgt := 116) (n := 90) dX12_reached_87 (by decide) rfl (fun c_87 => ?_) (fun c_87 => ?_)
                · subst c_87
                  refine Wp.iconst (v := (nI 0)) dX12_reached_116 (by decide) rfl ?_
                  refine Wp.ior dX12_reached_117 rfl ?_
                  rw [nI_or]
                  refine Wp.istore dX12_reached_118 (Nat.le_of_ble_eq_true rfl) (by dsimp only [ev_st1, ev_st2, ev_cl] <;> rfl) rfl ?_
                  refine Wp.iinc (v := _ + (nI 1)) dX12_reached_120 rfl rfl (Nat.le_of_ble_eq_true rfl) (by dsimp only [ev_st1, ev_cl] <;> rfl) rfl ?_
                  refine Wp.goto (n := 16) dX12_reached_123 (by decide) ?_
                  rw [nI_add1]
                  try simp only [Nat.or_zero]
                  simp [rndM, *] at ih
                  exact ih _
                · subst c_87
                  refine Wp.iload dX12_reached_90 rfl rfl ?_
                  refine Wp.aload_n dX12_reached_92 rfl (by first | exact Or.inr ⟨_, rfl⟩ | exact Or.inl rfl) rfl ?_
                  refine Wp.iload dX12_reached_93 rfl rfl ?_
                  refine Wp.cV dX12_reached_95 cv_X12_122 rfl (by omega) rfl (Nat.le_of_ble_eq_true rfl) (Nat.le_of_ble_eq_true rfl) (by assumption) rfl (c_X12_to (d := d - 1) hN0 hW0 (l := i) hi) ?_
                  rintro _ h_ ⟨rfl, e_⟩
                  rw [e_]
                  clear e_ h_
                  dsimp only [Option.toList, List.drop, List.cons_append, List.nil_append]
                  refine Wp.ishr dX12_reached_98 rfl ?_
                  refine Wp.iconst (v := (nI 1)) dX12_reached_99 (by decide) rfl ?_
                  refine Wp.iand dX12_reached_100 rfl ?_
                  refine Wp.iconst (v := (nI 1)) dX12_reached_101 (by decide) rfl ?_
                  refine Wp.icmp_ne (tgt := 116) (n := 105) dX12_reached_102 (by decide) rfl (fun c_102 => ?_) (fun c_102 => ?_)
                  · try simp (disch := omega) only [nI_bit0, nI_bit1, Bool.not_eq_false, Bool.not_eq_true] at c_102
                    try simp (disch := omega) only [i_lt, i_le, i_eq, l_lt, l_le, l_eq, i_0, i_m1, l_0, nI_tI, iI_tI, lI_tI, Int.not_lt, Int.not_le] at c_102
                    refine Wp.iconst (v := (nI 0)) dX12_reached_116 (by decide) rfl ?_
                    refine Wp.ior dX12_reached_117 rfl ?_
                    rw [nI_or]
                    refine Wp.istore dX12_reached_118 (Nat.le_of_ble_eq_true rfl) (by dsimp only [ev_st1, ev_st2, ev_cl] <;> rfl) rfl ?_
                    refine Wp.iinc (v := _ + (nI 1)) dX12_reached_120 rfl rfl (Nat.le_of_ble_eq_true rfl) (by dsimp only [ev_st1, ev_cl] <;> rfl) rfl ?_
                    refine Wp.goto (n := 16) dX12_reached_123 (by decide) ?_
                    rw [nI_add1]
                    try simp only [Nat.or_zero]
                    simp [rndM, *] at ih
                    exact ih _
                  · try simp (disch := omega) only [nI_bit0, nI_bit1, Bool.not_eq_false, Bool.not_eq_true] at c_102
                    try simp (disch := omega) only [i_lt, i_le, i_eq, l_lt, l_le, l_eq, i_0, i_m1, l_0, nI_tI, iI_tI, lI_tI, Int.not_lt, Int.not_le] at c_102
                    refine Wp.iconst (v := (nI 1)) dX12_reached_105 (by decide) rfl ?_
                    refine Wp.aload_n dX12_reached_106 rfl (by first | exact Or.inr ⟨_, rfl⟩ | exact Or.inl rfl) rfl ?_
                    refine Wp.iload dX12_reached_107 rfl rfl ?_
                    refine Wp.cV dX12_reached_109 cv_X12_118 rfl (by omega) rfl (Nat.le_of_ble_eq_true rfl) (Nat.le_of_ble_eq_true rfl) (by assumption) rfl (c_X12_from (d := d - 1) hN0 hW0 (l := i) hi) ?_
                    rintro _ h_ ⟨rfl, e_⟩
                    rw [e_]
                    clear e_ h_
                    dsimp only [Option.toList, List.drop, List.cons_append, List.nil_append]
                    refine Wp.ishl dX12_reached_112 rfl ?_
                    rw [nI_one_shl (by omega)]
                    refine Wp.goto (n := 117) dX12_reached_113 (by decide) ?_
                    refine Wp.ior dX12_reached_117 rfl ?_
                    rw [nI_or]
                    refine Wp.istore dX12_reached_118 (Nat.le_of_ble_eq_true rfl) (by dsimp only [ev_st1, ev_st2, ev_cl] <;> rfl) rfl ?_
                    refine Wp.iinc (v := _ + (nI 1)) dX12_reached_120 rfl rfl (Nat.le_of_ble_eq_true rfl) (by dsimp only [ev_st1, ev_cl] <;> rfl) rfl ?_
                    refine Wp.goto (n := 16) dX12_reached_123 (by decide) ?_
                    rw [nI_add1]
                    try simp only [Nat.or_zero]
                    simp [rndM, *] at ih
                    exact ih _
              · try simp (disch := omega) only [nI_bit0, nI_bit1, Bool.not_eq_false, Bool.not_eq_true] at c_61
                try simp (disch := omega) only [i_lt, i_le, i_eq, l_lt, l_le, l_eq, i_0, i_m1, l_0, nI_tI, iI_tI, lI_tI, Int.not_lt, Int.not_le] at c_61
                refine Wp.iconst (v := (nI 1)) dX12_reached_64 (by decide) rfl ?_
                refine Wp.aload_n dX12_reached_65 rfl (by first | exact Or.inr ⟨_, rfl⟩ | exact Or.inl rfl) rfl ?_
                refine Wp.iload dX12_reached_66 rfl rfl ?_
                refine Wp.cV dX12_reached_68 cv_X12_122 rfl (by omega) rfl (Nat.le_of_ble_eq_true rfl) (Nat.le_of_ble_eq_true rfl) (by assumption) rfl (c_X12_to (d := d - 1) hN0 hW0 (l := i) hi) ?_
                rintro _ h_ ⟨rfl, e_⟩
                rw [e_]
                clear e_ h_
                dsimp only [Option.toList, List.drop, List.cons_append, List.nil_append]
                refine Wp.ishl dX12_reached_71 rfl ?_
                rw [nI_one_shl (by omega)]
                refine Wp.goto (n := 76) dX12_reached_72 (by decide) ?_
                refine Wp.ior dX12_reached_76 rfl ?_
                rw [nI_or]
                refine Wp.istore dX12_reached_77 (Nat.le_of_ble_eq_true rfl) (by dsimp only [ev_st1, ev_st2, ev_cl] <;> rfl) rfl ?_
                try simp only [Nat.or_zero]
                have hr2 := rr_lt (r0 := rndM fr to s bo (reaM fr to s bo L r n) i) (fr := fr) (to := to) (l := i) hr1 (by omega) (by omega)
                refine Wp.iload dX12_reached_79 rfl rfl ?_
                refine Wp.iload dX12_reached_81 rfl rfl ?_
                refine Wp.if_eq (tgt := 116) (n := 86) dX12_reached_83 (by decide) rfl (fun c_ => absurd c_ (by decide)) (fun _ => ?_)
                refine Wp.iload_n dX12_reached_86 rfl rfl ?_
                refine Wp.bif_eq (tgt := 116) (n := 90) dX12_reached_87 (by decide) rfl (fun c_87 => ?_) (fun c_87 => ?_)
                · subst c_87
                  refine Wp.iconst (v := (nI 0)) dX12_reached_116 (by decide) rfl ?_
                  refine Wp.ior dX12_reached_117 rfl ?_
                  rw [nI_or]
                  refine Wp.istore dX12_reached_118 (Nat.le_of_ble_eq_true rfl) (by dsimp only [ev_st1, ev_st2, ev_cl] <;> rfl) rfl ?_
                  refine Wp.iinc (v := _ + (nI 1)) dX12_reached_120 rfl rfl (Nat.le_of_ble_eq_true rfl) (by dsimp only [ev_st1, ev_cl] <;> rfl) rfl ?_
                  refine Wp.goto (n := 16) dX12_reached_123 (by decide) ?_
                  rw [nI_add1]
                  try simp only [Nat.or_zero]
                  simp [rndM, *] at ih
                  exact ih _
                · subst c_87
                  refine Wp.iload dX12_reached_90 rfl rfl ?_
                  refine Wp.aload_n dX12_reached_92 rfl (by first | exact Or.inr ⟨_, rfl⟩ | exact Or.inl rfl) rfl ?_
                  refine Wp.iload dX12_reached_93 rfl rfl ?_
                  refine Wp.cV dX12_reached_95 cv_X12_122 rfl (by omega) rfl (Nat.le_of_ble_eq_true rfl) (Nat.le_of_ble_eq_true rfl) (by assumption) rfl (c_X12_to (d := d - 1) hN0 hW0 (l := i) hi) ?_
                  rintro _ h_ ⟨rfl, e_⟩
                  rw [e_]
                  clear e_ h_
                  dsimp only [Option.toList, List.drop, List.cons_append, List.nil_append]
                  refine Wp.ishr dX12_reached_98 rfl ?_
                  refine Wp.iconst (v := (nI 1)) dX12_reached_99 (by decide) rfl ?_
                  refine Wp.iand dX12_reached_100 rfl ?_
                  refine Wp.iconst (v := (nI 1)) dX12_reached_101 (by decide) rfl ?_
                  refine Wp.icmp_ne (tgt := 116) (n := 105) dX12_reached_102 (by decide) rfl (fun c_102 => ?_) (fun c_102 => ?_)
                  · try simp (disch := omega) only [nI_bit0, nI_bit1, Bool.not_eq_false, Bool.not_eq_true] at c_102
                    try simp (disch := omega) only [i_lt, i_le, i_eq, l_lt, l_le, l_eq, i_0, i_m1, l_0, nI_tI, iI_tI, lI_tI, Int.not_lt, Int.not_le] at c_102
                    refine Wp.iconst (v := (nI 0)) dX12_reached_116 (by decide) rfl ?_
                    refine Wp.ior dX12_reached_117 rfl ?_
                    rw [nI_or]
                    refine Wp.istore dX12_reached_118 (Nat.le_of_ble_eq_true rfl) (by dsimp only [ev_st1, ev_st2, ev_cl] <;> rfl) rfl ?_
                    refine Wp.iinc (v := _ + (nI 1)) dX12_reached_120 rfl rfl (Nat.le_of_ble_eq_true rfl) (by dsimp only [ev_st1, ev_cl] <;> rfl) rfl ?_
                    refine Wp.goto (n := 16) dX12_reached_123 (by decide) ?_
                    rw [nI_add1]
                    try simp only [Nat.or_zero]
                    simp [rndM, *] at ih
                    exact ih _
                  · try simp (disch := omega) only [nI_bit0, nI_bit1, Bool.not_eq_false, Bool.not_eq_true] at c_102
                    try simp (disch := omega) only [i_lt, i_le, i_eq, l_lt, l_le, l_eq, i_0, i_m1, l_0, nI_tI, iI_tI, lI_tI, Int.not_lt, Int.not_le] at c_102
                    refine Wp.iconst (v := (nI 1)) dX12_reached_105 (by decide) rfl ?_
                    refine Wp.aload_n dX12_reached_106 rfl (by first | exact Or.inr ⟨_, rfl⟩ | exact Or.inl rfl) rfl ?_
                    refine Wp.iload dX12_reached_107 rfl rfl ?_
                    refine Wp.cV dX12_reached_109 cv_X12_118 rfl (by omega) rfl (Nat.le_of_ble_eq_true rfl) (Nat.le_of_ble_eq_true rfl) (by assumption) rfl (c_X12_from (d := d - 1) hN0 hW0 (l := i) hi) ?_
                    rintro _ h_ ⟨rfl, e_⟩
                    rw [e_]
                    clear e_ h_
                    dsimp only [Option.toList, List.drop, List.cons_append, List.nil_append]
                    refine Wp.ishl dX12_reached_112 rfl ?_
                    rw [nI_one_shl (by omega)]
                    refine Wp.goto (n := 117) dX12_reached_113 (by decide) ?_
                    refine Wp.ior dX12_reached_117 rfl ?_
                    rw [nI_or]
                    refine Wp.istore dX12_reached_118 (Nat.le_of_ble_eq_true rfl) (by dsimp only [ev_st1, ev_st2, ev_cl] <;> rfl) rfl ?_
                    refine Wp.iinc (v := _ + (nI 1)) dX12_reached_120 rfl rfl (Nat.le_of_ble_eq_true rfl) (by dsimp only [ev_st1, ev_cl] <;> rfl) rfl ?_
                    refine Wp.goto (n := 16) dX12_reached_123 (by decide) ?_
                    rw [nI_add1]
                    try simp only [Nat.or_zero]
                    simp [rndM, *] at ih
                    exact ih _
        · intro j7
          refine Wp.iload dX12_reached_16 rfl rfl ?_
          refine Wp.aload_n dX12_reached_18 rfl (by first | exact Or.inr ⟨_, rfl⟩ | exact Or.inl rfl) rfl ?_
          refine Wp.cV dX12_reached_19 cv_X12_78 rfl (by omega) rfl (Nat.le_of_ble_eq_true rfl) (Nat.le_of_ble_eq_true rfl) (by assumption) rfl (c_X12_lines (d := d - 1) hN0 hW0) ?_
          rintro _ h_ ⟨rfl, e_⟩
          rw [e_]
          clear e_ h_
          dsimp only [Option.toList, List.drop, List.cons_append, List.nil_append]
          refine Wp.icmp_ge (tgt := 126) (n := 25) dX12_reached_22 (by decide) rfl (fun c_22 => ?_) (fun c_22 => ?_)
          · try simp (disch := omega) only [nI_bit0, nI_bit1, Bool.not_eq_false, Bool.not_eq_true] at c_22
            try simp (disch := omega) only [i_lt, i_le, i_eq, l_lt, l_le, l_eq, i_0, i_m1, l_0, nI_tI, iI_tI, lI_tI, Int.not_lt, Int.not_le] at c_22
            refine Wp.iinc (v := _ + (nI 1)) dX12_reached_126 rfl rfl (Nat.le_of_ble_eq_true rfl) (by dsimp only [ev_st1, ev_cl] <;> rfl) rfl ?_
            refine Wp.goto (n := 6) dX12_reached_129 (by decide) ?_
            rw [nI_add1]
            exact ih _ _
          · try simp (disch := omega) only [nI_bit0, nI_bit1, Bool.not_eq_false, Bool.not_eq_true] at c_22
            try simp (disch := omega) only [i_lt, i_le, i_eq, l_lt, l_le, l_eq, i_0, i_m1, l_0, nI_tI, iI_tI, lI_tI, Int.not_lt, Int.not_le] at c_22
            omega
      refine Wp.iload dX12_reached_6 rfl rfl ?_
      refine Wp.bipush (v := (nI 7)) dX12_reached_8 (by decide) rfl ?_
      refine Wp.icmp_ge (tgt := 132) (n := 13) dX12_reached_10 (by decide) rfl (fun c_10 => ?_) (fun c_10 => ?_)
      · try simp (disch := omega) only [nI_bit0, nI_bit1, Bool.not_eq_false, Bool.not_eq_true] at c_10
        try simp (disch := omega) only [i_lt, i_le, i_eq, l_lt, l_le, l_eq, i_0, i_m1, l_0, nI_tI, iI_tI, lI_tI, Int.not_lt, Int.not_le] at c_10
        omega
      · try simp (disch := omega) only [nI_bit0, nI_bit1, Bool.not_eq_false, Bool.not_eq_true] at c_10
        try simp (disch := omega) only [i_lt, i_le, i_eq, l_lt, l_le, l_eq, i_0, i_m1, l_0, nI_tI, iI_tI, lI_tI, Int.not_lt, Int.not_le] at c_10
        refine Wp.iconst (v := (nI 0)) dX12_reached_13 (by decide) rfl ?_
        refine Wp.istore dX12_reached_14 (Nat.le_of_ble_eq_true rfl) (by dsimp only [ev_st1, ev_st2, ev_cl] <;> rfl) rfl ?_
        exact loop 0 (by omega) _
    · intro j6 j7
      refine Wp.iload dX12_reached_6 rfl rfl ?_
      refine Wp.bipush (v := (nI 7)) dX12_reached_8 (by decide) rfl ?_
      refine Wp.icmp_ge (tgt := 132) (n := 13) dX12_reached_10 (by decide) rfl (fun c_10 => ?_) (fun c_10 => ?_)
      · try simp (disch := omega) only [nI_bit0, nI_bit1, Bool.not_eq_false, Bool.not_eq_true] at c_10
        try simp (disch := omega) only [i_lt, i_le, i_eq, l_lt, l_le, l_eq, i_0, i_m1, l_0, nI_tI, iI_tI, lI_tI, Int.not_lt, Int.not_le] at c_10
        refine Wp.iload dX12_reached_132 rfl rfl ?_
        exact Wp.iret dX12_reached_134 rfl (by exact ⟨rfl, rfl⟩)
      · try simp (disch := omega) only [nI_bit0, nI_bit1, Bool.not_eq_false, Bool.not_eq_true] at c_10
        try simp (disch := omega) only [i_lt, i_le, i_eq, l_lt, l_le, l_eq, i_0, i_m1, l_0, nI_tI, iI_tI, lI_tI, Int.not_lt, Int.not_le] at c_10
        omega
  refine Wp.iload_n dX12_reached_0 rfl rfl ?_
  refine Wp.istore dX12_reached_1 (Nat.le_of_ble_eq_true rfl) (by dsimp only [ev_st1, ev_st2, ev_cl] <;> rfl) rfl ?_
  refine Wp.iconst (v := (nI 0)) dX12_reached_3 (by decide) rfl ?_
  refine Wp.istore dX12_reached_4 (Nat.le_of_ble_eq_true rfl) (by dsimp only [ev_st1, ev_st2, ev_cl] <;> rfl) rfl ?_
  exact outer 0 (by omega) _ _
