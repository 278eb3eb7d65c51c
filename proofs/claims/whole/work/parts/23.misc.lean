/-! ways of the reference; fractions, prices: both sides' own functions -/
set_option maxHeartbeats 4000000 in
theorem c_X12_isWay {B : ev_B} {d x : Nat} {h : ev_H} {T L : Nat} {fr to : Nat → Nat} {sa ri : Nat → Int} {s a b : Nat} (hN : NetM h x T L fr to sa ri) (hW : NetW T L fr to sa ri) (hs : s < 4096) (ha : a < T) (hb : b < T) (hd : 1 ≤ d) :
    Wp B d M_X12_isWay 0 [some (.ref x), some (.int (nI s)), some (.int (nI a)), some (.int (nI b)), none, none, none, none, none, none, none] [] h (fun v h' => v = some (.int (bI (wayM fr to L b 128 a s (2 ^ a)))) ∧ h' = h) := by
  have hN0 := hN
  have hW0 := hW
  obtain ⟨V, n0, g, hV, v0, k0, g0, g1, e0, e1, e2, e3⟩ := hN
  obtain ⟨hT, hL, hW⟩ := hW
  have outer : ∀ k t lf be, t < T → lf < 4096 → be < 128 → 128 ≤ be + k → ∀ (j8 j9 j10 : Option Value), Wp B d M_X12_isWay 14 [some (.ref x), some (.int (nI s)), some (.int (nI a)), some (.int (nI b)), some (.int (nI t)), some (.int (nI lf)), some (.int (nI be)), some (.int (nI 1)), j8, j9, j10] [] h (fun v h' => v = some (.int (bI (wayM fr to L b k t lf be))) ∧ h' = h) := by
    intro k
    induction k with
    | zero =>
      intro t lf be ht hlf hbe hk
      exact absurd hk (by omega)
    | succ k ih =>
      intro t lf be ht hlf hbe hk j8 j9 j10
      by_cases htb : t = b
      · subst htb
        refine Wp.iload dX12_isWay_14 rfl rfl ?_
        refine Wp.if_eq (tgt := 141) (n := 19) dX12_isWay_16 (by decide) rfl (fun c_ => absurd c_ (by decide)) (fun _ => ?_)
        refine Wp.iload dX12_isWay_19 rfl rfl ?_
        refine Wp.iload_n dX12_isWay_21 rfl rfl ?_
        refine Wp.icmp_eq (tgt := 141) (n := 25) dX12_isWay_22 (by decide) rfl (fun c_22 => ?_) (fun c_22 => ?_)
        · skip
          refine Wp.iload dX12_isWay_141 rfl rfl ?_
          refine Wp.if_eq (tgt := 155) (n := 146) dX12_isWay_143 (by decide) rfl (fun c_ => absurd c_ (by decide)) (fun _ => ?_)
          refine Wp.iload dX12_isWay_146 rfl rfl ?_
          refine Wp.if_ne (tgt := 155) (n := 151) dX12_isWay_148 (by decide) rfl (fun c_148 => ?_) (fun c_148 => ?_)
          · rw [nI_eq0 (by omega)] at c_148
            refine Wp.iconst (v := (nI 0)) dX12_isWay_155 (by decide) rfl ?_
            exact Wp.zret dX12_isWay_156 rfl (by decide) (q_ret (bI_f (by simp [wayM, *])))
          · rw [nI_eq0 (by omega)] at c_148
            refine Wp.iconst (v := (nI 1)) dX12_isWay_151 (by decide) rfl ?_
            refine Wp.goto (n := 156) dX12_isWay_152 (by decide) ?_
            exact Wp.zret dX12_isWay_156 rfl (by decide) (q_ret (bI_t (by simp [wayM, *])))
        · skip
          exact absurd rfl c_22
      · skip
        have loop : ∀ i, i ≤ L → Wp B d M_X12_isWay 34 [some (.ref x), some (.int (nI s)), some (.int (nI a)), some (.int (nI b)), some (.int (nI t)), some (.int (nI lf)), some (.int (nI be)), some (.int (nI 1)), some (.int (iI (scanW fr lf t i).1)), some (.int (nI (scanW fr lf t i).2)), some (.int (nI i))] [] h (fun v h' => v = some (.int (bI (wayM fr to L b (k + 1) t lf be))) ∧ h' = h) := by
          refine ev_upl L (fun i hi ih => ?_) ?_
          · have hw := hW i hi
            have hsc := scanW_in fr lf t i
            refine Wp.iload dX12_isWay_34 rfl rfl ?_
            refine Wp.aload_n dX12_isWay_36 rfl (by first | exact Or.inr ⟨_, rfl⟩ | exact Or.inl rfl) rfl ?_
            refine Wp.cV dX12_isWay_37 cv_X12_78 rfl (by omega) rfl (Nat.le_of_ble_eq_true rfl) (Nat.le_of_ble_eq_true rfl) (by assumption) rfl (c_X12_lines (d := d - 1) hN0 hW0) ?_
            rintro _ h_ ⟨rfl, e_⟩
            rw [e_]
            clear e_ h_
            dsimp only [Option.toList, List.drop, List.cons_append, List.nil_append]
            refine Wp.icmp_ge (tgt := 78) (n := 43) dX12_isWay_40 (by decide) rfl (fun c_40 => ?_) (fun c_40 => ?_)
            · try simp (disch := omega) only [nI_bit0, nI_bit1, Bool.not_eq_false, Bool.not_eq_true] at c_40
              try simp (disch := omega) only [i_lt, i_le, i_eq, l_lt, l_le, l_eq, i_0, i_m1, l_0, nI_tI, iI_tI, lI_tI, Int.not_lt, Int.not_le] at c_40
              omega
            · try simp (disch := omega) only [nI_bit0, nI_bit1, Bool.not_eq_false, Bool.not_eq_true] at c_40
              try simp (disch := omega) only [i_lt, i_le, i_eq, l_lt, l_le, l_eq, i_0, i_m1, l_0, nI_tI, iI_tI, lI_tI, Int.not_lt, Int.not_le] at c_40
              refine Wp.iload dX12_isWay_43 rfl rfl ?_
              refine Wp.iload dX12_isWay_45 rfl rfl ?_
              refine Wp.ishr dX12_isWay_47 rfl ?_
              refine Wp.iconst (v := (nI 1)) dX12_isWay_48 (by decide) rfl ?_
              refine Wp.iand dX12_isWay_49 rfl ?_
              refine Wp.iconst (v := (nI 1)) dX12_isWay_50 (by decide) rfl ?_
              refine Wp.icmp_ne (tgt := 72) (n := 54) dX12_isWay_51 (by decide) rfl (fun c_51 => ?_) (fun c_51 => ?_)
              · try simp (disch := omega) only [nI_bit0, nI_bit1, Bool.not_eq_false, Bool.not_eq_true] at c_51
                try simp (disch := omega) only [i_lt, i_le, i_eq, l_lt, l_le, l_eq, i_0, i_m1, l_0, nI_tI, iI_tI, lI_tI, Int.not_lt, Int.not_le] at c_51
                refine Wp.iinc (v := _ + (nI 1)) dX12_isWay_72 rfl rfl (Nat.le_of_ble_eq_true rfl) (by dsimp only [ev_st1, ev_cl] <;> rfl) rfl ?_
                refine Wp.goto (n := 34) dX12_isWay_75 (by decide) ?_
                simp only [nI_add1]
                simp [scanW, ← nI_iI, nI_add1, *] at ih
                exact ih
              · try simp (disch := omega) only [nI_bit0, nI_bit1, Bool.not_eq_false, Bool.not_eq_true] at c_51
                try simp (disch := omega) only [i_lt, i_le, i_eq, l_lt, l_le, l_eq, i_0, i_m1, l_0, nI_tI, iI_tI, lI_tI, Int.not_lt, Int.not_le] at c_51
                refine Wp.aload_n dX12_isWay_54 rfl (by first | exact Or.inr ⟨_, rfl⟩ | exact Or.inl rfl) rfl ?_
                refine Wp.iload dX12_isWay_55 rfl rfl ?_
                refine Wp.cV dX12_isWay_57 cv_X12_118 rfl (by omega) rfl (Nat.le_of_ble_eq_true rfl) (Nat.le_of_ble_eq_true rfl) (by assumption) rfl (c_X12_from (d := d - 1) hN0 hW0 (l := i) hi) ?_
                rintro _ h_ ⟨rfl, e_⟩
                rw [e_]
                clear e_ h_
                dsimp only [Option.toList, List.drop, List.cons_append, List.nil_append]
                refine Wp.iload dX12_isWay_60 rfl rfl ?_
                refine Wp.icmp_ne (tgt := 72) (n := 65) dX12_isWay_62 (by decide) rfl (fun c_62 => ?_) (fun c_62 => ?_)
                · rw [nI_eq (by omega) (by omega)] at c_62
                  refine Wp.iinc (v := _ + (nI 1)) dX12_isWay_72 rfl rfl (Nat.le_of_ble_eq_true rfl) (by dsimp only [ev_st1, ev_cl] <;> rfl) rfl ?_
                  refine Wp.goto (n := 34) dX12_isWay_75 (by decide) ?_
                  simp only [nI_add1]
                  simp [scanW, ← nI_iI, nI_add1, *] at ih
                  exact ih
                · rw [nI_eq (by omega) (by omega)] at c_62
                  refine Wp.iload dX12_isWay_65 rfl rfl ?_
                  refine Wp.istore dX12_isWay_67 (Nat.le_of_ble_eq_true rfl) (by dsimp only [ev_st1, ev_st2, ev_cl] <;> rfl) rfl ?_
                  refine Wp.iinc (v := _ + (nI 1)) dX12_isWay_69 rfl rfl (Nat.le_of_ble_eq_true rfl) (by dsimp only [ev_st1, ev_cl] <;> rfl) rfl ?_
                  refine Wp.iinc (v := _ + (nI 1)) dX12_isWay_72 rfl rfl (Nat.le_of_ble_eq_true rfl) (by dsimp only [ev_st1, ev_cl] <;> rfl) rfl ?_
                  refine Wp.goto (n := 34) dX12_isWay_75 (by decide) ?_
                  simp only [nI_add1]
                  simp [scanW, ← nI_iI, nI_add1, *] at ih
                  exact ih
          · have hsc := scanW_in fr lf t L
            refine Wp.iload dX12_isWay_34 rfl rfl ?_
            refine Wp.aload_n dX12_isWay_36 rfl (by first | exact Or.inr ⟨_, rfl⟩ | exact Or.inl rfl) rfl ?_
            refine Wp.cV dX12_isWay_37 cv_X12_78 rfl (by omega) rfl (Nat.le_of_ble_eq_true rfl) (Nat.le_of_ble_eq_true rfl) (by assumption) rfl (c_X12_lines (d := d - 1) hN0 hW0) ?_
            rintro _ h_ ⟨rfl, e_⟩
            rw [e_]
            clear e_ h_
            dsimp only [Option.toList, List.drop, List.cons_append, List.nil_append]
            refine Wp.icmp_ge (tgt := 78) (n := 43) dX12_isWay_40 (by decide) rfl (fun c_40 => ?_) (fun c_40 => ?_)
            · try simp (disch := omega) only [nI_bit0, nI_bit1, Bool.not_eq_false, Bool.not_eq_true] at c_40
              try simp (disch := omega) only [i_lt, i_le, i_eq, l_lt, l_le, l_eq, i_0, i_m1, l_0, nI_tI, iI_tI, lI_tI, Int.not_lt, Int.not_le] at c_40
              refine Wp.iload dX12_isWay_78 rfl rfl ?_
              refine Wp.iconst (v := (nI 1)) dX12_isWay_80 (by decide) rfl ?_
              refine Wp.icmp_ne (tgt := 102) (n := 84) dX12_isWay_81 (by decide) rfl (fun c_81 => ?_) (fun c_81 => ?_)
              · rw [nI_eq (by omega) (by decide)] at c_81
                refine Wp.iconst (v := (nI 0)) dX12_isWay_102 (by decide) rfl ?_
                refine Wp.istore dX12_isWay_103 (Nat.le_of_ble_eq_true rfl) (by dsimp only [ev_st1, ev_st2, ev_cl] <;> rfl) rfl ?_
                refine Wp.iload dX12_isWay_105 rfl rfl ?_
                refine Wp.if_eq (tgt := 138) (n := 110) dX12_isWay_107 (by decide) rfl (fun _ => ?_) (fun c_ => absurd c_ (by decide))
                refine Wp.goto (n := 14) dX12_isWay_138 (by decide) ?_
                refine Wp.iload dX12_isWay_14 rfl rfl ?_
                refine Wp.if_eq (tgt := 141) (n := 19) dX12_isWay_16 (by decide) rfl (fun _ => ?_) (fun c_ => absurd c_ (by decide))
                refine Wp.iload dX12_isWay_141 rfl rfl ?_
                refine Wp.if_eq (tgt := 155) (n := 146) dX12_isWay_143 (by decide) rfl (fun _ => ?_) (fun c_ => absurd c_ (by decide))
                refine Wp.iconst (v := (nI 0)) dX12_isWay_155 (by decide) rfl ?_
                exact Wp.zret dX12_isWay_156 rfl (by decide) (q_ret (bI_f (by simp [wayM, *])))
              · rw [nI_eq (by omega) (by decide)] at c_81
                obtain ⟨nx, hnx⟩ : ∃ nx : Nat, (scanW fr lf t L).1 = nx := ⟨_, (Int.toNat_of_nonneg (by omega)).symm⟩
                have hnl : nx < L := by omega
                have hwn := hW nx hnl
                rw [hnx, ← nI_iI]
                refine Wp.iload dX12_isWay_84 rfl rfl ?_
                refine Wp.aload_n dX12_isWay_86 rfl (by first | exact Or.inr ⟨_, rfl⟩ | exact Or.inl rfl) rfl ?_
                refine Wp.iload dX12_isWay_87 rfl rfl ?_
                refine Wp.cV dX12_isWay_89 cv_X12_122 rfl (by omega) rfl (Nat.le_of_ble_eq_true rfl) (Nat.le_of_ble_eq_true rfl) (by assumption) rfl (c_X12_to (d := d - 1) hN0 hW0 (l := nx) hnl) ?_
                rintro _ h_ ⟨rfl, e_⟩
                rw [e_]
                clear e_ h_
                dsimp only [Option.toList, List.drop, List.cons_append, List.nil_append]
                refine Wp.ishr dX12_isWay_92 rfl ?_
                refine Wp.iconst (v := (nI 1)) dX12_isWay_93 (by decide) rfl ?_
                refine Wp.iand dX12_isWay_94 rfl ?_
                refine Wp.if_ne (tgt := 102) (n := 98) dX12_isWay_95 (by decide) rfl (fun c_95 => ?_) (fun c_95 => ?_)
                · try simp (disch := omega) only [nI_bit0, nI_bit1, Bool.not_eq_false, Bool.not_eq_true] at c_95
                  try simp (disch := omega) only [i_lt, i_le, i_eq, l_lt, l_le, l_eq, i_0, i_m1, l_0, nI_tI, iI_tI, lI_tI, Int.not_lt, Int.not_le] at c_95
                  refine Wp.iconst (v := (nI 0)) dX12_isWay_102 (by decide) rfl ?_
                  refine Wp.istore dX12_isWay_103 (Nat.le_of_ble_eq_true rfl) (by dsimp only [ev_st1, ev_st2, ev_cl] <;> rfl) rfl ?_
                  refine Wp.iload dX12_isWay_105 rfl rfl ?_
                  refine Wp.if_eq (tgt := 138) (n := 110) dX12_isWay_107 (by decide) rfl (fun _ => ?_) (fun c_ => absurd c_ (by decide))
                  refine Wp.goto (n := 14) dX12_isWay_138 (by decide) ?_
                  refine Wp.iload dX12_isWay_14 rfl rfl ?_
                  refine Wp.if_eq (tgt := 141) (n := 19) dX12_isWay_16 (by decide) rfl (fun _ => ?_) (fun c_ => absurd c_ (by decide))
                  refine Wp.iload dX12_isWay_141 rfl rfl ?_
                  refine Wp.if_eq (tgt := 155) (n := 146) dX12_isWay_143 (by decide) rfl (fun _ => ?_) (fun c_ => absurd c_ (by decide))
                  refine Wp.iconst (v := (nI 0)) dX12_isWay_155 (by decide) rfl ?_
                  exact Wp.zret dX12_isWay_156 rfl (by decide) (q_ret (bI_f (by simp [wayM, *])))
                · try simp (disch := omega) only [nI_bit0, nI_bit1, Bool.not_eq_false, Bool.not_eq_true] at c_95
                  try simp (disch := omega) only [i_lt, i_le, i_eq, l_lt, l_le, l_eq, i_0, i_m1, l_0, nI_tI, iI_tI, lI_tI, Int.not_lt, Int.not_le] at c_95
                  refine Wp.iconst (v := (nI 1)) dX12_isWay_98 (by decide) rfl ?_
                  refine Wp.goto (n := 103) dX12_isWay_99 (by decide) ?_
                  refine Wp.istore dX12_isWay_103 (Nat.le_of_ble_eq_true rfl) (by dsimp only [ev_st1, ev_st2, ev_cl] <;> rfl) rfl ?_
                  refine Wp.iload dX12_isWay_105 rfl rfl ?_
                  refine Wp.if_eq (tgt := 138) (n := 110) dX12_isWay_107 (by decide) rfl (fun c_ => absurd c_ (by decide)) (fun _ => ?_)
                  refine Wp.iload dX12_isWay_110 rfl rfl ?_
                  refine Wp.iconst (v := (nI 1)) dX12_isWay_112 (by decide) rfl ?_
                  refine Wp.iload dX12_isWay_113 rfl rfl ?_
                  refine Wp.ishl dX12_isWay_115 rfl ?_
                  rw [nI_one_shl (by omega)]
                  refine Wp.iconst (v := (-1)) dX12_isWay_116 (by decide) rfl ?_
                  refine Wp.ixor dX12_isWay_117 rfl ?_
                  refine Wp.iand dX12_isWay_118 rfl ?_
                  rw [nI_andnot (by omega) (by omega)]
                  rw [show lf ^^^ (lf &&& 2 ^ nx) = less lf nx from rfl]
                  refine Wp.istore dX12_isWay_119 (Nat.le_of_ble_eq_true rfl) (by dsimp only [ev_st1, ev_st2, ev_cl] <;> rfl) rfl ?_
                  refine Wp.aload_n dX12_isWay_121 rfl (by first | exact Or.inr ⟨_, rfl⟩ | exact Or.inl rfl) rfl ?_
                  refine Wp.iload dX12_isWay_122 rfl rfl ?_
                  refine Wp.cV dX12_isWay_124 cv_X12_122 rfl (by omega) rfl (Nat.le_of_ble_eq_true rfl) (Nat.le_of_ble_eq_true rfl) (by assumption) rfl (c_X12_to (d := d - 1) hN0 hW0 (l := nx) hnl) ?_
                  rintro _ h_ ⟨rfl, e_⟩
                  rw [e_]
                  clear e_ h_
                  dsimp only [Option.toList, List.drop, List.cons_append, List.nil_append]
                  refine Wp.istore dX12_isWay_127 (Nat.le_of_ble_eq_true rfl) (by dsimp only [ev_st1, ev_st2, ev_cl] <;> rfl) rfl ?_
                  refine Wp.iload dX12_isWay_129 rfl rfl ?_
                  refine Wp.iconst (v := (nI 1)) dX12_isWay_131 (by decide) rfl ?_
                  refine Wp.iload dX12_isWay_132 rfl rfl ?_
                  refine Wp.ishl dX12_isWay_134 rfl ?_
                  rw [nI_one_shl (by omega)]
                  refine Wp.ior dX12_isWay_135 rfl ?_
                  rw [nI_or]
                  refine Wp.istore dX12_isWay_136 (Nat.le_of_ble_eq_true rfl) (by dsimp only [ev_st1, ev_st2, ev_cl] <;> rfl) rfl ?_
                  refine Wp.goto (n := 14) dX12_isWay_138 (by decide) ?_
                  rw [show wayM fr to L b (k + 1) t lf be = wayM fr to L b k (to nx) (less lf nx) (be ||| 2 ^ to nx) from by simp [wayM, *]]
                  exact ih (to nx) (less lf nx) (be ||| 2 ^ to nx) (by omega) (less_lt (n := 12) hlf) (or_lt7 hbe (pow_lt7 (by omega))) (by have := or_bit_gt c_95; omega) _ _ _
            · try simp (disch := omega) only [nI_bit0, nI_bit1, Bool.not_eq_false, Bool.not_eq_true] at c_40
              try simp (disch := omega) only [i_lt, i_le, i_eq, l_lt, l_le, l_eq, i_0, i_m1, l_0, nI_tI, iI_tI, lI_tI, Int.not_lt, Int.not_le] at c_40
              omega
        refine Wp.iload dX12_isWay_14 rfl rfl ?_
        refine Wp.if_eq (tgt := 141) (n := 19) dX12_isWay_16 (by decide) rfl (fun c_ => absurd c_ (by decide)) (fun _ => ?_)
        refine Wp.iload dX12_isWay_19 rfl rfl ?_
        refine Wp.iload_n dX12_isWay_21 rfl rfl ?_
        refine Wp.icmp_eq (tgt := 141) (n := 25) dX12_isWay_22 (by decide) rfl (fun c_22 => ?_) (fun c_22 => ?_)
        · rw [nI_eq (by omega) (by omega)] at c_22
          exact absurd c_22 htb
        · skip
          refine Wp.iconst (v := (-1)) dX12_isWay_25 (by decide) rfl ?_
          refine Wp.istore dX12_isWay_26 (Nat.le_of_ble_eq_true rfl) (by dsimp only [ev_st1, ev_st2, ev_cl] <;> rfl) rfl ?_
          refine Wp.iconst (v := (nI 0)) dX12_isWay_28 (by decide) rfl ?_
          refine Wp.istore dX12_isWay_29 (Nat.le_of_ble_eq_true rfl) (by dsimp only [ev_st1, ev_st2, ev_cl] <;> rfl) rfl ?_
          refine Wp.iconst (v := (nI 0)) dX12_isWay_31 (by decide) rfl ?_
          refine Wp.istore dX12_isWay_32 (Nat.le_of_ble_eq_true rfl) (by dsimp only [ev_st1, ev_st2, ev_cl] <;> rfl) rfl ?_
          exact loop 0 (by omega)
  refine Wp.iload_n dX12_isWay_0 rfl rfl ?_
  refine Wp.istore dX12_isWay_1 (Nat.le_of_ble_eq_true rfl) (by dsimp only [ev_st1, ev_st2, ev_cl] <;> rfl) rfl ?_
  refine Wp.iload_n dX12_isWay_3 rfl rfl ?_
  refine Wp.istore dX12_isWay_4 (Nat.le_of_ble_eq_true rfl) (by dsimp only [ev_st1, ev_st2, ev_cl] <;> rfl) rfl ?_
  refine Wp.iconst (v := (nI 1)) dX12_isWay_6 (by decide) rfl ?_
  refine Wp.iload_n dX12_isWay_7 rfl rfl ?_
  refine Wp.ishl dX12_isWay_8 rfl ?_
  rw [nI_one_shl (by omega)]
  refine Wp.istore dX12_isWay_9 (Nat.le_of_ble_eq_true rfl) (by dsimp only [ev_st1, ev_st2, ev_cl] <;> rfl) rfl ?_
  refine Wp.iconst (v := (nI 1)) dX12_isWay_11 (by decide) rfl ?_
  refine Wp.istore dX12_isWay_12 (Nat.le_of_ble_eq_true rfl) (by dsimp only [ev_st1, ev_st2, ev_cl] <;> rfl) rfl ?_
  exact outer 128 a s (2 ^ a) ha hs (pow_lt7 (by omega)) (Nat.le_add_left _ _) _ _ _
theorem c_X11_isPrice {B : ev_B} {d : Nat} {h : ev_H} {p q : Int32} :
    Wp B d M_X11_isPrice 0 [some (.int (p)), some (.int (q))] [] h (fun v h' => v = some (.int (bI (decide ((-10000 ≤ p.toInt ∧ p.toInt ≤ 10000) ∧ 1 ≤ q.toInt ∧ q.toInt ≤ 1000)))) ∧ h' = h) := by
  refine Wp.iload_n dX11_isPrice_0 rfl rfl ?_
  refine Wp.sipush (v := (-10000)) dX11_isPrice_1 (by decide) rfl ?_
  refine Wp.icmp_lt (tgt := 30) (n := 7) dX11_isPrice_4 (by decide) rfl (fun c_4 => ?_) (fun c_4 => ?_)
  · rw [i_lt, show (-10000 : Int32).toInt = -10000 by decide] at c_4
    refine Wp.iconst (v := (nI 0)) dX11_isPrice_30 (by decide) rfl ?_
    exact Wp.zret dX11_isPrice_31 rfl (by decide) (q_ret (bI_f (decide_eq_false (by omega))))
  · rw [i_lt, show (-10000 : Int32).toInt = -10000 by decide] at c_4
    refine Wp.iload_n dX11_isPrice_7 rfl rfl ?_
    refine Wp.sipush (v := (nI 10000)) dX11_isPrice_8 (by decide) rfl ?_
    refine Wp.icmp_gt (tgt := 30) (n := 14) dX11_isPrice_11 (by decide) rfl (fun c_11 => ?_) (fun c_11 => ?_)
    · rw [i_lt, show (nI 10000).toInt = 10000 by decide] at c_11
      refine Wp.iconst (v := (nI 0)) dX11_isPrice_30 (by decide) rfl ?_
      exact Wp.zret dX11_isPrice_31 rfl (by decide) (q_ret (bI_f (decide_eq_false (by omega))))
    · rw [i_lt, show (nI 10000).toInt = 10000 by decide] at c_11
      refine Wp.iload_n dX11_isPrice_14 rfl rfl ?_
      refine Wp.iconst (v := (nI 1)) dX11_isPrice_15 (by decide) rfl ?_
      refine Wp.icmp_lt (tgt := 30) (n := 19) dX11_isPrice_16 (by decide) rfl (fun c_16 => ?_) (fun c_16 => ?_)
      · rw [i_lt, show (nI 1).toInt = 1 by decide] at c_16
        refine Wp.iconst (v := (nI 0)) dX11_isPrice_30 (by decide) rfl ?_
        exact Wp.zret dX11_isPrice_31 rfl (by decide) (q_ret (bI_f (decide_eq_false (by omega))))
      · rw [i_lt, show (nI 1).toInt = 1 by decide] at c_16
        refine Wp.iload_n dX11_isPrice_19 rfl rfl ?_
        refine Wp.sipush (v := (nI 1000)) dX11_isPrice_20 (by decide) rfl ?_
        refine Wp.icmp_gt (tgt := 30) (n := 26) dX11_isPrice_23 (by decide) rfl (fun c_23 => ?_) (fun c_23 => ?_)
        · rw [i_lt, show (nI 1000).toInt = 1000 by decide] at c_23
          refine Wp.iconst (v := (nI 0)) dX11_isPrice_30 (by decide) rfl ?_
          exact Wp.zret dX11_isPrice_31 rfl (by decide) (q_ret (bI_f (decide_eq_false (by omega))))
        · rw [i_lt, show (nI 1000).toInt = 1000 by decide] at c_23
          refine Wp.iconst (v := (nI 1)) dX11_isPrice_26 (by decide) rfl ?_
          refine Wp.goto (n := 31) dX11_isPrice_27 (by decide) ?_
          exact Wp.zret dX11_isPrice_31 rfl (by decide) (q_ret (bI_t (decide_eq_true (by omega))))
theorem c_X11_isLineCost {B : ev_B} {d : Nat} {h : ev_H} {p q : Int32} :
    Wp B d M_X11_isLineCost 0 [some (.int (p)), some (.int (q))] [] h (fun v h' => v = some (.int (bI (decide ((-100 ≤ p.toInt ∧ p.toInt ≤ 100) ∧ -20 ≤ q.toInt ∧ q.toInt ≤ 20)))) ∧ h' = h) := by
  refine Wp.iload_n dX11_isLineCost_0 rfl rfl ?_
  refine Wp.bipush (v := (-100)) dX11_isLineCost_1 (by decide) rfl ?_
  refine Wp.icmp_lt (tgt := 28) (n := 6) dX11_isLineCost_3 (by decide) rfl (fun c_3 => ?_) (fun c_3 => ?_)
  · rw [i_lt, show (-100 : Int32).toInt = -100 by decide] at c_3
    refine Wp.iconst (v := (nI 0)) dX11_isLineCost_28 (by decide) rfl ?_
    exact Wp.zret dX11_isLineCost_29 rfl (by decide) (q_ret (bI_f (decide_eq_false (by omega))))
  · rw [i_lt, show (-100 : Int32).toInt = -100 by decide] at c_3
    refine Wp.iload_n dX11_isLineCost_6 rfl rfl ?_
    refine Wp.bipush (v := (nI 100)) dX11_isLineCost_7 (by decide) rfl ?_
    refine Wp.icmp_gt (tgt := 28) (n := 12) dX11_isLineCost_9 (by decide) rfl (fun c_9 => ?_) (fun c_9 => ?_)
    · rw [i_lt, show (nI 100).toInt = 100 by decide] at c_9
      refine Wp.iconst (v := (nI 0)) dX11_isLineCost_28 (by decide) rfl ?_
      exact Wp.zret dX11_isLineCost_29 rfl (by decide) (q_ret (bI_f (decide_eq_false (by omega))))
    · rw [i_lt, show (nI 100).toInt = 100 by decide] at c_9
      refine Wp.iload_n dX11_isLineCost_12 rfl rfl ?_
      refine Wp.bipush (v := (-20)) dX11_isLineCost_13 (by decide) rfl ?_
      refine Wp.icmp_lt (tgt := 28) (n := 18) dX11_isLineCost_15 (by decide) rfl (fun c_15 => ?_) (fun c_15 => ?_)
      · rw [i_lt, show (-20 : Int32).toInt = -20 by decide] at c_15
        refine Wp.iconst (v := (nI 0)) dX11_isLineCost_28 (by decide) rfl ?_
        exact Wp.zret dX11_isLineCost_29 rfl (by decide) (q_ret (bI_f (decide_eq_false (by omega))))
      · rw [i_lt, show (-20 : Int32).toInt = -20 by decide] at c_15
        refine Wp.iload_n dX11_isLineCost_18 rfl rfl ?_
        refine Wp.bipush (v := (nI 20)) dX11_isLineCost_19 (by decide) rfl ?_
        refine Wp.icmp_gt (tgt := 28) (n := 24) dX11_isLineCost_21 (by decide) rfl (fun c_21 => ?_) (fun c_21 => ?_)
        · rw [i_lt, show (nI 20).toInt = 20 by decide] at c_21
          refine Wp.iconst (v := (nI 0)) dX11_isLineCost_28 (by decide) rfl ?_
          exact Wp.zret dX11_isLineCost_29 rfl (by decide) (q_ret (bI_f (decide_eq_false (by omega))))
        · rw [i_lt, show (nI 20).toInt = 20 by decide] at c_21
          refine Wp.iconst (v := (nI 1)) dX11_isLineCost_24 (by decide) rfl ?_
          refine Wp.goto (n := 29) dX11_isLineCost_25 (by decide) ?_
          exact Wp.zret dX11_isLineCost_29 rfl (by decide) (q_ret (bI_t (decide_eq_true (by omega))))
/-- an Int that a long holds with room to spare -/
def sm (z : Int) : Prop := -4611686018427387904 < z ∧ z < 4611686018427387904
theorem sm_lI {z : Int} (h : sm z) : (lI z).toInt = z := lI_toInt (by have := h.1; omega) (by have := h.2; omega)
theorem c_X11_isLess {B : ev_B} {d : Nat} {h : ev_H} {p q p2 q2 : Int} (h1 : sm (p * q2)) (h2 : sm (p2 * q)) :
    Wp B d M_X11_isLess 0 [some (.long (lI p)), none, some (.long (lI q)), none, some (.long (lI p2)), none, some (.long (lI q2)), none] [] h (fun v h' => v = some (.int (bI (decide (p * q2 < p2 * q)))) ∧ h' = h) := by
  refine Wp.lload_n dX11_isLess_0 rfl rfl ?_
  refine Wp.lload dX11_isLess_1 rfl rfl ?_
  refine Wp.lmul dX11_isLess_3 rfl ?_
  rw [lI_mul]
  refine Wp.lload dX11_isLess_4 rfl rfl ?_
  refine Wp.lload_n dX11_isLess_6 rfl rfl ?_
  refine Wp.lmul dX11_isLess_7 rfl ?_
  rw [lI_mul]
  refine Wp.lcmp_ge (tgt := 16) (n := 12) dX11_isLess_8 rfl dX11_isLess_9 (by decide) rfl (fun c_8 => ?_) (fun c_8 => ?_)
  · rw [l_le, sm_lI h1, sm_lI h2] at c_8
    refine Wp.iconst (v := (nI 0)) dX11_isLess_16 (by decide) rfl ?_
    exact Wp.zret dX11_isLess_17 rfl (by decide) (q_ret (bI_f (decide_eq_false (by omega))))
  · rw [l_le, sm_lI h1, sm_lI h2] at c_8
    refine Wp.iconst (v := (nI 1)) dX11_isLess_12 (by decide) rfl ?_
    refine Wp.goto (n := 17) dX11_isLess_13 (by decide) ?_
    exact Wp.zret dX11_isLess_17 rfl (by decide) (q_ret (bI_t (decide_eq_true (by omega))))
theorem rem_lN {u w : Nat} (hu : u < 4611686018427387904) (hw : w < 4611686018427387904) (h0 : 0 < w) : lN u - lN u / lN w * lN w = lN (u % w) := pk_lRem (by omega) h0 (by omega)
theorem lN_lI (n : Nat) : lN n = lI (n : Int) := by
  unfold lN lI
  exact (Int64.ofInt_eq_ofNat ..).symm
theorem lN_ne0 {w : Nat} (hw : w < 4611686018427387904) : ¬ lN w = 0 ↔ 0 < w := by
  have h := lN_lI 0
  rw [show (0 : Int64) = lI 0 from rfl, lN_lI, lI_eq (by omega) (by omega) (by omega) (by omega)]
  omega
/-- steps that Euclid takes at most, by the second number -/
theorem gcd_step (u w : Nat) (h : 0 < w) : Nat.gcd w (u % w) = Nat.gcd u w := by
  rw [Nat.gcd_comm u w, Nat.gcd_rec w u, Nat.gcd_comm]
set_option maxHeartbeats 1000000 in
theorem c_X12_common {B : ev_B} {d : Nat} {h : ev_H} {a b : Int} (ha : sm a) (hb : sm b) :
    Wp B d M_X12_common 0 [some (.long (lI a)), none, some (.long (lI b)), none, none, none, none, none, none, none] [] h (fun v h' => v = some (.long (lN (Int.gcd a b))) ∧ h' = h) := by
  have loop : ∀ n u w, w ≤ n → u < 4611686018427387904 → w < 4611686018427387904 → ∀ (j0 j2 j8 : Option Value), Wp B d M_X12_common 28 [j0, none, j2, none, some (.long (lN u)), none, some (.long (lN w)), none, j8, none] [] h (fun v h' => v = some (.long (lN (Nat.gcd u w))) ∧ h' = h) := by
    intro n
    induction n with
    | zero =>
      intro u w hn hu hw j0 j2 j8
      have e : w = 0 := by omega
      subst e
      refine Wp.lload dX12_common_28 rfl rfl ?_
      refine Wp.lconst (v := 0) dX12_common_30 (by decide) rfl ?_
      refine Wp.lcmp_eq (tgt := 53) (n := 35) dX12_common_31 rfl dX12_common_32 (by decide) rfl (fun c_31 => ?_) (fun c_31 => ?_)
      · skip
        refine Wp.lload dX12_common_53 rfl rfl ?_
        exact Wp.lret dX12_common_55 rfl (by rw [Nat.gcd_zero_right]; exact ⟨rfl, rfl⟩)
      · skip
        exact absurd rfl c_31
    | succ n ih =>
      intro u w hn hu hw j0 j2 j8
      rcases Nat.eq_zero_or_pos w with e | e
      · subst e
        refine Wp.lload dX12_common_28 rfl rfl ?_
        refine Wp.lconst (v := 0) dX12_common_30 (by decide) rfl ?_
        refine Wp.lcmp_eq (tgt := 53) (n := 35) dX12_common_31 rfl dX12_common_32 (by decide) rfl (fun c_31 => ?_) (fun c_31 => ?_)
        · skip
          refine Wp.lload dX12_common_53 rfl rfl ?_
          exact Wp.lret dX12_common_55 rfl (by rw [Nat.gcd_zero_right]; exact ⟨rfl, rfl⟩)
        · skip
          exact absurd rfl c_31
      · have hlt := Nat.mod_lt u e
        have hne := (lN_ne0 hw).mpr e
        refine Wp.lload dX12_common_28 rfl rfl ?_
        refine Wp.lconst (v := 0) dX12_common_30 (by decide) rfl ?_
        refine Wp.lcmp_eq (tgt := 53) (n := 35) dX12_common_31 rfl dX12_common_32 (by decide) rfl (fun c_31 => ?_) (fun c_31 => ?_)
        · skip
          exact absurd c_31 hne
        · skip
          refine Wp.lload dX12_common_35 rfl rfl ?_
          refine Wp.lload dX12_common_37 rfl rfl ?_
          refine Wp.lrem dX12_common_39 hne rfl ?_
          rw [rem_lN hu hw e]
          refine Wp.lstore dX12_common_40 (Nat.le_of_ble_eq_true rfl) (by dsimp only [ev_st1, ev_st2, ev_cl] <;> rfl) rfl ?_
          refine Wp.lload dX12_common_42 rfl rfl ?_
          refine Wp.lstore dX12_common_44 (Nat.le_of_ble_eq_true rfl) (by dsimp only [ev_st1, ev_st2, ev_cl] <;> rfl) rfl ?_
          refine Wp.lload dX12_common_46 rfl rfl ?_
          refine Wp.lstore dX12_common_48 (Nat.le_of_ble_eq_true rfl) (by dsimp only [ev_st1, ev_st2, ev_cl] <;> rfl) rfl ?_
          refine Wp.goto (n := 28) dX12_common_50 (by decide) ?_
          rw [← gcd_step u w e]
          exact ih w (u % w) (by omega) hw (by omega) _ _ _
  have ea : ∀ z : Int, sm z → (if z < 0 then -z else z) = (z.natAbs : Int) := fun z _ => by split <;> omega
  have fin : ∀ (u w : Nat) (j0 j2 : Option Value), u = a.natAbs → w = b.natAbs → Wp B d M_X12_common 28 [j0, none, j2, none, some (.long (lN u)), none, some (.long (lN w)), none, none, none] [] h (fun v h' => v = some (.long (lN (Int.gcd a b))) ∧ h' = h) := by
    intro u w j0 j2 hu hw
    have h1 := ha.1
    have h2 := ha.2
    have h3 := hb.1
    have h4 := hb.2
    have key := loop w u w (Nat.le_refl _) (by omega) (by omega) j0 j2 none
    rw [hu, hw] at key ⊢
    exact key
  have hab : ∀ z : Int, 0 ≤ z → lI z = lN z.natAbs := fun z hz => by rw [lN_lI]; congr 1; omega
  have hneg : ∀ z : Int, z < 0 → -lI z = lN z.natAbs := fun z hz => by rw [lN_lI, lI_neg]; congr 1; omega
  refine Wp.lload_n dX12_common_0 rfl rfl ?_
  refine Wp.lconst (v := 0) dX12_common_1 (by decide) rfl ?_
  refine Wp.lcmp_ge (tgt := 11) (n := 6) dX12_common_2 rfl dX12_common_3 (by decide) rfl (fun c_2 => ?_) (fun c_2 => ?_)
  · rw [l_le, l_0, sm_lI ha] at c_2
    refine Wp.lload_n dX12_common_11 rfl rfl ?_
    rw [hab a (by omega)]
    refine Wp.lstore dX12_common_12 (Nat.le_of_ble_eq_true rfl) (by dsimp only [ev_st1, ev_st2, ev_cl] <;> rfl) rfl ?_
    refine Wp.lload_n dX12_common_14 rfl rfl ?_
    refine Wp.lconst (v := 0) dX12_common_15 (by decide) rfl ?_
    refine Wp.lcmp_ge (tgt := 25) (n := 20) dX12_common_16 rfl dX12_common_17 (by decide) rfl (fun c_16 => ?_) (fun c_16 => ?_)
    · rw [l_le, l_0, sm_lI hb] at c_16
      refine Wp.lload_n dX12_common_25 rfl rfl ?_
      rw [hab b (by omega)]
      refine Wp.lstore dX12_common_26 (Nat.le_of_ble_eq_true rfl) (by dsimp only [ev_st1, ev_st2, ev_cl] <;> rfl) rfl ?_
      exact fin _ _ _ _ rfl rfl
    · rw [l_le, l_0, sm_lI hb] at c_16
      refine Wp.lload_n dX12_common_20 rfl rfl ?_
      refine Wp.lneg dX12_common_21 rfl ?_
      rw [hneg b (by omega)]
      refine Wp.goto (n := 26) dX12_common_22 (by decide) ?_
      refine Wp.lstore dX12_common_26 (Nat.le_of_ble_eq_true rfl) (by dsimp only [ev_st1, ev_st2, ev_cl] <;> rfl) rfl ?_
      exact fin _ _ _ _ rfl rfl
  · rw [l_le, l_0, sm_lI ha] at c_2
    refine Wp.lload_n dX12_common_6 rfl rfl ?_
    refine Wp.lneg dX12_common_7 rfl ?_
    rw [hneg a (by omega)]
    refine Wp.goto (n := 12) dX12_common_8 (by decide) ?_
    refine Wp.lstore dX12_common_12 (Nat.le_of_ble_eq_true rfl) (by dsimp only [ev_st1, ev_st2, ev_cl] <;> rfl) rfl ?_
    refine Wp.lload_n dX12_common_14 rfl rfl ?_
    refine Wp.lconst (v := 0) dX12_common_15 (by decide) rfl ?_
    refine Wp.lcmp_ge (tgt := 25) (n := 20) dX12_common_16 rfl dX12_common_17 (by decide) rfl (fun c_16 => ?_) (fun c_16 => ?_)
    · rw [l_le, l_0, sm_lI hb] at c_16
      refine Wp.lload_n dX12_common_25 rfl rfl ?_
      rw [hab b (by omega)]
      refine Wp.lstore dX12_common_26 (Nat.le_of_ble_eq_true rfl) (by dsimp only [ev_st1, ev_st2, ev_cl] <;> rfl) rfl ?_
      exact fin _ _ _ _ rfl rfl
    · rw [l_le, l_0, sm_lI hb] at c_16
      refine Wp.lload_n dX12_common_20 rfl rfl ?_
      refine Wp.lneg dX12_common_21 rfl ?_
      rw [hneg b (by omega)]
      refine Wp.goto (n := 26) dX12_common_22 (by decide) ?_
      refine Wp.lstore dX12_common_26 (Nat.le_of_ble_eq_true rfl) (by dsimp only [ev_st1, ev_st2, ev_cl] <;> rfl) rfl ?_
      exact fin _ _ _ _ rfl rfl
