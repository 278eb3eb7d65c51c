/-! the reference: offers, sets that are choices, gathering them -/
theorem c_X12_isOffer {B : ev_B} {d x : Nat} {h : ev_H} {V : Nat → Value} {G : Nat → Nat → Int32} {Z : Nat → Nat → Int64} {σ : Sg} {o : Int32} (hM : MH h x V G Z) (hP : PM σ V G Z) (hW : Wf σ) (hd : 1 ≤ d) :
    Wp B d M_X12_isOffer 0 [some (.ref x), some (.int (o))] [] h (fun v h' => v = some (.int (bI (decide (0 ≤ o.toInt ∧ o.toInt < σ.n)))) ∧ h' = h) := by
  have hn := hW.n
  refine Wp.iload_n dX12_isOffer_0 rfl rfl ?_
  refine Wp.iconst (v := (nI 0)) dX12_isOffer_1 (by decide) rfl ?_
  refine Wp.aload_n dX12_isOffer_2 rfl (by first | exact Or.inr ⟨_, rfl⟩ | exact Or.inl rfl) rfl ?_
  refine Wp.get dX12_isOffer_3 fl_X12_89 hM.ob hP.nn rfl ?_
  refine Wp.iconst (v := (nI 1)) dX12_isOffer_6 (by decide) rfl ?_
  refine Wp.isub dX12_isOffer_7 rfl ?_
  refine Wp.cS dX12_isOffer_8 cs_X12_85 rfl (by omega) rfl (Nat.le_of_ble_eq_true rfl) (Nat.le_of_ble_eq_true rfl) rfl (c_X12_in (d := d - 1)) ?_
  rintro _ h_ ⟨rfl, e_⟩
  rw [e_]
  clear e_ h_
  dsimp only [Option.toList, List.drop, List.cons_append, List.nil_append]
  rw [nI_m1 (by omega), show (nI 0).toInt = 0 by decide, show (decide (0 ≤ o.toInt ∧ o.toInt ≤ (σ.n : Int) - 1)) = decide (0 ≤ o.toInt ∧ o.toInt < σ.n) from decide_eq_decide.mpr (by omega)]
  exact Wp.bret dX12_isOffer_11 rfl (by exact ⟨rfl, rfl⟩)
theorem nI_8 {o k : Nat} (ho : o < 10) (hk : k < 100) : (nI 8 * nI o + nI k).toInt = ((8 * o + k : Nat) : Int) := by
  rw [pk_mul, nI_add]; exact nI_toInt (by omega)
theorem c_X12_isTold {B : ev_B} {d x : Nat} {h : ev_H} {V : Nat → Value} {G : Nat → Nat → Int32} {Z : Nat → Nat → Int64} {σ : Sg} {o s : Nat} (hM : MH h x V G Z) (hP : PM σ V G Z) (hW : Wf σ) (ho : o < σ.n) (hs : s < 4096) :
    Wp B d M_X12_isTold 0 [some (.ref x), some (.int (nI o)), some (.int (nI s)), none, none] [] h (fun v h' => v = some (.int (bI (tldB (σ.O o).su s (σ.O o).m))) ∧ h' = h) := by
  have hn := hW.n
  have hO := hP.of o ho
  have hOw := hW.of o ho
  have hm := hOw.m
  have loop : ∀ i, i ≤ (σ.O o).m → Wp B d M_X12_isTold 5 [some (.ref x), some (.int (nI o)), some (.int (nI s)), some (.int (bI (tldB (σ.O o).su s i))), some (.int (nI i))] [] h (fun v h' => v = some (.int (bI (tldB (σ.O o).su s (σ.O o).m))) ∧ h' = h) := by
    refine ev_upl (σ.O o).m (fun i hi ih => ?_) ?_
    · refine Wp.iload dX12_isTold_5 rfl rfl ?_
      refine Wp.aload_n dX12_isTold_7 rfl (by first | exact Or.inr ⟨_, rfl⟩ | exact Or.inl rfl) rfl ?_
      refine Wp.get dX12_isTold_8 fl_X12_25 hM.ob (hM.rf 7 (by decide)) rfl ?_
      refine Wp.iload_n dX12_isTold_11 rfl rfl ?_
      refine Wp.iaload dX12_isTold_12 (hM.ia 7 (by decide)) (nI_toInt (by omega)) (by show _ < 10; omega) rfl ?_
      rw [hO.m]
      refine Wp.icmp_ge (tgt := 48) (n := 16) dX12_isTold_13 (by decide) rfl (fun c_13 => ?_) (fun c_13 => ?_)
      · try simp (disch := omega) only [nI_bit0, nI_bit1, Bool.not_eq_false, Bool.not_eq_true] at c_13
        try simp (disch := omega) only [i_lt, i_le, i_eq, l_lt, l_le, l_eq, i_0, i_m1, l_0, nI_tI, iI_tI, lI_tI, Int.not_lt, Int.not_le] at c_13
        omega
      · try simp (disch := omega) only [nI_bit0, nI_bit1, Bool.not_eq_false, Bool.not_eq_true] at c_13
        try simp (disch := omega) only [i_lt, i_le, i_eq, l_lt, l_le, l_eq, i_0, i_m1, l_0, nI_tI, iI_tI, lI_tI, Int.not_lt, Int.not_le] at c_13
        refine Wp.iload_n dX12_isTold_16 rfl rfl ?_
        refine Wp.bif_ne (tgt := 36) (n := 20) dX12_isTold_17 (by decide) rfl (fun c_17 => ?_) (fun c_17 => ?_)
        · refine Wp.iconst (v := (nI 1)) dX12_isTold_36 (by decide) rfl ?_
          refine Wp.goto (n := 41) dX12_isTold_37 (by decide) ?_
          refine Wp.istore_n dX12_isTold_41 (Nat.le_of_ble_eq_true rfl) (by dsimp only [ev_st1, ev_st2, ev_cl] <;> rfl) rfl ?_
          refine Wp.iinc (v := _ + (nI 1)) dX12_isTold_42 rfl rfl (Nat.le_of_ble_eq_true rfl) (by dsimp only [ev_st1, ev_cl] <;> rfl) rfl ?_
          refine Wp.goto (n := 5) dX12_isTold_45 (by decide) ?_
          rw [nI_add1]
          simp [tldB, bI_true, bI_false, *] at ih
          exact ih
        · refine Wp.aload_n dX12_isTold_20 rfl (by first | exact Or.inr ⟨_, rfl⟩ | exact Or.inl rfl) rfl ?_
          refine Wp.get dX12_isTold_21 fl_X12_28 hM.ob (hM.rf 8 (by decide)) rfl ?_
          refine Wp.bipush (v := (nI 8)) dX12_isTold_24 (by decide) rfl ?_
          refine Wp.iload_n dX12_isTold_26 rfl rfl ?_
          refine Wp.imul dX12_isTold_27 rfl ?_
          refine Wp.iload dX12_isTold_28 rfl rfl ?_
          refine Wp.iadd dX12_isTold_30 rfl ?_
          refine Wp.iaload dX12_isTold_31 (hM.ia 8 (by decide)) (nI_8 (by omega) (by omega)) (by show _ < 80; omega) rfl ?_
          rw [hO.su i hi]
          refine Wp.iload_n dX12_isTold_32 rfl rfl ?_
          refine Wp.icmp_ne (tgt := 40) (n := 36) dX12_isTold_33 (by decide) rfl (fun c_33 => ?_) (fun c_33 => ?_)
          · rw [nI_eq (by have := hOw.su i hi; omega) (by omega)] at c_33
            refine Wp.iconst (v := (nI 0)) dX12_isTold_40 (by decide) rfl ?_
            refine Wp.istore_n dX12_isTold_41 (Nat.le_of_ble_eq_true rfl) (by dsimp only [ev_st1, ev_st2, ev_cl] <;> rfl) rfl ?_
            refine Wp.iinc (v := _ + (nI 1)) dX12_isTold_42 rfl rfl (Nat.le_of_ble_eq_true rfl) (by dsimp only [ev_st1, ev_cl] <;> rfl) rfl ?_
            refine Wp.goto (n := 5) dX12_isTold_45 (by decide) ?_
            rw [nI_add1]
            simp [tldB, bI_true, bI_false, *] at ih
            exact ih
          · rw [nI_eq (by have := hOw.su i hi; omega) (by omega)] at c_33
            refine Wp.iconst (v := (nI 1)) dX12_isTold_36 (by decide) rfl ?_
            refine Wp.goto (n := 41) dX12_isTold_37 (by decide) ?_
            refine Wp.istore_n dX12_isTold_41 (Nat.le_of_ble_eq_true rfl) (by dsimp only [ev_st1, ev_st2, ev_cl] <;> rfl) rfl ?_
            refine Wp.iinc (v := _ + (nI 1)) dX12_isTold_42 rfl rfl (Nat.le_of_ble_eq_true rfl) (by dsimp only [ev_st1, ev_cl] <;> rfl) rfl ?_
            refine Wp.goto (n := 5) dX12_isTold_45 (by decide) ?_
            rw [nI_add1]
            simp [tldB, bI_true, bI_false, *] at ih
            exact ih
    · refine Wp.iload dX12_isTold_5 rfl rfl ?_
      refine Wp.aload_n dX12_isTold_7 rfl (by first | exact Or.inr ⟨_, rfl⟩ | exact Or.inl rfl) rfl ?_
      refine Wp.get dX12_isTold_8 fl_X12_25 hM.ob (hM.rf 7 (by decide)) rfl ?_
      refine Wp.iload_n dX12_isTold_11 rfl rfl ?_
      refine Wp.iaload dX12_isTold_12 (hM.ia 7 (by decide)) (nI_toInt (by omega)) (by show _ < 10; omega) rfl ?_
      rw [hO.m]
      refine Wp.icmp_ge (tgt := 48) (n := 16) dX12_isTold_13 (by decide) rfl (fun c_13 => ?_) (fun c_13 => ?_)
      · try simp (disch := omega) only [nI_bit0, nI_bit1, Bool.not_eq_false, Bool.not_eq_true] at c_13
        try simp (disch := omega) only [i_lt, i_le, i_eq, l_lt, l_le, l_eq, i_0, i_m1, l_0, nI_tI, iI_tI, lI_tI, Int.not_lt, Int.not_le] at c_13
        refine Wp.iload_n dX12_isTold_48 rfl rfl ?_
        exact Wp.bret dX12_isTold_49 rfl (by exact ⟨rfl, rfl⟩)
      · try simp (disch := omega) only [nI_bit0, nI_bit1, Bool.not_eq_false, Bool.not_eq_true] at c_13
        try simp (disch := omega) only [i_lt, i_le, i_eq, l_lt, l_le, l_eq, i_0, i_m1, l_0, nI_tI, iI_tI, lI_tI, Int.not_lt, Int.not_le] at c_13
        omega
  refine Wp.iconst (v := (nI 0)) dX12_isTold_0 (by decide) rfl ?_
  refine Wp.istore_n dX12_isTold_1 (Nat.le_of_ble_eq_true rfl) (by dsimp only [ev_st1, ev_st2, ev_cl] <;> rfl) rfl ?_
  refine Wp.iconst (v := (nI 0)) dX12_isTold_2 (by decide) rfl ?_
  refine Wp.istore dX12_isTold_3 (Nat.le_of_ble_eq_true rfl) (by dsimp only [ev_st1, ev_st2, ev_cl] <;> rfl) rfl ?_
  exact loop 0 (by omega)
theorem chB_no {N : Nt} {o : Of} {s : Nat} (h : ¬ s < 2 ^ N.L) : chB N o s = false := by simp [chB, h]
theorem chB_1 {N : Nt} {o : Of} {s : Nat} (h : s < 2 ^ N.L) (hk : o.k = 1) : chB N o s = trB N.fr N.to N.T N.L s := by simp [chB, h, hk]
theorem chB_2 {N : Nt} {o : Of} {s : Nat} (h : s < 2 ^ N.L) (hk : o.k = 2) : chB N o s = wayM N.fr N.to N.L o.s 128 o.f s (2 ^ o.f) := by simp [chB, h, hk]
theorem chB_3 {N : Nt} {o : Of} {s : Nat} (h : s < 2 ^ N.L) (hk : o.k = 3) : chB N o s = prB N.fr N.to N.T N.L s o.f := by simp [chB, h, hk]
theorem chB_0 {N : Nt} {o : Of} {s : Nat} (h : s < 2 ^ N.L) (hk : o.k = 0) : chB N o s = tldB o.su s o.m := by simp [chB, h, hk]
theorem c_X12_isChoice {B : ev_B} {d x : Nat} {h : ev_H} {V : Nat → Value} {G : Nat → Nat → Int32} {Z : Nat → Nat → Int64} {σ : Sg} {o s : Nat} (hM : MH h x V G Z) (hP : PM σ V G Z) (hW : Wf σ) (ho : o < σ.n) (hs : s < 4096) (hd : 3 ≤ d) :
    Wp B d M_X12_isChoice 0 [some (.ref x), some (.int (nI o)), some (.int (nI s))] [] h (fun v h' => v = some (.int (bI (chB σ.N (σ.O o) s))) ∧ h' = h) := by
  have hn := hW.n
  have hO := hP.of o ho
  have hOw := hW.of o ho
  have hNw := hW.net
  have hT := hNw.1
  have hL := hNw.2.1
  have h12 : 2 ^ σ.N.L ≤ 2 ^ 12 := Nat.pow_le_pow_right (by decide) hL
  have hp := pow_T hT
  have step : s < 2 ^ σ.N.L → Wp B d M_X12_isChoice 14 [some (.ref x), some (.int (nI o)), some (.int (nI s))] [] h (fun v h' => v = some (.int (bI (chB σ.N (σ.O o) s))) ∧ h' = h) := by
    intro hlt
    have hk3 := hOw.k
    have hkk : (σ.O o).k = 0 ∨ (σ.O o).k = 1 ∨ (σ.O o).k = 2 ∨ (σ.O o).k = 3 := by omega
    rcases hkk with hk | hk | hk | hk
    · skip
      refine Wp.aload_n dX12_isChoice_14 rfl (by first | exact Or.inr ⟨_, rfl⟩ | exact Or.inl rfl) rfl ?_
      refine Wp.get dX12_isChoice_15 fl_X12_16 hM.ob (hM.rf 4 (by decide)) rfl ?_
      refine Wp.iload_n dX12_isChoice_18 rfl rfl ?_
      refine Wp.iaload dX12_isChoice_19 (hM.ia 4 (by decide)) (nI_toInt (by omega)) (by show _ < 10; omega) rfl ?_
      rw [hO.k, hk]
      refine Wp.tswOut (n := 84) dX12_isChoice_20 (by decide) (by decide) ?_
      refine Wp.aload_n dX12_isChoice_84 rfl (by first | exact Or.inr ⟨_, rfl⟩ | exact Or.inl rfl) rfl ?_
      refine Wp.iload_n dX12_isChoice_85 rfl rfl ?_
      refine Wp.iload_n dX12_isChoice_86 rfl rfl ?_
      refine Wp.cV dX12_isChoice_87 cv_X12_147 rfl (by omega) rfl (Nat.le_of_ble_eq_true rfl) (Nat.le_of_ble_eq_true rfl) hM.ob rfl (c_X12_isTold (d := d - 1) hM hP hW ho hs) ?_
      rintro _ h_ ⟨rfl, e_⟩
      rw [e_]
      clear e_ h_
      dsimp only [Option.toList, List.drop, List.cons_append, List.nil_append]
      exact Wp.bret dX12_isChoice_90 rfl (by rw [chB_0 hlt hk]; exact ⟨rfl, rfl⟩)
    · skip
      refine Wp.aload_n dX12_isChoice_14 rfl (by first | exact Or.inr ⟨_, rfl⟩ | exact Or.inl rfl) rfl ?_
      refine Wp.get dX12_isChoice_15 fl_X12_16 hM.ob (hM.rf 4 (by decide)) rfl ?_
      refine Wp.iload_n dX12_isChoice_18 rfl rfl ?_
      refine Wp.iaload dX12_isChoice_19 (hM.ia 4 (by decide)) (nI_toInt (by omega)) (by show _ < 10; omega) rfl ?_
      rw [hO.k, hk]
      refine Wp.tswIn (off := 28) (n := 48) dX12_isChoice_20 (by decide) (by decide) (by decide) (by decide) ?_
      refine Wp.aload_n dX12_isChoice_48 rfl (by first | exact Or.inr ⟨_, rfl⟩ | exact Or.inl rfl) rfl ?_
      refine Wp.iload_n dX12_isChoice_49 rfl rfl ?_
      refine Wp.cV dX12_isChoice_50 cv_X12_138 rfl (by omega) rfl (Nat.le_of_ble_eq_true rfl) (Nat.le_of_ble_eq_true rfl) hM.ob rfl (c_X12_isTree (d := d - 1) (hM.net hP.net) hW.net hs (by omega)) ?_
      rintro _ h_ ⟨rfl, e_⟩
      rw [e_]
      clear e_ h_
      dsimp only [Option.toList, List.drop, List.cons_append, List.nil_append]
      exact Wp.bret dX12_isChoice_53 rfl (by rw [chB_1 hlt hk]; exact ⟨rfl, rfl⟩)
    · have hwy := hOw.wy hk
      refine Wp.aload_n dX12_isChoice_14 rfl (by first | exact Or.inr ⟨_, rfl⟩ | exact Or.inl rfl) rfl ?_
      refine Wp.get dX12_isChoice_15 fl_X12_16 hM.ob (hM.rf 4 (by decide)) rfl ?_
      refine Wp.iload_n dX12_isChoice_18 rfl rfl ?_
      refine Wp.iaload dX12_isChoice_19 (hM.ia 4 (by decide)) (nI_toInt (by omega)) (by show _ < 10; omega) rfl ?_
      rw [hO.k, hk]
      refine Wp.tswIn (off := 34) (n := 54) dX12_isChoice_20 (by decide) (by decide) (by decide) (by decide) ?_
      refine Wp.aload_n dX12_isChoice_54 rfl (by first | exact Or.inr ⟨_, rfl⟩ | exact Or.inl rfl) rfl ?_
      refine Wp.iload_n dX12_isChoice_55 rfl rfl ?_
      refine Wp.aload_n dX12_isChoice_56 rfl (by first | exact Or.inr ⟨_, rfl⟩ | exact Or.inl rfl) rfl ?_
      refine Wp.get dX12_isChoice_57 fl_X12_19 hM.ob (hM.rf 5 (by decide)) rfl ?_
      refine Wp.iload_n dX12_isChoice_60 rfl rfl ?_
      refine Wp.iaload dX12_isChoice_61 (hM.ia 5 (by decide)) (nI_toInt (by omega)) (by show _ < 10; omega) rfl ?_
      rw [hO.f]
      refine Wp.aload_n dX12_isChoice_62 rfl (by first | exact Or.inr ⟨_, rfl⟩ | exact Or.inl rfl) rfl ?_
      refine Wp.get dX12_isChoice_63 fl_X12_22 hM.ob (hM.rf 6 (by decide)) rfl ?_
      refine Wp.iload_n dX12_isChoice_66 rfl rfl ?_
      refine Wp.iaload dX12_isChoice_67 (hM.ia 6 (by decide)) (nI_toInt (by omega)) (by show _ < 10; omega) rfl ?_
      rw [hO.s]
      refine Wp.cV dX12_isChoice_68 cv_X12_141 rfl (by omega) rfl (Nat.le_of_ble_eq_true rfl) (Nat.le_of_ble_eq_true rfl) hM.ob rfl (c_X12_isWay (d := d - 1) (hM.net hP.net) hW.net hs hwy.1 hwy.2.1 (by omega)) ?_
      rintro _ h_ ⟨rfl, e_⟩
      rw [e_]
      clear e_ h_
      dsimp only [Option.toList, List.drop, List.cons_append, List.nil_append]
      exact Wp.bret dX12_isChoice_71 rfl (by rw [chB_2 hlt hk]; exact ⟨rfl, rfl⟩)
    · have hpr := hOw.pr hk
      refine Wp.aload_n dX12_isChoice_14 rfl (by first | exact Or.inr ⟨_, rfl⟩ | exact Or.inl rfl) rfl ?_
      refine Wp.get dX12_isChoice_15 fl_X12_16 hM.ob (hM.rf 4 (by decide)) rfl ?_
      refine Wp.iload_n dX12_isChoice_18 rfl rfl ?_
      refine Wp.iaload dX12_isChoice_19 (hM.ia 4 (by decide)) (nI_toInt (by omega)) (by show _ < 10; omega) rfl ?_
      rw [hO.k, hk]
      refine Wp.tswIn (off := 52) (n := 72) dX12_isChoice_20 (by decide) (by decide) (by decide) (by decide) ?_
      refine Wp.aload_n dX12_isChoice_72 rfl (by first | exact Or.inr ⟨_, rfl⟩ | exact Or.inl rfl) rfl ?_
      refine Wp.iload_n dX12_isChoice_73 rfl rfl ?_
      refine Wp.aload_n dX12_isChoice_74 rfl (by first | exact Or.inr ⟨_, rfl⟩ | exact Or.inl rfl) rfl ?_
      refine Wp.get dX12_isChoice_75 fl_X12_19 hM.ob (hM.rf 5 (by decide)) rfl ?_
      refine Wp.iload_n dX12_isChoice_78 rfl rfl ?_
      refine Wp.iaload dX12_isChoice_79 (hM.ia 5 (by decide)) (nI_toInt (by omega)) (by show _ < 10; omega) rfl ?_
      rw [hO.f]
      refine Wp.cV dX12_isChoice_80 cv_X12_144 rfl (by omega) rfl (Nat.le_of_ble_eq_true rfl) (Nat.le_of_ble_eq_true rfl) hM.ob rfl (c_X12_isPairing (d := d - 1) (hM.net hP.net) hW.net hs (by omega) (by omega)) ?_
      rintro _ h_ ⟨rfl, e_⟩
      rw [e_]
      clear e_ h_
      dsimp only [Option.toList, List.drop, List.cons_append, List.nil_append]
      exact Wp.bret dX12_isChoice_83 rfl (by rw [chB_3 hlt hk]; exact ⟨rfl, rfl⟩)
  have hb1 : 1 ≤ 2 ^ σ.N.L := Nat.one_le_two_pow
  refine Wp.iload_n dX12_isChoice_0 rfl rfl ?_
  refine Wp.iconst (v := (nI 0)) dX12_isChoice_1 (by decide) rfl ?_
  refine Wp.aload_n dX12_isChoice_2 rfl (by first | exact Or.inr ⟨_, rfl⟩ | exact Or.inl rfl) rfl ?_
  refine Wp.cV dX12_isChoice_3 cv_X12_135 rfl (by omega) rfl (Nat.le_of_ble_eq_true rfl) (Nat.le_of_ble_eq_true rfl) hM.ob rfl (c_X12_allLines (d := d - 1) (hM.net hP.net) hW.net (by omega)) ?_
  rintro _ h_ ⟨rfl, e_⟩
  rw [e_]
  clear e_ h_
  dsimp only [Option.toList, List.drop, List.cons_append, List.nil_append]
  refine Wp.cS dX12_isChoice_6 cs_X12_85 rfl (by omega) rfl (Nat.le_of_ble_eq_true rfl) (Nat.le_of_ble_eq_true rfl) rfl (c_X12_in (d := d - 1)) ?_
  rintro _ h_ ⟨rfl, e_⟩
  rw [e_]
  clear e_ h_
  dsimp only [Option.toList, List.drop, List.cons_append, List.nil_append]
  rw [nI_tI (by omega), nI_tI (by omega), nI_tI (by omega)]
  refine Wp.bif_ne (tgt := 14) (n := 12) dX12_isChoice_9 (by decide) rfl (fun c_9 => ?_) (fun c_9 => ?_)
  · have hlt : s < 2 ^ σ.N.L := by have := of_decide_eq_true c_9; omega
    exact step hlt
  · have hlt : ¬ s < 2 ^ σ.N.L := by have := of_decide_eq_false c_9; omega
    refine Wp.iconst (v := (nI 0)) dX12_isChoice_12 (by decide) rfl ?_
    exact Wp.zret dX12_isChoice_13 rfl (by decide) (by rw [chB_no hlt]; exact ⟨rfl, rfl⟩)
set_option maxHeartbeats 1000000 in
theorem c_X12_gathers {B : ev_B} {d x : Nat} {h : ev_H} {V : Nat → Value} {G : Nat → Nat → Int32} {Z : Nat → Nat → Int64} {σ : Sg} {o : Nat} (hM : MH h x V G Z) (hP : PM σ V G Z) (hW : Wf σ) (ho : o < σ.n) (hd : 4 ≤ d) :
    Wp B d M_X12_gathers 0 [some (.ref x), some (.int (nI o)), none, none] [] h (fun v h' => v = none ∧ ∃ V' G', MH h' x V' G' Z ∧ Out x h h' ∧ Kp V G Z V' G' Z ∧ V' 20 = .int (nI (chL σ.N (σ.O o)).length) ∧ AH σ.N (chL σ.N (σ.O o)) (G' 21) (G' 22) (G' 23)) := by
  have hn := hW.n
  have loop : ∀ i, i ≤ 4096 → ∀ (hh : ev_H) (Vi : Nat → Value) (Gi : Nat → Nat → Int32), MH hh x Vi Gi Z → Out x h hh → Kp V G Z Vi Gi Z → Vi 20 = .int (nI (gl σ.N (σ.O o) i).length) → AH σ.N (gl σ.N (σ.O o) i) (Gi 21) (Gi 22) (Gi 23) → ∀ j3 : Option Value, Wp B d M_X12_gathers 7 [some (.ref x), some (.int (nI o)), some (.int (nI i)), j3] [] hh (fun v h' => v = none ∧ ∃ V' G', MH h' x V' G' Z ∧ Out x h h' ∧ Kp V G Z V' G' Z ∧ V' 20 = .int (nI (chL σ.N (σ.O o)).length) ∧ AH σ.N (chL σ.N (σ.O o)) (G' 21) (G' 22) (G' 23)) := by
    refine ev_upl 4096 (fun i hi ih => ?_) ?_
    · intro hh Vi Gi hMi hOi hKi hci hAi j3
      refine Wp.iload_n dX12_gathers_7 rfl rfl ?_
      refine Wp.sipush (v := (nI 4096)) dX12_gathers_8 (by decide) rfl ?_
      refine Wp.icmp_ge (tgt := 82) (n := 14) dX12_gathers_11 (by decide) rfl (fun c_11 => ?_) (fun c_11 => ?_)
      · try simp (disch := omega) only [nI_bit0, nI_bit1, Bool.not_eq_false, Bool.not_eq_true] at c_11
        try simp (disch := omega) only [i_lt, i_le, i_eq, l_lt, l_le, l_eq, i_0, i_m1, l_0, nI_tI, iI_tI, lI_tI, Int.not_lt, Int.not_le] at c_11
        omega
      · try simp (disch := omega) only [nI_bit0, nI_bit1, Bool.not_eq_false, Bool.not_eq_true] at c_11
        try simp (disch := omega) only [i_lt, i_le, i_eq, l_lt, l_le, l_eq, i_0, i_m1, l_0, nI_tI, iI_tI, lI_tI, Int.not_lt, Int.not_le] at c_11
        refine Wp.iload_n dX12_gathers_14 rfl rfl ?_
        refine Wp.cS dX12_gathers_15 cs_X12_153 rfl (by omega) rfl (Nat.le_of_ble_eq_true rfl) (Nat.le_of_ble_eq_true rfl) rfl (c_X12_ordered (d := d - 1) (k := i) hi) ?_
        rintro _ h_ ⟨rfl, e_⟩
        rw [e_]
        clear e_ h_
        dsimp only [Option.toList, List.drop, List.cons_append, List.nil_append]
        have hPi := hP.kp hKi
        have hlen := gl_len σ.N (σ.O o) i
        have hs := ordM_lt i 12 (by decide)
        revert hs
        obtain ⟨S, hS⟩ : ∃ S, ordM i 12 = S := ⟨_, rfl⟩
        rw [hS]
        intro hs
        refine Wp.istore_n dX12_gathers_18 (Nat.le_of_ble_eq_true rfl) (by dsimp only [ev_st1, ev_st2, ev_cl] <;> rfl) rfl ?_
        refine Wp.aload_n dX12_gathers_19 rfl (by first | exact Or.inr ⟨_, rfl⟩ | exact Or.inl rfl) rfl ?_
        refine Wp.iload_n dX12_gathers_20 rfl rfl ?_
        refine Wp.iload_n dX12_gathers_21 rfl rfl ?_
        refine Wp.cV dX12_gathers_22 cv_X12_156 rfl (by omega) rfl (Nat.le_of_ble_eq_true rfl) (Nat.le_of_ble_eq_true rfl) hMi.ob rfl (c_X12_isChoice (d := d - 1) hMi hPi hW ho hs (by omega)) ?_
        rintro _ h_ ⟨rfl, e_⟩
        rw [e_]
        clear e_ h_
        dsimp only [Option.toList, List.drop, List.cons_append, List.nil_append]
        refine Wp.bif_eq (tgt := 76) (n := 28) dX12_gathers_25 (by decide) rfl (fun c_25 => ?_) (fun c_25 => ?_)
        · refine Wp.iinc (v := _ + (nI 1)) dX12_gathers_76 rfl rfl (Nat.le_of_ble_eq_true rfl) (by dsimp only [ev_st1, ev_cl] <;> rfl) rfl ?_
          refine Wp.goto (n := 7) dX12_gathers_79 (by decide) ?_
          rw [nI_add1]
          rw [gl_succ, hS, if_neg (by simp [c_25])] at ih
          exact ih _ _ _ hMi hOi hKi hci hAi _
        · refine Wp.aload_n dX12_gathers_28 rfl (by first | exact Or.inr ⟨_, rfl⟩ | exact Or.inl rfl) rfl ?_
          refine Wp.get dX12_gathers_29 fl_X12_57 hMi.ob (hMi.rf 21 (by decide)) rfl ?_
          refine Wp.aload_n dX12_gathers_32 rfl (by first | exact Or.inr ⟨_, rfl⟩ | exact Or.inl rfl) rfl ?_
          refine Wp.get dX12_gathers_33 fl_X12_150 hMi.ob hci rfl ?_
          refine Wp.iload_n dX12_gathers_36 rfl rfl ?_
          refine Wp.iastore dX12_gathers_37 (hMi.ia 21 (by decide)) (nI_toInt (by omega)) (by show _ < 4096; omega) rfl ?_
          refine hMi.sti (k := 21) (by decide) ?_
          intro h37 G37 hM37 o37 e37 f37
          have out37 := hOi.trans o37
          have hP37 := hPi.scG (by decide : 20 ≤ 21) f37
          have kp37 := hKi.scG (by decide : 20 ≤ 21) f37
          refine Wp.aload_n dX12_gathers_38 rfl (by first | exact Or.inr ⟨_, rfl⟩ | exact Or.inl rfl) rfl ?_
          refine Wp.get dX12_gathers_39 fl_X12_60 hM37.ob (hM37.rf 22 (by decide)) rfl ?_
          refine Wp.aload_n dX12_gathers_42 rfl (by first | exact Or.inr ⟨_, rfl⟩ | exact Or.inl rfl) rfl ?_
          refine Wp.get dX12_gathers_43 fl_X12_150 hM37.ob hci rfl ?_
          refine Wp.aload_n dX12_gathers_46 rfl (by first | exact Or.inr ⟨_, rfl⟩ | exact Or.inl rfl) rfl ?_
          refine Wp.iload_n dX12_gathers_47 rfl rfl ?_
          refine Wp.cV dX12_gathers_48 cv_X12_159 rfl (by omega) rfl (Nat.le_of_ble_eq_true rfl) (Nat.le_of_ble_eq_true rfl) hM37.ob rfl (c_X12_startOf (d := d - 1) (hM37.net hP37.net) hW.net hs (by omega)) ?_
          rintro _ h_ ⟨rfl, e_⟩
          rw [e_]
          clear e_ h_
          dsimp only [Option.toList, List.drop, List.cons_append, List.nil_append]
          refine Wp.iastore dX12_gathers_51 (hM37.ia 22 (by decide)) (nI_toInt (by omega)) (by show _ < 4096; omega) rfl ?_
          refine hM37.sti (k := 22) (by decide) ?_
          intro h51 G51 hM51 o51 e51 f51
          have out51 := out37.trans o51
          have hP51 := hP37.scG (by decide : 20 ≤ 22) f51
          have kp51 := kp37.scG (by decide : 20 ≤ 22) f51
          refine Wp.aload_n dX12_gathers_52 rfl (by first | exact Or.inr ⟨_, rfl⟩ | exact Or.inl rfl) rfl ?_
          refine Wp.get dX12_gathers_53 fl_X12_63 hM51.ob (hM51.rf 23 (by decide)) rfl ?_
          refine Wp.aload_n dX12_gathers_56 rfl (by first | exact Or.inr ⟨_, rfl⟩ | exact Or.inl rfl) rfl ?_
          refine Wp.get dX12_gathers_57 fl_X12_150 hM51.ob hci rfl ?_
          refine Wp.aload_n dX12_gathers_60 rfl (by first | exact Or.inr ⟨_, rfl⟩ | exact Or.inl rfl) rfl ?_
          refine Wp.iload_n dX12_gathers_61 rfl rfl ?_
          refine Wp.cV dX12_gathers_62 cv_X12_162 rfl (by omega) rfl (Nat.le_of_ble_eq_true rfl) (Nat.le_of_ble_eq_true rfl) hM51.ob rfl (c_X12_riseOf (d := d - 1) (hM51.net hP51.net) hW.net hs (by omega)) ?_
          rintro _ h_ ⟨rfl, e_⟩
          rw [e_]
          clear e_ h_
          dsimp only [Option.toList, List.drop, List.cons_append, List.nil_append]
          refine Wp.iastore dX12_gathers_65 (hM51.ia 23 (by decide)) (nI_toInt (by omega)) (by show _ < 4096; omega) rfl ?_
          refine hM51.sti (k := 23) (by decide) ?_
          intro h65 G65 hM65 o65 e65 f65
          have out65 := out51.trans o65
          have hP65 := hP51.scG (by decide : 20 ≤ 23) f65
          have kp65 := kp51.scG (by decide : 20 ≤ 23) f65
          refine Wp.aload_n dX12_gathers_66 rfl (by first | exact Or.inr ⟨_, rfl⟩ | exact Or.inl rfl) rfl ?_
          refine Wp.dup dX12_gathers_67 rfl rfl ?_
          refine Wp.get dX12_gathers_68 fl_X12_150 hM65.ob hci rfl ?_
          refine Wp.iconst (v := (nI 1)) dX12_gathers_71 (by decide) rfl ?_
          refine Wp.iadd dX12_gathers_72 rfl ?_
          refine Wp.put dX12_gathers_73 fp_X12_150 hM65.ob rfl rfl rfl ?_
          refine hM65.put (k := 20) (by decide) ?_
          intro h73 V73 hM73 o73 e73 f73
          have out73 := out65.trans o73
          have hP73 := hP65.scV (by decide : 20 ≤ 20) f73
          have kp73 := kp65.scV (by decide : 20 ≤ 20) f73
          refine Wp.iinc (v := _ + (nI 1)) dX12_gathers_76 rfl rfl (Nat.le_of_ble_eq_true rfl) (by dsimp only [ev_st1, ev_cl] <;> rfl) rfl ?_
          refine Wp.goto (n := 7) dX12_gathers_79 (by decide) ?_
          rw [nI_add1]
          rw [gl_succ, hS, if_pos c_25] at ih
          have hlen1 : (gl σ.N (σ.O o) i ++ [S]).length = (gl σ.N (σ.O o) i).length + 1 := by simp
          exact ih _ _ _ hM73 out73 kp73 (e73.trans (by rw [hlen1, nI_add1])) (by rw [((f65 21 (by decide)).trans ((f51 21 (by decide)).trans e37)), ((f65 22 (by decide)).trans e51), e65, f51 23 (by decide), f37 23 (by decide), f37 22 (by decide)]; exact hAi.snoc) _
    · intro hh Vi Gi hMi hOi hKi hci hAi j3
      refine Wp.iload_n dX12_gathers_7 rfl rfl ?_
      refine Wp.sipush (v := (nI 4096)) dX12_gathers_8 (by decide) rfl ?_
      refine Wp.icmp_ge (tgt := 82) (n := 14) dX12_gathers_11 (by decide) rfl (fun c_11 => ?_) (fun c_11 => ?_)
      · try simp (disch := omega) only [nI_bit0, nI_bit1, Bool.not_eq_false, Bool.not_eq_true] at c_11
        try simp (disch := omega) only [i_lt, i_le, i_eq, l_lt, l_le, l_eq, i_0, i_m1, l_0, nI_tI, iI_tI, lI_tI, Int.not_lt, Int.not_le] at c_11
        exact Wp.vret dX12_gathers_82 rfl (by exact ⟨rfl, _, _, hMi, hOi, hKi, hci, hAi⟩)
      · try simp (disch := omega) only [nI_bit0, nI_bit1, Bool.not_eq_false, Bool.not_eq_true] at c_11
        try simp (disch := omega) only [i_lt, i_le, i_eq, l_lt, l_le, l_eq, i_0, i_m1, l_0, nI_tI, iI_tI, lI_tI, Int.not_lt, Int.not_le] at c_11
        omega
  refine Wp.aload_n dX12_gathers_0 rfl (by first | exact Or.inr ⟨_, rfl⟩ | exact Or.inl rfl) rfl ?_
  refine Wp.iconst (v := (nI 0)) dX12_gathers_1 (by decide) rfl ?_
  refine Wp.put dX12_gathers_2 fp_X12_150 hM.ob rfl rfl rfl ?_
  refine hM.put (k := 20) (by decide) ?_
  intro h2 V2 hM2 o2 e2 f2
  have out2 := (Out.rfl (x := x) (h := h)).trans o2
  have hP2 := hP.scV (by decide : 20 ≤ 20) f2
  have kp2 := (Kp.rfl (V := V) (G := G) (Z := Z)).scV (by decide : 20 ≤ 20) f2
  refine Wp.iconst (v := (nI 0)) dX12_gathers_5 (by decide) rfl ?_
  refine Wp.istore_n dX12_gathers_6 (Nat.le_of_ble_eq_true rfl) (by dsimp only [ev_st1, ev_st2, ev_cl] <;> rfl) rfl ?_
  exact loop 0 (by omega) _ _ _ hM2 out2 kp2 e2 AH.nil _
