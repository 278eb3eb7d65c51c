/-! the reference: regrets, wrong rows -/
def rgN (v q : Nat → Int) : Nat → Int × Int
  | 0 => (0, 1)
  | k + 1 => if (rgN v q k).1 * q k < v k * (rgN v q k).2 then (v k, q k) else rgN v q k
def rgV (σ : Sg) (o c k : Nat) : Int := cst (chS σ o) (chR σ o) (ptP σ o k) (ptQ σ o k) c - mnN (cst (chS σ o) (chR σ o) (ptP σ o k) (ptQ σ o k)) (chn σ o)
theorem pqB_q {p q : Int} (h1 : -10000 ≤ p) (h2 : p ≤ 10000) (h3 : 0 < q) (h4 : q ≤ 10000) : pqB p q := ⟨by omega, by omega, by omega, by omega⟩
theorem cst_b2 {n : Nat} {S R : Nat → Int} {p q : Int} {j : Nat} (hB : PrB n S R) (hj : j < n) (h1 : -10000 ≤ p) (h2 : p ≤ 10000) (h3 : 0 < q) (h4 : q ≤ 10000) : -14400000 ≤ cst S R p q j ∧ cst S R p q j ≤ 14400000 := by
  obtain ⟨-, hB⟩ := hB
  have hb := hB j hj
  have m1 := mulb (a := S j) (b := q) (A := 1200) (C := 10000) (by omega) (by omega)
  have m2 := mulb (a := R j) (b := p) (A := 240) (C := 10000) (by omega) (by omega)
  unfold cst
  omega
theorem mnN_b2 {n : Nat} {S R : Nat → Int} {p q : Int} (hB : PrB n S R) (h0 : 0 < n) (h1 : -10000 ≤ p) (h2 : p ≤ 10000) (h3 : 0 < q) (h4 : q ≤ 10000) : -14400000 ≤ mnN (cst S R p q) n ∧ mnN (cst S R p q) n ≤ 14400000 := by
  obtain ⟨j, hj, e⟩ := mnN_at (cst S R p q) n h0
  rw [e]; exact cst_b2 hB hj h1 h2 h3 h4
theorem rgV_b {σ : Sg} (hW : Wf σ) {o c k : Nat} (hc : c < chn σ o) (hk : k < (pts σ o).length) : 0 ≤ rgV σ o c k ∧ rgV σ o c k ≤ 28800000 := by
  have hb := ptPQ_b hW (by omega : 0 < chn σ o) hk
  have h1 := cst_b2 (PrB_ch hW o) hc hb.1 hb.2.1 hb.2.2.1 hb.2.2.2
  have h2 := mnN_b2 (PrB_ch hW o) (by omega : 0 < chn σ o) hb.1 hb.2.1 hb.2.2.1 hb.2.2.2
  have h3 := mnN_le (cst (chS σ o) (chR σ o) (ptP σ o k) (ptQ σ o k)) (chn σ o) c hc
  unfold rgV
  omega
theorem rgN_b {σ : Sg} (hW : Wf σ) {o c : Nat} (hc : c < chn σ o) : ∀ k, k ≤ (pts σ o).length → 0 ≤ (rgN (rgV σ o c) (ptQ σ o) k).1 ∧ (rgN (rgV σ o c) (ptQ σ o) k).1 ≤ 28800000 ∧ 0 < (rgN (rgV σ o c) (ptQ σ o) k).2 ∧ (rgN (rgV σ o c) (ptQ σ o) k).2 ≤ 10000
  | 0, _ => by simp [rgN]
  | k + 1, h => by
    have ih := rgN_b hW hc k (by omega)
    have h1 := rgV_b hW hc (show k < (pts σ o).length by omega)
    have h2 := ptPQ_b hW (by omega : 0 < chn σ o) (show k < (pts σ o).length by omega)
    simp only [rgN]
    split
    · dsimp only; omega
    · exact ih
set_option maxHeartbeats 1000000 in
theorem c_X12_regrets {B : ev_B} {d x : Nat} {h : ev_H} {V : Nat → Value} {G : Nat → Nat → Int32} {Z : Nat → Nat → Int64} {σ : Sg} {o c : Nat} (hM : MH h x V G Z) (hW : Wf σ) (hC : ChA V G σ o) (hT : PtA V Z σ o) (hc : c < chn σ o) (hd : 2 ≤ d) :
    Wp B d M_X12_regrets 0 [some (.ref x), some (.int (nI c)), none, none, none] [] h (fun v h' => v = none ∧ ∃ V', MH h' x V' G Z ∧ Out x h h' ∧ (∀ j, j ≠ 32 → j ≠ 33 → V' j = V j) ∧ V' 32 = .long (lI (rgN (rgV σ o c) (ptQ σ o) (pts σ o).length).1) ∧ V' 33 = .long (lI (rgN (rgV σ o c) (ptQ σ o) (pts σ o).length).2)) := by
  have hn := chn_le σ o
  have h0 : 0 < chn σ o := by omega
  have hnp : npt σ o = (pts σ o).length := by rw [npt, if_pos h0]
  have hpl := pts_len hW h0
  have hB := PrB_ch hW o
  have loop : ∀ i, i ≤ (pts σ o).length → ∀ (hh : ev_H) (Vi : Nat → Value), MH hh x Vi G Z → Out x h hh → (∀ j, j ≠ 32 → j ≠ 33 → Vi j = V j) → Vi 32 = .long (lI (rgN (rgV σ o c) (ptQ σ o) i).1) → Vi 33 = .long (lI (rgN (rgV σ o c) (ptQ σ o) i).2) → ∀ j3 j4 : Option Value, Wp B d M_X12_regrets 12 [some (.ref x), some (.int (nI c)), some (.int (nI i)), j3, j4] [] hh (fun v h' => v = none ∧ ∃ V', MH h' x V' G Z ∧ Out x h h' ∧ (∀ j, j ≠ 32 → j ≠ 33 → V' j = V j) ∧ V' 32 = .long (lI (rgN (rgV σ o c) (ptQ σ o) (pts σ o).length).1) ∧ V' 33 = .long (lI (rgN (rgV σ o c) (ptQ σ o) (pts σ o).length).2)) := by
    refine ev_upl (pts σ o).length (fun i hi ih => ?_) ?_
    · intro hh Vi hMi hOi hfi l2 l3 j3 j4
      have hp := hT.2 h0 i hi
      have hb1 := rgV_b hW hc hi
      have hb2 := rgN_b hW hc i (Nat.le_of_lt hi)
      have hb3 := ptPQ_b hW h0 hi
      have m1 := mulb (a := rgV σ o c i) (b := (rgN (rgV σ o c) (ptQ σ o) i).2) (A := 28800000) (C := 10000) (by omega) (by omega)
      have m2 := mulb (a := (rgN (rgV σ o c) (ptQ σ o) i).1) (b := ptQ σ o i) (A := 28800000) (C := 10000) (by omega) (by omega)
      refine Wp.iload_n dX12_regrets_12 rfl rfl ?_
      refine Wp.aload_n dX12_regrets_13 rfl (by first | exact Or.inr ⟨_, rfl⟩ | exact Or.inl rfl) rfl ?_
      refine Wp.get dX12_regrets_14 fl_X12_198 hMi.ob ((hfi 24 (by decide) (by decide)).trans hT.1) rfl ?_
      rw [hnp]
      refine Wp.icmp_ge (tgt := 87) (n := 20) dX12_regrets_17 (by decide) rfl (fun c_17 => ?_) (fun c_17 => ?_)
      · try simp (disch := omega) only [nI_bit0, nI_bit1, Bool.not_eq_false, Bool.not_eq_true] at c_17
        try simp (disch := omega) only [i_lt, i_le, i_eq, l_lt, l_le, l_eq, i_0, i_m1, l_0, nI_tI, iI_tI, lI_tI, Int.not_lt, Int.not_le] at c_17
        omega
      · try simp (disch := omega) only [nI_bit0, nI_bit1, Bool.not_eq_false, Bool.not_eq_true] at c_17
        try simp (disch := omega) only [i_lt, i_le, i_eq, l_lt, l_le, l_eq, i_0, i_m1, l_0, nI_tI, iI_tI, lI_tI, Int.not_lt, Int.not_le] at c_17
        refine Wp.aload_n dX12_regrets_20 rfl (by first | exact Or.inr ⟨_, rfl⟩ | exact Or.inl rfl) rfl ?_
        refine Wp.iload_n dX12_regrets_21 rfl rfl ?_
        refine Wp.aload_n dX12_regrets_22 rfl (by first | exact Or.inr ⟨_, rfl⟩ | exact Or.inl rfl) rfl ?_
        refine Wp.get dX12_regrets_23 fl_X12_66 hMi.ob (hMi.rf 25 (by decide)) rfl ?_
        refine Wp.iload_n dX12_regrets_26 rfl rfl ?_
        refine Wp.laload dX12_regrets_27 (hMi.la 25 (by decide)) (nI_toInt (by omega)) (by show _ < 500; omega) rfl ?_
        rw [hp.1]
        refine Wp.aload_n dX12_regrets_28 rfl (by first | exact Or.inr ⟨_, rfl⟩ | exact Or.inl rfl) rfl ?_
        refine Wp.get dX12_regrets_29 fl_X12_69 hMi.ob (hMi.rf 26 (by decide)) rfl ?_
        refine Wp.iload_n dX12_regrets_32 rfl rfl ?_
        refine Wp.laload dX12_regrets_33 (hMi.la 26 (by decide)) (nI_toInt (by omega)) (by show _ < 500; omega) rfl ?_
        rw [hp.2.1]
        refine Wp.cV dX12_regrets_34 cv_X12_184 rfl (by omega) rfl (Nat.le_of_ble_eq_true rfl) (Nat.le_of_ble_eq_true rfl) hMi.ob rfl (c_X12_costAt (d := d - 1) (p := ptP σ o i) (q := ptQ σ o i) hMi ⟨(hfi 20 (by decide) (by decide)).trans hC.1.1, hC.1.2⟩ hB hc) ?_
        rintro _ h_ ⟨rfl, e_⟩
        rw [e_]
        clear e_ h_
        dsimp only [Option.toList, List.drop, List.cons_append, List.nil_append]
        refine Wp.aload_n dX12_regrets_37 rfl (by first | exact Or.inr ⟨_, rfl⟩ | exact Or.inl rfl) rfl ?_
        refine Wp.get dX12_regrets_38 fl_X12_72 hMi.ob (hMi.rf 27 (by decide)) rfl ?_
        refine Wp.iload_n dX12_regrets_41 rfl rfl ?_
        refine Wp.laload dX12_regrets_42 (hMi.la 27 (by decide)) (nI_toInt (by omega)) (by show _ < 500; omega) rfl ?_
        rw [hp.2.2]
        refine Wp.lsub dX12_regrets_43 rfl ?_
        rw [lI_sub, show cst (chS σ o) (chR σ o) (ptP σ o i) (ptQ σ o i) c - mnN (cst (chS σ o) (chR σ o) (ptP σ o i) (ptQ σ o i)) (chn σ o) = rgV σ o c i from rfl]
        refine Wp.lstore_n dX12_regrets_44 (Nat.le_of_ble_eq_true rfl) (by dsimp only [ev_st1, ev_st2, ev_cl] <;> rfl) rfl ?_
        refine Wp.lload_n dX12_regrets_45 rfl rfl ?_
        refine Wp.aload_n dX12_regrets_46 rfl (by first | exact Or.inr ⟨_, rfl⟩ | exact Or.inl rfl) rfl ?_
        refine Wp.get dX12_regrets_47 fl_X12_237 hMi.ob l3 rfl ?_
        refine Wp.lmul dX12_regrets_50 rfl ?_
        rw [lI_mul]
        refine Wp.aload_n dX12_regrets_51 rfl (by first | exact Or.inr ⟨_, rfl⟩ | exact Or.inl rfl) rfl ?_
        refine Wp.get dX12_regrets_52 fl_X12_234 hMi.ob l2 rfl ?_
        refine Wp.aload_n dX12_regrets_55 rfl (by first | exact Or.inr ⟨_, rfl⟩ | exact Or.inl rfl) rfl ?_
        refine Wp.get dX12_regrets_56 fl_X12_69 hMi.ob (hMi.rf 26 (by decide)) rfl ?_
        refine Wp.iload_n dX12_regrets_59 rfl rfl ?_
        refine Wp.laload dX12_regrets_60 (hMi.la 26 (by decide)) (nI_toInt (by omega)) (by show _ < 500; omega) rfl ?_
        rw [hp.2.1]
        refine Wp.lmul dX12_regrets_61 rfl ?_
        rw [lI_mul]
        refine Wp.lcmp_le (tgt := 81) (n := 66) dX12_regrets_62 rfl dX12_regrets_63 (by decide) rfl (fun c_62 => ?_) (fun c_62 => ?_)
        · try simp (disch := omega) only [nI_bit0, nI_bit1, Bool.not_eq_false, Bool.not_eq_true] at c_62
          try simp (disch := omega) only [i_lt, i_le, i_eq, l_lt, l_le, l_eq, i_0, i_m1, l_0, nI_tI, iI_tI, lI_tI, Int.not_lt, Int.not_le] at c_62
          refine Wp.iinc (v := _ + (nI 1)) dX12_regrets_81 rfl rfl (Nat.le_of_ble_eq_true rfl) (by dsimp only [ev_st1, ev_cl] <;> rfl) rfl ?_
          refine Wp.goto (n := 12) dX12_regrets_84 (by decide) ?_
          rw [nI_add1]
          have ihr : rgN (rgV σ o c) (ptQ σ o) (i + 1) = if (rgN (rgV σ o c) (ptQ σ o) i).1 * ptQ σ o i < rgV σ o c i * (rgN (rgV σ o c) (ptQ σ o) i).2 then (rgV σ o c i, ptQ σ o i) else (rgN (rgV σ o c) (ptQ σ o) i) := rfl
          rw [if_neg (by omega)] at ihr
          exact ih _ _ hMi hOi hfi (by rw [ihr]; exact l2) (by rw [ihr]; exact l3) _ _
        · try simp (disch := omega) only [nI_bit0, nI_bit1, Bool.not_eq_false, Bool.not_eq_true] at c_62
          try simp (disch := omega) only [i_lt, i_le, i_eq, l_lt, l_le, l_eq, i_0, i_m1, l_0, nI_tI, iI_tI, lI_tI, Int.not_lt, Int.not_le] at c_62
          refine Wp.aload_n dX12_regrets_66 rfl (by first | exact Or.inr ⟨_, rfl⟩ | exact Or.inl rfl) rfl ?_
          refine Wp.lload_n dX12_regrets_67 rfl rfl ?_
          refine Wp.put dX12_regrets_68 fp_X12_234 hMi.ob rfl rfl rfl ?_
          refine hMi.put (k := 32) (by decide) ?_
          intro h68 V68 hM68 o68 e68 f68
          have out68 := hOi.trans o68
          refine Wp.aload_n dX12_regrets_71 rfl (by first | exact Or.inr ⟨_, rfl⟩ | exact Or.inl rfl) rfl ?_
          refine Wp.aload_n dX12_regrets_72 rfl (by first | exact Or.inr ⟨_, rfl⟩ | exact Or.inl rfl) rfl ?_
          refine Wp.get dX12_regrets_73 fl_X12_69 hM68.ob (hM68.rf 26 (by decide)) rfl ?_
          refine Wp.iload_n dX12_regrets_76 rfl rfl ?_
          refine Wp.laload dX12_regrets_77 (hM68.la 26 (by decide)) (nI_toInt (by omega)) (by show _ < 500; omega) rfl ?_
          rw [hp.2.1]
          refine Wp.put dX12_regrets_78 fp_X12_237 hM68.ob rfl rfl rfl ?_
          refine hM68.put (k := 33) (by decide) ?_
          intro h78 V78 hM78 o78 e78 f78
          have out78 := out68.trans o78
          refine Wp.iinc (v := _ + (nI 1)) dX12_regrets_81 rfl rfl (Nat.le_of_ble_eq_true rfl) (by dsimp only [ev_st1, ev_cl] <;> rfl) rfl ?_
          refine Wp.goto (n := 12) dX12_regrets_84 (by decide) ?_
          rw [nI_add1]
          have ihr : rgN (rgV σ o c) (ptQ σ o) (i + 1) = if (rgN (rgV σ o c) (ptQ σ o) i).1 * ptQ σ o i < rgV σ o c i * (rgN (rgV σ o c) (ptQ σ o) i).2 then (rgV σ o c i, ptQ σ o i) else (rgN (rgV σ o c) (ptQ σ o) i) := rfl
          rw [if_pos (by omega)] at ihr
          exact ih _ _ hM78 out78 (fun j h1 h2 => (f78 j h2).trans ((f68 j h1).trans (hfi j h1 h2))) (by rw [ihr]; exact ((f78 32 (by decide)).trans e68)) (by rw [ihr]; exact e78) _ _
    · intro hh Vi hMi hOi hfi l2 l3 j3 j4
      refine Wp.iload_n dX12_regrets_12 rfl rfl ?_
      refine Wp.aload_n dX12_regrets_13 rfl (by first | exact Or.inr ⟨_, rfl⟩ | exact Or.inl rfl) rfl ?_
      refine Wp.get dX12_regrets_14 fl_X12_198 hMi.ob ((hfi 24 (by decide) (by decide)).trans hT.1) rfl ?_
      rw [hnp]
      refine Wp.icmp_ge (tgt := 87) (n := 20) dX12_regrets_17 (by decide) rfl (fun c_17 => ?_) (fun c_17 => ?_)
      · try simp (disch := omega) only [nI_bit0, nI_bit1, Bool.not_eq_false, Bool.not_eq_true] at c_17
        try simp (disch := omega) only [i_lt, i_le, i_eq, l_lt, l_le, l_eq, i_0, i_m1, l_0, nI_tI, iI_tI, lI_tI, Int.not_lt, Int.not_le] at c_17
        exact Wp.vret dX12_regrets_87 rfl (by exact ⟨rfl, _, hMi, hOi, hfi, l2, l3⟩)
      · try simp (disch := omega) only [nI_bit0, nI_bit1, Bool.not_eq_false, Bool.not_eq_true] at c_17
        try simp (disch := omega) only [i_lt, i_le, i_eq, l_lt, l_le, l_eq, i_0, i_m1, l_0, nI_tI, iI_tI, lI_tI, Int.not_lt, Int.not_le] at c_17
        omega
  refine Wp.aload_n dX12_regrets_0 rfl (by first | exact Or.inr ⟨_, rfl⟩ | exact Or.inl rfl) rfl ?_
  refine Wp.lconst (v := 0) dX12_regrets_1 (by decide) rfl ?_
  refine Wp.put dX12_regrets_2 fp_X12_234 hM.ob rfl rfl rfl ?_
  refine hM.put (k := 32) (by decide) ?_
  intro h2 V2 hM2 o2 e2 f2
  have out2 := (Out.rfl (x := x) (h := h)).trans o2
  refine Wp.aload_n dX12_regrets_5 rfl (by first | exact Or.inr ⟨_, rfl⟩ | exact Or.inl rfl) rfl ?_
  refine Wp.lconst (v := 1) dX12_regrets_6 (by decide) rfl ?_
  refine Wp.put dX12_regrets_7 fp_X12_237 hM2.ob rfl rfl rfl ?_
  refine hM2.put (k := 33) (by decide) ?_
  intro h7 V7 hM7 o7 e7 f7
  have out7 := out2.trans o7
  refine Wp.iconst (v := (nI 0)) dX12_regrets_10 (by decide) rfl ?_
  refine Wp.istore_n dX12_regrets_11 (Nat.le_of_ble_eq_true rfl) (by dsimp only [ev_st1, ev_st2, ev_cl] <;> rfl) rfl ?_
  exact loop 0 (by omega) _ _ hM7 out7 (fun j h1 h2 => (f7 j h2).trans (f2 j h1)) ((f7 32 (by decide)).trans e2) e7 _ _
/-- how a row of the reference is wrong -/
def wrM (σ : Sg) (o i : Nat) : Nat :=
  if ¬ isP (σ.rv i 0) (σ.rv i 1) ∨ Int.gcd (σ.rv i 0) (σ.rv i 1) ≠ 1 ∨ σ.rv i 0 * σ.q1 ≤ σ.p1 * σ.rv i 1 ∨ σ.p2 * σ.rv i 1 ≤ σ.rv i 0 * σ.q2 then 1
  else if 0 < i ∧ σ.rv i 0 * σ.rv (i - 1) 1 ≤ σ.rv (i - 1) 0 * σ.rv i 1 then 2
  else if plc σ o (iI (σ.rv i 2)) = -1 then 3
  else if plc σ o (iI (σ.rv i 3)) = -1 then 4
  else if cst (chS σ o) (chR σ o) (σ.rv i 0) (σ.rv i 1) (plc σ o (iI (σ.rv i 2))).toNat ≠ cst (chS σ o) (chR σ o) (σ.rv i 0) (σ.rv i 1) (plc σ o (iI (σ.rv i 3))).toNat then 5
  else if mnN (cst (chS σ o) (chR σ o) (σ.rv i 0) (σ.rv i 1)) (chn σ o) < cst (chS σ o) (chR σ o) (σ.rv i 0) (σ.rv i 1) (plc σ o (iI (σ.rv i 2))).toNat then 6
  else if chR σ o (plc σ o (iI (σ.rv i 3))).toNat < chR σ o (plc σ o (iI (σ.rv i 2))).toNat then 0 else 7
theorem lI_i {z : Int} (h1 : -2147483648 ≤ z) (h2 : z < 2147483648) : (lI z).toInt32 = iI z := by
  rw [iI_of (lI z).toInt32, Int64.toInt_toInt32, lI_toInt (by omega) (by omega)]
  congr 1
  exact Int.bmod_eq_of_le (by omega) (by omega)
theorem nI_4 {i k : Nat} (h : i < 1000) (hk : k < 100) : (nI 4 * nI i + nI k).toInt = ((4 * i + k : Nat) : Int) := by
  rw [pk_mul, nI_add]; exact nI_toInt (by omega)
theorem nI_40 {i : Nat} (h : i < 1000) : (nI 4 * nI i).toInt = ((4 * i + 0 : Nat) : Int) := by
  rw [pk_mul]; exact nI_toInt (by omega)
theorem nI_4m {i k : Nat} (h : i < 1000) (h0 : 0 < i) (hk : k < 2) : (nI 4 * nI i - nI (4 - k)).toInt = ((4 * (i - 1) + k : Nat) : Int) := by
  rw [pk_mul, pk_sub (by omega), nI_toInt (by omega)]
  omega
theorem isP_no {p q : Int} (h : p < -10000 ∨ 10000 < p ∨ q < 1 ∨ 1000 < q) : ¬ isP p q := by intro z; omega
set_option maxHeartbeats 2000000 in
theorem c_X12_wrong {B : ev_B} {d x : Nat} {h : ev_H} {V : Nat → Value} {G : Nat → Nat → Int32} {Z : Nat → Nat → Int64} {σ : Sg} {o i : Nat} (hM : MH h x V G Z) (hP : PM σ V G Z) (hW : Wf σ) (hC : ChA V G σ o) (hi : i < σ.nR) (hd : 2 ≤ d) :
    Wp B d M_X12_wrong 0 [some (.ref x), some (.int (nI i)), none, none, none, none, none, none, none] [] h (fun v h' => v = some (.int (nI (wrM σ o i))) ∧ h' = h) := by
  have hn := chn_le σ o
  have hnr := hW.nR
  have hB := PrB_ch hW o
  have hw1 := hW.w1
  have hw2 := hW.w2
  have b0 := hW.rv i 0 hi (by decide)
  have b1 := hW.rv i 1 hi (by decide)
  have b2 := hW.rv i 2 hi (by decide)
  have b3 := hW.rv i 3 hi (by decide)
  have hs0 : sm (σ.rv i 0) := ⟨by omega, by omega⟩
  have hs1 : sm (σ.rv i 1) := ⟨by omega, by omega⟩
  have hpq : pqB (σ.rv i 0) (σ.rv i 1) := ⟨by omega, by omega, by omega, by omega⟩
  have hpl2 := plc_in σ o (iI (σ.rv i 2))
  have hpl3 := plc_in σ o (iI (σ.rv i 3))
  have m1 := mulb (a := σ.rv i 0) (b := σ.q1) (A := 1000000) (C := 1000) (by omega) (by omega)
  have m2 := mulb (a := σ.p1) (b := σ.rv i 1) (A := 10000) (C := 1000000) (by omega) (by omega)
  have m3 := mulb (a := σ.rv i 0) (b := σ.q2) (A := 1000000) (C := 1000) (by omega) (by omega)
  have m4 := mulb (a := σ.p2) (b := σ.rv i 1) (A := 10000) (C := 1000000) (by omega) (by omega)
  have s116 : ¬ (¬ isP (σ.rv i 0) (σ.rv i 1) ∨ Int.gcd (σ.rv i 0) (σ.rv i 1) ≠ 1 ∨ σ.rv i 0 * σ.q1 ≤ σ.p1 * σ.rv i 1 ∨ σ.p2 * σ.rv i 1 ≤ σ.rv i 0 * σ.q2) → Wp B d M_X12_wrong 116 [some (.ref x), some (.int (nI i)), some (.long (lI (σ.rv i 0))), none, some (.long (lI (σ.rv i 1))), none, some (.int (nI 1)), none, none] [] h (fun v h' => v = some (.int (nI (wrM σ o i))) ∧ h' = h) := by
    intro hok
    have s151 : ¬ (0 < i ∧ σ.rv i 0 * σ.rv (i - 1) 1 ≤ σ.rv (i - 1) 0 * σ.rv i 1) → Wp B d M_X12_wrong 151 [some (.ref x), some (.int (nI i)), some (.long (lI (σ.rv i 0))), none, some (.long (lI (σ.rv i 1))), none, some (.int (nI 1)), none, none] [] h (fun v h' => v = some (.int (nI (wrM σ o i))) ∧ h' = h) := by
      intro hc2
      have s209 : plc σ o (iI (σ.rv i 2)) ≠ -1 → plc σ o (iI (σ.rv i 3)) ≠ -1 → Wp B d M_X12_wrong 209 [some (.ref x), some (.int (nI i)), some (.long (lI (σ.rv i 0))), none, some (.long (lI (σ.rv i 1))), none, some (.int (nI 1)), some (.int (iI (plc σ o (iI (σ.rv i 2))))), some (.int (iI (plc σ o (iI (σ.rv i 3)))))] [] h (fun v h' => v = some (.int (nI (wrM σ o i))) ∧ h' = h) := by
        intro h2 h3
        obtain ⟨a, ha⟩ : ∃ a : Nat, plc σ o (iI (σ.rv i 2)) = a := ⟨_, (Int.toNat_of_nonneg (by omega)).symm⟩
        obtain ⟨b, hb⟩ : ∃ b : Nat, plc σ o (iI (σ.rv i 3)) = b := ⟨_, (Int.toNat_of_nonneg (by omega)).symm⟩
        have han : a < chn σ o := by omega
        have hbn : b < chn σ o := by omega
        have hBa := hB.2 a han
        have hBb := hB.2 b hbn
        have ca := cst_b hB han hpq
        have cb := cst_b hB hbn hpq
        have cm := mnN_b hB (Nat.le_refl _) (by omega) hpq
        rw [ha, hb, ← nI_iI, ← nI_iI]
        refine Wp.aload_n dX12_wrong_209 rfl (by first | exact Or.inr ⟨_, rfl⟩ | exact Or.inl rfl) rfl ?_
        refine Wp.iload dX12_wrong_210 rfl rfl ?_
        refine Wp.lload_n dX12_wrong_212 rfl rfl ?_
        refine Wp.lload dX12_wrong_213 rfl rfl ?_
        refine Wp.cV dX12_wrong_215 cv_X12_184 rfl (by omega) rfl (Nat.le_of_ble_eq_true rfl) (Nat.le_of_ble_eq_true rfl) hM.ob rfl (c_X12_costAt (d := d - 1) (p := σ.rv i 0) (q := σ.rv i 1) hM hC.1 hB (c := a) han) ?_
        rintro _ h_ ⟨rfl, e_⟩
        rw [e_]
        clear e_ h_
        dsimp only [Option.toList, List.drop, List.cons_append, List.nil_append]
        refine Wp.aload_n dX12_wrong_218 rfl (by first | exact Or.inr ⟨_, rfl⟩ | exact Or.inl rfl) rfl ?_
        refine Wp.iload dX12_wrong_219 rfl rfl ?_
        refine Wp.lload_n dX12_wrong_221 rfl rfl ?_
        refine Wp.lload dX12_wrong_222 rfl rfl ?_
        refine Wp.cV dX12_wrong_224 cv_X12_184 rfl (by omega) rfl (Nat.le_of_ble_eq_true rfl) (Nat.le_of_ble_eq_true rfl) hM.ob rfl (c_X12_costAt (d := d - 1) (p := σ.rv i 0) (q := σ.rv i 1) hM hC.1 hB (c := b) hbn) ?_
        rintro _ h_ ⟨rfl, e_⟩
        rw [e_]
        clear e_ h_
        dsimp only [Option.toList, List.drop, List.cons_append, List.nil_append]
        refine Wp.lcmp_eq (tgt := 233) (n := 231) dX12_wrong_227 rfl dX12_wrong_228 (by decide) rfl (fun c_227 => ?_) (fun c_227 => ?_)
        · try simp (disch := omega) only [nI_bit0, nI_bit1, Bool.not_eq_false, Bool.not_eq_true] at c_227
          try simp (disch := omega) only [i_lt, i_le, i_eq, l_lt, l_le, l_eq, i_0, i_m1, l_0, nI_tI, iI_tI, lI_tI, Int.not_lt, Int.not_le] at c_227
          refine Wp.aload_n dX12_wrong_233 rfl (by first | exact Or.inr ⟨_, rfl⟩ | exact Or.inl rfl) rfl ?_
          refine Wp.lload_n dX12_wrong_234 rfl rfl ?_
          refine Wp.lload dX12_wrong_235 rfl rfl ?_
          refine Wp.cV dX12_wrong_237 cv_X12_188 rfl (by omega) rfl (Nat.le_of_ble_eq_true rfl) (Nat.le_of_ble_eq_true rfl) hM.ob rfl (c_X12_leastAt (d := d - 1) (p := σ.rv i 0) (q := σ.rv i 1) hM hC.1 hB (by omega) hpq (by omega)) ?_
          rintro _ h_ ⟨rfl, e_⟩
          rw [e_]
          clear e_ h_
          dsimp only [Option.toList, List.drop, List.cons_append, List.nil_append]
          refine Wp.aload_n dX12_wrong_240 rfl (by first | exact Or.inr ⟨_, rfl⟩ | exact Or.inl rfl) rfl ?_
          refine Wp.iload dX12_wrong_241 rfl rfl ?_
          refine Wp.lload_n dX12_wrong_243 rfl rfl ?_
          refine Wp.lload dX12_wrong_244 rfl rfl ?_
          refine Wp.cV dX12_wrong_246 cv_X12_184 rfl (by omega) rfl (Nat.le_of_ble_eq_true rfl) (Nat.le_of_ble_eq_true rfl) hM.ob rfl (c_X12_costAt (d := d - 1) (p := σ.rv i 0) (q := σ.rv i 1) hM hC.1 hB (c := a) han) ?_
          rintro _ h_ ⟨rfl, e_⟩
          rw [e_]
          clear e_ h_
          dsimp only [Option.toList, List.drop, List.cons_append, List.nil_append]
          refine Wp.lcmp_ge (tgt := 256) (n := 253) dX12_wrong_249 rfl dX12_wrong_250 (by decide) rfl (fun c_249 => ?_) (fun c_249 => ?_)
          · try simp (disch := omega) only [nI_bit0, nI_bit1, Bool.not_eq_false, Bool.not_eq_true] at c_249
            try simp (disch := omega) only [i_lt, i_le, i_eq, l_lt, l_le, l_eq, i_0, i_m1, l_0, nI_tI, iI_tI, lI_tI, Int.not_lt, Int.not_le] at c_249
            refine Wp.aload_n dX12_wrong_256 rfl (by first | exact Or.inr ⟨_, rfl⟩ | exact Or.inl rfl) rfl ?_
            refine Wp.get dX12_wrong_257 fl_X12_63 hM.ob (hM.rf 23 (by decide)) rfl ?_
            refine Wp.iload dX12_wrong_260 rfl rfl ?_
            refine Wp.iaload dX12_wrong_262 (hM.ia 23 (by decide)) (nI_toInt (by omega)) (by show _ < 4096; omega) rfl ?_
            rw [(hC.1.2 a han).2]
            refine Wp.aload_n dX12_wrong_263 rfl (by first | exact Or.inr ⟨_, rfl⟩ | exact Or.inl rfl) rfl ?_
            refine Wp.get dX12_wrong_264 fl_X12_63 hM.ob (hM.rf 23 (by decide)) rfl ?_
            refine Wp.iload dX12_wrong_267 rfl rfl ?_
            refine Wp.iaload dX12_wrong_269 (hM.ia 23 (by decide)) (nI_toInt (by omega)) (by show _ < 4096; omega) rfl ?_
            rw [(hC.1.2 b hbn).2]
            refine Wp.icmp_le (tgt := 277) (n := 273) dX12_wrong_270 (by decide) rfl (fun c_270 => ?_) (fun c_270 => ?_)
            · try simp (disch := omega) only [nI_bit0, nI_bit1, Bool.not_eq_false, Bool.not_eq_true] at c_270
              try simp (disch := omega) only [i_lt, i_le, i_eq, l_lt, l_le, l_eq, i_0, i_m1, l_0, nI_tI, iI_tI, lI_tI, Int.not_lt, Int.not_le] at c_270
              refine Wp.bipush (v := (nI 7)) dX12_wrong_277 (by decide) rfl ?_
              exact Wp.iret dX12_wrong_279 rfl (by first | (rw [wrM, if_neg hok, if_neg hc2, if_neg (by omega), if_neg (by omega), if_neg (by rw [ha, hb, Int.toNat_natCast, Int.toNat_natCast]; omega), if_neg (by rw [ha, Int.toNat_natCast]; omega), if_neg (by rw [hb, ha, Int.toNat_natCast, Int.toNat_natCast]; omega)]; exact ⟨rfl, rfl⟩) | (rw [wrM, if_neg hok, if_neg hc2, if_neg (by omega), if_neg (by omega), if_neg (by rw [ha, hb, Int.toNat_natCast, Int.toNat_natCast]; omega), if_neg (by rw [ha, Int.toNat_natCast]; omega), if_pos (by rw [hb, ha, Int.toNat_natCast, Int.toNat_natCast]; omega)]; exact ⟨rfl, rfl⟩))
            · try simp (disch := omega) only [nI_bit0, nI_bit1, Bool.not_eq_false, Bool.not_eq_true] at c_270
              try simp (disch := omega) only [i_lt, i_le, i_eq, l_lt, l_le, l_eq, i_0, i_m1, l_0, nI_tI, iI_tI, lI_tI, Int.not_lt, Int.not_le] at c_270
              refine Wp.iconst (v := (nI 0)) dX12_wrong_273 (by decide) rfl ?_
              refine Wp.goto (n := 279) dX12_wrong_274 (by decide) ?_
              exact Wp.iret dX12_wrong_279 rfl (by first | (rw [wrM, if_neg hok, if_neg hc2, if_neg (by omega), if_neg (by omega), if_neg (by rw [ha, hb, Int.toNat_natCast, Int.toNat_natCast]; omega), if_neg (by rw [ha, Int.toNat_natCast]; omega), if_neg (by rw [hb, ha, Int.toNat_natCast, Int.toNat_natCast]; omega)]; exact ⟨rfl, rfl⟩) | (rw [wrM, if_neg hok, if_neg hc2, if_neg (by omega), if_neg (by omega), if_neg (by rw [ha, hb, Int.toNat_natCast, Int.toNat_natCast]; omega), if_neg (by rw [ha, Int.toNat_natCast]; omega), if_pos (by rw [hb, ha, Int.toNat_natCast, Int.toNat_natCast]; omega)]; exact ⟨rfl, rfl⟩))
          · try simp (disch := omega) only [nI_bit0, nI_bit1, Bool.not_eq_false, Bool.not_eq_true] at c_249
            try simp (disch := omega) only [i_lt, i_le, i_eq, l_lt, l_le, l_eq, i_0, i_m1, l_0, nI_tI, iI_tI, lI_tI, Int.not_lt, Int.not_le] at c_249
            refine Wp.bipush (v := (nI 6)) dX12_wrong_253 (by decide) rfl ?_
            exact Wp.iret dX12_wrong_255 rfl (by rw [wrM, if_neg hok, if_neg hc2, if_neg (by omega), if_neg (by omega), if_neg (by rw [ha, hb, Int.toNat_natCast, Int.toNat_natCast]; omega), if_pos (by rw [ha, Int.toNat_natCast]; omega)]; exact ⟨rfl, rfl⟩)
        · try simp (disch := omega) only [nI_bit0, nI_bit1, Bool.not_eq_false, Bool.not_eq_true] at c_227
          try simp (disch := omega) only [i_lt, i_le, i_eq, l_lt, l_le, l_eq, i_0, i_m1, l_0, nI_tI, iI_tI, lI_tI, Int.not_lt, Int.not_le] at c_227
          refine Wp.iconst (v := (nI 5)) dX12_wrong_231 (by decide) rfl ?_
          exact Wp.iret dX12_wrong_232 rfl (by rw [wrM, if_neg hok, if_neg hc2, if_neg (by omega), if_neg (by omega), if_pos (by rw [ha, hb, Int.toNat_natCast, Int.toNat_natCast]; omega)]; exact ⟨rfl, rfl⟩)
      refine Wp.aload_n dX12_wrong_151 rfl (by first | exact Or.inr ⟨_, rfl⟩ | exact Or.inl rfl) rfl ?_
      refine Wp.aload_n dX12_wrong_152 rfl (by first | exact Or.inr ⟨_, rfl⟩ | exact Or.inl rfl) rfl ?_
      refine Wp.get dX12_wrong_153 fl_X12_41 hM.ob (hM.rf 14 (by decide)) rfl ?_
      refine Wp.iconst (v := (nI 4)) dX12_wrong_156 (by decide) rfl ?_
      refine Wp.iload_n dX12_wrong_157 rfl rfl ?_
      refine Wp.imul dX12_wrong_158 rfl ?_
      refine Wp.iconst (v := (nI 2)) dX12_wrong_159 (by decide) rfl ?_
      refine Wp.iadd dX12_wrong_160 rfl ?_
      refine Wp.laload dX12_wrong_161 (hM.la 14 (by decide)) (nI_4 (by omega) (by decide)) (by show _ < 2000; omega) rfl ?_
      rw [(hP.rv i 2 hi (by decide))]
      refine Wp.l2i dX12_wrong_162 rfl ?_
      rw [lI_i (by omega) (by omega)]
      refine Wp.cV dX12_wrong_163 cv_X12_228 rfl (by omega) rfl (Nat.le_of_ble_eq_true rfl) (Nat.le_of_ble_eq_true rfl) hM.ob rfl (c_X12_placeOf (d := d - 1) (o := o) hM hC) ?_
      rintro _ h_ ⟨rfl, e_⟩
      rw [e_]
      clear e_ h_
      dsimp only [Option.toList, List.drop, List.cons_append, List.nil_append]
      refine Wp.istore dX12_wrong_166 (Nat.le_of_ble_eq_true rfl) (by dsimp only [ev_st1, ev_st2, ev_cl] <;> rfl) rfl ?_
      refine Wp.aload_n dX12_wrong_168 rfl (by first | exact Or.inr ⟨_, rfl⟩ | exact Or.inl rfl) rfl ?_
      refine Wp.aload_n dX12_wrong_169 rfl (by first | exact Or.inr ⟨_, rfl⟩ | exact Or.inl rfl) rfl ?_
      refine Wp.get dX12_wrong_170 fl_X12_41 hM.ob (hM.rf 14 (by decide)) rfl ?_
      refine Wp.iconst (v := (nI 4)) dX12_wrong_173 (by decide) rfl ?_
      refine Wp.iload_n dX12_wrong_174 rfl rfl ?_
      refine Wp.imul dX12_wrong_175 rfl ?_
      refine Wp.iconst (v := (nI 3)) dX12_wrong_176 (by decide) rfl ?_
      refine Wp.iadd dX12_wrong_177 rfl ?_
      refine Wp.laload dX12_wrong_178 (hM.la 14 (by decide)) (nI_4 (by omega) (by decide)) (by show _ < 2000; omega) rfl ?_
      rw [(hP.rv i 3 hi (by decide))]
      refine Wp.l2i dX12_wrong_179 rfl ?_
      rw [lI_i (by omega) (by omega)]
      refine Wp.cV dX12_wrong_180 cv_X12_228 rfl (by omega) rfl (Nat.le_of_ble_eq_true rfl) (Nat.le_of_ble_eq_true rfl) hM.ob rfl (c_X12_placeOf (d := d - 1) (o := o) hM hC) ?_
      rintro _ h_ ⟨rfl, e_⟩
      rw [e_]
      clear e_ h_
      dsimp only [Option.toList, List.drop, List.cons_append, List.nil_append]
      refine Wp.istore dX12_wrong_183 (Nat.le_of_ble_eq_true rfl) (by dsimp only [ev_st1, ev_st2, ev_cl] <;> rfl) rfl ?_
      refine Wp.iload dX12_wrong_185 rfl rfl ?_
      refine Wp.iconst (v := (-1)) dX12_wrong_187 (by decide) rfl ?_
      refine Wp.icmp_eq (tgt := 197) (n := 191) dX12_wrong_188 (by decide) rfl (fun c_188 => ?_) (fun c_188 => ?_)
      · try simp (disch := omega) only [nI_bit0, nI_bit1, Bool.not_eq_false, Bool.not_eq_true] at c_188
        try simp (disch := omega) only [i_lt, i_le, i_eq, l_lt, l_le, l_eq, i_0, i_m1, l_0, nI_tI, iI_tI, lI_tI, Int.not_lt, Int.not_le] at c_188
        refine Wp.iload dX12_wrong_197 rfl rfl ?_
        refine Wp.iconst (v := (-1)) dX12_wrong_199 (by decide) rfl ?_
        refine Wp.icmp_ne (tgt := 207) (n := 203) dX12_wrong_200 (by decide) rfl (fun c_200 => ?_) (fun c_200 => ?_)
        · try simp (disch := omega) only [nI_bit0, nI_bit1, Bool.not_eq_false, Bool.not_eq_true] at c_200
          try simp (disch := omega) only [i_lt, i_le, i_eq, l_lt, l_le, l_eq, i_0, i_m1, l_0, nI_tI, iI_tI, lI_tI, Int.not_lt, Int.not_le] at c_200
          refine Wp.iconst (v := (nI 4)) dX12_wrong_207 (by decide) rfl ?_
          exact Wp.iret dX12_wrong_208 rfl (by first | (rw [wrM, if_neg hok, if_neg hc2, if_pos (by omega)]; exact ⟨rfl, rfl⟩) | (rw [wrM, if_neg hok, if_neg hc2, if_neg (by omega), if_pos (by omega)]; exact ⟨rfl, rfl⟩))
        · try simp (disch := omega) only [nI_bit0, nI_bit1, Bool.not_eq_false, Bool.not_eq_true] at c_200
          try simp (disch := omega) only [i_lt, i_le, i_eq, l_lt, l_le, l_eq, i_0, i_m1, l_0, nI_tI, iI_tI, lI_tI, Int.not_lt, Int.not_le] at c_200
          refine Wp.iconst (v := (nI 3)) dX12_wrong_203 (by decide) rfl ?_
          refine Wp.goto (n := 208) dX12_wrong_204 (by decide) ?_
          exact Wp.iret dX12_wrong_208 rfl (by first | (rw [wrM, if_neg hok, if_neg hc2, if_pos (by omega)]; exact ⟨rfl, rfl⟩) | (rw [wrM, if_neg hok, if_neg hc2, if_neg (by omega), if_pos (by omega)]; exact ⟨rfl, rfl⟩))
      · try simp (disch := omega) only [nI_bit0, nI_bit1, Bool.not_eq_false, Bool.not_eq_true] at c_188
        try simp (disch := omega) only [i_lt, i_le, i_eq, l_lt, l_le, l_eq, i_0, i_m1, l_0, nI_tI, iI_tI, lI_tI, Int.not_lt, Int.not_le] at c_188
        refine Wp.iload dX12_wrong_191 rfl rfl ?_
        refine Wp.iconst (v := (-1)) dX12_wrong_193 (by decide) rfl ?_
        refine Wp.icmp_ne (tgt := 209) (n := 197) dX12_wrong_194 (by decide) rfl (fun c_194 => ?_) (fun c_194 => ?_)
        · try simp (disch := omega) only [nI_bit0, nI_bit1, Bool.not_eq_false, Bool.not_eq_true] at c_194
          try simp (disch := omega) only [i_lt, i_le, i_eq, l_lt, l_le, l_eq, i_0, i_m1, l_0, nI_tI, iI_tI, lI_tI, Int.not_lt, Int.not_le] at c_194
          exact s209 (by omega) (by omega)
        · try simp (disch := omega) only [nI_bit0, nI_bit1, Bool.not_eq_false, Bool.not_eq_true] at c_194
          try simp (disch := omega) only [i_lt, i_le, i_eq, l_lt, l_le, l_eq, i_0, i_m1, l_0, nI_tI, iI_tI, lI_tI, Int.not_lt, Int.not_le] at c_194
          refine Wp.iload dX12_wrong_197 rfl rfl ?_
          refine Wp.iconst (v := (-1)) dX12_wrong_199 (by decide) rfl ?_
          refine Wp.icmp_ne (tgt := 207) (n := 203) dX12_wrong_200 (by decide) rfl (fun c_200 => ?_) (fun c_200 => ?_)
          · try simp (disch := omega) only [nI_bit0, nI_bit1, Bool.not_eq_false, Bool.not_eq_true] at c_200
            try simp (disch := omega) only [i_lt, i_le, i_eq, l_lt, l_le, l_eq, i_0, i_m1, l_0, nI_tI, iI_tI, lI_tI, Int.not_lt, Int.not_le] at c_200
            refine Wp.iconst (v := (nI 4)) dX12_wrong_207 (by decide) rfl ?_
            exact Wp.iret dX12_wrong_208 rfl (by first | (rw [wrM, if_neg hok, if_neg hc2, if_pos (by omega)]; exact ⟨rfl, rfl⟩) | (rw [wrM, if_neg hok, if_neg hc2, if_neg (by omega), if_pos (by omega)]; exact ⟨rfl, rfl⟩))
          · try simp (disch := omega) only [nI_bit0, nI_bit1, Bool.not_eq_false, Bool.not_eq_true] at c_200
            try simp (disch := omega) only [i_lt, i_le, i_eq, l_lt, l_le, l_eq, i_0, i_m1, l_0, nI_tI, iI_tI, lI_tI, Int.not_lt, Int.not_le] at c_200
            refine Wp.iconst (v := (nI 3)) dX12_wrong_203 (by decide) rfl ?_
            refine Wp.goto (n := 208) dX12_wrong_204 (by decide) ?_
            exact Wp.iret dX12_wrong_208 rfl (by first | (rw [wrM, if_neg hok, if_neg hc2, if_pos (by omega)]; exact ⟨rfl, rfl⟩) | (rw [wrM, if_neg hok, if_neg hc2, if_neg (by omega), if_pos (by omega)]; exact ⟨rfl, rfl⟩))
    refine Wp.iload_n dX12_wrong_116 rfl rfl ?_
    refine Wp.if_le (tgt := 151) (n := 120) dX12_wrong_117 (by decide) rfl (fun c_117 => ?_) (fun c_117 => ?_)
    · try simp (disch := omega) only [nI_bit0, nI_bit1, Bool.not_eq_false, Bool.not_eq_true] at c_117
      try simp (disch := omega) only [i_lt, i_le, i_eq, l_lt, l_le, l_eq, i_0, i_m1, l_0, nI_tI, iI_tI, lI_tI, Int.not_lt, Int.not_le] at c_117
      exact s151 (by omega)
    · try simp (disch := omega) only [nI_bit0, nI_bit1, Bool.not_eq_false, Bool.not_eq_true] at c_117
      try simp (disch := omega) only [i_lt, i_le, i_eq, l_lt, l_le, l_eq, i_0, i_m1, l_0, nI_tI, iI_tI, lI_tI, Int.not_lt, Int.not_le] at c_117
      have c0 := hW.rv (i - 1) 0 (by omega) (by decide)
      have c1 := hW.rv (i - 1) 1 (by omega) (by decide)
      have n1 := mulb (a := σ.rv i 0) (b := σ.rv (i - 1) 1) (A := 1000000) (C := 1000000) (by omega) (by omega)
      have n2 := mulb (a := σ.rv (i - 1) 0) (b := σ.rv i 1) (A := 1000000) (C := 1000000) (by omega) (by omega)
      refine Wp.lload_n dX12_wrong_120 rfl rfl ?_
      refine Wp.aload_n dX12_wrong_121 rfl (by first | exact Or.inr ⟨_, rfl⟩ | exact Or.inl rfl) rfl ?_
      refine Wp.get dX12_wrong_122 fl_X12_41 hM.ob (hM.rf 14 (by decide)) rfl ?_
      refine Wp.iconst (v := (nI 4)) dX12_wrong_125 (by decide) rfl ?_
      refine Wp.iload_n dX12_wrong_126 rfl rfl ?_
      refine Wp.imul dX12_wrong_127 rfl ?_
      refine Wp.iconst (v := (nI 3)) dX12_wrong_128 (by decide) rfl ?_
      refine Wp.isub dX12_wrong_129 rfl ?_
      refine Wp.laload dX12_wrong_130 (hM.la 14 (by decide)) (show (nI 4 * nI i - nI 3).toInt = ((4 * (i - 1) + 1 : Nat) : Int) from nI_4m (k := 1) (by omega) (by omega) (by decide)) (by show _ < 2000; omega) rfl ?_
      rw [hP.rv (i - 1) 1 (by omega) (by decide)]
      refine Wp.lmul dX12_wrong_131 rfl ?_
      rw [lI_mul]
      refine Wp.aload_n dX12_wrong_132 rfl (by first | exact Or.inr ⟨_, rfl⟩ | exact Or.inl rfl) rfl ?_
      refine Wp.get dX12_wrong_133 fl_X12_41 hM.ob (hM.rf 14 (by decide)) rfl ?_
      refine Wp.iconst (v := (nI 4)) dX12_wrong_136 (by decide) rfl ?_
      refine Wp.iload_n dX12_wrong_137 rfl rfl ?_
      refine Wp.imul dX12_wrong_138 rfl ?_
      refine Wp.iconst (v := (nI 4)) dX12_wrong_139 (by decide) rfl ?_
      refine Wp.isub dX12_wrong_140 rfl ?_
      refine Wp.laload dX12_wrong_141 (hM.la 14 (by decide)) (show (nI 4 * nI i - nI 4).toInt = ((4 * (i - 1) + 0 : Nat) : Int) from nI_4m (k := 0) (by omega) (by omega) (by decide)) (by show _ < 2000; omega) rfl ?_
      rw [hP.rv (i - 1) 0 (by omega) (by decide)]
      refine Wp.lload dX12_wrong_142 rfl rfl ?_
      refine Wp.lmul dX12_wrong_144 rfl ?_
      rw [lI_mul]
      refine Wp.lcmp_gt (tgt := 151) (n := 149) dX12_wrong_145 rfl dX12_wrong_146 (by decide) rfl (fun c_145 => ?_) (fun c_145 => ?_)
      · try simp (disch := omega) only [nI_bit0, nI_bit1, Bool.not_eq_false, Bool.not_eq_true] at c_145
        try simp (disch := omega) only [i_lt, i_le, i_eq, l_lt, l_le, l_eq, i_0, i_m1, l_0, nI_tI, iI_tI, lI_tI, Int.not_lt, Int.not_le] at c_145
        exact s151 (by omega)
      · try simp (disch := omega) only [nI_bit0, nI_bit1, Bool.not_eq_false, Bool.not_eq_true] at c_145
        try simp (disch := omega) only [i_lt, i_le, i_eq, l_lt, l_le, l_eq, i_0, i_m1, l_0, nI_tI, iI_tI, lI_tI, Int.not_lt, Int.not_le] at c_145
        refine Wp.iconst (v := (nI 2)) dX12_wrong_149 (by decide) rfl ?_
        exact Wp.iret dX12_wrong_150 rfl (by rw [wrM, if_neg hok, if_pos ⟨by omega, by omega⟩]; exact ⟨rfl, rfl⟩)
  refine Wp.aload_n dX12_wrong_0 rfl (by first | exact Or.inr ⟨_, rfl⟩ | exact Or.inl rfl) rfl ?_
  refine Wp.get dX12_wrong_1 fl_X12_41 hM.ob (hM.rf 14 (by decide)) rfl ?_
  refine Wp.iconst (v := (nI 4)) dX12_wrong_4 (by decide) rfl ?_
  refine Wp.iload_n dX12_wrong_5 rfl rfl ?_
  refine Wp.imul dX12_wrong_6 rfl ?_
  refine Wp.laload dX12_wrong_7 (hM.la 14 (by decide)) (nI_40 (by omega)) (by show _ < 2000; omega) rfl ?_
  rw [(hP.rv i 0 hi (by decide))]
  refine Wp.lstore_n dX12_wrong_8 (Nat.le_of_ble_eq_true rfl) (by dsimp only [ev_st1, ev_st2, ev_cl] <;> rfl) rfl ?_
  refine Wp.aload_n dX12_wrong_9 rfl (by first | exact Or.inr ⟨_, rfl⟩ | exact Or.inl rfl) rfl ?_
  refine Wp.get dX12_wrong_10 fl_X12_41 hM.ob (hM.rf 14 (by decide)) rfl ?_
  refine Wp.iconst (v := (nI 4)) dX12_wrong_13 (by decide) rfl ?_
  refine Wp.iload_n dX12_wrong_14 rfl rfl ?_
  refine Wp.imul dX12_wrong_15 rfl ?_
  refine Wp.iconst (v := (nI 1)) dX12_wrong_16 (by decide) rfl ?_
  refine Wp.iadd dX12_wrong_17 rfl ?_
  refine Wp.laload dX12_wrong_18 (hM.la 14 (by decide)) (nI_4 (by omega) (by decide)) (by show _ < 2000; omega) rfl ?_
  rw [(hP.rv i 1 hi (by decide))]
  refine Wp.lstore dX12_wrong_19 (Nat.le_of_ble_eq_true rfl) (by dsimp only [ev_st1, ev_st2, ev_cl] <;> rfl) rfl ?_
  refine Wp.lload_n dX12_wrong_21 rfl rfl ?_
  refine Wp.ldc2 kc_X12_256 dX12_wrong_22 rfl ?_
  rw [show (Value.long (-10000) : Value) = .long (lI (-10000)) from rfl]
  refine Wp.lcmp_lt (tgt := 57) (n := 29) dX12_wrong_25 rfl dX12_wrong_26 (by decide) rfl (fun c_25 => ?_) (fun c_25 => ?_)
  · try simp (disch := omega) only [nI_bit0, nI_bit1, Bool.not_eq_false, Bool.not_eq_true] at c_25
    try simp (disch := omega) only [i_lt, i_le, i_eq, l_lt, l_le, l_eq, i_0, i_m1, l_0, nI_tI, iI_tI, lI_tI, Int.not_lt, Int.not_le] at c_25
    refine Wp.iconst (v := (nI 0)) dX12_wrong_57 (by decide) rfl ?_
    refine Wp.istore dX12_wrong_58 (Nat.le_of_ble_eq_true rfl) (by dsimp only [ev_st1, ev_st2, ev_cl] <;> rfl) rfl ?_
    refine Wp.iload dX12_wrong_60 rfl rfl ?_
    refine Wp.if_eq (tgt := 114) (n := 65) dX12_wrong_62 (by decide) rfl (fun _ => ?_) (fun c_ => absurd c_ (by decide))
    refine Wp.iconst (v := (nI 1)) dX12_wrong_114 (by decide) rfl ?_
    exact Wp.iret dX12_wrong_115 rfl (by rw [wrM, if_pos (by first | (left; omega) | (right; left; exact c_73) | (right; right; omega))]; exact ⟨rfl, rfl⟩)
  · try simp (disch := omega) only [nI_bit0, nI_bit1, Bool.not_eq_false, Bool.not_eq_true] at c_25
    try simp (disch := omega) only [i_lt, i_le, i_eq, l_lt, l_le, l_eq, i_0, i_m1, l_0, nI_tI, iI_tI, lI_tI, Int.not_lt, Int.not_le] at c_25
    refine Wp.lload_n dX12_wrong_29 rfl rfl ?_
    refine Wp.ldc2 kc_X12_258 dX12_wrong_30 rfl ?_
    rw [show (Value.long 10000 : Value) = .long (lI 10000) from rfl]
    refine Wp.lcmp_gt (tgt := 57) (n := 37) dX12_wrong_33 rfl dX12_wrong_34 (by decide) rfl (fun c_33 => ?_) (fun c_33 => ?_)
    · try simp (disch := omega) only [nI_bit0, nI_bit1, Bool.not_eq_false, Bool.not_eq_true] at c_33
      try simp (disch := omega) only [i_lt, i_le, i_eq, l_lt, l_le, l_eq, i_0, i_m1, l_0, nI_tI, iI_tI, lI_tI, Int.not_lt, Int.not_le] at c_33
      refine Wp.iconst (v := (nI 0)) dX12_wrong_57 (by decide) rfl ?_
      refine Wp.istore dX12_wrong_58 (Nat.le_of_ble_eq_true rfl) (by dsimp only [ev_st1, ev_st2, ev_cl] <;> rfl) rfl ?_
      refine Wp.iload dX12_wrong_60 rfl rfl ?_
      refine Wp.if_eq (tgt := 114) (n := 65) dX12_wrong_62 (by decide) rfl (fun _ => ?_) (fun c_ => absurd c_ (by decide))
      refine Wp.iconst (v := (nI 1)) dX12_wrong_114 (by decide) rfl ?_
      exact Wp.iret dX12_wrong_115 rfl (by rw [wrM, if_pos (by first | (left; omega) | (right; left; exact c_73) | (right; right; omega))]; exact ⟨rfl, rfl⟩)
    · try simp (disch := omega) only [nI_bit0, nI_bit1, Bool.not_eq_false, Bool.not_eq_true] at c_33
      try simp (disch := omega) only [i_lt, i_le, i_eq, l_lt, l_le, l_eq, i_0, i_m1, l_0, nI_tI, iI_tI, lI_tI, Int.not_lt, Int.not_le] at c_33
      refine Wp.lload dX12_wrong_37 rfl rfl ?_
      refine Wp.lconst (v := 1) dX12_wrong_39 (by decide) rfl ?_
      rw [L1]
      refine Wp.lcmp_lt (tgt := 57) (n := 44) dX12_wrong_40 rfl dX12_wrong_41 (by decide) rfl (fun c_40 => ?_) (fun c_40 => ?_)
      · try simp (disch := omega) only [nI_bit0, nI_bit1, Bool.not_eq_false, Bool.not_eq_true] at c_40
        try simp (disch := omega) only [i_lt, i_le, i_eq, l_lt, l_le, l_eq, i_0, i_m1, l_0, nI_tI, iI_tI, lI_tI, Int.not_lt, Int.not_le] at c_40
        refine Wp.iconst (v := (nI 0)) dX12_wrong_57 (by decide) rfl ?_
        refine Wp.istore dX12_wrong_58 (Nat.le_of_ble_eq_true rfl) (by dsimp only [ev_st1, ev_st2, ev_cl] <;> rfl) rfl ?_
        refine Wp.iload dX12_wrong_60 rfl rfl ?_
        refine Wp.if_eq (tgt := 114) (n := 65) dX12_wrong_62 (by decide) rfl (fun _ => ?_) (fun c_ => absurd c_ (by decide))
        refine Wp.iconst (v := (nI 1)) dX12_wrong_114 (by decide) rfl ?_
        exact Wp.iret dX12_wrong_115 rfl (by rw [wrM, if_pos (by first | (left; omega) | (right; left; exact c_73) | (right; right; omega))]; exact ⟨rfl, rfl⟩)
      · try simp (disch := omega) only [nI_bit0, nI_bit1, Bool.not_eq_false, Bool.not_eq_true] at c_40
        try simp (disch := omega) only [i_lt, i_le, i_eq, l_lt, l_le, l_eq, i_0, i_m1, l_0, nI_tI, iI_tI, lI_tI, Int.not_lt, Int.not_le] at c_40
        refine Wp.lload dX12_wrong_44 rfl rfl ?_
        refine Wp.ldc2 kc_X12_260 dX12_wrong_46 rfl ?_
        rw [show (Value.long 1000 : Value) = .long (lI 1000) from rfl]
        refine Wp.lcmp_gt (tgt := 57) (n := 53) dX12_wrong_49 rfl dX12_wrong_50 (by decide) rfl (fun c_49 => ?_) (fun c_49 => ?_)
        · try simp (disch := omega) only [nI_bit0, nI_bit1, Bool.not_eq_false, Bool.not_eq_true] at c_49
          try simp (disch := omega) only [i_lt, i_le, i_eq, l_lt, l_le, l_eq, i_0, i_m1, l_0, nI_tI, iI_tI, lI_tI, Int.not_lt, Int.not_le] at c_49
          refine Wp.iconst (v := (nI 0)) dX12_wrong_57 (by decide) rfl ?_
          refine Wp.istore dX12_wrong_58 (Nat.le_of_ble_eq_true rfl) (by dsimp only [ev_st1, ev_st2, ev_cl] <;> rfl) rfl ?_
          refine Wp.iload dX12_wrong_60 rfl rfl ?_
          refine Wp.if_eq (tgt := 114) (n := 65) dX12_wrong_62 (by decide) rfl (fun _ => ?_) (fun c_ => absurd c_ (by decide))
          refine Wp.iconst (v := (nI 1)) dX12_wrong_114 (by decide) rfl ?_
          exact Wp.iret dX12_wrong_115 rfl (by rw [wrM, if_pos (by first | (left; omega) | (right; left; exact c_73) | (right; right; omega))]; exact ⟨rfl, rfl⟩)
        · try simp (disch := omega) only [nI_bit0, nI_bit1, Bool.not_eq_false, Bool.not_eq_true] at c_49
          try simp (disch := omega) only [i_lt, i_le, i_eq, l_lt, l_le, l_eq, i_0, i_m1, l_0, nI_tI, iI_tI, lI_tI, Int.not_lt, Int.not_le] at c_49
          refine Wp.iconst (v := (nI 1)) dX12_wrong_53 (by decide) rfl ?_
          refine Wp.goto (n := 58) dX12_wrong_54 (by decide) ?_
          refine Wp.istore dX12_wrong_58 (Nat.le_of_ble_eq_true rfl) (by dsimp only [ev_st1, ev_st2, ev_cl] <;> rfl) rfl ?_
          refine Wp.iload dX12_wrong_60 rfl rfl ?_
          refine Wp.if_eq (tgt := 114) (n := 65) dX12_wrong_62 (by decide) rfl (fun c_ => absurd c_ (by decide)) (fun _ => ?_)
          refine Wp.lload_n dX12_wrong_65 rfl rfl ?_
          refine Wp.lload dX12_wrong_66 rfl rfl ?_
          refine Wp.cS dX12_wrong_68 cs_X12_92 rfl (by omega) rfl (Nat.le_of_ble_eq_true rfl) (Nat.le_of_ble_eq_true rfl) rfl (c_X12_common (d := d - 1) (a := σ.rv i 0) (b := σ.rv i 1) hs0 hs1) ?_
          rintro _ h_ ⟨rfl, e_⟩
          rw [e_]
          clear e_ h_
          dsimp only [Option.toList, List.drop, List.cons_append, List.nil_append]
          rw [lN_lI]
          refine Wp.lconst (v := 1) dX12_wrong_71 (by decide) rfl ?_
          rw [L1]
          refine Wp.lcmp_ne (tgt := 114) (n := 76) dX12_wrong_72 rfl dX12_wrong_73 (by decide) rfl (fun c_72 => ?_) (fun c_72 => ?_)
          · have c_73 : Int.gcd (σ.rv i 0) (σ.rv i 1) ≠ 1 := fun z => c_72 (by rw [z]; rfl)
            refine Wp.iconst (v := (nI 1)) dX12_wrong_114 (by decide) rfl ?_
            exact Wp.iret dX12_wrong_115 rfl (by rw [wrM, if_pos (by first | (left; omega) | (right; left; exact c_73) | (right; right; omega))]; exact ⟨rfl, rfl⟩)
          · have c_73 : Int.gcd (σ.rv i 0) (σ.rv i 1) = 1 := by have hgs := gcd_sm hs0 hs1; have := (lI_eq (a := ((Int.gcd (σ.rv i 0) (σ.rv i 1) : Nat) : Int)) (b := 1) (by omega) (by omega) (by decide) (by decide)).mp c_72; omega
            refine Wp.lload_n dX12_wrong_76 rfl rfl ?_
            refine Wp.aload_n dX12_wrong_77 rfl (by first | exact Or.inr ⟨_, rfl⟩ | exact Or.inl rfl) rfl ?_
            refine Wp.get dX12_wrong_78 fl_X12_31 hM.ob hP.w2 rfl ?_
            refine Wp.i2l dX12_wrong_81 rfl ?_
            rw [iI_l (by omega) (by omega)]
            refine Wp.lmul dX12_wrong_82 rfl ?_
            rw [lI_mul]
            refine Wp.aload_n dX12_wrong_83 rfl (by first | exact Or.inr ⟨_, rfl⟩ | exact Or.inl rfl) rfl ?_
            refine Wp.get dX12_wrong_84 fl_X12_195 hM.ob hP.w1 rfl ?_
            refine Wp.i2l dX12_wrong_87 rfl ?_
            rw [iI_l (by omega) (by omega)]
            refine Wp.lload dX12_wrong_88 rfl rfl ?_
            refine Wp.lmul dX12_wrong_90 rfl ?_
            rw [lI_mul]
            refine Wp.lcmp_le (tgt := 114) (n := 95) dX12_wrong_91 rfl dX12_wrong_92 (by decide) rfl (fun c_91 => ?_) (fun c_91 => ?_)
            · try simp (disch := omega) only [nI_bit0, nI_bit1, Bool.not_eq_false, Bool.not_eq_true] at c_91
              try simp (disch := omega) only [i_lt, i_le, i_eq, l_lt, l_le, l_eq, i_0, i_m1, l_0, nI_tI, iI_tI, lI_tI, Int.not_lt, Int.not_le] at c_91
              refine Wp.iconst (v := (nI 1)) dX12_wrong_114 (by decide) rfl ?_
              exact Wp.iret dX12_wrong_115 rfl (by rw [wrM, if_pos (by first | (left; omega) | (right; left; exact c_73) | (right; right; omega))]; exact ⟨rfl, rfl⟩)
            · try simp (disch := omega) only [nI_bit0, nI_bit1, Bool.not_eq_false, Bool.not_eq_true] at c_91
              try simp (disch := omega) only [i_lt, i_le, i_eq, l_lt, l_le, l_eq, i_0, i_m1, l_0, nI_tI, iI_tI, lI_tI, Int.not_lt, Int.not_le] at c_91
              refine Wp.lload_n dX12_wrong_95 rfl rfl ?_
              refine Wp.aload_n dX12_wrong_96 rfl (by first | exact Or.inr ⟨_, rfl⟩ | exact Or.inl rfl) rfl ?_
              refine Wp.get dX12_wrong_97 fl_X12_38 hM.ob hP.w4 rfl ?_
              refine Wp.i2l dX12_wrong_100 rfl ?_
              rw [iI_l (by omega) (by omega)]
              refine Wp.lmul dX12_wrong_101 rfl ?_
              rw [lI_mul]
              refine Wp.aload_n dX12_wrong_102 rfl (by first | exact Or.inr ⟨_, rfl⟩ | exact Or.inl rfl) rfl ?_
              refine Wp.get dX12_wrong_103 fl_X12_35 hM.ob hP.w3 rfl ?_
              refine Wp.i2l dX12_wrong_106 rfl ?_
              rw [iI_l (by omega) (by omega)]
              refine Wp.lload dX12_wrong_107 rfl rfl ?_
              refine Wp.lmul dX12_wrong_109 rfl ?_
              rw [lI_mul]
              refine Wp.lcmp_lt (tgt := 116) (n := 114) dX12_wrong_110 rfl dX12_wrong_111 (by decide) rfl (fun c_110 => ?_) (fun c_110 => ?_)
              · try simp (disch := omega) only [nI_bit0, nI_bit1, Bool.not_eq_false, Bool.not_eq_true] at c_110
                try simp (disch := omega) only [i_lt, i_le, i_eq, l_lt, l_le, l_eq, i_0, i_m1, l_0, nI_tI, iI_tI, lI_tI, Int.not_lt, Int.not_le] at c_110
                exact s116 (by intro z; rcases z with z | z | z | z; exact z ⟨⟨by omega, by omega⟩, by omega, by omega⟩; exact z c_73; omega; omega)
              · try simp (disch := omega) only [nI_bit0, nI_bit1, Bool.not_eq_false, Bool.not_eq_true] at c_110
                try simp (disch := omega) only [i_lt, i_le, i_eq, l_lt, l_le, l_eq, i_0, i_m1, l_0, nI_tI, iI_tI, lI_tI, Int.not_lt, Int.not_le] at c_110
                refine Wp.iconst (v := (nI 1)) dX12_wrong_114 (by decide) rfl ?_
                exact Wp.iret dX12_wrong_115 rfl (by rw [wrM, if_pos (by first | (left; omega) | (right; left; exact c_73) | (right; right; omega))]; exact ⟨rfl, rfl⟩)
