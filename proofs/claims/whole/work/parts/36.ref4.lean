/-! the reference's public methods: top, ratio, regret, calm, why -/
theorem npt_eq {σ : Sg} {o : Nat} (h0 : 0 < chn σ o) : npt σ o = (pts σ o).length := by rw [npt, if_pos h0]
theorem PtA.at {V : Nat → Value} {Z : Nat → Nat → Int64} {σ : Sg} {o : Nat} (h : PtA V Z σ o) (h0 : 0 < chn σ o) {k : Nat} (hk : k < npt σ o) : Z 25 k = lI (ptP σ o k) ∧ Z 26 k = lI (ptQ σ o k) ∧ Z 27 k = lI (ptL_ σ o k) := h.2 h0 k (by rw [← npt_eq h0]; exact hk)
theorem ptL_b {σ : Sg} (hW : Wf σ) {o k : Nat} (h0 : 0 < chn σ o) (hk : k < npt σ o) : (-10000 ≤ ptP σ o k ∧ ptP σ o k ≤ 10000) ∧ (0 < ptQ σ o k ∧ ptQ σ o k ≤ 10000) ∧ -14400000 ≤ ptL_ σ o k ∧ ptL_ σ o k ≤ 14400000 := by
  rw [npt_eq h0] at hk
  have hb := ptPQ_b hW h0 hk
  exact ⟨⟨hb.1, hb.2.1⟩, hb.2.2, mnN_b2 (PrB_ch hW o) h0 hb.1 hb.2.1 hb.2.2.1 hb.2.2.2⟩
theorem rgT_b {σ : Sg} (hW : Wf σ) {o c : Nat} (hc : c < chn σ o) : 0 ≤ (rgT σ o c).1 ∧ (rgT σ o c).1 ≤ 28800000 ∧ 0 < (rgT σ o c).2 ∧ (rgT σ o c).2 ≤ 10000 := rgN_b hW hc _ (Nat.le_refl _)
theorem abP_lt {σ : Sg} {o : Nat} (h0 : 0 < chn σ o) (k : Nat) : abP σ o k < chn σ o := bst_lt _ _ _ h0
theorem cmN_b {σ : Sg} (hW : Wf σ) {o : Nat} (h0 : 0 < chn σ o) : ∀ k, (-1 ≤ (cmN σ o k).1 ∧ (cmN σ o k).1 < chn σ o ∧ (0 < k → 0 ≤ (cmN σ o k).1)) ∧ 0 ≤ (cmN σ o k).2.1 ∧ (cmN σ o k).2.1 ≤ 28800000 ∧ 0 < (cmN σ o k).2.2 ∧ (cmN σ o k).2.2 ≤ 10000
  | 0 => by simp only [cmN]; omega
  | k + 1 => by
    have ih := cmN_b hW h0 k
    have h1 := rgT_b hW (abP_lt h0 k)
    have h2 := abP_lt h0 k
    simp only [cmN]
    split
    · dsimp only; omega
    · next hc =>
      refine ⟨⟨ih.1.1, ih.1.2.1, fun _ => ?_⟩, ih.2⟩
      have := ih.1
      omega
theorem lcN_b {N : Nt} (hN : NetWf N) {p q : Int} (hp : isP p q) {l : Nat} (hl : l < N.L) : -300000 ≤ lcN N p q l ∧ lcN N p q l ≤ 300000 := by
  have h := hN.2.2 l hl
  have m1 := mulb (a := N.sa l) (b := q) (A := 100) (C := 1000) (by omega) (by omega)
  have m2 := mulb (a := N.ri l) (b := p) (A := 20) (C := 10000) (by omega) (by omega)
  unfold lcN
  omega
set_option maxHeartbeats 2000000 in
theorem c_X12_top {B : ev_B} {d x : Nat} {h : ev_H} {V : Nat → Value} {G : Nat → Nat → Int32} {Z : Nat → Nat → Int64} {σ : Sg} {o w : Int32} (hM : MH h x V G Z) (hP : PM σ V G Z) (hW : Wf σ) (hd : 6 ≤ d) :
    Wp B d M_X12_top 0 [some (.ref x), some (.int (o)), some (.int (w)), none, none] [] h (RQ x h (σ) (.long (a_top σ o w))) := by
  have hn := hW.n
  have hT := hW.net.1
  have hL := hW.net.2.1
  refine Wp.aload_n dX12_top_0 rfl (by first | exact Or.inr ⟨_, rfl⟩ | exact Or.inl rfl) rfl ?_
  refine Wp.iload_n dX12_top_1 rfl rfl ?_
  refine Wp.cV dX12_top_2 cv_X12_115 rfl (by omega) rfl (Nat.le_of_ble_eq_true rfl) (Nat.le_of_ble_eq_true rfl) hM.ob rfl (c_X12_isOffer (d := d - 1) hM hP hW (by omega)) ?_
  rintro _ h_ ⟨rfl, e_⟩
  rw [e_]
  clear e_ h_
  dsimp only [Option.toList, List.drop, List.cons_append, List.nil_append]
  refine Wp.bif_eq (tgt := 25) (n := 8) dX12_top_5 (by decide) rfl (fun c_5 => ?_) (fun c_5 => ?_)
  · try simp only [decide_eq_true_eq, decide_eq_false_iff_not, Bool.and_eq_true, bI_0, bI_n0] at c_5
    refine Wp.ldc2 kc_X12_178 dX12_top_25 rfl ?_
    exact Wp.lret dX12_top_28 rfl (RQ.l (by simp (disch := omega) only [a_top, okL, okA, okWy, okPr, isO, okTl, okS, w01, okWn, okWh, nI_tI, iI_tI, tn_nI, nI_m1]; (repeat' split) <;> first | (exfalso; omega) | rfl) hM hP (Out.rfl (x := x) (h := h)))
  · try simp only [decide_eq_true_eq, decide_eq_false_iff_not, Bool.and_eq_true, bI_0, bI_n0] at c_5
    refine Wp.iload_n dX12_top_8 rfl rfl ?_
    refine Wp.iconst (v := (nI 0)) dX12_top_9 (by decide) rfl ?_
    refine Wp.iconst (v := (nI 3)) dX12_top_10 (by decide) rfl ?_
    refine Wp.cS dX12_top_11 cs_X12_85 rfl (by omega) rfl (Nat.le_of_ble_eq_true rfl) (Nat.le_of_ble_eq_true rfl) rfl (c_X12_in (d := d - 1)) ?_
    rintro _ h_ ⟨rfl, e_⟩
    rw [e_]
    clear e_ h_
    dsimp only [Option.toList, List.drop, List.cons_append, List.nil_append]
    try simp (disch := omega) only [nI_m1, nI_tI, i_0]
    refine Wp.bif_eq (tgt := 25) (n := 17) dX12_top_14 (by decide) rfl (fun c_14 => ?_) (fun c_14 => ?_)
    · try simp only [decide_eq_true_eq, decide_eq_false_iff_not, Bool.and_eq_true, bI_0, bI_n0] at c_14
      refine Wp.ldc2 kc_X12_178 dX12_top_25 rfl ?_
      exact Wp.lret dX12_top_28 rfl (RQ.l (by simp (disch := omega) only [a_top, okL, okA, okWy, okPr, isO, okTl, okS, w01, okWn, okWh, nI_tI, iI_tI, tn_nI, nI_m1]; (repeat' split) <;> first | (exfalso; omega) | rfl) hM hP (Out.rfl (x := x) (h := h)))
    · try simp only [decide_eq_true_eq, decide_eq_false_iff_not, Bool.and_eq_true, bI_0, bI_n0] at c_14
      obtain ⟨i, rfl, ho, ho2⟩ := as_nI (show 0 ≤ o.toInt ∧ o.toInt < σ.n by omega)
      have hO := hP.of i ho
      have hOw := hW.of i ho
      refine Wp.aload_n dX12_top_17 rfl (by first | exact Or.inr ⟨_, rfl⟩ | exact Or.inl rfl) rfl ?_
      refine Wp.iload_n dX12_top_18 rfl rfl ?_
      refine Wp.cV dX12_top_19 cv_X12_208 rfl (by omega) rfl (Nat.le_of_ble_eq_true rfl) (Nat.le_of_ble_eq_true rfl) hM.ob rfl (c_X12_prepares (d := d - 1) hM hP hW ho (by omega)) ?_
      rintro _ h2 ⟨rfl, V2, G2, Z2, hM2, o2, k2, hC2, hT2⟩
      have hP2 := hP.kp k2
      dsimp only [Option.toList, List.drop, List.cons_append, List.nil_append]
      have hnb := npt_b hW i
      refine Wp.bif_ne (tgt := 29) (n := 25) dX12_top_22 (by decide) rfl (fun c_22 => ?_) (fun c_22 => ?_)
      · try simp only [decide_eq_true_eq] at c_22
        refine Wp.iconst (v := (nI 0)) dX12_top_29 (by decide) rfl ?_
        refine Wp.istore_n dX12_top_30 (Nat.le_of_ble_eq_true rfl) (by dsimp only [ev_st1, ev_st2, ev_cl] <;> rfl) rfl ?_
        refine Wp.iconst (v := (nI 1)) dX12_top_31 (by decide) rfl ?_
        refine Wp.istore dX12_top_32 (Nat.le_of_ble_eq_true rfl) (by dsimp only [ev_st1, ev_st2, ev_cl] <;> rfl) rfl ?_
        have loop : ∀ k, k ≤ (npt σ i) → 0 < k → Wp B d M_X12_top 34 [some (.ref x), some (.int (nI i)), some (.int (w)), some (.int (nI (tpN (ptL_ σ i) (ptQ σ i) k))), some (.int (nI k))] [] h2 (RQ x h σ (.long (a_top σ (nI i) w))) := by
          refine ev_upl (npt σ i) (fun k hi ih => ?_) ?_
          · intro h0k
            have hk1 := hT2.at c_22 hi
            have hbk := tpN_le (ptL_ σ i) (ptQ σ i) k
            have hk0 := hT2.at c_22 (k := (tpN (ptL_ σ i) (ptQ σ i) k)) (by omega)
            have hb1 := ptL_b hW c_22 hi
            have hb0 := ptL_b hW c_22 (k := (tpN (ptL_ σ i) (ptQ σ i) k)) (by omega)
            have m1 := mulb (a := ptL_ σ i k) (b := ptQ σ i (tpN (ptL_ σ i) (ptQ σ i) k)) (A := 14400000) (C := 10000) (by omega) (by omega)
            have m2 := mulb (a := ptL_ σ i (tpN (ptL_ σ i) (ptQ σ i) k)) (b := ptQ σ i k) (A := 14400000) (C := 10000) (by omega) (by omega)
            refine Wp.iload dX12_top_34 rfl rfl ?_
            refine Wp.aload_n dX12_top_36 rfl (by first | exact Or.inr ⟨_, rfl⟩ | exact Or.inl rfl) rfl ?_
            refine Wp.get dX12_top_37 fl_X12_198 hM2.ob hT2.1 rfl ?_
            refine Wp.icmp_ge (tgt := 88) (n := 43) dX12_top_40 (by decide) rfl (fun c_40 => ?_) (fun c_40 => ?_)
            · try simp (disch := omega) only [nI_bit0, nI_bit1, Bool.not_eq_false, Bool.not_eq_true] at c_40
              try simp (disch := omega) only [i_lt, i_le, i_eq, l_lt, l_le, l_eq, i_0, i_m1, l_0, nI_tI, iI_tI, lI_tI, Int.not_lt, Int.not_le] at c_40
              omega
            · try simp (disch := omega) only [nI_bit0, nI_bit1, Bool.not_eq_false, Bool.not_eq_true] at c_40
              try simp (disch := omega) only [i_lt, i_le, i_eq, l_lt, l_le, l_eq, i_0, i_m1, l_0, nI_tI, iI_tI, lI_tI, Int.not_lt, Int.not_le] at c_40
              refine Wp.aload_n dX12_top_43 rfl (by first | exact Or.inr ⟨_, rfl⟩ | exact Or.inl rfl) rfl ?_
              refine Wp.get dX12_top_44 fl_X12_72 hM2.ob (hM2.rf 27 (by decide)) rfl ?_
              refine Wp.iload dX12_top_47 rfl rfl ?_
              refine Wp.laload dX12_top_49 (hM2.la 27 (by decide)) (nI_toInt (by omega)) (by show _ < 500; omega) rfl ?_
              rw [hk1.2.2]
              refine Wp.aload_n dX12_top_50 rfl (by first | exact Or.inr ⟨_, rfl⟩ | exact Or.inl rfl) rfl ?_
              refine Wp.get dX12_top_51 fl_X12_69 hM2.ob (hM2.rf 26 (by decide)) rfl ?_
              refine Wp.iload_n dX12_top_54 rfl rfl ?_
              refine Wp.laload dX12_top_55 (hM2.la 26 (by decide)) (nI_toInt (by omega)) (by show _ < 500; omega) rfl ?_
              rw [hk0.2.1]
              refine Wp.lmul dX12_top_56 rfl ?_
              rw [lI_mul]
              refine Wp.aload_n dX12_top_57 rfl (by first | exact Or.inr ⟨_, rfl⟩ | exact Or.inl rfl) rfl ?_
              refine Wp.get dX12_top_58 fl_X12_72 hM2.ob (hM2.rf 27 (by decide)) rfl ?_
              refine Wp.iload_n dX12_top_61 rfl rfl ?_
              refine Wp.laload dX12_top_62 (hM2.la 27 (by decide)) (nI_toInt (by omega)) (by show _ < 500; omega) rfl ?_
              rw [hk0.2.2]
              refine Wp.aload_n dX12_top_63 rfl (by first | exact Or.inr ⟨_, rfl⟩ | exact Or.inl rfl) rfl ?_
              refine Wp.get dX12_top_64 fl_X12_69 hM2.ob (hM2.rf 26 (by decide)) rfl ?_
              refine Wp.iload dX12_top_67 rfl rfl ?_
              refine Wp.laload dX12_top_69 (hM2.la 26 (by decide)) (nI_toInt (by omega)) (by show _ < 500; omega) rfl ?_
              rw [hk1.2.1]
              refine Wp.lmul dX12_top_70 rfl ?_
              rw [lI_mul]
              refine Wp.lcmp_le (tgt := 80) (n := 75) dX12_top_71 rfl dX12_top_72 (by decide) rfl (fun c_71 => ?_) (fun c_71 => ?_)
              · try simp (disch := omega) only [nI_bit0, nI_bit1, Bool.not_eq_false, Bool.not_eq_true] at c_71
                try simp (disch := omega) only [i_lt, i_le, i_eq, l_lt, l_le, l_eq, i_0, i_m1, l_0, nI_tI, iI_tI, lI_tI, Int.not_lt, Int.not_le] at c_71
                refine Wp.iload_n dX12_top_80 rfl rfl ?_
                refine Wp.istore_n dX12_top_81 (Nat.le_of_ble_eq_true rfl) (by dsimp only [ev_st1, ev_st2, ev_cl] <;> rfl) rfl ?_
                refine Wp.iinc (v := _ + (nI 1)) dX12_top_82 rfl rfl (Nat.le_of_ble_eq_true rfl) (by dsimp only [ev_st1, ev_cl] <;> rfl) rfl ?_
                refine Wp.goto (n := 34) dX12_top_85 (by decide) ?_
                rw [nI_add1]
                have hr : tpN (ptL_ σ i) (ptQ σ i) (k + 1) = if ptL_ σ i (tpN (ptL_ σ i) (ptQ σ i) k) * ptQ σ i k < ptL_ σ i k * ptQ σ i (tpN (ptL_ σ i) (ptQ σ i) k) then k else (tpN (ptL_ σ i) (ptQ σ i) k) := rfl
                first
                  | (rw [if_pos (by omega)] at hr; rw [hr] at ih; exact ih (by omega))
                  | (rw [if_neg (by omega)] at hr; rw [hr] at ih; exact ih (by omega))
              · try simp (disch := omega) only [nI_bit0, nI_bit1, Bool.not_eq_false, Bool.not_eq_true] at c_71
                try simp (disch := omega) only [i_lt, i_le, i_eq, l_lt, l_le, l_eq, i_0, i_m1, l_0, nI_tI, iI_tI, lI_tI, Int.not_lt, Int.not_le] at c_71
                refine Wp.iload dX12_top_75 rfl rfl ?_
                refine Wp.goto (n := 81) dX12_top_77 (by decide) ?_
                refine Wp.istore_n dX12_top_81 (Nat.le_of_ble_eq_true rfl) (by dsimp only [ev_st1, ev_st2, ev_cl] <;> rfl) rfl ?_
                refine Wp.iinc (v := _ + (nI 1)) dX12_top_82 rfl rfl (Nat.le_of_ble_eq_true rfl) (by dsimp only [ev_st1, ev_cl] <;> rfl) rfl ?_
                refine Wp.goto (n := 34) dX12_top_85 (by decide) ?_
                rw [nI_add1]
                have hr : tpN (ptL_ σ i) (ptQ σ i) (k + 1) = if ptL_ σ i (tpN (ptL_ σ i) (ptQ σ i) k) * ptQ σ i k < ptL_ σ i k * ptQ σ i (tpN (ptL_ σ i) (ptQ σ i) k) then k else (tpN (ptL_ σ i) (ptQ σ i) k) := rfl
                first
                  | (rw [if_pos (by omega)] at hr; rw [hr] at ih; exact ih (by omega))
                  | (rw [if_neg (by omega)] at hr; rw [hr] at ih; exact ih (by omega))
          · intro h0k
            refine Wp.iload dX12_top_34 rfl rfl ?_
            refine Wp.aload_n dX12_top_36 rfl (by first | exact Or.inr ⟨_, rfl⟩ | exact Or.inl rfl) rfl ?_
            refine Wp.get dX12_top_37 fl_X12_198 hM2.ob hT2.1 rfl ?_
            refine Wp.icmp_ge (tgt := 88) (n := 43) dX12_top_40 (by decide) rfl (fun c_40 => ?_) (fun c_40 => ?_)
            · try simp (disch := omega) only [nI_bit0, nI_bit1, Bool.not_eq_false, Bool.not_eq_true] at c_40
              try simp (disch := omega) only [i_lt, i_le, i_eq, l_lt, l_le, l_eq, i_0, i_m1, l_0, nI_tI, iI_tI, lI_tI, Int.not_lt, Int.not_le] at c_40
              have hbk := tpN_le (ptL_ σ i) (ptQ σ i) (npt σ i)
              have hk0 := hT2.at c_22 (k := (tpN (ptL_ σ i) (ptQ σ i) (npt σ i))) (by omega)
              have hb0 := ptL_b hW c_22 (k := (tpN (ptL_ σ i) (ptQ σ i) (npt σ i))) (by omega)
              obtain ⟨j, rfl, hj, hj2⟩ := as_nI (o := w) (n := 4) (by omega)
              have hjj : j = 0 ∨ j = 1 ∨ j = 2 ∨ j = 3 := by omega
              rcases hjj with rfl | rfl | rfl | rfl
              · refine Wp.iload_n dX12_top_88 rfl rfl ?_
                refine Wp.iconst (v := (nI 2)) dX12_top_89 (by decide) rfl ?_
                refine Wp.icmp_ge (tgt := 115) (n := 93) dX12_top_90 (by decide) rfl (fun c_ => absurd c_ (by decide)) (fun _ => ?_)
                refine Wp.iload_n dX12_top_93 rfl rfl ?_
                refine Wp.if_ne (tgt := 106) (n := 97) dX12_top_94 (by decide) rfl (fun c_ => absurd (by decide) c_) (fun _ => ?_)
                refine Wp.aload_n dX12_top_97 rfl (by first | exact Or.inr ⟨_, rfl⟩ | exact Or.inl rfl) rfl ?_
                refine Wp.get dX12_top_98 fl_X12_66 hM2.ob (hM2.rf 25 (by decide)) rfl ?_
                refine Wp.iload_n dX12_top_101 rfl rfl ?_
                refine Wp.laload dX12_top_102 (hM2.la 25 (by decide)) (nI_toInt (by omega)) (by show _ < 500; omega) rfl ?_
                rw [hk0.1]
                refine Wp.goto (n := 133) dX12_top_103 (by decide) ?_
                exact Wp.lret dX12_top_133 rfl (RQ.l (by rw [a_top, if_pos (by simp (disch := omega) only [isO, w01, nI_tI, tn_nI]; omega), tn_nI ho2, nI_tI (by decide)]; rfl) hM2 hP2 o2)
              · refine Wp.iload_n dX12_top_88 rfl rfl ?_
                refine Wp.iconst (v := (nI 2)) dX12_top_89 (by decide) rfl ?_
                refine Wp.icmp_ge (tgt := 115) (n := 93) dX12_top_90 (by decide) rfl (fun c_ => absurd c_ (by decide)) (fun _ => ?_)
                refine Wp.iload_n dX12_top_93 rfl rfl ?_
                refine Wp.if_ne (tgt := 106) (n := 97) dX12_top_94 (by decide) rfl (fun _ => ?_) (fun c_ => absurd c_ (by decide))
                refine Wp.aload_n dX12_top_106 rfl (by first | exact Or.inr ⟨_, rfl⟩ | exact Or.inl rfl) rfl ?_
                refine Wp.get dX12_top_107 fl_X12_69 hM2.ob (hM2.rf 26 (by decide)) rfl ?_
                refine Wp.iload_n dX12_top_110 rfl rfl ?_
                refine Wp.laload dX12_top_111 (hM2.la 26 (by decide)) (nI_toInt (by omega)) (by show _ < 500; omega) rfl ?_
                rw [hk0.2.1]
                refine Wp.goto (n := 133) dX12_top_112 (by decide) ?_
                exact Wp.lret dX12_top_133 rfl (RQ.l (by rw [a_top, if_pos (by simp (disch := omega) only [isO, w01, nI_tI, tn_nI]; omega), tn_nI ho2, nI_tI (by decide)]; rfl) hM2 hP2 o2)
              · refine Wp.iload_n dX12_top_88 rfl rfl ?_
                refine Wp.iconst (v := (nI 2)) dX12_top_89 (by decide) rfl ?_
                refine Wp.icmp_ge (tgt := 115) (n := 93) dX12_top_90 (by decide) rfl (fun _ => ?_) (fun c_ => absurd (by decide) c_)
                refine Wp.aload_n dX12_top_115 rfl (by first | exact Or.inr ⟨_, rfl⟩ | exact Or.inl rfl) rfl ?_
                refine Wp.get dX12_top_116 fl_X12_72 hM2.ob (hM2.rf 27 (by decide)) rfl ?_
                refine Wp.iload_n dX12_top_119 rfl rfl ?_
                refine Wp.laload dX12_top_120 (hM2.la 27 (by decide)) (nI_toInt (by omega)) (by show _ < 500; omega) rfl ?_
                rw [hk0.2.2]
                refine Wp.aload_n dX12_top_121 rfl (by first | exact Or.inr ⟨_, rfl⟩ | exact Or.inl rfl) rfl ?_
                refine Wp.get dX12_top_122 fl_X12_69 hM2.ob (hM2.rf 26 (by decide)) rfl ?_
                refine Wp.iload_n dX12_top_125 rfl rfl ?_
                refine Wp.laload dX12_top_126 (hM2.la 26 (by decide)) (nI_toInt (by omega)) (by show _ < 500; omega) rfl ?_
                rw [hk0.2.1]
                refine Wp.iload_n dX12_top_127 rfl rfl ?_
                refine Wp.iconst (v := (nI 2)) dX12_top_128 (by decide) rfl ?_
                refine Wp.isub dX12_top_129 rfl ?_
                refine Wp.cS dX12_top_130 cs_X12_180 rfl (by omega) rfl (Nat.le_of_ble_eq_true rfl) (Nat.le_of_ble_eq_true rfl) rfl (c_X12_lowest (d := d - 1) (sm_b (by omega) (by omega)) (sm_b (by omega) (by omega)) (gcd_posr (by omega)) (by omega)) ?_
                rintro _ h_ ⟨rfl, e_⟩
                rw [e_]
                clear e_ h_
                dsimp only [Option.toList, List.drop, List.cons_append, List.nil_append]
                exact Wp.lret dX12_top_133 rfl (RQ.l (by rw [a_top, if_pos (by simp (disch := omega) only [isO, w01, nI_tI, tn_nI]; omega), tn_nI ho2, nI_tI (by decide)]; rfl) hM2 hP2 o2)
              · refine Wp.iload_n dX12_top_88 rfl rfl ?_
                refine Wp.iconst (v := (nI 2)) dX12_top_89 (by decide) rfl ?_
                refine Wp.icmp_ge (tgt := 115) (n := 93) dX12_top_90 (by decide) rfl (fun _ => ?_) (fun c_ => absurd (by decide) c_)
                refine Wp.aload_n dX12_top_115 rfl (by first | exact Or.inr ⟨_, rfl⟩ | exact Or.inl rfl) rfl ?_
                refine Wp.get dX12_top_116 fl_X12_72 hM2.ob (hM2.rf 27 (by decide)) rfl ?_
                refine Wp.iload_n dX12_top_119 rfl rfl ?_
                refine Wp.laload dX12_top_120 (hM2.la 27 (by decide)) (nI_toInt (by omega)) (by show _ < 500; omega) rfl ?_
                rw [hk0.2.2]
                refine Wp.aload_n dX12_top_121 rfl (by first | exact Or.inr ⟨_, rfl⟩ | exact Or.inl rfl) rfl ?_
                refine Wp.get dX12_top_122 fl_X12_69 hM2.ob (hM2.rf 26 (by decide)) rfl ?_
                refine Wp.iload_n dX12_top_125 rfl rfl ?_
                refine Wp.laload dX12_top_126 (hM2.la 26 (by decide)) (nI_toInt (by omega)) (by show _ < 500; omega) rfl ?_
                rw [hk0.2.1]
                refine Wp.iload_n dX12_top_127 rfl rfl ?_
                refine Wp.iconst (v := (nI 2)) dX12_top_128 (by decide) rfl ?_
                refine Wp.isub dX12_top_129 rfl ?_
                refine Wp.cS dX12_top_130 cs_X12_180 rfl (by omega) rfl (Nat.le_of_ble_eq_true rfl) (Nat.le_of_ble_eq_true rfl) rfl (c_X12_lowest (d := d - 1) (sm_b (by omega) (by omega)) (sm_b (by omega) (by omega)) (gcd_posr (by omega)) (by omega)) ?_
                rintro _ h_ ⟨rfl, e_⟩
                rw [e_]
                clear e_ h_
                dsimp only [Option.toList, List.drop, List.cons_append, List.nil_append]
                exact Wp.lret dX12_top_133 rfl (RQ.l (by rw [a_top, if_pos (by simp (disch := omega) only [isO, w01, nI_tI, tn_nI]; omega), tn_nI ho2, nI_tI (by decide)]; rfl) hM2 hP2 o2)
            · try simp (disch := omega) only [nI_bit0, nI_bit1, Bool.not_eq_false, Bool.not_eq_true] at c_40
              try simp (disch := omega) only [i_lt, i_le, i_eq, l_lt, l_le, l_eq, i_0, i_m1, l_0, nI_tI, iI_tI, lI_tI, Int.not_lt, Int.not_le] at c_40
              omega
        rw [show (nI 0 : Int32) = nI (tpN (ptL_ σ i) (ptQ σ i) 1) by rw [tpN_1]]
        exact loop 1 (by omega) (by decide)
      · try simp only [decide_eq_false_iff_not] at c_22
        refine Wp.ldc2 kc_X12_178 dX12_top_25 rfl ?_
        exact Wp.lret dX12_top_28 rfl (RQ.l (by simp (disch := omega) only [a_top, okL, okA, okWy, okPr, isO, okTl, okS, w01, okWn, okWh, nI_tI, iI_tI, tn_nI, nI_m1]; (repeat' split) <;> first | (exfalso; omega) | rfl) hM2 hP2 o2)
theorem goB_all {R : Nat → Int} {n : Nat} : ∀ k, goB R n k = true → 0 < n ∧ ∀ j, j < k → 0 < R j
  | 0, h => ⟨of_decide_eq_true h, fun j hj => absurd hj (Nat.not_lt_zero j)⟩
  | k + 1, h => by
    simp only [goB, Bool.and_eq_true, decide_eq_true_eq] at h
    obtain ⟨h1, h2⟩ := goB_all k h.1
    refine ⟨h1, fun j hj => ?_⟩
    rcases Nat.lt_or_ge j k with g | g
    · exact h2 j g
    · have : j = k := by omega
      rw [this]; exact h.2
set_option maxHeartbeats 2000000 in
theorem c_X12_ratio {B : ev_B} {d x : Nat} {h : ev_H} {V : Nat → Value} {G : Nat → Nat → Int32} {Z : Nat → Nat → Int64} {σ : Sg} {o w : Int32} (hM : MH h x V G Z) (hP : PM σ V G Z) (hW : Wf σ) (hd : 5 ≤ d) :
    Wp B d M_X12_ratio 0 [some (.ref x), some (.int (o)), some (.int (w)), none, none, none] [] h (RQ x h (σ) (.long (a_ratio σ o w))) := by
  have hn := hW.n
  have hT := hW.net.1
  have hL := hW.net.2.1
  refine Wp.aload_n dX12_ratio_0 rfl (by first | exact Or.inr ⟨_, rfl⟩ | exact Or.inl rfl) rfl ?_
  refine Wp.iload_n dX12_ratio_1 rfl rfl ?_
  refine Wp.cV dX12_ratio_2 cv_X12_115 rfl (by omega) rfl (Nat.le_of_ble_eq_true rfl) (Nat.le_of_ble_eq_true rfl) hM.ob rfl (c_X12_isOffer (d := d - 1) hM hP hW (by omega)) ?_
  rintro _ h_ ⟨rfl, e_⟩
  rw [e_]
  clear e_ h_
  dsimp only [Option.toList, List.drop, List.cons_append, List.nil_append]
  refine Wp.bif_eq (tgt := 17) (n := 8) dX12_ratio_5 (by decide) rfl (fun c_5 => ?_) (fun c_5 => ?_)
  · try simp only [decide_eq_true_eq, decide_eq_false_iff_not, Bool.and_eq_true, bI_0, bI_n0] at c_5
    refine Wp.ldc2 kc_X12_178 dX12_ratio_17 rfl ?_
    exact Wp.lret dX12_ratio_20 rfl (RQ.l (by simp (disch := omega) only [a_ratio, okL, okA, okWy, okPr, isO, okTl, okS, w01, okWn, okWh, nI_tI, iI_tI, tn_nI, nI_m1]; (repeat' split) <;> first | (exfalso; omega) | rfl) hM hP (Out.rfl (x := x) (h := h)))
  · try simp only [decide_eq_true_eq, decide_eq_false_iff_not, Bool.and_eq_true, bI_0, bI_n0] at c_5
    refine Wp.iload_n dX12_ratio_8 rfl rfl ?_
    refine Wp.iconst (v := (nI 0)) dX12_ratio_9 (by decide) rfl ?_
    refine Wp.iconst (v := (nI 2)) dX12_ratio_10 (by decide) rfl ?_
    refine Wp.cS dX12_ratio_11 cs_X12_85 rfl (by omega) rfl (Nat.le_of_ble_eq_true rfl) (Nat.le_of_ble_eq_true rfl) rfl (c_X12_in (d := d - 1)) ?_
    rintro _ h_ ⟨rfl, e_⟩
    rw [e_]
    clear e_ h_
    dsimp only [Option.toList, List.drop, List.cons_append, List.nil_append]
    try simp (disch := omega) only [nI_m1, nI_tI, i_0]
    refine Wp.bif_ne (tgt := 21) (n := 17) dX12_ratio_14 (by decide) rfl (fun c_14 => ?_) (fun c_14 => ?_)
    · try simp only [decide_eq_true_eq, decide_eq_false_iff_not, Bool.and_eq_true, bI_0, bI_n0] at c_14
      obtain ⟨i, rfl, ho, ho2⟩ := as_nI (show 0 ≤ o.toInt ∧ o.toInt < σ.n by omega)
      have hO := hP.of i ho
      have hOw := hW.of i ho
      refine Wp.aload_n dX12_ratio_21 rfl (by first | exact Or.inr ⟨_, rfl⟩ | exact Or.inl rfl) rfl ?_
      refine Wp.iload_n dX12_ratio_22 rfl rfl ?_
      refine Wp.cV dX12_ratio_23 cv_X12_168 rfl (by omega) rfl (Nat.le_of_ble_eq_true rfl) (Nat.le_of_ble_eq_true rfl) hM.ob rfl (c_X12_gathers (d := d - 1) hM hP hW ho (by omega)) ?_
      rintro _ h2 ⟨rfl, V2, G2, hM2, o2, k2, l1, l2⟩
      have hC2 := ChA.of l1 l2
      have hP2 := hP.kp k2
      dsimp only [Option.toList, List.drop, List.cons_append, List.nil_append]
      have hcn := chn_le σ i
      have hB := PrB_ch hW i
      refine Wp.iconst (v := (nI 0)) dX12_ratio_26 (by decide) rfl ?_
      refine Wp.istore_n dX12_ratio_27 (Nat.le_of_ble_eq_true rfl) (by dsimp only [ev_st1, ev_st2, ev_cl] <;> rfl) rfl ?_
      refine Wp.aload_n dX12_ratio_28 rfl (by first | exact Or.inr ⟨_, rfl⟩ | exact Or.inl rfl) rfl ?_
      refine Wp.get dX12_ratio_29 fl_X12_150 hM2.ob hC2.1.1 rfl ?_
      refine Wp.if_le (tgt := 39) (n := 35) dX12_ratio_32 (by decide) rfl (fun c_32 => ?_) (fun c_32 => ?_)
      · try simp (disch := omega) only [nI_bit0, nI_bit1, Bool.not_eq_false, Bool.not_eq_true] at c_32
        try simp (disch := omega) only [i_lt, i_le, i_eq, l_lt, l_le, l_eq, i_0, i_m1, l_0, nI_tI, iI_tI, lI_tI, Int.not_lt, Int.not_le] at c_32
        refine Wp.iconst (v := (nI 0)) dX12_ratio_39 (by decide) rfl ?_
        refine Wp.istore dX12_ratio_40 (Nat.le_of_ble_eq_true rfl) (by dsimp only [ev_st1, ev_st2, ev_cl] <;> rfl) rfl ?_
        refine Wp.iconst (v := (nI 0)) dX12_ratio_42 (by decide) rfl ?_
        refine Wp.istore dX12_ratio_43 (Nat.le_of_ble_eq_true rfl) (by dsimp only [ev_st1, ev_st2, ev_cl] <;> rfl) rfl ?_
        have loop : ∀ k, k ≤ (chn σ i) → Wp B d M_X12_ratio 45 [some (.ref x), some (.int (nI i)), some (.int (w)), some (.int (nI (rtN (chS σ i) (chR σ i) k))), some (.int (bI (goB (chR σ i) (chn σ i) k))), some (.int (nI k))] [] h2 (RQ x h σ (.long (a_ratio σ (nI i) w))) := by
          refine ev_upl (chn σ i) (fun k hi ih => ?_) ?_
          · have hbk := rtN_le (chS σ i) (chR σ i) k
            have hkn : (rtN (chS σ i) (chR σ i) k) < chn σ i := by omega
            have hc1 := hC2.1.2 k hi
            have hc0 := hC2.1.2 _ hkn
            have hb1 := hB.2 k hi
            have hb0 := hB.2 _ hkn
            have m1 := mulb (a := chS σ i k) (b := chR σ i (rtN (chS σ i) (chR σ i) k)) (A := 1200) (C := 240) (by omega) (by omega)
            have m2 := mulb (a := chS σ i (rtN (chS σ i) (chR σ i) k)) (b := chR σ i k) (A := 1200) (C := 240) (by omega) (by omega)
            refine Wp.iload dX12_ratio_45 rfl rfl ?_
            refine Wp.aload_n dX12_ratio_47 rfl (by first | exact Or.inr ⟨_, rfl⟩ | exact Or.inl rfl) rfl ?_
            refine Wp.get dX12_ratio_48 fl_X12_150 hM2.ob hC2.1.1 rfl ?_
            refine Wp.icmp_ge (tgt := 125) (n := 54) dX12_ratio_51 (by decide) rfl (fun c_51 => ?_) (fun c_51 => ?_)
            · try simp (disch := omega) only [nI_bit0, nI_bit1, Bool.not_eq_false, Bool.not_eq_true] at c_51
              try simp (disch := omega) only [i_lt, i_le, i_eq, l_lt, l_le, l_eq, i_0, i_m1, l_0, nI_tI, iI_tI, lI_tI, Int.not_lt, Int.not_le] at c_51
              omega
            · try simp (disch := omega) only [nI_bit0, nI_bit1, Bool.not_eq_false, Bool.not_eq_true] at c_51
              try simp (disch := omega) only [i_lt, i_le, i_eq, l_lt, l_le, l_eq, i_0, i_m1, l_0, nI_tI, iI_tI, lI_tI, Int.not_lt, Int.not_le] at c_51
              refine Wp.iload dX12_ratio_54 rfl rfl ?_
              refine Wp.bif_eq (tgt := 73) (n := 59) dX12_ratio_56 (by decide) rfl (fun c_56 => ?_) (fun c_56 => ?_)
              · try simp only [decide_eq_true_eq, decide_eq_false_iff_not, Bool.and_eq_true, bI_0, bI_n0] at c_56
                refine Wp.iconst (v := (nI 0)) dX12_ratio_73 (by decide) rfl ?_
                refine Wp.istore dX12_ratio_74 (Nat.le_of_ble_eq_true rfl) (by dsimp only [ev_st1, ev_st2, ev_cl] <;> rfl) rfl ?_
                refine Wp.aload_n dX12_ratio_76 rfl (by first | exact Or.inr ⟨_, rfl⟩ | exact Or.inl rfl) rfl ?_
                refine Wp.get dX12_ratio_77 fl_X12_60 hM2.ob (hM2.rf 22 (by decide)) rfl ?_
                refine Wp.iload dX12_ratio_80 rfl rfl ?_
                refine Wp.iaload dX12_ratio_82 (hM2.ia 22 (by decide)) (nI_toInt (by omega)) (by show _ < 4096; omega) rfl ?_
                rw [hc1.1]
                refine Wp.i2l dX12_ratio_83 rfl ?_
                rw [iI_l (by omega) (by omega)]
                refine Wp.aload_n dX12_ratio_84 rfl (by first | exact Or.inr ⟨_, rfl⟩ | exact Or.inl rfl) rfl ?_
                refine Wp.get dX12_ratio_85 fl_X12_63 hM2.ob (hM2.rf 23 (by decide)) rfl ?_
                refine Wp.iload_n dX12_ratio_88 rfl rfl ?_
                refine Wp.iaload dX12_ratio_89 (hM2.ia 23 (by decide)) (nI_toInt (by omega)) (by show _ < 4096; omega) rfl ?_
                rw [hc0.2]
                refine Wp.i2l dX12_ratio_90 rfl ?_
                rw [iI_l (by omega) (by omega)]
                refine Wp.lmul dX12_ratio_91 rfl ?_
                rw [lI_mul]
                refine Wp.aload_n dX12_ratio_92 rfl (by first | exact Or.inr ⟨_, rfl⟩ | exact Or.inl rfl) rfl ?_
                refine Wp.get dX12_ratio_93 fl_X12_60 hM2.ob (hM2.rf 22 (by decide)) rfl ?_
                refine Wp.iload_n dX12_ratio_96 rfl rfl ?_
                refine Wp.iaload dX12_ratio_97 (hM2.ia 22 (by decide)) (nI_toInt (by omega)) (by show _ < 4096; omega) rfl ?_
                rw [hc0.1]
                refine Wp.i2l dX12_ratio_98 rfl ?_
                rw [iI_l (by omega) (by omega)]
                refine Wp.aload_n dX12_ratio_99 rfl (by first | exact Or.inr ⟨_, rfl⟩ | exact Or.inl rfl) rfl ?_
                refine Wp.get dX12_ratio_100 fl_X12_63 hM2.ob (hM2.rf 23 (by decide)) rfl ?_
                refine Wp.iload dX12_ratio_103 rfl rfl ?_
                refine Wp.iaload dX12_ratio_105 (hM2.ia 23 (by decide)) (nI_toInt (by omega)) (by show _ < 4096; omega) rfl ?_
                rw [hc1.2]
                refine Wp.i2l dX12_ratio_106 rfl ?_
                rw [iI_l (by omega) (by omega)]
                refine Wp.lmul dX12_ratio_107 rfl ?_
                rw [lI_mul]
                refine Wp.lcmp_ge (tgt := 117) (n := 112) dX12_ratio_108 rfl dX12_ratio_109 (by decide) rfl (fun c_108 => ?_) (fun c_108 => ?_)
                · try simp (disch := omega) only [nI_bit0, nI_bit1, Bool.not_eq_false, Bool.not_eq_true] at c_108
                  try simp (disch := omega) only [i_lt, i_le, i_eq, l_lt, l_le, l_eq, i_0, i_m1, l_0, nI_tI, iI_tI, lI_tI, Int.not_lt, Int.not_le] at c_108
                  refine Wp.iload_n dX12_ratio_117 rfl rfl ?_
                  refine Wp.istore_n dX12_ratio_118 (Nat.le_of_ble_eq_true rfl) (by dsimp only [ev_st1, ev_st2, ev_cl] <;> rfl) rfl ?_
                  refine Wp.iinc (v := _ + (nI 1)) dX12_ratio_119 rfl rfl (Nat.le_of_ble_eq_true rfl) (by dsimp only [ev_st1, ev_cl] <;> rfl) rfl ?_
                  refine Wp.goto (n := 45) dX12_ratio_122 (by decide) ?_
                  rw [nI_add1, bI_f (b := goB (chR σ i) (chn σ i) (k + 1)) (by simp only [goB, Bool.and_eq_false_iff, decide_eq_false_iff_not]; first | exact Or.inl c_56 | exact Or.inr (by omega))]
                  have hr : rtN (chS σ i) (chR σ i) (k + 1) = if chS σ i k * chR σ i (rtN (chS σ i) (chR σ i) k) < chS σ i (rtN (chS σ i) (chR σ i) k) * chR σ i k then k else (rtN (chS σ i) (chR σ i) k) := rfl
                  first
                    | (rw [if_pos (by omega)] at hr; rw [hr] at ih; exact ih)
                    | (rw [if_neg (by omega)] at hr; rw [hr] at ih; exact ih)
                · try simp (disch := omega) only [nI_bit0, nI_bit1, Bool.not_eq_false, Bool.not_eq_true] at c_108
                  try simp (disch := omega) only [i_lt, i_le, i_eq, l_lt, l_le, l_eq, i_0, i_m1, l_0, nI_tI, iI_tI, lI_tI, Int.not_lt, Int.not_le] at c_108
                  refine Wp.iload dX12_ratio_112 rfl rfl ?_
                  refine Wp.goto (n := 118) dX12_ratio_114 (by decide) ?_
                  refine Wp.istore_n dX12_ratio_118 (Nat.le_of_ble_eq_true rfl) (by dsimp only [ev_st1, ev_st2, ev_cl] <;> rfl) rfl ?_
                  refine Wp.iinc (v := _ + (nI 1)) dX12_ratio_119 rfl rfl (Nat.le_of_ble_eq_true rfl) (by dsimp only [ev_st1, ev_cl] <;> rfl) rfl ?_
                  refine Wp.goto (n := 45) dX12_ratio_122 (by decide) ?_
                  rw [nI_add1, bI_f (b := goB (chR σ i) (chn σ i) (k + 1)) (by simp only [goB, Bool.and_eq_false_iff, decide_eq_false_iff_not]; first | exact Or.inl c_56 | exact Or.inr (by omega))]
                  have hr : rtN (chS σ i) (chR σ i) (k + 1) = if chS σ i k * chR σ i (rtN (chS σ i) (chR σ i) k) < chS σ i (rtN (chS σ i) (chR σ i) k) * chR σ i k then k else (rtN (chS σ i) (chR σ i) k) := rfl
                  first
                    | (rw [if_pos (by omega)] at hr; rw [hr] at ih; exact ih)
                    | (rw [if_neg (by omega)] at hr; rw [hr] at ih; exact ih)
              · try simp only [decide_eq_true_eq, decide_eq_false_iff_not, Bool.and_eq_true, bI_0, bI_n0] at c_56
                refine Wp.aload_n dX12_ratio_59 rfl (by first | exact Or.inr ⟨_, rfl⟩ | exact Or.inl rfl) rfl ?_
                refine Wp.get dX12_ratio_60 fl_X12_63 hM2.ob (hM2.rf 23 (by decide)) rfl ?_
                refine Wp.iload dX12_ratio_63 rfl rfl ?_
                refine Wp.iaload dX12_ratio_65 (hM2.ia 23 (by decide)) (nI_toInt (by omega)) (by show _ < 4096; omega) rfl ?_
                rw [hc1.2]
                refine Wp.if_le (tgt := 73) (n := 69) dX12_ratio_66 (by decide) rfl (fun c_66 => ?_) (fun c_66 => ?_)
                · try simp (disch := omega) only [nI_bit0, nI_bit1, Bool.not_eq_false, Bool.not_eq_true] at c_66
                  try simp (disch := omega) only [i_lt, i_le, i_eq, l_lt, l_le, l_eq, i_0, i_m1, l_0, nI_tI, iI_tI, lI_tI, Int.not_lt, Int.not_le] at c_66
                  refine Wp.iconst (v := (nI 0)) dX12_ratio_73 (by decide) rfl ?_
                  refine Wp.istore dX12_ratio_74 (Nat.le_of_ble_eq_true rfl) (by dsimp only [ev_st1, ev_st2, ev_cl] <;> rfl) rfl ?_
                  refine Wp.aload_n dX12_ratio_76 rfl (by first | exact Or.inr ⟨_, rfl⟩ | exact Or.inl rfl) rfl ?_
                  refine Wp.get dX12_ratio_77 fl_X12_60 hM2.ob (hM2.rf 22 (by decide)) rfl ?_
                  refine Wp.iload dX12_ratio_80 rfl rfl ?_
                  refine Wp.iaload dX12_ratio_82 (hM2.ia 22 (by decide)) (nI_toInt (by omega)) (by show _ < 4096; omega) rfl ?_
                  rw [hc1.1]
                  refine Wp.i2l dX12_ratio_83 rfl ?_
                  rw [iI_l (by omega) (by omega)]
                  refine Wp.aload_n dX12_ratio_84 rfl (by first | exact Or.inr ⟨_, rfl⟩ | exact Or.inl rfl) rfl ?_
                  refine Wp.get dX12_ratio_85 fl_X12_63 hM2.ob (hM2.rf 23 (by decide)) rfl ?_
                  refine Wp.iload_n dX12_ratio_88 rfl rfl ?_
                  refine Wp.iaload dX12_ratio_89 (hM2.ia 23 (by decide)) (nI_toInt (by omega)) (by show _ < 4096; omega) rfl ?_
                  rw [hc0.2]
                  refine Wp.i2l dX12_ratio_90 rfl ?_
                  rw [iI_l (by omega) (by omega)]
                  refine Wp.lmul dX12_ratio_91 rfl ?_
                  rw [lI_mul]
                  refine Wp.aload_n dX12_ratio_92 rfl (by first | exact Or.inr ⟨_, rfl⟩ | exact Or.inl rfl) rfl ?_
                  refine Wp.get dX12_ratio_93 fl_X12_60 hM2.ob (hM2.rf 22 (by decide)) rfl ?_
                  refine Wp.iload_n dX12_ratio_96 rfl rfl ?_
                  refine Wp.iaload dX12_ratio_97 (hM2.ia 22 (by decide)) (nI_toInt (by omega)) (by show _ < 4096; omega) rfl ?_
                  rw [hc0.1]
                  refine Wp.i2l dX12_ratio_98 rfl ?_
                  rw [iI_l (by omega) (by omega)]
                  refine Wp.aload_n dX12_ratio_99 rfl (by first | exact Or.inr ⟨_, rfl⟩ | exact Or.inl rfl) rfl ?_
                  refine Wp.get dX12_ratio_100 fl_X12_63 hM2.ob (hM2.rf 23 (by decide)) rfl ?_
                  refine Wp.iload dX12_ratio_103 rfl rfl ?_
                  refine Wp.iaload dX12_ratio_105 (hM2.ia 23 (by decide)) (nI_toInt (by omega)) (by show _ < 4096; omega) rfl ?_
                  rw [hc1.2]
                  refine Wp.i2l dX12_ratio_106 rfl ?_
                  rw [iI_l (by omega) (by omega)]
                  refine Wp.lmul dX12_ratio_107 rfl ?_
                  rw [lI_mul]
                  refine Wp.lcmp_ge (tgt := 117) (n := 112) dX12_ratio_108 rfl dX12_ratio_109 (by decide) rfl (fun c_108 => ?_) (fun c_108 => ?_)
                  · try simp (disch := omega) only [nI_bit0, nI_bit1, Bool.not_eq_false, Bool.not_eq_true] at c_108
                    try simp (disch := omega) only [i_lt, i_le, i_eq, l_lt, l_le, l_eq, i_0, i_m1, l_0, nI_tI, iI_tI, lI_tI, Int.not_lt, Int.not_le] at c_108
                    refine Wp.iload_n dX12_ratio_117 rfl rfl ?_
                    refine Wp.istore_n dX12_ratio_118 (Nat.le_of_ble_eq_true rfl) (by dsimp only [ev_st1, ev_st2, ev_cl] <;> rfl) rfl ?_
                    refine Wp.iinc (v := _ + (nI 1)) dX12_ratio_119 rfl rfl (Nat.le_of_ble_eq_true rfl) (by dsimp only [ev_st1, ev_cl] <;> rfl) rfl ?_
                    refine Wp.goto (n := 45) dX12_ratio_122 (by decide) ?_
                    rw [nI_add1, bI_f (b := goB (chR σ i) (chn σ i) (k + 1)) (by simp only [goB, Bool.and_eq_false_iff, decide_eq_false_iff_not]; first | exact Or.inl c_56 | exact Or.inr (by omega))]
                    have hr : rtN (chS σ i) (chR σ i) (k + 1) = if chS σ i k * chR σ i (rtN (chS σ i) (chR σ i) k) < chS σ i (rtN (chS σ i) (chR σ i) k) * chR σ i k then k else (rtN (chS σ i) (chR σ i) k) := rfl
                    first
                      | (rw [if_pos (by omega)] at hr; rw [hr] at ih; exact ih)
                      | (rw [if_neg (by omega)] at hr; rw [hr] at ih; exact ih)
                  · try simp (disch := omega) only [nI_bit0, nI_bit1, Bool.not_eq_false, Bool.not_eq_true] at c_108
                    try simp (disch := omega) only [i_lt, i_le, i_eq, l_lt, l_le, l_eq, i_0, i_m1, l_0, nI_tI, iI_tI, lI_tI, Int.not_lt, Int.not_le] at c_108
                    refine Wp.iload dX12_ratio_112 rfl rfl ?_
                    refine Wp.goto (n := 118) dX12_ratio_114 (by decide) ?_
                    refine Wp.istore_n dX12_ratio_118 (Nat.le_of_ble_eq_true rfl) (by dsimp only [ev_st1, ev_st2, ev_cl] <;> rfl) rfl ?_
                    refine Wp.iinc (v := _ + (nI 1)) dX12_ratio_119 rfl rfl (Nat.le_of_ble_eq_true rfl) (by dsimp only [ev_st1, ev_cl] <;> rfl) rfl ?_
                    refine Wp.goto (n := 45) dX12_ratio_122 (by decide) ?_
                    rw [nI_add1, bI_f (b := goB (chR σ i) (chn σ i) (k + 1)) (by simp only [goB, Bool.and_eq_false_iff, decide_eq_false_iff_not]; first | exact Or.inl c_56 | exact Or.inr (by omega))]
                    have hr : rtN (chS σ i) (chR σ i) (k + 1) = if chS σ i k * chR σ i (rtN (chS σ i) (chR σ i) k) < chS σ i (rtN (chS σ i) (chR σ i) k) * chR σ i k then k else (rtN (chS σ i) (chR σ i) k) := rfl
                    first
                      | (rw [if_pos (by omega)] at hr; rw [hr] at ih; exact ih)
                      | (rw [if_neg (by omega)] at hr; rw [hr] at ih; exact ih)
                · try simp (disch := omega) only [nI_bit0, nI_bit1, Bool.not_eq_false, Bool.not_eq_true] at c_66
                  try simp (disch := omega) only [i_lt, i_le, i_eq, l_lt, l_le, l_eq, i_0, i_m1, l_0, nI_tI, iI_tI, lI_tI, Int.not_lt, Int.not_le] at c_66
                  refine Wp.iconst (v := (nI 1)) dX12_ratio_69 (by decide) rfl ?_
                  refine Wp.goto (n := 74) dX12_ratio_70 (by decide) ?_
                  refine Wp.istore dX12_ratio_74 (Nat.le_of_ble_eq_true rfl) (by dsimp only [ev_st1, ev_st2, ev_cl] <;> rfl) rfl ?_
                  refine Wp.aload_n dX12_ratio_76 rfl (by first | exact Or.inr ⟨_, rfl⟩ | exact Or.inl rfl) rfl ?_
                  refine Wp.get dX12_ratio_77 fl_X12_60 hM2.ob (hM2.rf 22 (by decide)) rfl ?_
                  refine Wp.iload dX12_ratio_80 rfl rfl ?_
                  refine Wp.iaload dX12_ratio_82 (hM2.ia 22 (by decide)) (nI_toInt (by omega)) (by show _ < 4096; omega) rfl ?_
                  rw [hc1.1]
                  refine Wp.i2l dX12_ratio_83 rfl ?_
                  rw [iI_l (by omega) (by omega)]
                  refine Wp.aload_n dX12_ratio_84 rfl (by first | exact Or.inr ⟨_, rfl⟩ | exact Or.inl rfl) rfl ?_
                  refine Wp.get dX12_ratio_85 fl_X12_63 hM2.ob (hM2.rf 23 (by decide)) rfl ?_
                  refine Wp.iload_n dX12_ratio_88 rfl rfl ?_
                  refine Wp.iaload dX12_ratio_89 (hM2.ia 23 (by decide)) (nI_toInt (by omega)) (by show _ < 4096; omega) rfl ?_
                  rw [hc0.2]
                  refine Wp.i2l dX12_ratio_90 rfl ?_
                  rw [iI_l (by omega) (by omega)]
                  refine Wp.lmul dX12_ratio_91 rfl ?_
                  rw [lI_mul]
                  refine Wp.aload_n dX12_ratio_92 rfl (by first | exact Or.inr ⟨_, rfl⟩ | exact Or.inl rfl) rfl ?_
                  refine Wp.get dX12_ratio_93 fl_X12_60 hM2.ob (hM2.rf 22 (by decide)) rfl ?_
                  refine Wp.iload_n dX12_ratio_96 rfl rfl ?_
                  refine Wp.iaload dX12_ratio_97 (hM2.ia 22 (by decide)) (nI_toInt (by omega)) (by show _ < 4096; omega) rfl ?_
                  rw [hc0.1]
                  refine Wp.i2l dX12_ratio_98 rfl ?_
                  rw [iI_l (by omega) (by omega)]
                  refine Wp.aload_n dX12_ratio_99 rfl (by first | exact Or.inr ⟨_, rfl⟩ | exact Or.inl rfl) rfl ?_
                  refine Wp.get dX12_ratio_100 fl_X12_63 hM2.ob (hM2.rf 23 (by decide)) rfl ?_
                  refine Wp.iload dX12_ratio_103 rfl rfl ?_
                  refine Wp.iaload dX12_ratio_105 (hM2.ia 23 (by decide)) (nI_toInt (by omega)) (by show _ < 4096; omega) rfl ?_
                  rw [hc1.2]
                  refine Wp.i2l dX12_ratio_106 rfl ?_
                  rw [iI_l (by omega) (by omega)]
                  refine Wp.lmul dX12_ratio_107 rfl ?_
                  rw [lI_mul]
                  refine Wp.lcmp_ge (tgt := 117) (n := 112) dX12_ratio_108 rfl dX12_ratio_109 (by decide) rfl (fun c_108 => ?_) (fun c_108 => ?_)
                  · try simp (disch := omega) only [nI_bit0, nI_bit1, Bool.not_eq_false, Bool.not_eq_true] at c_108
                    try simp (disch := omega) only [i_lt, i_le, i_eq, l_lt, l_le, l_eq, i_0, i_m1, l_0, nI_tI, iI_tI, lI_tI, Int.not_lt, Int.not_le] at c_108
                    refine Wp.iload_n dX12_ratio_117 rfl rfl ?_
                    refine Wp.istore_n dX12_ratio_118 (Nat.le_of_ble_eq_true rfl) (by dsimp only [ev_st1, ev_st2, ev_cl] <;> rfl) rfl ?_
                    refine Wp.iinc (v := _ + (nI 1)) dX12_ratio_119 rfl rfl (Nat.le_of_ble_eq_true rfl) (by dsimp only [ev_st1, ev_cl] <;> rfl) rfl ?_
                    refine Wp.goto (n := 45) dX12_ratio_122 (by decide) ?_
                    rw [nI_add1, bI_t (b := goB (chR σ i) (chn σ i) (k + 1)) (by simp only [goB, Bool.and_eq_true, decide_eq_true_eq]; exact ⟨c_56, by omega⟩)]
                    have hr : rtN (chS σ i) (chR σ i) (k + 1) = if chS σ i k * chR σ i (rtN (chS σ i) (chR σ i) k) < chS σ i (rtN (chS σ i) (chR σ i) k) * chR σ i k then k else (rtN (chS σ i) (chR σ i) k) := rfl
                    first
                      | (rw [if_pos (by omega)] at hr; rw [hr] at ih; exact ih)
                      | (rw [if_neg (by omega)] at hr; rw [hr] at ih; exact ih)
                  · try simp (disch := omega) only [nI_bit0, nI_bit1, Bool.not_eq_false, Bool.not_eq_true] at c_108
                    try simp (disch := omega) only [i_lt, i_le, i_eq, l_lt, l_le, l_eq, i_0, i_m1, l_0, nI_tI, iI_tI, lI_tI, Int.not_lt, Int.not_le] at c_108
                    refine Wp.iload dX12_ratio_112 rfl rfl ?_
                    refine Wp.goto (n := 118) dX12_ratio_114 (by decide) ?_
                    refine Wp.istore_n dX12_ratio_118 (Nat.le_of_ble_eq_true rfl) (by dsimp only [ev_st1, ev_st2, ev_cl] <;> rfl) rfl ?_
                    refine Wp.iinc (v := _ + (nI 1)) dX12_ratio_119 rfl rfl (Nat.le_of_ble_eq_true rfl) (by dsimp only [ev_st1, ev_cl] <;> rfl) rfl ?_
                    refine Wp.goto (n := 45) dX12_ratio_122 (by decide) ?_
                    rw [nI_add1, bI_t (b := goB (chR σ i) (chn σ i) (k + 1)) (by simp only [goB, Bool.and_eq_true, decide_eq_true_eq]; exact ⟨c_56, by omega⟩)]
                    have hr : rtN (chS σ i) (chR σ i) (k + 1) = if chS σ i k * chR σ i (rtN (chS σ i) (chR σ i) k) < chS σ i (rtN (chS σ i) (chR σ i) k) * chR σ i k then k else (rtN (chS σ i) (chR σ i) k) := rfl
                    first
                      | (rw [if_pos (by omega)] at hr; rw [hr] at ih; exact ih)
                      | (rw [if_neg (by omega)] at hr; rw [hr] at ih; exact ih)
          · refine Wp.iload dX12_ratio_45 rfl rfl ?_
            refine Wp.aload_n dX12_ratio_47 rfl (by first | exact Or.inr ⟨_, rfl⟩ | exact Or.inl rfl) rfl ?_
            refine Wp.get dX12_ratio_48 fl_X12_150 hM2.ob hC2.1.1 rfl ?_
            refine Wp.icmp_ge (tgt := 125) (n := 54) dX12_ratio_51 (by decide) rfl (fun c_51 => ?_) (fun c_51 => ?_)
            · try simp (disch := omega) only [nI_bit0, nI_bit1, Bool.not_eq_false, Bool.not_eq_true] at c_51
              try simp (disch := omega) only [i_lt, i_le, i_eq, l_lt, l_le, l_eq, i_0, i_m1, l_0, nI_tI, iI_tI, lI_tI, Int.not_lt, Int.not_le] at c_51
              refine Wp.iload dX12_ratio_125 rfl rfl ?_
              refine Wp.bif_ne (tgt := 134) (n := 130) dX12_ratio_127 (by decide) rfl (fun c_127 => ?_) (fun c_127 => ?_)
              · skip
                have hg := goB_all _ c_127
                have hkn : (rtN (chS σ i) (chR σ i) (chn σ i)) < chn σ i := (rtN_le (chS σ i) (chR σ i) (chn σ i)).2 hg.1
                have hrp := hg.2 _ hkn
                have hc0 := hC2.1.2 _ hkn
                have hb0 := hB.2 _ hkn
                obtain ⟨j, rfl, hj, hj2⟩ := as_nI (o := w) (n := 3) (by omega)
                have hjj : j = 0 ∨ j = 1 ∨ j = 2 := by omega
                rcases hjj with rfl | rfl | rfl
                · refine Wp.iload_n dX12_ratio_134 rfl rfl ?_
                  refine Wp.iconst (v := (nI 2)) dX12_ratio_135 (by decide) rfl ?_
                  refine Wp.icmp_ne (tgt := 149) (n := 139) dX12_ratio_136 (by decide) rfl (fun _ => ?_) (fun c_ => absurd c_ (by decide))
                  refine Wp.aload_n dX12_ratio_149 rfl (by first | exact Or.inr ⟨_, rfl⟩ | exact Or.inl rfl) rfl ?_
                  refine Wp.get dX12_ratio_150 fl_X12_60 hM2.ob (hM2.rf 22 (by decide)) rfl ?_
                  refine Wp.iload_n dX12_ratio_153 rfl rfl ?_
                  refine Wp.iaload dX12_ratio_154 (hM2.ia 22 (by decide)) (nI_toInt (by omega)) (by show _ < 4096; omega) rfl ?_
                  rw [hc0.1]
                  refine Wp.i2l dX12_ratio_155 rfl ?_
                  rw [iI_l (by omega) (by omega)]
                  refine Wp.aload_n dX12_ratio_156 rfl (by first | exact Or.inr ⟨_, rfl⟩ | exact Or.inl rfl) rfl ?_
                  refine Wp.get dX12_ratio_157 fl_X12_63 hM2.ob (hM2.rf 23 (by decide)) rfl ?_
                  refine Wp.iload_n dX12_ratio_160 rfl rfl ?_
                  refine Wp.iaload dX12_ratio_161 (hM2.ia 23 (by decide)) (nI_toInt (by omega)) (by show _ < 4096; omega) rfl ?_
                  rw [hc0.2]
                  refine Wp.i2l dX12_ratio_162 rfl ?_
                  rw [iI_l (by omega) (by omega)]
                  refine Wp.iload_n dX12_ratio_163 rfl rfl ?_
                  refine Wp.cS dX12_ratio_164 cs_X12_180 rfl (by omega) rfl (Nat.le_of_ble_eq_true rfl) (Nat.le_of_ble_eq_true rfl) rfl (c_X12_lowest (d := d - 1) (sm_b (by omega) (by omega)) (sm_b (by omega) (by omega)) (gcd_posr (by omega)) (by omega)) ?_
                  rintro _ h_ ⟨rfl, e_⟩
                  rw [e_]
                  clear e_ h_
                  dsimp only [Option.toList, List.drop, List.cons_append, List.nil_append]
                  exact Wp.lret dX12_ratio_167 rfl (RQ.l (by rw [a_ratio, if_pos ⟨(show isO σ (nI i) by have e_ := nI_tI ho2; omega), by simp (disch := omega) only [w01, nI_tI]; omega, by rw [tn_nI ho2]; exact c_127⟩, tn_nI ho2, nI_tI (by decide)]; rfl) hM2 hP2 o2)
                · refine Wp.iload_n dX12_ratio_134 rfl rfl ?_
                  refine Wp.iconst (v := (nI 2)) dX12_ratio_135 (by decide) rfl ?_
                  refine Wp.icmp_ne (tgt := 149) (n := 139) dX12_ratio_136 (by decide) rfl (fun _ => ?_) (fun c_ => absurd c_ (by decide))
                  refine Wp.aload_n dX12_ratio_149 rfl (by first | exact Or.inr ⟨_, rfl⟩ | exact Or.inl rfl) rfl ?_
                  refine Wp.get dX12_ratio_150 fl_X12_60 hM2.ob (hM2.rf 22 (by decide)) rfl ?_
                  refine Wp.iload_n dX12_ratio_153 rfl rfl ?_
                  refine Wp.iaload dX12_ratio_154 (hM2.ia 22 (by decide)) (nI_toInt (by omega)) (by show _ < 4096; omega) rfl ?_
                  rw [hc0.1]
                  refine Wp.i2l dX12_ratio_155 rfl ?_
                  rw [iI_l (by omega) (by omega)]
                  refine Wp.aload_n dX12_ratio_156 rfl (by first | exact Or.inr ⟨_, rfl⟩ | exact Or.inl rfl) rfl ?_
                  refine Wp.get dX12_ratio_157 fl_X12_63 hM2.ob (hM2.rf 23 (by decide)) rfl ?_
                  refine Wp.iload_n dX12_ratio_160 rfl rfl ?_
                  refine Wp.iaload dX12_ratio_161 (hM2.ia 23 (by decide)) (nI_toInt (by omega)) (by show _ < 4096; omega) rfl ?_
                  rw [hc0.2]
                  refine Wp.i2l dX12_ratio_162 rfl ?_
                  rw [iI_l (by omega) (by omega)]
                  refine Wp.iload_n dX12_ratio_163 rfl rfl ?_
                  refine Wp.cS dX12_ratio_164 cs_X12_180 rfl (by omega) rfl (Nat.le_of_ble_eq_true rfl) (Nat.le_of_ble_eq_true rfl) rfl (c_X12_lowest (d := d - 1) (sm_b (by omega) (by omega)) (sm_b (by omega) (by omega)) (gcd_posr (by omega)) (by omega)) ?_
                  rintro _ h_ ⟨rfl, e_⟩
                  rw [e_]
                  clear e_ h_
                  dsimp only [Option.toList, List.drop, List.cons_append, List.nil_append]
                  exact Wp.lret dX12_ratio_167 rfl (RQ.l (by rw [a_ratio, if_pos ⟨(show isO σ (nI i) by have e_ := nI_tI ho2; omega), by simp (disch := omega) only [w01, nI_tI]; omega, by rw [tn_nI ho2]; exact c_127⟩, tn_nI ho2, nI_tI (by decide)]; rfl) hM2 hP2 o2)
                · refine Wp.iload_n dX12_ratio_134 rfl rfl ?_
                  refine Wp.iconst (v := (nI 2)) dX12_ratio_135 (by decide) rfl ?_
                  refine Wp.icmp_ne (tgt := 149) (n := 139) dX12_ratio_136 (by decide) rfl (fun c_ => absurd (by decide) c_) (fun _ => ?_)
                  refine Wp.aload_n dX12_ratio_139 rfl (by first | exact Or.inr ⟨_, rfl⟩ | exact Or.inl rfl) rfl ?_
                  refine Wp.get dX12_ratio_140 fl_X12_57 hM2.ob (hM2.rf 21 (by decide)) rfl ?_
                  refine Wp.iload_n dX12_ratio_143 rfl rfl ?_
                  refine Wp.iaload dX12_ratio_144 (hM2.ia 21 (by decide)) (nI_toInt (by omega)) (by show _ < 4096; omega) rfl ?_
                  rw [hC2.2 _ hkn]
                  refine Wp.i2l dX12_ratio_145 rfl ?_
                  rw [nI_lI (by have := chC_lt σ i (rtN (chS σ i) (chR σ i) (chn σ i)); omega)]
                  refine Wp.goto (n := 167) dX12_ratio_146 (by decide) ?_
                  exact Wp.lret dX12_ratio_167 rfl (RQ.l (by rw [a_ratio, if_pos ⟨(show isO σ (nI i) by have e_ := nI_tI ho2; omega), by simp (disch := omega) only [w01, nI_tI]; omega, by rw [tn_nI ho2]; exact c_127⟩, tn_nI ho2, nI_tI (by decide)]; rfl) hM2 hP2 o2)
              · skip
                refine Wp.ldc2 kc_X12_178 dX12_ratio_130 rfl ?_
                exact Wp.lret dX12_ratio_133 rfl (RQ.l (by rw [a_ratio, if_neg (fun z => by have z1 := z.2.2; rw [tn_nI ho2, c_127] at z1; cases z1)]) hM2 hP2 o2)
            · try simp (disch := omega) only [nI_bit0, nI_bit1, Bool.not_eq_false, Bool.not_eq_true] at c_51
              try simp (disch := omega) only [i_lt, i_le, i_eq, l_lt, l_le, l_eq, i_0, i_m1, l_0, nI_tI, iI_tI, lI_tI, Int.not_lt, Int.not_le] at c_51
              omega
        have l0 := loop 0 (by omega)
        rw [show rtN (chS σ i) (chR σ i) 0 = 0 from rfl, ← bI_f (b := goB (chR σ i) (chn σ i) 0) (decide_eq_false (by omega))] at l0
        exact l0
      · try simp (disch := omega) only [nI_bit0, nI_bit1, Bool.not_eq_false, Bool.not_eq_true] at c_32
        try simp (disch := omega) only [i_lt, i_le, i_eq, l_lt, l_le, l_eq, i_0, i_m1, l_0, nI_tI, iI_tI, lI_tI, Int.not_lt, Int.not_le] at c_32
        refine Wp.iconst (v := (nI 1)) dX12_ratio_35 (by decide) rfl ?_
        refine Wp.goto (n := 40) dX12_ratio_36 (by decide) ?_
        refine Wp.istore dX12_ratio_40 (Nat.le_of_ble_eq_true rfl) (by dsimp only [ev_st1, ev_st2, ev_cl] <;> rfl) rfl ?_
        refine Wp.iconst (v := (nI 0)) dX12_ratio_42 (by decide) rfl ?_
        refine Wp.istore dX12_ratio_43 (Nat.le_of_ble_eq_true rfl) (by dsimp only [ev_st1, ev_st2, ev_cl] <;> rfl) rfl ?_
        have loop : ∀ k, k ≤ (chn σ i) → Wp B d M_X12_ratio 45 [some (.ref x), some (.int (nI i)), some (.int (w)), some (.int (nI (rtN (chS σ i) (chR σ i) k))), some (.int (bI (goB (chR σ i) (chn σ i) k))), some (.int (nI k))] [] h2 (RQ x h σ (.long (a_ratio σ (nI i) w))) := by
          refine ev_upl (chn σ i) (fun k hi ih => ?_) ?_
          · have hbk := rtN_le (chS σ i) (chR σ i) k
            have hkn : (rtN (chS σ i) (chR σ i) k) < chn σ i := by omega
            have hc1 := hC2.1.2 k hi
            have hc0 := hC2.1.2 _ hkn
            have hb1 := hB.2 k hi
            have hb0 := hB.2 _ hkn
            have m1 := mulb (a := chS σ i k) (b := chR σ i (rtN (chS σ i) (chR σ i) k)) (A := 1200) (C := 240) (by omega) (by omega)
            have m2 := mulb (a := chS σ i (rtN (chS σ i) (chR σ i) k)) (b := chR σ i k) (A := 1200) (C := 240) (by omega) (by omega)
            refine Wp.iload dX12_ratio_45 rfl rfl ?_
            refine Wp.aload_n dX12_ratio_47 rfl (by first | exact Or.inr ⟨_, rfl⟩ | exact Or.inl rfl) rfl ?_
            refine Wp.get dX12_ratio_48 fl_X12_150 hM2.ob hC2.1.1 rfl ?_
            refine Wp.icmp_ge (tgt := 125) (n := 54) dX12_ratio_51 (by decide) rfl (fun c_51 => ?_) (fun c_51 => ?_)
            · try simp (disch := omega) only [nI_bit0, nI_bit1, Bool.not_eq_false, Bool.not_eq_true] at c_51
              try simp (disch := omega) only [i_lt, i_le, i_eq, l_lt, l_le, l_eq, i_0, i_m1, l_0, nI_tI, iI_tI, lI_tI, Int.not_lt, Int.not_le] at c_51
              omega
            · try simp (disch := omega) only [nI_bit0, nI_bit1, Bool.not_eq_false, Bool.not_eq_true] at c_51
              try simp (disch := omega) only [i_lt, i_le, i_eq, l_lt, l_le, l_eq, i_0, i_m1, l_0, nI_tI, iI_tI, lI_tI, Int.not_lt, Int.not_le] at c_51
              refine Wp.iload dX12_ratio_54 rfl rfl ?_
              refine Wp.bif_eq (tgt := 73) (n := 59) dX12_ratio_56 (by decide) rfl (fun c_56 => ?_) (fun c_56 => ?_)
              · try simp only [decide_eq_true_eq, decide_eq_false_iff_not, Bool.and_eq_true, bI_0, bI_n0] at c_56
                refine Wp.iconst (v := (nI 0)) dX12_ratio_73 (by decide) rfl ?_
                refine Wp.istore dX12_ratio_74 (Nat.le_of_ble_eq_true rfl) (by dsimp only [ev_st1, ev_st2, ev_cl] <;> rfl) rfl ?_
                refine Wp.aload_n dX12_ratio_76 rfl (by first | exact Or.inr ⟨_, rfl⟩ | exact Or.inl rfl) rfl ?_
                refine Wp.get dX12_ratio_77 fl_X12_60 hM2.ob (hM2.rf 22 (by decide)) rfl ?_
                refine Wp.iload dX12_ratio_80 rfl rfl ?_
                refine Wp.iaload dX12_ratio_82 (hM2.ia 22 (by decide)) (nI_toInt (by omega)) (by show _ < 4096; omega) rfl ?_
                rw [hc1.1]
                refine Wp.i2l dX12_ratio_83 rfl ?_
                rw [iI_l (by omega) (by omega)]
                refine Wp.aload_n dX12_ratio_84 rfl (by first | exact Or.inr ⟨_, rfl⟩ | exact Or.inl rfl) rfl ?_
                refine Wp.get dX12_ratio_85 fl_X12_63 hM2.ob (hM2.rf 23 (by decide)) rfl ?_
                refine Wp.iload_n dX12_ratio_88 rfl rfl ?_
                refine Wp.iaload dX12_ratio_89 (hM2.ia 23 (by decide)) (nI_toInt (by omega)) (by show _ < 4096; omega) rfl ?_
                rw [hc0.2]
                refine Wp.i2l dX12_ratio_90 rfl ?_
                rw [iI_l (by omega) (by omega)]
                refine Wp.lmul dX12_ratio_91 rfl ?_
                rw [lI_mul]
                refine Wp.aload_n dX12_ratio_92 rfl (by first | exact Or.inr ⟨_, rfl⟩ | exact Or.inl rfl) rfl ?_
                refine Wp.get dX12_ratio_93 fl_X12_60 hM2.ob (hM2.rf 22 (by decide)) rfl ?_
                refine Wp.iload_n dX12_ratio_96 rfl rfl ?_
                refine Wp.iaload dX12_ratio_97 (hM2.ia 22 (by decide)) (nI_toInt (by omega)) (by show _ < 4096; omega) rfl ?_
                rw [hc0.1]
                refine Wp.i2l dX12_ratio_98 rfl ?_
                rw [iI_l (by omega) (by omega)]
                refine Wp.aload_n dX12_ratio_99 rfl (by first | exact Or.inr ⟨_, rfl⟩ | exact Or.inl rfl) rfl ?_
                refine Wp.get dX12_ratio_100 fl_X12_63 hM2.ob (hM2.rf 23 (by decide)) rfl ?_
                refine Wp.iload dX12_ratio_103 rfl rfl ?_
                refine Wp.iaload dX12_ratio_105 (hM2.ia 23 (by decide)) (nI_toInt (by omega)) (by show _ < 4096; omega) rfl ?_
                rw [hc1.2]
                refine Wp.i2l dX12_ratio_106 rfl ?_
                rw [iI_l (by omega) (by omega)]
                refine Wp.lmul dX12_ratio_107 rfl ?_
                rw [lI_mul]
                refine Wp.lcmp_ge (tgt := 117) (n := 112) dX12_ratio_108 rfl dX12_ratio_109 (by decide) rfl (fun c_108 => ?_) (fun c_108 => ?_)
                · try simp (disch := omega) only [nI_bit0, nI_bit1, Bool.not_eq_false, Bool.not_eq_true] at c_108
                  try simp (disch := omega) only [i_lt, i_le, i_eq, l_lt, l_le, l_eq, i_0, i_m1, l_0, nI_tI, iI_tI, lI_tI, Int.not_lt, Int.not_le] at c_108
                  refine Wp.iload_n dX12_ratio_117 rfl rfl ?_
                  refine Wp.istore_n dX12_ratio_118 (Nat.le_of_ble_eq_true rfl) (by dsimp only [ev_st1, ev_st2, ev_cl] <;> rfl) rfl ?_
                  refine Wp.iinc (v := _ + (nI 1)) dX12_ratio_119 rfl rfl (Nat.le_of_ble_eq_true rfl) (by dsimp only [ev_st1, ev_cl] <;> rfl) rfl ?_
                  refine Wp.goto (n := 45) dX12_ratio_122 (by decide) ?_
                  rw [nI_add1, bI_f (b := goB (chR σ i) (chn σ i) (k + 1)) (by simp only [goB, Bool.and_eq_false_iff, decide_eq_false_iff_not]; first | exact Or.inl c_56 | exact Or.inr (by omega))]
                  have hr : rtN (chS σ i) (chR σ i) (k + 1) = if chS σ i k * chR σ i (rtN (chS σ i) (chR σ i) k) < chS σ i (rtN (chS σ i) (chR σ i) k) * chR σ i k then k else (rtN (chS σ i) (chR σ i) k) := rfl
                  first
                    | (rw [if_pos (by omega)] at hr; rw [hr] at ih; exact ih)
                    | (rw [if_neg (by omega)] at hr; rw [hr] at ih; exact ih)
                · try simp (disch := omega) only [nI_bit0, nI_bit1, Bool.not_eq_false, Bool.not_eq_true] at c_108
                  try simp (disch := omega) only [i_lt, i_le, i_eq, l_lt, l_le, l_eq, i_0, i_m1, l_0, nI_tI, iI_tI, lI_tI, Int.not_lt, Int.not_le] at c_108
                  refine Wp.iload dX12_ratio_112 rfl rfl ?_
                  refine Wp.goto (n := 118) dX12_ratio_114 (by decide) ?_
                  refine Wp.istore_n dX12_ratio_118 (Nat.le_of_ble_eq_true rfl) (by dsimp only [ev_st1, ev_st2, ev_cl] <;> rfl) rfl ?_
                  refine Wp.iinc (v := _ + (nI 1)) dX12_ratio_119 rfl rfl (Nat.le_of_ble_eq_true rfl) (by dsimp only [ev_st1, ev_cl] <;> rfl) rfl ?_
                  refine Wp.goto (n := 45) dX12_ratio_122 (by decide) ?_
                  rw [nI_add1, bI_f (b := goB (chR σ i) (chn σ i) (k + 1)) (by simp only [goB, Bool.and_eq_false_iff, decide_eq_false_iff_not]; first | exact Or.inl c_56 | exact Or.inr (by omega))]
                  have hr : rtN (chS σ i) (chR σ i) (k + 1) = if chS σ i k * chR σ i (rtN (chS σ i) (chR σ i) k) < chS σ i (rtN (chS σ i) (chR σ i) k) * chR σ i k then k else (rtN (chS σ i) (chR σ i) k) := rfl
                  first
                    | (rw [if_pos (by omega)] at hr; rw [hr] at ih; exact ih)
                    | (rw [if_neg (by omega)] at hr; rw [hr] at ih; exact ih)
              · try simp only [decide_eq_true_eq, decide_eq_false_iff_not, Bool.and_eq_true, bI_0, bI_n0] at c_56
                refine Wp.aload_n dX12_ratio_59 rfl (by first | exact Or.inr ⟨_, rfl⟩ | exact Or.inl rfl) rfl ?_
                refine Wp.get dX12_ratio_60 fl_X12_63 hM2.ob (hM2.rf 23 (by decide)) rfl ?_
                refine Wp.iload dX12_ratio_63 rfl rfl ?_
                refine Wp.iaload dX12_ratio_65 (hM2.ia 23 (by decide)) (nI_toInt (by omega)) (by show _ < 4096; omega) rfl ?_
                rw [hc1.2]
                refine Wp.if_le (tgt := 73) (n := 69) dX12_ratio_66 (by decide) rfl (fun c_66 => ?_) (fun c_66 => ?_)
                · try simp (disch := omega) only [nI_bit0, nI_bit1, Bool.not_eq_false, Bool.not_eq_true] at c_66
                  try simp (disch := omega) only [i_lt, i_le, i_eq, l_lt, l_le, l_eq, i_0, i_m1, l_0, nI_tI, iI_tI, lI_tI, Int.not_lt, Int.not_le] at c_66
                  refine Wp.iconst (v := (nI 0)) dX12_ratio_73 (by decide) rfl ?_
                  refine Wp.istore dX12_ratio_74 (Nat.le_of_ble_eq_true rfl) (by dsimp only [ev_st1, ev_st2, ev_cl] <;> rfl) rfl ?_
                  refine Wp.aload_n dX12_ratio_76 rfl (by first | exact Or.inr ⟨_, rfl⟩ | exact Or.inl rfl) rfl ?_
                  refine Wp.get dX12_ratio_77 fl_X12_60 hM2.ob (hM2.rf 22 (by decide)) rfl ?_
                  refine Wp.iload dX12_ratio_80 rfl rfl ?_
                  refine Wp.iaload dX12_ratio_82 (hM2.ia 22 (by decide)) (nI_toInt (by omega)) (by show _ < 4096; omega) rfl ?_
                  rw [hc1.1]
                  refine Wp.i2l dX12_ratio_83 rfl ?_
                  rw [iI_l (by omega) (by omega)]
                  refine Wp.aload_n dX12_ratio_84 rfl (by first | exact Or.inr ⟨_, rfl⟩ | exact Or.inl rfl) rfl ?_
                  refine Wp.get dX12_ratio_85 fl_X12_63 hM2.ob (hM2.rf 23 (by decide)) rfl ?_
                  refine Wp.iload_n dX12_ratio_88 rfl rfl ?_
                  refine Wp.iaload dX12_ratio_89 (hM2.ia 23 (by decide)) (nI_toInt (by omega)) (by show _ < 4096; omega) rfl ?_
                  rw [hc0.2]
                  refine Wp.i2l dX12_ratio_90 rfl ?_
                  rw [iI_l (by omega) (by omega)]
                  refine Wp.lmul dX12_ratio_91 rfl ?_
                  rw [lI_mul]
                  refine Wp.aload_n dX12_ratio_92 rfl (by first | exact Or.inr ⟨_, rfl⟩ | exact Or.inl rfl) rfl ?_
                  refine Wp.get dX12_ratio_93 fl_X12_60 hM2.ob (hM2.rf 22 (by decide)) rfl ?_
                  refine Wp.iload_n dX12_ratio_96 rfl rfl ?_
                  refine Wp.iaload dX12_ratio_97 (hM2.ia 22 (by decide)) (nI_toInt (by omega)) (by show _ < 4096; omega) rfl ?_
                  rw [hc0.1]
                  refine Wp.i2l dX12_ratio_98 rfl ?_
                  rw [iI_l (by omega) (by omega)]
                  refine Wp.aload_n dX12_ratio_99 rfl (by first | exact Or.inr ⟨_, rfl⟩ | exact Or.inl rfl) rfl ?_
                  refine Wp.get dX12_ratio_100 fl_X12_63 hM2.ob (hM2.rf 23 (by decide)) rfl ?_
                  refine Wp.iload dX12_ratio_103 rfl rfl ?_
                  refine Wp.iaload dX12_ratio_105 (hM2.ia 23 (by decide)) (nI_toInt (by omega)) (by show _ < 4096; omega) rfl ?_
                  rw [hc1.2]
                  refine Wp.i2l dX12_ratio_106 rfl ?_
                  rw [iI_l (by omega) (by omega)]
                  refine Wp.lmul dX12_ratio_107 rfl ?_
                  rw [lI_mul]
                  refine Wp.lcmp_ge (tgt := 117) (n := 112) dX12_ratio_108 rfl dX12_ratio_109 (by decide) rfl (fun c_108 => ?_) (fun c_108 => ?_)
                  · try simp (disch := omega) only [nI_bit0, nI_bit1, Bool.not_eq_false, Bool.not_eq_true] at c_108
                    try simp (disch := omega) only [i_lt, i_le, i_eq, l_lt, l_le, l_eq, i_0, i_m1, l_0, nI_tI, iI_tI, lI_tI, Int.not_lt, Int.not_le] at c_108
                    refine Wp.iload_n dX12_ratio_117 rfl rfl ?_
                    refine Wp.istore_n dX12_ratio_118 (Nat.le_of_ble_eq_true rfl) (by dsimp only [ev_st1, ev_st2, ev_cl] <;> rfl) rfl ?_
                    refine Wp.iinc (v := _ + (nI 1)) dX12_ratio_119 rfl rfl (Nat.le_of_ble_eq_true rfl) (by dsimp only [ev_st1, ev_cl] <;> rfl) rfl ?_
                    refine Wp.goto (n := 45) dX12_ratio_122 (by decide) ?_
                    rw [nI_add1, bI_f (b := goB (chR σ i) (chn σ i) (k + 1)) (by simp only [goB, Bool.and_eq_false_iff, decide_eq_false_iff_not]; first | exact Or.inl c_56 | exact Or.inr (by omega))]
                    have hr : rtN (chS σ i) (chR σ i) (k + 1) = if chS σ i k * chR σ i (rtN (chS σ i) (chR σ i) k) < chS σ i (rtN (chS σ i) (chR σ i) k) * chR σ i k then k else (rtN (chS σ i) (chR σ i) k) := rfl
                    first
                      | (rw [if_pos (by omega)] at hr; rw [hr] at ih; exact ih)
                      | (rw [if_neg (by omega)] at hr; rw [hr] at ih; exact ih)
                  · try simp (disch := omega) only [nI_bit0, nI_bit1, Bool.not_eq_false, Bool.not_eq_true] at c_108
                    try simp (disch := omega) only [i_lt, i_le, i_eq, l_lt, l_le, l_eq, i_0, i_m1, l_0, nI_tI, iI_tI, lI_tI, Int.not_lt, Int.not_le] at c_108
                    refine Wp.iload dX12_ratio_112 rfl rfl ?_
                    refine Wp.goto (n := 118) dX12_ratio_114 (by decide) ?_
                    refine Wp.istore_n dX12_ratio_118 (Nat.le_of_ble_eq_true rfl) (by dsimp only [ev_st1, ev_st2, ev_cl] <;> rfl) rfl ?_
                    refine Wp.iinc (v := _ + (nI 1)) dX12_ratio_119 rfl rfl (Nat.le_of_ble_eq_true rfl) (by dsimp only [ev_st1, ev_cl] <;> rfl) rfl ?_
                    refine Wp.goto (n := 45) dX12_ratio_122 (by decide) ?_
                    rw [nI_add1, bI_f (b := goB (chR σ i) (chn σ i) (k + 1)) (by simp only [goB, Bool.and_eq_false_iff, decide_eq_false_iff_not]; first | exact Or.inl c_56 | exact Or.inr (by omega))]
                    have hr : rtN (chS σ i) (chR σ i) (k + 1) = if chS σ i k * chR σ i (rtN (chS σ i) (chR σ i) k) < chS σ i (rtN (chS σ i) (chR σ i) k) * chR σ i k then k else (rtN (chS σ i) (chR σ i) k) := rfl
                    first
                      | (rw [if_pos (by omega)] at hr; rw [hr] at ih; exact ih)
                      | (rw [if_neg (by omega)] at hr; rw [hr] at ih; exact ih)
                · try simp (disch := omega) only [nI_bit0, nI_bit1, Bool.not_eq_false, Bool.not_eq_true] at c_66
                  try simp (disch := omega) only [i_lt, i_le, i_eq, l_lt, l_le, l_eq, i_0, i_m1, l_0, nI_tI, iI_tI, lI_tI, Int.not_lt, Int.not_le] at c_66
                  refine Wp.iconst (v := (nI 1)) dX12_ratio_69 (by decide) rfl ?_
                  refine Wp.goto (n := 74) dX12_ratio_70 (by decide) ?_
                  refine Wp.istore dX12_ratio_74 (Nat.le_of_ble_eq_true rfl) (by dsimp only [ev_st1, ev_st2, ev_cl] <;> rfl) rfl ?_
                  refine Wp.aload_n dX12_ratio_76 rfl (by first | exact Or.inr ⟨_, rfl⟩ | exact Or.inl rfl) rfl ?_
                  refine Wp.get dX12_ratio_77 fl_X12_60 hM2.ob (hM2.rf 22 (by decide)) rfl ?_
                  refine Wp.iload dX12_ratio_80 rfl rfl ?_
                  refine Wp.iaload dX12_ratio_82 (hM2.ia 22 (by decide)) (nI_toInt (by omega)) (by show _ < 4096; omega) rfl ?_
                  rw [hc1.1]
                  refine Wp.i2l dX12_ratio_83 rfl ?_
                  rw [iI_l (by omega) (by omega)]
                  refine Wp.aload_n dX12_ratio_84 rfl (by first | exact Or.inr ⟨_, rfl⟩ | exact Or.inl rfl) rfl ?_
                  refine Wp.get dX12_ratio_85 fl_X12_63 hM2.ob (hM2.rf 23 (by decide)) rfl ?_
                  refine Wp.iload_n dX12_ratio_88 rfl rfl ?_
                  refine Wp.iaload dX12_ratio_89 (hM2.ia 23 (by decide)) (nI_toInt (by omega)) (by show _ < 4096; omega) rfl ?_
                  rw [hc0.2]
                  refine Wp.i2l dX12_ratio_90 rfl ?_
                  rw [iI_l (by omega) (by omega)]
                  refine Wp.lmul dX12_ratio_91 rfl ?_
                  rw [lI_mul]
                  refine Wp.aload_n dX12_ratio_92 rfl (by first | exact Or.inr ⟨_, rfl⟩ | exact Or.inl rfl) rfl ?_
                  refine Wp.get dX12_ratio_93 fl_X12_60 hM2.ob (hM2.rf 22 (by decide)) rfl ?_
                  refine Wp.iload_n dX12_ratio_96 rfl rfl ?_
                  refine Wp.iaload dX12_ratio_97 (hM2.ia 22 (by decide)) (nI_toInt (by omega)) (by show _ < 4096; omega) rfl ?_
                  rw [hc0.1]
                  refine Wp.i2l dX12_ratio_98 rfl ?_
                  rw [iI_l (by omega) (by omega)]
                  refine Wp.aload_n dX12_ratio_99 rfl (by first | exact Or.inr ⟨_, rfl⟩ | exact Or.inl rfl) rfl ?_
                  refine Wp.get dX12_ratio_100 fl_X12_63 hM2.ob (hM2.rf 23 (by decide)) rfl ?_
                  refine Wp.iload dX12_ratio_103 rfl rfl ?_
                  refine Wp.iaload dX12_ratio_105 (hM2.ia 23 (by decide)) (nI_toInt (by omega)) (by show _ < 4096; omega) rfl ?_
                  rw [hc1.2]
                  refine Wp.i2l dX12_ratio_106 rfl ?_
                  rw [iI_l (by omega) (by omega)]
                  refine Wp.lmul dX12_ratio_107 rfl ?_
                  rw [lI_mul]
                  refine Wp.lcmp_ge (tgt := 117) (n := 112) dX12_ratio_108 rfl dX12_ratio_109 (by decide) rfl (fun c_108 => ?_) (fun c_108 => ?_)
                  · try simp (disch := omega) only [nI_bit0, nI_bit1, Bool.not_eq_false, Bool.not_eq_true] at c_108
                    try simp (disch := omega) only [i_lt, i_le, i_eq, l_lt, l_le, l_eq, i_0, i_m1, l_0, nI_tI, iI_tI, lI_tI, Int.not_lt, Int.not_le] at c_108
                    refine Wp.iload_n dX12_ratio_117 rfl rfl ?_
                    refine Wp.istore_n dX12_ratio_118 (Nat.le_of_ble_eq_true rfl) (by dsimp only [ev_st1, ev_st2, ev_cl] <;> rfl) rfl ?_
                    refine Wp.iinc (v := _ + (nI 1)) dX12_ratio_119 rfl rfl (Nat.le_of_ble_eq_true rfl) (by dsimp only [ev_st1, ev_cl] <;> rfl) rfl ?_
                    refine Wp.goto (n := 45) dX12_ratio_122 (by decide) ?_
                    rw [nI_add1, bI_t (b := goB (chR σ i) (chn σ i) (k + 1)) (by simp only [goB, Bool.and_eq_true, decide_eq_true_eq]; exact ⟨c_56, by omega⟩)]
                    have hr : rtN (chS σ i) (chR σ i) (k + 1) = if chS σ i k * chR σ i (rtN (chS σ i) (chR σ i) k) < chS σ i (rtN (chS σ i) (chR σ i) k) * chR σ i k then k else (rtN (chS σ i) (chR σ i) k) := rfl
                    first
                      | (rw [if_pos (by omega)] at hr; rw [hr] at ih; exact ih)
                      | (rw [if_neg (by omega)] at hr; rw [hr] at ih; exact ih)
                  · try simp (disch := omega) only [nI_bit0, nI_bit1, Bool.not_eq_false, Bool.not_eq_true] at c_108
                    try simp (disch := omega) only [i_lt, i_le, i_eq, l_lt, l_le, l_eq, i_0, i_m1, l_0, nI_tI, iI_tI, lI_tI, Int.not_lt, Int.not_le] at c_108
                    refine Wp.iload dX12_ratio_112 rfl rfl ?_
                    refine Wp.goto (n := 118) dX12_ratio_114 (by decide) ?_
                    refine Wp.istore_n dX12_ratio_118 (Nat.le_of_ble_eq_true rfl) (by dsimp only [ev_st1, ev_st2, ev_cl] <;> rfl) rfl ?_
                    refine Wp.iinc (v := _ + (nI 1)) dX12_ratio_119 rfl rfl (Nat.le_of_ble_eq_true rfl) (by dsimp only [ev_st1, ev_cl] <;> rfl) rfl ?_
                    refine Wp.goto (n := 45) dX12_ratio_122 (by decide) ?_
                    rw [nI_add1, bI_t (b := goB (chR σ i) (chn σ i) (k + 1)) (by simp only [goB, Bool.and_eq_true, decide_eq_true_eq]; exact ⟨c_56, by omega⟩)]
                    have hr : rtN (chS σ i) (chR σ i) (k + 1) = if chS σ i k * chR σ i (rtN (chS σ i) (chR σ i) k) < chS σ i (rtN (chS σ i) (chR σ i) k) * chR σ i k then k else (rtN (chS σ i) (chR σ i) k) := rfl
                    first
                      | (rw [if_pos (by omega)] at hr; rw [hr] at ih; exact ih)
                      | (rw [if_neg (by omega)] at hr; rw [hr] at ih; exact ih)
          · refine Wp.iload dX12_ratio_45 rfl rfl ?_
            refine Wp.aload_n dX12_ratio_47 rfl (by first | exact Or.inr ⟨_, rfl⟩ | exact Or.inl rfl) rfl ?_
            refine Wp.get dX12_ratio_48 fl_X12_150 hM2.ob hC2.1.1 rfl ?_
            refine Wp.icmp_ge (tgt := 125) (n := 54) dX12_ratio_51 (by decide) rfl (fun c_51 => ?_) (fun c_51 => ?_)
            · try simp (disch := omega) only [nI_bit0, nI_bit1, Bool.not_eq_false, Bool.not_eq_true] at c_51
              try simp (disch := omega) only [i_lt, i_le, i_eq, l_lt, l_le, l_eq, i_0, i_m1, l_0, nI_tI, iI_tI, lI_tI, Int.not_lt, Int.not_le] at c_51
              refine Wp.iload dX12_ratio_125 rfl rfl ?_
              refine Wp.bif_ne (tgt := 134) (n := 130) dX12_ratio_127 (by decide) rfl (fun c_127 => ?_) (fun c_127 => ?_)
              · skip
                have hg := goB_all _ c_127
                have hkn : (rtN (chS σ i) (chR σ i) (chn σ i)) < chn σ i := (rtN_le (chS σ i) (chR σ i) (chn σ i)).2 hg.1
                have hrp := hg.2 _ hkn
                have hc0 := hC2.1.2 _ hkn
                have hb0 := hB.2 _ hkn
                obtain ⟨j, rfl, hj, hj2⟩ := as_nI (o := w) (n := 3) (by omega)
                have hjj : j = 0 ∨ j = 1 ∨ j = 2 := by omega
                rcases hjj with rfl | rfl | rfl
                · refine Wp.iload_n dX12_ratio_134 rfl rfl ?_
                  refine Wp.iconst (v := (nI 2)) dX12_ratio_135 (by decide) rfl ?_
                  refine Wp.icmp_ne (tgt := 149) (n := 139) dX12_ratio_136 (by decide) rfl (fun _ => ?_) (fun c_ => absurd c_ (by decide))
                  refine Wp.aload_n dX12_ratio_149 rfl (by first | exact Or.inr ⟨_, rfl⟩ | exact Or.inl rfl) rfl ?_
                  refine Wp.get dX12_ratio_150 fl_X12_60 hM2.ob (hM2.rf 22 (by decide)) rfl ?_
                  refine Wp.iload_n dX12_ratio_153 rfl rfl ?_
                  refine Wp.iaload dX12_ratio_154 (hM2.ia 22 (by decide)) (nI_toInt (by omega)) (by show _ < 4096; omega) rfl ?_
                  rw [hc0.1]
                  refine Wp.i2l dX12_ratio_155 rfl ?_
                  rw [iI_l (by omega) (by omega)]
                  refine Wp.aload_n dX12_ratio_156 rfl (by first | exact Or.inr ⟨_, rfl⟩ | exact Or.inl rfl) rfl ?_
                  refine Wp.get dX12_ratio_157 fl_X12_63 hM2.ob (hM2.rf 23 (by decide)) rfl ?_
                  refine Wp.iload_n dX12_ratio_160 rfl rfl ?_
                  refine Wp.iaload dX12_ratio_161 (hM2.ia 23 (by decide)) (nI_toInt (by omega)) (by show _ < 4096; omega) rfl ?_
                  rw [hc0.2]
                  refine Wp.i2l dX12_ratio_162 rfl ?_
                  rw [iI_l (by omega) (by omega)]
                  refine Wp.iload_n dX12_ratio_163 rfl rfl ?_
                  refine Wp.cS dX12_ratio_164 cs_X12_180 rfl (by omega) rfl (Nat.le_of_ble_eq_true rfl) (Nat.le_of_ble_eq_true rfl) rfl (c_X12_lowest (d := d - 1) (sm_b (by omega) (by omega)) (sm_b (by omega) (by omega)) (gcd_posr (by omega)) (by omega)) ?_
                  rintro _ h_ ⟨rfl, e_⟩
                  rw [e_]
                  clear e_ h_
                  dsimp only [Option.toList, List.drop, List.cons_append, List.nil_append]
                  exact Wp.lret dX12_ratio_167 rfl (RQ.l (by rw [a_ratio, if_pos ⟨(show isO σ (nI i) by have e_ := nI_tI ho2; omega), by simp (disch := omega) only [w01, nI_tI]; omega, by rw [tn_nI ho2]; exact c_127⟩, tn_nI ho2, nI_tI (by decide)]; rfl) hM2 hP2 o2)
                · refine Wp.iload_n dX12_ratio_134 rfl rfl ?_
                  refine Wp.iconst (v := (nI 2)) dX12_ratio_135 (by decide) rfl ?_
                  refine Wp.icmp_ne (tgt := 149) (n := 139) dX12_ratio_136 (by decide) rfl (fun _ => ?_) (fun c_ => absurd c_ (by decide))
                  refine Wp.aload_n dX12_ratio_149 rfl (by first | exact Or.inr ⟨_, rfl⟩ | exact Or.inl rfl) rfl ?_
                  refine Wp.get dX12_ratio_150 fl_X12_60 hM2.ob (hM2.rf 22 (by decide)) rfl ?_
                  refine Wp.iload_n dX12_ratio_153 rfl rfl ?_
                  refine Wp.iaload dX12_ratio_154 (hM2.ia 22 (by decide)) (nI_toInt (by omega)) (by show _ < 4096; omega) rfl ?_
                  rw [hc0.1]
                  refine Wp.i2l dX12_ratio_155 rfl ?_
                  rw [iI_l (by omega) (by omega)]
                  refine Wp.aload_n dX12_ratio_156 rfl (by first | exact Or.inr ⟨_, rfl⟩ | exact Or.inl rfl) rfl ?_
                  refine Wp.get dX12_ratio_157 fl_X12_63 hM2.ob (hM2.rf 23 (by decide)) rfl ?_
                  refine Wp.iload_n dX12_ratio_160 rfl rfl ?_
                  refine Wp.iaload dX12_ratio_161 (hM2.ia 23 (by decide)) (nI_toInt (by omega)) (by show _ < 4096; omega) rfl ?_
                  rw [hc0.2]
                  refine Wp.i2l dX12_ratio_162 rfl ?_
                  rw [iI_l (by omega) (by omega)]
                  refine Wp.iload_n dX12_ratio_163 rfl rfl ?_
                  refine Wp.cS dX12_ratio_164 cs_X12_180 rfl (by omega) rfl (Nat.le_of_ble_eq_true rfl) (Nat.le_of_ble_eq_true rfl) rfl (c_X12_lowest (d := d - 1) (sm_b (by omega) (by omega)) (sm_b (by omega) (by omega)) (gcd_posr (by omega)) (by omega)) ?_
                  rintro _ h_ ⟨rfl, e_⟩
                  rw [e_]
                  clear e_ h_
                  dsimp only [Option.toList, List.drop, List.cons_append, List.nil_append]
                  exact Wp.lret dX12_ratio_167 rfl (RQ.l (by rw [a_ratio, if_pos ⟨(show isO σ (nI i) by have e_ := nI_tI ho2; omega), by simp (disch := omega) only [w01, nI_tI]; omega, by rw [tn_nI ho2]; exact c_127⟩, tn_nI ho2, nI_tI (by decide)]; rfl) hM2 hP2 o2)
                · refine Wp.iload_n dX12_ratio_134 rfl rfl ?_
                  refine Wp.iconst (v := (nI 2)) dX12_ratio_135 (by decide) rfl ?_
                  refine Wp.icmp_ne (tgt := 149) (n := 139) dX12_ratio_136 (by decide) rfl (fun c_ => absurd (by decide) c_) (fun _ => ?_)
                  refine Wp.aload_n dX12_ratio_139 rfl (by first | exact Or.inr ⟨_, rfl⟩ | exact Or.inl rfl) rfl ?_
                  refine Wp.get dX12_ratio_140 fl_X12_57 hM2.ob (hM2.rf 21 (by decide)) rfl ?_
                  refine Wp.iload_n dX12_ratio_143 rfl rfl ?_
                  refine Wp.iaload dX12_ratio_144 (hM2.ia 21 (by decide)) (nI_toInt (by omega)) (by show _ < 4096; omega) rfl ?_
                  rw [hC2.2 _ hkn]
                  refine Wp.i2l dX12_ratio_145 rfl ?_
                  rw [nI_lI (by have := chC_lt σ i (rtN (chS σ i) (chR σ i) (chn σ i)); omega)]
                  refine Wp.goto (n := 167) dX12_ratio_146 (by decide) ?_
                  exact Wp.lret dX12_ratio_167 rfl (RQ.l (by rw [a_ratio, if_pos ⟨(show isO σ (nI i) by have e_ := nI_tI ho2; omega), by simp (disch := omega) only [w01, nI_tI]; omega, by rw [tn_nI ho2]; exact c_127⟩, tn_nI ho2, nI_tI (by decide)]; rfl) hM2 hP2 o2)
              · skip
                refine Wp.ldc2 kc_X12_178 dX12_ratio_130 rfl ?_
                exact Wp.lret dX12_ratio_133 rfl (RQ.l (by rw [a_ratio, if_neg (fun z => by have z1 := z.2.2; rw [tn_nI ho2, c_127] at z1; cases z1)]) hM2 hP2 o2)
            · try simp (disch := omega) only [nI_bit0, nI_bit1, Bool.not_eq_false, Bool.not_eq_true] at c_51
              try simp (disch := omega) only [i_lt, i_le, i_eq, l_lt, l_le, l_eq, i_0, i_m1, l_0, nI_tI, iI_tI, lI_tI, Int.not_lt, Int.not_le] at c_51
              omega
        have l0 := loop 0 (by omega)
        rw [show rtN (chS σ i) (chR σ i) 0 = 0 from rfl, ← bI_t (b := goB (chR σ i) (chn σ i) 0) (decide_eq_true (by omega))] at l0
        exact l0
    · try simp only [decide_eq_true_eq, decide_eq_false_iff_not, Bool.and_eq_true, bI_0, bI_n0] at c_14
      refine Wp.ldc2 kc_X12_178 dX12_ratio_17 rfl ?_
      exact Wp.lret dX12_ratio_20 rfl (RQ.l (by simp (disch := omega) only [a_ratio, okL, okA, okWy, okPr, isO, okTl, okS, w01, okWn, okWh, nI_tI, iI_tI, tn_nI, nI_m1]; (repeat' split) <;> first | (exfalso; omega) | rfl) hM hP (Out.rfl (x := x) (h := h)))
set_option maxHeartbeats 1000000 in
theorem c_X12_regret {B : ev_B} {d x : Nat} {h : ev_H} {V : Nat → Value} {G : Nat → Nat → Int32} {Z : Nat → Nat → Int64} {σ : Sg} {o s w : Int32} (hM : MH h x V G Z) (hP : PM σ V G Z) (hW : Wf σ) (hd : 6 ≤ d) :
    Wp B d M_X12_regret 0 [some (.ref x), some (.int (o)), some (.int (s)), some (.int (w))] [] h (RQ x h (σ) (.long (a_regret σ o s w))) := by
  have hn := hW.n
  have hT := hW.net.1
  have hL := hW.net.2.1
  refine Wp.aload_n dX12_regret_0 rfl (by first | exact Or.inr ⟨_, rfl⟩ | exact Or.inl rfl) rfl ?_
  refine Wp.iload_n dX12_regret_1 rfl rfl ?_
  refine Wp.cV dX12_regret_2 cv_X12_115 rfl (by omega) rfl (Nat.le_of_ble_eq_true rfl) (Nat.le_of_ble_eq_true rfl) hM.ob rfl (c_X12_isOffer (d := d - 1) hM hP hW (by omega)) ?_
  rintro _ h_ ⟨rfl, e_⟩
  rw [e_]
  clear e_ h_
  dsimp only [Option.toList, List.drop, List.cons_append, List.nil_append]
  refine Wp.bif_eq (tgt := 34) (n := 8) dX12_regret_5 (by decide) rfl (fun c_5 => ?_) (fun c_5 => ?_)
  · try simp only [decide_eq_true_eq, decide_eq_false_iff_not, Bool.and_eq_true, bI_0, bI_n0] at c_5
    refine Wp.ldc2 kc_X12_178 dX12_regret_34 rfl ?_
    exact Wp.lret dX12_regret_37 rfl (RQ.l (by simp (disch := omega) only [a_regret, okL, okA, okWy, okPr, isO, okTl, okS, w01, okWn, okWh, nI_tI, iI_tI, tn_nI, nI_m1]; (repeat' split) <;> first | (exfalso; omega) | rfl) hM hP (Out.rfl (x := x) (h := h)))
  · try simp only [decide_eq_true_eq, decide_eq_false_iff_not, Bool.and_eq_true, bI_0, bI_n0] at c_5
    refine Wp.iload_n dX12_regret_8 rfl rfl ?_
    refine Wp.iconst (v := (nI 0)) dX12_regret_9 (by decide) rfl ?_
    refine Wp.iconst (v := (nI 1)) dX12_regret_10 (by decide) rfl ?_
    refine Wp.cS dX12_regret_11 cs_X12_85 rfl (by omega) rfl (Nat.le_of_ble_eq_true rfl) (Nat.le_of_ble_eq_true rfl) rfl (c_X12_in (d := d - 1)) ?_
    rintro _ h_ ⟨rfl, e_⟩
    rw [e_]
    clear e_ h_
    dsimp only [Option.toList, List.drop, List.cons_append, List.nil_append]
    try simp (disch := omega) only [nI_m1, nI_tI, i_0]
    refine Wp.bif_eq (tgt := 34) (n := 17) dX12_regret_14 (by decide) rfl (fun c_14 => ?_) (fun c_14 => ?_)
    · try simp only [decide_eq_true_eq, decide_eq_false_iff_not, Bool.and_eq_true, bI_0, bI_n0] at c_14
      refine Wp.ldc2 kc_X12_178 dX12_regret_34 rfl ?_
      exact Wp.lret dX12_regret_37 rfl (RQ.l (by simp (disch := omega) only [a_regret, okL, okA, okWy, okPr, isO, okTl, okS, w01, okWn, okWh, nI_tI, iI_tI, tn_nI, nI_m1]; (repeat' split) <;> first | (exfalso; omega) | rfl) hM hP (Out.rfl (x := x) (h := h)))
    · try simp only [decide_eq_true_eq, decide_eq_false_iff_not, Bool.and_eq_true, bI_0, bI_n0] at c_14
      obtain ⟨i, rfl, ho, ho2⟩ := as_nI (show 0 ≤ o.toInt ∧ o.toInt < σ.n by omega)
      have hO := hP.of i ho
      have hOw := hW.of i ho
      have hpl := plc_in σ i s
      have hcn := chn_le σ i
      refine Wp.aload_n dX12_regret_17 rfl (by first | exact Or.inr ⟨_, rfl⟩ | exact Or.inl rfl) rfl ?_
      refine Wp.iload_n dX12_regret_18 rfl rfl ?_
      refine Wp.cV dX12_regret_19 cv_X12_208 rfl (by omega) rfl (Nat.le_of_ble_eq_true rfl) (Nat.le_of_ble_eq_true rfl) hM.ob rfl (c_X12_prepares (d := d - 1) hM hP hW ho (by omega)) ?_
      rintro _ h2 ⟨rfl, V2, G2, Z2, hM2, o2, k2, hC2, hT2⟩
      have hP2 := hP.kp k2
      dsimp only [Option.toList, List.drop, List.cons_append, List.nil_append]
      refine Wp.bif_eq (tgt := 34) (n := 25) dX12_regret_22 (by decide) rfl (fun c_22 => ?_) (fun c_22 => ?_)
      · try simp only [decide_eq_false_iff_not] at c_22
        refine Wp.ldc2 kc_X12_178 dX12_regret_34 rfl ?_
        exact Wp.lret dX12_regret_37 rfl (RQ.l (by simp (disch := omega) only [a_regret, okL, okA, okWy, okPr, isO, okTl, okS, w01, okWn, okWh, nI_tI, iI_tI, tn_nI, nI_m1]; (repeat' split) <;> first | (exfalso; omega) | rfl) hM2 hP2 o2)
      · try simp only [decide_eq_true_eq] at c_22
        refine Wp.aload_n dX12_regret_25 rfl (by first | exact Or.inr ⟨_, rfl⟩ | exact Or.inl rfl) rfl ?_
        refine Wp.iload_n dX12_regret_26 rfl rfl ?_
        refine Wp.cV dX12_regret_27 cv_X12_228 rfl (by omega) rfl (Nat.le_of_ble_eq_true rfl) (Nat.le_of_ble_eq_true rfl) hM2.ob rfl (c_X12_placeOf (d := d - 1) (o := i) hM2 hC2) ?_
        rintro _ h_ ⟨rfl, e_⟩
        rw [e_]
        clear e_ h_
        dsimp only [Option.toList, List.drop, List.cons_append, List.nil_append]
        refine Wp.iconst (v := (-1)) dX12_regret_30 (by decide) rfl ?_
        rw [show (-1 : Int32) = iI (-1) from rfl]
        refine Wp.icmp_ne (tgt := 38) (n := 34) dX12_regret_31 (by decide) rfl (fun c_31 => ?_) (fun c_31 => ?_)
        · have c_31 : plc σ i s ≠ -1 := fun z => c_31 (by rw [z])
          refine Wp.aload_n dX12_regret_38 rfl (by first | exact Or.inr ⟨_, rfl⟩ | exact Or.inl rfl) rfl ?_
          refine Wp.aload_n dX12_regret_39 rfl (by first | exact Or.inr ⟨_, rfl⟩ | exact Or.inl rfl) rfl ?_
          refine Wp.iload_n dX12_regret_40 rfl rfl ?_
          refine Wp.cV dX12_regret_41 cv_X12_228 rfl (by omega) rfl (Nat.le_of_ble_eq_true rfl) (Nat.le_of_ble_eq_true rfl) hM2.ob rfl (c_X12_placeOf (d := d - 1) (o := i) hM2 hC2) ?_
          rintro _ h_ ⟨rfl, e_⟩
          rw [e_]
          clear e_ h_
          dsimp only [Option.toList, List.drop, List.cons_append, List.nil_append]
          obtain ⟨c, hc⟩ : ∃ c : Nat, plc σ i s = c := ⟨_, (Int.toNat_of_nonneg (by omega)).symm⟩
          rw [hc, ← nI_iI]
          have hcl : c < chn σ i := by omega
          have hrb : 0 ≤ (rgN (rgV σ i c) (ptQ σ i) (pts σ i).length).1 ∧ (rgN (rgV σ i c) (ptQ σ i) (pts σ i).length).1 ≤ 28800000 ∧ 0 < (rgN (rgV σ i c) (ptQ σ i) (pts σ i).length).2 ∧ (rgN (rgV σ i c) (ptQ σ i) (pts σ i).length).2 ≤ 10000 := rgT_b hW hcl
          refine Wp.cV dX12_regret_44 cv_X12_240 rfl (by omega) rfl (Nat.le_of_ble_eq_true rfl) (Nat.le_of_ble_eq_true rfl) hM2.ob rfl (c_X12_regrets (d := d - 1) hM2 hW hC2 hT2 hcl (by omega)) ?_
          rintro _ h3 ⟨rfl, V3, hM3, o3, f3, l1_, l2_⟩
          have k3 : Kp V2 G2 Z2 V3 G2 Z2 := fun j hj => ⟨f3 j (by omega) (by omega), rfl, rfl⟩
          have hP3 := hP2.kp k3
          have o3 := o2.trans o3
          dsimp only [Option.toList, List.drop, List.cons_append, List.nil_append]
          refine Wp.aload_n dX12_regret_47 rfl (by first | exact Or.inr ⟨_, rfl⟩ | exact Or.inl rfl) rfl ?_
          refine Wp.get dX12_regret_48 fl_X12_234 hM3.ob l1_ rfl ?_
          refine Wp.aload_n dX12_regret_51 rfl (by first | exact Or.inr ⟨_, rfl⟩ | exact Or.inl rfl) rfl ?_
          refine Wp.get dX12_regret_52 fl_X12_237 hM3.ob l2_ rfl ?_
          refine Wp.iload_n dX12_regret_55 rfl rfl ?_
          refine Wp.cS dX12_regret_56 cs_X12_180 rfl (by omega) rfl (Nat.le_of_ble_eq_true rfl) (Nat.le_of_ble_eq_true rfl) rfl (c_X12_lowest (d := d - 1) (sm_b (by omega) (by omega)) (sm_b (by omega) (by omega)) (gcd_posr (by omega)) (by omega)) ?_
          rintro _ h_ ⟨rfl, e_⟩
          rw [e_]
          clear e_ h_
          dsimp only [Option.toList, List.drop, List.cons_append, List.nil_append]
          exact Wp.lret dX12_regret_59 rfl (RQ.l (by rw [a_regret, if_pos (by simp (disch := omega) only [isO, w01, nI_tI, tn_nI]; omega), tn_nI ho2, hc, Int.toNat_natCast]) hM3 hP3 o3)
        · have c_31 := (iI_eq (by omega) (by omega) (by omega) (by omega)).mp c_31
          refine Wp.ldc2 kc_X12_178 dX12_regret_34 rfl ?_
          exact Wp.lret dX12_regret_37 rfl (RQ.l (by simp (disch := omega) only [a_regret, okL, okA, okWy, okPr, isO, okTl, okS, w01, okWn, okWh, nI_tI, iI_tI, tn_nI, nI_m1]; (repeat' split) <;> first | (exfalso; omega) | rfl) hM2 hP2 o2)
set_option maxHeartbeats 2000000 in
theorem c_X12_calm {B : ev_B} {d x : Nat} {h : ev_H} {V : Nat → Value} {G : Nat → Nat → Int32} {Z : Nat → Nat → Int64} {σ : Sg} {o : Int32} (hM : MH h x V G Z) (hP : PM σ V G Z) (hW : Wf σ) (hd : 6 ≤ d) :
    Wp B d M_X12_calm 0 [some (.ref x), some (.int (o)), none, none, none, none, none, none, none, none, none] [] h (RQ x h (σ) (.int (a_calm σ o))) := by
  have hn := hW.n
  have hT := hW.net.1
  have hL := hW.net.2.1
  refine Wp.aload_n dX12_calm_0 rfl (by first | exact Or.inr ⟨_, rfl⟩ | exact Or.inl rfl) rfl ?_
  refine Wp.iload_n dX12_calm_1 rfl rfl ?_
  refine Wp.cV dX12_calm_2 cv_X12_115 rfl (by omega) rfl (Nat.le_of_ble_eq_true rfl) (Nat.le_of_ble_eq_true rfl) hM.ob rfl (c_X12_isOffer (d := d - 1) hM hP hW (by omega)) ?_
  rintro _ h_ ⟨rfl, e_⟩
  rw [e_]
  clear e_ h_
  dsimp only [Option.toList, List.drop, List.cons_append, List.nil_append]
  refine Wp.bif_ne (tgt := 11) (n := 8) dX12_calm_5 (by decide) rfl (fun c_5 => ?_) (fun c_5 => ?_)
  · try simp only [decide_eq_true_eq, decide_eq_false_iff_not, Bool.and_eq_true, bI_0, bI_n0] at c_5
    obtain ⟨i, rfl, ho, ho2⟩ := as_nI (show 0 ≤ o.toInt ∧ o.toInt < σ.n by omega)
    have hO := hP.of i ho
    have hOw := hW.of i ho
    refine Wp.aload_n dX12_calm_11 rfl (by first | exact Or.inr ⟨_, rfl⟩ | exact Or.inl rfl) rfl ?_
    refine Wp.iload_n dX12_calm_12 rfl rfl ?_
    refine Wp.cV dX12_calm_13 cv_X12_208 rfl (by omega) rfl (Nat.le_of_ble_eq_true rfl) (Nat.le_of_ble_eq_true rfl) hM.ob rfl (c_X12_prepares (d := d - 1) hM hP hW ho (by omega)) ?_
    rintro _ h2 ⟨rfl, V2, G2, Z2, hM2, o2, k2, hC2, hT2⟩
    have hP2 := hP.kp k2
    dsimp only [Option.toList, List.drop, List.cons_append, List.nil_append]
    have hnb := npt_b hW i
    have hcn := chn_le σ i
    have hB := PrB_ch hW i
    refine Wp.bif_ne (tgt := 21) (n := 19) dX12_calm_16 (by decide) rfl (fun c_16 => ?_) (fun c_16 => ?_)
    · try simp only [decide_eq_true_eq] at c_16
      refine Wp.iconst (v := (-1)) dX12_calm_21 (by decide) rfl ?_
      refine Wp.istore_n dX12_calm_22 (Nat.le_of_ble_eq_true rfl) (by dsimp only [ev_st1, ev_st2, ev_cl] <;> rfl) rfl ?_
      refine Wp.lconst (v := 0) dX12_calm_23 (by decide) rfl ?_
      refine Wp.lstore_n dX12_calm_24 (Nat.le_of_ble_eq_true rfl) (by dsimp only [ev_st1, ev_st2, ev_cl] <;> rfl) rfl ?_
      refine Wp.lconst (v := 1) dX12_calm_25 (by decide) rfl ?_
      refine Wp.lstore dX12_calm_26 (Nat.le_of_ble_eq_true rfl) (by dsimp only [ev_st1, ev_st2, ev_cl] <;> rfl) rfl ?_
      refine Wp.iconst (v := (nI 0)) dX12_calm_28 (by decide) rfl ?_
      refine Wp.istore dX12_calm_29 (Nat.le_of_ble_eq_true rfl) (by dsimp only [ev_st1, ev_st2, ev_cl] <;> rfl) rfl ?_
      have loop : ∀ k, k ≤ (npt σ i - 1) → ∀ (hh : ev_H) (Vi : Nat → Value), MH hh x Vi G2 Z2 → Out x h hh → (∀ j, j ≠ 32 → j ≠ 33 → Vi j = V2 j) → ∀ j8 j9 j10 : Option Value, Wp B d M_X12_calm 31 [some (.ref x), some (.int (nI i)), some (.int (iI (cmN σ i k).1)), some (.long (lI (cmN σ i k).2.1)), none, some (.long (lI (cmN σ i k).2.2)), none, some (.int (nI k)), j8, j9, j10] [] hh (RQ x h σ (.int (a_calm σ (nI i)))) := by
        refine ev_upl (npt σ i - 1) (fun k hi ih => ?_) ?_
        · intro hh Vi hMi hOi hfi j8 j9 j10
          have hk1 := hT2.at c_16 (show k < npt σ i by omega)
          have hb1 := ptL_b hW c_16 (show k < npt σ i by omega)
          have hab := abP_lt c_16 k
          have hrb := rgT_b hW hab
          have hcb := cmN_b hW c_16 k
          have m1 := mulb (a := (rgT σ i (abP σ i k)).1) (b := (cmN σ i k).2.2) (A := 28800000) (C := 10000) (by omega) (by omega)
          have m2 := mulb (a := (cmN σ i k).2.1) (b := (rgT σ i (abP σ i k)).2) (A := 28800000) (C := 10000) (by omega) (by omega)
          have hCi : ChA Vi G2 σ i := ⟨⟨(hfi 20 (by decide) (by decide)).trans hC2.1.1, hC2.1.2⟩, hC2.2⟩
          have hTi : PtA Vi Z2 σ i := ⟨(hfi 24 (by decide) (by decide)).trans hT2.1, hT2.2⟩
          refine Wp.iload dX12_calm_31 rfl rfl ?_
          refine Wp.aload_n dX12_calm_33 rfl (by first | exact Or.inr ⟨_, rfl⟩ | exact Or.inl rfl) rfl ?_
          refine Wp.get dX12_calm_34 fl_X12_198 hMi.ob ((hfi 24 (by decide) (by decide)).trans hT2.1) rfl ?_
          refine Wp.iconst (v := (nI 1)) dX12_calm_37 (by decide) rfl ?_
          refine Wp.isub dX12_calm_38 rfl ?_
          rw [pk_sub (by omega)]
          refine Wp.icmp_ge (tgt := 130) (n := 42) dX12_calm_39 (by decide) rfl (fun c_39 => ?_) (fun c_39 => ?_)
          · try simp (disch := omega) only [nI_bit0, nI_bit1, Bool.not_eq_false, Bool.not_eq_true] at c_39
            try simp (disch := omega) only [i_lt, i_le, i_eq, l_lt, l_le, l_eq, i_0, i_m1, l_0, nI_tI, iI_tI, lI_tI, Int.not_lt, Int.not_le] at c_39
            omega
          · try simp (disch := omega) only [nI_bit0, nI_bit1, Bool.not_eq_false, Bool.not_eq_true] at c_39
            try simp (disch := omega) only [i_lt, i_le, i_eq, l_lt, l_le, l_eq, i_0, i_m1, l_0, nI_tI, iI_tI, lI_tI, Int.not_lt, Int.not_le] at c_39
            refine Wp.aload_n dX12_calm_42 rfl (by first | exact Or.inr ⟨_, rfl⟩ | exact Or.inl rfl) rfl ?_
            refine Wp.aload_n dX12_calm_43 rfl (by first | exact Or.inr ⟨_, rfl⟩ | exact Or.inl rfl) rfl ?_
            refine Wp.get dX12_calm_44 fl_X12_66 hMi.ob (hMi.rf 25 (by decide)) rfl ?_
            refine Wp.iload dX12_calm_47 rfl rfl ?_
            refine Wp.laload dX12_calm_49 (hMi.la 25 (by decide)) (nI_toInt (by omega)) (by show _ < 500; omega) rfl ?_
            rw [hk1.1]
            refine Wp.aload_n dX12_calm_50 rfl (by first | exact Or.inr ⟨_, rfl⟩ | exact Or.inl rfl) rfl ?_
            refine Wp.get dX12_calm_51 fl_X12_69 hMi.ob (hMi.rf 26 (by decide)) rfl ?_
            refine Wp.iload dX12_calm_54 rfl rfl ?_
            refine Wp.laload dX12_calm_56 (hMi.la 26 (by decide)) (nI_toInt (by omega)) (by show _ < 500; omega) rfl ?_
            rw [hk1.2.1]
            refine Wp.iconst (v := (nI 1)) dX12_calm_57 (by decide) rfl ?_
            refine Wp.cV dX12_calm_58 cv_X12_191 rfl (by omega) rfl (Nat.le_of_ble_eq_true rfl) (Nat.le_of_ble_eq_true rfl) hMi.ob rfl (c_X12_bestAt (d := d - 1) (w := 1) hMi hCi.1 hB c_16 ⟨by omega, by omega, by omega, by omega⟩ (by decide) (by omega)) ?_
            rintro _ h_ ⟨rfl, e_⟩
            rw [e_]
            clear e_ h_
            dsimp only [Option.toList, List.drop, List.cons_append, List.nil_append]
            rw [show bst (cst (chS σ i) (chR σ i) (ptP σ i k) (ptQ σ i k)) (Kw 1 (chR σ i)) (chn σ i) = abP σ i k from rfl]
            refine Wp.istore dX12_calm_61 (Nat.le_of_ble_eq_true rfl) (by dsimp only [ev_st1, ev_st2, ev_cl] <;> rfl) rfl ?_
            refine Wp.aload_n dX12_calm_63 rfl (by first | exact Or.inr ⟨_, rfl⟩ | exact Or.inl rfl) rfl ?_
            refine Wp.iload dX12_calm_64 rfl rfl ?_
            refine Wp.cV dX12_calm_66 cv_X12_240 rfl (by omega) rfl (Nat.le_of_ble_eq_true rfl) (Nat.le_of_ble_eq_true rfl) hMi.ob rfl (c_X12_regrets (d := d - 1) hMi hW hCi hTi hab (by omega)) ?_
            rintro _ h3 ⟨rfl, V3, hM3, o3, f3, l1_, l2_⟩
            have l1_ : V3 32 = .long (lI (rgT σ i (abP σ i k)).1) := l1_
            have l2_ : V3 33 = .long (lI (rgT σ i (abP σ i k)).2) := l2_
            have o3 := hOi.trans o3
            have f3 : ∀ j, j ≠ 32 → j ≠ 33 → V3 j = V2 j := fun j z1 z2 => (f3 j z1 z2).trans (hfi j z1 z2)
            dsimp only [Option.toList, List.drop, List.cons_append, List.nil_append]
            refine Wp.aload_n dX12_calm_69 rfl (by first | exact Or.inr ⟨_, rfl⟩ | exact Or.inl rfl) rfl ?_
            refine Wp.get dX12_calm_70 fl_X12_234 hM3.ob l1_ rfl ?_
            refine Wp.lload dX12_calm_73 rfl rfl ?_
            refine Wp.lmul dX12_calm_75 rfl ?_
            rw [lI_mul]
            refine Wp.lload_n dX12_calm_76 rfl rfl ?_
            refine Wp.aload_n dX12_calm_77 rfl (by first | exact Or.inr ⟨_, rfl⟩ | exact Or.inl rfl) rfl ?_
            refine Wp.get dX12_calm_78 fl_X12_237 hM3.ob l2_ rfl ?_
            refine Wp.lmul dX12_calm_81 rfl ?_
            rw [lI_mul]
            refine Wp.lsub dX12_calm_82 rfl ?_
            rw [lI_sub]
            refine Wp.lstore dX12_calm_83 (Nat.le_of_ble_eq_true rfl) (by dsimp only [ev_st1, ev_st2, ev_cl] <;> rfl) rfl ?_
            refine Wp.iload_n dX12_calm_85 rfl rfl ?_
            refine Wp.iconst (v := (-1)) dX12_calm_86 (by decide) rfl ?_
            refine Wp.icmp_eq (tgt := 110) (n := 90) dX12_calm_87 (by decide) rfl (fun c_87 => ?_) (fun c_87 => ?_)
            · try simp (disch := omega) only [nI_bit0, nI_bit1, Bool.not_eq_false, Bool.not_eq_true] at c_87
              try simp (disch := omega) only [i_lt, i_le, i_eq, l_lt, l_le, l_eq, i_0, i_m1, l_0, nI_tI, iI_tI, lI_tI, Int.not_lt, Int.not_le] at c_87
              refine Wp.iload dX12_calm_110 rfl rfl ?_
              rw [nI_iI (abP σ i k)]
              refine Wp.istore_n dX12_calm_112 (Nat.le_of_ble_eq_true rfl) (by dsimp only [ev_st1, ev_st2, ev_cl] <;> rfl) rfl ?_
              refine Wp.aload_n dX12_calm_113 rfl (by first | exact Or.inr ⟨_, rfl⟩ | exact Or.inl rfl) rfl ?_
              refine Wp.get dX12_calm_114 fl_X12_234 hM3.ob l1_ rfl ?_
              refine Wp.lstore_n dX12_calm_117 (Nat.le_of_ble_eq_true rfl) (by dsimp only [ev_st1, ev_st2, ev_cl] <;> rfl) rfl ?_
              refine Wp.aload_n dX12_calm_118 rfl (by first | exact Or.inr ⟨_, rfl⟩ | exact Or.inl rfl) rfl ?_
              refine Wp.get dX12_calm_119 fl_X12_237 hM3.ob l2_ rfl ?_
              refine Wp.lstore dX12_calm_122 (Nat.le_of_ble_eq_true rfl) (by dsimp only [ev_st1, ev_st2, ev_cl] <;> rfl) rfl ?_
              refine Wp.iinc (v := _ + (nI 1)) dX12_calm_124 rfl rfl (Nat.le_of_ble_eq_true rfl) (by dsimp only [ev_st1, ev_cl] <;> rfl) rfl ?_
              refine Wp.goto (n := 31) dX12_calm_127 (by decide) ?_
              rw [nI_add1]
              have hr : cmN σ i (k + 1) = if (cmN σ i k).1 = -1 ∨ (rgT σ i (abP σ i k)).1 * (cmN σ i k).2.2 - (cmN σ i k).2.1 * (rgT σ i (abP σ i k)).2 < 0 ∨ ((rgT σ i (abP σ i k)).1 * (cmN σ i k).2.2 - (cmN σ i k).2.1 * (rgT σ i (abP σ i k)).2 = 0 ∧ (abP σ i k : Int) < (cmN σ i k).1) then ((abP σ i k : Int), (rgT σ i (abP σ i k)).1, (rgT σ i (abP σ i k)).2) else (cmN σ i k) := rfl
              first
                | (rw [if_pos (by omega)] at hr; rw [hr] at ih; exact ih _ _ hM3 o3 f3 _ _ _)
                | (rw [if_neg (by omega)] at hr; rw [hr] at ih; exact ih _ _ hM3 o3 f3 _ _ _)
            · try simp (disch := omega) only [nI_bit0, nI_bit1, Bool.not_eq_false, Bool.not_eq_true] at c_87
              try simp (disch := omega) only [i_lt, i_le, i_eq, l_lt, l_le, l_eq, i_0, i_m1, l_0, nI_tI, iI_tI, lI_tI, Int.not_lt, Int.not_le] at c_87
              refine Wp.lload dX12_calm_90 rfl rfl ?_
              refine Wp.lconst (v := 0) dX12_calm_92 (by decide) rfl ?_
              rw [L0]
              refine Wp.lcmp_lt (tgt := 110) (n := 97) dX12_calm_93 rfl dX12_calm_94 (by decide) rfl (fun c_93 => ?_) (fun c_93 => ?_)
              · try simp (disch := omega) only [nI_bit0, nI_bit1, Bool.not_eq_false, Bool.not_eq_true] at c_93
                try simp (disch := omega) only [i_lt, i_le, i_eq, l_lt, l_le, l_eq, i_0, i_m1, l_0, nI_tI, iI_tI, lI_tI, Int.not_lt, Int.not_le] at c_93
                refine Wp.iload dX12_calm_110 rfl rfl ?_
                rw [nI_iI (abP σ i k)]
                refine Wp.istore_n dX12_calm_112 (Nat.le_of_ble_eq_true rfl) (by dsimp only [ev_st1, ev_st2, ev_cl] <;> rfl) rfl ?_
                refine Wp.aload_n dX12_calm_113 rfl (by first | exact Or.inr ⟨_, rfl⟩ | exact Or.inl rfl) rfl ?_
                refine Wp.get dX12_calm_114 fl_X12_234 hM3.ob l1_ rfl ?_
                refine Wp.lstore_n dX12_calm_117 (Nat.le_of_ble_eq_true rfl) (by dsimp only [ev_st1, ev_st2, ev_cl] <;> rfl) rfl ?_
                refine Wp.aload_n dX12_calm_118 rfl (by first | exact Or.inr ⟨_, rfl⟩ | exact Or.inl rfl) rfl ?_
                refine Wp.get dX12_calm_119 fl_X12_237 hM3.ob l2_ rfl ?_
                refine Wp.lstore dX12_calm_122 (Nat.le_of_ble_eq_true rfl) (by dsimp only [ev_st1, ev_st2, ev_cl] <;> rfl) rfl ?_
                refine Wp.iinc (v := _ + (nI 1)) dX12_calm_124 rfl rfl (Nat.le_of_ble_eq_true rfl) (by dsimp only [ev_st1, ev_cl] <;> rfl) rfl ?_
                refine Wp.goto (n := 31) dX12_calm_127 (by decide) ?_
                rw [nI_add1]
                have hr : cmN σ i (k + 1) = if (cmN σ i k).1 = -1 ∨ (rgT σ i (abP σ i k)).1 * (cmN σ i k).2.2 - (cmN σ i k).2.1 * (rgT σ i (abP σ i k)).2 < 0 ∨ ((rgT σ i (abP σ i k)).1 * (cmN σ i k).2.2 - (cmN σ i k).2.1 * (rgT σ i (abP σ i k)).2 = 0 ∧ (abP σ i k : Int) < (cmN σ i k).1) then ((abP σ i k : Int), (rgT σ i (abP σ i k)).1, (rgT σ i (abP σ i k)).2) else (cmN σ i k) := rfl
                first
                  | (rw [if_pos (by omega)] at hr; rw [hr] at ih; exact ih _ _ hM3 o3 f3 _ _ _)
                  | (rw [if_neg (by omega)] at hr; rw [hr] at ih; exact ih _ _ hM3 o3 f3 _ _ _)
              · try simp (disch := omega) only [nI_bit0, nI_bit1, Bool.not_eq_false, Bool.not_eq_true] at c_93
                try simp (disch := omega) only [i_lt, i_le, i_eq, l_lt, l_le, l_eq, i_0, i_m1, l_0, nI_tI, iI_tI, lI_tI, Int.not_lt, Int.not_le] at c_93
                refine Wp.lload dX12_calm_97 rfl rfl ?_
                refine Wp.lconst (v := 0) dX12_calm_99 (by decide) rfl ?_
                rw [L0]
                refine Wp.lcmp_ne (tgt := 124) (n := 104) dX12_calm_100 rfl dX12_calm_101 (by decide) rfl (fun c_100 => ?_) (fun c_100 => ?_)
                · try simp (disch := omega) only [nI_bit0, nI_bit1, Bool.not_eq_false, Bool.not_eq_true] at c_100
                  try simp (disch := omega) only [i_lt, i_le, i_eq, l_lt, l_le, l_eq, i_0, i_m1, l_0, nI_tI, iI_tI, lI_tI, Int.not_lt, Int.not_le] at c_100
                  refine Wp.iinc (v := _ + (nI 1)) dX12_calm_124 rfl rfl (Nat.le_of_ble_eq_true rfl) (by dsimp only [ev_st1, ev_cl] <;> rfl) rfl ?_
                  refine Wp.goto (n := 31) dX12_calm_127 (by decide) ?_
                  rw [nI_add1]
                  have hr : cmN σ i (k + 1) = if (cmN σ i k).1 = -1 ∨ (rgT σ i (abP σ i k)).1 * (cmN σ i k).2.2 - (cmN σ i k).2.1 * (rgT σ i (abP σ i k)).2 < 0 ∨ ((rgT σ i (abP σ i k)).1 * (cmN σ i k).2.2 - (cmN σ i k).2.1 * (rgT σ i (abP σ i k)).2 = 0 ∧ (abP σ i k : Int) < (cmN σ i k).1) then ((abP σ i k : Int), (rgT σ i (abP σ i k)).1, (rgT σ i (abP σ i k)).2) else (cmN σ i k) := rfl
                  first
                    | (rw [if_pos (by omega)] at hr; rw [hr] at ih; exact ih _ _ hM3 o3 f3 _ _ _)
                    | (rw [if_neg (by omega)] at hr; rw [hr] at ih; exact ih _ _ hM3 o3 f3 _ _ _)
                · try simp (disch := omega) only [nI_bit0, nI_bit1, Bool.not_eq_false, Bool.not_eq_true] at c_100
                  try simp (disch := omega) only [i_lt, i_le, i_eq, l_lt, l_le, l_eq, i_0, i_m1, l_0, nI_tI, iI_tI, lI_tI, Int.not_lt, Int.not_le] at c_100
                  refine Wp.iload dX12_calm_104 rfl rfl ?_
                  refine Wp.iload_n dX12_calm_106 rfl rfl ?_
                  refine Wp.icmp_ge (tgt := 124) (n := 110) dX12_calm_107 (by decide) rfl (fun c_107 => ?_) (fun c_107 => ?_)
                  · try simp (disch := omega) only [nI_bit0, nI_bit1, Bool.not_eq_false, Bool.not_eq_true] at c_107
                    try simp (disch := omega) only [i_lt, i_le, i_eq, l_lt, l_le, l_eq, i_0, i_m1, l_0, nI_tI, iI_tI, lI_tI, Int.not_lt, Int.not_le] at c_107
                    refine Wp.iinc (v := _ + (nI 1)) dX12_calm_124 rfl rfl (Nat.le_of_ble_eq_true rfl) (by dsimp only [ev_st1, ev_cl] <;> rfl) rfl ?_
                    refine Wp.goto (n := 31) dX12_calm_127 (by decide) ?_
                    rw [nI_add1]
                    have hr : cmN σ i (k + 1) = if (cmN σ i k).1 = -1 ∨ (rgT σ i (abP σ i k)).1 * (cmN σ i k).2.2 - (cmN σ i k).2.1 * (rgT σ i (abP σ i k)).2 < 0 ∨ ((rgT σ i (abP σ i k)).1 * (cmN σ i k).2.2 - (cmN σ i k).2.1 * (rgT σ i (abP σ i k)).2 = 0 ∧ (abP σ i k : Int) < (cmN σ i k).1) then ((abP σ i k : Int), (rgT σ i (abP σ i k)).1, (rgT σ i (abP σ i k)).2) else (cmN σ i k) := rfl
                    first
                      | (rw [if_pos (by omega)] at hr; rw [hr] at ih; exact ih _ _ hM3 o3 f3 _ _ _)
                      | (rw [if_neg (by omega)] at hr; rw [hr] at ih; exact ih _ _ hM3 o3 f3 _ _ _)
                  · try simp (disch := omega) only [nI_bit0, nI_bit1, Bool.not_eq_false, Bool.not_eq_true] at c_107
                    try simp (disch := omega) only [i_lt, i_le, i_eq, l_lt, l_le, l_eq, i_0, i_m1, l_0, nI_tI, iI_tI, lI_tI, Int.not_lt, Int.not_le] at c_107
                    refine Wp.iload dX12_calm_110 rfl rfl ?_
                    rw [nI_iI (abP σ i k)]
                    refine Wp.istore_n dX12_calm_112 (Nat.le_of_ble_eq_true rfl) (by dsimp only [ev_st1, ev_st2, ev_cl] <;> rfl) rfl ?_
                    refine Wp.aload_n dX12_calm_113 rfl (by first | exact Or.inr ⟨_, rfl⟩ | exact Or.inl rfl) rfl ?_
                    refine Wp.get dX12_calm_114 fl_X12_234 hM3.ob l1_ rfl ?_
                    refine Wp.lstore_n dX12_calm_117 (Nat.le_of_ble_eq_true rfl) (by dsimp only [ev_st1, ev_st2, ev_cl] <;> rfl) rfl ?_
                    refine Wp.aload_n dX12_calm_118 rfl (by first | exact Or.inr ⟨_, rfl⟩ | exact Or.inl rfl) rfl ?_
                    refine Wp.get dX12_calm_119 fl_X12_237 hM3.ob l2_ rfl ?_
                    refine Wp.lstore dX12_calm_122 (Nat.le_of_ble_eq_true rfl) (by dsimp only [ev_st1, ev_st2, ev_cl] <;> rfl) rfl ?_
                    refine Wp.iinc (v := _ + (nI 1)) dX12_calm_124 rfl rfl (Nat.le_of_ble_eq_true rfl) (by dsimp only [ev_st1, ev_cl] <;> rfl) rfl ?_
                    refine Wp.goto (n := 31) dX12_calm_127 (by decide) ?_
                    rw [nI_add1]
                    have hr : cmN σ i (k + 1) = if (cmN σ i k).1 = -1 ∨ (rgT σ i (abP σ i k)).1 * (cmN σ i k).2.2 - (cmN σ i k).2.1 * (rgT σ i (abP σ i k)).2 < 0 ∨ ((rgT σ i (abP σ i k)).1 * (cmN σ i k).2.2 - (cmN σ i k).2.1 * (rgT σ i (abP σ i k)).2 = 0 ∧ (abP σ i k : Int) < (cmN σ i k).1) then ((abP σ i k : Int), (rgT σ i (abP σ i k)).1, (rgT σ i (abP σ i k)).2) else (cmN σ i k) := rfl
                    first
                      | (rw [if_pos (by omega)] at hr; rw [hr] at ih; exact ih _ _ hM3 o3 f3 _ _ _)
                      | (rw [if_neg (by omega)] at hr; rw [hr] at ih; exact ih _ _ hM3 o3 f3 _ _ _)
        · intro hh Vi hMi hOi hfi j8 j9 j10
          have hcb := cmN_b hW c_16 (npt σ i - 1)
          refine Wp.iload dX12_calm_31 rfl rfl ?_
          refine Wp.aload_n dX12_calm_33 rfl (by first | exact Or.inr ⟨_, rfl⟩ | exact Or.inl rfl) rfl ?_
          refine Wp.get dX12_calm_34 fl_X12_198 hMi.ob ((hfi 24 (by decide) (by decide)).trans hT2.1) rfl ?_
          refine Wp.iconst (v := (nI 1)) dX12_calm_37 (by decide) rfl ?_
          refine Wp.isub dX12_calm_38 rfl ?_
          rw [pk_sub (by omega)]
          refine Wp.icmp_ge (tgt := 130) (n := 42) dX12_calm_39 (by decide) rfl (fun c_39 => ?_) (fun c_39 => ?_)
          · try simp (disch := omega) only [nI_bit0, nI_bit1, Bool.not_eq_false, Bool.not_eq_true] at c_39
            try simp (disch := omega) only [i_lt, i_le, i_eq, l_lt, l_le, l_eq, i_0, i_m1, l_0, nI_tI, iI_tI, lI_tI, Int.not_lt, Int.not_le] at c_39
            refine Wp.aload_n dX12_calm_130 rfl (by first | exact Or.inr ⟨_, rfl⟩ | exact Or.inl rfl) rfl ?_
            refine Wp.get dX12_calm_131 fl_X12_57 hMi.ob (hMi.rf 21 (by decide)) rfl ?_
            refine Wp.iload_n dX12_calm_134 rfl rfl ?_
            refine Wp.iaload dX12_calm_135 (hMi.ia 21 (by decide)) (show (iI (cmN σ i (npt σ i - 1)).1).toInt = (((cmN σ i (npt σ i - 1)).1.toNat : Nat) : Int) by rw [iI_tI (by omega) (by omega)]; omega) (by show _ < 4096; omega) rfl ?_
            rw [hC2.2 _ (by omega)]
            exact Wp.iret dX12_calm_136 rfl (by have hPi := hP2.kp (show Kp V2 G2 Z2 Vi G2 Z2 from fun j hj => ⟨hfi j (by omega) (by omega), rfl, rfl⟩); exact RQ.i (by rw [a_calm, if_pos (show isO σ (nI i) by have e_ := nI_tI ho2; omega), tn_nI ho2, if_pos c_16]) hMi hPi hOi)
          · try simp (disch := omega) only [nI_bit0, nI_bit1, Bool.not_eq_false, Bool.not_eq_true] at c_39
            try simp (disch := omega) only [i_lt, i_le, i_eq, l_lt, l_le, l_eq, i_0, i_m1, l_0, nI_tI, iI_tI, lI_tI, Int.not_lt, Int.not_le] at c_39
            omega
      exact loop 0 (by omega) h2 V2 hM2 o2 (fun _ _ _ => rfl) _ _ _
    · try simp only [decide_eq_false_iff_not] at c_16
      refine Wp.iconst (v := (-1)) dX12_calm_19 (by decide) rfl ?_
      exact Wp.iret dX12_calm_20 rfl (RQ.i (by simp (disch := omega) only [a_calm, okL, okA, okWy, okPr, isO, okTl, okS, w01, okWn, okWh, nI_tI, iI_tI, tn_nI, nI_m1]; (repeat' split) <;> first | (exfalso; omega) | rfl) hM2 hP2 o2)
  · try simp only [decide_eq_true_eq, decide_eq_false_iff_not, Bool.and_eq_true, bI_0, bI_n0] at c_5
    refine Wp.bipush (v := (-2)) dX12_calm_8 (by decide) rfl ?_
    exact Wp.iret dX12_calm_10 rfl (RQ.i (by simp (disch := omega) only [a_calm, okL, okA, okWy, okPr, isO, okTl, okS, w01, okWn, okWh, nI_tI, iI_tI, tn_nI, nI_m1]; (repeat' split) <;> first | (exfalso; omega) | rfl) hM hP (Out.rfl (x := x) (h := h)))
theorem chB_lt {N : Nt} {o : Of} {s : Nat} (h : chB N o s = true) : s < 2 ^ N.L := by
  rcases Nat.lt_or_ge s (2 ^ N.L) with h1 | h1
  · exact h1
  · rw [chB_no (by omega)] at h; cases h
set_option maxHeartbeats 2000000 in
theorem c_X12_why {B : ev_B} {d x : Nat} {h : ev_H} {V : Nat → Value} {G : Nat → Nat → Int32} {Z : Nat → Nat → Int64} {σ : Sg} {o s0 p q : Int32} (hM : MH h x V G Z) (hP : PM σ V G Z) (hW : Wf σ) (htr : TrP σ.N) (hd : 5 ≤ d) :
    Wp B d M_X12_why 0 [some (.ref x), some (.int (o)), some (.int (s0)), some (.int (p)), some (.int (q)), none, none] [] h (RQ x h (σ) (.int (a_why σ o s0 p q))) := by
  have hn := hW.n
  have hT := hW.net.1
  have hL := hW.net.2.1
  have hp12 := lt_2pow hL
  by_cases hso : okS σ s0
  · obtain ⟨s, rfl, hs1, hs2⟩ := as_nI hso
    have hs : s < 4096 := by omega
    refine Wp.aload_n dX12_why_0 rfl (by first | exact Or.inr ⟨_, rfl⟩ | exact Or.inl rfl) rfl ?_
    refine Wp.iload_n dX12_why_1 rfl rfl ?_
    refine Wp.cV dX12_why_2 cv_X12_115 rfl (by omega) rfl (Nat.le_of_ble_eq_true rfl) (Nat.le_of_ble_eq_true rfl) hM.ob rfl (c_X12_isOffer (d := d - 1) hM hP hW (by omega)) ?_
    rintro _ h_ ⟨rfl, e_⟩
    rw [e_]
    clear e_ h_
    dsimp only [Option.toList, List.drop, List.cons_append, List.nil_append]
    refine Wp.bif_eq (tgt := 36) (n := 8) dX12_why_5 (by decide) rfl (fun c_5 => ?_) (fun c_5 => ?_)
    · try simp only [decide_eq_true_eq, decide_eq_false_iff_not, Bool.and_eq_true, bI_0, bI_n0] at c_5
      refine Wp.bipush (v := (-2)) dX12_why_36 (by decide) rfl ?_
      exact Wp.iret dX12_why_38 rfl (RQ.i (by rw [a_why, if_neg (fun z => by simp (disch := omega) only [okWh, isO, nI_tI, tn_nI] at z; first | omega | (have z1 := z.2.2.1.2; rw [c_24] at z1; cases z1))]) hM hP (Out.rfl (x := x) (h := h)))
    · try simp only [decide_eq_true_eq, decide_eq_false_iff_not, Bool.and_eq_true, bI_0, bI_n0] at c_5
      obtain ⟨i, rfl, ho, ho2⟩ := as_nI (show 0 ≤ o.toInt ∧ o.toInt < σ.n by omega)
      have hO := hP.of i ho
      have hOw := hW.of i ho
      have hok := hOw.k
      refine Wp.aload_n dX12_why_8 rfl (by first | exact Or.inr ⟨_, rfl⟩ | exact Or.inl rfl) rfl ?_
      refine Wp.get dX12_why_9 fl_X12_16 hM.ob (hM.rf 4 (by decide)) rfl ?_
      refine Wp.iload_n dX12_why_12 rfl rfl ?_
      refine Wp.iaload dX12_why_13 (hM.ia 4 (by decide)) (nI_toInt (by omega)) (by show _ < 10; omega) rfl ?_
      rw [hO.k]
      refine Wp.iconst (v := (nI 1)) dX12_why_14 (by decide) rfl ?_
      refine Wp.icmp_ne (tgt := 36) (n := 18) dX12_why_15 (by decide) rfl (fun c_15 => ?_) (fun c_15 => ?_)
      · try simp (disch := omega) only [nI_bit0, nI_bit1, Bool.not_eq_false, Bool.not_eq_true] at c_15
        try simp (disch := omega) only [i_lt, i_le, i_eq, l_lt, l_le, l_eq, i_0, i_m1, l_0, nI_tI, iI_tI, lI_tI, Int.not_lt, Int.not_le] at c_15
        refine Wp.bipush (v := (-2)) dX12_why_36 (by decide) rfl ?_
        exact Wp.iret dX12_why_38 rfl (RQ.i (by rw [a_why, if_neg (fun z => by simp (disch := omega) only [okWh, isO, nI_tI, tn_nI] at z; first | omega | (have z1 := z.2.2.1.2; rw [c_24] at z1; cases z1))]) hM hP (Out.rfl (x := x) (h := h)))
      · try simp (disch := omega) only [nI_bit0, nI_bit1, Bool.not_eq_false, Bool.not_eq_true] at c_15
        try simp (disch := omega) only [i_lt, i_le, i_eq, l_lt, l_le, l_eq, i_0, i_m1, l_0, nI_tI, iI_tI, lI_tI, Int.not_lt, Int.not_le] at c_15
        refine Wp.aload_n dX12_why_18 rfl (by first | exact Or.inr ⟨_, rfl⟩ | exact Or.inl rfl) rfl ?_
        refine Wp.iload_n dX12_why_19 rfl rfl ?_
        refine Wp.iload_n dX12_why_20 rfl rfl ?_
        refine Wp.cV dX12_why_21 cv_X12_156 rfl (by omega) rfl (Nat.le_of_ble_eq_true rfl) (Nat.le_of_ble_eq_true rfl) hM.ob rfl (c_X12_isChoice (d := d - 1) hM hP hW ho hs (by omega)) ?_
        rintro _ h_ ⟨rfl, e_⟩
        rw [e_]
        clear e_ h_
        dsimp only [Option.toList, List.drop, List.cons_append, List.nil_append]
        refine Wp.bif_eq (tgt := 36) (n := 27) dX12_why_24 (by decide) rfl (fun c_24 => ?_) (fun c_24 => ?_)
        · try simp only [decide_eq_true_eq, decide_eq_false_iff_not, Bool.and_eq_true, bI_0, bI_n0] at c_24
          refine Wp.bipush (v := (-2)) dX12_why_36 (by decide) rfl ?_
          exact Wp.iret dX12_why_38 rfl (RQ.i (by rw [a_why, if_neg (fun z => by simp (disch := omega) only [okWh, isO, nI_tI, tn_nI] at z; first | omega | (have z1 := z.2.2.1.2; rw [c_24] at z1; cases z1))]) hM hP (Out.rfl (x := x) (h := h)))
        · try simp only [decide_eq_true_eq, decide_eq_false_iff_not, Bool.and_eq_true, bI_0, bI_n0] at c_24
          refine Wp.iload_n dX12_why_27 rfl rfl ?_
          refine Wp.iload dX12_why_28 rfl rfl ?_
          refine Wp.cS dX12_why_30 cs_X12_175 rfl (by omega) rfl (Nat.le_of_ble_eq_true rfl) (Nat.le_of_ble_eq_true rfl) rfl (c_X12_isPrice (d := d - 1) (by omega)) ?_
          rintro _ h_ ⟨rfl, e_⟩
          rw [e_]
          clear e_ h_
          dsimp only [Option.toList, List.drop, List.cons_append, List.nil_append]
          refine Wp.bif_ne (tgt := 39) (n := 36) dX12_why_33 (by decide) rfl (fun c_33 => ?_) (fun c_33 => ?_)
          · try simp only [decide_eq_true_eq, decide_eq_false_iff_not, Bool.and_eq_true, bI_0, bI_n0] at c_33
            have hk1 : (σ.O i).k = 1 := by omega
            have hch := c_24
            have htree : trB σ.N.fr σ.N.to σ.N.T σ.N.L s = true := by rw [← chB_1 (by omega) hk1]; exact hch
            refine Wp.iconst (v := (nI 0)) dX12_why_39 (by decide) rfl ?_
            refine Wp.istore dX12_why_40 (Nat.le_of_ble_eq_true rfl) (by dsimp only [ev_st1, ev_st2, ev_cl] <;> rfl) rfl ?_
            have loop : ∀ l, l ≤ σ.N.L → whF (whP σ.N s p.toInt q.toInt) (fun l => 12 * (l : Int) + drM σ.N s p.toInt q.toInt l) σ.N.L (σ.N.L - l) = whF (whP σ.N s p.toInt q.toInt) (fun l => 12 * (l : Int) + drM σ.N s p.toInt q.toInt l) σ.N.L σ.N.L → ∀ j6 : Option Value, Wp B d M_X12_why 42 [some (.ref x), some (.int (nI i)), some (.int (nI s)), some (.int (p)), some (.int (q)), some (.int (nI l)), j6] [] h (RQ x h σ (.int (a_why σ (nI i) (nI s) p q))) := by
              refine ev_upl σ.N.L (fun l hi ih => ?_) ?_
              · intro hwf j6
                rw [show σ.N.L - l = (σ.N.L - l - 1) + 1 by omega, whF, show σ.N.L - (σ.N.L - l - 1 + 1) = l by omega] at hwf
                refine Wp.iload dX12_why_42 rfl rfl ?_
                refine Wp.aload_n dX12_why_44 rfl (by first | exact Or.inr ⟨_, rfl⟩ | exact Or.inl rfl) rfl ?_
                refine Wp.cV dX12_why_45 cv_X12_78 rfl (by omega) rfl (Nat.le_of_ble_eq_true rfl) (Nat.le_of_ble_eq_true rfl) hM.ob rfl (c_X12_lines (d := d - 1) (hM.net hP.net) hW.net) ?_
                rintro _ h_ ⟨rfl, e_⟩
                rw [e_]
                clear e_ h_
                dsimp only [Option.toList, List.drop, List.cons_append, List.nil_append]
                refine Wp.icmp_ge (tgt := 109) (n := 51) dX12_why_48 (by decide) rfl (fun c_48 => ?_) (fun c_48 => ?_)
                · try simp (disch := omega) only [nI_bit0, nI_bit1, Bool.not_eq_false, Bool.not_eq_true] at c_48
                  try simp (disch := omega) only [i_lt, i_le, i_eq, l_lt, l_le, l_eq, i_0, i_m1, l_0, nI_tI, iI_tI, lI_tI, Int.not_lt, Int.not_le] at c_48
                  omega
                · try simp (disch := omega) only [nI_bit0, nI_bit1, Bool.not_eq_false, Bool.not_eq_true] at c_48
                  try simp (disch := omega) only [i_lt, i_le, i_eq, l_lt, l_le, l_eq, i_0, i_m1, l_0, nI_tI, iI_tI, lI_tI, Int.not_lt, Int.not_le] at c_48
                  refine Wp.iload_n dX12_why_51 rfl rfl ?_
                  refine Wp.iload dX12_why_52 rfl rfl ?_
                  refine Wp.ishr dX12_why_54 rfl ?_
                  refine Wp.iconst (v := (nI 1)) dX12_why_55 (by decide) rfl ?_
                  refine Wp.iand dX12_why_56 rfl ?_
                  refine Wp.if_ne (tgt := 103) (n := 60) dX12_why_57 (by decide) rfl (fun c_57 => ?_) (fun c_57 => ?_)
                  · have c_57 : s.testBit l = true := (nI_bitn0 (by omega) (by omega)).mp c_57
                    rw [if_neg (by simp [whP, c_57])] at hwf
                    refine Wp.iinc (v := _ + (nI 1)) dX12_why_103 rfl rfl (Nat.le_of_ble_eq_true rfl) (by dsimp only [ev_st1, ev_cl] <;> rfl) rfl ?_
                    refine Wp.goto (n := 42) dX12_why_106 (by decide) ?_
                    rw [nI_add1]
                    exact ih (by rw [show σ.N.L - (l + 1) = σ.N.L - l - 1 by omega]; exact hwf) _
                  · have c_57 : s.testBit l = false := (nI_bit0 (by omega) (by omega)).mp c_57
                    obtain ⟨u, hu, hu2, hu3⟩ := htr s l hs hi htree c_57
                    have hdp := drS_pos (on := fun o => s.testBit o && btwM σ.N.fr σ.N.to σ.N.L s o l) (c := lcN σ.N p.toInt q.toInt) σ.N.L hu (by simp [hu2, hu3])
                    have hdl := (drS_lt (fun o => s.testBit o && btwM σ.N.fr σ.N.to σ.N.L s o l) (lcN σ.N p.toInt q.toInt) σ.N.L).2
                    obtain ⟨t, ht⟩ : ∃ t : Nat, drM σ.N s p.toInt q.toInt l = t := ⟨_, (Int.toNat_of_nonneg hdp).symm⟩
                    have htl : t < σ.N.L := by have e_ : drM σ.N s p.toInt q.toInt l < σ.N.L := hdl; omega
                    have hcl := lcN_b hW.net (p := p.toInt) (q := q.toInt) (by omega) hi
                    have hct := lcN_b hW.net (p := p.toInt) (q := q.toInt) (by omega) htl
                    refine Wp.aload_n dX12_why_60 rfl (by first | exact Or.inr ⟨_, rfl⟩ | exact Or.inl rfl) rfl ?_
                    refine Wp.iload_n dX12_why_61 rfl rfl ?_
                    refine Wp.iload dX12_why_62 rfl rfl ?_
                    refine Wp.iload_n dX12_why_64 rfl rfl ?_
                    refine Wp.iload dX12_why_65 rfl rfl ?_
                    refine Wp.cV dX12_why_67 cv_X12_247 rfl (by omega) rfl (Nat.le_of_ble_eq_true rfl) (Nat.le_of_ble_eq_true rfl) hM.ob rfl (c_X12_dearest (d := d - 1) (hM.net hP.net) hW.net (by omega) hi (by omega) (by omega) (by omega)) ?_
                    rintro _ h_ ⟨rfl, e_⟩
                    rw [e_]
                    clear e_ h_
                    dsimp only [Option.toList, List.drop, List.cons_append, List.nil_append]
                    rw [show drS (fun o => s.testBit o && btwM σ.N.fr σ.N.to σ.N.L s o l) (fun o => σ.N.sa o * q.toInt + σ.N.ri o * p.toInt) σ.N.L = (t : Int) from ht, ← nI_iI]
                    refine Wp.istore dX12_why_70 (Nat.le_of_ble_eq_true rfl) (by dsimp only [ev_st1, ev_st2, ev_cl] <;> rfl) rfl ?_
                    refine Wp.aload_n dX12_why_72 rfl (by first | exact Or.inr ⟨_, rfl⟩ | exact Or.inl rfl) rfl ?_
                    refine Wp.iload dX12_why_73 rfl rfl ?_
                    refine Wp.iload_n dX12_why_75 rfl rfl ?_
                    refine Wp.iload dX12_why_76 rfl rfl ?_
                    refine Wp.cV dX12_why_78 cv_X12_243 rfl (by omega) rfl (Nat.le_of_ble_eq_true rfl) (Nat.le_of_ble_eq_true rfl) hM.ob rfl (c_X12_lineCost (d := d - 1) (hM.net hP.net) hW.net hi) ?_
                    rintro _ h_ ⟨rfl, e_⟩
                    rw [e_]
                    clear e_ h_
                    dsimp only [Option.toList, List.drop, List.cons_append, List.nil_append]
                    rw [show σ.N.sa l * q.toInt + σ.N.ri l * p.toInt = lcN σ.N p.toInt q.toInt l from rfl]
                    refine Wp.aload_n dX12_why_81 rfl (by first | exact Or.inr ⟨_, rfl⟩ | exact Or.inl rfl) rfl ?_
                    refine Wp.iload dX12_why_82 rfl rfl ?_
                    refine Wp.iload_n dX12_why_84 rfl rfl ?_
                    refine Wp.iload dX12_why_85 rfl rfl ?_
                    refine Wp.cV dX12_why_87 cv_X12_243 rfl (by omega) rfl (Nat.le_of_ble_eq_true rfl) (Nat.le_of_ble_eq_true rfl) hM.ob rfl (c_X12_lineCost (d := d - 1) (hM.net hP.net) hW.net htl) ?_
                    rintro _ h_ ⟨rfl, e_⟩
                    rw [e_]
                    clear e_ h_
                    dsimp only [Option.toList, List.drop, List.cons_append, List.nil_append]
                    rw [show σ.N.sa t * q.toInt + σ.N.ri t * p.toInt = lcN σ.N p.toInt q.toInt t from rfl]
                    refine Wp.lcmp_ge (tgt := 103) (n := 94) dX12_why_90 rfl dX12_why_91 (by decide) rfl (fun c_90 => ?_) (fun c_90 => ?_)
                    · try simp (disch := omega) only [nI_bit0, nI_bit1, Bool.not_eq_false, Bool.not_eq_true] at c_90
                      try simp (disch := omega) only [i_lt, i_le, i_eq, l_lt, l_le, l_eq, i_0, i_m1, l_0, nI_tI, iI_tI, lI_tI, Int.not_lt, Int.not_le] at c_90
                      rw [if_neg (by simp only [whP, ht, Int.toNat_natCast, Bool.and_eq_true, decide_eq_true_eq]; omega)] at hwf
                      refine Wp.iinc (v := _ + (nI 1)) dX12_why_103 rfl rfl (Nat.le_of_ble_eq_true rfl) (by dsimp only [ev_st1, ev_cl] <;> rfl) rfl ?_
                      refine Wp.goto (n := 42) dX12_why_106 (by decide) ?_
                      rw [nI_add1]
                      exact ih (by rw [show σ.N.L - (l + 1) = σ.N.L - l - 1 by omega]; exact hwf) _
                    · try simp (disch := omega) only [nI_bit0, nI_bit1, Bool.not_eq_false, Bool.not_eq_true] at c_90
                      try simp (disch := omega) only [i_lt, i_le, i_eq, l_lt, l_le, l_eq, i_0, i_m1, l_0, nI_tI, iI_tI, lI_tI, Int.not_lt, Int.not_le] at c_90
                      rw [if_pos (by simp only [whP, ht, Int.toNat_natCast, c_57, Bool.and_eq_true, decide_eq_true_eq, Bool.not_false]; exact ⟨trivial, by omega, by omega⟩)] at hwf
                      refine Wp.bipush (v := (nI 12)) dX12_why_94 (by decide) rfl ?_
                      refine Wp.iload dX12_why_96 rfl rfl ?_
                      refine Wp.imul dX12_why_98 rfl ?_
                      rw [pk_mul]
                      refine Wp.iload dX12_why_99 rfl rfl ?_
                      refine Wp.iadd dX12_why_101 rfl ?_
                      rw [nI_add]
                      exact Wp.iret dX12_why_102 rfl (RQ.i (by rw [a_why, if_pos (show okWh σ (nI i) (nI s) p q by simp (disch := omega) only [okWh, isO, nI_tI, tn_nI]; exact ⟨by omega, hk1, ⟨by omega, hch⟩, by omega⟩), tn_nI hs2, whV]; rw [← hwf, nI_iI]; congr 1; (try dsimp only); omega) hM hP (Out.rfl (x := x) (h := h)))
              · intro hwf j6
                refine Wp.iload dX12_why_42 rfl rfl ?_
                refine Wp.aload_n dX12_why_44 rfl (by first | exact Or.inr ⟨_, rfl⟩ | exact Or.inl rfl) rfl ?_
                refine Wp.cV dX12_why_45 cv_X12_78 rfl (by omega) rfl (Nat.le_of_ble_eq_true rfl) (Nat.le_of_ble_eq_true rfl) hM.ob rfl (c_X12_lines (d := d - 1) (hM.net hP.net) hW.net) ?_
                rintro _ h_ ⟨rfl, e_⟩
                rw [e_]
                clear e_ h_
                dsimp only [Option.toList, List.drop, List.cons_append, List.nil_append]
                refine Wp.icmp_ge (tgt := 109) (n := 51) dX12_why_48 (by decide) rfl (fun c_48 => ?_) (fun c_48 => ?_)
                · try simp (disch := omega) only [nI_bit0, nI_bit1, Bool.not_eq_false, Bool.not_eq_true] at c_48
                  try simp (disch := omega) only [i_lt, i_le, i_eq, l_lt, l_le, l_eq, i_0, i_m1, l_0, nI_tI, iI_tI, lI_tI, Int.not_lt, Int.not_le] at c_48
                  refine Wp.iconst (v := (-1)) dX12_why_109 (by decide) rfl ?_
                  exact Wp.iret dX12_why_110 rfl (RQ.i (by rw [a_why, if_pos (show okWh σ (nI i) (nI s) p q by simp (disch := omega) only [okWh, isO, nI_tI, tn_nI]; exact ⟨by omega, hk1, ⟨by omega, hch⟩, by omega⟩), tn_nI hs2, whV]; rw [← hwf, Nat.sub_self]; rfl) hM hP (Out.rfl (x := x) (h := h)))
                · try simp (disch := omega) only [nI_bit0, nI_bit1, Bool.not_eq_false, Bool.not_eq_true] at c_48
                  try simp (disch := omega) only [i_lt, i_le, i_eq, l_lt, l_le, l_eq, i_0, i_m1, l_0, nI_tI, iI_tI, lI_tI, Int.not_lt, Int.not_le] at c_48
                  omega
            exact loop 0 (by omega) rfl _
          · try simp only [decide_eq_true_eq, decide_eq_false_iff_not, Bool.and_eq_true, bI_0, bI_n0] at c_33
            refine Wp.bipush (v := (-2)) dX12_why_36 (by decide) rfl ?_
            exact Wp.iret dX12_why_38 rfl (RQ.i (by rw [a_why, if_neg (fun z => by simp (disch := omega) only [okWh, isO, nI_tI, tn_nI] at z; first | omega | (have z1 := z.2.2.1.2; rw [c_24] at z1; cases z1))]) hM hP (Out.rfl (x := x) (h := h)))
  · refine Wp.aload_n dX12_why_0 rfl (by first | exact Or.inr ⟨_, rfl⟩ | exact Or.inl rfl) rfl ?_
    refine Wp.iload_n dX12_why_1 rfl rfl ?_
    refine Wp.cV dX12_why_2 cv_X12_115 rfl (by omega) rfl (Nat.le_of_ble_eq_true rfl) (Nat.le_of_ble_eq_true rfl) hM.ob rfl (c_X12_isOffer (d := d - 1) hM hP hW (by omega)) ?_
    rintro _ h_ ⟨rfl, e_⟩
    rw [e_]
    clear e_ h_
    dsimp only [Option.toList, List.drop, List.cons_append, List.nil_append]
    refine Wp.bif_eq (tgt := 36) (n := 8) dX12_why_5 (by decide) rfl (fun c_5 => ?_) (fun c_5 => ?_)
    · try simp only [decide_eq_true_eq, decide_eq_false_iff_not, Bool.and_eq_true, bI_0, bI_n0] at c_5
      refine Wp.bipush (v := (-2)) dX12_why_36 (by decide) rfl ?_
      exact Wp.iret dX12_why_38 rfl (RQ.i (by rw [a_why, if_neg (fun z => by have z1 := chB_lt z.2.2.1.2; have z2 := z.2.2.1.1; exact hso ⟨z2.1, by rw [tn] at z1; omega⟩)]) hM hP (Out.rfl (x := x) (h := h)))
    · try simp only [decide_eq_true_eq, decide_eq_false_iff_not, Bool.and_eq_true, bI_0, bI_n0] at c_5
      obtain ⟨i, rfl, ho, ho2⟩ := as_nI (show 0 ≤ o.toInt ∧ o.toInt < σ.n by omega)
      have hO := hP.of i ho
      have hOw := hW.of i ho
      have hok := hOw.k
      refine Wp.aload_n dX12_why_8 rfl (by first | exact Or.inr ⟨_, rfl⟩ | exact Or.inl rfl) rfl ?_
      refine Wp.get dX12_why_9 fl_X12_16 hM.ob (hM.rf 4 (by decide)) rfl ?_
      refine Wp.iload_n dX12_why_12 rfl rfl ?_
      refine Wp.iaload dX12_why_13 (hM.ia 4 (by decide)) (nI_toInt (by omega)) (by show _ < 10; omega) rfl ?_
      rw [hO.k]
      refine Wp.iconst (v := (nI 1)) dX12_why_14 (by decide) rfl ?_
      refine Wp.icmp_ne (tgt := 36) (n := 18) dX12_why_15 (by decide) rfl (fun c_15 => ?_) (fun c_15 => ?_)
      · try simp (disch := omega) only [nI_bit0, nI_bit1, Bool.not_eq_false, Bool.not_eq_true] at c_15
        try simp (disch := omega) only [i_lt, i_le, i_eq, l_lt, l_le, l_eq, i_0, i_m1, l_0, nI_tI, iI_tI, lI_tI, Int.not_lt, Int.not_le] at c_15
        refine Wp.bipush (v := (-2)) dX12_why_36 (by decide) rfl ?_
        exact Wp.iret dX12_why_38 rfl (RQ.i (by rw [a_why, if_neg (fun z => by have z1 := chB_lt z.2.2.1.2; have z2 := z.2.2.1.1; exact hso ⟨z2.1, by rw [tn] at z1; omega⟩)]) hM hP (Out.rfl (x := x) (h := h)))
      · try simp (disch := omega) only [nI_bit0, nI_bit1, Bool.not_eq_false, Bool.not_eq_true] at c_15
        try simp (disch := omega) only [i_lt, i_le, i_eq, l_lt, l_le, l_eq, i_0, i_m1, l_0, nI_tI, iI_tI, lI_tI, Int.not_lt, Int.not_le] at c_15
        refine Wp.aload_n dX12_why_18 rfl (by first | exact Or.inr ⟨_, rfl⟩ | exact Or.inl rfl) rfl ?_
        refine Wp.iload_n dX12_why_19 rfl rfl ?_
        refine Wp.iload_n dX12_why_20 rfl rfl ?_
        refine Wp.cV dX12_why_21 cv_X12_156 rfl (by omega) rfl (Nat.le_of_ble_eq_true rfl) (Nat.le_of_ble_eq_true rfl) hM.ob rfl (c_X12_isChoice_no (d := d - 1) (i := i) hM hP hW hso (by omega)) ?_
        rintro _ h_ ⟨rfl, e_⟩
        rw [e_]
        clear e_ h_
        dsimp only [Option.toList, List.drop, List.cons_append, List.nil_append]
        refine Wp.bif_eq (tgt := 36) (n := 27) dX12_why_24 (by decide) rfl (fun _ => ?_) (fun c_ => Bool.noConfusion c_)
        refine Wp.bipush (v := (-2)) dX12_why_36 (by decide) rfl ?_
        exact Wp.iret dX12_why_38 rfl (RQ.i (by rw [a_why, if_neg (fun z => by have z1 := chB_lt z.2.2.1.2; have z2 := z.2.2.1.1; exact hso ⟨z2.1, by rw [tn] at z1; omega⟩)]) hM hP (Out.rfl (x := x) (h := h)))
