/-! the class: top -/
def tP (σ : Sg) (o k : Nat) : Int := if k = 0 then σ.p1 else if k + 1 = npt σ o then σ.p2 else ptP σ o k
def tQ (σ : Sg) (o k : Nat) : Int := if k = 0 then σ.q1 else if k + 1 = npt σ o then σ.q2 else ptQ σ o k
def tV (σ : Sg) (o k : Nat) : Int := mnN (cst (chS σ o) (chR σ o) (tP σ o k) (tQ σ o k)) (chn σ o)
def tT (σ : Sg) (o : Nat) : Nat := tpN (tV σ o) (tQ σ o) (npt σ o)
theorem t_sc {σ : Sg} (hW : Wf σ) {o k : Nat} (h0 : 0 < chn σ o) (hk : k < npt σ o) : ∃ g : Int, 0 < g ∧ tP σ o k = g * ptP σ o k ∧ tQ σ o k = g * ptQ σ o k ∧ tV σ o k = g * ptL_ σ o k := by
  have hl := npt_blL hW h0
  obtain ⟨g, hg, e1, e2, -⟩ := pt_fr hW h0 hk
  have key : ∀ u v, (pts σ o).getD k (0, 1) = (u, v) → tP σ o k = u → tQ σ o k = v → ∃ g : Int, 0 < g ∧ tP σ o k = g * ptP σ o k ∧ tQ σ o k = g * ptQ σ o k ∧ tV σ o k = g * ptL_ σ o k := by
    intro u v z z1 z2
    rw [z] at e1 e2
    dsimp only at e1 e2
    refine ⟨g, hg, z1.trans e1, z2.trans e2, ?_⟩
    unfold tV ptL_
    rw [z1.trans e1, z2.trans e2]
    exact mnN_scale hg (fun j => cst_sc j) _
  by_cases c0 : k = 0
  · subst c0
    exact key _ _ pts_0 (by rw [tP, if_pos rfl]) (by rw [tQ, if_pos rfl])
  · by_cases c1 : k + 1 = npt σ o
    · exact key σ.p2 σ.q2 (by rw [show k = (blL σ o).length + 1 by omega]; exact pts_z hW h0) (by rw [tP, if_neg c0, if_pos c1]) (by rw [tQ, if_neg c0, if_pos c1])
    · have eP : tP σ o k = ptP σ o k := by rw [tP, if_neg c0, if_neg c1]
      have eQ : tQ σ o k = ptQ σ o k := by rw [tQ, if_neg c0, if_neg c1]
      refine ⟨1, by decide, by rw [eP]; omega, by rw [eQ]; omega, ?_⟩
      unfold tV ptL_
      rw [eP, eQ]; omega
theorem t_b {σ : Sg} (hW : Wf σ) {o k : Nat} (h0 : 0 < chn σ o) (hk : k < npt σ o) : (-10000 ≤ tP σ o k ∧ tP σ o k ≤ 10000) ∧ (0 < tQ σ o k ∧ tQ σ o k ≤ 10000) ∧ -14400000 ≤ tV σ o k ∧ tV σ o k ≤ 14400000 := by
  have w1 := hW.w1
  have w2 := hW.w2
  have b := ptL_b hW h0 hk
  have e : (-10000 ≤ tP σ o k ∧ tP σ o k ≤ 10000) ∧ (0 < tQ σ o k ∧ tQ σ o k ≤ 10000) := by
    unfold tP tQ
    split
    · omega
    · split <;> omega
  exact ⟨e.1, e.2, mnN_b2 (PrB_ch hW o) h0 e.1.1 e.1.2 e.2.1 e.2.2⟩
theorem tpN_sc {v q v' q' : Nat → Int} : ∀ n, (∀ k, k < n → 0 < q k ∧ ∃ g : Int, 0 < g ∧ v' k = g * v k ∧ q' k = g * q k) → tpN v' q' n = tpN v q n
  | 0, _ => rfl
  | n + 1, h => by
    by_cases hn : n = 0
    · subst hn
      exact (tpN_1 v' q').trans (tpN_1 v q).symm
    · have ih := tpN_sc n (fun k hk => h k (by omega))
      have ht := (tpN_le v q n).2 (by omega)
      simp only [tpN]
      rw [ih]
      generalize tpN v q n = t at *
      obtain ⟨q0, g, hg, a1, a2⟩ := h n (by omega)
      obtain ⟨q3, f, hf, a3, a4⟩ := h t (by omega)
      rw [a1, a2, a3, a4]
      have e1 : f * v t * (g * q n) = f * g * (v t * q n) := by grind
      have e2 : g * v n * (f * q t) = f * g * (v n * q t) := by grind
      rw [e1, e2]
      have hfg : 0 < f * g := Int.mul_pos hf hg
      simp only [Int.mul_lt_mul_left hfg]
theorem tT_ok {σ : Sg} (hW : Wf σ) {o : Nat} (h0 : 0 < chn σ o) : tT σ o = tpN (ptL_ σ o) (ptQ σ o) (npt σ o) :=
  tpN_sc _ (fun k hk => ⟨(ptL_b hW h0 hk).2.1.1, by
    obtain ⟨g, hg, -, a2, a3⟩ := t_sc hW h0 hk
    exact ⟨g, hg, a3, a2⟩⟩)
theorem low_low {p q : Int} (hq : 0 < q) (w : Bool) : low w (low true p q) (low false p q) = low w p q := by
  obtain ⟨g, hg, e1, e2, e3⟩ := low_frac (a := p) hq
  refine low_eq e3 hq ?_
  generalize low true p q = u at *
  generalize low false p q = v at *
  rw [e1, e2]
  grind
theorem top_ok {σ : Sg} (hW : Wf σ) {o : Nat} (h0 : 0 < chn σ o) : low true (tP σ o (tT σ o)) (tQ σ o (tT σ o)) = ptP σ o (tT σ o) ∧ low false (tP σ o (tT σ o)) (tQ σ o (tT σ o)) = ptQ σ o (tT σ o) ∧ ∀ w, low w (tV σ o (tT σ o)) (tQ σ o (tT σ o)) = low w (ptL_ σ o (tT σ o)) (ptQ σ o (tT σ o)) := by
  have hl := npt_blL hW h0
  have hk : tT σ o < npt σ o := (tpN_le _ _ _).2 (by omega)
  obtain ⟨g, hg, a1, a2, a3⟩ := t_sc hW h0 hk
  have b := ptL_b hW h0 hk
  have bt := t_b hW h0 hk
  have hm := pt_b hW h0 (getD_mem (e := (0, 1)) (show tT σ o < (pts σ o).length by rw [npt, if_pos h0] at hk; exact hk))
  have l : ∀ w, low w (tP σ o (tT σ o)) (tQ σ o (tT σ o)) = low w (ptP σ o (tT σ o)) (ptQ σ o (tT σ o)) := fun w => low_eq bt.2.1.1 b.2.1.1 (by rw [a1, a2]; grind)
  refine ⟨(l true).trans ?_, (l false).trans ?_, fun w => low_eq bt.2.1.1 b.2.1.1 (by rw [a2, a3]; grind)⟩
  · exact low_low hm.2.2.1 true
  · exact low_low hm.2.2.1 false
set_option maxHeartbeats 2000000 in
theorem c_X11_findTop {B : ev_B} {d i a0 w0 j : Nat} {X : Nat → Prop} {h : ev_H} {A1 : Nat → Nat} {C1 : Nat → Option ev_E} {σ : Sg} {ns ws : Nat} {cp1 ln1 : Nat → Nat} {lr : Nat} (hW : Wf σ) (p1 : PS X w0 h A1 C1 σ ns ws cp1 ln1 lr j) (ha1 : A1 0 = a0) (on1 : OfN A1 C1 σ ns ws i (cp1 i) (ln1 i)) (ho : i < σ.n) (hch0 : 0 < chn σ i) (hd : 8 ≤ d) :
    Wp B d M_X11_findTop 0 [some (.ref a0), some (.ref (A1 (tO i))), none, none, none, none, none, none, none, none, none, none, none] [] h (fun v h' => v = none ∧ ∃ A' C' cp' ln' z, FX X h h' ∧ A' 0 = a0 ∧ PS X w0 h' A' C' σ ns ws cp' ln' lr j ∧ C' 13 = some (ev_la 5 z) ∧ z 0 = lI (ptP σ i (tT σ i)) ∧ z 1 = lI (ptQ σ i (tT σ i)) ∧ z 2 = lI (low true (ptL_ σ i (tT σ i)) (ptQ σ i (tT σ i))) ∧ z 3 = lI (low false (ptL_ σ i (tT σ i)) (ptQ σ i (tT σ i)))) := by
  have hn10 := hW.n
  have hOw := hW.of i ho
  have x1 : FX X h h := FX.rfl
  obtain ⟨Vd, hVd, d0_, d1_, d2_, d3_, d4_, d5_, d6_, d7_⟩ := id p1.ben
  obtain ⟨Vw1, hVw1, -⟩ := id p1.win
  obtain ⟨Vq1, gq1, hVq1, rqa0, rqa1, hgq1, rqa2, rqa3⟩ := id p1.row.1
  obtain ⟨zf1, hzf1⟩ := id p1.fo
  obtain ⟨Vo, bso, nbo, rbo, hVo, hOV, vo4, vo5, hch, hcap, hrow, hnb, hlen, hbs, hbok⟩ := id on1
  obtain ⟨ov0, ov1, ov2, ov3, ov5, ov6, ov7⟩ := id hOV
  obtain ⟨Vc, gc0, gc1, gc2, hVc, vc0, vc1, vc2, vc3, kc0, kc1, kc2, hlc, h8c, hgc⟩ := id hch
  have hO := ciO_is (σ.O i).k
  have hchn := chn_le σ i
  have hPrB := PrB_ch hW i
  change Vc 3 = .int (nI (chn σ i)) at vc3
  have hlc' : chn σ i ≤ cp1 i := hlc
  have hH := on1.H p1.S
  refine Wp.aload_n dX11_findTop_0 rfl (by first | exact Or.inr ⟨_, rfl⟩ | exact Or.inl rfl) rfl ?_
  refine Wp.aload_n dX11_findTop_1 rfl (by first | exact Or.inr ⟨_, rfl⟩ | exact Or.inl rfl) rfl ?_
  refine Wp.get dX11_findTop_2 fl_X11_25 (p1.S.at' hVd ha1) d3_ rfl ?_
  refine Wp.cU dX11_findTop_5 (cu_X11_237 hO) rfl (by omega) rfl (Nat.le_of_ble_eq_true rfl) (Nat.le_of_ble_eq_true rfl) (p1.S.at hVo) rfl (c_X3_bendsIn (d := d - 1) hW p1.S p1.win (by have := p1.cnt; omega) on1 (by omega)) ?_
  rintro _ h2 ⟨rfl, A2, C2, cap2, len2, S2, o2, l1, l2, a2, f2, ob2⟩
  dsimp only [Option.toList, List.drop, List.cons_append, List.nil_append]
  have htO : tO i = 30 + 10 * i := rfl
  have p2 := p1.offer ho S2 o2 l1 l2 a2 f2 ob2.N.S
  have ha2 : A2 0 = a0 := (a2 0 (by omega)).trans ha1
  have x2 := x1.tr o2.fx
  rw [show A1 (tO i + 5) = A2 (tO i + 5) from (a2 _ (by omega)).symm]
  obtain ⟨Vo2, nb, rb, hVo2, hOV2, -, -, hch2, hcap2, hrow2, hnb2, hlen2, hbk⟩ := id ob2
  have hR2 := hrow2.H p2.S
  have hbk1 := hbk.1
  obtain ⟨Vr, gr, hVr, r0, r1, -⟩ := id hrow2
  obtain ⟨Ve, hVe, e0_, e1_, e2_, e3_, e4_, e5_, e6_, e7_⟩ := id p2.ben
  obtain ⟨Vq2, gq2, hVq2, rqb0, rqb1, hgq2, rqb2, rqb3⟩ := id p2.row.1
  obtain ⟨Vw2, hVw2, -⟩ := id p2.win
  obtain ⟨zf2, hzf2⟩ := id p2.fo
  obtain ⟨Vc2, gd0, gd1, gd2, hVc2, vd0, vd1, vd2, vd3, kd0, kd1, kd2, hlc2, h8c2, hgc2⟩ := id hch2
  have hH2 := ob2.N.H p2.S
  obtain ⟨Vw3, hVw3, wv0, wv1, wv2, wv3, -⟩ := id p2.win
  rw [show A1 (tO i) = A2 (tO i) from (a2 _ (by omega)).symm]
  have w1_ := hW.w1
  have w2_ := hW.w2
  have hnp : nb + 2 = npt σ i := hbk1
  refine Wp.astore_n dX11_findTop_8 (by first | exact Or.inr ⟨_, rfl⟩ | exact Or.inl rfl) (Nat.le_of_ble_eq_true rfl) (by dsimp only [ev_st1, ev_cl] <;> rfl) rfl ?_
  have tb0 := t_b hW hch0 (k := 0) (by omega)
  have loop : ∀ u, u ≤ (nb + 1) → ∀ j8 j9 j10 j11 : Option Value, Wp B d M_X11_findTop 41 [some (.ref a0), some (.ref (A2 (tO i))), some (.ref (A2 (tO i + 5))), some (.int (iI (tP σ i (tpN (tV σ i) (tQ σ i) (u + 1))))), some (.int (iI (tQ σ i (tpN (tV σ i) (tQ σ i) (u + 1))))), some (.long (lI (tV σ i (tpN (tV σ i) (tQ σ i) (u + 1))))), none, some (.int (nI u)), j8, j9, j10, j11, none] [] h2 (fun v h' => v = none ∧ ∃ A' C' cp' ln' z, FX X h h' ∧ A' 0 = a0 ∧ PS X w0 h' A' C' σ ns ws cp' ln' lr j ∧ C' 13 = some (ev_la 5 z) ∧ z 0 = lI (ptP σ i (tT σ i)) ∧ z 1 = lI (ptQ σ i (tT σ i)) ∧ z 2 = lI (low true (ptL_ σ i (tT σ i)) (ptQ σ i (tT σ i))) ∧ z 3 = lI (low false (ptL_ σ i (tT σ i)) (ptQ σ i (tT σ i)))) := by
    refine ev_upl (nb + 1) (fun u hi ih => ?_) ?_
    · intro j8 j9 j10 j11
      have htl := (tpN_le (tV σ i) (tQ σ i) (u + 1)).2 (by omega)
      have tb := t_b hW hch0 (k := tpN (tV σ i) (tQ σ i) (u + 1)) (by omega)
      have tb2 := t_b hW hch0 (k := u + 1) (by omega)
      refine Wp.iload dX11_findTop_41 rfl rfl ?_
      refine Wp.aload_n dX11_findTop_43 rfl (by first | exact Or.inr ⟨_, rfl⟩ | exact Or.inl rfl) rfl ?_
      refine Wp.get dX11_findTop_44 fl_X11_247 (p2.S.at hVr) r1 rfl ?_
      refine Wp.icmp_gt (tgt := 160) (n := 50) dX11_findTop_47 (by decide) rfl (fun c_47 => ?_) (fun c_47 => ?_)
      · try simp (disch := omega) only [nI_bit0, nI_bit1, Bool.not_eq_false, Bool.not_eq_true] at c_47
        try simp (disch := omega) only [i_lt, i_le, i_eq, l_lt, l_le, l_eq, i_0, i_m1, l_0, nI_tI, iI_tI, lI_tI, Int.not_lt, Int.not_le] at c_47
        omega
      · try simp (disch := omega) only [nI_bit0, nI_bit1, Bool.not_eq_false, Bool.not_eq_true] at c_47
        try simp (disch := omega) only [i_lt, i_le, i_eq, l_lt, l_le, l_eq, i_0, i_m1, l_0, nI_tI, iI_tI, lI_tI, Int.not_lt, Int.not_le] at c_47
        refine Wp.iload dX11_findTop_50 rfl rfl ?_
        refine Wp.aload_n dX11_findTop_52 rfl (by first | exact Or.inr ⟨_, rfl⟩ | exact Or.inl rfl) rfl ?_
        refine Wp.get dX11_findTop_53 fl_X11_247 (p2.S.at hVr) r1 rfl ?_
        refine Wp.icmp_ge (tgt := 63) (n := 59) dX11_findTop_56 (by decide) rfl (fun c_56 => ?_) (fun c_56 => ?_)
        · try simp (disch := omega) only [nI_bit0, nI_bit1, Bool.not_eq_false, Bool.not_eq_true] at c_56
          try simp (disch := omega) only [i_lt, i_le, i_eq, l_lt, l_le, l_eq, i_0, i_m1, l_0, nI_tI, iI_tI, lI_tI, Int.not_lt, Int.not_le] at c_56
          refine Wp.iconst (v := (nI 0)) dX11_findTop_63 (by decide) rfl ?_
          refine Wp.istore dX11_findTop_64 (Nat.le_of_ble_eq_true rfl) (by dsimp only [ev_st1, ev_st2, ev_cl] <;> rfl) rfl ?_
          refine Wp.iload dX11_findTop_66 rfl rfl ?_
          refine Wp.if_eq (tgt := 81) (n := 71) dX11_findTop_68 (by decide) rfl (fun _ => ?_) (fun c_ => absurd c_ (by decide))
          refine Wp.aload_n dX11_findTop_81 rfl (by first | exact Or.inr ⟨_, rfl⟩ | exact Or.inl rfl) rfl ?_
          refine Wp.get dX11_findTop_82 fl_X11_25 (p2.S.at' hVe ha2) e3_ rfl ?_
          refine Wp.get dX11_findTop_85 fl_X11_262 (p2.S.at hVw3) wv2 rfl ?_
          rw [show σ.p2 = tP σ i (u + 1) by rw [tP, if_neg (by omega), if_pos (by omega)]]
          refine Wp.istore dX11_findTop_88 (Nat.le_of_ble_eq_true rfl) (by dsimp only [ev_st1, ev_st2, ev_cl] <;> rfl) rfl ?_
          refine Wp.iload dX11_findTop_90 rfl rfl ?_
          refine Wp.if_eq (tgt := 105) (n := 95) dX11_findTop_92 (by decide) rfl (fun _ => ?_) (fun c_ => absurd c_ (by decide))
          refine Wp.aload_n dX11_findTop_105 rfl (by first | exact Or.inr ⟨_, rfl⟩ | exact Or.inl rfl) rfl ?_
          refine Wp.get dX11_findTop_106 fl_X11_25 (p2.S.at' hVe ha2) e3_ rfl ?_
          refine Wp.get dX11_findTop_109 fl_X11_265 (p2.S.at hVw3) wv3 rfl ?_
          rw [show σ.q2 = tQ σ i (u + 1) by rw [tQ, if_neg (by omega), if_pos (by omega)]]
          refine Wp.istore dX11_findTop_112 (Nat.le_of_ble_eq_true rfl) (by dsimp only [ev_st1, ev_st2, ev_cl] <;> rfl) rfl ?_
          refine Wp.aload_n dX11_findTop_114 rfl (by first | exact Or.inr ⟨_, rfl⟩ | exact Or.inl rfl) rfl ?_
          refine Wp.get dX11_findTop_115 (fl_X11_138 hO) (p2.S.at hVo2) hOV2.2.2.1 rfl ?_
          refine Wp.iload dX11_findTop_118 rfl rfl ?_
          refine Wp.iload dX11_findTop_120 rfl rfl ?_
          refine Wp.cV dX11_findTop_122 cv_X11_200 rfl (by omega) rfl (Nat.le_of_ble_eq_true rfl) (Nat.le_of_ble_eq_true rfl) (p2.S.at hVc2) rfl (c_X1_leastAt (d := d - 1) (P_ := tP σ i (u + 1)) (Q_ := tQ σ i (u + 1)) hH2 hPrB (iI_toInt (by omega) (by omega)) (iI_toInt (by omega) (by omega)) (pqB_q (by omega) (by omega) (by omega) (by omega)) (by omega)) ?_
          rintro _ h_ ⟨rfl, e_⟩
          rw [e_]
          clear e_ h_
          dsimp only [Option.toList, List.drop, List.cons_append, List.nil_append]
          rw [show mnI (cst (chS σ i) (chR σ i) (tP σ i (u + 1)) (tQ σ i (u + 1))) (chn σ i) = tV σ i (u + 1) by rw [mnI, if_neg (by omega)]; rfl]
          refine Wp.lstore dX11_findTop_125 (Nat.le_of_ble_eq_true rfl) (by dsimp only [ev_st1, ev_st2, ev_cl] <;> rfl) rfl ?_
          refine Wp.lload dX11_findTop_127 rfl rfl ?_
          refine Wp.iload dX11_findTop_129 rfl rfl ?_
          refine Wp.i2l dX11_findTop_131 rfl ?_
          rw [iI_l (by omega) (by omega)]
          refine Wp.lload dX11_findTop_132 rfl rfl ?_
          refine Wp.iload dX11_findTop_134 rfl rfl ?_
          refine Wp.i2l dX11_findTop_136 rfl ?_
          rw [iI_l (by omega) (by omega)]
          have m1 := mulb (a := tV σ i (tpN (tV σ i) (tQ σ i) (u + 1))) (b := tQ σ i (u + 1)) (A := 14400000) (C := 10000) (by omega) (by omega)
          have m2 := mulb (a := tV σ i (u + 1)) (b := tQ σ i (tpN (tV σ i) (tQ σ i) (u + 1))) (A := 14400000) (C := 10000) (by omega) (by omega)
          refine Wp.cS dX11_findTop_137 cs_X11_204 rfl (by omega) rfl (Nat.le_of_ble_eq_true rfl) (Nat.le_of_ble_eq_true rfl) rfl (c_X11_isLess (d := d - 1) (sm_b (by omega) (by omega)) (sm_b (by omega) (by omega))) ?_
          rintro _ h_ ⟨rfl, e_⟩
          rw [e_]
          clear e_ h_
          dsimp only [Option.toList, List.drop, List.cons_append, List.nil_append]
          refine Wp.bif_eq (tgt := 154) (n := 143) dX11_findTop_140 (by decide) rfl (fun c_140 => ?_) (fun c_140 => ?_)
          · simp only [bI_0, bI_n0, decide_eq_false_iff_not, decide_eq_true_eq] at c_140
            refine Wp.iinc (v := _ + (nI 1)) dX11_findTop_154 rfl rfl (Nat.le_of_ble_eq_true rfl) (by dsimp only [ev_st1, ev_cl] <;> rfl) rfl ?_
            refine Wp.goto (n := 41) dX11_findTop_157 (by decide) ?_
            have ht_ : tpN (tV σ i) (tQ σ i) (u + 1 + 1) = tpN (tV σ i) (tQ σ i) (u + 1) := by
              rw [tpN, if_neg c_140]
            rw [nI_add1]
            rw [ht_] at ih
            exact ih _ _ _ _
          · simp only [bI_0, bI_n0, decide_eq_false_iff_not, decide_eq_true_eq] at c_140
            refine Wp.iload dX11_findTop_143 rfl rfl ?_
            refine Wp.istore_n dX11_findTop_145 (Nat.le_of_ble_eq_true rfl) (by dsimp only [ev_st1, ev_st2, ev_cl] <;> rfl) rfl ?_
            refine Wp.iload dX11_findTop_146 rfl rfl ?_
            refine Wp.istore dX11_findTop_148 (Nat.le_of_ble_eq_true rfl) (by dsimp only [ev_st1, ev_st2, ev_cl] <;> rfl) rfl ?_
            refine Wp.lload dX11_findTop_150 rfl rfl ?_
            refine Wp.lstore dX11_findTop_152 (Nat.le_of_ble_eq_true rfl) (by dsimp only [ev_st1, ev_st2, ev_cl] <;> rfl) rfl ?_
            refine Wp.iinc (v := _ + (nI 1)) dX11_findTop_154 rfl rfl (Nat.le_of_ble_eq_true rfl) (by dsimp only [ev_st1, ev_cl] <;> rfl) rfl ?_
            refine Wp.goto (n := 41) dX11_findTop_157 (by decide) ?_
            have ht_ : tpN (tV σ i) (tQ σ i) (u + 1 + 1) = u + 1 := by
              rw [tpN, if_pos c_140]
            rw [nI_add1]
            rw [ht_] at ih
            exact ih _ _ _ _
        · try simp (disch := omega) only [nI_bit0, nI_bit1, Bool.not_eq_false, Bool.not_eq_true] at c_56
          try simp (disch := omega) only [i_lt, i_le, i_eq, l_lt, l_le, l_eq, i_0, i_m1, l_0, nI_tI, iI_tI, lI_tI, Int.not_lt, Int.not_le] at c_56
          refine Wp.iconst (v := (nI 1)) dX11_findTop_59 (by decide) rfl ?_
          refine Wp.goto (n := 64) dX11_findTop_60 (by decide) ?_
          refine Wp.istore dX11_findTop_64 (Nat.le_of_ble_eq_true rfl) (by dsimp only [ev_st1, ev_st2, ev_cl] <;> rfl) rfl ?_
          refine Wp.iload dX11_findTop_66 rfl rfl ?_
          refine Wp.if_eq (tgt := 81) (n := 71) dX11_findTop_68 (by decide) rfl (fun c_ => absurd c_ (by decide)) (fun _ => ?_)
          refine Wp.aload_n dX11_findTop_71 rfl (by first | exact Or.inr ⟨_, rfl⟩ | exact Or.inl rfl) rfl ?_
          refine Wp.iload dX11_findTop_72 rfl rfl ?_
          refine Wp.iconst (v := (nI 0)) dX11_findTop_74 (by decide) rfl ?_
          refine Wp.cV dX11_findTop_75 cv_X11_248 rfl (by omega) rfl (Nat.le_of_ble_eq_true rfl) (Nat.le_of_ble_eq_true rfl) (p2.S.at hVr) rfl (c_X5_number (d := d - 1) (i := u) (w := 0) hR2 (by omega) (by omega) (by decide) (by omega)) ?_
          rintro _ h_ ⟨rfl, e_⟩
          rw [e_]
          clear e_ h_
          dsimp only [Option.toList, List.drop, List.cons_append, List.nil_append]
          rw [show rb u 0 = tP σ i (u + 1) by rw [hbk.2 u 0 (by omega) (by decide), bndV, if_pos rfl, tP, if_neg (by omega), if_neg (by omega)]]
          refine Wp.goto (n := 88) dX11_findTop_78 (by decide) ?_
          refine Wp.istore dX11_findTop_88 (Nat.le_of_ble_eq_true rfl) (by dsimp only [ev_st1, ev_st2, ev_cl] <;> rfl) rfl ?_
          refine Wp.iload dX11_findTop_90 rfl rfl ?_
          refine Wp.if_eq (tgt := 105) (n := 95) dX11_findTop_92 (by decide) rfl (fun c_ => absurd c_ (by decide)) (fun _ => ?_)
          refine Wp.aload_n dX11_findTop_95 rfl (by first | exact Or.inr ⟨_, rfl⟩ | exact Or.inl rfl) rfl ?_
          refine Wp.iload dX11_findTop_96 rfl rfl ?_
          refine Wp.iconst (v := (nI 1)) dX11_findTop_98 (by decide) rfl ?_
          refine Wp.cV dX11_findTop_99 cv_X11_248 rfl (by omega) rfl (Nat.le_of_ble_eq_true rfl) (Nat.le_of_ble_eq_true rfl) (p2.S.at hVr) rfl (c_X5_number (d := d - 1) (i := u) (w := 1) hR2 (by omega) (by omega) (by decide) (by omega)) ?_
          rintro _ h_ ⟨rfl, e_⟩
          rw [e_]
          clear e_ h_
          dsimp only [Option.toList, List.drop, List.cons_append, List.nil_append]
          rw [show rb u 1 = tQ σ i (u + 1) by rw [hbk.2 u 1 (by omega) (by decide), bndV, if_neg (by decide), if_pos rfl, tQ, if_neg (by omega), if_neg (by omega)]]
          refine Wp.goto (n := 112) dX11_findTop_102 (by decide) ?_
          refine Wp.istore dX11_findTop_112 (Nat.le_of_ble_eq_true rfl) (by dsimp only [ev_st1, ev_st2, ev_cl] <;> rfl) rfl ?_
          refine Wp.aload_n dX11_findTop_114 rfl (by first | exact Or.inr ⟨_, rfl⟩ | exact Or.inl rfl) rfl ?_
          refine Wp.get dX11_findTop_115 (fl_X11_138 hO) (p2.S.at hVo2) hOV2.2.2.1 rfl ?_
          refine Wp.iload dX11_findTop_118 rfl rfl ?_
          refine Wp.iload dX11_findTop_120 rfl rfl ?_
          refine Wp.cV dX11_findTop_122 cv_X11_200 rfl (by omega) rfl (Nat.le_of_ble_eq_true rfl) (Nat.le_of_ble_eq_true rfl) (p2.S.at hVc2) rfl (c_X1_leastAt (d := d - 1) (P_ := tP σ i (u + 1)) (Q_ := tQ σ i (u + 1)) hH2 hPrB (iI_toInt (by omega) (by omega)) (iI_toInt (by omega) (by omega)) (pqB_q (by omega) (by omega) (by omega) (by omega)) (by omega)) ?_
          rintro _ h_ ⟨rfl, e_⟩
          rw [e_]
          clear e_ h_
          dsimp only [Option.toList, List.drop, List.cons_append, List.nil_append]
          rw [show mnI (cst (chS σ i) (chR σ i) (tP σ i (u + 1)) (tQ σ i (u + 1))) (chn σ i) = tV σ i (u + 1) by rw [mnI, if_neg (by omega)]; rfl]
          refine Wp.lstore dX11_findTop_125 (Nat.le_of_ble_eq_true rfl) (by dsimp only [ev_st1, ev_st2, ev_cl] <;> rfl) rfl ?_
          refine Wp.lload dX11_findTop_127 rfl rfl ?_
          refine Wp.iload dX11_findTop_129 rfl rfl ?_
          refine Wp.i2l dX11_findTop_131 rfl ?_
          rw [iI_l (by omega) (by omega)]
          refine Wp.lload dX11_findTop_132 rfl rfl ?_
          refine Wp.iload dX11_findTop_134 rfl rfl ?_
          refine Wp.i2l dX11_findTop_136 rfl ?_
          rw [iI_l (by omega) (by omega)]
          have m1 := mulb (a := tV σ i (tpN (tV σ i) (tQ σ i) (u + 1))) (b := tQ σ i (u + 1)) (A := 14400000) (C := 10000) (by omega) (by omega)
          have m2 := mulb (a := tV σ i (u + 1)) (b := tQ σ i (tpN (tV σ i) (tQ σ i) (u + 1))) (A := 14400000) (C := 10000) (by omega) (by omega)
          refine Wp.cS dX11_findTop_137 cs_X11_204 rfl (by omega) rfl (Nat.le_of_ble_eq_true rfl) (Nat.le_of_ble_eq_true rfl) rfl (c_X11_isLess (d := d - 1) (sm_b (by omega) (by omega)) (sm_b (by omega) (by omega))) ?_
          rintro _ h_ ⟨rfl, e_⟩
          rw [e_]
          clear e_ h_
          dsimp only [Option.toList, List.drop, List.cons_append, List.nil_append]
          refine Wp.bif_eq (tgt := 154) (n := 143) dX11_findTop_140 (by decide) rfl (fun c_140 => ?_) (fun c_140 => ?_)
          · simp only [bI_0, bI_n0, decide_eq_false_iff_not, decide_eq_true_eq] at c_140
            refine Wp.iinc (v := _ + (nI 1)) dX11_findTop_154 rfl rfl (Nat.le_of_ble_eq_true rfl) (by dsimp only [ev_st1, ev_cl] <;> rfl) rfl ?_
            refine Wp.goto (n := 41) dX11_findTop_157 (by decide) ?_
            have ht_ : tpN (tV σ i) (tQ σ i) (u + 1 + 1) = tpN (tV σ i) (tQ σ i) (u + 1) := by
              rw [tpN, if_neg c_140]
            rw [nI_add1]
            rw [ht_] at ih
            exact ih _ _ _ _
          · simp only [bI_0, bI_n0, decide_eq_false_iff_not, decide_eq_true_eq] at c_140
            refine Wp.iload dX11_findTop_143 rfl rfl ?_
            refine Wp.istore_n dX11_findTop_145 (Nat.le_of_ble_eq_true rfl) (by dsimp only [ev_st1, ev_st2, ev_cl] <;> rfl) rfl ?_
            refine Wp.iload dX11_findTop_146 rfl rfl ?_
            refine Wp.istore dX11_findTop_148 (Nat.le_of_ble_eq_true rfl) (by dsimp only [ev_st1, ev_st2, ev_cl] <;> rfl) rfl ?_
            refine Wp.lload dX11_findTop_150 rfl rfl ?_
            refine Wp.lstore dX11_findTop_152 (Nat.le_of_ble_eq_true rfl) (by dsimp only [ev_st1, ev_st2, ev_cl] <;> rfl) rfl ?_
            refine Wp.iinc (v := _ + (nI 1)) dX11_findTop_154 rfl rfl (Nat.le_of_ble_eq_true rfl) (by dsimp only [ev_st1, ev_cl] <;> rfl) rfl ?_
            refine Wp.goto (n := 41) dX11_findTop_157 (by decide) ?_
            have ht_ : tpN (tV σ i) (tQ σ i) (u + 1 + 1) = u + 1 := by
              rw [tpN, if_pos c_140]
            rw [nI_add1]
            rw [ht_] at ih
            exact ih _ _ _ _
    · intro j8 j9 j10 j11
      have htl := (tpN_le (tV σ i) (tQ σ i) ((nb + 1) + 1)).2 (by omega)
      have tb := t_b hW hch0 (k := tpN (tV σ i) (tQ σ i) ((nb + 1) + 1)) (by omega)
      rw [show tpN (tV σ i) (tQ σ i) (nb + 1 + 1) = tT σ i from by rw [show nb + 1 + 1 = npt σ i by omega]; rfl] at *
      refine Wp.iload dX11_findTop_41 rfl rfl ?_
      refine Wp.aload_n dX11_findTop_43 rfl (by first | exact Or.inr ⟨_, rfl⟩ | exact Or.inl rfl) rfl ?_
      refine Wp.get dX11_findTop_44 fl_X11_247 (p2.S.at hVr) r1 rfl ?_
      refine Wp.icmp_gt (tgt := 160) (n := 50) dX11_findTop_47 (by decide) rfl (fun c_47 => ?_) (fun c_47 => ?_)
      · try simp (disch := omega) only [nI_bit0, nI_bit1, Bool.not_eq_false, Bool.not_eq_true] at c_47
        try simp (disch := omega) only [i_lt, i_le, i_eq, l_lt, l_le, l_eq, i_0, i_m1, l_0, nI_tI, iI_tI, lI_tI, Int.not_lt, Int.not_le] at c_47
        refine Wp.aload_n dX11_findTop_160 rfl (by first | exact Or.inr ⟨_, rfl⟩ | exact Or.inl rfl) rfl ?_
        refine Wp.get dX11_findTop_161 fl_X11_49 (p2.S.at' hVe ha2) e7_ rfl ?_
        refine Wp.iconst (v := (nI 0)) dX11_findTop_164 (by decide) rfl ?_
        refine Wp.iload_n dX11_findTop_165 rfl rfl ?_
        refine Wp.i2l dX11_findTop_166 rfl ?_
        rw [iI_l (by omega) (by omega)]
        refine Wp.iload dX11_findTop_167 rfl rfl ?_
        refine Wp.i2l dX11_findTop_169 rfl ?_
        rw [iI_l (by omega) (by omega)]
        refine Wp.iconst (v := (nI 0)) dX11_findTop_170 (by decide) rfl ?_
        refine Wp.cS dX11_findTop_171 cs_X11_189 rfl (by omega) rfl (Nat.le_of_ble_eq_true rfl) (Nat.le_of_ble_eq_true rfl) rfl (c_X11_lowest (d := d - 1) (sm_b (by omega) (by omega)) (sm_b (by omega) (by omega)) (by omega) (by omega)) ?_
        rintro _ h_ ⟨rfl, e_⟩
        rw [e_]
        clear e_ h_
        dsimp only [Option.toList, List.drop, List.cons_append, List.nil_append]
        rw [show decide ((nI 0 : Int32) = 0) = true by decide]
        refine Wp.lastore dX11_findTop_174 (p2.S.at hzf2) (nI_toInt (n := 0) (by decide)) (by decide) rfl ?_
        refine p2.S.stl hzf2 ?_
        intro h174 C174 g174 S174 o174 e174 u174 f174
        refine Wp.aload_n dX11_findTop_175 rfl (by first | exact Or.inr ⟨_, rfl⟩ | exact Or.inl rfl) rfl ?_
        refine Wp.get dX11_findTop_176 fl_X11_49 (S174.at' ((f174 (0) (by omega)).trans hVe) ha2) e7_ rfl ?_
        refine Wp.iconst (v := (nI 1)) dX11_findTop_179 (by decide) rfl ?_
        refine Wp.iload_n dX11_findTop_180 rfl rfl ?_
        refine Wp.i2l dX11_findTop_181 rfl ?_
        rw [iI_l (by omega) (by omega)]
        refine Wp.iload dX11_findTop_182 rfl rfl ?_
        refine Wp.i2l dX11_findTop_184 rfl ?_
        rw [iI_l (by omega) (by omega)]
        refine Wp.iconst (v := (nI 1)) dX11_findTop_185 (by decide) rfl ?_
        refine Wp.cS dX11_findTop_186 cs_X11_189 rfl (by omega) rfl (Nat.le_of_ble_eq_true rfl) (Nat.le_of_ble_eq_true rfl) rfl (c_X11_lowest (d := d - 1) (sm_b (by omega) (by omega)) (sm_b (by omega) (by omega)) (by omega) (by omega)) ?_
        rintro _ h_ ⟨rfl, e_⟩
        rw [e_]
        clear e_ h_
        dsimp only [Option.toList, List.drop, List.cons_append, List.nil_append]
        rw [show decide ((nI 1 : Int32) = 0) = false by decide]
        refine Wp.lastore dX11_findTop_189 (S174.at e174) (nI_toInt (n := 1) (by decide)) (by decide) rfl ?_
        refine S174.stl e174 ?_
        intro h189 C189 g189 S189 o189 e189 u189 f189
        have o189 := o174.tr o189
        refine Wp.aload_n dX11_findTop_190 rfl (by first | exact Or.inr ⟨_, rfl⟩ | exact Or.inl rfl) rfl ?_
        refine Wp.get dX11_findTop_191 fl_X11_49 (S189.at' ((f189 (0) (by omega)).trans ((f174 (0) (by omega)).trans hVe)) ha2) e7_ rfl ?_
        refine Wp.iconst (v := (nI 2)) dX11_findTop_194 (by decide) rfl ?_
        refine Wp.lload dX11_findTop_195 rfl rfl ?_
        refine Wp.iload dX11_findTop_197 rfl rfl ?_
        refine Wp.i2l dX11_findTop_199 rfl ?_
        rw [iI_l (by omega) (by omega)]
        refine Wp.iconst (v := (nI 0)) dX11_findTop_200 (by decide) rfl ?_
        refine Wp.cS dX11_findTop_201 cs_X11_189 rfl (by omega) rfl (Nat.le_of_ble_eq_true rfl) (Nat.le_of_ble_eq_true rfl) rfl (c_X11_lowest (d := d - 1) (sm_b (by omega) (by omega)) (sm_b (by omega) (by omega)) (by omega) (by omega)) ?_
        rintro _ h_ ⟨rfl, e_⟩
        rw [e_]
        clear e_ h_
        dsimp only [Option.toList, List.drop, List.cons_append, List.nil_append]
        rw [show decide ((nI 0 : Int32) = 0) = true by decide]
        refine Wp.lastore dX11_findTop_204 (S189.at e189) (nI_toInt (n := 2) (by decide)) (by decide) rfl ?_
        refine S189.stl e189 ?_
        intro h204 C204 g204 S204 o204 e204 u204 f204
        have o204 := o189.tr o204
        refine Wp.aload_n dX11_findTop_205 rfl (by first | exact Or.inr ⟨_, rfl⟩ | exact Or.inl rfl) rfl ?_
        refine Wp.get dX11_findTop_206 fl_X11_49 (S204.at' ((f204 (0) (by omega)).trans ((f189 (0) (by omega)).trans ((f174 (0) (by omega)).trans hVe))) ha2) e7_ rfl ?_
        refine Wp.iconst (v := (nI 3)) dX11_findTop_209 (by decide) rfl ?_
        refine Wp.lload dX11_findTop_210 rfl rfl ?_
        refine Wp.iload dX11_findTop_212 rfl rfl ?_
        refine Wp.i2l dX11_findTop_214 rfl ?_
        rw [iI_l (by omega) (by omega)]
        refine Wp.iconst (v := (nI 1)) dX11_findTop_215 (by decide) rfl ?_
        refine Wp.cS dX11_findTop_216 cs_X11_189 rfl (by omega) rfl (Nat.le_of_ble_eq_true rfl) (Nat.le_of_ble_eq_true rfl) rfl (c_X11_lowest (d := d - 1) (sm_b (by omega) (by omega)) (sm_b (by omega) (by omega)) (by omega) (by omega)) ?_
        rintro _ h_ ⟨rfl, e_⟩
        rw [e_]
        clear e_ h_
        dsimp only [Option.toList, List.drop, List.cons_append, List.nil_append]
        rw [show decide ((nI 1 : Int32) = 0) = false by decide]
        refine Wp.lastore dX11_findTop_219 (S204.at e204) (nI_toInt (n := 3) (by decide)) (by decide) rfl ?_
        refine S204.stl e204 ?_
        intro h219 C219 g219 S219 o219 e219 u219 f219
        have o219 := o204.tr o219
        exact Wp.vret dX11_findTop_220 rfl (by
          have f5 : ∀ t, t ≠ 13 → C219 t = C2 t := fun t z => (f219 t z).trans ((f204 t z).trans ((f189 t z).trans (f174 t z)))
          have tk := top_ok hW hch0
          refine ⟨rfl, A2, C219, updN cp1 i cap2, updN ln1 i len2, g219, x2.tr (o219).fx, ha2, p2.fnd S219 (by exact o219) f5 ⟨_, e219⟩, e219, ?_, ?_, ?_, ?_⟩
          · rw [u219, u204, u189, u174]; show lI _ = _; exact congrArg lI tk.1
          · rw [u219, u204, u189]; show lI _ = _; exact congrArg lI tk.2.1
          · rw [u219, u204]; show lI _ = _; exact congrArg lI (tk.2.2 true)
          · rw [u219]; show lI _ = _; exact congrArg lI (tk.2.2 false))
      · try simp (disch := omega) only [nI_bit0, nI_bit1, Bool.not_eq_false, Bool.not_eq_true] at c_47
        try simp (disch := omega) only [i_lt, i_le, i_eq, l_lt, l_le, l_eq, i_0, i_m1, l_0, nI_tI, iI_tI, lI_tI, Int.not_lt, Int.not_le] at c_47
        omega
  refine Wp.aload_n dX11_findTop_9 rfl (by first | exact Or.inr ⟨_, rfl⟩ | exact Or.inl rfl) rfl ?_
  refine Wp.get dX11_findTop_10 fl_X11_25 (p2.S.at' hVe ha2) e3_ rfl ?_
  refine Wp.get dX11_findTop_13 fl_X11_241 (p2.S.at hVw3) wv0 rfl ?_
  rw [show σ.p1 = tP σ i 0 from by rw [tP, if_pos rfl]]
  refine Wp.istore_n dX11_findTop_16 (Nat.le_of_ble_eq_true rfl) (by dsimp only [ev_st1, ev_st2, ev_cl] <;> rfl) rfl ?_
  refine Wp.aload_n dX11_findTop_17 rfl (by first | exact Or.inr ⟨_, rfl⟩ | exact Or.inl rfl) rfl ?_
  refine Wp.get dX11_findTop_18 fl_X11_25 (p2.S.at' hVe ha2) e3_ rfl ?_
  refine Wp.get dX11_findTop_21 fl_X11_244 (p2.S.at hVw3) wv1 rfl ?_
  rw [show σ.q1 = tQ σ i 0 from by rw [tQ, if_pos rfl]]
  refine Wp.istore dX11_findTop_24 (Nat.le_of_ble_eq_true rfl) (by dsimp only [ev_st1, ev_st2, ev_cl] <;> rfl) rfl ?_
  refine Wp.aload_n dX11_findTop_26 rfl (by first | exact Or.inr ⟨_, rfl⟩ | exact Or.inl rfl) rfl ?_
  refine Wp.get dX11_findTop_27 (fl_X11_138 hO) (p2.S.at hVo2) hOV2.2.2.1 rfl ?_
  refine Wp.iload_n dX11_findTop_30 rfl rfl ?_
  refine Wp.iload dX11_findTop_31 rfl rfl ?_
  refine Wp.cV dX11_findTop_33 cv_X11_200 rfl (by omega) rfl (Nat.le_of_ble_eq_true rfl) (Nat.le_of_ble_eq_true rfl) (p2.S.at hVc2) rfl (c_X1_leastAt (d := d - 1) (P_ := tP σ i (0)) (Q_ := tQ σ i (0)) hH2 hPrB (iI_toInt (by omega) (by omega)) (iI_toInt (by omega) (by omega)) (pqB_q (by omega) (by omega) (by omega) (by omega)) (by omega)) ?_
  rintro _ h_ ⟨rfl, e_⟩
  rw [e_]
  clear e_ h_
  dsimp only [Option.toList, List.drop, List.cons_append, List.nil_append]
  rw [show mnI (cst (chS σ i) (chR σ i) (tP σ i (0)) (tQ σ i (0))) (chn σ i) = tV σ i (0) by rw [mnI, if_neg (by omega)]; rfl]
  refine Wp.lstore dX11_findTop_36 (Nat.le_of_ble_eq_true rfl) (by dsimp only [ev_st1, ev_st2, ev_cl] <;> rfl) rfl ?_
  refine Wp.iconst (v := (nI 0)) dX11_findTop_38 (by decide) rfl ?_
  refine Wp.istore dX11_findTop_39 (Nat.le_of_ble_eq_true rfl) (by dsimp only [ev_st1, ev_st2, ev_cl] <;> rfl) rfl ?_
  have tl := loop 0 (by omega) none none none none
  rw [Nat.zero_add, tpN_1] at tl
  exact tl
set_option maxHeartbeats 2000000 in
theorem c_X11_top {B : ev_B} {d a0 w0 j : Nat} {X : Nat → Prop} {h : ev_H} {σ : Sg} {o w : Int32} (hp : PSx X w0 h a0 σ j) (hW : Wf σ) (hj : j + 1 ≤ 600) (hd : 36 ≤ d) :
    Wp B d M_X11_top 0 [some (.ref a0), some (.int (o)), some (.int (w)), none] [] h (CQ X w0 h a0 (σ) j (.long (a_top σ o w))) := by
  obtain ⟨A, C, ns, ws, cp, ln, lr, pS, ha⟩ := hp
  obtain ⟨Vb, hVb, b0, b1, b2, b3, b4, b5, b6, b7⟩ := id pS.ben
  obtain ⟨Vw, hVw, -⟩ := id pS.win
  obtain ⟨Vq, gq, hVq, rq0, rq1, hgq, rq2, rq3⟩ := id pS.row.1
  obtain ⟨zf, hzf⟩ := id pS.fo
  have hcn := pS.cnt
  have hn10 := hW.n
  by_cases hio : 0 ≤ o.toInt ∧ o.toInt < σ.n
  · obtain ⟨i, rfl, ho, ho2⟩ := as_nI hio
    have ti := nI_tI ho2
    have hOw := hW.of i ho
    by_cases hch0 : 0 < chn σ i
    · refine Wp.aload_n dX11_top_0 rfl (by first | exact Or.inr ⟨_, rfl⟩ | exact Or.inl rfl) rfl ?_
      refine Wp.iload_n dX11_top_1 rfl rfl ?_
      refine Wp.cV dX11_top_2 cv_X11_197 rfl (by omega) rfl (Nat.le_of_ble_eq_true rfl) (Nat.le_of_ble_eq_true rfl) (pS.S.at' hVb ha) rfl (c_X11_offerWithChoices_y (d := d - 1) pS ha hW ho (by omega) hch0) ?_
      rintro _ h1 ⟨A1, C1, cp1, ln1, rfl, x1, ha1, p1, on1⟩
      dsimp only [Option.toList, List.drop, List.cons_append, List.nil_append]
      obtain ⟨Vd, hVd, d0_, d1_, d2_, d3_, d4_, d5_, d6_, d7_⟩ := id p1.ben
      obtain ⟨Vw1, hVw1, -⟩ := id p1.win
      obtain ⟨Vq1, gq1, hVq1, rqa0, rqa1, hgq1, rqa2, rqa3⟩ := id p1.row.1
      obtain ⟨zf1, hzf1⟩ := id p1.fo
      obtain ⟨Vo, bso, nbo, rbo, hVo, hOV, vo4, vo5, hch, hcap, hrow, hnb, hlen, hbs, hbok⟩ := id on1
      obtain ⟨ov0, ov1, ov2, ov3, ov5, ov6, ov7⟩ := id hOV
      obtain ⟨Vc, gc0, gc1, gc2, hVc, vc0, vc1, vc2, vc3, kc0, kc1, kc2, hlc, h8c, hgc⟩ := id hch
      have hO := ciO_is (σ.O i).k
      have hchn := chn_le σ i
      have hPrB := PrB_ch hW i
      change Vc 3 = .int (nI (chn σ i)) at vc3
      have hlc' : chn σ i ≤ cp1 i := hlc
      have hH := on1.H p1.S
      refine Wp.astore_n dX11_top_5 (by first | exact Or.inr ⟨_, rfl⟩ | exact Or.inl rfl) (Nat.le_of_ble_eq_true rfl) (by dsimp only [ev_st1, ev_cl] <;> rfl) rfl ?_
      refine Wp.aload_n dX11_top_6 rfl (by first | exact Or.inr ⟨_, rfl⟩ | exact Or.inl rfl) rfl ?_
      refine Wp.ifnull (n := 10) dX11_top_7 rfl ?_
      refine Wp.iload_n dX11_top_10 rfl rfl ?_
      refine Wp.if_lt (tgt := 19) (n := 14) dX11_top_11 (by decide) rfl (fun c_11 => ?_) (fun c_11 => ?_)
      · try simp (disch := omega) only [nI_bit0, nI_bit1, Bool.not_eq_false, Bool.not_eq_true] at c_11
        try simp (disch := omega) only [i_lt, i_le, i_eq, l_lt, l_le, l_eq, i_0, i_m1, l_0, nI_tI, iI_tI, lI_tI, Int.not_lt, Int.not_le] at c_11
        refine Wp.ldc2 kc_X11_177 dX11_top_19 rfl ?_
        exact Wp.lret dX11_top_22 rfl (by refine ⟨?_, x1, A1, C1, ns, ws, cp1, ln1, lr, p1.up hj, ha1⟩; simp (disch := omega) only [a_top, isO, w01, isP, nI_tI, tn_nI]; (repeat' split) <;> first | (exfalso; omega) | rfl)
      · try simp (disch := omega) only [nI_bit0, nI_bit1, Bool.not_eq_false, Bool.not_eq_true] at c_11
        try simp (disch := omega) only [i_lt, i_le, i_eq, l_lt, l_le, l_eq, i_0, i_m1, l_0, nI_tI, iI_tI, lI_tI, Int.not_lt, Int.not_le] at c_11
        refine Wp.iload_n dX11_top_14 rfl rfl ?_
        refine Wp.iconst (v := (nI 3)) dX11_top_15 (by decide) rfl ?_
        refine Wp.icmp_le (tgt := 23) (n := 19) dX11_top_16 (by decide) rfl (fun c_16 => ?_) (fun c_16 => ?_)
        · try simp (disch := omega) only [nI_bit0, nI_bit1, Bool.not_eq_false, Bool.not_eq_true] at c_16
          try simp (disch := omega) only [i_lt, i_le, i_eq, l_lt, l_le, l_eq, i_0, i_m1, l_0, nI_tI, iI_tI, lI_tI, Int.not_lt, Int.not_le] at c_16
          refine Wp.aload_n dX11_top_23 rfl (by first | exact Or.inr ⟨_, rfl⟩ | exact Or.inl rfl) rfl ?_
          refine Wp.aload_n dX11_top_24 rfl (by first | exact Or.inr ⟨_, rfl⟩ | exact Or.inl rfl) rfl ?_
          refine Wp.cV dX11_top_25 cv_X11_220 rfl (by omega) rfl (Nat.le_of_ble_eq_true rfl) (Nat.le_of_ble_eq_true rfl) (p1.S.at' hVd ha1) rfl (c_X11_findTop (d := d - 1) hW p1 ha1 on1 ho hch0 (by omega)) ?_
          rintro _ h3 ⟨rfl, A3, C3, cp3, ln3, z, x3, ha3, p3, e3, z0_, z1_, z2_, z3_⟩
          obtain ⟨Vf, hVf, -, -, -, -, -, -, -, f7_⟩ := id p3.ben
          dsimp only [Option.toList, List.drop, List.cons_append, List.nil_append]
          obtain ⟨m, rfl, hm, hm2⟩ := as_nI (o := w) (n := 4) (by omega)
          have tm := nI_tI hm2
          have hmm : m = 0 ∨ m = 1 ∨ m = 2 ∨ m = 3 := by omega
          rcases hmm with rfl | rfl | rfl | rfl
          · refine Wp.aload_n dX11_top_28 rfl (by first | exact Or.inr ⟨_, rfl⟩ | exact Or.inl rfl) rfl ?_
            refine Wp.get dX11_top_29 fl_X11_49 (p3.S.at' hVf ha3) f7_ rfl ?_
            refine Wp.iload_n dX11_top_32 rfl rfl ?_
            refine Wp.laload dX11_top_33 (p3.S.at e3) (nI_toInt (n := 0) (by decide)) (by decide) rfl ?_
            rw [z0_]
            exact Wp.lret dX11_top_34 rfl (by
              refine ⟨?_, (x1.tr x3), A3, C3, ns, ws, cp3, ln3, lr, p3.up hj, ha3⟩
              rw [a_top, if_pos (show isO σ (nI i) ∧ w01 (nI 0) 3 ∧ 0 < chn σ (tn (nI i)) by rw [tn_nI ho2]; exact ⟨by omega, by decide, hch0⟩), tn_nI ho2, ← tT_ok hW hch0]
              rw [if_pos (by decide)])
          · refine Wp.aload_n dX11_top_28 rfl (by first | exact Or.inr ⟨_, rfl⟩ | exact Or.inl rfl) rfl ?_
            refine Wp.get dX11_top_29 fl_X11_49 (p3.S.at' hVf ha3) f7_ rfl ?_
            refine Wp.iload_n dX11_top_32 rfl rfl ?_
            refine Wp.laload dX11_top_33 (p3.S.at e3) (nI_toInt (n := 1) (by decide)) (by decide) rfl ?_
            rw [z1_]
            exact Wp.lret dX11_top_34 rfl (by
              refine ⟨?_, (x1.tr x3), A3, C3, ns, ws, cp3, ln3, lr, p3.up hj, ha3⟩
              rw [a_top, if_pos (show isO σ (nI i) ∧ w01 (nI 1) 3 ∧ 0 < chn σ (tn (nI i)) by rw [tn_nI ho2]; exact ⟨by omega, by decide, hch0⟩), tn_nI ho2, ← tT_ok hW hch0]
              rw [if_neg (by decide), if_pos (by decide)])
          · refine Wp.aload_n dX11_top_28 rfl (by first | exact Or.inr ⟨_, rfl⟩ | exact Or.inl rfl) rfl ?_
            refine Wp.get dX11_top_29 fl_X11_49 (p3.S.at' hVf ha3) f7_ rfl ?_
            refine Wp.iload_n dX11_top_32 rfl rfl ?_
            refine Wp.laload dX11_top_33 (p3.S.at e3) (nI_toInt (n := 2) (by decide)) (by decide) rfl ?_
            rw [z2_]
            exact Wp.lret dX11_top_34 rfl (by
              refine ⟨?_, (x1.tr x3), A3, C3, ns, ws, cp3, ln3, lr, p3.up hj, ha3⟩
              rw [a_top, if_pos (show isO σ (nI i) ∧ w01 (nI 2) 3 ∧ 0 < chn σ (tn (nI i)) by rw [tn_nI ho2]; exact ⟨by omega, by decide, hch0⟩), tn_nI ho2, ← tT_ok hW hch0]
              rw [if_neg (by decide), if_neg (by decide), show decide ((nI 2 : Int32).toInt = 2) = true by decide])
          · refine Wp.aload_n dX11_top_28 rfl (by first | exact Or.inr ⟨_, rfl⟩ | exact Or.inl rfl) rfl ?_
            refine Wp.get dX11_top_29 fl_X11_49 (p3.S.at' hVf ha3) f7_ rfl ?_
            refine Wp.iload_n dX11_top_32 rfl rfl ?_
            refine Wp.laload dX11_top_33 (p3.S.at e3) (nI_toInt (n := 3) (by decide)) (by decide) rfl ?_
            rw [z3_]
            exact Wp.lret dX11_top_34 rfl (by
              refine ⟨?_, (x1.tr x3), A3, C3, ns, ws, cp3, ln3, lr, p3.up hj, ha3⟩
              rw [a_top, if_pos (show isO σ (nI i) ∧ w01 (nI 3) 3 ∧ 0 < chn σ (tn (nI i)) by rw [tn_nI ho2]; exact ⟨by omega, by decide, hch0⟩), tn_nI ho2, ← tT_ok hW hch0]
              rw [if_neg (by decide), if_neg (by decide), show decide ((nI 3 : Int32).toInt = 2) = false by decide])
        · try simp (disch := omega) only [nI_bit0, nI_bit1, Bool.not_eq_false, Bool.not_eq_true] at c_16
          try simp (disch := omega) only [i_lt, i_le, i_eq, l_lt, l_le, l_eq, i_0, i_m1, l_0, nI_tI, iI_tI, lI_tI, Int.not_lt, Int.not_le] at c_16
          refine Wp.ldc2 kc_X11_177 dX11_top_19 rfl ?_
          exact Wp.lret dX11_top_22 rfl (by refine ⟨?_, x1, A1, C1, ns, ws, cp1, ln1, lr, p1.up hj, ha1⟩; simp (disch := omega) only [a_top, isO, w01, isP, nI_tI, tn_nI]; (repeat' split) <;> first | (exfalso; omega) | rfl)
    · refine Wp.aload_n dX11_top_0 rfl (by first | exact Or.inr ⟨_, rfl⟩ | exact Or.inl rfl) rfl ?_
      refine Wp.iload_n dX11_top_1 rfl rfl ?_
      refine Wp.cV dX11_top_2 cv_X11_197 rfl (by omega) rfl (Nat.le_of_ble_eq_true rfl) (Nat.le_of_ble_eq_true rfl) (pS.S.at' hVb ha) rfl (c_X11_offerWithChoices_z (d := d - 1) pS ha hW ho (by omega) (by omega)) ?_
      rintro _ h1 ⟨A1, C1, cp1, ln1, rfl, x1, ha1, p1⟩
      dsimp only [Option.toList, List.drop, List.cons_append, List.nil_append]
      obtain ⟨Vd, hVd, d0_, d1_, d2_, d3_, d4_, d5_, d6_, d7_⟩ := id p1.ben
      refine Wp.astore_n dX11_top_5 (by first | exact Or.inr ⟨_, rfl⟩ | exact Or.inl rfl) (Nat.le_of_ble_eq_true rfl) (by dsimp only [ev_st1, ev_cl] <;> rfl) rfl ?_
      refine Wp.aload_n dX11_top_6 rfl (by first | exact Or.inr ⟨_, rfl⟩ | exact Or.inl rfl) rfl ?_
      refine Wp.ifnullN (n := 19) dX11_top_7 (by decide) ?_
      refine Wp.ldc2 kc_X11_177 dX11_top_19 rfl ?_
      exact Wp.lret dX11_top_22 rfl (by refine ⟨?_, x1, A1, C1, ns, ws, cp1, ln1, lr, p1.up hj, ha1⟩; simp (disch := omega) only [a_top, isO, w01, isP, nI_tI, tn_nI]; (repeat' split) <;> first | (exfalso; omega) | rfl)
  · refine Wp.aload_n dX11_top_0 rfl (by first | exact Or.inr ⟨_, rfl⟩ | exact Or.inl rfl) rfl ?_
    refine Wp.iload_n dX11_top_1 rfl rfl ?_
    refine Wp.cV dX11_top_2 cv_X11_197 rfl (by omega) rfl (Nat.le_of_ble_eq_true rfl) (Nat.le_of_ble_eq_true rfl) (pS.S.at' hVb ha) rfl (c_X11_offerWithChoices_n (d := d - 1) pS ha hW hio (by omega)) ?_
    rintro _ h1 ⟨rfl, e1_⟩
    rw [e1_]
    clear e1_ h1
    dsimp only [Option.toList, List.drop, List.cons_append, List.nil_append]
    refine Wp.astore_n dX11_top_5 (by first | exact Or.inr ⟨_, rfl⟩ | exact Or.inl rfl) (Nat.le_of_ble_eq_true rfl) (by dsimp only [ev_st1, ev_cl] <;> rfl) rfl ?_
    refine Wp.aload_n dX11_top_6 rfl (by first | exact Or.inr ⟨_, rfl⟩ | exact Or.inl rfl) rfl ?_
    refine Wp.ifnullN (n := 19) dX11_top_7 (by decide) ?_
    refine Wp.ldc2 kc_X11_177 dX11_top_19 rfl ?_
    exact Wp.lret dX11_top_22 rfl (by refine ⟨?_, FX.rfl, A, C, ns, ws, cp, ln, lr, pS.up hj, ha⟩; simp (disch := omega) only [a_top, isO, w01, isP, nI_tI, tn_nI]; (repeat' split) <;> first | (exfalso; omega) | rfl)
