/-! the class: calm -/
theorem OfN.f13 {A : Nat → Nat} {C C' : Nat → Option ev_E} {σ : Sg} {ns ws i cap len : Nat} (h : OfN A C σ ns ws i cap len) (f : ∀ t, t ≠ 13 → C' t = C t) : OfN A C' σ ns ws i cap len := by
  have ht : tO i = 30 + 10 * i := rfl
  obtain ⟨V, bs, nb, rb, h1, h2, h3, h4, h5, h6, h7, h8⟩ := h
  exact ⟨V, bs, nb, rb, (f _ (by omega)).trans h1, h2.same (fun _ _ _ _ => rfl) (f _ (by omega)), h3, h4, h5.same (fun t q1 q2 => f t (by omega)) (fun _ _ _ => rfl), h6, h7.same (f _ (by omega)) (f _ (by omega)) rfl, h8⟩
theorem chC_inj {σ : Sg} {o x y : Nat} (hx : x < chn σ o) (hy : y < chn σ o) (h : chC σ o x = chC σ o y) : x = y := by
  have hs := chL_srt σ.N (σ.O o)
  rcases Nat.lt_trichotomy x y with z | z | z
  · have q := hs.get z hy
    unfold chC at h
    rw [h] at q; omega
  · exact z
  · have q := hs.get z hx
    unfold chC at h
    rw [h] at q; omega
theorem plG_chC {σ : Sg} {o x : Nat} (hx : x < chn σ o) : plG (chC σ o) (chn σ o) (iI (chC σ o x : Nat)) = x := by
  rw [← nI_iI]
  refine plG_pos (chC_lt σ o x) hx rfl (fun j hj e => ?_)
  have e2 : chC σ o x = chC σ o j := by
    have := congrArg Int32.toInt e
    have b1 := chC_lt σ o x
    have b2 := chC_lt σ o j
    rw [nI_tI (by omega), nI_tI (by omega)] at this
    omega
  have := chC_inj hx (by omega) e2
  omega
/-- the calmest so far -/
def cmC (σ : Sg) (o : Nat) : Nat → Nat
  | 0 => bst (cst (chS σ o) (chR σ o) σ.p1 σ.q1) (Kw 1 (chR σ o)) (chn σ o)
  | k + 1 => if calB σ o (abP σ o (k + 1)) (cmC σ o k) = true then abP σ o (k + 1) else cmC σ o k
theorem cmC_lt {σ : Sg} {o : Nat} (h0 : 0 < chn σ o) : ∀ k, cmC σ o k < chn σ o
  | 0 => bst_lt _ _ _ h0
  | k + 1 => by
    simp only [cmC]
    split
    · exact abP_lt h0 _
    · exact cmC_lt h0 k
theorem abP_0 {σ : Sg} (hW : Wf σ) {o : Nat} : abP σ o 0 = cmC σ o 0 := by
  have w1 := hW.w1
  unfold abP cmC ptP ptQ
  rw [pts_0]
  dsimp only
  rw [bst_low (by omega)]
theorem fr_lt {a b c e x y u v : Int} (hb : 0 < b) (he : 0 < e) (hy : 0 < y) (hv : 0 < v) (h1 : a * y = x * b) (h2 : c * v = u * e) (h : a * e < c * b) : x * v < u * y :=
  frac_lt_trans' (b := y) (d := e) (f := v) hy he hv (frac_lt_trans (b := y) (d := b) (f := e) hy hb he (Int.le_of_eq h1.symm) h) (Int.le_of_eq h2)
theorem cal_ok {σ : Sg} (hW : Wf σ) {o x y : Nat} (hx : x < chn σ o) (hy : y < chn σ o) : calB σ o x y = true ↔ (rgT σ o x).1 * (rgT σ o y).2 - (rgT σ o y).1 * (rgT σ o x).2 < 0 ∨ ((rgT σ o x).1 * (rgT σ o y).2 - (rgT σ o y).1 * (rgT σ o x).2 = 0 ∧ (x : Int) < (y : Int)) := by
  have b1 := rg2_b (PrB_ch hW o) hx hW.w1 hW.w2
  have b2 := rg2_b (PrB_ch hW o) hy hW.w1 hW.w2
  have t1 := rgT_b hW hx
  have t2 := rgT_b hW hy
  have e1 := rg_fr hW hx
  have e2 := rg_fr hW hy
  have i1 : (rgC σ o x).1 * (rgC σ o y).2 < (rgC σ o y).1 * (rgC σ o x).2 ↔ (rgT σ o x).1 * (rgT σ o y).2 < (rgT σ o y).1 * (rgT σ o x).2 :=
    ⟨fun h => fr_lt b1.2.2.1 b2.2.2.1 t1.2.2.1 t2.2.2.1 e1 e2 h, fun h => fr_lt t1.2.2.1 t2.2.2.1 b1.2.2.1 b2.2.2.1 e1.symm e2.symm h⟩
  have i2 : (rgC σ o y).1 * (rgC σ o x).2 < (rgC σ o x).1 * (rgC σ o y).2 ↔ (rgT σ o y).1 * (rgT σ o x).2 < (rgT σ o x).1 * (rgT σ o y).2 :=
    ⟨fun h => fr_lt b2.2.2.1 b1.2.2.1 t2.2.2.1 t1.2.2.1 e2 e1 h, fun h => fr_lt t2.2.2.1 t1.2.2.1 b2.2.2.1 b1.2.2.1 e2.symm e1.symm h⟩
  unfold calB
  rw [decide_eq_true_eq, i1, i2]
  omega
theorem cmC_ok {σ : Sg} (hW : Wf σ) {o : Nat} (h0 : 0 < chn σ o) : ∀ k, (cmN σ o (k + 1)).1 = (cmC σ o k : Nat) ∧ (cmN σ o (k + 1)).2 = rgT σ o (cmC σ o k)
  | 0 => by
    simp only [cmN]
    rw [if_pos (Or.inl trivial), abP_0 hW]
    exact ⟨rfl, rfl⟩
  | k + 1 => by
    obtain ⟨i1, i2⟩ := cmC_ok hW h0 k
    have hq := cal_ok hW (abP_lt h0 (k + 1)) (cmC_lt h0 k)
    rw [cmN, i1, i2]
    simp only [cmC]
    by_cases hc : calB σ o (abP σ o (k + 1)) (cmC σ o k) = true
    · rw [if_pos hc, if_pos (Or.inr (hq.mp hc))]; exact ⟨rfl, rfl⟩
    · rw [if_neg hc, if_neg (fun z => hc (hq.mpr (z.resolve_left (by omega))))]; exact ⟨i1, i2⟩
set_option maxHeartbeats 2000000 in
theorem c_X11_calm {B : ev_B} {d a0 w0 j : Nat} {X : Nat → Prop} {h : ev_H} {σ : Sg} {o : Int32} (hp : PSx X w0 h a0 σ j) (hW : Wf σ) (hj : j + 1 ≤ 600) (hd : 36 ≤ d) :
    Wp B d M_X11_calm 0 [some (.ref a0), some (.int (o)), none, none, none, none, none] [] h (CQ X w0 h a0 (σ) j (.int (a_calm σ o))) := by
  obtain ⟨A, C, ns, ws, cp, ln, lr, pS, ha⟩ := hp
  obtain ⟨Vb, hVb, b0, b1, b2, b3, b4, b5, b6, b7⟩ := id pS.ben
  obtain ⟨Vw, hVw, -⟩ := id pS.win
  obtain ⟨Vq, gq, hVq, rq0, rq1, hgq, rq2, rq3⟩ := id pS.row.1
  obtain ⟨zf, hzf⟩ := id pS.fo
  have hcn := pS.cnt
  have hn10 := hW.n
  by_cases hio : 0 ≤ o.toInt ∧ o.toInt < σ.n
  · obtain ⟨i, rfl, ho, ho2⟩ := as_nI hio
    have ti := nI_tI ho2
    have hOw := hW.of i ho
    refine Wp.aload_n dX11_calm_0 rfl (by first | exact Or.inr ⟨_, rfl⟩ | exact Or.inl rfl) rfl ?_
    refine Wp.iload_n dX11_calm_1 rfl rfl ?_
    refine Wp.cV dX11_calm_2 cv_X11_112 rfl (by omega) rfl (Nat.le_of_ble_eq_true rfl) (Nat.le_of_ble_eq_true rfl) (pS.S.at' hVb ha) rfl (c_X11_offerAt_y (d := d - 1) pS ha hW ho (by omega)) ?_
    rintro _ h1 ⟨A1, C1, cp1, ln1, rfl, x1, ha1, p1, on1⟩
    dsimp only [Option.toList, List.drop, List.cons_append, List.nil_append]
    obtain ⟨Vd, hVd, d0_, d1_, d2_, d3_, d4_, d5_, d6_, d7_⟩ := id p1.ben
    obtain ⟨Vw1, hVw1, -⟩ := id p1.win
    obtain ⟨Vq1, gq1, hVq1, rqa0, rqa1, hgq1, rqa2, rqa3⟩ := id p1.row.1
    obtain ⟨zf1, hzf1⟩ := id p1.fo
    obtain ⟨Vo, bso, nbo, rbo, hVo, hOV, vo4, vo5, hch, hcap, hrow, hnb, hlen, hbs, hbok⟩ := id on1
    obtain ⟨ov0, ov1, ov2, ov3, ov5, ov6, ov7⟩ := id hOV
    obtain ⟨Vc, gc0, gc1, gc2, hVc, vc0, vc1, vc2, vc3, kc0, kc1, kc2, hlc, h8c, hgc⟩ := id hch
    have hO := ciO_is (σ.O i).k
    have hchn := chn_le σ i
    have hPrB := PrB_ch hW i
    change Vc 3 = .int (nI (chn σ i)) at vc3
    have hlc' : chn σ i ≤ cp1 i := hlc
    have hH := on1.H p1.S
    refine Wp.astore_n dX11_calm_5 (by first | exact Or.inr ⟨_, rfl⟩ | exact Or.inl rfl) (Nat.le_of_ble_eq_true rfl) (by dsimp only [ev_st1, ev_cl] <;> rfl) rfl ?_
    refine Wp.aload_n dX11_calm_6 rfl (by first | exact Or.inr ⟨_, rfl⟩ | exact Or.inl rfl) rfl ?_
    refine Wp.ifnonnull (n := 13) dX11_calm_7 (by decide) ?_
    refine Wp.aload_n dX11_calm_13 rfl (by first | exact Or.inr ⟨_, rfl⟩ | exact Or.inl rfl) rfl ?_
    refine Wp.aload_n dX11_calm_14 rfl (by first | exact Or.inr ⟨_, rfl⟩ | exact Or.inl rfl) rfl ?_
    refine Wp.get dX11_calm_15 fl_X11_25 (p1.S.at' hVd ha1) d3_ rfl ?_
    refine Wp.cU dX11_calm_18 (cu_X11_237 hO) rfl (by omega) rfl (Nat.le_of_ble_eq_true rfl) (Nat.le_of_ble_eq_true rfl) (p1.S.at hVo) rfl (c_X3_bendsIn (d := d - 1) hW p1.S p1.win (by have := p1.cnt; omega) on1 (by omega)) ?_
    rintro _ h2 ⟨rfl, A2, C2, cap2, len2, S2, o2, l1, l2, a2, f2, ob2⟩
    dsimp only [Option.toList, List.drop, List.cons_append, List.nil_append]
    have htO : tO i = 30 + 10 * i := rfl
    have p2 := p1.offer ho S2 o2 l1 l2 a2 f2 ob2.N.S
    have ha2 : A2 0 = a0 := (a2 0 (by omega)).trans ha1
    have x2 := x1.tr o2.fx
    rw [show A1 (tO i + 5) = A2 (tO i + 5) from (a2 _ (by omega)).symm]
    obtain ⟨Vo2, nb, rb, hVo2, hOV2, -, -, hch2, hcap2, hrow2, hnb2, hlen2, hbk⟩ := id ob2
    have hR2 := hrow2.H p2.S
    have hbk1 := hbk.1
    obtain ⟨Vr, gr, hVr, r0, r1, -⟩ := id hrow2
    obtain ⟨Ve, hVe, e0_, e1_, e2_, e3_, e4_, e5_, e6_, e7_⟩ := id p2.ben
    obtain ⟨Vq2, gq2, hVq2, rqb0, rqb1, hgq2, rqb2, rqb3⟩ := id p2.row.1
    obtain ⟨Vw2, hVw2, -⟩ := id p2.win
    obtain ⟨zf2, hzf2⟩ := id p2.fo
    obtain ⟨Vc2, gd0, gd1, gd2, hVc2, vd0, vd1, vd2, vd3, kd0, kd1, kd2, hlc2, h8c2, hgc2⟩ := id hch2
    have hH2 := ob2.N.H p2.S
    obtain ⟨Vw3, hVw3, wv0, wv1, wv2, wv3, -⟩ := id p2.win
    rw [show A1 (tO i) = A2 (tO i) from (a2 _ (by omega)).symm]
    have w1_ := hW.w1
    have pq1 : pqB σ.p1 σ.q1 := ⟨by omega, by omega, by omega, by omega⟩
    refine Wp.astore_n dX11_calm_21 (by first | exact Or.inr ⟨_, rfl⟩ | exact Or.inl rfl) (Nat.le_of_ble_eq_true rfl) (by dsimp only [ev_st1, ev_cl] <;> rfl) rfl ?_
    by_cases hch0 : 0 < chn σ i
    · have loop : ∀ u, u ≤ nb → ∀ (hh : ev_H) (Ci : Nat → Option ev_E) (b : Nat) (j6 : Option Value), PS X w0 hh A2 Ci σ ns ws (updN cp1 i cap2) (updN ln1 i len2) lr j → FX X h hh → (∀ t, t ≠ 13 → Ci t = C2 t) → b = cmC σ i u → Wp B d M_X11_calm 56 [some (.ref a0), some (.int (nI i)), some (.ref (A2 (tO i))), some (.ref (A2 (tO i + 5))), some (.int (nI b)), some (.int (nI u)), j6] [] hh (CQ X w0 h a0 (σ) j (.int (a_calm σ (nI i)))) := by
        refine ev_upl nb (fun u hi ih => ?_) ?_
        · intro hh Ci b j6 pI xI fI hb_
          have onI := ob2.N.f13 fI
          have hRI := (hrow2.same (fI _ (by omega)) (fI _ (by omega)) rfl).H pI.S
          have hbl : b < chn σ i := by rw [hb_]; exact cmC_lt hch0 u
          refine Wp.iload dX11_calm_56 rfl rfl ?_
          refine Wp.aload_n dX11_calm_58 rfl (by first | exact Or.inr ⟨_, rfl⟩ | exact Or.inl rfl) rfl ?_
          refine Wp.get dX11_calm_59 fl_X11_247 (pI.S.at ((fI (tO i + 5) (by omega)).trans hVr)) r1 rfl ?_
          refine Wp.icmp_ge (tgt := 111) (n := 65) dX11_calm_62 (by decide) rfl (fun c_62 => ?_) (fun c_62 => ?_)
          · try simp (disch := omega) only [nI_bit0, nI_bit1, Bool.not_eq_false, Bool.not_eq_true] at c_62
            try simp (disch := omega) only [i_lt, i_le, i_eq, l_lt, l_le, l_eq, i_0, i_m1, l_0, nI_tI, iI_tI, lI_tI, Int.not_lt, Int.not_le] at c_62
            omega
          · try simp (disch := omega) only [nI_bit0, nI_bit1, Bool.not_eq_false, Bool.not_eq_true] at c_62
            try simp (disch := omega) only [i_lt, i_le, i_eq, l_lt, l_le, l_eq, i_0, i_m1, l_0, nI_tI, iI_tI, lI_tI, Int.not_lt, Int.not_le] at c_62
            refine Wp.aload_n dX11_calm_65 rfl (by first | exact Or.inr ⟨_, rfl⟩ | exact Or.inl rfl) rfl ?_
            refine Wp.get dX11_calm_66 (fl_X11_138 hO) (pI.S.at ((fI (tO i) (by omega)).trans hVo2)) hOV2.2.2.1 rfl ?_
            refine Wp.aload_n dX11_calm_69 rfl (by first | exact Or.inr ⟨_, rfl⟩ | exact Or.inl rfl) rfl ?_
            refine Wp.iload dX11_calm_70 rfl rfl ?_
            refine Wp.iconst (v := (nI 3)) dX11_calm_72 (by decide) rfl ?_
            refine Wp.cV dX11_calm_73 cv_X11_248 rfl (by omega) rfl (Nat.le_of_ble_eq_true rfl) (Nat.le_of_ble_eq_true rfl) (pI.S.at ((fI (tO i + 5) (by omega)).trans hVr)) rfl (c_X5_number (d := d - 1) (i := u) (w := 3) hRI (by omega) hi (by decide) (by omega)) ?_
            rintro _ h_ ⟨rfl, e_⟩
            rw [e_]
            clear e_ h_
            dsimp only [Option.toList, List.drop, List.cons_append, List.nil_append]
            refine Wp.cV dX11_calm_76 cv_X11_168 rfl (by omega) rfl (Nat.le_of_ble_eq_true rfl) (Nat.le_of_ble_eq_true rfl) (pI.S.at ((fI (tO i + 1) (by omega)).trans hVc2)) rfl (c_X1_placeOf (d := d - 1) (onI.H pI.S) hPrB (fun j _ => chC_lt σ i j)) ?_
            rintro _ h_ ⟨rfl, e_⟩
            rw [e_]
            clear e_ h_
            dsimp only [Option.toList, List.drop, List.cons_append, List.nil_append]
            rw [show rb u 3 = (chC σ i (abP σ i (u + 1)) : Nat) from hbk.2 u 3 hi (by decide), plG_chC (abP_lt hch0 (u + 1)), ← nI_iI]
            have hab := abP_lt hch0 (u + 1)
            refine Wp.istore dX11_calm_79 (Nat.le_of_ble_eq_true rfl) (by dsimp only [ev_st1, ev_st2, ev_cl] <;> rfl) rfl ?_
            refine Wp.iload dX11_calm_81 rfl rfl ?_
            refine Wp.if_lt (tgt := 105) (n := 86) dX11_calm_83 (by decide) rfl (fun c_83 => ?_) (fun c_83 => ?_)
            · try simp (disch := omega) only [nI_bit0, nI_bit1, Bool.not_eq_false, Bool.not_eq_true] at c_83
              try simp (disch := omega) only [i_lt, i_le, i_eq, l_lt, l_le, l_eq, i_0, i_m1, l_0, nI_tI, iI_tI, lI_tI, Int.not_lt, Int.not_le] at c_83
              omega
            · try simp (disch := omega) only [nI_bit0, nI_bit1, Bool.not_eq_false, Bool.not_eq_true] at c_83
              try simp (disch := omega) only [i_lt, i_le, i_eq, l_lt, l_le, l_eq, i_0, i_m1, l_0, nI_tI, iI_tI, lI_tI, Int.not_lt, Int.not_le] at c_83
              refine Wp.aload_n dX11_calm_86 rfl (by first | exact Or.inr ⟨_, rfl⟩ | exact Or.inl rfl) rfl ?_
              refine Wp.aload_n dX11_calm_87 rfl (by first | exact Or.inr ⟨_, rfl⟩ | exact Or.inl rfl) rfl ?_
              refine Wp.get dX11_calm_88 (fl_X11_138 hO) (pI.S.at ((fI (tO i) (by omega)).trans hVo2)) hOV2.2.2.1 rfl ?_
              refine Wp.iload dX11_calm_91 rfl rfl ?_
              refine Wp.iload dX11_calm_93 rfl rfl ?_
              refine Wp.cV dX11_calm_95 cv_X11_251 rfl (by omega) rfl (Nat.le_of_ble_eq_true rfl) (Nat.le_of_ble_eq_true rfl) (pI.S.at' ((fI (0) (by omega)).trans hVe) ha2) rfl (c_X11_isCalmer (d := d - 1) pI ha2 hW onI hab (by omega) (by omega)) ?_
              rintro _ h4 ⟨rfl, C4, S4, o4, f4, fo4⟩
              have p4 := pI.fnd S4 o4 f4 fo4
              have x4 := xI.tr o4.fx
              have f5 : ∀ t, t ≠ 13 → C4 t = C2 t := fun t z => (f4 t z).trans (fI t z)
              dsimp only [Option.toList, List.drop, List.cons_append, List.nil_append]
              refine Wp.bif_eq (tgt := 105) (n := 101) dX11_calm_98 (by decide) rfl (fun c_98 => ?_) (fun c_98 => ?_)
              · skip
                refine Wp.iinc (v := _ + (nI 1)) dX11_calm_105 rfl rfl (Nat.le_of_ble_eq_true rfl) (by dsimp only [ev_st1, ev_cl] <;> rfl) rfl ?_
                refine Wp.goto (n := 56) dX11_calm_108 (by decide) ?_
                rw [nI_add1]
                exact ih _ _ _ _ p4 x4 f5 (by rw [cmC, ← hb_, if_neg (by rw [c_98]; decide)])
              · skip
                refine Wp.iload dX11_calm_101 rfl rfl ?_
                refine Wp.istore dX11_calm_103 (Nat.le_of_ble_eq_true rfl) (by dsimp only [ev_st1, ev_st2, ev_cl] <;> rfl) rfl ?_
                refine Wp.iinc (v := _ + (nI 1)) dX11_calm_105 rfl rfl (Nat.le_of_ble_eq_true rfl) (by dsimp only [ev_st1, ev_cl] <;> rfl) rfl ?_
                refine Wp.goto (n := 56) dX11_calm_108 (by decide) ?_
                rw [nI_add1]
                exact ih _ _ _ _ p4 x4 f5 (by rw [cmC, ← hb_, if_pos c_98])
        · intro hh Ci b j6 pI xI fI hb_
          have hbl : b < chn σ i := by rw [hb_]; exact cmC_lt hch0 nb
          refine Wp.iload dX11_calm_56 rfl rfl ?_
          refine Wp.aload_n dX11_calm_58 rfl (by first | exact Or.inr ⟨_, rfl⟩ | exact Or.inl rfl) rfl ?_
          refine Wp.get dX11_calm_59 fl_X11_247 (pI.S.at ((fI (tO i + 5) (by omega)).trans hVr)) r1 rfl ?_
          refine Wp.icmp_ge (tgt := 111) (n := 65) dX11_calm_62 (by decide) rfl (fun c_62 => ?_) (fun c_62 => ?_)
          · try simp (disch := omega) only [nI_bit0, nI_bit1, Bool.not_eq_false, Bool.not_eq_true] at c_62
            try simp (disch := omega) only [i_lt, i_le, i_eq, l_lt, l_le, l_eq, i_0, i_m1, l_0, nI_tI, iI_tI, lI_tI, Int.not_lt, Int.not_le] at c_62
            refine Wp.aload_n dX11_calm_111 rfl (by first | exact Or.inr ⟨_, rfl⟩ | exact Or.inl rfl) rfl ?_
            refine Wp.get dX11_calm_112 (fl_X11_138 hO) (pI.S.at ((fI (tO i) (by omega)).trans hVo2)) hOV2.2.2.1 rfl ?_
            refine Wp.get dX11_calm_115 fl_X11_157 (pI.S.at ((fI (tO i + 1) (by omega)).trans hVc2)) vd0 rfl ?_
            refine Wp.iload dX11_calm_118 rfl rfl ?_
            refine Wp.iaload dX11_calm_120 (pI.S.at ((fI (tO i + 2) (by omega)).trans kd0)) (nI_toInt (by omega)) (by omega) rfl ?_
            rw [(hgc2 b hbl).1, show (chL σ.N (σ.O i)).getD b 0 = chC σ i b from rfl]
            exact Wp.iret dX11_calm_121 rfl (by
              refine ⟨?_, xI, A2, Ci, ns, ws, updN cp1 i cap2, updN ln1 i len2, lr, pI.up hj, ha2⟩
              rw [a_calm, if_pos (show isO σ (nI i) by omega), tn_nI ho2, if_pos hch0, show npt σ i - 1 = nb + 1 by omega, (cmC_ok hW hch0 nb).1, Int.toNat_natCast, ← hb_])
          · try simp (disch := omega) only [nI_bit0, nI_bit1, Bool.not_eq_false, Bool.not_eq_true] at c_62
            try simp (disch := omega) only [i_lt, i_le, i_eq, l_lt, l_le, l_eq, i_0, i_m1, l_0, nI_tI, iI_tI, lI_tI, Int.not_lt, Int.not_le] at c_62
            omega
      refine Wp.aload_n dX11_calm_22 rfl (by first | exact Or.inr ⟨_, rfl⟩ | exact Or.inl rfl) rfl ?_
      refine Wp.get dX11_calm_23 (fl_X11_138 hO) (p2.S.at hVo2) hOV2.2.2.1 rfl ?_
      refine Wp.aload_n dX11_calm_26 rfl (by first | exact Or.inr ⟨_, rfl⟩ | exact Or.inl rfl) rfl ?_
      refine Wp.get dX11_calm_27 fl_X11_25 (p2.S.at' hVe ha2) e3_ rfl ?_
      refine Wp.get dX11_calm_30 fl_X11_241 (p2.S.at hVw3) wv0 rfl ?_
      refine Wp.aload_n dX11_calm_33 rfl (by first | exact Or.inr ⟨_, rfl⟩ | exact Or.inl rfl) rfl ?_
      refine Wp.get dX11_calm_34 fl_X11_25 (p2.S.at' hVe ha2) e3_ rfl ?_
      refine Wp.get dX11_calm_37 fl_X11_244 (p2.S.at hVw3) wv1 rfl ?_
      refine Wp.iconst (v := (nI 1)) dX11_calm_40 (by decide) rfl ?_
      refine Wp.cV dX11_calm_41 cv_X11_193 rfl (by omega) rfl (Nat.le_of_ble_eq_true rfl) (Nat.le_of_ble_eq_true rfl) (p2.S.at hVc2) rfl (c_X1_cheapestAt (d := d - 1) hH2 hPrB (iI_toInt (by omega) (by omega)) (iI_toInt (by omega) (by omega)) pq1 (by decide) (by omega)) ?_
      rintro _ h_ ⟨rfl, e_⟩
      rw [e_]
      clear e_ h_
      dsimp only [Option.toList, List.drop, List.cons_append, List.nil_append]
      rw [bsI_s hch0, ← nI_iI]
      have hbs := bst_lt (cst (chS σ i) (chR σ i) σ.p1 σ.q1) (Kw 1 (chR σ i)) (chn σ i) hch0
      refine Wp.istore dX11_calm_44 (Nat.le_of_ble_eq_true rfl) (by dsimp only [ev_st1, ev_st2, ev_cl] <;> rfl) rfl ?_
      refine Wp.iload dX11_calm_46 rfl rfl ?_
      refine Wp.if_ge (tgt := 53) (n := 51) dX11_calm_48 (by decide) rfl (fun c_48 => ?_) (fun c_48 => ?_)
      · try simp (disch := omega) only [nI_bit0, nI_bit1, Bool.not_eq_false, Bool.not_eq_true] at c_48
        try simp (disch := omega) only [i_lt, i_le, i_eq, l_lt, l_le, l_eq, i_0, i_m1, l_0, nI_tI, iI_tI, lI_tI, Int.not_lt, Int.not_le] at c_48
        refine Wp.iconst (v := (nI 0)) dX11_calm_53 (by decide) rfl ?_
        refine Wp.istore dX11_calm_54 (Nat.le_of_ble_eq_true rfl) (by dsimp only [ev_st1, ev_st2, ev_cl] <;> rfl) rfl ?_
        exact loop 0 (by omega) _ _ _ _ p2 x2 (fun _ _ => rfl) rfl
      · try simp (disch := omega) only [nI_bit0, nI_bit1, Bool.not_eq_false, Bool.not_eq_true] at c_48
        try simp (disch := omega) only [i_lt, i_le, i_eq, l_lt, l_le, l_eq, i_0, i_m1, l_0, nI_tI, iI_tI, lI_tI, Int.not_lt, Int.not_le] at c_48
        omega
    · refine Wp.aload_n dX11_calm_22 rfl (by first | exact Or.inr ⟨_, rfl⟩ | exact Or.inl rfl) rfl ?_
      refine Wp.get dX11_calm_23 (fl_X11_138 hO) (p2.S.at hVo2) hOV2.2.2.1 rfl ?_
      refine Wp.aload_n dX11_calm_26 rfl (by first | exact Or.inr ⟨_, rfl⟩ | exact Or.inl rfl) rfl ?_
      refine Wp.get dX11_calm_27 fl_X11_25 (p2.S.at' hVe ha2) e3_ rfl ?_
      refine Wp.get dX11_calm_30 fl_X11_241 (p2.S.at hVw3) wv0 rfl ?_
      refine Wp.aload_n dX11_calm_33 rfl (by first | exact Or.inr ⟨_, rfl⟩ | exact Or.inl rfl) rfl ?_
      refine Wp.get dX11_calm_34 fl_X11_25 (p2.S.at' hVe ha2) e3_ rfl ?_
      refine Wp.get dX11_calm_37 fl_X11_244 (p2.S.at hVw3) wv1 rfl ?_
      refine Wp.iconst (v := (nI 1)) dX11_calm_40 (by decide) rfl ?_
      refine Wp.cV dX11_calm_41 cv_X11_193 rfl (by omega) rfl (Nat.le_of_ble_eq_true rfl) (Nat.le_of_ble_eq_true rfl) (p2.S.at hVc2) rfl (c_X1_cheapestAt (d := d - 1) hH2 hPrB (iI_toInt (by omega) (by omega)) (iI_toInt (by omega) (by omega)) pq1 (by decide) (by omega)) ?_
      rintro _ h_ ⟨rfl, e_⟩
      rw [e_]
      clear e_ h_
      dsimp only [Option.toList, List.drop, List.cons_append, List.nil_append]
      rw [show bsI (cst (chS σ i) (chR σ i) σ.p1 σ.q1) (Kw 1 (chR σ i)) (chn σ i) = -1 by rw [bsI, if_pos (by omega)]]
      refine Wp.istore dX11_calm_44 (Nat.le_of_ble_eq_true rfl) (by dsimp only [ev_st1, ev_st2, ev_cl] <;> rfl) rfl ?_
      refine Wp.iload dX11_calm_46 rfl rfl ?_
      refine Wp.if_ge (tgt := 53) (n := 51) dX11_calm_48 (by decide) rfl (fun c_48 => ?_) (fun c_48 => ?_)
      · try simp (disch := omega) only [nI_bit0, nI_bit1, Bool.not_eq_false, Bool.not_eq_true] at c_48
        try simp (disch := omega) only [i_lt, i_le, i_eq, l_lt, l_le, l_eq, i_0, i_m1, l_0, nI_tI, iI_tI, lI_tI, Int.not_lt, Int.not_le] at c_48
        omega
      · try simp (disch := omega) only [nI_bit0, nI_bit1, Bool.not_eq_false, Bool.not_eq_true] at c_48
        try simp (disch := omega) only [i_lt, i_le, i_eq, l_lt, l_le, l_eq, i_0, i_m1, l_0, nI_tI, iI_tI, lI_tI, Int.not_lt, Int.not_le] at c_48
        refine Wp.iconst (v := (-1)) dX11_calm_51 (by decide) rfl ?_
        exact Wp.iret dX11_calm_52 rfl (by
          refine ⟨?_, x2, A2, C2, ns, ws, updN cp1 i cap2, updN ln1 i len2, lr, p2.up hj, ha2⟩
          rw [a_calm, if_pos (show isO σ (nI i) by omega), tn_nI ho2, if_neg hch0])
  · refine Wp.aload_n dX11_calm_0 rfl (by first | exact Or.inr ⟨_, rfl⟩ | exact Or.inl rfl) rfl ?_
    refine Wp.iload_n dX11_calm_1 rfl rfl ?_
    refine Wp.cV dX11_calm_2 cv_X11_112 rfl (by omega) rfl (Nat.le_of_ble_eq_true rfl) (Nat.le_of_ble_eq_true rfl) (pS.S.at' hVb ha) rfl (c_X11_offerAt_n (d := d - 1) pS ha hW hio) ?_
    rintro _ h1 ⟨rfl, e1_⟩
    rw [e1_]
    clear e1_ h1
    dsimp only [Option.toList, List.drop, List.cons_append, List.nil_append]
    refine Wp.astore_n dX11_calm_5 (by first | exact Or.inr ⟨_, rfl⟩ | exact Or.inl rfl) (Nat.le_of_ble_eq_true rfl) (by dsimp only [ev_st1, ev_cl] <;> rfl) rfl ?_
    refine Wp.aload_n dX11_calm_6 rfl (by first | exact Or.inr ⟨_, rfl⟩ | exact Or.inl rfl) rfl ?_
    refine Wp.ifnonnullN (n := 10) dX11_calm_7 rfl ?_
    refine Wp.bipush (v := (-2)) dX11_calm_10 (by decide) rfl ?_
    exact Wp.iret dX11_calm_12 rfl (by refine ⟨?_, FX.rfl, A, C, ns, ws, cp, ln, lr, pS.up hj, ha⟩; simp (disch := omega) only [a_calm, isO, w01, isP, nI_tI, tn_nI]; (repeat' split) <;> first | (exfalso; omega) | rfl)
