/-! the class: rows, acts, counts -/
theorem RowS.rv {A : Nat → Nat} {C : Nat → Option ev_E} {b n len : Nat} {rv rv' : Nat → Nat → Int} (h : RowS A C b n rv len) (e : ∀ i k, i < n → k < 4 → rv' i k = rv i k) : RowS A C b n rv' len := by
  obtain ⟨V, g, h1, h2, h3, h4, h5, h6⟩ := h
  exact ⟨V, g, h1, h2, h3, h4, h5, fun i k hi hk => by rw [e i k hi hk]; exact h6 i k hi hk⟩
theorem BenS.same9 {A A' : Nat → Nat} {C C' : Nat → Option ev_E} {n : Nat} (h : BenS A C n) (f : C' 0 = C 0) (a : ∀ t, t ≠ 9 → A' t = A t) : BenS A' C' n := by
  obtain ⟨V, hV, v0, v1, v2, v3, v4, v5, v6, v7⟩ := h
  exact ⟨V, f.trans hV, by rw [a 1 (by decide)]; exact v0, by rw [a 6 (by decide)]; exact v1, v2, by rw [a 7 (by decide)]; exact v3, by rw [a 8 (by decide)]; exact v4, by rw [a 10 (by decide)]; exact v5, by rw [a 12 (by decide)]; exact v6, by rw [a 13 (by decide)]; exact v7⟩
section
variable {X : Nat → Prop} {w0 : Nat} {h h' : ev_H} {A A' : Nat → Nat} {C C' : Nat → Option ev_E} {σ : Sg} {ns ws : Nat} {cp ln : Nat → Nat} {lr j : Nat}
/-- what the net and the offers do not reach has changed -/
theorem PS.oth {j' lr' nR nT : Nat} {rv : Nat → Nat → Int} {tr : Nat → Nat} {so : Nat → Int} {sz : Nat → Nat} {ce : Nat → Nat → Int64} (p : PS X w0 h A C σ ns ws cp ln lr j) (hj1 : j ≤ j') (hj : j' ≤ 600) (S' : CS X h' A' C') (g : CG X h h' (3 * (lr' - lr))) (hl : lr ≤ lr') (a : ∀ t, t ≠ 9 → A' t = A t) (f : ∀ t, t < 8 ∨ t = 12 ∨ t = 13 ∨ 22 ≤ t → C' t = C t) (r : RowS A' C' 8 nR rv lr' ∧ lr' ≤ 4000) (ac : ActS A' C' (Sg.mk σ.N σ.U σ.al σ.sb σ.rb σ.n σ.O σ.p1 σ.q1 σ.p2 σ.q2 nR rv nT tr so sz ce)) (sh : ∀ s, s < 4 → ShS A' C' (Sg.mk σ.N σ.U σ.al σ.sb σ.rb σ.n σ.O σ.p1 σ.q1 σ.p2 σ.q2 nR rv nT tr so sz ce) s) : PS X w0 h' A' C' (Sg.mk σ.N σ.U σ.al σ.sb σ.rb σ.n σ.O σ.p1 σ.q1 σ.p2 σ.q2 nR rv nT tr so sz ce) ns ws cp ln lr' j' := by
  have ht : ∀ i, tO i = 30 + 10 * i := fun _ => rfl
  refine ⟨S', p.ben.same9 (f 0 (by omega)) a, p.net.same (fun t _ _ => f t (by omega)) (fun t _ _ => a t (by omega)), p.win.same (f 7 (by omega)), r, ac, p.ofa.same (f 6 (by omega)) (fun k _ => a _ (by have := ht k; omega)), p.sha.same (f 12 (by omega)) (fun s _ => a _ (by omega)), sh, p.fo.same (f 13 (by omega)), fun k hk => ?_, fun t ht2 => ?_, ⟨by have := p.cnt; omega, by have := p.cnt; omega, hj⟩, ?_⟩
  · have hk' : k < σ.n := hk
    exact ((p.of k hk').same (fun t q1 q2 => f t (by have := ht k; omega)) (fun t q1 q2 => a t (by have := ht k; omega))).as rfl rfl (fun nb rb b => b.as rfl rfl rfl rfl rfl rfl)
  · rw [f t (by have := ht σ.n; have h2 : tO σ.n ≤ t := ht2; omega)]; exact p.dead t ht2
  · have q1 := p.wt
    have q2 := g.2.2
    show h'.2.2 ≤ w0 + pot cp ln σ.n lr'
    unfold pot at *
    omega
end
theorem c_X11_row {B : ev_B} {d a0 w0 j : Nat} {X : Nat → Prop} {h : ev_H} {σ : Sg} {u w : Int32} (hp : PSx X w0 h a0 σ j) (hW : Wf σ) (hj : j + 1 ≤ 600) (hd : 4 ≤ d) :
    Wp B d M_X11_row 0 [some (.ref a0), some (.int (u)), some (.int (w))] [] h (CQ X w0 h a0 (σ) j (.long (a_row σ u w))) := by
  obtain ⟨A, C, ns, ws, cp, ln, lr, pS, ha⟩ := hp
  obtain ⟨Vb, hVb, b0, b1, b2, b3, b4, b5, b6, b7⟩ := id pS.ben
  obtain ⟨Vw, hVw, -⟩ := id pS.win
  obtain ⟨Vq, gq, hVq, rq0, rq1, hgq, rq2, rq3⟩ := id pS.row.1
  obtain ⟨zf, hzf⟩ := id pS.fo
  have hcn := pS.cnt
  have hn10 := hW.n
  refine Wp.aload_n dX11_row_0 rfl (by first | exact Or.inr ⟨_, rfl⟩ | exact Or.inl rfl) rfl ?_
  refine Wp.get dX11_row_1 fl_X11_32 (pS.S.at' hVb ha) b4 rfl ?_
  refine Wp.iload_n dX11_row_4 rfl rfl ?_
  refine Wp.iload_n dX11_row_5 rfl rfl ?_
  refine Wp.cS dX11_row_6 cs_X11_278 rfl (by omega) rfl (Nat.le_of_ble_eq_true rfl) (Nat.le_of_ble_eq_true rfl) rfl (c_X11_numberOrNo (d := d - 1) (pS.row.1.H pS.S) (by have := hW.nR; omega) hW.rv (by omega)) ?_
  rintro _ h_ ⟨rfl, e_⟩
  rw [e_]
  clear e_ h_
  dsimp only [Option.toList, List.drop, List.cons_append, List.nil_append]
  exact Wp.lret dX11_row_9 rfl (by
    refine ⟨?_, FX.rfl, A, C, ns, ws, cp, ln, lr, pS.up hj, ha⟩
    rw [a_row]
    by_cases hh : hasR σ.nR u w
    · rw [if_pos hh, if_pos (by omega)]
    · rw [if_neg hh, if_neg (by omega)])
set_option maxHeartbeats 1000000 in
theorem c_X11_forge {B : ev_B} {d a0 w0 j : Nat} {X : Nat → Prop} {h : ev_H} {σ : Sg} {u w v : Int32} (hp : PSx X w0 h a0 σ j) (hW : Wf σ) (hj : j + 1 ≤ 600) (hd : 4 ≤ d) :
    Wp B d M_X11_forge 0 [some (.ref a0), some (.int (u)), some (.int (w)), some (.int (v))] [] h (CQ X w0 h a0 (t_forge σ u w v) j (.int (a_forge σ u w v))) := by
  obtain ⟨A, C, ns, ws, cp, ln, lr, pS, ha⟩ := hp
  obtain ⟨Vb, hVb, b0, b1, b2, b3, b4, b5, b6, b7⟩ := id pS.ben
  obtain ⟨Vw, hVw, -⟩ := id pS.win
  obtain ⟨Vq, gq, hVq, rq0, rq1, hgq, rq2, rq3⟩ := id pS.row.1
  obtain ⟨zf, hzf⟩ := id pS.fo
  have hcn := pS.cnt
  have hn10 := hW.n
  refine Wp.aload_n dX11_forge_0 rfl (by first | exact Or.inr ⟨_, rfl⟩ | exact Or.inl rfl) rfl ?_
  refine Wp.get dX11_forge_1 fl_X11_32 (pS.S.at' hVb ha) b4 rfl ?_
  refine Wp.iload_n dX11_forge_4 rfl rfl ?_
  refine Wp.iload_n dX11_forge_5 rfl rfl ?_
  refine Wp.cV dX11_forge_6 cv_X11_286 rfl (by omega) rfl (Nat.le_of_ble_eq_true rfl) (Nat.le_of_ble_eq_true rfl) (pS.S.at hVq) rfl (c_X5_has (d := d - 1) (pS.row.1.H pS.S) (by have := hW.nR; omega)) ?_
  rintro _ h_ ⟨rfl, e_⟩
  rw [e_]
  clear e_ h_
  dsimp only [Option.toList, List.drop, List.cons_append, List.nil_append]
  refine Wp.bif_eq (tgt := 26) (n := 12) dX11_forge_9 (by decide) rfl (fun c_9 => ?_) (fun c_9 => ?_)
  · try simp only [decide_eq_true_eq, decide_eq_false_iff_not, Bool.and_eq_true, bI_0, bI_n0] at c_9
    refine Wp.bipush (v := (-2)) dX11_forge_26 (by decide) rfl ?_
    exact Wp.iret dX11_forge_28 rfl (by rw [a_forge, t_forge, if_neg (by omega), if_neg (by omega)]; exact ⟨rfl, FX.rfl, A, C, ns, ws, cp, ln, lr, pS.up hj, ha⟩)
  · try simp only [decide_eq_true_eq, decide_eq_false_iff_not, Bool.and_eq_true, bI_0, bI_n0] at c_9
    have k1 : (-1000000 : Int32).toInt = -1000000 := by decide
    have k2 : (1000000 : Int32).toInt = 1000000 := by decide
    refine Wp.iload_n dX11_forge_12 rfl rfl ?_
    refine Wp.ldc_w kc_X11_289 dX11_forge_13 rfl ?_
    refine Wp.icmp_lt (tgt := 26) (n := 19) dX11_forge_16 (by decide) rfl (fun c_16 => ?_) (fun c_16 => ?_)
    · try simp (disch := omega) only [nI_bit0, nI_bit1, Bool.not_eq_false, Bool.not_eq_true] at c_16
      try simp (disch := omega) only [i_lt, i_le, i_eq, l_lt, l_le, l_eq, i_0, i_m1, l_0, nI_tI, iI_tI, lI_tI, Int.not_lt, Int.not_le] at c_16
      refine Wp.bipush (v := (-2)) dX11_forge_26 (by decide) rfl ?_
      exact Wp.iret dX11_forge_28 rfl (by rw [a_forge, t_forge, if_neg (by omega), if_neg (by omega)]; exact ⟨rfl, FX.rfl, A, C, ns, ws, cp, ln, lr, pS.up hj, ha⟩)
    · try simp (disch := omega) only [nI_bit0, nI_bit1, Bool.not_eq_false, Bool.not_eq_true] at c_16
      try simp (disch := omega) only [i_lt, i_le, i_eq, l_lt, l_le, l_eq, i_0, i_m1, l_0, nI_tI, iI_tI, lI_tI, Int.not_lt, Int.not_le] at c_16
      refine Wp.iload_n dX11_forge_19 rfl rfl ?_
      refine Wp.ldc_w kc_X11_290 dX11_forge_20 rfl ?_
      refine Wp.icmp_le (tgt := 29) (n := 26) dX11_forge_23 (by decide) rfl (fun c_23 => ?_) (fun c_23 => ?_)
      · try simp (disch := omega) only [nI_bit0, nI_bit1, Bool.not_eq_false, Bool.not_eq_true] at c_23
        try simp (disch := omega) only [i_lt, i_le, i_eq, l_lt, l_le, l_eq, i_0, i_m1, l_0, nI_tI, iI_tI, lI_tI, Int.not_lt, Int.not_le] at c_23
        have hok : okF σ u w v := by omega
        obtain ⟨k, rfl, hk, hk2⟩ := as_nI (show 0 ≤ u.toInt ∧ u.toInt < σ.nR by omega)
        obtain ⟨m, rfl, hm, hm2⟩ := as_nI (o := w) (n := 4) (by omega)
        have tk := nI_tI hk2
        have tm := nI_tI hm2
        refine Wp.aload_n dX11_forge_29 rfl (by first | exact Or.inr ⟨_, rfl⟩ | exact Or.inl rfl) rfl ?_
        refine Wp.get dX11_forge_30 fl_X11_32 (pS.S.at' hVb ha) b4 rfl ?_
        refine Wp.iload_n dX11_forge_33 rfl rfl ?_
        refine Wp.iload_n dX11_forge_34 rfl rfl ?_
        refine Wp.iload_n dX11_forge_35 rfl rfl ?_
        refine Wp.cV dX11_forge_36 cv_X11_291 rfl (by omega) rfl (Nat.le_of_ble_eq_true rfl) (Nat.le_of_ble_eq_true rfl) (pS.S.at hVq) rfl (c_X5_set (d := d - 1) pS.S pS.row.1 (by have := hW.nR; omega) (by have := pS.row.2; omega) hk hm (by omega)) ?_
        rintro _ h1 ⟨rfl, C1, S1, o1, f1, r1⟩
        dsimp only [Option.toList, List.drop, List.cons_append, List.nil_append]
        refine Wp.iconst (v := (nI 1)) dX11_forge_39 (by decide) rfl ?_
        exact Wp.iret dX11_forge_40 rfl (by
          rw [a_forge, t_forge, if_pos hok, if_pos hok, tn_nI hk2, tn_nI hm2]
          exact ⟨rfl, o1.fx, A, C1, ns, ws, cp, ln, lr, pS.oth (by omega) hj S1 (o1.le (by omega)) (Nat.le_refl _) (fun _ _ => rfl) (fun t ht => f1 t (by omega)) ⟨r1, pS.row.2⟩ (pS.act.same (f1 _ (by omega)) (f1 _ (by omega)) rfl) (fun s hs => (pS.sh s hs).same (f1 _ (by omega)) (f1 _ (by omega)) rfl rfl rfl (fun _ => rfl)), ha⟩)
      · try simp (disch := omega) only [nI_bit0, nI_bit1, Bool.not_eq_false, Bool.not_eq_true] at c_23
        try simp (disch := omega) only [i_lt, i_le, i_eq, l_lt, l_le, l_eq, i_0, i_m1, l_0, nI_tI, iI_tI, lI_tI, Int.not_lt, Int.not_le] at c_23
        refine Wp.bipush (v := (-2)) dX11_forge_26 (by decide) rfl ?_
        exact Wp.iret dX11_forge_28 rfl (by rw [a_forge, t_forge, if_neg (by omega), if_neg (by omega)]; exact ⟨rfl, FX.rfl, A, C, ns, ws, cp, ln, lr, pS.up hj, ha⟩)
set_option maxHeartbeats 1000000 in
theorem c_X11_write {B : ev_B} {d a0 w0 j : Nat} {X : Nat → Prop} {h : ev_H} {σ : Sg} {o : Int32} (hp : PSx X w0 h a0 σ j) (hW : Wf σ) (hj : j + 1 ≤ 600) (hd : 36 ≤ d) :
    Wp B d M_X11_write 0 [some (.ref a0), some (.int (o)), none] [] h (CQ X w0 h a0 (t_write σ o) j (.int (a_write σ o))) := by
  obtain ⟨A, C, ns, ws, cp, ln, lr, pS, ha⟩ := hp
  obtain ⟨Vb, hVb, b0, b1, b2, b3, b4, b5, b6, b7⟩ := id pS.ben
  obtain ⟨Vw, hVw, -⟩ := id pS.win
  obtain ⟨Vq, gq, hVq, rq0, rq1, hgq, rq2, rq3⟩ := id pS.row.1
  obtain ⟨zf, hzf⟩ := id pS.fo
  have hcn := pS.cnt
  have hn10 := hW.n
  by_cases hio : 0 ≤ o.toInt ∧ o.toInt < σ.n
  · obtain ⟨i, rfl, ho, ho2⟩ := as_nI hio
    have ti := nI_tI ho2
    have hOw := hW.of i ho
    refine Wp.aload_n dX11_write_0 rfl (by first | exact Or.inr ⟨_, rfl⟩ | exact Or.inl rfl) rfl ?_
    refine Wp.iload_n dX11_write_1 rfl rfl ?_
    refine Wp.cV dX11_write_2 cv_X11_112 rfl (by omega) rfl (Nat.le_of_ble_eq_true rfl) (Nat.le_of_ble_eq_true rfl) (pS.S.at' hVb ha) rfl (c_X11_offerAt_y (d := d - 1) pS ha hW ho (by omega)) ?_
    rintro _ h1 ⟨A1, C1, cp1, ln1, rfl, x1, ha1, p1, on1⟩
    dsimp only [Option.toList, List.drop, List.cons_append, List.nil_append]
    obtain ⟨Vd, hVd, d0_, d1_, d2_, d3_, d4_, d5_, d6_, d7_⟩ := id p1.ben
    obtain ⟨Vw1, hVw1, -⟩ := id p1.win
    obtain ⟨Vq1, gq1, hVq1, rqa0, rqa1, hgq1, rqa2, rqa3⟩ := id p1.row.1
    obtain ⟨zf1, hzf1⟩ := id p1.fo
    obtain ⟨Vo, bso, nbo, rbo, hVo, hOV, vo4, vo5, hch, hcap, hrow, hnb, hlen, hbs, hbok⟩ := id on1
    obtain ⟨ov0, ov1, ov2, ov3, ov5, ov6, ov7⟩ := id hOV
    obtain ⟨Vc, gc0, gc1, gc2, hVc, vc0, vc1, vc2, vc3, kc0, kc1, kc2, hlc, h8c, hgc⟩ := id hch
    have hO := ciO_is (σ.O i).k
    have hchn := chn_le σ i
    have hPrB := PrB_ch hW i
    change Vc 3 = .int (nI (chn σ i)) at vc3
    have hlc' : chn σ i ≤ cp1 i := hlc
    have hH := on1.H p1.S
    refine Wp.astore_n dX11_write_5 (by first | exact Or.inr ⟨_, rfl⟩ | exact Or.inl rfl) (Nat.le_of_ble_eq_true rfl) (by dsimp only [ev_st1, ev_cl] <;> rfl) rfl ?_
    refine Wp.aload_n dX11_write_6 rfl (by first | exact Or.inr ⟨_, rfl⟩ | exact Or.inl rfl) rfl ?_
    refine Wp.ifnonnull (n := 13) dX11_write_7 (by decide) ?_
    refine Wp.aload_n dX11_write_13 rfl (by first | exact Or.inr ⟨_, rfl⟩ | exact Or.inl rfl) rfl ?_
    refine Wp.get dX11_write_14 fl_X11_32 (p1.S.at' hVd ha1) d4_ rfl ?_
    refine Wp.aload_n dX11_write_17 rfl (by first | exact Or.inr ⟨_, rfl⟩ | exact Or.inl rfl) rfl ?_
    refine Wp.aload_n dX11_write_18 rfl (by first | exact Or.inr ⟨_, rfl⟩ | exact Or.inl rfl) rfl ?_
    refine Wp.get dX11_write_19 fl_X11_25 (p1.S.at' hVd ha1) d3_ rfl ?_
    refine Wp.cU dX11_write_22 (cu_X11_237 hO) rfl (by omega) rfl (Nat.le_of_ble_eq_true rfl) (Nat.le_of_ble_eq_true rfl) (p1.S.at hVo) rfl (c_X3_bendsIn (d := d - 1) hW p1.S p1.win (by have := p1.cnt; omega) on1 (by omega)) ?_
    rintro _ h2 ⟨rfl, A2, C2, cap2, len2, S2, o2, l1, l2, a2, f2, ob2⟩
    dsimp only [Option.toList, List.drop, List.cons_append, List.nil_append]
    have htO : tO i = 30 + 10 * i := rfl
    have p2 := p1.offer ho S2 o2 l1 l2 a2 f2 ob2.N.S
    have ha2 : A2 0 = a0 := (a2 0 (by omega)).trans ha1
    have x2 := x1.tr o2.fx
    rw [show A1 (tO i + 5) = A2 (tO i + 5) from (a2 _ (by omega)).symm]
    obtain ⟨Vo2, nb, rb, hVo2, hOV2, -, -, hch2, hcap2, hrow2, hnb2, hlen2, hbk⟩ := id ob2
    have hR2 := hrow2.H p2.S
    have hbk1 := hbk.1
    obtain ⟨Vr, gr, hVr, r0, r1, -⟩ := id hrow2
    obtain ⟨Ve, hVe, e0_, e1_, e2_, e3_, e4_, e5_, e6_, e7_⟩ := id p2.ben
    obtain ⟨Vq2, gq2, hVq2, rqb0, rqb1, hgq2, rqb2, rqb3⟩ := id p2.row.1
    obtain ⟨Vw2, hVw2, -⟩ := id p2.win
    obtain ⟨zf2, hzf2⟩ := id p2.fo
    obtain ⟨Vc2, gd0, gd1, gd2, hVc2, vd0, vd1, vd2, vd3, kd0, kd1, kd2, hlc2, h8c2, hgc2⟩ := id hch2
    have hH2 := ob2.N.H p2.S
    rw [show A1 8 = A2 8 from (a2 8 (by omega)).symm]
    refine Wp.cV dX11_write_25 cv_X11_282 rfl (by omega) rfl (Nat.le_of_ble_eq_true rfl) (Nat.le_of_ble_eq_true rfl) (p2.S.at hVq2) rfl (c_X5_becomeLike (d := d - 1) p2.S p2.row.1 (by have := hW.nR; omega) (by have := p2.row.2; omega) hrow2 (by omega) (by omega) (by omega)) ?_
    rintro _ h3 ⟨rfl, A3, C3, len3, S3, o3, l3, l4, a3, f3, r3⟩
    dsimp only [Option.toList, List.drop, List.cons_append, List.nil_append]
    have ha3 : A3 0 = a0 := (a3 0 (by omega)).trans ha2
    have hl2 := p2.row.2
    have p3 := p2.oth (j' := j + 1) (nR := nb) (rv := bndV σ i) (nT := σ.nT) (tr := σ.tr) (so := σ.so) (sz := σ.sz) (ce := σ.ce) (by omega) hj S3 o3 l3 (fun t ht => a3 t (by omega)) (fun t ht => f3 t (by omega) (by omega)) ⟨r3.rv (fun u k hu hk => (hbk.2 u k hu hk).symm), by omega⟩ (p2.act.same (f3 _ (by omega) (by omega)) (f3 _ (by omega) (by omega)) (a3 _ (by omega))) (fun s hs => (p2.sh s hs).same (f3 _ (by omega) (by omega)) (f3 _ (by omega) (by omega)) (a3 _ (by omega)) rfl rfl (fun _ => rfl))
    obtain ⟨Ve3, hVe3, g0_, g1_, g2_, g3_, g4_, g5_, g6_, g7_⟩ := id p3.ben
    obtain ⟨Vr3, gr3, hVr3, r30, r31, -⟩ := id r3
    have x3 := x2.tr o3.fx
    refine Wp.aload_n dX11_write_28 rfl (by first | exact Or.inr ⟨_, rfl⟩ | exact Or.inl rfl) rfl ?_
    refine Wp.get dX11_write_29 fl_X11_32 (p3.S.at' hVe3 ha3) g4_ rfl ?_
    refine Wp.get dX11_write_32 fl_X11_247 (p3.S.at hVr3) r31 rfl ?_
    exact Wp.iret dX11_write_35 rfl (by
      rw [a_write, t_write, if_pos (by omega), if_pos (by omega), tn_nI ho2, show npt σ i - 2 = nb by omega]
      exact ⟨rfl, x3, A3, C3, ns, ws, _, _, len3, p3, ha3⟩)
  · refine Wp.aload_n dX11_write_0 rfl (by first | exact Or.inr ⟨_, rfl⟩ | exact Or.inl rfl) rfl ?_
    refine Wp.iload_n dX11_write_1 rfl rfl ?_
    refine Wp.cV dX11_write_2 cv_X11_112 rfl (by omega) rfl (Nat.le_of_ble_eq_true rfl) (Nat.le_of_ble_eq_true rfl) (pS.S.at' hVb ha) rfl (c_X11_offerAt_n (d := d - 1) pS ha hW hio) ?_
    rintro _ h1 ⟨rfl, e1_⟩
    rw [e1_]
    clear e1_ h1
    dsimp only [Option.toList, List.drop, List.cons_append, List.nil_append]
    refine Wp.astore_n dX11_write_5 (by first | exact Or.inr ⟨_, rfl⟩ | exact Or.inl rfl) (Nat.le_of_ble_eq_true rfl) (by dsimp only [ev_st1, ev_cl] <;> rfl) rfl ?_
    refine Wp.aload_n dX11_write_6 rfl (by first | exact Or.inr ⟨_, rfl⟩ | exact Or.inl rfl) rfl ?_
    refine Wp.ifnonnullN (n := 10) dX11_write_7 rfl ?_
    refine Wp.bipush (v := (-2)) dX11_write_10 (by decide) rfl ?_
    exact Wp.iret dX11_write_12 rfl (by rw [a_write, t_write, if_neg hio, if_neg hio]; exact ⟨rfl, FX.rfl, A, C, ns, ws, cp, ln, lr, pS.up hj, ha⟩)
theorem c_X11_count {B : ev_B} {d a0 w0 j : Nat} {X : Nat → Prop} {h : ev_H} {σ : Sg} {w : Int32} (hp : PSx X w0 h a0 σ j) (hW : Wf σ) (hj : j + 1 ≤ 600) (hd : 2 ≤ d) :
    Wp B d M_X11_count 0 [some (.ref a0), some (.int (w))] [] h (CQ X w0 h a0 (σ) j (.int (a_count σ w))) := by
  obtain ⟨A, C, ns, ws, cp, ln, lr, pS, ha⟩ := hp
  obtain ⟨Vb, hVb, b0, b1, b2, b3, b4, b5, b6, b7⟩ := id pS.ben
  obtain ⟨Vw, hVw, -⟩ := id pS.win
  obtain ⟨Vq, gq, hVq, rq0, rq1, hgq, rq2, rq3⟩ := id pS.row.1
  obtain ⟨zf, hzf⟩ := id pS.fo
  have hcn := pS.cnt
  have hn10 := hW.n
  obtain ⟨Vn, n0, n1, n2, n3, hVn, z0, z1, z2, z3, z4, z5, z6, z7, z8, m0_, m1_, m2_, m3_, hgn⟩ := id pS.net
  have hT := hW.net.1
  have hL := hW.net.2.1
  obtain ⟨Va, ga, hVa, t0_, t1_, hka, hga⟩ := id pS.act
  by_cases hw : 0 ≤ w.toInt ∧ w.toInt < (5 : Nat)
  · obtain ⟨m, rfl, hm, hm2⟩ := as_nI (o := w) (n := 5) (by omega)
    have tm := nI_tI hm2
    have hmm : m = 0 ∨ m = 1 ∨ m = 2 ∨ m = 3 ∨ m = 4 := by omega
    rcases hmm with rfl | rfl | rfl | rfl | rfl
    · refine Wp.iload_n dX11_count_0 rfl rfl ?_
      refine Wp.tswIn (off := 35) (n := 36) dX11_count_1 (by decide) (by decide) (by decide) (by decide) ?_
      refine Wp.aload_n dX11_count_36 rfl (by first | exact Or.inr ⟨_, rfl⟩ | exact Or.inl rfl) rfl ?_
      refine Wp.get dX11_count_37 fl_X11_10 (pS.S.at' hVb ha) b0 rfl ?_
      refine Wp.get dX11_count_40 fl_X11_87 (pS.S.at hVn) z4 rfl ?_
      exact Wp.iret dX11_count_43 rfl (by refine ⟨?_, FX.rfl, A, C, ns, ws, cp, ln, lr, pS.up hj, ha⟩; rfl)
    · refine Wp.iload_n dX11_count_0 rfl rfl ?_
      refine Wp.tswIn (off := 43) (n := 44) dX11_count_1 (by decide) (by decide) (by decide) (by decide) ?_
      refine Wp.aload_n dX11_count_44 rfl (by first | exact Or.inr ⟨_, rfl⟩ | exact Or.inl rfl) rfl ?_
      refine Wp.get dX11_count_45 fl_X11_10 (pS.S.at' hVb ha) b0 rfl ?_
      refine Wp.get dX11_count_48 fl_X11_77 (pS.S.at hVn) z5 rfl ?_
      exact Wp.iret dX11_count_51 rfl (by refine ⟨?_, FX.rfl, A, C, ns, ws, cp, ln, lr, pS.up hj, ha⟩; simp (disch := omega) only [a_count, isO, w01, isP, nI_tI, tn_nI]; (repeat' split) <;> first | (exfalso; omega) | rfl)
    · refine Wp.iload_n dX11_count_0 rfl rfl ?_
      refine Wp.tswIn (off := 51) (n := 52) dX11_count_1 (by decide) (by decide) (by decide) (by decide) ?_
      refine Wp.aload_n dX11_count_52 rfl (by first | exact Or.inr ⟨_, rfl⟩ | exact Or.inl rfl) rfl ?_
      refine Wp.get dX11_count_53 fl_X11_100 (pS.S.at' hVb ha) b2 rfl ?_
      exact Wp.iret dX11_count_56 rfl (by refine ⟨?_, FX.rfl, A, C, ns, ws, cp, ln, lr, pS.up hj, ha⟩; simp (disch := omega) only [a_count, isO, w01, isP, nI_tI, tn_nI]; (repeat' split) <;> first | (exfalso; omega) | rfl)
    · refine Wp.iload_n dX11_count_0 rfl rfl ?_
      refine Wp.tswIn (off := 56) (n := 57) dX11_count_1 (by decide) (by decide) (by decide) (by decide) ?_
      refine Wp.aload_n dX11_count_57 rfl (by first | exact Or.inr ⟨_, rfl⟩ | exact Or.inl rfl) rfl ?_
      refine Wp.get dX11_count_58 fl_X11_32 (pS.S.at' hVb ha) b4 rfl ?_
      refine Wp.get dX11_count_61 fl_X11_247 (pS.S.at hVq) rq1 rfl ?_
      exact Wp.iret dX11_count_64 rfl (by refine ⟨?_, FX.rfl, A, C, ns, ws, cp, ln, lr, pS.up hj, ha⟩; simp (disch := omega) only [a_count, isO, w01, isP, nI_tI, tn_nI]; (repeat' split) <;> first | (exfalso; omega) | rfl)
    · refine Wp.iload_n dX11_count_0 rfl rfl ?_
      refine Wp.tswIn (off := 64) (n := 65) dX11_count_1 (by decide) (by decide) (by decide) (by decide) ?_
      refine Wp.aload_n dX11_count_65 rfl (by first | exact Or.inr ⟨_, rfl⟩ | exact Or.inl rfl) rfl ?_
      refine Wp.get dX11_count_66 fl_X11_39 (pS.S.at' hVb ha) b5 rfl ?_
      refine Wp.get dX11_count_69 fl_X11_312 (pS.S.at hVa) t1_ rfl ?_
      exact Wp.iret dX11_count_72 rfl (by refine ⟨?_, FX.rfl, A, C, ns, ws, cp, ln, lr, pS.up hj, ha⟩; simp (disch := omega) only [a_count, isO, w01, isP, nI_tI, tn_nI]; (repeat' split) <;> first | (exfalso; omega) | rfl)
  · refine Wp.iload_n dX11_count_0 rfl rfl ?_
    refine Wp.tswOut (n := 73) dX11_count_1 (by omega) (by decide) ?_
    refine Wp.bipush (v := (-2)) dX11_count_73 (by decide) rfl ?_
    exact Wp.iret dX11_count_75 rfl (by refine ⟨?_, FX.rfl, A, C, ns, ws, cp, ln, lr, pS.up hj, ha⟩; simp (disch := omega) only [a_count, isO, w01, isP, nI_tI, tn_nI]; (repeat' split) <;> first | (exfalso; omega) | rfl)
theorem c_X11_trace {B : ev_B} {d a0 w0 j : Nat} {X : Nat → Prop} {h : ev_H} {σ : Sg} {i : Int32} (hp : PSx X w0 h a0 σ j) (hW : Wf σ) (hj : j + 1 ≤ 600) (hd : 2 ≤ d) :
    Wp B d M_X11_trace 0 [some (.ref a0), some (.int (i))] [] h (CQ X w0 h a0 (σ) j (.int (a_trace σ i))) := by
  obtain ⟨A, C, ns, ws, cp, ln, lr, pS, ha⟩ := hp
  obtain ⟨Vb, hVb, b0, b1, b2, b3, b4, b5, b6, b7⟩ := id pS.ben
  obtain ⟨Vw, hVw, -⟩ := id pS.win
  obtain ⟨Vq, gq, hVq, rq0, rq1, hgq, rq2, rq3⟩ := id pS.row.1
  obtain ⟨zf, hzf⟩ := id pS.fo
  have hcn := pS.cnt
  have hn10 := hW.n
  obtain ⟨Vn, n0, n1, n2, n3, hVn, z0, z1, z2, z3, z4, z5, z6, z7, z8, m0_, m1_, m2_, m3_, hgn⟩ := id pS.net
  have hT := hW.net.1
  have hL := hW.net.2.1
  obtain ⟨Va, ga, hVa, t0_, t1_, hka, hga⟩ := id pS.act
  have hnT := hW.nT
  refine Wp.iload_n dX11_trace_0 rfl rfl ?_
  refine Wp.if_lt (tgt := 39) (n := 4) dX11_trace_1 (by decide) rfl (fun c_1 => ?_) (fun c_1 => ?_)
  · try simp (disch := omega) only [nI_bit0, nI_bit1, Bool.not_eq_false, Bool.not_eq_true] at c_1
    try simp (disch := omega) only [i_lt, i_le, i_eq, l_lt, l_le, l_eq, i_0, i_m1, l_0, nI_tI, iI_tI, lI_tI, Int.not_lt, Int.not_le] at c_1
    refine Wp.iconst (v := (-1)) dX11_trace_39 (by decide) rfl ?_
    exact Wp.iret dX11_trace_40 rfl (by refine ⟨?_, FX.rfl, A, C, ns, ws, cp, ln, lr, pS.up hj, ha⟩; simp (disch := omega) only [a_trace, isO, w01, isP, nI_tI, tn_nI]; (repeat' split) <;> first | (exfalso; omega) | rfl)
  · try simp (disch := omega) only [nI_bit0, nI_bit1, Bool.not_eq_false, Bool.not_eq_true] at c_1
    try simp (disch := omega) only [i_lt, i_le, i_eq, l_lt, l_le, l_eq, i_0, i_m1, l_0, nI_tI, iI_tI, lI_tI, Int.not_lt, Int.not_le] at c_1
    refine Wp.iload_n dX11_trace_4 rfl rfl ?_
    refine Wp.aload_n dX11_trace_5 rfl (by first | exact Or.inr ⟨_, rfl⟩ | exact Or.inl rfl) rfl ?_
    refine Wp.get dX11_trace_6 fl_X11_39 (pS.S.at' hVb ha) b5 rfl ?_
    refine Wp.get dX11_trace_9 fl_X11_312 (pS.S.at hVa) t1_ rfl ?_
    refine Wp.icmp_ge (tgt := 39) (n := 15) dX11_trace_12 (by decide) rfl (fun c_12 => ?_) (fun c_12 => ?_)
    · try simp (disch := omega) only [nI_bit0, nI_bit1, Bool.not_eq_false, Bool.not_eq_true] at c_12
      try simp (disch := omega) only [i_lt, i_le, i_eq, l_lt, l_le, l_eq, i_0, i_m1, l_0, nI_tI, iI_tI, lI_tI, Int.not_lt, Int.not_le] at c_12
      refine Wp.iconst (v := (-1)) dX11_trace_39 (by decide) rfl ?_
      exact Wp.iret dX11_trace_40 rfl (by refine ⟨?_, FX.rfl, A, C, ns, ws, cp, ln, lr, pS.up hj, ha⟩; simp (disch := omega) only [a_trace, isO, w01, isP, nI_tI, tn_nI]; (repeat' split) <;> first | (exfalso; omega) | rfl)
    · try simp (disch := omega) only [nI_bit0, nI_bit1, Bool.not_eq_false, Bool.not_eq_true] at c_12
      try simp (disch := omega) only [i_lt, i_le, i_eq, l_lt, l_le, l_eq, i_0, i_m1, l_0, nI_tI, iI_tI, lI_tI, Int.not_lt, Int.not_le] at c_12
      refine Wp.iload_n dX11_trace_15 rfl rfl ?_
      refine Wp.aload_n dX11_trace_16 rfl (by first | exact Or.inr ⟨_, rfl⟩ | exact Or.inl rfl) rfl ?_
      refine Wp.get dX11_trace_17 fl_X11_39 (pS.S.at' hVb ha) b5 rfl ?_
      refine Wp.get dX11_trace_20 fl_X11_315 (pS.S.at hVa) t0_ rfl ?_
      refine Wp.alen dX11_trace_23 (by decide) (pS.S.at hka) rfl ?_
      have tn4 : (Int32.ofNat 40).toInt = 40 := by decide
      refine Wp.icmp_ge (tgt := 39) (n := 27) dX11_trace_24 (by decide) rfl (fun c_24 => ?_) (fun c_24 => ?_)
      · try simp (disch := omega) only [nI_bit0, nI_bit1, Bool.not_eq_false, Bool.not_eq_true] at c_24
        try simp (disch := omega) only [i_lt, i_le, i_eq, l_lt, l_le, l_eq, i_0, i_m1, l_0, nI_tI, iI_tI, lI_tI, Int.not_lt, Int.not_le] at c_24
        refine Wp.iconst (v := (-1)) dX11_trace_39 (by decide) rfl ?_
        exact Wp.iret dX11_trace_40 rfl (by refine ⟨?_, FX.rfl, A, C, ns, ws, cp, ln, lr, pS.up hj, ha⟩; simp (disch := omega) only [a_trace, isO, w01, isP, nI_tI, tn_nI]; (repeat' split) <;> first | (exfalso; omega) | rfl)
      · try simp (disch := omega) only [nI_bit0, nI_bit1, Bool.not_eq_false, Bool.not_eq_true] at c_24
        try simp (disch := omega) only [i_lt, i_le, i_eq, l_lt, l_le, l_eq, i_0, i_m1, l_0, nI_tI, iI_tI, lI_tI, Int.not_lt, Int.not_le] at c_24
        obtain ⟨k, rfl, hk, hk2⟩ := as_nI (show 0 ≤ i.toInt ∧ i.toInt < σ.nT by omega)
        have tk := nI_tI hk2
        have tn4 : (Int32.ofNat 40).toInt = 40 := by decide
        refine Wp.aload_n dX11_trace_27 rfl (by first | exact Or.inr ⟨_, rfl⟩ | exact Or.inl rfl) rfl ?_
        refine Wp.get dX11_trace_28 fl_X11_39 (pS.S.at' hVb ha) b5 rfl ?_
        refine Wp.get dX11_trace_31 fl_X11_315 (pS.S.at hVa) t0_ rfl ?_
        refine Wp.iload_n dX11_trace_34 rfl rfl ?_
        refine Wp.iaload dX11_trace_35 (pS.S.at hka) (nI_toInt (by omega)) (by omega) rfl ?_
        rw [hga k (by omega) (by omega)]
        refine Wp.goto (n := 40) dX11_trace_36 (by decide) ?_
        exact Wp.iret dX11_trace_40 rfl (by refine ⟨?_, FX.rfl, A, C, ns, ws, cp, ln, lr, pS.up hj, ha⟩; simp (disch := omega) only [a_trace, isO, w01, isP, nI_tI, tn_nI]; (repeat' split) <;> first | (exfalso; omega) | rfl)
