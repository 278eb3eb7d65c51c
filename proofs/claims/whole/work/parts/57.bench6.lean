/-! the class: acts, sheets -/
theorem runs_trc : ∀ (l : List Nat) (σ : Sg), σ.runs l = σ.trc (σ.runs l).nT (σ.runs l).tr
  | [], _ => rfl
  | b :: l, σ => by
    show (σ.run b).runs l = σ.trc ((σ.run b).runs l).nT ((σ.run b).runs l).tr
    rw [runs_trc l (σ.run b)]
    rfl
theorem ShS.oth {A : Nat → Nat} {C : Nat → Option ev_E} {σ σ' : Sg} {s : Nat} (h : ShS A C σ s) (e0 : σ'.so s = σ.so s) (e1 : σ'.sz s = σ.sz s) (e2 : ∀ i, σ'.ce s i = σ.ce s i) : ShS A C σ' s := h.same rfl rfl rfl e0 e1 e2
set_option maxHeartbeats 1000000 in
theorem c_X11_act5 {B : ev_B} {d a0 w0 j : Nat} {X : Nat → Prop} {h : ev_H} {σ : Sg} {o a x : Int32} (hp : PSx X w0 h a0 σ j) (hW : Wf σ) (hj : j + 1 ≤ 600) (h0 : σ.nT = 0) (hsta : ev_sta B) (hd : 36 ≤ d) :
    Wp B d M_X11_act 7 [some (.ref a0), some (.int o), some (.int a), some (.int x), none] [] h (CQ X w0 h a0 (t_act5 σ o a x) j (.int (a_act σ o a x))) := by
  obtain ⟨A, C, ns, ws, cp, ln, lr, pS, ha⟩ := hp
  obtain ⟨Vb, hVb, b0, b1, b2, b3, b4, b5, b6, b7⟩ := id pS.ben
  obtain ⟨Vw, hVw, -⟩ := id pS.win
  obtain ⟨Vq, gq, hVq, rq0, rq1, hgq, rq2, rq3⟩ := id pS.row.1
  obtain ⟨zf, hzf⟩ := id pS.fo
  have hcn := pS.cnt
  have hn10 := hW.n
  by_cases hio : 0 ≤ o.toInt ∧ o.toInt < σ.n
  · obtain ⟨i, rfl, ho, ho2⟩ := as_nI hio
    have ti := nI_tI ho2
    have hOw := hW.of i ho
    refine Wp.aload_n dX11_act_7 rfl (by first | exact Or.inr ⟨_, rfl⟩ | exact Or.inl rfl) rfl ?_
    refine Wp.iload_n dX11_act_8 rfl rfl ?_
    refine Wp.cV dX11_act_9 cv_X11_112 rfl (by omega) rfl (Nat.le_of_ble_eq_true rfl) (Nat.le_of_ble_eq_true rfl) (pS.S.at' hVb ha) rfl (c_X11_offerAt_y (d := d - 1) pS ha hW ho (by omega)) ?_
    rintro _ h1 ⟨A1, C1, cp1, ln1, rfl, x1, ha1, p1, on1⟩
    dsimp only [Option.toList, List.drop, List.cons_append, List.nil_append]
    obtain ⟨Vd, hVd, d0_, d1_, d2_, d3_, d4_, d5_, d6_, d7_⟩ := id p1.ben
    obtain ⟨Vw1, hVw1, -⟩ := id p1.win
    obtain ⟨Vq1, gq1, hVq1, rqa0, rqa1, hgq1, rqa2, rqa3⟩ := id p1.row.1
    obtain ⟨zf1, hzf1⟩ := id p1.fo
    obtain ⟨Vo, bso, nbo, rbo, hVo, hOV, vo4, vo5, hch, hcap, hrow, hnb, hlen, hbs, hbok⟩ := id on1
    obtain ⟨ov0, ov1, ov2, ov3, ov5, ov6, ov7⟩ := id hOV
    obtain ⟨Vc, gc0, gc1, gc2, hVc, vc0, vc1, vc2, vc3, kc0, kc1, kc2, hlc, h8c, hgc⟩ := id hch
    have hO := ciO_is (σ.O i).k
    have hchn := chn_le σ i
    have hPrB := PrB_ch hW i
    change Vc 3 = .int (nI (chn σ i)) at vc3
    have hlc' : chn σ i ≤ cp1 i := hlc
    have hH := on1.H p1.S
    refine Wp.astore dX11_act_12 (by first | exact Or.inr ⟨_, rfl⟩ | exact Or.inl rfl) (Nat.le_of_ble_eq_true rfl) (by dsimp only [ev_st1, ev_cl] <;> rfl) rfl ?_
    refine Wp.aload dX11_act_14 rfl (by first | exact Or.inr ⟨_, rfl⟩ | exact Or.inl rfl) rfl ?_
    refine Wp.ifnull (n := 19) dX11_act_16 rfl ?_
    refine Wp.iload_n dX11_act_19 rfl rfl ?_
    refine Wp.if_lt (tgt := 28) (n := 23) dX11_act_20 (by decide) rfl (fun c_20 => ?_) (fun c_20 => ?_)
    · try simp (disch := omega) only [nI_bit0, nI_bit1, Bool.not_eq_false, Bool.not_eq_true] at c_20
      try simp (disch := omega) only [i_lt, i_le, i_eq, l_lt, l_le, l_eq, i_0, i_m1, l_0, nI_tI, iI_tI, lI_tI, Int.not_lt, Int.not_le] at c_20
      refine Wp.iconst (v := (nI 0)) dX11_act_28 (by decide) rfl ?_
      refine Wp.goto (n := 43) dX11_act_29 (by decide) ?_
      exact Wp.iret dX11_act_43 rfl (by
        rw [t_act5, a_act, if_neg (by first | omega | (rw [tn_nI ho2]; omega)), if_neg (by first | omega | (rw [tn_nI ho2]; omega))]
        exact ⟨rfl, x1, A1, C1, ns, ws, cp1, ln1, lr, p1.up hj, ha1⟩)
    · try simp (disch := omega) only [nI_bit0, nI_bit1, Bool.not_eq_false, Bool.not_eq_true] at c_20
      try simp (disch := omega) only [i_lt, i_le, i_eq, l_lt, l_le, l_eq, i_0, i_m1, l_0, nI_tI, iI_tI, lI_tI, Int.not_lt, Int.not_le] at c_20
      refine Wp.iload_n dX11_act_23 rfl rfl ?_
      refine Wp.iconst (v := (nI 2)) dX11_act_24 (by decide) rfl ?_
      refine Wp.icmp_le (tgt := 32) (n := 28) dX11_act_25 (by decide) rfl (fun c_25 => ?_) (fun c_25 => ?_)
      · try simp (disch := omega) only [nI_bit0, nI_bit1, Bool.not_eq_false, Bool.not_eq_true] at c_25
        try simp (disch := omega) only [i_lt, i_le, i_eq, l_lt, l_le, l_eq, i_0, i_m1, l_0, nI_tI, iI_tI, lI_tI, Int.not_lt, Int.not_le] at c_25
        have htO : tO i = 30 + 10 * i := rfl
        have hkk := hOw.k
        obtain ⟨u, rfl, hu, hu2⟩ := as_nI (o := a) (n := 3) (by omega)
        have tu := nI_tI hu2
        have hOff : OffR A1 C1 (tO i) i (σ.O i).k (nI (chn σ i)) := ⟨by omega, _, tO i + 1, Vo, Vc, hO, by omega, hVo, ov0, ov1, ov2, hVc, vc3⟩
        obtain ⟨Va1, ga1, hVa1, -⟩ := id p1.act
        refine Wp.aload_n dX11_act_32 rfl (by first | exact Or.inr ⟨_, rfl⟩ | exact Or.inl rfl) rfl ?_
        refine Wp.get dX11_act_33 fl_X11_39 (p1.S.at' hVd ha1) d5_ rfl ?_
        refine Wp.aload dX11_act_36 rfl (by first | exact Or.inr ⟨_, rfl⟩ | exact Or.inl rfl) rfl ?_
        refine Wp.iload_n dX11_act_38 rfl rfl ?_
        refine Wp.iload_n dX11_act_39 rfl rfl ?_
        refine Wp.cV dX11_act_40 cv_X11_309 rfl (by omega) rfl (Nat.le_of_ble_eq_true rfl) (Nat.le_of_ble_eq_true rfl) (p1.S.at hVa1) rfl (c_X0_start (d := d - 1) (a := u) p1.S p1.act hOff hsta (by omega) (by omega) hu (by omega)) ?_
        rintro _ h2 ⟨rfl, C2, S2, o2, f2, a2⟩
        dsimp only [Option.toList, List.drop, List.cons_append, List.nil_append]
        exact Wp.iret dX11_act_43 rfl (by
          rw [t_act5, a_act, if_pos (by omega), if_pos (by omega), tn_nI ho2, tu]
          refine ⟨rfl, x1.tr o2.fx, A1, C2, ns, ws, cp1, ln1, lr, ?_, ha1⟩
          have a2' := a2
          rw [runs_trc] at a2' ⊢
          exact p1.oth (by omega) hj S2 (o2.le (by omega)) (Nat.le_refl _) (fun _ _ => rfl) (fun t ht => f2 t (by omega) (by omega)) ⟨p1.row.1.same (f2 _ (by omega) (by omega)) (f2 _ (by omega) (by omega)) rfl, p1.row.2⟩ a2' (fun s hs => (p1.sh s hs).same (f2 _ (by omega) (by omega)) (f2 _ (by omega) (by omega)) rfl rfl rfl (fun _ => rfl)))
      · try simp (disch := omega) only [nI_bit0, nI_bit1, Bool.not_eq_false, Bool.not_eq_true] at c_25
        try simp (disch := omega) only [i_lt, i_le, i_eq, l_lt, l_le, l_eq, i_0, i_m1, l_0, nI_tI, iI_tI, lI_tI, Int.not_lt, Int.not_le] at c_25
        refine Wp.iconst (v := (nI 0)) dX11_act_28 (by decide) rfl ?_
        refine Wp.goto (n := 43) dX11_act_29 (by decide) ?_
        exact Wp.iret dX11_act_43 rfl (by
          rw [t_act5, a_act, if_neg (by first | omega | (rw [tn_nI ho2]; omega)), if_neg (by first | omega | (rw [tn_nI ho2]; omega))]
          exact ⟨rfl, x1, A1, C1, ns, ws, cp1, ln1, lr, p1.up hj, ha1⟩)
  · refine Wp.aload_n dX11_act_7 rfl (by first | exact Or.inr ⟨_, rfl⟩ | exact Or.inl rfl) rfl ?_
    refine Wp.iload_n dX11_act_8 rfl rfl ?_
    refine Wp.cV dX11_act_9 cv_X11_112 rfl (by omega) rfl (Nat.le_of_ble_eq_true rfl) (Nat.le_of_ble_eq_true rfl) (pS.S.at' hVb ha) rfl (c_X11_offerAt_n (d := d - 1) pS ha hW hio) ?_
    rintro _ h1 ⟨rfl, e1_⟩
    rw [e1_]
    clear e1_ h1
    dsimp only [Option.toList, List.drop, List.cons_append, List.nil_append]
    refine Wp.astore dX11_act_12 (by first | exact Or.inr ⟨_, rfl⟩ | exact Or.inl rfl) (Nat.le_of_ble_eq_true rfl) (by dsimp only [ev_st1, ev_cl] <;> rfl) rfl ?_
    refine Wp.aload dX11_act_14 rfl (by first | exact Or.inr ⟨_, rfl⟩ | exact Or.inl rfl) rfl ?_
    refine Wp.ifnullN (n := 28) dX11_act_16 (by decide) ?_
    refine Wp.iconst (v := (nI 0)) dX11_act_28 (by decide) rfl ?_
    refine Wp.goto (n := 43) dX11_act_29 (by decide) ?_
    exact Wp.iret dX11_act_43 rfl (by
      rw [t_act5, a_act, if_neg (by first | omega | (rw [tn_nI ho2]; omega)), if_neg (by first | omega | (rw [tn_nI ho2]; omega))]
      exact ⟨rfl, FX.rfl, A, C, ns, ws, cp, ln, lr, pS.up hj, ha⟩)
theorem c_X11_act {B : ev_B} {d a0 w0 j : Nat} {X : Nat → Prop} {h : ev_H} {σ : Sg} {o a x : Int32} (hp : PSx X w0 h a0 σ j) (hW : Wf σ) (hj : j + 1 ≤ 600) (hsta : ev_sta B) (hd : 36 ≤ d) :
    Wp B d M_X11_act 0 [some (.ref a0), some (.int o), some (.int a), some (.int x), none] [] h (CQ X w0 h a0 (t_act σ o a x) j (.int (a_act σ o a x))) := by
  obtain ⟨A, C, ns, ws, cp, ln, lr, pS, ha⟩ := hp
  obtain ⟨Vb, hVb, b0, b1, b2, b3, b4, b5, b6, b7⟩ := id pS.ben
  obtain ⟨Vw, hVw, -⟩ := id pS.win
  obtain ⟨Vq, gq, hVq, rq0, rq1, hgq, rq2, rq3⟩ := id pS.row.1
  obtain ⟨zf, hzf⟩ := id pS.fo
  have hcn := pS.cnt
  have hn10 := hW.n
  obtain ⟨Va, ga, hVa, t0_, t1_, hka, hga⟩ := id pS.act
  refine Wp.aload_n dX11_act_0 rfl (by first | exact Or.inr ⟨_, rfl⟩ | exact Or.inl rfl) rfl ?_
  refine Wp.get dX11_act_1 fl_X11_39 (pS.S.at' hVb ha) b5 rfl ?_
  refine Wp.cV dX11_act_4 cv_X11_306 rfl (by omega) rfl (Nat.le_of_ble_eq_true rfl) (Nat.le_of_ble_eq_true rfl) (pS.S.at hVa) rfl (c_X0_forget (d := d - 1) pS.S pS.act) ?_
  rintro _ h1 ⟨rfl, C1, S1, o1, f1, a1⟩
  dsimp only [Option.toList, List.drop, List.cons_append, List.nil_append]
  have pF : PSx X w0 h1 a0 (σ.trc 0 σ.tr) j := ⟨A, C1, ns, ws, cp, ln, lr, pS.oth (Nat.le_refl j) (by omega) S1 (o1.le (by omega)) (Nat.le_refl _) (fun _ _ => rfl) (fun t ht => f1 t (by omega)) ⟨pS.row.1.same (f1 _ (by omega)) (f1 _ (by omega)) rfl, pS.row.2⟩ a1 (fun s hs => (pS.sh s hs).same (f1 _ (by omega)) (f1 _ (by omega)) rfl rfl rfl (fun _ => rfl)), ha⟩
  refine Wp.mono (c_X11_act5 (d := d) pF (hW.trc (by omega)) hj rfl hsta hd) ?_
  rintro v h2 ⟨e1, x2, p2⟩
  exact ⟨e1, o1.fx.tr x2, p2⟩
theorem c_X11_sheetAt_y {B : ev_B} {d s a0 w0 j : Nat} {X : Nat → Prop} {h : ev_H} {A : Nat → Nat} {C : Nat → Option ev_E} {σ : Sg} {ns ws : Nat} {cp ln : Nat → Nat} {lr : Nat} (pS : PS X w0 h A C σ ns ws cp ln lr j) (ha : A 0 = a0) (hs : s < 4) :
    Wp B d M_X11_sheetAt 0 [some (.ref a0), some (.int (nI s))] [] h (fun v h' => v = some (.ref (A (14 + 2 * s))) ∧ h' = h) := by
  obtain ⟨Vb, hVb, b0, b1, b2, b3, b4, b5, b6, b7⟩ := id pS.ben
  obtain ⟨qs, hqs, hqi⟩ := id pS.sha
  have ts := nI_tI (n := s) (by omega)
  refine Wp.iload_n dX11_sheetAt_0 rfl rfl ?_
  refine Wp.if_lt (tgt := 18) (n := 4) dX11_sheetAt_1 (by decide) rfl (fun c_1 => ?_) (fun c_1 => ?_)
  · try simp (disch := omega) only [nI_bit0, nI_bit1, Bool.not_eq_false, Bool.not_eq_true] at c_1
    try simp (disch := omega) only [i_lt, i_le, i_eq, l_lt, l_le, l_eq, i_0, i_m1, l_0, nI_tI, iI_tI, lI_tI, Int.not_lt, Int.not_le] at c_1
    omega
  · try simp (disch := omega) only [nI_bit0, nI_bit1, Bool.not_eq_false, Bool.not_eq_true] at c_1
    try simp (disch := omega) only [i_lt, i_le, i_eq, l_lt, l_le, l_eq, i_0, i_m1, l_0, nI_tI, iI_tI, lI_tI, Int.not_lt, Int.not_le] at c_1
    refine Wp.iload_n dX11_sheetAt_4 rfl rfl ?_
    refine Wp.iconst (v := (nI 4)) dX11_sheetAt_5 (by decide) rfl ?_
    refine Wp.icmp_ge (tgt := 18) (n := 9) dX11_sheetAt_6 (by decide) rfl (fun c_6 => ?_) (fun c_6 => ?_)
    · try simp (disch := omega) only [nI_bit0, nI_bit1, Bool.not_eq_false, Bool.not_eq_true] at c_6
      try simp (disch := omega) only [i_lt, i_le, i_eq, l_lt, l_le, l_eq, i_0, i_m1, l_0, nI_tI, iI_tI, lI_tI, Int.not_lt, Int.not_le] at c_6
      omega
    · try simp (disch := omega) only [nI_bit0, nI_bit1, Bool.not_eq_false, Bool.not_eq_true] at c_6
      try simp (disch := omega) only [i_lt, i_le, i_eq, l_lt, l_le, l_eq, i_0, i_m1, l_0, nI_tI, iI_tI, lI_tI, Int.not_lt, Int.not_le] at c_6
      refine Wp.aload_n dX11_sheetAt_9 rfl (by first | exact Or.inr ⟨_, rfl⟩ | exact Or.inl rfl) rfl ?_
      refine Wp.get dX11_sheetAt_10 fl_X11_45 (pS.S.at' hVb ha) b6 rfl ?_
      refine Wp.iload_n dX11_sheetAt_13 rfl rfl ?_
      refine Wp.aaload dX11_sheetAt_14 (Or.inr rfl) (pS.S.at hqs) (nI_toInt (by omega)) (by omega) (show va_rf (qs s) = .ref (A (14 + 2 * s)) by rw [hqi s hs]; rfl) rfl ?_
      refine Wp.goto (n := 19) dX11_sheetAt_15 (by decide) ?_
      exact Wp.aret dX11_sheetAt_19 rfl (Or.inl ⟨_, rfl⟩) (by first | exact Or.inr ⟨_, rfl⟩ | exact Or.inl rfl) (by exact ⟨rfl, rfl⟩)
theorem c_X11_sheetAt_n {B : ev_B} {d a0 w0 j : Nat} {X : Nat → Prop} {h : ev_H} {A : Nat → Nat} {C : Nat → Option ev_E} {σ : Sg} {ns ws : Nat} {cp ln : Nat → Nat} {lr : Nat} {s : Int32} (pS : PS X w0 h A C σ ns ws cp ln lr j) (ha : A 0 = a0) (hs : ¬ isSh s) :
    Wp B d M_X11_sheetAt 0 [some (.ref a0), some (.int s)] [] h (fun v h' => v = some .null ∧ h' = h) := by
  obtain ⟨Vb, hVb, b0, b1, b2, b3, b4, b5, b6, b7⟩ := id pS.ben
  refine Wp.iload_n dX11_sheetAt_0 rfl rfl ?_
  refine Wp.if_lt (tgt := 18) (n := 4) dX11_sheetAt_1 (by decide) rfl (fun c_1 => ?_) (fun c_1 => ?_)
  · try simp (disch := omega) only [nI_bit0, nI_bit1, Bool.not_eq_false, Bool.not_eq_true] at c_1
    try simp (disch := omega) only [i_lt, i_le, i_eq, l_lt, l_le, l_eq, i_0, i_m1, l_0, nI_tI, iI_tI, lI_tI, Int.not_lt, Int.not_le] at c_1
    refine Wp.aconst_null dX11_sheetAt_18 rfl ?_
    exact Wp.aret dX11_sheetAt_19 rfl (Or.inl ⟨_, rfl⟩) (by first | exact Or.inr ⟨_, rfl⟩ | exact Or.inl rfl) (by exact ⟨rfl, rfl⟩)
  · try simp (disch := omega) only [nI_bit0, nI_bit1, Bool.not_eq_false, Bool.not_eq_true] at c_1
    try simp (disch := omega) only [i_lt, i_le, i_eq, l_lt, l_le, l_eq, i_0, i_m1, l_0, nI_tI, iI_tI, lI_tI, Int.not_lt, Int.not_le] at c_1
    refine Wp.iload_n dX11_sheetAt_4 rfl rfl ?_
    refine Wp.iconst (v := (nI 4)) dX11_sheetAt_5 (by decide) rfl ?_
    refine Wp.icmp_ge (tgt := 18) (n := 9) dX11_sheetAt_6 (by decide) rfl (fun c_6 => ?_) (fun c_6 => ?_)
    · try simp (disch := omega) only [nI_bit0, nI_bit1, Bool.not_eq_false, Bool.not_eq_true] at c_6
      try simp (disch := omega) only [i_lt, i_le, i_eq, l_lt, l_le, l_eq, i_0, i_m1, l_0, nI_tI, iI_tI, lI_tI, Int.not_lt, Int.not_le] at c_6
      refine Wp.aconst_null dX11_sheetAt_18 rfl ?_
      exact Wp.aret dX11_sheetAt_19 rfl (Or.inl ⟨_, rfl⟩) (by first | exact Or.inr ⟨_, rfl⟩ | exact Or.inl rfl) (by exact ⟨rfl, rfl⟩)
    · try simp (disch := omega) only [nI_bit0, nI_bit1, Bool.not_eq_false, Bool.not_eq_true] at c_6
      try simp (disch := omega) only [i_lt, i_le, i_eq, l_lt, l_le, l_eq, i_0, i_m1, l_0, nI_tI, iI_tI, lI_tI, Int.not_lt, Int.not_le] at c_6
      exfalso; omega
