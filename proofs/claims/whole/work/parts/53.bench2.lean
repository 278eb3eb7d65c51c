/-! the class: an offer at its number -/
/-- behind offerAt: the offer there, its choices as they are now -/
def OAQ (X : Nat → Prop) (w0 : Nat) (h : ev_H) (a0 : Nat) (σ : Sg) (ns ws lr j i : Nat) (v : Option Value) (h' : ev_H) : Prop := ∃ A C cp ln, v = some (.ref (A (tO i))) ∧ FX X h h' ∧ A 0 = a0 ∧ PS X w0 h' A C σ ns ws cp ln lr j ∧ OfN A C σ ns ws i (cp i) (ln i)
theorem unB_iff : ∀ k, k < 4 → ∀ j, j < 4 → (unB k j = true ↔ (j = 0 ∨ k = j ∨ k = 3 ∧ j = 1)) := by decide
theorem c_X11_offerAt_y {B : ev_B} {d i a0 w0 j : Nat} {X : Nat → Prop} {h : ev_H} {A : Nat → Nat} {C : Nat → Option ev_E} {σ : Sg} {ns ws : Nat} {cp ln : Nat → Nat} {lr : Nat} (p : PS X w0 h A C σ ns ws cp ln lr j) (ha : A 0 = a0) (hW : Wf σ) (ho : i < σ.n) (hd : 34 ≤ d) :
    Wp B d M_X11_offerAt 0 [some (.ref a0), some (.int (nI i)), none] [] h (OAQ X w0 h a0 σ ns ws lr j i) := by
  have hn10 := hW.n
  have ti := nI_tI (n := i) (by omega)
  have hOw := hW.of i ho
  have hcn := p.cnt
  have hO := ciO_is (σ.O i).k
  have htO : tO i = 30 + 10 * i := rfl
  obtain ⟨Vb, hVb, b0, b1, b2, b3, b4, b5, b6, b7⟩ := id p.ben
  obtain ⟨q, hq, hqi⟩ := id p.ofa
  obtain ⟨V, cs, bs, Nl, l, nb, rb, hV, hOV, -⟩ := id (p.of i ho)
  refine Wp.iload_n dX11_offerAt_0 rfl rfl ?_
  refine Wp.if_lt (tgt := 12) (n := 4) dX11_offerAt_1 (by decide) rfl (fun c_1 => ?_) (fun c_1 => ?_)
  · try simp (disch := omega) only [nI_bit0, nI_bit1, Bool.not_eq_false, Bool.not_eq_true] at c_1
    try simp (disch := omega) only [i_lt, i_le, i_eq, l_lt, l_le, l_eq, i_0, i_m1, l_0, nI_tI, iI_tI, lI_tI, Int.not_lt, Int.not_le] at c_1
    omega
  · try simp (disch := omega) only [nI_bit0, nI_bit1, Bool.not_eq_false, Bool.not_eq_true] at c_1
    try simp (disch := omega) only [i_lt, i_le, i_eq, l_lt, l_le, l_eq, i_0, i_m1, l_0, nI_tI, iI_tI, lI_tI, Int.not_lt, Int.not_le] at c_1
    refine Wp.iload_n dX11_offerAt_4 rfl rfl ?_
    refine Wp.aload_n dX11_offerAt_5 rfl (by first | exact Or.inr ⟨_, rfl⟩ | exact Or.inl rfl) rfl ?_
    refine Wp.get dX11_offerAt_6 fl_X11_100 (p.S.at' hVb ha) b2 rfl ?_
    refine Wp.icmp_lt (tgt := 14) (n := 12) dX11_offerAt_9 (by decide) rfl (fun c_9 => ?_) (fun c_9 => ?_)
    · try simp (disch := omega) only [nI_bit0, nI_bit1, Bool.not_eq_false, Bool.not_eq_true] at c_9
      try simp (disch := omega) only [i_lt, i_le, i_eq, l_lt, l_le, l_eq, i_0, i_m1, l_0, nI_tI, iI_tI, lI_tI, Int.not_lt, Int.not_le] at c_9
      refine Wp.aload_n dX11_offerAt_14 rfl (by first | exact Or.inr ⟨_, rfl⟩ | exact Or.inl rfl) rfl ?_
      refine Wp.get dX11_offerAt_15 fl_X11_18 (p.S.at' hVb ha) b1 rfl ?_
      refine Wp.iload_n dX11_offerAt_18 rfl rfl ?_
      refine Wp.aaload dX11_offerAt_19 (Or.inl rfl) (p.S.at hq) (nI_toInt (by omega)) (by omega) (show va_rf (q i) = .ref (A (tO i)) by rw [hqi i ho]; rfl) rfl ?_
      refine Wp.astore_n dX11_offerAt_20 (by first | exact Or.inr ⟨_, rfl⟩ | exact Or.inl rfl) (Nat.le_of_ble_eq_true rfl) (by dsimp only [ev_st1, ev_cl] <;> rfl) rfl ?_
      refine Wp.aload_n dX11_offerAt_21 rfl (by first | exact Or.inr ⟨_, rfl⟩ | exact Or.inl rfl) rfl ?_
      refine Wp.ifnull (n := 25) dX11_offerAt_22 rfl ?_
      refine Wp.aload_n dX11_offerAt_25 rfl (by first | exact Or.inr ⟨_, rfl⟩ | exact Or.inl rfl) rfl ?_
      refine Wp.aload_n dX11_offerAt_26 rfl (by first | exact Or.inr ⟨_, rfl⟩ | exact Or.inl rfl) rfl ?_
      refine Wp.get dX11_offerAt_27 fl_X11_10 (p.S.at' hVb ha) b0 rfl ?_
      refine Wp.cU dX11_offerAt_30 (cu_X11_164 hO) rfl (by omega) rfl (Nat.le_of_ble_eq_true rfl) (Nat.le_of_ble_eq_true rfl) (p.S.at hV) rfl (c_X3_renewChoices (d := d - 1) hW p.S p.net (by omega) (p.of i ho) hOw (by omega)) ?_
      rintro _ h1 ⟨rfl, A1, C1, cap1, len1, S1, o1, l1, l2, a1, f1, on1⟩
      dsimp only [Option.toList, List.drop, List.cons_append, List.nil_append]
      refine Wp.aload_n dX11_offerAt_33 rfl (by first | exact Or.inr ⟨_, rfl⟩ | exact Or.inl rfl) rfl ?_
      exact Wp.aret dX11_offerAt_34 rfl (Or.inl ⟨_, rfl⟩) (by first | exact Or.inr ⟨_, rfl⟩ | exact Or.inl rfl) (by
        refine ⟨A1, C1, updN cp i cap1, updN ln i len1, by rw [a1 (tO i) (by omega)], o1.fx, (a1 0 (by omega)).trans ha, p.offer ho S1 o1 l1 l2 a1 f1 on1.S, ?_⟩
        simp only [updN, if_true]
        exact on1)
    · try simp (disch := omega) only [nI_bit0, nI_bit1, Bool.not_eq_false, Bool.not_eq_true] at c_9
      try simp (disch := omega) only [i_lt, i_le, i_eq, l_lt, l_le, l_eq, i_0, i_m1, l_0, nI_tI, iI_tI, lI_tI, Int.not_lt, Int.not_le] at c_9
      omega
theorem c_X11_offerAt_n {B : ev_B} {d a0 w0 j : Nat} {X : Nat → Prop} {h : ev_H} {A : Nat → Nat} {C : Nat → Option ev_E} {σ : Sg} {ns ws : Nat} {cp ln : Nat → Nat} {lr : Nat} {o : Int32} (p : PS X w0 h A C σ ns ws cp ln lr j) (ha : A 0 = a0) (hW : Wf σ) (ho : ¬ (0 ≤ o.toInt ∧ o.toInt < σ.n)) :
    Wp B d M_X11_offerAt 0 [some (.ref a0), some (.int o), none] [] h (fun v h' => v = some .null ∧ h' = h) := by
  have hn10 := hW.n
  obtain ⟨Vb, hVb, b0, b1, b2, b3, b4, b5, b6, b7⟩ := id p.ben
  refine Wp.iload_n dX11_offerAt_0 rfl rfl ?_
  refine Wp.if_lt (tgt := 12) (n := 4) dX11_offerAt_1 (by decide) rfl (fun c_1 => ?_) (fun c_1 => ?_)
  · try simp (disch := omega) only [nI_bit0, nI_bit1, Bool.not_eq_false, Bool.not_eq_true] at c_1
    try simp (disch := omega) only [i_lt, i_le, i_eq, l_lt, l_le, l_eq, i_0, i_m1, l_0, nI_tI, iI_tI, lI_tI, Int.not_lt, Int.not_le] at c_1
    refine Wp.aconst_null dX11_offerAt_12 rfl ?_
    exact Wp.aret dX11_offerAt_13 rfl (Or.inl ⟨_, rfl⟩) (by first | exact Or.inr ⟨_, rfl⟩ | exact Or.inl rfl) (by exact ⟨rfl, rfl⟩)
  · try simp (disch := omega) only [nI_bit0, nI_bit1, Bool.not_eq_false, Bool.not_eq_true] at c_1
    try simp (disch := omega) only [i_lt, i_le, i_eq, l_lt, l_le, l_eq, i_0, i_m1, l_0, nI_tI, iI_tI, lI_tI, Int.not_lt, Int.not_le] at c_1
    refine Wp.iload_n dX11_offerAt_4 rfl rfl ?_
    refine Wp.aload_n dX11_offerAt_5 rfl (by first | exact Or.inr ⟨_, rfl⟩ | exact Or.inl rfl) rfl ?_
    refine Wp.get dX11_offerAt_6 fl_X11_100 (p.S.at' hVb ha) b2 rfl ?_
    refine Wp.icmp_lt (tgt := 14) (n := 12) dX11_offerAt_9 (by decide) rfl (fun c_9 => ?_) (fun c_9 => ?_)
    · try simp (disch := omega) only [nI_bit0, nI_bit1, Bool.not_eq_false, Bool.not_eq_true] at c_9
      try simp (disch := omega) only [i_lt, i_le, i_eq, l_lt, l_le, l_eq, i_0, i_m1, l_0, nI_tI, iI_tI, lI_tI, Int.not_lt, Int.not_le] at c_9
      omega
    · try simp (disch := omega) only [nI_bit0, nI_bit1, Bool.not_eq_false, Bool.not_eq_true] at c_9
      try simp (disch := omega) only [i_lt, i_le, i_eq, l_lt, l_le, l_eq, i_0, i_m1, l_0, nI_tI, iI_tI, lI_tI, Int.not_lt, Int.not_le] at c_9
      refine Wp.aconst_null dX11_offerAt_12 rfl ?_
      exact Wp.aret dX11_offerAt_13 rfl (Or.inl ⟨_, rfl⟩) (by first | exact Or.inr ⟨_, rfl⟩ | exact Or.inl rfl) (by exact ⟨rfl, rfl⟩)
set_option maxHeartbeats 1000000 in
theorem c_X11_choice {B : ev_B} {d a0 w0 j : Nat} {X : Nat → Prop} {h : ev_H} {σ : Sg} {o u : Int32} (hp : PSx X w0 h a0 σ j) (hW : Wf σ) (hj : j + 1 ≤ 600) (hd : 35 ≤ d) :
    Wp B d M_X11_choice 0 [some (.ref a0), some (.int (o)), some (.int (u)), none] [] h (CQ X w0 h a0 (σ) j (.int (a_choice σ o u))) := by
  obtain ⟨A, C, ns, ws, cp, ln, lr, pS, ha⟩ := hp
  obtain ⟨Vb, hVb, b0, b1, b2, b3, b4, b5, b6, b7⟩ := id pS.ben
  have hcn := pS.cnt
  have hn10 := hW.n
  by_cases hio : 0 ≤ o.toInt ∧ o.toInt < σ.n
  · obtain ⟨i, rfl, ho, ho2⟩ := as_nI hio
    have ti := nI_tI ho2
    have hOw := hW.of i ho
    refine Wp.aload_n dX11_choice_0 rfl (by first | exact Or.inr ⟨_, rfl⟩ | exact Or.inl rfl) rfl ?_
    refine Wp.iload_n dX11_choice_1 rfl rfl ?_
    refine Wp.cV dX11_choice_2 cv_X11_112 rfl (by omega) rfl (Nat.le_of_ble_eq_true rfl) (Nat.le_of_ble_eq_true rfl) (pS.S.at' hVb ha) rfl (c_X11_offerAt_y (d := d - 1) pS ha hW ho (by omega)) ?_
    rintro _ h1 ⟨A1, C1, cp1, ln1, rfl, x1, ha1, p1, on1⟩
    dsimp only [Option.toList, List.drop, List.cons_append, List.nil_append]
    obtain ⟨Vd, hVd, d0_, d1_, d2_, d3_, d4_, d5_, d6_, d7_⟩ := id p1.ben
    obtain ⟨Vo, bso, nbo, rbo, hVo, hOV, vo4, vo5, hch, hcap, hrow, hnb, hlen, hbs, hbok⟩ := id on1
    obtain ⟨ov0, ov1, ov2, ov3, ov5, ov6, ov7⟩ := id hOV
    obtain ⟨Vc, gc0, gc1, gc2, hVc, vc0, vc1, vc2, vc3, kc0, kc1, kc2, hlc, h8c, hgc⟩ := id hch
    have hO := ciO_is (σ.O i).k
    have hchn := chn_le σ i
    have hPrB := PrB_ch hW i
    change Vc 3 = .int (nI (chn σ i)) at vc3
    have hlc' : chn σ i ≤ cp1 i := hlc
    have hH := on1.H p1.S
    refine Wp.astore_n dX11_choice_5 (by first | exact Or.inr ⟨_, rfl⟩ | exact Or.inl rfl) (Nat.le_of_ble_eq_true rfl) (by dsimp only [ev_st1, ev_cl] <;> rfl) rfl ?_
    refine Wp.aload_n dX11_choice_6 rfl (by first | exact Or.inr ⟨_, rfl⟩ | exact Or.inl rfl) rfl ?_
    refine Wp.ifnonnull (n := 13) dX11_choice_7 (by decide) ?_
    refine Wp.iload_n dX11_choice_13 rfl rfl ?_
    refine Wp.if_lt (tgt := 40) (n := 17) dX11_choice_14 (by decide) rfl (fun c_14 => ?_) (fun c_14 => ?_)
    · try simp (disch := omega) only [nI_bit0, nI_bit1, Bool.not_eq_false, Bool.not_eq_true] at c_14
      try simp (disch := omega) only [i_lt, i_le, i_eq, l_lt, l_le, l_eq, i_0, i_m1, l_0, nI_tI, iI_tI, lI_tI, Int.not_lt, Int.not_le] at c_14
      refine Wp.iconst (v := (-1)) dX11_choice_40 (by decide) rfl ?_
      exact Wp.iret dX11_choice_41 rfl (by refine ⟨?_, x1, A1, C1, ns, ws, cp1, ln1, lr, p1.up hj, ha1⟩; simp (disch := omega) only [a_choice, isO, nI_tI, tn_nI]; (repeat' split) <;> first | (exfalso; omega) | rfl)
    · try simp (disch := omega) only [nI_bit0, nI_bit1, Bool.not_eq_false, Bool.not_eq_true] at c_14
      try simp (disch := omega) only [i_lt, i_le, i_eq, l_lt, l_le, l_eq, i_0, i_m1, l_0, nI_tI, iI_tI, lI_tI, Int.not_lt, Int.not_le] at c_14
      refine Wp.iload_n dX11_choice_17 rfl rfl ?_
      refine Wp.aload_n dX11_choice_18 rfl (by first | exact Or.inr ⟨_, rfl⟩ | exact Or.inl rfl) rfl ?_
      refine Wp.get dX11_choice_19 (fl_X11_138 hO) (p1.S.at hVo) ov2 rfl ?_
      refine Wp.get dX11_choice_22 fl_X11_142 (p1.S.at hVc) vc3 rfl ?_
      refine Wp.icmp_ge (tgt := 40) (n := 28) dX11_choice_25 (by decide) rfl (fun c_25 => ?_) (fun c_25 => ?_)
      · try simp (disch := omega) only [nI_bit0, nI_bit1, Bool.not_eq_false, Bool.not_eq_true] at c_25
        try simp (disch := omega) only [i_lt, i_le, i_eq, l_lt, l_le, l_eq, i_0, i_m1, l_0, nI_tI, iI_tI, lI_tI, Int.not_lt, Int.not_le] at c_25
        refine Wp.iconst (v := (-1)) dX11_choice_40 (by decide) rfl ?_
        exact Wp.iret dX11_choice_41 rfl (by refine ⟨?_, x1, A1, C1, ns, ws, cp1, ln1, lr, p1.up hj, ha1⟩; simp (disch := omega) only [a_choice, isO, nI_tI, tn_nI]; (repeat' split) <;> first | (exfalso; omega) | rfl)
      · try simp (disch := omega) only [nI_bit0, nI_bit1, Bool.not_eq_false, Bool.not_eq_true] at c_25
        try simp (disch := omega) only [i_lt, i_le, i_eq, l_lt, l_le, l_eq, i_0, i_m1, l_0, nI_tI, iI_tI, lI_tI, Int.not_lt, Int.not_le] at c_25
        obtain ⟨k, rfl, hk, hk2⟩ := as_nI (show 0 ≤ u.toInt ∧ u.toInt < chn σ i by omega)
        have tk := nI_tI hk2
        refine Wp.aload_n dX11_choice_28 rfl (by first | exact Or.inr ⟨_, rfl⟩ | exact Or.inl rfl) rfl ?_
        refine Wp.get dX11_choice_29 (fl_X11_138 hO) (p1.S.at hVo) ov2 rfl ?_
        refine Wp.get dX11_choice_32 fl_X11_157 (p1.S.at hVc) vc0 rfl ?_
        refine Wp.iload_n dX11_choice_35 rfl rfl ?_
        refine Wp.iaload dX11_choice_36 (p1.S.at kc0) (nI_toInt (by omega)) (by omega) rfl ?_
        rw [(hgc k hk).1]
        rw [show (chL σ.N (σ.O i)).getD k 0 = chC σ i k from rfl]
        refine Wp.goto (n := 41) dX11_choice_37 (by decide) ?_
        exact Wp.iret dX11_choice_41 rfl (by refine ⟨?_, x1, A1, C1, ns, ws, cp1, ln1, lr, p1.up hj, ha1⟩; simp (disch := omega) only [a_choice, isO, nI_tI, tn_nI]; (repeat' split) <;> first | (exfalso; omega) | rfl)
  · refine Wp.aload_n dX11_choice_0 rfl (by first | exact Or.inr ⟨_, rfl⟩ | exact Or.inl rfl) rfl ?_
    refine Wp.iload_n dX11_choice_1 rfl rfl ?_
    refine Wp.cV dX11_choice_2 cv_X11_112 rfl (by omega) rfl (Nat.le_of_ble_eq_true rfl) (Nat.le_of_ble_eq_true rfl) (pS.S.at' hVb ha) rfl (c_X11_offerAt_n (d := d - 1) pS ha hW hio) ?_
    rintro _ h1 ⟨rfl, e1_⟩
    rw [e1_]
    clear e1_ h1
    dsimp only [Option.toList, List.drop, List.cons_append, List.nil_append]
    refine Wp.astore_n dX11_choice_5 (by first | exact Or.inr ⟨_, rfl⟩ | exact Or.inl rfl) (Nat.le_of_ble_eq_true rfl) (by dsimp only [ev_st1, ev_cl] <;> rfl) rfl ?_
    refine Wp.aload_n dX11_choice_6 rfl (by first | exact Or.inr ⟨_, rfl⟩ | exact Or.inl rfl) rfl ?_
    refine Wp.ifnonnullN (n := 10) dX11_choice_7 rfl ?_
    refine Wp.bipush (v := (-2)) dX11_choice_10 (by decide) rfl ?_
    exact Wp.iret dX11_choice_12 rfl (by refine ⟨?_, FX.rfl, A, C, ns, ws, cp, ln, lr, pS.up hj, ha⟩; simp (disch := omega) only [a_choice, isO, nI_tI, tn_nI]; (repeat' split) <;> first | (exfalso; omega) | rfl)
set_option maxHeartbeats 1000000 in
theorem c_X11_taken {B : ev_B} {d a0 w0 j : Nat} {X : Nat → Prop} {h : ev_H} {σ : Sg} {o k : Int32} (hp : PSx X w0 h a0 σ j) (hW : Wf σ) (hj : j + 1 ≤ 600) (hd : 35 ≤ d) (hsta : ev_sta B) :
    Wp B d M_X11_taken 0 [some (.ref a0), some (.int (o)), some (.int (k)), none] [] h (CQ X w0 h a0 (σ) j (.int (a_taken σ o k))) := by
  obtain ⟨A, C, ns, ws, cp, ln, lr, pS, ha⟩ := hp
  obtain ⟨Vb, hVb, b0, b1, b2, b3, b4, b5, b6, b7⟩ := id pS.ben
  have hcn := pS.cnt
  have hn10 := hW.n
  refine Wp.iload_n dX11_taken_0 rfl rfl ?_
  refine Wp.if_lt (tgt := 9) (n := 4) dX11_taken_1 (by decide) rfl (fun c_1 => ?_) (fun c_1 => ?_)
  · try simp (disch := omega) only [nI_bit0, nI_bit1, Bool.not_eq_false, Bool.not_eq_true] at c_1
    try simp (disch := omega) only [i_lt, i_le, i_eq, l_lt, l_le, l_eq, i_0, i_m1, l_0, nI_tI, iI_tI, lI_tI, Int.not_lt, Int.not_le] at c_1
    refine Wp.bipush (v := (-2)) dX11_taken_9 (by decide) rfl ?_
    exact Wp.iret dX11_taken_11 rfl (by refine ⟨?_, FX.rfl, A, C, ns, ws, cp, ln, lr, pS.up hj, ha⟩; simp (disch := omega) only [a_taken, isO, nI_tI, tn_nI]; (repeat' split) <;> first | (exfalso; omega) | rfl)
  · try simp (disch := omega) only [nI_bit0, nI_bit1, Bool.not_eq_false, Bool.not_eq_true] at c_1
    try simp (disch := omega) only [i_lt, i_le, i_eq, l_lt, l_le, l_eq, i_0, i_m1, l_0, nI_tI, iI_tI, lI_tI, Int.not_lt, Int.not_le] at c_1
    refine Wp.iload_n dX11_taken_4 rfl rfl ?_
    refine Wp.iconst (v := (nI 3)) dX11_taken_5 (by decide) rfl ?_
    refine Wp.icmp_le (tgt := 12) (n := 9) dX11_taken_6 (by decide) rfl (fun c_6 => ?_) (fun c_6 => ?_)
    · try simp (disch := omega) only [nI_bit0, nI_bit1, Bool.not_eq_false, Bool.not_eq_true] at c_6
      try simp (disch := omega) only [i_lt, i_le, i_eq, l_lt, l_le, l_eq, i_0, i_m1, l_0, nI_tI, iI_tI, lI_tI, Int.not_lt, Int.not_le] at c_6
      by_cases hio : 0 ≤ o.toInt ∧ o.toInt < σ.n
      · obtain ⟨i, rfl, ho, ho2⟩ := as_nI hio
        have ti := nI_tI ho2
        have hOw := hW.of i ho
        refine Wp.aload_n dX11_taken_12 rfl (by first | exact Or.inr ⟨_, rfl⟩ | exact Or.inl rfl) rfl ?_
        refine Wp.iload_n dX11_taken_13 rfl rfl ?_
        refine Wp.cV dX11_taken_14 cv_X11_112 rfl (by omega) rfl (Nat.le_of_ble_eq_true rfl) (Nat.le_of_ble_eq_true rfl) (pS.S.at' hVb ha) rfl (c_X11_offerAt_y (d := d - 1) pS ha hW ho (by omega)) ?_
        rintro _ h1 ⟨A1, C1, cp1, ln1, rfl, x1, ha1, p1, on1⟩
        dsimp only [Option.toList, List.drop, List.cons_append, List.nil_append]
        obtain ⟨Vd, hVd, d0_, d1_, d2_, d3_, d4_, d5_, d6_, d7_⟩ := id p1.ben
        obtain ⟨Vo, bso, nbo, rbo, hVo, hOV, vo4, vo5, hch, hcap, hrow, hnb, hlen, hbs, hbok⟩ := id on1
        obtain ⟨ov0, ov1, ov2, ov3, ov5, ov6, ov7⟩ := id hOV
        obtain ⟨Vc, gc0, gc1, gc2, hVc, vc0, vc1, vc2, vc3, kc0, kc1, kc2, hlc, h8c, hgc⟩ := id hch
        have hO := ciO_is (σ.O i).k
        have hchn := chn_le σ i
        have hPrB := PrB_ch hW i
        change Vc 3 = .int (nI (chn σ i)) at vc3
        have hlc' : chn σ i ≤ cp1 i := hlc
        have hH := on1.H p1.S
        refine Wp.astore_n dX11_taken_17 (by first | exact Or.inr ⟨_, rfl⟩ | exact Or.inl rfl) (Nat.le_of_ble_eq_true rfl) (by dsimp only [ev_st1, ev_cl] <;> rfl) rfl ?_
        refine Wp.aload_n dX11_taken_18 rfl (by first | exact Or.inr ⟨_, rfl⟩ | exact Or.inl rfl) rfl ?_
        refine Wp.ifnonnull (n := 25) dX11_taken_19 (by decide) ?_
        obtain ⟨u, rfl, hu, hu2⟩ := as_nI (o := k) (n := 4) (by omega)
        have tu := nI_tI hu2
        have hok := hOw.k
        refine Wp.aload_n dX11_taken_25 rfl (by first | exact Or.inr ⟨_, rfl⟩ | exact Or.inl rfl) rfl ?_
        refine Wp.get dX11_taken_26 (fl_X11_135 hO) (p1.S.at hVo) ov1 rfl ?_
        refine Wp.iload_n dX11_taken_29 rfl rfl ?_
        refine Wp.cS dX11_taken_30 cs_X11_161 rfl (by omega) rfl (Nat.le_of_ble_eq_true rfl) (Nat.le_of_ble_eq_true rfl) rfl (c_X0_isUnder (d := d - 1) hsta (by omega) (by omega) (by omega)) ?_
        rintro _ h_ ⟨rfl, e_⟩
        rw [e_]
        clear e_ h_
        dsimp only [Option.toList, List.drop, List.cons_append, List.nil_append]
        refine Wp.bif_eq (tgt := 46) (n := 36) dX11_taken_33 (by decide) rfl (fun c_33 => ?_) (fun c_33 => ?_)
        · have hun := unB_iff (σ.O i).k (by omega) u (by omega)
          rw [c_33] at hun
          have hun : ¬ (u = 0 ∨ (σ.O i).k = u ∨ (σ.O i).k = 3 ∧ u = 1) := fun z => Bool.noConfusion (hun.mpr z)
          refine Wp.bipush (v := (-13)) dX11_taken_46 (by decide) rfl ?_
          exact Wp.iret dX11_taken_48 rfl (by refine ⟨?_, x1, A1, C1, ns, ws, cp1, ln1, lr, p1.up hj, ha1⟩; simp (disch := omega) only [a_taken, isO, nI_tI, tn_nI]; (repeat' split) <;> first | (exfalso; omega) | rfl)
        · have hun := (unB_iff (σ.O i).k (by omega) u (by omega)).mp c_33
          refine Wp.aload_n dX11_taken_36 rfl (by first | exact Or.inr ⟨_, rfl⟩ | exact Or.inl rfl) rfl ?_
          refine Wp.get dX11_taken_37 (fl_X11_138 hO) (p1.S.at hVo) ov2 rfl ?_
          refine Wp.get dX11_taken_40 fl_X11_142 (p1.S.at hVc) vc3 rfl ?_
          refine Wp.goto (n := 48) dX11_taken_43 (by decide) ?_
          exact Wp.iret dX11_taken_48 rfl (by refine ⟨?_, x1, A1, C1, ns, ws, cp1, ln1, lr, p1.up hj, ha1⟩; simp (disch := omega) only [a_taken, isO, nI_tI, tn_nI]; (repeat' split) <;> first | (exfalso; omega) | rfl)
      · refine Wp.aload_n dX11_taken_12 rfl (by first | exact Or.inr ⟨_, rfl⟩ | exact Or.inl rfl) rfl ?_
        refine Wp.iload_n dX11_taken_13 rfl rfl ?_
        refine Wp.cV dX11_taken_14 cv_X11_112 rfl (by omega) rfl (Nat.le_of_ble_eq_true rfl) (Nat.le_of_ble_eq_true rfl) (pS.S.at' hVb ha) rfl (c_X11_offerAt_n (d := d - 1) pS ha hW hio) ?_
        rintro _ h1 ⟨rfl, e1_⟩
        rw [e1_]
        clear e1_ h1
        dsimp only [Option.toList, List.drop, List.cons_append, List.nil_append]
        refine Wp.astore_n dX11_taken_17 (by first | exact Or.inr ⟨_, rfl⟩ | exact Or.inl rfl) (Nat.le_of_ble_eq_true rfl) (by dsimp only [ev_st1, ev_cl] <;> rfl) rfl ?_
        refine Wp.aload_n dX11_taken_18 rfl (by first | exact Or.inr ⟨_, rfl⟩ | exact Or.inl rfl) rfl ?_
        refine Wp.ifnonnullN (n := 22) dX11_taken_19 rfl ?_
        refine Wp.bipush (v := (-11)) dX11_taken_22 (by decide) rfl ?_
        exact Wp.iret dX11_taken_24 rfl (by refine ⟨?_, FX.rfl, A, C, ns, ws, cp, ln, lr, pS.up hj, ha⟩; simp (disch := omega) only [a_taken, isO, nI_tI, tn_nI]; (repeat' split) <;> first | (exfalso; omega) | rfl)
    · try simp (disch := omega) only [nI_bit0, nI_bit1, Bool.not_eq_false, Bool.not_eq_true] at c_6
      try simp (disch := omega) only [i_lt, i_le, i_eq, l_lt, l_le, l_eq, i_0, i_m1, l_0, nI_tI, iI_tI, lI_tI, Int.not_lt, Int.not_le] at c_6
      refine Wp.bipush (v := (-2)) dX11_taken_9 (by decide) rfl ?_
      exact Wp.iret dX11_taken_11 rfl (by refine ⟨?_, FX.rfl, A, C, ns, ws, cp, ln, lr, pS.up hj, ha⟩; simp (disch := omega) only [a_taken, isO, nI_tI, tn_nI]; (repeat' split) <;> first | (exfalso; omega) | rfl)
