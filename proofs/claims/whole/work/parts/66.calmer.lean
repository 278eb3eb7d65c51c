/-! the class: which of two choices is calmer -/
def rgC (σ : Sg) (i c : Nat) : Int × Int := rg2 (chS σ i) (chR σ i) (chn σ i) c σ.p1 σ.q1 σ.p2 σ.q2
def calB (σ : Sg) (i x y : Nat) : Bool := decide ((rgC σ i x).1 * (rgC σ i y).2 < (rgC σ i y).1 * (rgC σ i x).2 ∨ ¬ ((rgC σ i y).1 * (rgC σ i x).2 < (rgC σ i x).1 * (rgC σ i y).2) ∧ x < y)
set_option maxHeartbeats 1000000 in
theorem c_X11_isCalmer {B : ev_B} {d i x y a0 w0 j : Nat} {X : Nat → Prop} {h : ev_H} {A : Nat → Nat} {C : Nat → Option ev_E} {σ : Sg} {ns ws : Nat} {cp ln : Nat → Nat} {lr : Nat} (pS : PS X w0 h A C σ ns ws cp ln lr j) (ha : A 0 = a0) (hW : Wf σ) {cap len : Nat} (on : OfN A C σ ns ws i cap len) (hx : x < chn σ i) (hy : y < chn σ i) (hd : 5 ≤ d) :
    Wp B d M_X11_isCalmer 0 [some (.ref a0), some (.ref (A (tO i + 1))), some (.int (nI x)), some (.int (nI y)), none, none, none, none] [] h (fun v h' => v = some (.int (bI (calB σ i x y))) ∧ ∃ C', CS X h' A C' ∧ CG X h h' 0 ∧ (∀ t, t ≠ 13 → C' t = C t) ∧ FoS C') := by
  have hB := PrB_ch hW i
  have hn4 := chn_le σ i
  have htO : tO i = 30 + 10 * i := rfl
  have r1 : 0 ≤ (rgC σ i x).1 ∧ (rgC σ i x).1 ≤ 28800000 ∧ 0 < (rgC σ i x).2 ∧ (rgC σ i x).2 ≤ 1000 := rg2_b hB hx hW.w1 hW.w2
  have r2 : 0 ≤ (rgC σ i y).1 ∧ (rgC σ i y).1 ≤ 28800000 ∧ 0 < (rgC σ i y).2 ∧ (rgC σ i y).2 ≤ 1000 := rg2_b hB hy hW.w1 hW.w2
  have m1 := mulb (a := (rgC σ i x).1) (b := (rgC σ i y).2) (A := 28800000) (C := 1000) (by omega) (by omega)
  have m2 := mulb (a := (rgC σ i y).1) (b := (rgC σ i x).2) (A := 28800000) (C := 1000) (by omega) (by omega)
  obtain ⟨Vb, hVb, b0, b1, b2, b3, b4, b5, b6, b7⟩ := id pS.ben
  obtain ⟨Vw, hVw, -⟩ := id pS.win
  obtain ⟨zf, hzf⟩ := id pS.fo
  obtain ⟨Vo, bso, nbo, rbo, hVo, hOV, vo4, vo5, hch, -⟩ := id on
  obtain ⟨Vc, gc0, gc1, gc2, hVc, -⟩ := id hch
  refine Wp.aload_n dX11_isCalmer_0 rfl (by first | exact Or.inr ⟨_, rfl⟩ | exact Or.inl rfl) rfl ?_
  refine Wp.iload_n dX11_isCalmer_1 rfl rfl ?_
  refine Wp.aload_n dX11_isCalmer_2 rfl (by first | exact Or.inr ⟨_, rfl⟩ | exact Or.inl rfl) rfl ?_
  refine Wp.get dX11_isCalmer_3 fl_X11_25 (pS.S.at' hVb ha) b3 rfl ?_
  refine Wp.aload_n dX11_isCalmer_6 rfl (by first | exact Or.inr ⟨_, rfl⟩ | exact Or.inl rfl) rfl ?_
  refine Wp.get dX11_isCalmer_7 fl_X11_49 (pS.S.at' hVb ha) b7 rfl ?_
  refine Wp.cV dX11_isCalmer_10 cv_X11_233 rfl (by omega) rfl (Nat.le_of_ble_eq_true rfl) (Nat.le_of_ble_eq_true rfl) (pS.S.at hVc) rfl (c_X1_findRegret (d := d - 1) (on.H pS.S) hB (pS.win.H pS.S) hW.w1 hW.w2 (pS.S.at hzf) (pS.S.ne hVw hzf (by decide)) hy (by omega)) ?_
  rintro _ h2 ⟨rfl, z2, e2_, y1, y2⟩
  rw [e2_]
  refine pS.S.set hzf ?_
  intro h3 C3 S3 o3 e3 f3
  have p3 := pS.fnd S3 o3 f3 ⟨_, e3⟩
  have y1 : z2 0 = lI (rgC σ i y).1 := y1
  have y2 : z2 1 = lI (rgC σ i y).2 := y2
  dsimp only [Option.toList, List.drop, List.cons_append, List.nil_append]
  refine Wp.aload_n dX11_isCalmer_13 rfl (by first | exact Or.inr ⟨_, rfl⟩ | exact Or.inl rfl) rfl ?_
  refine Wp.get dX11_isCalmer_14 fl_X11_49 (S3.at' ((f3 0 (by decide)).trans hVb) ha) b7 rfl ?_
  refine Wp.iconst (v := (nI 0)) dX11_isCalmer_17 (by decide) rfl ?_
  refine Wp.laload dX11_isCalmer_18 (S3.at e3) (nI_toInt (n := 0) (by decide)) (by decide) rfl ?_
  rw [y1]
  refine Wp.lstore dX11_isCalmer_19 (Nat.le_of_ble_eq_true rfl) (by dsimp only [ev_st1, ev_st2, ev_cl] <;> rfl) rfl ?_
  refine Wp.aload_n dX11_isCalmer_21 rfl (by first | exact Or.inr ⟨_, rfl⟩ | exact Or.inl rfl) rfl ?_
  refine Wp.get dX11_isCalmer_22 fl_X11_49 (S3.at' ((f3 0 (by decide)).trans hVb) ha) b7 rfl ?_
  refine Wp.iconst (v := (nI 1)) dX11_isCalmer_25 (by decide) rfl ?_
  refine Wp.laload dX11_isCalmer_26 (S3.at e3) (nI_toInt (n := 1) (by decide)) (by decide) rfl ?_
  rw [y2]
  refine Wp.lstore dX11_isCalmer_27 (Nat.le_of_ble_eq_true rfl) (by dsimp only [ev_st1, ev_st2, ev_cl] <;> rfl) rfl ?_
  refine Wp.aload_n dX11_isCalmer_29 rfl (by first | exact Or.inr ⟨_, rfl⟩ | exact Or.inl rfl) rfl ?_
  refine Wp.iload_n dX11_isCalmer_30 rfl rfl ?_
  refine Wp.aload_n dX11_isCalmer_31 rfl (by first | exact Or.inr ⟨_, rfl⟩ | exact Or.inl rfl) rfl ?_
  refine Wp.get dX11_isCalmer_32 fl_X11_25 (S3.at' ((f3 0 (by decide)).trans hVb) ha) b3 rfl ?_
  refine Wp.aload_n dX11_isCalmer_35 rfl (by first | exact Or.inr ⟨_, rfl⟩ | exact Or.inl rfl) rfl ?_
  refine Wp.get dX11_isCalmer_36 fl_X11_49 (S3.at' ((f3 0 (by decide)).trans hVb) ha) b7 rfl ?_
  refine Wp.cV dX11_isCalmer_39 cv_X11_233 rfl (by omega) rfl (Nat.le_of_ble_eq_true rfl) (Nat.le_of_ble_eq_true rfl) (S3.at ((f3 _ (by omega)).trans hVc)) rfl (c_X1_findRegret (d := d - 1) (((hch.same (fun t q1 q2 => f3 t (by omega)) (fun _ _ _ => rfl)).H S3)) hB (p3.win.H S3) hW.w1 hW.w2 (S3.at e3) (S3.ne ((f3 7 (by decide)).trans hVw) e3 (by decide)) hx (by omega)) ?_
  rintro _ h4 ⟨rfl, z4, e4_, y3, y4⟩
  rw [e4_]
  refine S3.set e3 ?_
  intro h5 C5 S5 o5 e5 f5
  have y3 : z4 0 = lI (rgC σ i x).1 := y3
  have y4 : z4 1 = lI (rgC σ i x).2 := y4
  dsimp only [Option.toList, List.drop, List.cons_append, List.nil_append]
  refine Wp.aload_n dX11_isCalmer_42 rfl (by first | exact Or.inr ⟨_, rfl⟩ | exact Or.inl rfl) rfl ?_
  refine Wp.get dX11_isCalmer_43 fl_X11_49 (S5.at' ((f5 0 (by decide)).trans ((f3 0 (by decide)).trans hVb)) ha) b7 rfl ?_
  refine Wp.iconst (v := (nI 0)) dX11_isCalmer_46 (by decide) rfl ?_
  refine Wp.laload dX11_isCalmer_47 (S5.at e5) (nI_toInt (n := 0) (by decide)) (by decide) rfl ?_
  rw [y3]
  refine Wp.aload_n dX11_isCalmer_48 rfl (by first | exact Or.inr ⟨_, rfl⟩ | exact Or.inl rfl) rfl ?_
  refine Wp.get dX11_isCalmer_49 fl_X11_49 (S5.at' ((f5 0 (by decide)).trans ((f3 0 (by decide)).trans hVb)) ha) b7 rfl ?_
  refine Wp.iconst (v := (nI 1)) dX11_isCalmer_52 (by decide) rfl ?_
  refine Wp.laload dX11_isCalmer_53 (S5.at e5) (nI_toInt (n := 1) (by decide)) (by decide) rfl ?_
  rw [y4]
  refine Wp.lload dX11_isCalmer_54 rfl rfl ?_
  refine Wp.lload dX11_isCalmer_56 rfl rfl ?_
  refine Wp.cS dX11_isCalmer_58 cs_X11_204 rfl (by omega) rfl (Nat.le_of_ble_eq_true rfl) (Nat.le_of_ble_eq_true rfl) rfl (c_X11_isLess (d := d - 1) (sm_b (by omega) (by omega)) (sm_b (by omega) (by omega))) ?_
  rintro _ h_ ⟨rfl, e_⟩
  rw [e_]
  clear e_ h_
  dsimp only [Option.toList, List.drop, List.cons_append, List.nil_append]
  refine Wp.bif_eq (tgt := 66) (n := 64) dX11_isCalmer_61 (by decide) rfl (fun c_61 => ?_) (fun c_61 => ?_)
  · try simp only [decide_eq_true_eq, decide_eq_false_iff_not, Bool.and_eq_true, bI_0, bI_n0] at c_61
    refine Wp.lload dX11_isCalmer_66 rfl rfl ?_
    refine Wp.lload dX11_isCalmer_68 rfl rfl ?_
    refine Wp.aload_n dX11_isCalmer_70 rfl (by first | exact Or.inr ⟨_, rfl⟩ | exact Or.inl rfl) rfl ?_
    refine Wp.get dX11_isCalmer_71 fl_X11_49 (S5.at' ((f5 0 (by decide)).trans ((f3 0 (by decide)).trans hVb)) ha) b7 rfl ?_
    refine Wp.iconst (v := (nI 0)) dX11_isCalmer_74 (by decide) rfl ?_
    refine Wp.laload dX11_isCalmer_75 (S5.at e5) (nI_toInt (n := 0) (by decide)) (by decide) rfl ?_
    rw [y3]
    refine Wp.aload_n dX11_isCalmer_76 rfl (by first | exact Or.inr ⟨_, rfl⟩ | exact Or.inl rfl) rfl ?_
    refine Wp.get dX11_isCalmer_77 fl_X11_49 (S5.at' ((f5 0 (by decide)).trans ((f3 0 (by decide)).trans hVb)) ha) b7 rfl ?_
    refine Wp.iconst (v := (nI 1)) dX11_isCalmer_80 (by decide) rfl ?_
    refine Wp.laload dX11_isCalmer_81 (S5.at e5) (nI_toInt (n := 1) (by decide)) (by decide) rfl ?_
    rw [y4]
    refine Wp.cS dX11_isCalmer_82 cs_X11_204 rfl (by omega) rfl (Nat.le_of_ble_eq_true rfl) (Nat.le_of_ble_eq_true rfl) rfl (c_X11_isLess (d := d - 1) (sm_b (by omega) (by omega)) (sm_b (by omega) (by omega))) ?_
    rintro _ h_ ⟨rfl, e_⟩
    rw [e_]
    clear e_ h_
    dsimp only [Option.toList, List.drop, List.cons_append, List.nil_append]
    refine Wp.bif_ne (tgt := 97) (n := 88) dX11_isCalmer_85 (by decide) rfl (fun c_85 => ?_) (fun c_85 => ?_)
    · try simp only [decide_eq_true_eq, decide_eq_false_iff_not, Bool.and_eq_true, bI_0, bI_n0] at c_85
      refine Wp.iconst (v := (nI 0)) dX11_isCalmer_97 (by decide) rfl ?_
      exact Wp.zret dX11_isCalmer_98 rfl (by decide) (by
        refine ⟨?_, C5, S5, (o3.tr o5).le (by omega), fun t z => (f5 t z).trans (f3 t z), ⟨_, e5⟩⟩
        rw [show calB σ i x y = false from decide_eq_false (by omega)]
        rfl)
    · try simp only [decide_eq_true_eq, decide_eq_false_iff_not, Bool.and_eq_true, bI_0, bI_n0] at c_85
      refine Wp.iload_n dX11_isCalmer_88 rfl rfl ?_
      refine Wp.iload_n dX11_isCalmer_89 rfl rfl ?_
      refine Wp.icmp_ge (tgt := 97) (n := 93) dX11_isCalmer_90 (by decide) rfl (fun c_90 => ?_) (fun c_90 => ?_)
      · try simp (disch := omega) only [nI_bit0, nI_bit1, Bool.not_eq_false, Bool.not_eq_true] at c_90
        try simp (disch := omega) only [i_lt, i_le, i_eq, l_lt, l_le, l_eq, i_0, i_m1, l_0, nI_tI, iI_tI, lI_tI, Int.not_lt, Int.not_le] at c_90
        refine Wp.iconst (v := (nI 0)) dX11_isCalmer_97 (by decide) rfl ?_
        exact Wp.zret dX11_isCalmer_98 rfl (by decide) (by
          refine ⟨?_, C5, S5, (o3.tr o5).le (by omega), fun t z => (f5 t z).trans (f3 t z), ⟨_, e5⟩⟩
          rw [show calB σ i x y = false from decide_eq_false (by omega)]
          rfl)
      · try simp (disch := omega) only [nI_bit0, nI_bit1, Bool.not_eq_false, Bool.not_eq_true] at c_90
        try simp (disch := omega) only [i_lt, i_le, i_eq, l_lt, l_le, l_eq, i_0, i_m1, l_0, nI_tI, iI_tI, lI_tI, Int.not_lt, Int.not_le] at c_90
        refine Wp.iconst (v := (nI 1)) dX11_isCalmer_93 (by decide) rfl ?_
        refine Wp.goto (n := 98) dX11_isCalmer_94 (by decide) ?_
        exact Wp.zret dX11_isCalmer_98 rfl (by decide) (by
          refine ⟨?_, C5, S5, (o3.tr o5).le (by omega), fun t z => (f5 t z).trans (f3 t z), ⟨_, e5⟩⟩
          rw [show calB σ i x y = true from decide_eq_true (by omega)]
          rfl)
  · try simp only [decide_eq_true_eq, decide_eq_false_iff_not, Bool.and_eq_true, bI_0, bI_n0] at c_61
    refine Wp.iconst (v := (nI 1)) dX11_isCalmer_64 (by decide) rfl ?_
    exact Wp.zret dX11_isCalmer_65 rfl (by decide) (by
      refine ⟨?_, C5, S5, (o3.tr o5).le (by omega), fun t z => (f5 t z).trans (f3 t z), ⟨_, e5⟩⟩
      rw [show calB σ i x y = true from decide_eq_true (by omega)]
      rfl)
