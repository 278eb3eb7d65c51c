/-! the class: spans, ratios, regrets; what an offer tells -/
theorem CS.ne {X : Nat → Prop} {h : ev_H} {A : Nat → Nat} {C : Nat → Option ev_E} {s t : Nat} {e e' : ev_E} (hS : CS X h A C) (hs : C s = some e) (ht : C t = some e') (hst : s ≠ t) : A s ≠ A t := fun z => hst (hS.2.1 s t (by rw [hs]; exact Option.some_ne_none _) (by rw [ht]; exact Option.some_ne_none _) z)
theorem lz {y z : Int} (w : Bool) (h : z = 0 → y = 0) : lI (low w y z) = if z = 0 then 0 else lI (low w y z) := by
  split
  · next e => rw [e, h e, low_00]; rfl
  · rfl
set_option maxHeartbeats 2000000 in
theorem c_X11_span {B : ev_B} {d a0 w0 j : Nat} {X : Nat → Prop} {h : ev_H} {σ : Sg} {o s w : Int32} (hp : PSx X w0 h a0 σ j) (hW : Wf σ) (hj : j + 1 ≤ 600) (hd : 36 ≤ d) :
    Wp B d M_X11_span 0 [some (.ref a0), some (.int (o)), some (.int (s)), some (.int (w)), none, none, none] [] h (CQ X w0 h a0 (σ) j (.long (a_span σ o s w))) := by
  obtain ⟨A, C, ns, ws, cp, ln, lr, pS, ha⟩ := hp
  obtain ⟨Vb, hVb, b0, b1, b2, b3, b4, b5, b6, b7⟩ := id pS.ben
  obtain ⟨Vw, hVw, -⟩ := id pS.win
  obtain ⟨Vq, gq, hVq, rq0, rq1, hgq, rq2, rq3⟩ := id pS.row.1
  obtain ⟨zf, hzf⟩ := id pS.fo
  have hcn := pS.cnt
  have hn10 := hW.n
  by_cases hio : 0 ≤ o.toInt ∧ o.toInt < σ.n
  · obtain ⟨i, rfl, ho, ho2⟩ := as_nI hio
    have ti := nI_tI ho2
    have hOw := hW.of i ho
    refine Wp.aload_n dX11_span_0 rfl (by first | exact Or.inr ⟨_, rfl⟩ | exact Or.inl rfl) rfl ?_
    refine Wp.iload_n dX11_span_1 rfl rfl ?_
    refine Wp.cV dX11_span_2 cv_X11_112 rfl (by omega) rfl (Nat.le_of_ble_eq_true rfl) (Nat.le_of_ble_eq_true rfl) (pS.S.at' hVb ha) rfl (c_X11_offerAt_y (d := d - 1) pS ha hW ho (by omega)) ?_
    rintro _ h1 ⟨A1, C1, cp1, ln1, rfl, x1, ha1, p1, on1⟩
    dsimp only [Option.toList, List.drop, List.cons_append, List.nil_append]
    obtain ⟨Vd, hVd, d0_, d1_, d2_, d3_, d4_, d5_, d6_, d7_⟩ := id p1.ben
    obtain ⟨Vw1, hVw1, -⟩ := id p1.win
    obtain ⟨Vq1, gq1, hVq1, rqa0, rqa1, hgq1, rqa2, rqa3⟩ := id p1.row.1
    obtain ⟨zf1, hzf1⟩ := id p1.fo
    obtain ⟨Vo, bso, nbo, rbo, hVo, hOV, vo4, vo5, hch, hcap, hrow, hnb, hlen, hbs, hbok⟩ := id on1
    obtain ⟨ov0, ov1, ov2, ov3, ov5, ov6, ov7⟩ := id hOV
    obtain ⟨Vc, gc0, gc1, gc2, hVc, vc0, vc1, vc2, vc3, kc0, kc1, kc2, hlc, h8c, hgc⟩ := id hch
    have hO := ciO_is (σ.O i).k
    have hchn := chn_le σ i
    have hPrB := PrB_ch hW i
    change Vc 3 = .int (nI (chn σ i)) at vc3
    have hlc' : chn σ i ≤ cp1 i := hlc
    have hH := on1.H p1.S
    refine Wp.astore dX11_span_5 (by first | exact Or.inr ⟨_, rfl⟩ | exact Or.inl rfl) (Nat.le_of_ble_eq_true rfl) (by dsimp only [ev_st1, ev_cl] <;> rfl) rfl ?_
    refine Wp.aload dX11_span_7 rfl (by first | exact Or.inr ⟨_, rfl⟩ | exact Or.inl rfl) rfl ?_
    refine Wp.iload_n dX11_span_9 rfl rfl ?_
    refine Wp.cS dX11_span_10 cs_X11_212 rfl (by omega) rfl (Nat.le_of_ble_eq_true rfl) (Nat.le_of_ble_eq_true rfl) rfl (c_X11_placeIn (d := d - 1) (p1.S.at hVo) hO ov2 hH hPrB (fun j _ => chC_lt σ i j) (by omega)) ?_
    rintro _ h_ ⟨rfl, e_⟩
    rw [e_]
    clear e_ h_
    dsimp only [Option.toList, List.drop, List.cons_append, List.nil_append]
    have hpl := plG_in (chC σ i) (chn σ i) s
    refine Wp.istore dX11_span_13 (Nat.le_of_ble_eq_true rfl) (by dsimp only [ev_st1, ev_st2, ev_cl] <;> rfl) rfl ?_
    refine Wp.aload dX11_span_15 rfl (by first | exact Or.inr ⟨_, rfl⟩ | exact Or.inl rfl) rfl ?_
    refine Wp.ifnull (n := 20) dX11_span_17 rfl ?_
    refine Wp.iload dX11_span_20 rfl rfl ?_
    refine Wp.if_lt (tgt := 34) (n := 25) dX11_span_22 (by decide) rfl (fun c_22 => ?_) (fun c_22 => ?_)
    · try simp (disch := omega) only [nI_bit0, nI_bit1, Bool.not_eq_false, Bool.not_eq_true] at c_22
      try simp (disch := omega) only [i_lt, i_le, i_eq, l_lt, l_le, l_eq, i_0, i_m1, l_0, nI_tI, iI_tI, lI_tI, Int.not_lt, Int.not_le] at c_22
      refine Wp.ldc2 kc_X11_177 dX11_span_34 rfl ?_
      exact Wp.lret dX11_span_37 rfl (by refine ⟨?_, x1, A1, C1, ns, ws, cp1, ln1, lr, p1.up hj, ha1⟩; simp (disch := omega) only [a_span, plc_G, isO, w01, isP, nI_tI, tn_nI]; (repeat' split) <;> first | (exfalso; omega) | rfl)
    · try simp (disch := omega) only [nI_bit0, nI_bit1, Bool.not_eq_false, Bool.not_eq_true] at c_22
      try simp (disch := omega) only [i_lt, i_le, i_eq, l_lt, l_le, l_eq, i_0, i_m1, l_0, nI_tI, iI_tI, lI_tI, Int.not_lt, Int.not_le] at c_22
      refine Wp.iload_n dX11_span_25 rfl rfl ?_
      refine Wp.if_lt (tgt := 34) (n := 29) dX11_span_26 (by decide) rfl (fun c_26 => ?_) (fun c_26 => ?_)
      · try simp (disch := omega) only [nI_bit0, nI_bit1, Bool.not_eq_false, Bool.not_eq_true] at c_26
        try simp (disch := omega) only [i_lt, i_le, i_eq, l_lt, l_le, l_eq, i_0, i_m1, l_0, nI_tI, iI_tI, lI_tI, Int.not_lt, Int.not_le] at c_26
        refine Wp.ldc2 kc_X11_177 dX11_span_34 rfl ?_
        exact Wp.lret dX11_span_37 rfl (by refine ⟨?_, x1, A1, C1, ns, ws, cp1, ln1, lr, p1.up hj, ha1⟩; simp (disch := omega) only [a_span, plc_G, isO, w01, isP, nI_tI, tn_nI]; (repeat' split) <;> first | (exfalso; omega) | rfl)
      · try simp (disch := omega) only [nI_bit0, nI_bit1, Bool.not_eq_false, Bool.not_eq_true] at c_26
        try simp (disch := omega) only [i_lt, i_le, i_eq, l_lt, l_le, l_eq, i_0, i_m1, l_0, nI_tI, iI_tI, lI_tI, Int.not_lt, Int.not_le] at c_26
        refine Wp.iload_n dX11_span_29 rfl rfl ?_
        refine Wp.iconst (v := (nI 4)) dX11_span_30 (by decide) rfl ?_
        refine Wp.icmp_le (tgt := 38) (n := 34) dX11_span_31 (by decide) rfl (fun c_31 => ?_) (fun c_31 => ?_)
        · try simp (disch := omega) only [nI_bit0, nI_bit1, Bool.not_eq_false, Bool.not_eq_true] at c_31
          try simp (disch := omega) only [i_lt, i_le, i_eq, l_lt, l_le, l_eq, i_0, i_m1, l_0, nI_tI, iI_tI, lI_tI, Int.not_lt, Int.not_le] at c_31
          obtain ⟨c, hc⟩ : ∃ c : Nat, plG (chC σ i) (chn σ i) s = c := ⟨_, (Int.toNat_of_nonneg (by omega)).symm⟩
          rw [hc, ← nI_iI]
          have hcl : c < chn σ i := by omega
          have hb1 := loN_b hPrB hcl (chn σ i) (Nat.le_refl _)
          have hb2 := hiN_b hPrB hcl (chn σ i) (Nat.le_refl _)
          refine Wp.aload dX11_span_38 rfl (by first | exact Or.inr ⟨_, rfl⟩ | exact Or.inl rfl) rfl ?_
          refine Wp.get dX11_span_40 (fl_X11_138 hO) (p1.S.at hVo) ov2 rfl ?_
          refine Wp.iload dX11_span_43 rfl rfl ?_
          refine Wp.aload_n dX11_span_45 rfl (by first | exact Or.inr ⟨_, rfl⟩ | exact Or.inl rfl) rfl ?_
          refine Wp.get dX11_span_46 fl_X11_49 (p1.S.at' hVd ha1) d7_ rfl ?_
          refine Wp.cV dX11_span_49 cv_X11_216 rfl (by omega) rfl (Nat.le_of_ble_eq_true rfl) (Nat.le_of_ble_eq_true rfl) (p1.S.at hVc) rfl (c_X1_findSpan (d := d - 1) hH hPrB (p1.S.at hzf1) hcl (by omega)) ?_
          rintro _ h2 ⟨rfl, z2, e2_, hz2⟩
          rw [e2_]
          refine p1.S.set hzf1 ?_
          intro h3 C3 S3 o3 e3 f3
          have p3 := p1.fnd S3 o3 f3 ⟨_, e3⟩
          have x3 := x1.tr o3.fx
          dsimp only [Option.toList, List.drop, List.cons_append, List.nil_append]
          refine Wp.istore dX11_span_52 (Nat.le_of_ble_eq_true rfl) (by dsimp only [ev_st1, ev_st2, ev_cl] <;> rfl) rfl ?_
          obtain ⟨m, rfl, hm, hm2⟩ := as_nI (o := w) (n := 5) (by omega)
          have tm := nI_tI hm2
          have hmm : m = 0 ∨ m = 1 ∨ m = 2 ∨ m = 3 ∨ m = 4 := by omega
          rcases hmm with rfl | rfl | rfl | rfl | rfl
          · refine Wp.iload_n dX11_span_54 rfl rfl ?_
            refine Wp.if_ne (tgt := 69) (n := 58) dX11_span_55 (by decide) rfl (fun c_ => absurd rfl c_) (fun _ => ?_)
            refine Wp.iload dX11_span_58 rfl rfl ?_
            refine Wp.bif_eq (tgt := 67) (n := 63) dX11_span_60 (by decide) rfl (fun c_60 => ?_) (fun c_60 => ?_)
            · try simp only [decide_eq_true_eq, decide_eq_false_iff_not, Bool.and_eq_true, bI_0, bI_n0] at c_60
              refine Wp.lconst (v := 0) dX11_span_67 (by decide) rfl ?_
              exact Wp.lret dX11_span_68 rfl (by
                refine ⟨?_, x3, A1, C3, ns, ws, cp1, ln1, lr, p3.up hj, ha1⟩
                rw [a_span, if_pos (show isO σ (nI i) ∧ w01 (nI 0) 4 ∧ 0 ≤ plc σ (tn (nI i)) s by rw [tn_nI ho2, plc_G]; simp only [w01]; omega), tn_nI ho2, plc_G, hc, Int.toNat_natCast, spV]
                rw [if_pos (by decide), c_60] <;> rfl)
            · try simp only [decide_eq_true_eq, decide_eq_false_iff_not, Bool.and_eq_true, bI_0, bI_n0] at c_60
              refine Wp.lconst (v := 1) dX11_span_63 (by decide) rfl ?_
              refine Wp.goto (n := 68) dX11_span_64 (by decide) ?_
              exact Wp.lret dX11_span_68 rfl (by
                refine ⟨?_, x3, A1, C3, ns, ws, cp1, ln1, lr, p3.up hj, ha1⟩
                rw [a_span, if_pos (show isO σ (nI i) ∧ w01 (nI 0) 4 ∧ 0 ≤ plc σ (tn (nI i)) s by rw [tn_nI ho2, plc_G]; simp only [w01]; omega), tn_nI ho2, plc_G, hc, Int.toNat_natCast, spV]
                rw [if_pos (by decide), c_60] <;> rfl)
          · refine Wp.iload_n dX11_span_54 rfl rfl ?_
            refine Wp.if_ne (tgt := 69) (n := 58) dX11_span_55 (by decide) rfl (fun _ => ?_) (fun c_ => absurd c_ (by decide))
            refine Wp.iload dX11_span_69 rfl rfl ?_
            refine Wp.bif_eq (tgt := 83) (n := 74) dX11_span_71 (by decide) rfl (fun c_71 => ?_) (fun c_71 => ?_)
            · try simp only [decide_eq_true_eq, decide_eq_false_iff_not, Bool.and_eq_true, bI_0, bI_n0] at c_71
              refine Wp.ldc2 kc_X11_177 dX11_span_83 rfl ?_
              exact Wp.lret dX11_span_86 rfl (by
                refine ⟨?_, x3, A1, C3, ns, ws, cp1, ln1, lr, p3.up hj, ha1⟩
                rw [a_span, if_pos (show isO σ (nI i) ∧ w01 (nI 1) 4 ∧ 0 ≤ plc σ (tn (nI i)) s by rw [tn_nI ho2, plc_G]; simp only [w01]; omega), tn_nI ho2, plc_G, hc, Int.toNat_natCast, spV]
                rw [if_neg (by decide), c_71]
                first
                  | (rw [if_pos rfl, if_pos (by decide)]; exact congrArg (fun z => some (Value.long z)) (lz _ hb1.2.2.2.2))
                  | rfl)
            · try simp only [decide_eq_true_eq, decide_eq_false_iff_not, Bool.and_eq_true, bI_0, bI_n0] at c_71
              refine Wp.aload_n dX11_span_74 rfl (by first | exact Or.inr ⟨_, rfl⟩ | exact Or.inl rfl) rfl ?_
              refine Wp.get dX11_span_75 fl_X11_49 (p3.S.at' ((f3 (0) (by omega)).trans hVd) ha1) d7_ rfl ?_
              refine Wp.iload_n dX11_span_78 rfl rfl ?_
              refine Wp.laload dX11_span_79 (p3.S.at e3) (nI_toInt (n := 1) (by decide)) (by decide) rfl ?_
              rw [(hz2 c_71).1]
              refine Wp.goto (n := 86) dX11_span_80 (by decide) ?_
              exact Wp.lret dX11_span_86 rfl (by
                refine ⟨?_, x3, A1, C3, ns, ws, cp1, ln1, lr, p3.up hj, ha1⟩
                rw [a_span, if_pos (show isO σ (nI i) ∧ w01 (nI 1) 4 ∧ 0 ≤ plc σ (tn (nI i)) s by rw [tn_nI ho2, plc_G]; simp only [w01]; omega), tn_nI ho2, plc_G, hc, Int.toNat_natCast, spV]
                rw [if_neg (by decide), c_71]
                first
                  | (rw [if_pos rfl, if_pos (by decide)]; exact congrArg (fun z => some (Value.long z)) (lz _ hb1.2.2.2.2))
                  | rfl)
          · refine Wp.iload_n dX11_span_54 rfl rfl ?_
            refine Wp.if_ne (tgt := 69) (n := 58) dX11_span_55 (by decide) rfl (fun _ => ?_) (fun c_ => absurd c_ (by decide))
            refine Wp.iload dX11_span_69 rfl rfl ?_
            refine Wp.bif_eq (tgt := 83) (n := 74) dX11_span_71 (by decide) rfl (fun c_71 => ?_) (fun c_71 => ?_)
            · try simp only [decide_eq_true_eq, decide_eq_false_iff_not, Bool.and_eq_true, bI_0, bI_n0] at c_71
              refine Wp.ldc2 kc_X11_177 dX11_span_83 rfl ?_
              exact Wp.lret dX11_span_86 rfl (by
                refine ⟨?_, x3, A1, C3, ns, ws, cp1, ln1, lr, p3.up hj, ha1⟩
                rw [a_span, if_pos (show isO σ (nI i) ∧ w01 (nI 2) 4 ∧ 0 ≤ plc σ (tn (nI i)) s by rw [tn_nI ho2, plc_G]; simp only [w01]; omega), tn_nI ho2, plc_G, hc, Int.toNat_natCast, spV]
                rw [if_neg (by decide), c_71]
                first
                  | (rw [if_pos rfl, if_pos (by decide)]; exact congrArg (fun z => some (Value.long z)) (lz _ hb1.2.2.2.2))
                  | rfl)
            · try simp only [decide_eq_true_eq, decide_eq_false_iff_not, Bool.and_eq_true, bI_0, bI_n0] at c_71
              refine Wp.aload_n dX11_span_74 rfl (by first | exact Or.inr ⟨_, rfl⟩ | exact Or.inl rfl) rfl ?_
              refine Wp.get dX11_span_75 fl_X11_49 (p3.S.at' ((f3 (0) (by omega)).trans hVd) ha1) d7_ rfl ?_
              refine Wp.iload_n dX11_span_78 rfl rfl ?_
              refine Wp.laload dX11_span_79 (p3.S.at e3) (nI_toInt (n := 2) (by decide)) (by decide) rfl ?_
              rw [(hz2 c_71).2.1]
              refine Wp.goto (n := 86) dX11_span_80 (by decide) ?_
              exact Wp.lret dX11_span_86 rfl (by
                refine ⟨?_, x3, A1, C3, ns, ws, cp1, ln1, lr, p3.up hj, ha1⟩
                rw [a_span, if_pos (show isO σ (nI i) ∧ w01 (nI 2) 4 ∧ 0 ≤ plc σ (tn (nI i)) s by rw [tn_nI ho2, plc_G]; simp only [w01]; omega), tn_nI ho2, plc_G, hc, Int.toNat_natCast, spV]
                rw [if_neg (by decide), c_71]
                first
                  | (rw [if_pos rfl, if_pos (by decide)]; exact congrArg (fun z => some (Value.long z)) (lz _ hb1.2.2.2.2))
                  | rfl)
          · refine Wp.iload_n dX11_span_54 rfl rfl ?_
            refine Wp.if_ne (tgt := 69) (n := 58) dX11_span_55 (by decide) rfl (fun _ => ?_) (fun c_ => absurd c_ (by decide))
            refine Wp.iload dX11_span_69 rfl rfl ?_
            refine Wp.bif_eq (tgt := 83) (n := 74) dX11_span_71 (by decide) rfl (fun c_71 => ?_) (fun c_71 => ?_)
            · try simp only [decide_eq_true_eq, decide_eq_false_iff_not, Bool.and_eq_true, bI_0, bI_n0] at c_71
              refine Wp.ldc2 kc_X11_177 dX11_span_83 rfl ?_
              exact Wp.lret dX11_span_86 rfl (by
                refine ⟨?_, x3, A1, C3, ns, ws, cp1, ln1, lr, p3.up hj, ha1⟩
                rw [a_span, if_pos (show isO σ (nI i) ∧ w01 (nI 3) 4 ∧ 0 ≤ plc σ (tn (nI i)) s by rw [tn_nI ho2, plc_G]; simp only [w01]; omega), tn_nI ho2, plc_G, hc, Int.toNat_natCast, spV]
                rw [if_neg (by decide), c_71]
                first
                  | (rw [if_pos rfl, if_neg (by decide)]; exact congrArg (fun z => some (Value.long z)) (lz _ hb2.2.2.2.2))
                  | rfl)
            · try simp only [decide_eq_true_eq, decide_eq_false_iff_not, Bool.and_eq_true, bI_0, bI_n0] at c_71
              refine Wp.aload_n dX11_span_74 rfl (by first | exact Or.inr ⟨_, rfl⟩ | exact Or.inl rfl) rfl ?_
              refine Wp.get dX11_span_75 fl_X11_49 (p3.S.at' ((f3 (0) (by omega)).trans hVd) ha1) d7_ rfl ?_
              refine Wp.iload_n dX11_span_78 rfl rfl ?_
              refine Wp.laload dX11_span_79 (p3.S.at e3) (nI_toInt (n := 3) (by decide)) (by decide) rfl ?_
              rw [(hz2 c_71).2.2.1]
              refine Wp.goto (n := 86) dX11_span_80 (by decide) ?_
              exact Wp.lret dX11_span_86 rfl (by
                refine ⟨?_, x3, A1, C3, ns, ws, cp1, ln1, lr, p3.up hj, ha1⟩
                rw [a_span, if_pos (show isO σ (nI i) ∧ w01 (nI 3) 4 ∧ 0 ≤ plc σ (tn (nI i)) s by rw [tn_nI ho2, plc_G]; simp only [w01]; omega), tn_nI ho2, plc_G, hc, Int.toNat_natCast, spV]
                rw [if_neg (by decide), c_71]
                first
                  | (rw [if_pos rfl, if_neg (by decide)]; exact congrArg (fun z => some (Value.long z)) (lz _ hb2.2.2.2.2))
                  | rfl)
          · refine Wp.iload_n dX11_span_54 rfl rfl ?_
            refine Wp.if_ne (tgt := 69) (n := 58) dX11_span_55 (by decide) rfl (fun _ => ?_) (fun c_ => absurd c_ (by decide))
            refine Wp.iload dX11_span_69 rfl rfl ?_
            refine Wp.bif_eq (tgt := 83) (n := 74) dX11_span_71 (by decide) rfl (fun c_71 => ?_) (fun c_71 => ?_)
            · try simp only [decide_eq_true_eq, decide_eq_false_iff_not, Bool.and_eq_true, bI_0, bI_n0] at c_71
              refine Wp.ldc2 kc_X11_177 dX11_span_83 rfl ?_
              exact Wp.lret dX11_span_86 rfl (by
                refine ⟨?_, x3, A1, C3, ns, ws, cp1, ln1, lr, p3.up hj, ha1⟩
                rw [a_span, if_pos (show isO σ (nI i) ∧ w01 (nI 4) 4 ∧ 0 ≤ plc σ (tn (nI i)) s by rw [tn_nI ho2, plc_G]; simp only [w01]; omega), tn_nI ho2, plc_G, hc, Int.toNat_natCast, spV]
                rw [if_neg (by decide), c_71]
                first
                  | (rw [if_pos rfl, if_neg (by decide)]; exact congrArg (fun z => some (Value.long z)) (lz _ hb2.2.2.2.2))
                  | rfl)
            · try simp only [decide_eq_true_eq, decide_eq_false_iff_not, Bool.and_eq_true, bI_0, bI_n0] at c_71
              refine Wp.aload_n dX11_span_74 rfl (by first | exact Or.inr ⟨_, rfl⟩ | exact Or.inl rfl) rfl ?_
              refine Wp.get dX11_span_75 fl_X11_49 (p3.S.at' ((f3 (0) (by omega)).trans hVd) ha1) d7_ rfl ?_
              refine Wp.iload_n dX11_span_78 rfl rfl ?_
              refine Wp.laload dX11_span_79 (p3.S.at e3) (nI_toInt (n := 4) (by decide)) (by decide) rfl ?_
              rw [(hz2 c_71).2.2.2]
              refine Wp.goto (n := 86) dX11_span_80 (by decide) ?_
              exact Wp.lret dX11_span_86 rfl (by
                refine ⟨?_, x3, A1, C3, ns, ws, cp1, ln1, lr, p3.up hj, ha1⟩
                rw [a_span, if_pos (show isO σ (nI i) ∧ w01 (nI 4) 4 ∧ 0 ≤ plc σ (tn (nI i)) s by rw [tn_nI ho2, plc_G]; simp only [w01]; omega), tn_nI ho2, plc_G, hc, Int.toNat_natCast, spV]
                rw [if_neg (by decide), c_71]
                first
                  | (rw [if_pos rfl, if_neg (by decide)]; exact congrArg (fun z => some (Value.long z)) (lz _ hb2.2.2.2.2))
                  | rfl)
        · try simp (disch := omega) only [nI_bit0, nI_bit1, Bool.not_eq_false, Bool.not_eq_true] at c_31
          try simp (disch := omega) only [i_lt, i_le, i_eq, l_lt, l_le, l_eq, i_0, i_m1, l_0, nI_tI, iI_tI, lI_tI, Int.not_lt, Int.not_le] at c_31
          refine Wp.ldc2 kc_X11_177 dX11_span_34 rfl ?_
          exact Wp.lret dX11_span_37 rfl (by refine ⟨?_, x1, A1, C1, ns, ws, cp1, ln1, lr, p1.up hj, ha1⟩; simp (disch := omega) only [a_span, plc_G, isO, w01, isP, nI_tI, tn_nI]; (repeat' split) <;> first | (exfalso; omega) | rfl)
  · refine Wp.aload_n dX11_span_0 rfl (by first | exact Or.inr ⟨_, rfl⟩ | exact Or.inl rfl) rfl ?_
    refine Wp.iload_n dX11_span_1 rfl rfl ?_
    refine Wp.cV dX11_span_2 cv_X11_112 rfl (by omega) rfl (Nat.le_of_ble_eq_true rfl) (Nat.le_of_ble_eq_true rfl) (pS.S.at' hVb ha) rfl (c_X11_offerAt_n (d := d - 1) pS ha hW hio) ?_
    rintro _ h1 ⟨rfl, e1_⟩
    rw [e1_]
    clear e1_ h1
    dsimp only [Option.toList, List.drop, List.cons_append, List.nil_append]
    refine Wp.astore dX11_span_5 (by first | exact Or.inr ⟨_, rfl⟩ | exact Or.inl rfl) (Nat.le_of_ble_eq_true rfl) (by dsimp only [ev_st1, ev_cl] <;> rfl) rfl ?_
    refine Wp.aload dX11_span_7 rfl (by first | exact Or.inr ⟨_, rfl⟩ | exact Or.inl rfl) rfl ?_
    refine Wp.iload_n dX11_span_9 rfl rfl ?_
    refine Wp.cS dX11_span_10 cs_X11_212 rfl (by omega) rfl (Nat.le_of_ble_eq_true rfl) (Nat.le_of_ble_eq_true rfl) rfl (c_X11_placeIn_n (d := d - 1)) ?_
    rintro _ h_ ⟨rfl, e_⟩
    rw [e_]
    clear e_ h_
    dsimp only [Option.toList, List.drop, List.cons_append, List.nil_append]
    refine Wp.istore dX11_span_13 (Nat.le_of_ble_eq_true rfl) (by dsimp only [ev_st1, ev_st2, ev_cl] <;> rfl) rfl ?_
    refine Wp.aload dX11_span_15 rfl (by first | exact Or.inr ⟨_, rfl⟩ | exact Or.inl rfl) rfl ?_
    refine Wp.ifnullN (n := 34) dX11_span_17 (by decide) ?_
    refine Wp.ldc2 kc_X11_177 dX11_span_34 rfl ?_
    exact Wp.lret dX11_span_37 rfl (by refine ⟨?_, FX.rfl, A, C, ns, ws, cp, ln, lr, pS.up hj, ha⟩; simp (disch := omega) only [a_span, isO, w01, isP, nI_tI, tn_nI]; (repeat' split) <;> first | (exfalso; omega) | rfl)
set_option maxHeartbeats 1000000 in
theorem c_X11_regret {B : ev_B} {d a0 w0 j : Nat} {X : Nat → Prop} {h : ev_H} {σ : Sg} {o s w : Int32} (hp : PSx X w0 h a0 σ j) (hW : Wf σ) (hj : j + 1 ≤ 600) (hd : 36 ≤ d) :
    Wp B d M_X11_regret 0 [some (.ref a0), some (.int (o)), some (.int (s)), some (.int (w)), none, none] [] h (CQ X w0 h a0 (σ) j (.long (a_regret σ o s w))) := by
  obtain ⟨A, C, ns, ws, cp, ln, lr, pS, ha⟩ := hp
  obtain ⟨Vb, hVb, b0, b1, b2, b3, b4, b5, b6, b7⟩ := id pS.ben
  obtain ⟨Vw, hVw, -⟩ := id pS.win
  obtain ⟨Vq, gq, hVq, rq0, rq1, hgq, rq2, rq3⟩ := id pS.row.1
  obtain ⟨zf, hzf⟩ := id pS.fo
  have hcn := pS.cnt
  have hn10 := hW.n
  by_cases hio : 0 ≤ o.toInt ∧ o.toInt < σ.n
  · obtain ⟨i, rfl, ho, ho2⟩ := as_nI hio
    have ti := nI_tI ho2
    have hOw := hW.of i ho
    refine Wp.aload_n dX11_regret_0 rfl (by first | exact Or.inr ⟨_, rfl⟩ | exact Or.inl rfl) rfl ?_
    refine Wp.iload_n dX11_regret_1 rfl rfl ?_
    refine Wp.cV dX11_regret_2 cv_X11_112 rfl (by omega) rfl (Nat.le_of_ble_eq_true rfl) (Nat.le_of_ble_eq_true rfl) (pS.S.at' hVb ha) rfl (c_X11_offerAt_y (d := d - 1) pS ha hW ho (by omega)) ?_
    rintro _ h1 ⟨A1, C1, cp1, ln1, rfl, x1, ha1, p1, on1⟩
    dsimp only [Option.toList, List.drop, List.cons_append, List.nil_append]
    obtain ⟨Vd, hVd, d0_, d1_, d2_, d3_, d4_, d5_, d6_, d7_⟩ := id p1.ben
    obtain ⟨Vw1, hVw1, -⟩ := id p1.win
    obtain ⟨Vq1, gq1, hVq1, rqa0, rqa1, hgq1, rqa2, rqa3⟩ := id p1.row.1
    obtain ⟨zf1, hzf1⟩ := id p1.fo
    obtain ⟨Vo, bso, nbo, rbo, hVo, hOV, vo4, vo5, hch, hcap, hrow, hnb, hlen, hbs, hbok⟩ := id on1
    obtain ⟨ov0, ov1, ov2, ov3, ov5, ov6, ov7⟩ := id hOV
    obtain ⟨Vc, gc0, gc1, gc2, hVc, vc0, vc1, vc2, vc3, kc0, kc1, kc2, hlc, h8c, hgc⟩ := id hch
    have hO := ciO_is (σ.O i).k
    have hchn := chn_le σ i
    have hPrB := PrB_ch hW i
    change Vc 3 = .int (nI (chn σ i)) at vc3
    have hlc' : chn σ i ≤ cp1 i := hlc
    have hH := on1.H p1.S
    refine Wp.astore dX11_regret_5 (by first | exact Or.inr ⟨_, rfl⟩ | exact Or.inl rfl) (Nat.le_of_ble_eq_true rfl) (by dsimp only [ev_st1, ev_cl] <;> rfl) rfl ?_
    refine Wp.aload dX11_regret_7 rfl (by first | exact Or.inr ⟨_, rfl⟩ | exact Or.inl rfl) rfl ?_
    refine Wp.iload_n dX11_regret_9 rfl rfl ?_
    refine Wp.cS dX11_regret_10 cs_X11_212 rfl (by omega) rfl (Nat.le_of_ble_eq_true rfl) (Nat.le_of_ble_eq_true rfl) rfl (c_X11_placeIn (d := d - 1) (p1.S.at hVo) hO ov2 hH hPrB (fun j _ => chC_lt σ i j) (by omega)) ?_
    rintro _ h_ ⟨rfl, e_⟩
    rw [e_]
    clear e_ h_
    dsimp only [Option.toList, List.drop, List.cons_append, List.nil_append]
    have hpl := plG_in (chC σ i) (chn σ i) s
    refine Wp.istore dX11_regret_13 (Nat.le_of_ble_eq_true rfl) (by dsimp only [ev_st1, ev_st2, ev_cl] <;> rfl) rfl ?_
    refine Wp.aload dX11_regret_15 rfl (by first | exact Or.inr ⟨_, rfl⟩ | exact Or.inl rfl) rfl ?_
    refine Wp.ifnull (n := 20) dX11_regret_17 rfl ?_
    refine Wp.iload dX11_regret_20 rfl rfl ?_
    refine Wp.if_lt (tgt := 34) (n := 25) dX11_regret_22 (by decide) rfl (fun c_22 => ?_) (fun c_22 => ?_)
    · try simp (disch := omega) only [nI_bit0, nI_bit1, Bool.not_eq_false, Bool.not_eq_true] at c_22
      try simp (disch := omega) only [i_lt, i_le, i_eq, l_lt, l_le, l_eq, i_0, i_m1, l_0, nI_tI, iI_tI, lI_tI, Int.not_lt, Int.not_le] at c_22
      refine Wp.ldc2 kc_X11_177 dX11_regret_34 rfl ?_
      exact Wp.lret dX11_regret_37 rfl (by refine ⟨?_, x1, A1, C1, ns, ws, cp1, ln1, lr, p1.up hj, ha1⟩; simp (disch := omega) only [a_regret, plc_G, isO, w01, isP, nI_tI, tn_nI]; (repeat' split) <;> first | (exfalso; omega) | rfl)
    · try simp (disch := omega) only [nI_bit0, nI_bit1, Bool.not_eq_false, Bool.not_eq_true] at c_22
      try simp (disch := omega) only [i_lt, i_le, i_eq, l_lt, l_le, l_eq, i_0, i_m1, l_0, nI_tI, iI_tI, lI_tI, Int.not_lt, Int.not_le] at c_22
      refine Wp.iload_n dX11_regret_25 rfl rfl ?_
      refine Wp.if_lt (tgt := 34) (n := 29) dX11_regret_26 (by decide) rfl (fun c_26 => ?_) (fun c_26 => ?_)
      · try simp (disch := omega) only [nI_bit0, nI_bit1, Bool.not_eq_false, Bool.not_eq_true] at c_26
        try simp (disch := omega) only [i_lt, i_le, i_eq, l_lt, l_le, l_eq, i_0, i_m1, l_0, nI_tI, iI_tI, lI_tI, Int.not_lt, Int.not_le] at c_26
        refine Wp.ldc2 kc_X11_177 dX11_regret_34 rfl ?_
        exact Wp.lret dX11_regret_37 rfl (by refine ⟨?_, x1, A1, C1, ns, ws, cp1, ln1, lr, p1.up hj, ha1⟩; simp (disch := omega) only [a_regret, plc_G, isO, w01, isP, nI_tI, tn_nI]; (repeat' split) <;> first | (exfalso; omega) | rfl)
      · try simp (disch := omega) only [nI_bit0, nI_bit1, Bool.not_eq_false, Bool.not_eq_true] at c_26
        try simp (disch := omega) only [i_lt, i_le, i_eq, l_lt, l_le, l_eq, i_0, i_m1, l_0, nI_tI, iI_tI, lI_tI, Int.not_lt, Int.not_le] at c_26
        refine Wp.iload_n dX11_regret_29 rfl rfl ?_
        refine Wp.iconst (v := (nI 1)) dX11_regret_30 (by decide) rfl ?_
        refine Wp.icmp_le (tgt := 38) (n := 34) dX11_regret_31 (by decide) rfl (fun c_31 => ?_) (fun c_31 => ?_)
        · try simp (disch := omega) only [nI_bit0, nI_bit1, Bool.not_eq_false, Bool.not_eq_true] at c_31
          try simp (disch := omega) only [i_lt, i_le, i_eq, l_lt, l_le, l_eq, i_0, i_m1, l_0, nI_tI, iI_tI, lI_tI, Int.not_lt, Int.not_le] at c_31
          obtain ⟨c, hc⟩ : ∃ c : Nat, plG (chC σ i) (chn σ i) s = c := ⟨_, (Int.toNat_of_nonneg (by omega)).symm⟩
          rw [hc, ← nI_iI]
          have hcl : c < chn σ i := by omega
          have hrb := rg2_b hPrB hcl hW.w1 hW.w2
          refine Wp.aload dX11_regret_38 rfl (by first | exact Or.inr ⟨_, rfl⟩ | exact Or.inl rfl) rfl ?_
          refine Wp.get dX11_regret_40 (fl_X11_138 hO) (p1.S.at hVo) ov2 rfl ?_
          refine Wp.iload dX11_regret_43 rfl rfl ?_
          refine Wp.aload_n dX11_regret_45 rfl (by first | exact Or.inr ⟨_, rfl⟩ | exact Or.inl rfl) rfl ?_
          refine Wp.get dX11_regret_46 fl_X11_25 (p1.S.at' hVd ha1) d3_ rfl ?_
          refine Wp.aload_n dX11_regret_49 rfl (by first | exact Or.inr ⟨_, rfl⟩ | exact Or.inl rfl) rfl ?_
          refine Wp.get dX11_regret_50 fl_X11_49 (p1.S.at' hVd ha1) d7_ rfl ?_
          refine Wp.cV dX11_regret_53 cv_X11_233 rfl (by omega) rfl (Nat.le_of_ble_eq_true rfl) (Nat.le_of_ble_eq_true rfl) (p1.S.at hVc) rfl (c_X1_findRegret (d := d - 1) hH hPrB (p1.win.H p1.S) hW.w1 hW.w2 (p1.S.at hzf1) (p1.S.ne hVw1 hzf1 (by decide)) hcl (by omega)) ?_
          rintro _ h2 ⟨rfl, z2, e2_, hz2, hz3⟩
          rw [e2_]
          refine p1.S.set hzf1 ?_
          intro h3 C3 S3 o3 e3 f3
          have p3 := p1.fnd S3 o3 f3 ⟨_, e3⟩
          have x3 := x1.tr o3.fx
          dsimp only [Option.toList, List.drop, List.cons_append, List.nil_append]
          refine Wp.aload_n dX11_regret_56 rfl (by first | exact Or.inr ⟨_, rfl⟩ | exact Or.inl rfl) rfl ?_
          refine Wp.get dX11_regret_57 fl_X11_49 (p3.S.at' ((f3 (0) (by omega)).trans hVd) ha1) d7_ rfl ?_
          refine Wp.iconst (v := (nI 0)) dX11_regret_60 (by decide) rfl ?_
          refine Wp.laload dX11_regret_61 (p3.S.at e3) (nI_toInt (n := 0) (by decide)) (by decide) rfl ?_
          rw [hz2]
          refine Wp.aload_n dX11_regret_62 rfl (by first | exact Or.inr ⟨_, rfl⟩ | exact Or.inl rfl) rfl ?_
          refine Wp.get dX11_regret_63 fl_X11_49 (p3.S.at' ((f3 (0) (by omega)).trans hVd) ha1) d7_ rfl ?_
          refine Wp.iconst (v := (nI 1)) dX11_regret_66 (by decide) rfl ?_
          refine Wp.laload dX11_regret_67 (p3.S.at e3) (nI_toInt (n := 1) (by decide)) (by decide) rfl ?_
          rw [hz3]
          refine Wp.iload_n dX11_regret_68 rfl rfl ?_
          refine Wp.cS dX11_regret_69 cs_X11_189 rfl (by omega) rfl (Nat.le_of_ble_eq_true rfl) (Nat.le_of_ble_eq_true rfl) rfl (c_X11_lowest (d := d - 1) (sm_b (by omega) (by omega)) (sm_b (by omega) (by omega)) (by omega) (by omega)) ?_
          rintro _ h_ ⟨rfl, e_⟩
          rw [e_]
          clear e_ h_
          dsimp only [Option.toList, List.drop, List.cons_append, List.nil_append]
          exact Wp.lret dX11_regret_72 rfl (by
            refine ⟨?_, x3, A1, C3, ns, ws, cp1, ln1, lr, p3.up hj, ha1⟩
            rw [a_regret, if_pos (show isO σ (nI i) ∧ w01 w 1 ∧ 0 ≤ plc σ (tn (nI i)) s by rw [tn_nI ho2, plc_G]; simp only [w01]; omega), tn_nI ho2, plc_G, hc, Int.toNat_natCast, ← rg_ok hW hcl])
        · try simp (disch := omega) only [nI_bit0, nI_bit1, Bool.not_eq_false, Bool.not_eq_true] at c_31
          try simp (disch := omega) only [i_lt, i_le, i_eq, l_lt, l_le, l_eq, i_0, i_m1, l_0, nI_tI, iI_tI, lI_tI, Int.not_lt, Int.not_le] at c_31
          refine Wp.ldc2 kc_X11_177 dX11_regret_34 rfl ?_
          exact Wp.lret dX11_regret_37 rfl (by refine ⟨?_, x1, A1, C1, ns, ws, cp1, ln1, lr, p1.up hj, ha1⟩; simp (disch := omega) only [a_regret, plc_G, isO, w01, isP, nI_tI, tn_nI]; (repeat' split) <;> first | (exfalso; omega) | rfl)
  · refine Wp.aload_n dX11_regret_0 rfl (by first | exact Or.inr ⟨_, rfl⟩ | exact Or.inl rfl) rfl ?_
    refine Wp.iload_n dX11_regret_1 rfl rfl ?_
    refine Wp.cV dX11_regret_2 cv_X11_112 rfl (by omega) rfl (Nat.le_of_ble_eq_true rfl) (Nat.le_of_ble_eq_true rfl) (pS.S.at' hVb ha) rfl (c_X11_offerAt_n (d := d - 1) pS ha hW hio) ?_
    rintro _ h1 ⟨rfl, e1_⟩
    rw [e1_]
    clear e1_ h1
    dsimp only [Option.toList, List.drop, List.cons_append, List.nil_append]
    refine Wp.astore dX11_regret_5 (by first | exact Or.inr ⟨_, rfl⟩ | exact Or.inl rfl) (Nat.le_of_ble_eq_true rfl) (by dsimp only [ev_st1, ev_cl] <;> rfl) rfl ?_
    refine Wp.aload dX11_regret_7 rfl (by first | exact Or.inr ⟨_, rfl⟩ | exact Or.inl rfl) rfl ?_
    refine Wp.iload_n dX11_regret_9 rfl rfl ?_
    refine Wp.cS dX11_regret_10 cs_X11_212 rfl (by omega) rfl (Nat.le_of_ble_eq_true rfl) (Nat.le_of_ble_eq_true rfl) rfl (c_X11_placeIn_n (d := d - 1)) ?_
    rintro _ h_ ⟨rfl, e_⟩
    rw [e_]
    clear e_ h_
    dsimp only [Option.toList, List.drop, List.cons_append, List.nil_append]
    refine Wp.istore dX11_regret_13 (Nat.le_of_ble_eq_true rfl) (by dsimp only [ev_st1, ev_st2, ev_cl] <;> rfl) rfl ?_
    refine Wp.aload dX11_regret_15 rfl (by first | exact Or.inr ⟨_, rfl⟩ | exact Or.inl rfl) rfl ?_
    refine Wp.ifnullN (n := 34) dX11_regret_17 (by decide) ?_
    refine Wp.ldc2 kc_X11_177 dX11_regret_34 rfl ?_
    exact Wp.lret dX11_regret_37 rfl (by refine ⟨?_, FX.rfl, A, C, ns, ws, cp, ln, lr, pS.up hj, ha⟩; simp (disch := omega) only [a_regret, isO, w01, isP, nI_tI, tn_nI]; (repeat' split) <;> first | (exfalso; omega) | rfl)
set_option maxHeartbeats 1000000 in
theorem c_X11_ratio {B : ev_B} {d a0 w0 j : Nat} {X : Nat → Prop} {h : ev_H} {σ : Sg} {o w : Int32} (hp : PSx X w0 h a0 σ j) (hW : Wf σ) (hj : j + 1 ≤ 600) (hd : 36 ≤ d) :
    Wp B d M_X11_ratio 0 [some (.ref a0), some (.int (o)), some (.int (w)), none, none, none] [] h (CQ X w0 h a0 (σ) j (.long (a_ratio σ o w))) := by
  obtain ⟨A, C, ns, ws, cp, ln, lr, pS, ha⟩ := hp
  obtain ⟨Vb, hVb, b0, b1, b2, b3, b4, b5, b6, b7⟩ := id pS.ben
  obtain ⟨Vw, hVw, -⟩ := id pS.win
  obtain ⟨Vq, gq, hVq, rq0, rq1, hgq, rq2, rq3⟩ := id pS.row.1
  obtain ⟨zf, hzf⟩ := id pS.fo
  have hcn := pS.cnt
  have hn10 := hW.n
  by_cases hio : 0 ≤ o.toInt ∧ o.toInt < σ.n
  · obtain ⟨i, rfl, ho, ho2⟩ := as_nI hio
    have ti := nI_tI ho2
    have hOw := hW.of i ho
    by_cases hch0 : 0 < chn σ i
    · refine Wp.aload_n dX11_ratio_0 rfl (by first | exact Or.inr ⟨_, rfl⟩ | exact Or.inl rfl) rfl ?_
      refine Wp.iload_n dX11_ratio_1 rfl rfl ?_
      refine Wp.cV dX11_ratio_2 cv_X11_197 rfl (by omega) rfl (Nat.le_of_ble_eq_true rfl) (Nat.le_of_ble_eq_true rfl) (pS.S.at' hVb ha) rfl (c_X11_offerWithChoices_y (d := d - 1) pS ha hW ho (by omega) hch0) ?_
      rintro _ h1 ⟨A1, C1, cp1, ln1, rfl, x1, ha1, p1, on1⟩
      dsimp only [Option.toList, List.drop, List.cons_append, List.nil_append]
      obtain ⟨Vd, hVd, d0_, d1_, d2_, d3_, d4_, d5_, d6_, d7_⟩ := id p1.ben
      obtain ⟨Vw1, hVw1, -⟩ := id p1.win
      obtain ⟨Vq1, gq1, hVq1, rqa0, rqa1, hgq1, rqa2, rqa3⟩ := id p1.row.1
      obtain ⟨zf1, hzf1⟩ := id p1.fo
      obtain ⟨Vo, bso, nbo, rbo, hVo, hOV, vo4, vo5, hch, hcap, hrow, hnb, hlen, hbs, hbok⟩ := id on1
      obtain ⟨ov0, ov1, ov2, ov3, ov5, ov6, ov7⟩ := id hOV
      obtain ⟨Vc, gc0, gc1, gc2, hVc, vc0, vc1, vc2, vc3, kc0, kc1, kc2, hlc, h8c, hgc⟩ := id hch
      have hO := ciO_is (σ.O i).k
      have hchn := chn_le σ i
      have hPrB := PrB_ch hW i
      change Vc 3 = .int (nI (chn σ i)) at vc3
      have hlc' : chn σ i ≤ cp1 i := hlc
      have hH := on1.H p1.S
      refine Wp.astore_n dX11_ratio_5 (by first | exact Or.inr ⟨_, rfl⟩ | exact Or.inl rfl) (Nat.le_of_ble_eq_true rfl) (by dsimp only [ev_st1, ev_cl] <;> rfl) rfl ?_
      refine Wp.aload_n dX11_ratio_6 rfl (by first | exact Or.inr ⟨_, rfl⟩ | exact Or.inl rfl) rfl ?_
      refine Wp.ifnull (n := 10) dX11_ratio_7 rfl ?_
      refine Wp.iload_n dX11_ratio_10 rfl rfl ?_
      refine Wp.if_lt (tgt := 19) (n := 14) dX11_ratio_11 (by decide) rfl (fun c_11 => ?_) (fun c_11 => ?_)
      · try simp (disch := omega) only [nI_bit0, nI_bit1, Bool.not_eq_false, Bool.not_eq_true] at c_11
        try simp (disch := omega) only [i_lt, i_le, i_eq, l_lt, l_le, l_eq, i_0, i_m1, l_0, nI_tI, iI_tI, lI_tI, Int.not_lt, Int.not_le] at c_11
        refine Wp.ldc2 kc_X11_177 dX11_ratio_19 rfl ?_
        exact Wp.lret dX11_ratio_22 rfl (by refine ⟨?_, x1, A1, C1, ns, ws, cp1, ln1, lr, p1.up hj, ha1⟩; simp (disch := omega) only [a_ratio, isO, w01, isP, nI_tI, tn_nI]; (repeat' split) <;> first | (exfalso; omega) | rfl)
      · try simp (disch := omega) only [nI_bit0, nI_bit1, Bool.not_eq_false, Bool.not_eq_true] at c_11
        try simp (disch := omega) only [i_lt, i_le, i_eq, l_lt, l_le, l_eq, i_0, i_m1, l_0, nI_tI, iI_tI, lI_tI, Int.not_lt, Int.not_le] at c_11
        refine Wp.iload_n dX11_ratio_14 rfl rfl ?_
        refine Wp.iconst (v := (nI 2)) dX11_ratio_15 (by decide) rfl ?_
        refine Wp.icmp_le (tgt := 23) (n := 19) dX11_ratio_16 (by decide) rfl (fun c_16 => ?_) (fun c_16 => ?_)
        · try simp (disch := omega) only [nI_bit0, nI_bit1, Bool.not_eq_false, Bool.not_eq_true] at c_16
          try simp (disch := omega) only [i_lt, i_le, i_eq, l_lt, l_le, l_eq, i_0, i_m1, l_0, nI_tI, iI_tI, lI_tI, Int.not_lt, Int.not_le] at c_16
          refine Wp.aload_n dX11_ratio_23 rfl (by first | exact Or.inr ⟨_, rfl⟩ | exact Or.inl rfl) rfl ?_
          refine Wp.get dX11_ratio_24 (fl_X11_138 hO) (p1.S.at hVo) ov2 rfl ?_
          refine Wp.cV dX11_ratio_27 cv_X11_224 rfl (by omega) rfl (Nat.le_of_ble_eq_true rfl) (Nat.le_of_ble_eq_true rfl) (p1.S.at hVc) rfl (c_X1_leastRatio (d := d - 1) hH hPrB (by omega)) ?_
          rintro _ h_ ⟨rfl, e_⟩
          rw [e_]
          clear e_ h_
          dsimp only [Option.toList, List.drop, List.cons_append, List.nil_append]
          have hrt := (rtN_le (chS σ i) (chR σ i) (chn σ i)).2 hch0
          have hcc := chC_lt σ i (rtN (chS σ i) (chR σ i) (chn σ i))
          have hrb := hPrB.2 _ hrt
          by_cases hg : goB (chR σ i) (chn σ i) (chn σ i) = true
          · rw [lrI, if_pos hg, ← nI_iI]
            have hgp := (goB_all _ hg).2 _ hrt
            refine Wp.istore dX11_ratio_30 (Nat.le_of_ble_eq_true rfl) (by dsimp only [ev_st1, ev_st2, ev_cl] <;> rfl) rfl ?_
            refine Wp.iload dX11_ratio_32 rfl rfl ?_
            refine Wp.if_ge (tgt := 41) (n := 37) dX11_ratio_34 (by decide) rfl (fun c_34 => ?_) (fun c_34 => ?_)
            · try simp (disch := omega) only [nI_bit0, nI_bit1, Bool.not_eq_false, Bool.not_eq_true] at c_34
              try simp (disch := omega) only [i_lt, i_le, i_eq, l_lt, l_le, l_eq, i_0, i_m1, l_0, nI_tI, iI_tI, lI_tI, Int.not_lt, Int.not_le] at c_34
              refine Wp.aload_n dX11_ratio_41 rfl (by first | exact Or.inr ⟨_, rfl⟩ | exact Or.inl rfl) rfl ?_
              refine Wp.get dX11_ratio_42 (fl_X11_138 hO) (p1.S.at hVo) ov2 rfl ?_
              obtain ⟨m, rfl, hm, hm2⟩ := as_nI (o := w) (n := 3) (by omega)
              have tm := nI_tI hm2
              have hmm : m = 0 ∨ m = 1 ∨ m = 2 := by omega
              rcases hmm with rfl | rfl | rfl
              · refine Wp.astore dX11_ratio_45 (by first | exact Or.inr ⟨_, rfl⟩ | exact Or.inl rfl) (Nat.le_of_ble_eq_true rfl) (by dsimp only [ev_st1, ev_cl] <;> rfl) rfl ?_
                refine Wp.iload_n dX11_ratio_47 rfl rfl ?_
                refine Wp.iconst (v := (nI 2)) dX11_ratio_48 (by decide) rfl ?_
                refine Wp.icmp_ne (tgt := 64) (n := 52) dX11_ratio_49 (by decide) rfl (fun _ => ?_) (fun c_ => absurd c_ (by decide))
                refine Wp.aload dX11_ratio_64 rfl (by first | exact Or.inr ⟨_, rfl⟩ | exact Or.inl rfl) rfl ?_
                refine Wp.get dX11_ratio_66 fl_X11_227 (p1.S.at hVc) vc1 rfl ?_
                refine Wp.iload dX11_ratio_69 rfl rfl ?_
                refine Wp.iaload dX11_ratio_71 (p1.S.at kc1) (nI_toInt (by omega)) (by omega) rfl ?_
                rw [(hgc _ hrt).2.1]
                refine Wp.i2l dX11_ratio_72 rfl ?_
                rw [show sumS σ.N.sa ((chL σ.N (σ.O i)).getD (rtN (chS σ i) (chR σ i) (chn σ i)) 0) σ.N.L = chS σ i (rtN (chS σ i) (chR σ i) (chn σ i)) from rfl, iI_l (by omega) (by omega)]
                refine Wp.aload dX11_ratio_73 rfl (by first | exact Or.inr ⟨_, rfl⟩ | exact Or.inl rfl) rfl ?_
                refine Wp.get dX11_ratio_75 fl_X11_230 (p1.S.at hVc) vc2 rfl ?_
                refine Wp.iload dX11_ratio_78 rfl rfl ?_
                refine Wp.iaload dX11_ratio_80 (p1.S.at kc2) (nI_toInt (by omega)) (by omega) rfl ?_
                rw [(hgc _ hrt).2.2]
                refine Wp.i2l dX11_ratio_81 rfl ?_
                rw [show sumS σ.N.ri ((chL σ.N (σ.O i)).getD (rtN (chS σ i) (chR σ i) (chn σ i)) 0) σ.N.L = chR σ i (rtN (chS σ i) (chR σ i) (chn σ i)) from rfl, iI_l (by omega) (by omega)]
                refine Wp.iload_n dX11_ratio_82 rfl rfl ?_
                refine Wp.cS dX11_ratio_83 cs_X11_189 rfl (by omega) rfl (Nat.le_of_ble_eq_true rfl) (Nat.le_of_ble_eq_true rfl) rfl (c_X11_lowest (d := d - 1) (sm_b (by omega) (by omega)) (sm_b (by omega) (by omega)) (by omega) (by omega)) ?_
                rintro _ h_ ⟨rfl, e_⟩
                rw [e_]
                clear e_ h_
                dsimp only [Option.toList, List.drop, List.cons_append, List.nil_append]
                exact Wp.lret dX11_ratio_86 rfl (by
                  refine ⟨?_, x1, A1, C1, ns, ws, cp1, ln1, lr, p1.up hj, ha1⟩
                  rw [a_ratio, if_pos (by rw [tn_nI ho2]; exact ⟨hio, by decide, hg⟩), tn_nI ho2]
                  rw [if_neg (by decide)])
              · refine Wp.astore dX11_ratio_45 (by first | exact Or.inr ⟨_, rfl⟩ | exact Or.inl rfl) (Nat.le_of_ble_eq_true rfl) (by dsimp only [ev_st1, ev_cl] <;> rfl) rfl ?_
                refine Wp.iload_n dX11_ratio_47 rfl rfl ?_
                refine Wp.iconst (v := (nI 2)) dX11_ratio_48 (by decide) rfl ?_
                refine Wp.icmp_ne (tgt := 64) (n := 52) dX11_ratio_49 (by decide) rfl (fun _ => ?_) (fun c_ => absurd c_ (by decide))
                refine Wp.aload dX11_ratio_64 rfl (by first | exact Or.inr ⟨_, rfl⟩ | exact Or.inl rfl) rfl ?_
                refine Wp.get dX11_ratio_66 fl_X11_227 (p1.S.at hVc) vc1 rfl ?_
                refine Wp.iload dX11_ratio_69 rfl rfl ?_
                refine Wp.iaload dX11_ratio_71 (p1.S.at kc1) (nI_toInt (by omega)) (by omega) rfl ?_
                rw [(hgc _ hrt).2.1]
                refine Wp.i2l dX11_ratio_72 rfl ?_
                rw [show sumS σ.N.sa ((chL σ.N (σ.O i)).getD (rtN (chS σ i) (chR σ i) (chn σ i)) 0) σ.N.L = chS σ i (rtN (chS σ i) (chR σ i) (chn σ i)) from rfl, iI_l (by omega) (by omega)]
                refine Wp.aload dX11_ratio_73 rfl (by first | exact Or.inr ⟨_, rfl⟩ | exact Or.inl rfl) rfl ?_
                refine Wp.get dX11_ratio_75 fl_X11_230 (p1.S.at hVc) vc2 rfl ?_
                refine Wp.iload dX11_ratio_78 rfl rfl ?_
                refine Wp.iaload dX11_ratio_80 (p1.S.at kc2) (nI_toInt (by omega)) (by omega) rfl ?_
                rw [(hgc _ hrt).2.2]
                refine Wp.i2l dX11_ratio_81 rfl ?_
                rw [show sumS σ.N.ri ((chL σ.N (σ.O i)).getD (rtN (chS σ i) (chR σ i) (chn σ i)) 0) σ.N.L = chR σ i (rtN (chS σ i) (chR σ i) (chn σ i)) from rfl, iI_l (by omega) (by omega)]
                refine Wp.iload_n dX11_ratio_82 rfl rfl ?_
                refine Wp.cS dX11_ratio_83 cs_X11_189 rfl (by omega) rfl (Nat.le_of_ble_eq_true rfl) (Nat.le_of_ble_eq_true rfl) rfl (c_X11_lowest (d := d - 1) (sm_b (by omega) (by omega)) (sm_b (by omega) (by omega)) (by omega) (by omega)) ?_
                rintro _ h_ ⟨rfl, e_⟩
                rw [e_]
                clear e_ h_
                dsimp only [Option.toList, List.drop, List.cons_append, List.nil_append]
                exact Wp.lret dX11_ratio_86 rfl (by
                  refine ⟨?_, x1, A1, C1, ns, ws, cp1, ln1, lr, p1.up hj, ha1⟩
                  rw [a_ratio, if_pos (by rw [tn_nI ho2]; exact ⟨hio, by decide, hg⟩), tn_nI ho2]
                  rw [if_neg (by decide)])
              · refine Wp.astore dX11_ratio_45 (by first | exact Or.inr ⟨_, rfl⟩ | exact Or.inl rfl) (Nat.le_of_ble_eq_true rfl) (by dsimp only [ev_st1, ev_cl] <;> rfl) rfl ?_
                refine Wp.iload_n dX11_ratio_47 rfl rfl ?_
                refine Wp.iconst (v := (nI 2)) dX11_ratio_48 (by decide) rfl ?_
                refine Wp.icmp_ne (tgt := 64) (n := 52) dX11_ratio_49 (by decide) rfl (fun c_ => absurd rfl c_) (fun _ => ?_)
                refine Wp.aload dX11_ratio_52 rfl (by first | exact Or.inr ⟨_, rfl⟩ | exact Or.inl rfl) rfl ?_
                refine Wp.get dX11_ratio_54 fl_X11_157 (p1.S.at hVc) vc0 rfl ?_
                refine Wp.iload dX11_ratio_57 rfl rfl ?_
                refine Wp.iaload dX11_ratio_59 (p1.S.at kc0) (nI_toInt (by omega)) (by omega) rfl ?_
                rw [(hgc _ hrt).1]
                refine Wp.i2l dX11_ratio_60 rfl ?_
                rw [show (chL σ.N (σ.O i)).getD (rtN (chS σ i) (chR σ i) (chn σ i)) 0 = chC σ i (rtN (chS σ i) (chR σ i) (chn σ i)) from rfl, nI_lI (by omega)]
                refine Wp.goto (n := 86) dX11_ratio_61 (by decide) ?_
                exact Wp.lret dX11_ratio_86 rfl (by
                  refine ⟨?_, x1, A1, C1, ns, ws, cp1, ln1, lr, p1.up hj, ha1⟩
                  rw [a_ratio, if_pos (by rw [tn_nI ho2]; exact ⟨hio, by decide, hg⟩), tn_nI ho2]
                  rw [if_pos (by decide)])
            · try simp (disch := omega) only [nI_bit0, nI_bit1, Bool.not_eq_false, Bool.not_eq_true] at c_34
              try simp (disch := omega) only [i_lt, i_le, i_eq, l_lt, l_le, l_eq, i_0, i_m1, l_0, nI_tI, iI_tI, lI_tI, Int.not_lt, Int.not_le] at c_34
              omega
          · rw [lrI, if_neg hg]
            refine Wp.istore dX11_ratio_30 (Nat.le_of_ble_eq_true rfl) (by dsimp only [ev_st1, ev_st2, ev_cl] <;> rfl) rfl ?_
            refine Wp.iload dX11_ratio_32 rfl rfl ?_
            refine Wp.if_ge (tgt := 41) (n := 37) dX11_ratio_34 (by decide) rfl (fun c_34 => ?_) (fun c_34 => ?_)
            · try simp (disch := omega) only [nI_bit0, nI_bit1, Bool.not_eq_false, Bool.not_eq_true] at c_34
              try simp (disch := omega) only [i_lt, i_le, i_eq, l_lt, l_le, l_eq, i_0, i_m1, l_0, nI_tI, iI_tI, lI_tI, Int.not_lt, Int.not_le] at c_34
              omega
            · try simp (disch := omega) only [nI_bit0, nI_bit1, Bool.not_eq_false, Bool.not_eq_true] at c_34
              try simp (disch := omega) only [i_lt, i_le, i_eq, l_lt, l_le, l_eq, i_0, i_m1, l_0, nI_tI, iI_tI, lI_tI, Int.not_lt, Int.not_le] at c_34
              refine Wp.ldc2 kc_X11_177 dX11_ratio_37 rfl ?_
              exact Wp.lret dX11_ratio_40 rfl (by
                refine ⟨?_, x1, A1, C1, ns, ws, cp1, ln1, lr, p1.up hj, ha1⟩
                rw [a_ratio, if_neg (by rw [tn_nI ho2]; exact fun z => hg z.2.2)])
        · try simp (disch := omega) only [nI_bit0, nI_bit1, Bool.not_eq_false, Bool.not_eq_true] at c_16
          try simp (disch := omega) only [i_lt, i_le, i_eq, l_lt, l_le, l_eq, i_0, i_m1, l_0, nI_tI, iI_tI, lI_tI, Int.not_lt, Int.not_le] at c_16
          refine Wp.ldc2 kc_X11_177 dX11_ratio_19 rfl ?_
          exact Wp.lret dX11_ratio_22 rfl (by refine ⟨?_, x1, A1, C1, ns, ws, cp1, ln1, lr, p1.up hj, ha1⟩; simp (disch := omega) only [a_ratio, isO, w01, isP, nI_tI, tn_nI]; (repeat' split) <;> first | (exfalso; omega) | rfl)
    · refine Wp.aload_n dX11_ratio_0 rfl (by first | exact Or.inr ⟨_, rfl⟩ | exact Or.inl rfl) rfl ?_
      refine Wp.iload_n dX11_ratio_1 rfl rfl ?_
      refine Wp.cV dX11_ratio_2 cv_X11_197 rfl (by omega) rfl (Nat.le_of_ble_eq_true rfl) (Nat.le_of_ble_eq_true rfl) (pS.S.at' hVb ha) rfl (c_X11_offerWithChoices_z (d := d - 1) pS ha hW ho (by omega) (by omega)) ?_
      rintro _ h1 ⟨A1, C1, cp1, ln1, rfl, x1, ha1, p1⟩
      dsimp only [Option.toList, List.drop, List.cons_append, List.nil_append]
      obtain ⟨Vd, hVd, d0_, d1_, d2_, d3_, d4_, d5_, d6_, d7_⟩ := id p1.ben
      refine Wp.astore_n dX11_ratio_5 (by first | exact Or.inr ⟨_, rfl⟩ | exact Or.inl rfl) (Nat.le_of_ble_eq_true rfl) (by dsimp only [ev_st1, ev_cl] <;> rfl) rfl ?_
      refine Wp.aload_n dX11_ratio_6 rfl (by first | exact Or.inr ⟨_, rfl⟩ | exact Or.inl rfl) rfl ?_
      refine Wp.ifnullN (n := 19) dX11_ratio_7 (by decide) ?_
      refine Wp.ldc2 kc_X11_177 dX11_ratio_19 rfl ?_
      exact Wp.lret dX11_ratio_22 rfl (by
        refine ⟨?_, x1, A1, C1, ns, ws, cp1, ln1, lr, p1.up hj, ha1⟩
        rw [a_ratio, if_neg (by rw [tn_nI ho2]; exact fun z => by have := (goB_all _ z.2.2).1; omega)])
  · refine Wp.aload_n dX11_ratio_0 rfl (by first | exact Or.inr ⟨_, rfl⟩ | exact Or.inl rfl) rfl ?_
    refine Wp.iload_n dX11_ratio_1 rfl rfl ?_
    refine Wp.cV dX11_ratio_2 cv_X11_197 rfl (by omega) rfl (Nat.le_of_ble_eq_true rfl) (Nat.le_of_ble_eq_true rfl) (pS.S.at' hVb ha) rfl (c_X11_offerWithChoices_n (d := d - 1) pS ha hW hio (by omega)) ?_
    rintro _ h1 ⟨rfl, e1_⟩
    rw [e1_]
    clear e1_ h1
    dsimp only [Option.toList, List.drop, List.cons_append, List.nil_append]
    refine Wp.astore_n dX11_ratio_5 (by first | exact Or.inr ⟨_, rfl⟩ | exact Or.inl rfl) (Nat.le_of_ble_eq_true rfl) (by dsimp only [ev_st1, ev_cl] <;> rfl) rfl ?_
    refine Wp.aload_n dX11_ratio_6 rfl (by first | exact Or.inr ⟨_, rfl⟩ | exact Or.inl rfl) rfl ?_
    refine Wp.ifnullN (n := 19) dX11_ratio_7 (by decide) ?_
    refine Wp.ldc2 kc_X11_177 dX11_ratio_19 rfl ?_
    exact Wp.lret dX11_ratio_22 rfl (by refine ⟨?_, FX.rfl, A, C, ns, ws, cp, ln, lr, pS.up hj, ha⟩; simp (disch := omega) only [a_ratio, isO, w01, isP, nI_tI, tn_nI]; (repeat' split) <;> first | (exfalso; omega) | rfl)
set_option maxHeartbeats 2000000 in
theorem c_X11_offerTold {B : ev_B} {d a0 w0 j : Nat} {X : Nat → Prop} {h : ev_H} {σ : Sg} {o w : Int32} (hp : PSx X w0 h a0 σ j) (hW : Wf σ) (hj : j + 1 ≤ 600) (hd : 36 ≤ d) :
    Wp B d M_X11_offerTold 0 [some (.ref a0), some (.int (o)), some (.int (w)), none] [] h (CQ X w0 h a0 (σ) j (.int (a_offerTold σ o w))) := by
  obtain ⟨A, C, ns, ws, cp, ln, lr, pS, ha⟩ := hp
  obtain ⟨Vb, hVb, b0, b1, b2, b3, b4, b5, b6, b7⟩ := id pS.ben
  obtain ⟨Vw, hVw, -⟩ := id pS.win
  obtain ⟨Vq, gq, hVq, rq0, rq1, hgq, rq2, rq3⟩ := id pS.row.1
  obtain ⟨zf, hzf⟩ := id pS.fo
  have hcn := pS.cnt
  have hn10 := hW.n
  by_cases hio : 0 ≤ o.toInt ∧ o.toInt < σ.n
  · obtain ⟨i, rfl, ho, ho2⟩ := as_nI hio
    have ti := nI_tI ho2
    have hOw := hW.of i ho
    refine Wp.aload_n dX11_offerTold_0 rfl (by first | exact Or.inr ⟨_, rfl⟩ | exact Or.inl rfl) rfl ?_
    refine Wp.iload_n dX11_offerTold_1 rfl rfl ?_
    refine Wp.cV dX11_offerTold_2 cv_X11_112 rfl (by omega) rfl (Nat.le_of_ble_eq_true rfl) (Nat.le_of_ble_eq_true rfl) (pS.S.at' hVb ha) rfl (c_X11_offerAt_y (d := d - 1) pS ha hW ho (by omega)) ?_
    rintro _ h1 ⟨A1, C1, cp1, ln1, rfl, x1, ha1, p1, on1⟩
    dsimp only [Option.toList, List.drop, List.cons_append, List.nil_append]
    obtain ⟨Vd, hVd, d0_, d1_, d2_, d3_, d4_, d5_, d6_, d7_⟩ := id p1.ben
    obtain ⟨Vw1, hVw1, -⟩ := id p1.win
    obtain ⟨Vq1, gq1, hVq1, rqa0, rqa1, hgq1, rqa2, rqa3⟩ := id p1.row.1
    obtain ⟨zf1, hzf1⟩ := id p1.fo
    obtain ⟨Vo, bso, nbo, rbo, hVo, hOV, vo4, vo5, hch, hcap, hrow, hnb, hlen, hbs, hbok⟩ := id on1
    obtain ⟨ov0, ov1, ov2, ov3, ov5, ov6, ov7⟩ := id hOV
    obtain ⟨Vc, gc0, gc1, gc2, hVc, vc0, vc1, vc2, vc3, kc0, kc1, kc2, hlc, h8c, hgc⟩ := id hch
    have hO := ciO_is (σ.O i).k
    have hchn := chn_le σ i
    have hPrB := PrB_ch hW i
    change Vc 3 = .int (nI (chn σ i)) at vc3
    have hlc' : chn σ i ≤ cp1 i := hlc
    have hH := on1.H p1.S
    refine Wp.astore_n dX11_offerTold_5 (by first | exact Or.inr ⟨_, rfl⟩ | exact Or.inl rfl) (Nat.le_of_ble_eq_true rfl) (by dsimp only [ev_st1, ev_cl] <;> rfl) rfl ?_
    refine Wp.aload_n dX11_offerTold_6 rfl (by first | exact Or.inr ⟨_, rfl⟩ | exact Or.inl rfl) rfl ?_
    refine Wp.ifnonnull (n := 13) dX11_offerTold_7 (by decide) ?_
    by_cases hw : 0 ≤ w.toInt ∧ w.toInt < (5 : Nat)
    · obtain ⟨m, rfl, hm, hm2⟩ := as_nI (o := w) (n := 5) (by omega)
      have tm := nI_tI hm2
      have hmm : m = 0 ∨ m = 1 ∨ m = 2 ∨ m = 3 ∨ m = 4 := by omega
      rcases hmm with rfl | rfl | rfl | rfl | rfl
      · refine Wp.iload_n dX11_offerTold_13 rfl rfl ?_
        refine Wp.tswIn (off := 34) (n := 48) dX11_offerTold_14 (by decide) (by decide) (by decide) (by decide) ?_
        refine Wp.aload_n dX11_offerTold_48 rfl (by first | exact Or.inr ⟨_, rfl⟩ | exact Or.inl rfl) rfl ?_
        refine Wp.get dX11_offerTold_49 (fl_X11_135 hO) (p1.S.at hVo) ov1 rfl ?_
        exact Wp.iret dX11_offerTold_52 rfl (by refine ⟨?_, x1, A1, C1, ns, ws, cp1, ln1, lr, p1.up hj, ha1⟩; simp (disch := omega) only [a_offerTold, isO, w01, isP, nI_tI, tn_nI]; (repeat' split) <;> first | (exfalso; omega) | rfl)
      · refine Wp.iload_n dX11_offerTold_13 rfl rfl ?_
        refine Wp.tswIn (off := 39) (n := 53) dX11_offerTold_14 (by decide) (by decide) (by decide) (by decide) ?_
        refine Wp.aload_n dX11_offerTold_53 rfl (by first | exact Or.inr ⟨_, rfl⟩ | exact Or.inl rfl) rfl ?_
        refine Wp.get dX11_offerTold_54 (fl_X11_138 hO) (p1.S.at hVo) ov2 rfl ?_
        refine Wp.get dX11_offerTold_57 fl_X11_142 (p1.S.at hVc) vc3 rfl ?_
        exact Wp.iret dX11_offerTold_60 rfl (by refine ⟨?_, x1, A1, C1, ns, ws, cp1, ln1, lr, p1.up hj, ha1⟩; simp (disch := omega) only [a_offerTold, isO, w01, isP, nI_tI, tn_nI]; (repeat' split) <;> first | (exfalso; omega) | rfl)
      · refine Wp.iload_n dX11_offerTold_13 rfl rfl ?_
        refine Wp.tswIn (off := 47) (n := 61) dX11_offerTold_14 (by decide) (by decide) (by decide) (by decide) ?_
        refine Wp.aload_n dX11_offerTold_61 rfl (by first | exact Or.inr ⟨_, rfl⟩ | exact Or.inl rfl) rfl ?_
        refine Wp.get dX11_offerTold_62 (fl_X11_138 hO) (p1.S.at hVo) ov2 rfl ?_
        refine Wp.get dX11_offerTold_65 fl_X11_142 (p1.S.at hVc) vc3 rfl ?_
        refine Wp.if_le (tgt := 75) (n := 71) dX11_offerTold_68 (by decide) rfl (fun c_68 => ?_) (fun c_68 => ?_)
        · try simp (disch := omega) only [nI_bit0, nI_bit1, Bool.not_eq_false, Bool.not_eq_true] at c_68
          try simp (disch := omega) only [i_lt, i_le, i_eq, l_lt, l_le, l_eq, i_0, i_m1, l_0, nI_tI, iI_tI, lI_tI, Int.not_lt, Int.not_le] at c_68
          refine Wp.aload_n dX11_offerTold_75 rfl (by first | exact Or.inr ⟨_, rfl⟩ | exact Or.inl rfl) rfl ?_
          refine Wp.aload_n dX11_offerTold_76 rfl (by first | exact Or.inr ⟨_, rfl⟩ | exact Or.inl rfl) rfl ?_
          refine Wp.get dX11_offerTold_77 fl_X11_10 (p1.S.at' hVd ha1) d0_ rfl ?_
          have hk4 := hOw.k
          have hkk : (σ.O i).k = 0 ∨ (σ.O i).k = 1 ∨ (σ.O i).k = 2 ∨ (σ.O i).k = 3 := by omega
          have hNc := p1.net.C p1.S
          rcases hkk with hk | hk | hk | hk
          · have hVk : C1 (tO i) = some (ev_ob 6 Vo) := by rw [hk] at hVo; exact hVo
            refine Wp.cU dX11_offerTold_80 cu_X11_147_6 rfl (by omega) rfl (Nat.le_of_ble_eq_true rfl) (Nat.le_of_ble_eq_true rfl) (p1.S.at hVk) rfl (c_X7_barsIn (d := d - 1)) ?_
            rintro _ h_ ⟨rfl, e_⟩
            rw [e_]
            clear e_ h_
            dsimp only [Option.toList, List.drop, List.cons_append, List.nil_append]
            exact Wp.iret dX11_offerTold_83 rfl (by
              refine ⟨?_, x1, A1, C1, ns, ws, cp1, ln1, lr, p1.up hj, ha1⟩
              have hpos : ¬ 0 < chn σ i := by omega
              rw [show nI 0 = nI (barM σ i) by rw [barM, if_neg (by omega), if_neg (by omega), if_pos hk]]
              simp (disch := omega) only [a_offerTold, isO, w01, isP, nI_tI, tn_nI]; (repeat' split) <;> first | (exfalso; omega) | rfl)
          · have hVk : C1 (tO i) = some (ev_ob 7 Vo) := by rw [hk] at hVo; exact hVo
            refine Wp.cU dX11_offerTold_80 cu_X11_147_7 rfl (by omega) rfl (Nat.le_of_ble_eq_true rfl) (Nat.le_of_ble_eq_true rfl) (p1.S.at hVk) rfl (c_X8_barsIn (d := d - 1) (i := i) hNc hW hk (by omega)) ?_
            rintro _ h_ ⟨rfl, e_⟩
            rw [e_]
            clear e_ h_
            dsimp only [Option.toList, List.drop, List.cons_append, List.nil_append]
            exact Wp.iret dX11_offerTold_83 rfl (by
              refine ⟨?_, x1, A1, C1, ns, ws, cp1, ln1, lr, p1.up hj, ha1⟩
              have hpos : ¬ 0 < chn σ i := by omega
              simp (disch := omega) only [a_offerTold, isO, w01, isP, nI_tI, tn_nI]; (repeat' split) <;> first | (exfalso; omega) | rfl)
          · have hVk : C1 (tO i) = some (ev_ob 8 Vo) := by rw [hk] at hVo; exact hVo
            refine Wp.cU dX11_offerTold_80 cu_X11_147_8 rfl (by omega) rfl (Nat.le_of_ble_eq_true rfl) (Nat.le_of_ble_eq_true rfl) (p1.S.at hVk) rfl (c_X9_barsIn (d := d - 1) (i := i) hNc hW (p1.S.at hVk) (ov6 hk).1 (hOw.wy hk).1 hk (by omega)) ?_
            rintro _ h_ ⟨rfl, e_⟩
            rw [e_]
            clear e_ h_
            dsimp only [Option.toList, List.drop, List.cons_append, List.nil_append]
            exact Wp.iret dX11_offerTold_83 rfl (by
              refine ⟨?_, x1, A1, C1, ns, ws, cp1, ln1, lr, p1.up hj, ha1⟩
              have hpos : ¬ 0 < chn σ i := by omega
              simp (disch := omega) only [a_offerTold, isO, w01, isP, nI_tI, tn_nI]; (repeat' split) <;> first | (exfalso; omega) | rfl)
          · have hVk : C1 (tO i) = some (ev_ob 3 Vo) := by rw [hk] at hVo; exact hVo
            refine Wp.cU dX11_offerTold_80 cu_X11_147_3 rfl (by omega) rfl (Nat.le_of_ble_eq_true rfl) (Nat.le_of_ble_eq_true rfl) (p1.S.at hVk) rfl (c_X4_barsIn (d := d - 1) (i := i) hNc hW (p1.S.at hVk) (ov7 hk) (hOw.pr hk) hk (by omega)) ?_
            rintro _ h_ ⟨rfl, e_⟩
            rw [e_]
            clear e_ h_
            dsimp only [Option.toList, List.drop, List.cons_append, List.nil_append]
            exact Wp.iret dX11_offerTold_83 rfl (by
              refine ⟨?_, x1, A1, C1, ns, ws, cp1, ln1, lr, p1.up hj, ha1⟩
              have hpos : ¬ 0 < chn σ i := by omega
              simp (disch := omega) only [a_offerTold, isO, w01, isP, nI_tI, tn_nI]; (repeat' split) <;> first | (exfalso; omega) | rfl)
        · try simp (disch := omega) only [nI_bit0, nI_bit1, Bool.not_eq_false, Bool.not_eq_true] at c_68
          try simp (disch := omega) only [i_lt, i_le, i_eq, l_lt, l_le, l_eq, i_0, i_m1, l_0, nI_tI, iI_tI, lI_tI, Int.not_lt, Int.not_le] at c_68
          refine Wp.iconst (v := (nI 0)) dX11_offerTold_71 (by decide) rfl ?_
          refine Wp.goto (n := 83) dX11_offerTold_72 (by decide) ?_
          exact Wp.iret dX11_offerTold_83 rfl (by refine ⟨?_, x1, A1, C1, ns, ws, cp1, ln1, lr, p1.up hj, ha1⟩; simp (disch := omega) only [a_offerTold, isO, w01, isP, nI_tI, tn_nI]; (repeat' split) <;> first | (exfalso; omega) | rfl)
      · refine Wp.iload_n dX11_offerTold_13 rfl rfl ?_
        refine Wp.tswIn (off := 70) (n := 84) dX11_offerTold_14 (by decide) (by decide) (by decide) (by decide) ?_
        refine Wp.aload_n dX11_offerTold_84 rfl (by first | exact Or.inr ⟨_, rfl⟩ | exact Or.inl rfl) rfl ?_
        have hk4 := hOw.k
        have hkk : (σ.O i).k = 0 ∨ (σ.O i).k = 1 ∨ (σ.O i).k = 2 ∨ (σ.O i).k = 3 := by omega
        rcases hkk with hk | hk | hk | hk
        · have hVk : C1 (tO i) = some (ev_ob 6 Vo) := by rw [hk] at hVo; exact hVo
          refine Wp.cU dX11_offerTold_85 cu_X11_151_6 rfl (by omega) rfl (Nat.le_of_ble_eq_true rfl) (Nat.le_of_ble_eq_true rfl) (p1.S.at hVk) rfl (c_X7_firstNumber (d := d - 1) (p1.S.at hVk) (ov5 hk).2.1) ?_
          rintro _ h_ ⟨rfl, e_⟩
          rw [e_]
          clear e_ h_
          dsimp only [Option.toList, List.drop, List.cons_append, List.nil_append]
          exact Wp.iret dX11_offerTold_88 rfl (by
            refine ⟨?_, x1, A1, C1, ns, ws, cp1, ln1, lr, p1.up hj, ha1⟩
            simp (disch := omega) only [a_offerTold, isO, w01, isP, nI_tI, tn_nI]; (repeat' split) <;> first | (exfalso; omega) | rfl)
        · have hVk : C1 (tO i) = some (ev_ob 7 Vo) := by rw [hk] at hVo; exact hVo
          refine Wp.cU dX11_offerTold_85 cu_X11_151_7 rfl (by omega) rfl (Nat.le_of_ble_eq_true rfl) (Nat.le_of_ble_eq_true rfl) (p1.S.at hVk) rfl (c_X8_firstNumber (d := d - 1)) ?_
          rintro _ h_ ⟨rfl, e_⟩
          rw [e_]
          clear e_ h_
          dsimp only [Option.toList, List.drop, List.cons_append, List.nil_append]
          exact Wp.iret dX11_offerTold_88 rfl (by
            refine ⟨?_, x1, A1, C1, ns, ws, cp1, ln1, lr, p1.up hj, ha1⟩
            have hlo := hOw.lo (by omega)
            rw [show nI 0 = nI (σ.O i).f by rw [hlo]]
            simp (disch := omega) only [a_offerTold, isO, w01, isP, nI_tI, tn_nI]; (repeat' split) <;> first | (exfalso; omega) | rfl)
        · have hVk : C1 (tO i) = some (ev_ob 8 Vo) := by rw [hk] at hVo; exact hVo
          refine Wp.cU dX11_offerTold_85 cu_X11_151_8 rfl (by omega) rfl (Nat.le_of_ble_eq_true rfl) (Nat.le_of_ble_eq_true rfl) (p1.S.at hVk) rfl (c_X9_firstNumber (d := d - 1) (p1.S.at hVk) (ov6 hk).1) ?_
          rintro _ h_ ⟨rfl, e_⟩
          rw [e_]
          clear e_ h_
          dsimp only [Option.toList, List.drop, List.cons_append, List.nil_append]
          exact Wp.iret dX11_offerTold_88 rfl (by
            refine ⟨?_, x1, A1, C1, ns, ws, cp1, ln1, lr, p1.up hj, ha1⟩
            simp (disch := omega) only [a_offerTold, isO, w01, isP, nI_tI, tn_nI]; (repeat' split) <;> first | (exfalso; omega) | rfl)
        · have hVk : C1 (tO i) = some (ev_ob 3 Vo) := by rw [hk] at hVo; exact hVo
          refine Wp.cU dX11_offerTold_85 cu_X11_151_3 rfl (by omega) rfl (Nat.le_of_ble_eq_true rfl) (Nat.le_of_ble_eq_true rfl) (p1.S.at hVk) rfl (c_X4_firstNumber (d := d - 1) (p1.S.at hVk) (ov7 hk)) ?_
          rintro _ h_ ⟨rfl, e_⟩
          rw [e_]
          clear e_ h_
          dsimp only [Option.toList, List.drop, List.cons_append, List.nil_append]
          exact Wp.iret dX11_offerTold_88 rfl (by
            refine ⟨?_, x1, A1, C1, ns, ws, cp1, ln1, lr, p1.up hj, ha1⟩
            simp (disch := omega) only [a_offerTold, isO, w01, isP, nI_tI, tn_nI]; (repeat' split) <;> first | (exfalso; omega) | rfl)
      · refine Wp.iload_n dX11_offerTold_13 rfl rfl ?_
        refine Wp.tswIn (off := 75) (n := 89) dX11_offerTold_14 (by decide) (by decide) (by decide) (by decide) ?_
        refine Wp.aload_n dX11_offerTold_89 rfl (by first | exact Or.inr ⟨_, rfl⟩ | exact Or.inl rfl) rfl ?_
        have hk4 := hOw.k
        have hkk : (σ.O i).k = 0 ∨ (σ.O i).k = 1 ∨ (σ.O i).k = 2 ∨ (σ.O i).k = 3 := by omega
        rcases hkk with hk | hk | hk | hk
        · have hVk : C1 (tO i) = some (ev_ob 6 Vo) := by rw [hk] at hVo; exact hVo
          refine Wp.cU dX11_offerTold_90 cu_X11_154_6 rfl (by omega) rfl (Nat.le_of_ble_eq_true rfl) (Nat.le_of_ble_eq_true rfl) (p1.S.at hVk) rfl (c_X7_secondNumber (d := d - 1)) ?_
          rintro _ h_ ⟨rfl, e_⟩
          rw [e_]
          clear e_ h_
          dsimp only [Option.toList, List.drop, List.cons_append, List.nil_append]
          exact Wp.iret dX11_offerTold_93 rfl (by
            refine ⟨?_, x1, A1, C1, ns, ws, cp1, ln1, lr, p1.up hj, ha1⟩
            have hso := hOw.so (by omega)
            rw [show nI 0 = nI (σ.O i).s by rw [hso]]
            simp (disch := omega) only [a_offerTold, isO, w01, isP, nI_tI, tn_nI]; (repeat' split) <;> first | (exfalso; omega) | rfl)
        · have hVk : C1 (tO i) = some (ev_ob 7 Vo) := by rw [hk] at hVo; exact hVo
          refine Wp.cU dX11_offerTold_90 cu_X11_154_7 rfl (by omega) rfl (Nat.le_of_ble_eq_true rfl) (Nat.le_of_ble_eq_true rfl) (p1.S.at hVk) rfl (c_X8_secondNumber (d := d - 1)) ?_
          rintro _ h_ ⟨rfl, e_⟩
          rw [e_]
          clear e_ h_
          dsimp only [Option.toList, List.drop, List.cons_append, List.nil_append]
          exact Wp.iret dX11_offerTold_93 rfl (by
            refine ⟨?_, x1, A1, C1, ns, ws, cp1, ln1, lr, p1.up hj, ha1⟩
            have hso := hOw.so (by omega)
            rw [show nI 0 = nI (σ.O i).s by rw [hso]]
            simp (disch := omega) only [a_offerTold, isO, w01, isP, nI_tI, tn_nI]; (repeat' split) <;> first | (exfalso; omega) | rfl)
        · have hVk : C1 (tO i) = some (ev_ob 8 Vo) := by rw [hk] at hVo; exact hVo
          refine Wp.cU dX11_offerTold_90 cu_X11_154_8 rfl (by omega) rfl (Nat.le_of_ble_eq_true rfl) (Nat.le_of_ble_eq_true rfl) (p1.S.at hVk) rfl (c_X9_secondNumber (d := d - 1) (p1.S.at hVk) (ov6 hk).2) ?_
          rintro _ h_ ⟨rfl, e_⟩
          rw [e_]
          clear e_ h_
          dsimp only [Option.toList, List.drop, List.cons_append, List.nil_append]
          exact Wp.iret dX11_offerTold_93 rfl (by
            refine ⟨?_, x1, A1, C1, ns, ws, cp1, ln1, lr, p1.up hj, ha1⟩
            simp (disch := omega) only [a_offerTold, isO, w01, isP, nI_tI, tn_nI]; (repeat' split) <;> first | (exfalso; omega) | rfl)
        · have hVk : C1 (tO i) = some (ev_ob 3 Vo) := by rw [hk] at hVo; exact hVo
          refine Wp.cU dX11_offerTold_90 cu_X11_154_3 rfl (by omega) rfl (Nat.le_of_ble_eq_true rfl) (Nat.le_of_ble_eq_true rfl) (p1.S.at hVk) rfl (c_X4_secondNumber (d := d - 1)) ?_
          rintro _ h_ ⟨rfl, e_⟩
          rw [e_]
          clear e_ h_
          dsimp only [Option.toList, List.drop, List.cons_append, List.nil_append]
          exact Wp.iret dX11_offerTold_93 rfl (by
            refine ⟨?_, x1, A1, C1, ns, ws, cp1, ln1, lr, p1.up hj, ha1⟩
            have hso := hOw.so (by omega)
            rw [show nI 0 = nI (σ.O i).s by rw [hso]]
            simp (disch := omega) only [a_offerTold, isO, w01, isP, nI_tI, tn_nI]; (repeat' split) <;> first | (exfalso; omega) | rfl)
    · refine Wp.iload_n dX11_offerTold_13 rfl rfl ?_
      refine Wp.tswOut (n := 94) dX11_offerTold_14 (by omega) (by decide) ?_
      refine Wp.bipush (v := (-2)) dX11_offerTold_94 (by decide) rfl ?_
      exact Wp.iret dX11_offerTold_96 rfl (by refine ⟨?_, x1, A1, C1, ns, ws, cp1, ln1, lr, p1.up hj, ha1⟩; simp (disch := omega) only [a_offerTold, isO, w01, isP, nI_tI, tn_nI]; (repeat' split) <;> first | (exfalso; omega) | rfl)
  · refine Wp.aload_n dX11_offerTold_0 rfl (by first | exact Or.inr ⟨_, rfl⟩ | exact Or.inl rfl) rfl ?_
    refine Wp.iload_n dX11_offerTold_1 rfl rfl ?_
    refine Wp.cV dX11_offerTold_2 cv_X11_112 rfl (by omega) rfl (Nat.le_of_ble_eq_true rfl) (Nat.le_of_ble_eq_true rfl) (pS.S.at' hVb ha) rfl (c_X11_offerAt_n (d := d - 1) pS ha hW hio) ?_
    rintro _ h1 ⟨rfl, e1_⟩
    rw [e1_]
    clear e1_ h1
    dsimp only [Option.toList, List.drop, List.cons_append, List.nil_append]
    refine Wp.astore_n dX11_offerTold_5 (by first | exact Or.inr ⟨_, rfl⟩ | exact Or.inl rfl) (Nat.le_of_ble_eq_true rfl) (by dsimp only [ev_st1, ev_cl] <;> rfl) rfl ?_
    refine Wp.aload_n dX11_offerTold_6 rfl (by first | exact Or.inr ⟨_, rfl⟩ | exact Or.inl rfl) rfl ?_
    refine Wp.ifnonnullN (n := 10) dX11_offerTold_7 rfl ?_
    refine Wp.bipush (v := (-2)) dX11_offerTold_10 (by decide) rfl ?_
    exact Wp.iret dX11_offerTold_12 rfl (by refine ⟨?_, FX.rfl, A, C, ns, ws, cp, ln, lr, pS.up hj, ha⟩; simp (disch := omega) only [a_offerTold, isO, w01, isP, nI_tI, tn_nI]; (repeat' split) <;> first | (exfalso; omega) | rfl)
