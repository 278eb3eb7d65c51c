/-! the class: why -/
theorem chC_mem {σ : Sg} {o s : Nat} : (∃ i, i < chn σ o ∧ chC σ o i = s) ↔ s < 4096 ∧ chB σ.N (σ.O o) s = true := by
  rw [← chL_mem]
  constructor
  · rintro ⟨i, hi, rfl⟩; exact gdm hi
  · intro h
    obtain ⟨i, hi, e⟩ := List.mem_iff_getElem.mp h
    exact ⟨i, hi, by unfold chC; rw [gda hi]; exact e⟩
theorem plG_ch {σ : Sg} {o : Nat} {s : Int32} : 0 ≤ plG (chC σ o) (chn σ o) s ↔ (0 ≤ s.toInt ∧ s.toInt < 4096) ∧ chB σ.N (σ.O o) (tn s) = true := by
  unfold plG
  by_cases hr : 0 ≤ s.toInt ∧ s.toInt < 4096
  · rw [if_pos hr]
    have q := (chC_mem (σ := σ) (o := o) (s := tn s))
    have t4 : tn s < 4096 := by unfold tn; omega
    rcases plN_at (c := chC σ o) (n := chn σ o) (s := s.toInt.toNat) (chn σ o) (Nat.le_refl _) with ⟨e, f⟩ | ⟨i, e, -, h2, h3, -⟩
    · rw [e]
      constructor
      · intro z; omega
      · intro z
        obtain ⟨i, hi, y⟩ := q.mpr ⟨t4, z.2⟩
        exact absurd y (f i (by omega) hi)
    · rw [e]
      exact ⟨fun _ => ⟨hr, (q.mp ⟨i, h2, h3⟩).2⟩, fun _ => Int.natCast_nonneg i⟩
  · rw [if_neg hr]
    constructor
    · intro z; omega
    · intro z; exact absurd z.1 hr
theorem drM_btw {N : Nt} (hN : NetWf N) {s l : Nat} {p q : Int} (hs : s < 4096) (hl : l < N.L) : drS (fun o => s.testBit o && btw N.fr N.to N.L N.T s o l) (fun o => N.sa o * q + N.ri o * p) N.L = drM N s p q l := by
  have e : (fun o => s.testBit o && btw N.fr N.to N.L N.T s o l) = (fun o => s.testBit o && btwM N.fr N.to N.L s o l) := by
    funext o
    unfold btw btwM
    rw [hang_rea hN (less_lt (n := 12) hs) (hN.2.2 l hl).1]
  unfold drM
  rw [e]
  rfl
theorem whF_no {Pr : Nat → Bool} {v : Nat → Int} {L l : Nat} (hl : l < L) (h : Pr l = false) : whF Pr v L (L - l) = whF Pr v L (L - (l + 1)) := by
  rw [show L - l = (L - (l + 1)) + 1 by omega]
  simp only [whF]
  rw [show L - (L - (l + 1) + 1) = l by omega, h, if_neg (by decide)]
theorem whF_yes {Pr : Nat → Bool} {v : Nat → Int} {L l : Nat} (hl : l < L) (h : Pr l = true) : whF Pr v L (L - l) = v l := by
  rw [show L - l = (L - (l + 1)) + 1 by omega]
  simp only [whF]
  rw [show L - (L - (l + 1) + 1) = l by omega, h, if_pos rfl]
set_option maxHeartbeats 2000000 in
theorem c_X11_why {B : ev_B} {d a0 w0 j : Nat} {X : Nat → Prop} {h : ev_H} {σ : Sg} {o s p q : Int32} (hp : PSx X w0 h a0 σ j) (hW : Wf σ) (hj : j + 1 ≤ 600) (hd : 36 ≤ d) :
    Wp B d M_X11_why 0 [some (.ref a0), some (.int (o)), some (.int (s)), some (.int (p)), some (.int (q)), none, none, none] [] h (CQ X w0 h a0 (σ) j (.int (a_why σ o s p q))) := by
  obtain ⟨A, C, ns, ws, cp, ln, lr, pS, ha⟩ := hp
  obtain ⟨Vb, hVb, b0, b1, b2, b3, b4, b5, b6, b7⟩ := id pS.ben
  obtain ⟨Vw, hVw, -⟩ := id pS.win
  obtain ⟨Vq, gq, hVq, rq0, rq1, hgq, rq2, rq3⟩ := id pS.row.1
  obtain ⟨zf, hzf⟩ := id pS.fo
  have hcn := pS.cnt
  have hn10 := hW.n
  by_cases hio : 0 ≤ o.toInt ∧ o.toInt < σ.n
  · obtain ⟨i, rfl, ho, ho2⟩ := as_nI hio
    have ti := nI_tI ho2
    have hOw := hW.of i ho
    refine Wp.aload_n dX11_why_0 rfl (by first | exact Or.inr ⟨_, rfl⟩ | exact Or.inl rfl) rfl ?_
    refine Wp.iload_n dX11_why_1 rfl rfl ?_
    refine Wp.cV dX11_why_2 cv_X11_112 rfl (by omega) rfl (Nat.le_of_ble_eq_true rfl) (Nat.le_of_ble_eq_true rfl) (pS.S.at' hVb ha) rfl (c_X11_offerAt_y (d := d - 1) pS ha hW ho (by omega)) ?_
    rintro _ h1 ⟨A1, C1, cp1, ln1, rfl, x1, ha1, p1, on1⟩
    dsimp only [Option.toList, List.drop, List.cons_append, List.nil_append]
    obtain ⟨Vd, hVd, d0_, d1_, d2_, d3_, d4_, d5_, d6_, d7_⟩ := id p1.ben
    obtain ⟨Vw1, hVw1, -⟩ := id p1.win
    obtain ⟨Vq1, gq1, hVq1, rqa0, rqa1, hgq1, rqa2, rqa3⟩ := id p1.row.1
    obtain ⟨zf1, hzf1⟩ := id p1.fo
    obtain ⟨Vo, bso, nbo, rbo, hVo, hOV, vo4, vo5, hch, hcap, hrow, hnb, hlen, hbs, hbok⟩ := id on1
    obtain ⟨ov0, ov1, ov2, ov3, ov5, ov6, ov7⟩ := id hOV
    obtain ⟨Vc, gc0, gc1, gc2, hVc, vc0, vc1, vc2, vc3, kc0, kc1, kc2, hlc, h8c, hgc⟩ := id hch
    have hO := ciO_is (σ.O i).k
    have hchn := chn_le σ i
    have hPrB := PrB_ch hW i
    change Vc 3 = .int (nI (chn σ i)) at vc3
    have hlc' : chn σ i ≤ cp1 i := hlc
    have hH := on1.H p1.S
    refine Wp.astore dX11_why_5 (by first | exact Or.inr ⟨_, rfl⟩ | exact Or.inl rfl) (Nat.le_of_ble_eq_true rfl) (by dsimp only [ev_st1, ev_cl] <;> rfl) rfl ?_
    refine Wp.aload dX11_why_7 rfl (by first | exact Or.inr ⟨_, rfl⟩ | exact Or.inl rfl) rfl ?_
    refine Wp.ifnull (n := 12) dX11_why_9 rfl ?_
    refine Wp.aload dX11_why_12 rfl (by first | exact Or.inr ⟨_, rfl⟩ | exact Or.inl rfl) rfl ?_
    have hk4 := hOw.k
    refine Wp.get dX11_why_14 (fl_X11_135 hO) (p1.S.at hVo) ov1 rfl ?_
    refine Wp.iconst (v := (nI 1)) dX11_why_17 (by decide) rfl ?_
    refine Wp.icmp_ne (tgt := 39) (n := 21) dX11_why_18 (by decide) rfl (fun c_18 => ?_) (fun c_18 => ?_)
    · try simp (disch := omega) only [nI_bit0, nI_bit1, Bool.not_eq_false, Bool.not_eq_true] at c_18
      try simp (disch := omega) only [i_lt, i_le, i_eq, l_lt, l_le, l_eq, i_0, i_m1, l_0, nI_tI, iI_tI, lI_tI, Int.not_lt, Int.not_le] at c_18
      refine Wp.bipush (v := (-2)) dX11_why_39 (by decide) rfl ?_
      exact Wp.iret dX11_why_41 rfl (by
        refine ⟨?_, x1, A1, C1, ns, ws, cp1, ln1, lr, p1.up hj, ha1⟩
        rw [a_why, if_neg (fun z => by have z1 := z.2.1; have z3 := z.2.2.1; have z4 := z.2.2.2; rw [tn_nI ho2] at z1 z3; omega)])
    · try simp (disch := omega) only [nI_bit0, nI_bit1, Bool.not_eq_false, Bool.not_eq_true] at c_18
      try simp (disch := omega) only [i_lt, i_le, i_eq, l_lt, l_le, l_eq, i_0, i_m1, l_0, nI_tI, iI_tI, lI_tI, Int.not_lt, Int.not_le] at c_18
      refine Wp.aload dX11_why_21 rfl (by first | exact Or.inr ⟨_, rfl⟩ | exact Or.inl rfl) rfl ?_
      refine Wp.iload_n dX11_why_23 rfl rfl ?_
      refine Wp.cS dX11_why_24 cs_X11_212 rfl (by omega) rfl (Nat.le_of_ble_eq_true rfl) (Nat.le_of_ble_eq_true rfl) rfl (c_X11_placeIn (d := d - 1) (p1.S.at hVo) hO ov2 hH hPrB (fun j _ => chC_lt σ i j) (by omega)) ?_
      rintro _ h_ ⟨rfl, e_⟩
      rw [e_]
      clear e_ h_
      dsimp only [Option.toList, List.drop, List.cons_append, List.nil_append]
      have hpl := plG_in (chC σ i) (chn σ i) s
      have hpc := plG_ch (σ := σ) (o := i) (s := s)
      refine Wp.if_lt (tgt := 39) (n := 30) dX11_why_27 (by decide) rfl (fun c_27 => ?_) (fun c_27 => ?_)
      · try simp (disch := omega) only [nI_bit0, nI_bit1, Bool.not_eq_false, Bool.not_eq_true] at c_27
        try simp (disch := omega) only [i_lt, i_le, i_eq, l_lt, l_le, l_eq, i_0, i_m1, l_0, nI_tI, iI_tI, lI_tI, Int.not_lt, Int.not_le] at c_27
        refine Wp.bipush (v := (-2)) dX11_why_39 (by decide) rfl ?_
        exact Wp.iret dX11_why_41 rfl (by
          refine ⟨?_, x1, A1, C1, ns, ws, cp1, ln1, lr, p1.up hj, ha1⟩
          rw [a_why, if_neg (fun z => by have z1 := z.2.1; have z3 := z.2.2.1; have z4 := z.2.2.2; rw [tn_nI ho2] at z1 z3; have z5 := hpc.mpr z3; omega)])
      · try simp (disch := omega) only [nI_bit0, nI_bit1, Bool.not_eq_false, Bool.not_eq_true] at c_27
        try simp (disch := omega) only [i_lt, i_le, i_eq, l_lt, l_le, l_eq, i_0, i_m1, l_0, nI_tI, iI_tI, lI_tI, Int.not_lt, Int.not_le] at c_27
        refine Wp.iload_n dX11_why_30 rfl rfl ?_
        refine Wp.iload dX11_why_31 rfl rfl ?_
        refine Wp.cS dX11_why_33 cs_X11_174 rfl (by omega) rfl (Nat.le_of_ble_eq_true rfl) (Nat.le_of_ble_eq_true rfl) rfl (c_X11_isPrice (d := d - 1)) ?_
        rintro _ h_ ⟨rfl, e_⟩
        rw [e_]
        clear e_ h_
        dsimp only [Option.toList, List.drop, List.cons_append, List.nil_append]
        refine Wp.bif_ne (tgt := 42) (n := 39) dX11_why_36 (by decide) rfl (fun c_36 => ?_) (fun c_36 => ?_)
        · try simp only [decide_eq_true_eq, decide_eq_false_iff_not, Bool.and_eq_true, bI_0, bI_n0] at c_36
          obtain ⟨u, rfl, hu, hu2⟩ := as_nI (o := s) (n := 4096) (by have := hpc.mp (by omega); omega)
          have tu := nI_tI hu2
          have hok : okWh σ (nI i) (nI u) p q := ⟨by omega, by rw [tn_nI ho2]; omega, by rw [tn_nI ho2]; exact hpc.mp (by omega), by omega⟩
          obtain ⟨Vn, n0, n1, n2, n3, hVn, z0, z1, z2, z3, z4, z5, z6, z7, z8, m0_, m1_, m2_, m3_, hgn⟩ := id p1.net
          have hT := hW.net.1
          have hL := hW.net.2.1
          have hNC := p1.net.C p1.S
          have loop : ∀ l, l ≤ σ.N.L → whV σ.N u p.toInt q.toInt = whF (whP σ.N u p.toInt q.toInt) (fun l => 12 * (l : Int) + drM σ.N u p.toInt q.toInt l) σ.N.L (σ.N.L - l) → ∀ j7 : Option Value, Wp B d M_X11_why 45 [some (.ref a0), some (.int (nI i)), some (.int (nI u)), some (.int (p)), some (.int (q)), some (.ref (A1 (tO i))), some (.int (nI l)), j7] [] h1 (CQ X w0 h a0 (σ) j (.int (a_why σ (nI i) (nI u) p q))) := by
            refine ev_upl σ.N.L (fun l hi ih => ?_) ?_
            · intro hwv j7
              refine Wp.iload dX11_why_45 rfl rfl ?_
              refine Wp.aload_n dX11_why_47 rfl (by first | exact Or.inr ⟨_, rfl⟩ | exact Or.inl rfl) rfl ?_
              refine Wp.get dX11_why_48 fl_X11_10 (p1.S.at' hVd ha1) d0_ rfl ?_
              refine Wp.get dX11_why_51 fl_X11_77 (p1.S.at hVn) z5 rfl ?_
              refine Wp.icmp_ge (tgt := 129) (n := 57) dX11_why_54 (by decide) rfl (fun c_54 => ?_) (fun c_54 => ?_)
              · try simp (disch := omega) only [nI_bit0, nI_bit1, Bool.not_eq_false, Bool.not_eq_true] at c_54
                try simp (disch := omega) only [i_lt, i_le, i_eq, l_lt, l_le, l_eq, i_0, i_m1, l_0, nI_tI, iI_tI, lI_tI, Int.not_lt, Int.not_le] at c_54
                omega
              · try simp (disch := omega) only [nI_bit0, nI_bit1, Bool.not_eq_false, Bool.not_eq_true] at c_54
                try simp (disch := omega) only [i_lt, i_le, i_eq, l_lt, l_le, l_eq, i_0, i_m1, l_0, nI_tI, iI_tI, lI_tI, Int.not_lt, Int.not_le] at c_54
                refine Wp.iload_n dX11_why_57 rfl rfl ?_
                refine Wp.iload dX11_why_58 rfl rfl ?_
                refine Wp.ishr dX11_why_60 rfl ?_
                refine Wp.iconst (v := (nI 1)) dX11_why_61 (by decide) rfl ?_
                refine Wp.iand dX11_why_62 rfl ?_
                refine Wp.if_ne (tgt := 123) (n := 66) dX11_why_63 (by decide) rfl (fun c_63 => ?_) (fun c_63 => ?_)
                · try simp (disch := omega) only [nI_bit0, nI_bit1, Bool.not_eq_false, Bool.not_eq_true] at c_63
                  try simp (disch := omega) only [i_lt, i_le, i_eq, l_lt, l_le, l_eq, i_0, i_m1, l_0, nI_tI, iI_tI, lI_tI, Int.not_lt, Int.not_le] at c_63
                  have hp_ : whP σ.N u p.toInt q.toInt l = false := by simp [whP, c_63]
                  refine Wp.iinc (v := _ + (nI 1)) dX11_why_123 rfl rfl (Nat.le_of_ble_eq_true rfl) (by dsimp only [ev_st1, ev_cl] <;> rfl) rfl ?_
                  refine Wp.goto (n := 45) dX11_why_126 (by decide) ?_
                  rw [nI_add1]
                  exact ih (hwv.trans (whF_no hi hp_)) _
                · try simp (disch := omega) only [nI_bit0, nI_bit1, Bool.not_eq_false, Bool.not_eq_true] at c_63
                  try simp (disch := omega) only [i_lt, i_le, i_eq, l_lt, l_le, l_eq, i_0, i_m1, l_0, nI_tI, iI_tI, lI_tI, Int.not_lt, Int.not_le] at c_63
                  refine Wp.aload_n dX11_why_66 rfl (by first | exact Or.inr ⟨_, rfl⟩ | exact Or.inl rfl) rfl ?_
                  refine Wp.get dX11_why_67 fl_X11_10 (p1.S.at' hVd ha1) d0_ rfl ?_
                  refine Wp.iload_n dX11_why_70 rfl rfl ?_
                  refine Wp.iload dX11_why_71 rfl rfl ?_
                  refine Wp.iload_n dX11_why_73 rfl rfl ?_
                  refine Wp.iload dX11_why_74 rfl rfl ?_
                  refine Wp.cV dX11_why_76 cv_X11_255 rfl (by omega) rfl (Nat.le_of_ble_eq_true rfl) (Nat.le_of_ble_eq_true rfl) (p1.S.at hVn) rfl (c_X2_dearestBetween (d := d - 1) hNC hW.net hu hi (by omega) (by omega) (by omega)) ?_
                  rintro _ h_ ⟨rfl, e_⟩
                  rw [e_]
                  clear e_ h_
                  dsimp only [Option.toList, List.drop, List.cons_append, List.nil_append]
                  rw [drM_btw hW.net hu hi]
                  have hdl := drS_lt (fun o => u.testBit o && btwM σ.N.fr σ.N.to σ.N.L u o l) (lcN σ.N p.toInt q.toInt) σ.N.L
                  rw [show drS (fun o => u.testBit o && btwM σ.N.fr σ.N.to σ.N.L u o l) (lcN σ.N p.toInt q.toInt) σ.N.L = drM σ.N u p.toInt q.toInt l from rfl] at hdl
                  refine Wp.istore dX11_why_79 (Nat.le_of_ble_eq_true rfl) (by dsimp only [ev_st1, ev_st2, ev_cl] <;> rfl) rfl ?_
                  refine Wp.iload dX11_why_81 rfl rfl ?_
                  refine Wp.if_lt (tgt := 123) (n := 86) dX11_why_83 (by decide) rfl (fun c_83 => ?_) (fun c_83 => ?_)
                  · try simp (disch := omega) only [nI_bit0, nI_bit1, Bool.not_eq_false, Bool.not_eq_true] at c_83
                    try simp (disch := omega) only [i_lt, i_le, i_eq, l_lt, l_le, l_eq, i_0, i_m1, l_0, nI_tI, iI_tI, lI_tI, Int.not_lt, Int.not_le] at c_83
                    have hp_ : whP σ.N u p.toInt q.toInt l = false := by unfold whP; rw [decide_eq_false (by omega), Bool.and_false]
                    refine Wp.iinc (v := _ + (nI 1)) dX11_why_123 rfl rfl (Nat.le_of_ble_eq_true rfl) (by dsimp only [ev_st1, ev_cl] <;> rfl) rfl ?_
                    refine Wp.goto (n := 45) dX11_why_126 (by decide) ?_
                    rw [nI_add1]
                    exact ih (hwv.trans (whF_no hi hp_)) _
                  · try simp (disch := omega) only [nI_bit0, nI_bit1, Bool.not_eq_false, Bool.not_eq_true] at c_83
                    try simp (disch := omega) only [i_lt, i_le, i_eq, l_lt, l_le, l_eq, i_0, i_m1, l_0, nI_tI, iI_tI, lI_tI, Int.not_lt, Int.not_le] at c_83
                    obtain ⟨D, hD⟩ : ∃ D : Nat, drM σ.N u p.toInt q.toInt l = D := ⟨_, (Int.toNat_of_nonneg (by omega)).symm⟩
                    rw [hD, ← nI_iI]
                    refine Wp.aload_n dX11_why_86 rfl (by first | exact Or.inr ⟨_, rfl⟩ | exact Or.inl rfl) rfl ?_
                    refine Wp.get dX11_why_87 fl_X11_10 (p1.S.at' hVd ha1) d0_ rfl ?_
                    refine Wp.iload dX11_why_90 rfl rfl ?_
                    refine Wp.iload_n dX11_why_92 rfl rfl ?_
                    refine Wp.iload dX11_why_93 rfl rfl ?_
                    refine Wp.cV dX11_why_95 cv_X11_258 rfl (by omega) rfl (Nat.le_of_ble_eq_true rfl) (Nat.le_of_ble_eq_true rfl) (p1.S.at hVn) rfl (c_X2_lineCost (d := d - 1) hNC hW.net hi) ?_
                    rintro _ h_ ⟨rfl, e_⟩
                    rw [e_]
                    clear e_ h_
                    dsimp only [Option.toList, List.drop, List.cons_append, List.nil_append]
                    rw [show σ.N.sa l * q.toInt + σ.N.ri l * p.toInt = lcN σ.N p.toInt q.toInt l from rfl]
                    refine Wp.aload_n dX11_why_98 rfl (by first | exact Or.inr ⟨_, rfl⟩ | exact Or.inl rfl) rfl ?_
                    refine Wp.get dX11_why_99 fl_X11_10 (p1.S.at' hVd ha1) d0_ rfl ?_
                    refine Wp.iload dX11_why_102 rfl rfl ?_
                    refine Wp.iload_n dX11_why_104 rfl rfl ?_
                    refine Wp.iload dX11_why_105 rfl rfl ?_
                    refine Wp.cV dX11_why_107 cv_X11_258 rfl (by omega) rfl (Nat.le_of_ble_eq_true rfl) (Nat.le_of_ble_eq_true rfl) (p1.S.at hVn) rfl (c_X2_lineCost (d := d - 1) hNC hW.net (l := D) (by omega)) ?_
                    rintro _ h_ ⟨rfl, e_⟩
                    rw [e_]
                    clear e_ h_
                    dsimp only [Option.toList, List.drop, List.cons_append, List.nil_append]
                    rw [show σ.N.sa D * q.toInt + σ.N.ri D * p.toInt = lcN σ.N p.toInt q.toInt D from rfl]
                    have hb1 := lcN_b hW.net (p := p.toInt) (q := q.toInt) (by omega) hi
                    have hb2 := lcN_b hW.net (p := p.toInt) (q := q.toInt) (by omega) (show D < σ.N.L by omega)
                    refine Wp.lcmp_ge (tgt := 123) (n := 114) dX11_why_110 rfl dX11_why_111 (by decide) rfl (fun c_110 => ?_) (fun c_110 => ?_)
                    · try simp (disch := omega) only [nI_bit0, nI_bit1, Bool.not_eq_false, Bool.not_eq_true] at c_110
                      try simp (disch := omega) only [i_lt, i_le, i_eq, l_lt, l_le, l_eq, i_0, i_m1, l_0, nI_tI, iI_tI, lI_tI, Int.not_lt, Int.not_le] at c_110
                      have hp_ : whP σ.N u p.toInt q.toInt l = false := by unfold whP; rw [decide_eq_false (by rw [hD, Int.toNat_natCast]; omega), Bool.and_false]
                      refine Wp.iinc (v := _ + (nI 1)) dX11_why_123 rfl rfl (Nat.le_of_ble_eq_true rfl) (by dsimp only [ev_st1, ev_cl] <;> rfl) rfl ?_
                      refine Wp.goto (n := 45) dX11_why_126 (by decide) ?_
                      rw [nI_add1]
                      exact ih (hwv.trans (whF_no hi hp_)) _
                    · try simp (disch := omega) only [nI_bit0, nI_bit1, Bool.not_eq_false, Bool.not_eq_true] at c_110
                      try simp (disch := omega) only [i_lt, i_le, i_eq, l_lt, l_le, l_eq, i_0, i_m1, l_0, nI_tI, iI_tI, lI_tI, Int.not_lt, Int.not_le] at c_110
                      have hp_ : whP σ.N u p.toInt q.toInt l = true := by
                        unfold whP
                        rw [decide_eq_true (by rw [hD, Int.toNat_natCast]; omega), Bool.and_true, c_63]; rfl
                      refine Wp.bipush (v := (nI 12)) dX11_why_114 (by decide) rfl ?_
                      refine Wp.iload dX11_why_116 rfl rfl ?_
                      refine Wp.imul dX11_why_118 rfl ?_
                      refine Wp.iload dX11_why_119 rfl rfl ?_
                      refine Wp.iadd dX11_why_121 rfl ?_
                      exact Wp.iret dX11_why_122 rfl (by
                        refine ⟨?_, x1, A1, C1, ns, ws, cp1, ln1, lr, p1.up hj, ha1⟩
                        rw [a_why, if_pos hok, tn_nI hu2, hwv, whF_yes hi hp_, hD, pk_mul, nI_add, nI_iI, show ((12 * l + D : Nat) : Int) = 12 * (l : Int) + (D : Int) by omega])
            · intro hwv j7
              refine Wp.iload dX11_why_45 rfl rfl ?_
              refine Wp.aload_n dX11_why_47 rfl (by first | exact Or.inr ⟨_, rfl⟩ | exact Or.inl rfl) rfl ?_
              refine Wp.get dX11_why_48 fl_X11_10 (p1.S.at' hVd ha1) d0_ rfl ?_
              refine Wp.get dX11_why_51 fl_X11_77 (p1.S.at hVn) z5 rfl ?_
              refine Wp.icmp_ge (tgt := 129) (n := 57) dX11_why_54 (by decide) rfl (fun c_54 => ?_) (fun c_54 => ?_)
              · try simp (disch := omega) only [nI_bit0, nI_bit1, Bool.not_eq_false, Bool.not_eq_true] at c_54
                try simp (disch := omega) only [i_lt, i_le, i_eq, l_lt, l_le, l_eq, i_0, i_m1, l_0, nI_tI, iI_tI, lI_tI, Int.not_lt, Int.not_le] at c_54
                refine Wp.iconst (v := (-1)) dX11_why_129 (by decide) rfl ?_
                exact Wp.iret dX11_why_130 rfl (by
                  refine ⟨?_, x1, A1, C1, ns, ws, cp1, ln1, lr, p1.up hj, ha1⟩
                  rw [a_why, if_pos hok, tn_nI hu2, hwv, Nat.sub_self]
                  rfl)
              · try simp (disch := omega) only [nI_bit0, nI_bit1, Bool.not_eq_false, Bool.not_eq_true] at c_54
                try simp (disch := omega) only [i_lt, i_le, i_eq, l_lt, l_le, l_eq, i_0, i_m1, l_0, nI_tI, iI_tI, lI_tI, Int.not_lt, Int.not_le] at c_54
                omega
          refine Wp.iconst (v := (nI 0)) dX11_why_42 (by decide) rfl ?_
          refine Wp.istore dX11_why_43 (Nat.le_of_ble_eq_true rfl) (by dsimp only [ev_st1, ev_st2, ev_cl] <;> rfl) rfl ?_
          exact loop 0 (by omega) rfl _
        · try simp only [decide_eq_true_eq, decide_eq_false_iff_not, Bool.and_eq_true, bI_0, bI_n0] at c_36
          refine Wp.bipush (v := (-2)) dX11_why_39 (by decide) rfl ?_
          exact Wp.iret dX11_why_41 rfl (by
            refine ⟨?_, x1, A1, C1, ns, ws, cp1, ln1, lr, p1.up hj, ha1⟩
            rw [a_why, if_neg (fun z => by have z1 := z.2.1; have z3 := z.2.2.1; have z4 := z.2.2.2; rw [tn_nI ho2] at z1 z3; have z5 := hpc.mpr z3; omega)])
  · refine Wp.aload_n dX11_why_0 rfl (by first | exact Or.inr ⟨_, rfl⟩ | exact Or.inl rfl) rfl ?_
    refine Wp.iload_n dX11_why_1 rfl rfl ?_
    refine Wp.cV dX11_why_2 cv_X11_112 rfl (by omega) rfl (Nat.le_of_ble_eq_true rfl) (Nat.le_of_ble_eq_true rfl) (pS.S.at' hVb ha) rfl (c_X11_offerAt_n (d := d - 1) pS ha hW hio) ?_
    rintro _ h1 ⟨rfl, e1_⟩
    rw [e1_]
    clear e1_ h1
    dsimp only [Option.toList, List.drop, List.cons_append, List.nil_append]
    refine Wp.astore dX11_why_5 (by first | exact Or.inr ⟨_, rfl⟩ | exact Or.inl rfl) (Nat.le_of_ble_eq_true rfl) (by dsimp only [ev_st1, ev_cl] <;> rfl) rfl ?_
    refine Wp.aload dX11_why_7 rfl (by first | exact Or.inr ⟨_, rfl⟩ | exact Or.inl rfl) rfl ?_
    refine Wp.ifnullN (n := 39) dX11_why_9 (by decide) ?_
    refine Wp.bipush (v := (-2)) dX11_why_39 (by decide) rfl ?_
    exact Wp.iret dX11_why_41 rfl (by refine ⟨?_, FX.rfl, A, C, ns, ws, cp, ln, lr, pS.up hj, ha⟩; simp (disch := omega) only [a_why, okWh, isO, w01, isP, nI_tI, tn_nI]; (repeat' split) <;> first | (exfalso; omega) | rfl)
