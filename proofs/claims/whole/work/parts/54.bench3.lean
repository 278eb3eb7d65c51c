/-! the class: prices, spans, bends read -/
theorem rg_ok {σ : Sg} (hW : Wf σ) {o c : Nat} (hc : c < chn σ o) (b : Bool) : low b (rg2 (chS σ o) (chR σ o) (chn σ o) c σ.p1 σ.q1 σ.p2 σ.q2).1 (rg2 (chS σ o) (chR σ o) (chn σ o) c σ.p1 σ.q1 σ.p2 σ.q2).2 = low b (rgT σ o c).1 (rgT σ o c).2 := rg_ok' hW hc b
/-- the numbers of a bend -/
theorem bk_b {σ : Sg} (hW : Wf σ) {o nb : Nat} {rb : Nat → Nat → Int} (h : BenOK σ o nb rb) (i k : Nat) (hi : i < nb) (hk : k < 4) : -1000000 ≤ rb i k ∧ rb i k ≤ 1000000 := bk_b' hW h i k hi hk
section
variable {X : Nat → Prop} {w0 : Nat} {h h' : ev_H} {A A' : Nat → Nat} {C C' : Nat → Option ev_E} {σ : Sg} {ns ws : Nat} {cp ln : Nat → Nat} {lr j : Nat}
/-- what is found has changed -/
theorem PS.fnd (p : PS X w0 h A C σ ns ws cp ln lr j) (S' : CS X h' A C') (g : CG X h h' 0) (f : ∀ t, t ≠ 13 → C' t = C t) (hf : FoS C') : PS X w0 h' A C' σ ns ws cp ln lr j := by
  have ht : ∀ i, tO i = 30 + 10 * i := fun _ => rfl
  refine ⟨S', p.ben.same (f 0 (by omega)) (fun _ _ => rfl), p.net.same (fun t _ _ => f t (by omega)) (fun _ _ _ => rfl), p.win.same (f 7 (by omega)), ⟨p.row.1.same (f 8 (by omega)) (f 9 (by omega)) rfl, p.row.2⟩, p.act.same (f 10 (by omega)) (f 11 (by omega)) rfl, p.ofa.same (f 6 (by omega)) (fun _ _ => rfl), p.sha.same (f 12 (by omega)) (fun _ _ => rfl), fun s hs => (p.sh s hs).same (f _ (by omega)) (f _ (by omega)) rfl rfl rfl (fun _ => rfl), hf, fun k hk => (p.of k hk).same (fun t q1 q2 => f t (by have := ht k; omega)) (fun _ _ _ => rfl), fun t ht2 => ?_, p.cnt, ?_⟩
  · rw [f t (by have := ht σ.n; omega)]; exact p.dead t ht2
  · have q1 := p.wt
    have q2 := g.2.2
    omega
theorem PS.wino {p q p2 q2 : Int} (p_ : PS X w0 h A C σ ns ws cp ln lr j) (hj : j + 1 ≤ 600) (S' : CS X h' A C') (g : CG X h h' 0) (f : ∀ t, t ≠ 7 → C' t = C t) (hw : WinS C' (σ.win p q p2 q2) (ws + 1)) : PS X w0 h' A C' (σ.win p q p2 q2) ns (ws + 1) cp ln lr (j + 1) := by
  have ht : ∀ i, tO i = 30 + 10 * i := fun _ => rfl
  refine ⟨S', p_.ben.same (f 0 (by omega)) (fun _ _ => rfl), p_.net.same (fun t _ _ => f t (by omega)) (fun _ _ _ => rfl), hw, ⟨p_.row.1.same (f 8 (by omega)) (f 9 (by omega)) rfl, p_.row.2⟩, p_.act.same (f 10 (by omega)) (f 11 (by omega)) rfl, p_.ofa.same (f 6 (by omega)) (fun _ _ => rfl), p_.sha.same (f 12 (by omega)) (fun _ _ => rfl), fun s hs => (p_.sh s hs).same (f _ (by omega)) (f _ (by omega)) rfl rfl rfl (fun _ => rfl), p_.fo.same (f 13 (by omega)), fun k hk => ?_, fun t ht2 => ?_, ⟨by have := p_.cnt; omega, by have := p_.cnt; omega, hj⟩, ?_⟩
  · have hk' : k < σ.n := hk
    exact ((p_.of k hk').same (C' := C') (A' := A) (fun t q1 q2 => f t (by have := ht k; omega)) (fun _ _ _ => rfl)).win rfl rfl (Nat.lt_succ_self _)
  · rw [f t (by have := ht (σ.win p q p2 q2).n; omega)]; exact p_.dead t ht2
  · have q1 := p_.wt
    have q2 := g.2.2
    show h'.2.2 ≤ w0 + pot cp ln σ.n lr
    omega
end
theorem c_X11_placeIn {B : ev_B} {d a c n ci : Nat} {h : ev_H} {V : Nat → Value} {cc : Nat → Nat} {S R : Nat → Int} {s : Int32} (hV : h.1 a = some (ev_ob ci V)) (hO : ev_isO ci) (v2 : V 2 = .ref c) (hC : ChoH h c n cc S R) (hB : PrB n S R) (hc : ∀ j, j < n → cc j < 4096) (hd : 2 ≤ d) :
    Wp B d M_X11_placeIn 0 [some (.ref a), some (.int (s))] [] h (fun v h' => v = some (.int (iI (plG cc n s))) ∧ h' = h) := by
  obtain ⟨Vc, -, -, -, -, -, -, -, hVc, -⟩ := id hC
  refine Wp.aload_n dX11_placeIn_0 rfl (by first | exact Or.inr ⟨_, rfl⟩ | exact Or.inl rfl) rfl ?_
  refine Wp.ifnonnull (n := 8) dX11_placeIn_1 (by decide) ?_
  refine Wp.aload_n dX11_placeIn_8 rfl (by first | exact Or.inr ⟨_, rfl⟩ | exact Or.inl rfl) rfl ?_
  refine Wp.get dX11_placeIn_9 (fl_X11_138 hO) hV v2 rfl ?_
  refine Wp.iload_n dX11_placeIn_12 rfl rfl ?_
  refine Wp.cV dX11_placeIn_13 cv_X11_168 rfl (by omega) rfl (Nat.le_of_ble_eq_true rfl) (Nat.le_of_ble_eq_true rfl) hVc rfl (c_X1_placeOf (d := d - 1) hC hB hc) ?_
  rintro _ h_ ⟨rfl, e_⟩
  rw [e_]
  clear e_ h_
  dsimp only [Option.toList, List.drop, List.cons_append, List.nil_append]
  exact Wp.iret dX11_placeIn_16 rfl (by exact ⟨rfl, rfl⟩)
theorem c_X11_placeIn_n {B : ev_B} {d : Nat} {h : ev_H} {s : Int32} :
    Wp B d M_X11_placeIn 0 [some .null, some (.int (s))] [] h (fun v h' => v = some (.int (iI (-1))) ∧ h' = h) := by
  refine Wp.aload_n dX11_placeIn_0 rfl (by first | exact Or.inr ⟨_, rfl⟩ | exact Or.inl rfl) rfl ?_
  refine Wp.ifnonnullN (n := 4) dX11_placeIn_1 rfl ?_
  refine Wp.iconst (v := (-1)) dX11_placeIn_4 (by decide) rfl ?_
  refine Wp.goto (n := 16) dX11_placeIn_5 (by decide) ?_
  exact Wp.iret dX11_placeIn_16 rfl (by exact ⟨rfl, rfl⟩)
set_option maxHeartbeats 1000000 in
theorem c_X11_cost {B : ev_B} {d a0 w0 j : Nat} {X : Nat → Prop} {h : ev_H} {σ : Sg} {s p q w : Int32} (hp : PSx X w0 h a0 σ j) (hW : Wf σ) (hj : j + 1 ≤ 600) (hd : 3 ≤ d) :
    Wp B d M_X11_cost 0 [some (.ref a0), some (.int (s)), some (.int (p)), some (.int (q)), some (.int (w)), none, none] [] h (CQ X w0 h a0 (σ) j (.long (a_cost σ s p q w))) := by
  have hp12 := lt_2pow (show σ.N.L ≤ 12 from hW.net.2.1)
  have hp0 := Nat.two_pow_pos σ.N.L
  obtain ⟨A, C, ns, ws, cp, ln, lr, pS, ha⟩ := hp
  obtain ⟨Vb, hVb, b0, b1, b2, b3, b4, b5, b6, b7⟩ := id pS.ben
  obtain ⟨Vw, hVw, -⟩ := id pS.win
  obtain ⟨Vq, gq, hVq, rq0, rq1, hgq, rq2, rq3⟩ := id pS.row.1
  obtain ⟨zf, hzf⟩ := id pS.fo
  have hcn := pS.cnt
  have hn10 := hW.n
  obtain ⟨Vn, n0, n1, n2, n3, hVn, z0, z1, z2, z3, z4, z5, z6, z7, z8, m0_, m1_, m2_, m3_, hgn⟩ := id pS.net
  have hT := hW.net.1
  have hL := hW.net.2.1
  refine Wp.iload_n dX11_cost_0 rfl rfl ?_
  refine Wp.if_lt (tgt := 36) (n := 4) dX11_cost_1 (by decide) rfl (fun c_1 => ?_) (fun c_1 => ?_)
  · try simp (disch := omega) only [nI_bit0, nI_bit1, Bool.not_eq_false, Bool.not_eq_true] at c_1
    try simp (disch := omega) only [i_lt, i_le, i_eq, l_lt, l_le, l_eq, i_0, i_m1, l_0, nI_tI, iI_tI, lI_tI, Int.not_lt, Int.not_le] at c_1
    refine Wp.ldc2 kc_X11_177 dX11_cost_36 rfl ?_
    exact Wp.lret dX11_cost_39 rfl (by refine ⟨?_, FX.rfl, A, C, ns, ws, cp, ln, lr, pS.up hj, ha⟩; simp (disch := omega) only [a_cost, okS, isO, w01, isP, nI_tI, tn_nI]; (repeat' split) <;> first | (exfalso; omega) | rfl)
  · try simp (disch := omega) only [nI_bit0, nI_bit1, Bool.not_eq_false, Bool.not_eq_true] at c_1
    try simp (disch := omega) only [i_lt, i_le, i_eq, l_lt, l_le, l_eq, i_0, i_m1, l_0, nI_tI, iI_tI, lI_tI, Int.not_lt, Int.not_le] at c_1
    refine Wp.iload_n dX11_cost_4 rfl rfl ?_
    refine Wp.iconst (v := (nI 1)) dX11_cost_5 (by decide) rfl ?_
    refine Wp.aload_n dX11_cost_6 rfl (by first | exact Or.inr ⟨_, rfl⟩ | exact Or.inl rfl) rfl ?_
    refine Wp.get dX11_cost_7 fl_X11_10 (pS.S.at' hVb ha) b0 rfl ?_
    refine Wp.get dX11_cost_10 fl_X11_77 (pS.S.at hVn) z5 rfl ?_
    refine Wp.ishl dX11_cost_13 rfl ?_
    rw [nI_one_shl (by omega)]
    refine Wp.icmp_ge (tgt := 36) (n := 17) dX11_cost_14 (by decide) rfl (fun c_14 => ?_) (fun c_14 => ?_)
    · try simp (disch := omega) only [nI_bit0, nI_bit1, Bool.not_eq_false, Bool.not_eq_true] at c_14
      try simp (disch := omega) only [i_lt, i_le, i_eq, l_lt, l_le, l_eq, i_0, i_m1, l_0, nI_tI, iI_tI, lI_tI, Int.not_lt, Int.not_le] at c_14
      refine Wp.ldc2 kc_X11_177 dX11_cost_36 rfl ?_
      exact Wp.lret dX11_cost_39 rfl (by refine ⟨?_, FX.rfl, A, C, ns, ws, cp, ln, lr, pS.up hj, ha⟩; simp (disch := omega) only [a_cost, okS, isO, w01, isP, nI_tI, tn_nI]; (repeat' split) <;> first | (exfalso; omega) | rfl)
    · try simp (disch := omega) only [nI_bit0, nI_bit1, Bool.not_eq_false, Bool.not_eq_true] at c_14
      try simp (disch := omega) only [i_lt, i_le, i_eq, l_lt, l_le, l_eq, i_0, i_m1, l_0, nI_tI, iI_tI, lI_tI, Int.not_lt, Int.not_le] at c_14
      refine Wp.iload_n dX11_cost_17 rfl rfl ?_
      refine Wp.iload_n dX11_cost_18 rfl rfl ?_
      refine Wp.cS dX11_cost_19 cs_X11_174 rfl (by omega) rfl (Nat.le_of_ble_eq_true rfl) (Nat.le_of_ble_eq_true rfl) rfl (c_X11_isPrice (d := d - 1)) ?_
      rintro _ h_ ⟨rfl, e_⟩
      rw [e_]
      clear e_ h_
      dsimp only [Option.toList, List.drop, List.cons_append, List.nil_append]
      refine Wp.bif_eq (tgt := 36) (n := 25) dX11_cost_22 (by decide) rfl (fun c_22 => ?_) (fun c_22 => ?_)
      · try simp only [decide_eq_true_eq, decide_eq_false_iff_not, Bool.and_eq_true, bI_0, bI_n0] at c_22
        refine Wp.ldc2 kc_X11_177 dX11_cost_36 rfl ?_
        exact Wp.lret dX11_cost_39 rfl (by refine ⟨?_, FX.rfl, A, C, ns, ws, cp, ln, lr, pS.up hj, ha⟩; simp (disch := omega) only [a_cost, okS, isO, w01, isP, nI_tI, tn_nI]; (repeat' split) <;> first | (exfalso; omega) | rfl)
      · try simp only [decide_eq_true_eq, decide_eq_false_iff_not, Bool.and_eq_true, bI_0, bI_n0] at c_22
        refine Wp.iload dX11_cost_25 rfl rfl ?_
        refine Wp.if_lt (tgt := 36) (n := 30) dX11_cost_27 (by decide) rfl (fun c_27 => ?_) (fun c_27 => ?_)
        · try simp (disch := omega) only [nI_bit0, nI_bit1, Bool.not_eq_false, Bool.not_eq_true] at c_27
          try simp (disch := omega) only [i_lt, i_le, i_eq, l_lt, l_le, l_eq, i_0, i_m1, l_0, nI_tI, iI_tI, lI_tI, Int.not_lt, Int.not_le] at c_27
          refine Wp.ldc2 kc_X11_177 dX11_cost_36 rfl ?_
          exact Wp.lret dX11_cost_39 rfl (by refine ⟨?_, FX.rfl, A, C, ns, ws, cp, ln, lr, pS.up hj, ha⟩; simp (disch := omega) only [a_cost, okS, isO, w01, isP, nI_tI, tn_nI]; (repeat' split) <;> first | (exfalso; omega) | rfl)
        · try simp (disch := omega) only [nI_bit0, nI_bit1, Bool.not_eq_false, Bool.not_eq_true] at c_27
          try simp (disch := omega) only [i_lt, i_le, i_eq, l_lt, l_le, l_eq, i_0, i_m1, l_0, nI_tI, iI_tI, lI_tI, Int.not_lt, Int.not_le] at c_27
          refine Wp.iload dX11_cost_30 rfl rfl ?_
          refine Wp.iconst (v := (nI 1)) dX11_cost_32 (by decide) rfl ?_
          refine Wp.icmp_le (tgt := 40) (n := 36) dX11_cost_33 (by decide) rfl (fun c_33 => ?_) (fun c_33 => ?_)
          · try simp (disch := omega) only [nI_bit0, nI_bit1, Bool.not_eq_false, Bool.not_eq_true] at c_33
            try simp (disch := omega) only [i_lt, i_le, i_eq, l_lt, l_le, l_eq, i_0, i_m1, l_0, nI_tI, iI_tI, lI_tI, Int.not_lt, Int.not_le] at c_33
            obtain ⟨i, rfl, hi, hi2⟩ := as_nI (o := s) (n := 2 ^ σ.N.L) (by omega)
            have ti := nI_tI hi2
            have hNw := hW.net.2.2
            have hLM := LM_ge σ
            have b1 := sumS_12 (f := σ.N.sa) (s := i) (M := 100) (by decide) hL (fun l hl => by have := hNw l hl; omega)
            have b2 := sumS_12 (f := σ.N.ri) (s := i) (M := 20) (by decide) hL (fun l hl => by have := hNw l hl; omega)
            have m1 := mulb (a := sumS σ.N.sa i σ.N.L) (b := q.toInt) (A := 1200) (C := 1000) (by omega) (by omega)
            have m2 := mulb (a := sumS σ.N.ri i σ.N.L) (b := p.toInt) (A := 240) (C := 10000) (by omega) (by omega)
            refine Wp.aload_n dX11_cost_40 rfl (by first | exact Or.inr ⟨_, rfl⟩ | exact Or.inl rfl) rfl ?_
            refine Wp.get dX11_cost_41 fl_X11_10 (pS.S.at' hVb ha) b0 rfl ?_
            refine Wp.aload_n dX11_cost_44 rfl (by first | exact Or.inr ⟨_, rfl⟩ | exact Or.inl rfl) rfl ?_
            refine Wp.get dX11_cost_45 fl_X11_10 (pS.S.at' hVb ha) b0 rfl ?_
            refine Wp.get dX11_cost_48 fl_X11_179 (pS.S.at hVn) (by first | assumption | rfl) rfl ?_
            refine Wp.iload_n dX11_cost_51 rfl rfl ?_
            refine Wp.cV dX11_cost_52 cv_X11_182 rfl (by omega) rfl (Nat.le_of_ble_eq_true rfl) (Nat.le_of_ble_eq_true rfl) (pS.S.at hVn) rfl (c_X2_sumOver (d := d - 1) (pS.net.C pS.S) hW.net (pS.S.at m2_) (fun l hl => (hgn l (by omega)).2.2.1) (by omega)) ?_
            rintro _ h_ ⟨rfl, e_⟩
            rw [e_]
            clear e_ h_
            dsimp only [Option.toList, List.drop, List.cons_append, List.nil_append]
            refine Wp.i2l dX11_cost_55 rfl ?_
            rw [iI_l (by omega) (by omega)]
            refine Wp.iload_n dX11_cost_56 rfl rfl ?_
            refine Wp.i2l dX11_cost_57 rfl ?_
            rw [i2l_lI]
            refine Wp.lmul dX11_cost_58 rfl ?_
            rw [lI_mul]
            refine Wp.aload_n dX11_cost_59 rfl (by first | exact Or.inr ⟨_, rfl⟩ | exact Or.inl rfl) rfl ?_
            refine Wp.get dX11_cost_60 fl_X11_10 (pS.S.at' hVb ha) b0 rfl ?_
            refine Wp.aload_n dX11_cost_63 rfl (by first | exact Or.inr ⟨_, rfl⟩ | exact Or.inl rfl) rfl ?_
            refine Wp.get dX11_cost_64 fl_X11_10 (pS.S.at' hVb ha) b0 rfl ?_
            refine Wp.get dX11_cost_67 fl_X11_186 (pS.S.at hVn) (by first | assumption | rfl) rfl ?_
            refine Wp.iload_n dX11_cost_70 rfl rfl ?_
            refine Wp.cV dX11_cost_71 cv_X11_182 rfl (by omega) rfl (Nat.le_of_ble_eq_true rfl) (Nat.le_of_ble_eq_true rfl) (pS.S.at hVn) rfl (c_X2_sumOver (d := d - 1) (pS.net.C pS.S) hW.net (pS.S.at m3_) (fun l hl => (hgn l (by omega)).2.2.2) (by omega)) ?_
            rintro _ h_ ⟨rfl, e_⟩
            rw [e_]
            clear e_ h_
            dsimp only [Option.toList, List.drop, List.cons_append, List.nil_append]
            refine Wp.i2l dX11_cost_74 rfl ?_
            rw [iI_l (by omega) (by omega)]
            refine Wp.iload_n dX11_cost_75 rfl rfl ?_
            refine Wp.i2l dX11_cost_76 rfl ?_
            rw [i2l_lI]
            refine Wp.lmul dX11_cost_77 rfl ?_
            rw [lI_mul]
            refine Wp.ladd dX11_cost_78 rfl ?_
            rw [lI_add]
            refine Wp.lstore dX11_cost_79 (Nat.le_of_ble_eq_true rfl) (by dsimp only [ev_st1, ev_st2, ev_cl] <;> rfl) rfl ?_
            refine Wp.lload dX11_cost_81 rfl rfl ?_
            refine Wp.iload_n dX11_cost_83 rfl rfl ?_
            refine Wp.i2l dX11_cost_84 rfl ?_
            rw [i2l_lI]
            refine Wp.iload dX11_cost_85 rfl rfl ?_
            refine Wp.cS dX11_cost_87 cs_X11_189 rfl (by omega) rfl (Nat.le_of_ble_eq_true rfl) (Nat.le_of_ble_eq_true rfl) rfl (c_X11_lowest (d := d - 1) (sm_b (by omega) (by omega)) (sm_b (by omega) (by omega)) (by omega) (by omega)) ?_
            rintro _ h_ ⟨rfl, e_⟩
            rw [e_]
            clear e_ h_
            dsimp only [Option.toList, List.drop, List.cons_append, List.nil_append]
            exact Wp.lret dX11_cost_90 rfl (by
              refine ⟨?_, FX.rfl, A, C, ns, ws, cp, ln, lr, pS.up hj, ha⟩
              rw [a_cost, if_pos (by simp (disch := omega) only [okS, w01, nI_tI]; omega), tn_nI hi2])
          · try simp (disch := omega) only [nI_bit0, nI_bit1, Bool.not_eq_false, Bool.not_eq_true] at c_33
            try simp (disch := omega) only [i_lt, i_le, i_eq, l_lt, l_le, l_eq, i_0, i_m1, l_0, nI_tI, iI_tI, lI_tI, Int.not_lt, Int.not_le] at c_33
            refine Wp.ldc2 kc_X11_177 dX11_cost_36 rfl ?_
            exact Wp.lret dX11_cost_39 rfl (by refine ⟨?_, FX.rfl, A, C, ns, ws, cp, ln, lr, pS.up hj, ha⟩; simp (disch := omega) only [a_cost, okS, isO, w01, isP, nI_tI, tn_nI]; (repeat' split) <;> first | (exfalso; omega) | rfl)
set_option maxHeartbeats 1000000 in
theorem c_X11_best {B : ev_B} {d a0 w0 j : Nat} {X : Nat → Prop} {h : ev_H} {σ : Sg} {o p q w : Int32} (hp : PSx X w0 h a0 σ j) (hW : Wf σ) (hj : j + 1 ≤ 600) (hd : 35 ≤ d) :
    Wp B d M_X11_best 0 [some (.ref a0), some (.int (o)), some (.int (p)), some (.int (q)), some (.int (w)), none, none] [] h (CQ X w0 h a0 (σ) j (.int (a_best σ o p q w))) := by
  obtain ⟨A, C, ns, ws, cp, ln, lr, pS, ha⟩ := hp
  obtain ⟨Vb, hVb, b0, b1, b2, b3, b4, b5, b6, b7⟩ := id pS.ben
  obtain ⟨Vw, hVw, -⟩ := id pS.win
  obtain ⟨Vq, gq, hVq, rq0, rq1, hgq, rq2, rq3⟩ := id pS.row.1
  obtain ⟨zf, hzf⟩ := id pS.fo
  have hcn := pS.cnt
  have hn10 := hW.n
  by_cases hio : 0 ≤ o.toInt ∧ o.toInt < σ.n
  · obtain ⟨i, rfl, ho, ho2⟩ := as_nI hio
    have ti := nI_tI ho2
    have hOw := hW.of i ho
    refine Wp.aload_n dX11_best_0 rfl (by first | exact Or.inr ⟨_, rfl⟩ | exact Or.inl rfl) rfl ?_
    refine Wp.iload_n dX11_best_1 rfl rfl ?_
    refine Wp.cV dX11_best_2 cv_X11_112 rfl (by omega) rfl (Nat.le_of_ble_eq_true rfl) (Nat.le_of_ble_eq_true rfl) (pS.S.at' hVb ha) rfl (c_X11_offerAt_y (d := d - 1) pS ha hW ho (by omega)) ?_
    rintro _ h1 ⟨A1, C1, cp1, ln1, rfl, x1, ha1, p1, on1⟩
    dsimp only [Option.toList, List.drop, List.cons_append, List.nil_append]
    obtain ⟨Vd, hVd, d0_, d1_, d2_, d3_, d4_, d5_, d6_, d7_⟩ := id p1.ben
    obtain ⟨Vw1, hVw1, -⟩ := id p1.win
    obtain ⟨Vq1, gq1, hVq1, rqa0, rqa1, hgq1, rqa2, rqa3⟩ := id p1.row.1
    obtain ⟨zf1, hzf1⟩ := id p1.fo
    obtain ⟨Vo, bso, nbo, rbo, hVo, hOV, vo4, vo5, hch, hcap, hrow, hnb, hlen, hbs, hbok⟩ := id on1
    obtain ⟨ov0, ov1, ov2, ov3, ov5, ov6, ov7⟩ := id hOV
    obtain ⟨Vc, gc0, gc1, gc2, hVc, vc0, vc1, vc2, vc3, kc0, kc1, kc2, hlc, h8c, hgc⟩ := id hch
    have hO := ciO_is (σ.O i).k
    have hchn := chn_le σ i
    have hPrB := PrB_ch hW i
    change Vc 3 = .int (nI (chn σ i)) at vc3
    have hlc' : chn σ i ≤ cp1 i := hlc
    have hH := on1.H p1.S
    refine Wp.astore dX11_best_5 (by first | exact Or.inr ⟨_, rfl⟩ | exact Or.inl rfl) (Nat.le_of_ble_eq_true rfl) (by dsimp only [ev_st1, ev_cl] <;> rfl) rfl ?_
    refine Wp.aload dX11_best_7 rfl (by first | exact Or.inr ⟨_, rfl⟩ | exact Or.inl rfl) rfl ?_
    refine Wp.ifnull (n := 12) dX11_best_9 rfl ?_
    refine Wp.iload_n dX11_best_12 rfl rfl ?_
    refine Wp.iload_n dX11_best_13 rfl rfl ?_
    refine Wp.cS dX11_best_14 cs_X11_174 rfl (by omega) rfl (Nat.le_of_ble_eq_true rfl) (Nat.le_of_ble_eq_true rfl) rfl (c_X11_isPrice (d := d - 1)) ?_
    rintro _ h_ ⟨rfl, e_⟩
    rw [e_]
    clear e_ h_
    dsimp only [Option.toList, List.drop, List.cons_append, List.nil_append]
    refine Wp.bif_eq (tgt := 31) (n := 20) dX11_best_17 (by decide) rfl (fun c_17 => ?_) (fun c_17 => ?_)
    · try simp only [decide_eq_true_eq, decide_eq_false_iff_not, Bool.and_eq_true, bI_0, bI_n0] at c_17
      refine Wp.bipush (v := (-2)) dX11_best_31 (by decide) rfl ?_
      exact Wp.iret dX11_best_33 rfl (by refine ⟨?_, x1, A1, C1, ns, ws, cp1, ln1, lr, p1.up hj, ha1⟩; simp (disch := omega) only [a_best, isO, w01, isP, nI_tI, tn_nI]; (repeat' split) <;> first | (exfalso; omega) | rfl)
    · try simp only [decide_eq_true_eq, decide_eq_false_iff_not, Bool.and_eq_true, bI_0, bI_n0] at c_17
      refine Wp.iload dX11_best_20 rfl rfl ?_
      refine Wp.if_lt (tgt := 31) (n := 25) dX11_best_22 (by decide) rfl (fun c_22 => ?_) (fun c_22 => ?_)
      · try simp (disch := omega) only [nI_bit0, nI_bit1, Bool.not_eq_false, Bool.not_eq_true] at c_22
        try simp (disch := omega) only [i_lt, i_le, i_eq, l_lt, l_le, l_eq, i_0, i_m1, l_0, nI_tI, iI_tI, lI_tI, Int.not_lt, Int.not_le] at c_22
        refine Wp.bipush (v := (-2)) dX11_best_31 (by decide) rfl ?_
        exact Wp.iret dX11_best_33 rfl (by refine ⟨?_, x1, A1, C1, ns, ws, cp1, ln1, lr, p1.up hj, ha1⟩; simp (disch := omega) only [a_best, isO, w01, isP, nI_tI, tn_nI]; (repeat' split) <;> first | (exfalso; omega) | rfl)
      · try simp (disch := omega) only [nI_bit0, nI_bit1, Bool.not_eq_false, Bool.not_eq_true] at c_22
        try simp (disch := omega) only [i_lt, i_le, i_eq, l_lt, l_le, l_eq, i_0, i_m1, l_0, nI_tI, iI_tI, lI_tI, Int.not_lt, Int.not_le] at c_22
        refine Wp.iload dX11_best_25 rfl rfl ?_
        refine Wp.iconst (v := (nI 2)) dX11_best_27 (by decide) rfl ?_
        refine Wp.icmp_le (tgt := 34) (n := 31) dX11_best_28 (by decide) rfl (fun c_28 => ?_) (fun c_28 => ?_)
        · try simp (disch := omega) only [nI_bit0, nI_bit1, Bool.not_eq_false, Bool.not_eq_true] at c_28
          try simp (disch := omega) only [i_lt, i_le, i_eq, l_lt, l_le, l_eq, i_0, i_m1, l_0, nI_tI, iI_tI, lI_tI, Int.not_lt, Int.not_le] at c_28
          obtain ⟨k, rfl, hk, hk2⟩ := as_nI (o := w) (n := 3) (by omega)
          have tk := nI_tI hk2
          have hpq : pqB p.toInt q.toInt := ⟨by omega, by omega, by omega, by omega⟩
          refine Wp.aload dX11_best_34 rfl (by first | exact Or.inr ⟨_, rfl⟩ | exact Or.inl rfl) rfl ?_
          refine Wp.get dX11_best_36 (fl_X11_138 hO) (p1.S.at hVo) ov2 rfl ?_
          refine Wp.iload_n dX11_best_39 rfl rfl ?_
          refine Wp.iload_n dX11_best_40 rfl rfl ?_
          refine Wp.iload dX11_best_41 rfl rfl ?_
          refine Wp.cV dX11_best_43 cv_X11_193 rfl (by omega) rfl (Nat.le_of_ble_eq_true rfl) (Nat.le_of_ble_eq_true rfl) (p1.S.at hVc) rfl (c_X1_cheapestAt (d := d - 1) hH hPrB rfl rfl hpq (by omega) (by omega)) ?_
          rintro _ h_ ⟨rfl, e_⟩
          rw [e_]
          clear e_ h_
          dsimp only [Option.toList, List.drop, List.cons_append, List.nil_append]
          have hbi : bsI (cst (chS σ i) (chR σ i) p.toInt q.toInt) (Kw k (chR σ i)) (chn σ i) = if chn σ i = 0 then (-1 : Int) else (bst (cst (chS σ i) (chR σ i) p.toInt q.toInt) (Kw k (chR σ i)) (chn σ i) : Nat) := by unfold bsI; rfl
          have hbl := bst_lt (cst (chS σ i) (chR σ i) p.toInt q.toInt) (Kw k (chR σ i)) (chn σ i)
          refine Wp.istore dX11_best_46 (Nat.le_of_ble_eq_true rfl) (by dsimp only [ev_st1, ev_st2, ev_cl] <;> rfl) rfl ?_
          refine Wp.iload dX11_best_48 rfl rfl ?_
          refine Wp.if_ge (tgt := 57) (n := 53) dX11_best_50 (by decide) rfl (fun c_50 => ?_) (fun c_50 => ?_)
          · have c_50 : 0 < chn σ i := by
              rcases Nat.eq_zero_or_pos (chn σ i) with z | z
              · rw [hbi, if_pos z] at c_50; exact absurd c_50 (by decide)
              · exact z
            have hbl := hbl c_50
            rw [bsI_s c_50, ← nI_iI]
            refine Wp.aload dX11_best_57 rfl (by first | exact Or.inr ⟨_, rfl⟩ | exact Or.inl rfl) rfl ?_
            refine Wp.get dX11_best_59 (fl_X11_138 hO) (p1.S.at hVo) ov2 rfl ?_
            refine Wp.get dX11_best_62 fl_X11_157 (p1.S.at hVc) vc0 rfl ?_
            refine Wp.iload dX11_best_65 rfl rfl ?_
            refine Wp.iaload dX11_best_67 (p1.S.at kc0) (nI_toInt (by omega)) (by omega) rfl ?_
            rw [(hgc _ hbl).1]
            rw [show (chL σ.N (σ.O i)).getD (bst (cst (chS σ i) (chR σ i) p.toInt q.toInt) (Kw k (chR σ i)) (chn σ i)) 0 = chC σ i (bst (cst (chS σ i) (chR σ i) p.toInt q.toInt) (Kw k (chR σ i)) (chn σ i)) from rfl]
            exact Wp.iret dX11_best_68 rfl (by refine ⟨?_, x1, A1, C1, ns, ws, cp1, ln1, lr, p1.up hj, ha1⟩; simp (disch := omega) only [a_best, isO, w01, isP, nI_tI, tn_nI]; (repeat' split) <;> first | (exfalso; omega) | rfl)
          · have c_50 : ¬ 0 < chn σ i := fun z => by
              have hbl := hbl z
              rw [bsI_s z, ← nI_iI] at c_50
              simp (disch := omega) only [i_le, i_0, nI_tI] at c_50
              omega
            refine Wp.iconst (v := (-1)) dX11_best_53 (by decide) rfl ?_
            refine Wp.goto (n := 68) dX11_best_54 (by decide) ?_
            exact Wp.iret dX11_best_68 rfl (by refine ⟨?_, x1, A1, C1, ns, ws, cp1, ln1, lr, p1.up hj, ha1⟩; simp (disch := omega) only [a_best, isO, w01, isP, nI_tI, tn_nI]; (repeat' split) <;> first | (exfalso; omega) | rfl)
        · try simp (disch := omega) only [nI_bit0, nI_bit1, Bool.not_eq_false, Bool.not_eq_true] at c_28
          try simp (disch := omega) only [i_lt, i_le, i_eq, l_lt, l_le, l_eq, i_0, i_m1, l_0, nI_tI, iI_tI, lI_tI, Int.not_lt, Int.not_le] at c_28
          refine Wp.bipush (v := (-2)) dX11_best_31 (by decide) rfl ?_
          exact Wp.iret dX11_best_33 rfl (by refine ⟨?_, x1, A1, C1, ns, ws, cp1, ln1, lr, p1.up hj, ha1⟩; simp (disch := omega) only [a_best, isO, w01, isP, nI_tI, tn_nI]; (repeat' split) <;> first | (exfalso; omega) | rfl)
  · refine Wp.aload_n dX11_best_0 rfl (by first | exact Or.inr ⟨_, rfl⟩ | exact Or.inl rfl) rfl ?_
    refine Wp.iload_n dX11_best_1 rfl rfl ?_
    refine Wp.cV dX11_best_2 cv_X11_112 rfl (by omega) rfl (Nat.le_of_ble_eq_true rfl) (Nat.le_of_ble_eq_true rfl) (pS.S.at' hVb ha) rfl (c_X11_offerAt_n (d := d - 1) pS ha hW hio) ?_
    rintro _ h1 ⟨rfl, e1_⟩
    rw [e1_]
    clear e1_ h1
    dsimp only [Option.toList, List.drop, List.cons_append, List.nil_append]
    refine Wp.astore dX11_best_5 (by first | exact Or.inr ⟨_, rfl⟩ | exact Or.inl rfl) (Nat.le_of_ble_eq_true rfl) (by dsimp only [ev_st1, ev_cl] <;> rfl) rfl ?_
    refine Wp.aload dX11_best_7 rfl (by first | exact Or.inr ⟨_, rfl⟩ | exact Or.inl rfl) rfl ?_
    refine Wp.ifnullN (n := 31) dX11_best_9 (by decide) ?_
    refine Wp.bipush (v := (-2)) dX11_best_31 (by decide) rfl ?_
    exact Wp.iret dX11_best_33 rfl (by refine ⟨?_, FX.rfl, A, C, ns, ws, cp, ln, lr, pS.up hj, ha⟩; simp (disch := omega) only [a_best, isO, w01, isP, nI_tI, tn_nI]; (repeat' split) <;> first | (exfalso; omega) | rfl)
def OWQ (X : Nat → Prop) (w0 : Nat) (h : ev_H) (a0 : Nat) (σ : Sg) (ns ws lr j : Nat) (v : Option Value) (h' : ev_H) : Prop := ∃ A C cp ln, v = some .null ∧ FX X h h' ∧ A 0 = a0 ∧ PS X w0 h' A C σ ns ws cp ln lr j
theorem c_X11_offerWithChoices_y {B : ev_B} {d i a0 w0 j : Nat} {X : Nat → Prop} {h : ev_H} {A : Nat → Nat} {C : Nat → Option ev_E} {σ : Sg} {ns ws : Nat} {cp ln : Nat → Nat} {lr : Nat} (pS : PS X w0 h A C σ ns ws cp ln lr j) (ha : A 0 = a0) (hW : Wf σ) (ho : i < σ.n) (hd : 35 ≤ d) (hc : 0 < chn σ i) :
    Wp B d M_X11_offerWithChoices 0 [some (.ref a0), some (.int (nI i)), none] [] h (OAQ X w0 h a0 σ ns ws lr j i) := by
  have hn10 := hW.n
  obtain ⟨Vb, hVb, b0, b1, b2, b3, b4, b5, b6, b7⟩ := id pS.ben
  refine Wp.aload_n dX11_offerWithChoices_0 rfl (by first | exact Or.inr ⟨_, rfl⟩ | exact Or.inl rfl) rfl ?_
  refine Wp.iload_n dX11_offerWithChoices_1 rfl rfl ?_
  refine Wp.cV dX11_offerWithChoices_2 cv_X11_112 rfl (by omega) rfl (Nat.le_of_ble_eq_true rfl) (Nat.le_of_ble_eq_true rfl) (pS.S.at' hVb ha) rfl (c_X11_offerAt_y (d := d - 1) pS ha hW ho (by omega)) ?_
  rintro _ h1 ⟨A1, C1, cp1, ln1, rfl, x1, ha1, p1, on1⟩
  dsimp only [Option.toList, List.drop, List.cons_append, List.nil_append]
  obtain ⟨Vd, hVd, d0_, d1_, d2_, d3_, d4_, d5_, d6_, d7_⟩ := id p1.ben
  obtain ⟨Vw1, hVw1, -⟩ := id p1.win
  obtain ⟨Vq1, gq1, hVq1, rqa0, rqa1, hgq1, rqa2, rqa3⟩ := id p1.row.1
  obtain ⟨zf1, hzf1⟩ := id p1.fo
  obtain ⟨Vo, bso, nbo, rbo, hVo, hOV, vo4, vo5, hch, hcap, hrow, hnb, hlen, hbs, hbok⟩ := id on1
  obtain ⟨ov0, ov1, ov2, ov3, ov5, ov6, ov7⟩ := id hOV
  obtain ⟨Vc, gc0, gc1, gc2, hVc, vc0, vc1, vc2, vc3, kc0, kc1, kc2, hlc, h8c, hgc⟩ := id hch
  have hO := ciO_is (σ.O i).k
  have hchn := chn_le σ i
  have hPrB := PrB_ch hW i
  change Vc 3 = .int (nI (chn σ i)) at vc3
  have hlc' : chn σ i ≤ cp1 i := hlc
  have hH := on1.H p1.S
  refine Wp.astore_n dX11_offerWithChoices_5 (by first | exact Or.inr ⟨_, rfl⟩ | exact Or.inl rfl) (Nat.le_of_ble_eq_true rfl) (by dsimp only [ev_st1, ev_cl] <;> rfl) rfl ?_
  refine Wp.aload_n dX11_offerWithChoices_6 rfl (by first | exact Or.inr ⟨_, rfl⟩ | exact Or.inl rfl) rfl ?_
  refine Wp.ifnull (n := 10) dX11_offerWithChoices_7 rfl ?_
  refine Wp.aload_n dX11_offerWithChoices_10 rfl (by first | exact Or.inr ⟨_, rfl⟩ | exact Or.inl rfl) rfl ?_
  refine Wp.get dX11_offerWithChoices_11 (fl_X11_138 hO) (p1.S.at hVo) ov2 rfl ?_
  refine Wp.get dX11_offerWithChoices_14 fl_X11_142 (p1.S.at hVc) vc3 rfl ?_
  refine Wp.if_le (tgt := 24) (n := 20) dX11_offerWithChoices_17 (by decide) rfl (fun c_17 => ?_) (fun c_17 => ?_)
  · try simp (disch := omega) only [nI_bit0, nI_bit1, Bool.not_eq_false, Bool.not_eq_true] at c_17
    try simp (disch := omega) only [i_lt, i_le, i_eq, l_lt, l_le, l_eq, i_0, i_m1, l_0, nI_tI, iI_tI, lI_tI, Int.not_lt, Int.not_le] at c_17
    omega
  · try simp (disch := omega) only [nI_bit0, nI_bit1, Bool.not_eq_false, Bool.not_eq_true] at c_17
    try simp (disch := omega) only [i_lt, i_le, i_eq, l_lt, l_le, l_eq, i_0, i_m1, l_0, nI_tI, iI_tI, lI_tI, Int.not_lt, Int.not_le] at c_17
    refine Wp.aload_n dX11_offerWithChoices_20 rfl (by first | exact Or.inr ⟨_, rfl⟩ | exact Or.inl rfl) rfl ?_
    refine Wp.goto (n := 25) dX11_offerWithChoices_21 (by decide) ?_
    exact Wp.aret dX11_offerWithChoices_25 rfl (Or.inl ⟨_, rfl⟩) (by first | exact Or.inr ⟨_, rfl⟩ | exact Or.inl rfl) (by exact ⟨A1, C1, cp1, ln1, rfl, x1, ha1, p1, on1⟩)
theorem c_X11_offerWithChoices_z {B : ev_B} {d i a0 w0 j : Nat} {X : Nat → Prop} {h : ev_H} {A : Nat → Nat} {C : Nat → Option ev_E} {σ : Sg} {ns ws : Nat} {cp ln : Nat → Nat} {lr : Nat} (pS : PS X w0 h A C σ ns ws cp ln lr j) (ha : A 0 = a0) (hW : Wf σ) (ho : i < σ.n) (hd : 35 ≤ d) (hc : chn σ i = 0) :
    Wp B d M_X11_offerWithChoices 0 [some (.ref a0), some (.int (nI i)), none] [] h (OWQ X w0 h a0 σ ns ws lr j) := by
  have hn10 := hW.n
  obtain ⟨Vb, hVb, b0, b1, b2, b3, b4, b5, b6, b7⟩ := id pS.ben
  refine Wp.aload_n dX11_offerWithChoices_0 rfl (by first | exact Or.inr ⟨_, rfl⟩ | exact Or.inl rfl) rfl ?_
  refine Wp.iload_n dX11_offerWithChoices_1 rfl rfl ?_
  refine Wp.cV dX11_offerWithChoices_2 cv_X11_112 rfl (by omega) rfl (Nat.le_of_ble_eq_true rfl) (Nat.le_of_ble_eq_true rfl) (pS.S.at' hVb ha) rfl (c_X11_offerAt_y (d := d - 1) pS ha hW ho (by omega)) ?_
  rintro _ h1 ⟨A1, C1, cp1, ln1, rfl, x1, ha1, p1, on1⟩
  dsimp only [Option.toList, List.drop, List.cons_append, List.nil_append]
  obtain ⟨Vd, hVd, d0_, d1_, d2_, d3_, d4_, d5_, d6_, d7_⟩ := id p1.ben
  obtain ⟨Vw1, hVw1, -⟩ := id p1.win
  obtain ⟨Vq1, gq1, hVq1, rqa0, rqa1, hgq1, rqa2, rqa3⟩ := id p1.row.1
  obtain ⟨zf1, hzf1⟩ := id p1.fo
  obtain ⟨Vo, bso, nbo, rbo, hVo, hOV, vo4, vo5, hch, hcap, hrow, hnb, hlen, hbs, hbok⟩ := id on1
  obtain ⟨ov0, ov1, ov2, ov3, ov5, ov6, ov7⟩ := id hOV
  obtain ⟨Vc, gc0, gc1, gc2, hVc, vc0, vc1, vc2, vc3, kc0, kc1, kc2, hlc, h8c, hgc⟩ := id hch
  have hO := ciO_is (σ.O i).k
  have hchn := chn_le σ i
  have hPrB := PrB_ch hW i
  change Vc 3 = .int (nI (chn σ i)) at vc3
  have hlc' : chn σ i ≤ cp1 i := hlc
  have hH := on1.H p1.S
  refine Wp.astore_n dX11_offerWithChoices_5 (by first | exact Or.inr ⟨_, rfl⟩ | exact Or.inl rfl) (Nat.le_of_ble_eq_true rfl) (by dsimp only [ev_st1, ev_cl] <;> rfl) rfl ?_
  refine Wp.aload_n dX11_offerWithChoices_6 rfl (by first | exact Or.inr ⟨_, rfl⟩ | exact Or.inl rfl) rfl ?_
  refine Wp.ifnull (n := 10) dX11_offerWithChoices_7 rfl ?_
  refine Wp.aload_n dX11_offerWithChoices_10 rfl (by first | exact Or.inr ⟨_, rfl⟩ | exact Or.inl rfl) rfl ?_
  refine Wp.get dX11_offerWithChoices_11 (fl_X11_138 hO) (p1.S.at hVo) ov2 rfl ?_
  refine Wp.get dX11_offerWithChoices_14 fl_X11_142 (p1.S.at hVc) vc3 rfl ?_
  refine Wp.if_le (tgt := 24) (n := 20) dX11_offerWithChoices_17 (by decide) rfl (fun c_17 => ?_) (fun c_17 => ?_)
  · try simp (disch := omega) only [nI_bit0, nI_bit1, Bool.not_eq_false, Bool.not_eq_true] at c_17
    try simp (disch := omega) only [i_lt, i_le, i_eq, l_lt, l_le, l_eq, i_0, i_m1, l_0, nI_tI, iI_tI, lI_tI, Int.not_lt, Int.not_le] at c_17
    refine Wp.aconst_null dX11_offerWithChoices_24 rfl ?_
    exact Wp.aret dX11_offerWithChoices_25 rfl (Or.inl ⟨_, rfl⟩) (by first | exact Or.inr ⟨_, rfl⟩ | exact Or.inl rfl) (by exact ⟨A1, C1, cp1, ln1, rfl, x1, ha1, p1⟩)
  · try simp (disch := omega) only [nI_bit0, nI_bit1, Bool.not_eq_false, Bool.not_eq_true] at c_17
    try simp (disch := omega) only [i_lt, i_le, i_eq, l_lt, l_le, l_eq, i_0, i_m1, l_0, nI_tI, iI_tI, lI_tI, Int.not_lt, Int.not_le] at c_17
    omega
theorem c_X11_offerWithChoices_n {B : ev_B} {d a0 w0 j : Nat} {X : Nat → Prop} {h : ev_H} {A : Nat → Nat} {C : Nat → Option ev_E} {σ : Sg} {ns ws : Nat} {cp ln : Nat → Nat} {lr : Nat} {o : Int32} (pS : PS X w0 h A C σ ns ws cp ln lr j) (ha : A 0 = a0) (hW : Wf σ) (ho : ¬ (0 ≤ o.toInt ∧ o.toInt < σ.n)) (hd : 1 ≤ d) :
    Wp B d M_X11_offerWithChoices 0 [some (.ref a0), some (.int o), none] [] h (fun v h' => v = some .null ∧ h' = h) := by
  obtain ⟨Vb, hVb, b0, b1, b2, b3, b4, b5, b6, b7⟩ := id pS.ben
  refine Wp.aload_n dX11_offerWithChoices_0 rfl (by first | exact Or.inr ⟨_, rfl⟩ | exact Or.inl rfl) rfl ?_
  refine Wp.iload_n dX11_offerWithChoices_1 rfl rfl ?_
  refine Wp.cV dX11_offerWithChoices_2 cv_X11_112 rfl (by omega) rfl (Nat.le_of_ble_eq_true rfl) (Nat.le_of_ble_eq_true rfl) (pS.S.at' hVb ha) rfl (c_X11_offerAt_n (d := d - 1) pS ha hW ho) ?_
  rintro _ h1 ⟨rfl, e1_⟩
  rw [e1_]
  clear e1_ h1
  dsimp only [Option.toList, List.drop, List.cons_append, List.nil_append]
  refine Wp.astore_n dX11_offerWithChoices_5 (by first | exact Or.inr ⟨_, rfl⟩ | exact Or.inl rfl) (Nat.le_of_ble_eq_true rfl) (by dsimp only [ev_st1, ev_cl] <;> rfl) rfl ?_
  refine Wp.aload_n dX11_offerWithChoices_6 rfl (by first | exact Or.inr ⟨_, rfl⟩ | exact Or.inl rfl) rfl ?_
  refine Wp.ifnullN (n := 24) dX11_offerWithChoices_7 (by decide) ?_
  refine Wp.aconst_null dX11_offerWithChoices_24 rfl ?_
  exact Wp.aret dX11_offerWithChoices_25 rfl (Or.inl ⟨_, rfl⟩) (by first | exact Or.inr ⟨_, rfl⟩ | exact Or.inl rfl) (by exact ⟨rfl, rfl⟩)
set_option maxHeartbeats 1000000 in
theorem c_X11_least {B : ev_B} {d a0 w0 j : Nat} {X : Nat → Prop} {h : ev_H} {σ : Sg} {o p q w : Int32} (hp : PSx X w0 h a0 σ j) (hW : Wf σ) (hj : j + 1 ≤ 600) (hd : 36 ≤ d) :
    Wp B d M_X11_least 0 [some (.ref a0), some (.int (o)), some (.int (p)), some (.int (q)), some (.int (w)), none] [] h (CQ X w0 h a0 (σ) j (.long (a_least σ o p q w))) := by
  obtain ⟨A, C, ns, ws, cp, ln, lr, pS, ha⟩ := hp
  obtain ⟨Vb, hVb, b0, b1, b2, b3, b4, b5, b6, b7⟩ := id pS.ben
  obtain ⟨Vw, hVw, -⟩ := id pS.win
  obtain ⟨Vq, gq, hVq, rq0, rq1, hgq, rq2, rq3⟩ := id pS.row.1
  obtain ⟨zf, hzf⟩ := id pS.fo
  have hcn := pS.cnt
  have hn10 := hW.n
  by_cases hio : 0 ≤ o.toInt ∧ o.toInt < σ.n
  · obtain ⟨i, rfl, ho, ho2⟩ := as_nI hio
    have ti := nI_tI ho2
    have hOw := hW.of i ho
    by_cases hch0 : 0 < chn σ i
    · refine Wp.aload_n dX11_least_0 rfl (by first | exact Or.inr ⟨_, rfl⟩ | exact Or.inl rfl) rfl ?_
      refine Wp.iload_n dX11_least_1 rfl rfl ?_
      refine Wp.cV dX11_least_2 cv_X11_197 rfl (by omega) rfl (Nat.le_of_ble_eq_true rfl) (Nat.le_of_ble_eq_true rfl) (pS.S.at' hVb ha) rfl (c_X11_offerWithChoices_y (d := d - 1) pS ha hW ho (by omega) hch0) ?_
      rintro _ h1 ⟨A1, C1, cp1, ln1, rfl, x1, ha1, p1, on1⟩
      dsimp only [Option.toList, List.drop, List.cons_append, List.nil_append]
      obtain ⟨Vd, hVd, d0_, d1_, d2_, d3_, d4_, d5_, d6_, d7_⟩ := id p1.ben
      obtain ⟨Vw1, hVw1, -⟩ := id p1.win
      obtain ⟨Vq1, gq1, hVq1, rqa0, rqa1, hgq1, rqa2, rqa3⟩ := id p1.row.1
      obtain ⟨zf1, hzf1⟩ := id p1.fo
      obtain ⟨Vo, bso, nbo, rbo, hVo, hOV, vo4, vo5, hch, hcap, hrow, hnb, hlen, hbs, hbok⟩ := id on1
      obtain ⟨ov0, ov1, ov2, ov3, ov5, ov6, ov7⟩ := id hOV
      obtain ⟨Vc, gc0, gc1, gc2, hVc, vc0, vc1, vc2, vc3, kc0, kc1, kc2, hlc, h8c, hgc⟩ := id hch
      have hO := ciO_is (σ.O i).k
      have hchn := chn_le σ i
      have hPrB := PrB_ch hW i
      change Vc 3 = .int (nI (chn σ i)) at vc3
      have hlc' : chn σ i ≤ cp1 i := hlc
      have hH := on1.H p1.S
      refine Wp.astore dX11_least_5 (by first | exact Or.inr ⟨_, rfl⟩ | exact Or.inl rfl) (Nat.le_of_ble_eq_true rfl) (by dsimp only [ev_st1, ev_cl] <;> rfl) rfl ?_
      refine Wp.aload dX11_least_7 rfl (by first | exact Or.inr ⟨_, rfl⟩ | exact Or.inl rfl) rfl ?_
      refine Wp.ifnull (n := 12) dX11_least_9 rfl ?_
      refine Wp.iload_n dX11_least_12 rfl rfl ?_
      refine Wp.iload_n dX11_least_13 rfl rfl ?_
      refine Wp.cS dX11_least_14 cs_X11_174 rfl (by omega) rfl (Nat.le_of_ble_eq_true rfl) (Nat.le_of_ble_eq_true rfl) rfl (c_X11_isPrice (d := d - 1)) ?_
      rintro _ h_ ⟨rfl, e_⟩
      rw [e_]
      clear e_ h_
      dsimp only [Option.toList, List.drop, List.cons_append, List.nil_append]
      refine Wp.bif_eq (tgt := 31) (n := 20) dX11_least_17 (by decide) rfl (fun c_17 => ?_) (fun c_17 => ?_)
      · try simp only [decide_eq_true_eq, decide_eq_false_iff_not, Bool.and_eq_true, bI_0, bI_n0] at c_17
        refine Wp.ldc2 kc_X11_177 dX11_least_31 rfl ?_
        exact Wp.lret dX11_least_34 rfl (by refine ⟨?_, x1, A1, C1, ns, ws, cp1, ln1, lr, p1.up hj, ha1⟩; simp (disch := omega) only [a_least, isO, w01, isP, nI_tI, tn_nI]; (repeat' split) <;> first | (exfalso; omega) | rfl)
      · try simp only [decide_eq_true_eq, decide_eq_false_iff_not, Bool.and_eq_true, bI_0, bI_n0] at c_17
        refine Wp.iload dX11_least_20 rfl rfl ?_
        refine Wp.if_lt (tgt := 31) (n := 25) dX11_least_22 (by decide) rfl (fun c_22 => ?_) (fun c_22 => ?_)
        · try simp (disch := omega) only [nI_bit0, nI_bit1, Bool.not_eq_false, Bool.not_eq_true] at c_22
          try simp (disch := omega) only [i_lt, i_le, i_eq, l_lt, l_le, l_eq, i_0, i_m1, l_0, nI_tI, iI_tI, lI_tI, Int.not_lt, Int.not_le] at c_22
          refine Wp.ldc2 kc_X11_177 dX11_least_31 rfl ?_
          exact Wp.lret dX11_least_34 rfl (by refine ⟨?_, x1, A1, C1, ns, ws, cp1, ln1, lr, p1.up hj, ha1⟩; simp (disch := omega) only [a_least, isO, w01, isP, nI_tI, tn_nI]; (repeat' split) <;> first | (exfalso; omega) | rfl)
        · try simp (disch := omega) only [nI_bit0, nI_bit1, Bool.not_eq_false, Bool.not_eq_true] at c_22
          try simp (disch := omega) only [i_lt, i_le, i_eq, l_lt, l_le, l_eq, i_0, i_m1, l_0, nI_tI, iI_tI, lI_tI, Int.not_lt, Int.not_le] at c_22
          refine Wp.iload dX11_least_25 rfl rfl ?_
          refine Wp.iconst (v := (nI 1)) dX11_least_27 (by decide) rfl ?_
          refine Wp.icmp_le (tgt := 35) (n := 31) dX11_least_28 (by decide) rfl (fun c_28 => ?_) (fun c_28 => ?_)
          · try simp (disch := omega) only [nI_bit0, nI_bit1, Bool.not_eq_false, Bool.not_eq_true] at c_28
            try simp (disch := omega) only [i_lt, i_le, i_eq, l_lt, l_le, l_eq, i_0, i_m1, l_0, nI_tI, iI_tI, lI_tI, Int.not_lt, Int.not_le] at c_28
            have hpq : pqB p.toInt q.toInt := ⟨by omega, by omega, by omega, by omega⟩
            refine Wp.aload dX11_least_35 rfl (by first | exact Or.inr ⟨_, rfl⟩ | exact Or.inl rfl) rfl ?_
            refine Wp.get dX11_least_37 (fl_X11_138 hO) (p1.S.at hVo) ov2 rfl ?_
            refine Wp.iload_n dX11_least_40 rfl rfl ?_
            refine Wp.iload_n dX11_least_41 rfl rfl ?_
            refine Wp.cV dX11_least_42 cv_X11_200 rfl (by omega) rfl (Nat.le_of_ble_eq_true rfl) (Nat.le_of_ble_eq_true rfl) (p1.S.at hVc) rfl (c_X1_leastAt (d := d - 1) hH hPrB rfl rfl hpq (by omega)) ?_
            rintro _ h_ ⟨rfl, e_⟩
            rw [e_]
            clear e_ h_
            dsimp only [Option.toList, List.drop, List.cons_append, List.nil_append]
            rw [show mnI (cst (chS σ i) (chR σ i) p.toInt q.toInt) (chn σ i) = mnN (cst (chS σ i) (chR σ i) p.toInt q.toInt) (chn σ i) by rw [mnI, if_neg (by omega)]]
            have hmb := mnN_b hPrB (Nat.le_refl _) hch0 hpq
            refine Wp.iload_n dX11_least_45 rfl rfl ?_
            refine Wp.i2l dX11_least_46 rfl ?_
            rw [i2l_lI]
            refine Wp.iload dX11_least_47 rfl rfl ?_
            refine Wp.cS dX11_least_49 cs_X11_189 rfl (by omega) rfl (Nat.le_of_ble_eq_true rfl) (Nat.le_of_ble_eq_true rfl) rfl (c_X11_lowest (d := d - 1) (sm_b (by omega) (by omega)) (sm_b (by omega) (by omega)) (by omega) (by omega)) ?_
            rintro _ h_ ⟨rfl, e_⟩
            rw [e_]
            clear e_ h_
            dsimp only [Option.toList, List.drop, List.cons_append, List.nil_append]
            exact Wp.lret dX11_least_52 rfl (by refine ⟨?_, x1, A1, C1, ns, ws, cp1, ln1, lr, p1.up hj, ha1⟩; simp (disch := omega) only [a_least, isO, w01, isP, nI_tI, tn_nI]; (repeat' split) <;> first | (exfalso; omega) | rfl)
          · try simp (disch := omega) only [nI_bit0, nI_bit1, Bool.not_eq_false, Bool.not_eq_true] at c_28
            try simp (disch := omega) only [i_lt, i_le, i_eq, l_lt, l_le, l_eq, i_0, i_m1, l_0, nI_tI, iI_tI, lI_tI, Int.not_lt, Int.not_le] at c_28
            refine Wp.ldc2 kc_X11_177 dX11_least_31 rfl ?_
            exact Wp.lret dX11_least_34 rfl (by refine ⟨?_, x1, A1, C1, ns, ws, cp1, ln1, lr, p1.up hj, ha1⟩; simp (disch := omega) only [a_least, isO, w01, isP, nI_tI, tn_nI]; (repeat' split) <;> first | (exfalso; omega) | rfl)
    · refine Wp.aload_n dX11_least_0 rfl (by first | exact Or.inr ⟨_, rfl⟩ | exact Or.inl rfl) rfl ?_
      refine Wp.iload_n dX11_least_1 rfl rfl ?_
      refine Wp.cV dX11_least_2 cv_X11_197 rfl (by omega) rfl (Nat.le_of_ble_eq_true rfl) (Nat.le_of_ble_eq_true rfl) (pS.S.at' hVb ha) rfl (c_X11_offerWithChoices_z (d := d - 1) pS ha hW ho (by omega) (by omega)) ?_
      rintro _ h1 ⟨A1, C1, cp1, ln1, rfl, x1, ha1, p1⟩
      dsimp only [Option.toList, List.drop, List.cons_append, List.nil_append]
      obtain ⟨Vd, hVd, d0_, d1_, d2_, d3_, d4_, d5_, d6_, d7_⟩ := id p1.ben
      obtain ⟨Vw1, hVw1, -⟩ := id p1.win
      refine Wp.astore dX11_least_5 (by first | exact Or.inr ⟨_, rfl⟩ | exact Or.inl rfl) (Nat.le_of_ble_eq_true rfl) (by dsimp only [ev_st1, ev_cl] <;> rfl) rfl ?_
      refine Wp.aload dX11_least_7 rfl (by first | exact Or.inr ⟨_, rfl⟩ | exact Or.inl rfl) rfl ?_
      refine Wp.ifnullN (n := 31) dX11_least_9 (by decide) ?_
      refine Wp.ldc2 kc_X11_177 dX11_least_31 rfl ?_
      exact Wp.lret dX11_least_34 rfl (by refine ⟨?_, x1, A1, C1, ns, ws, cp1, ln1, lr, p1.up hj, ha1⟩; simp (disch := omega) only [a_least, isO, w01, isP, nI_tI, tn_nI]; (repeat' split) <;> first | (exfalso; omega) | rfl)
  · refine Wp.aload_n dX11_least_0 rfl (by first | exact Or.inr ⟨_, rfl⟩ | exact Or.inl rfl) rfl ?_
    refine Wp.iload_n dX11_least_1 rfl rfl ?_
    refine Wp.cV dX11_least_2 cv_X11_197 rfl (by omega) rfl (Nat.le_of_ble_eq_true rfl) (Nat.le_of_ble_eq_true rfl) (pS.S.at' hVb ha) rfl (c_X11_offerWithChoices_n (d := d - 1) pS ha hW hio (by omega)) ?_
    rintro _ h1 ⟨rfl, e1_⟩
    rw [e1_]
    clear e1_ h1
    dsimp only [Option.toList, List.drop, List.cons_append, List.nil_append]
    refine Wp.astore dX11_least_5 (by first | exact Or.inr ⟨_, rfl⟩ | exact Or.inl rfl) (Nat.le_of_ble_eq_true rfl) (by dsimp only [ev_st1, ev_cl] <;> rfl) rfl ?_
    refine Wp.aload dX11_least_7 rfl (by first | exact Or.inr ⟨_, rfl⟩ | exact Or.inl rfl) rfl ?_
    refine Wp.ifnullN (n := 31) dX11_least_9 (by decide) ?_
    refine Wp.ldc2 kc_X11_177 dX11_least_31 rfl ?_
    exact Wp.lret dX11_least_34 rfl (by refine ⟨?_, FX.rfl, A, C, ns, ws, cp, ln, lr, pS.up hj, ha⟩; simp (disch := omega) only [a_least, isO, w01, isP, nI_tI, tn_nI]; (repeat' split) <;> first | (exfalso; omega) | rfl)
set_option maxHeartbeats 1000000 in
theorem c_X11_window {B : ev_B} {d a0 w0 j : Nat} {X : Nat → Prop} {h : ev_H} {σ : Sg} {p q p2 q2 : Int32} (hp : PSx X w0 h a0 σ j) (hW : Wf σ) (hj : j + 1 ≤ 600) (hd : 3 ≤ d) :
    Wp B d M_X11_window 0 [some (.ref a0), some (.int (p)), some (.int (q)), some (.int (p2)), some (.int (q2))] [] h (CQ X w0 h a0 (t_window σ p q p2 q2) j (.int (a_window p q p2 q2))) := by
  obtain ⟨A, C, ns, ws, cp, ln, lr, pS, ha⟩ := hp
  obtain ⟨Vb, hVb, b0, b1, b2, b3, b4, b5, b6, b7⟩ := id pS.ben
  obtain ⟨Vw, hVw, -⟩ := id pS.win
  obtain ⟨Vq, gq, hVq, rq0, rq1, hgq, rq2, rq3⟩ := id pS.row.1
  obtain ⟨zf, hzf⟩ := id pS.fo
  have hcn := pS.cnt
  have hn10 := hW.n
  refine Wp.iload_n dX11_window_0 rfl rfl ?_
  refine Wp.iload_n dX11_window_1 rfl rfl ?_
  refine Wp.cS dX11_window_2 cs_X11_174 rfl (by omega) rfl (Nat.le_of_ble_eq_true rfl) (Nat.le_of_ble_eq_true rfl) rfl (c_X11_isPrice (d := d - 1)) ?_
  rintro _ h_ ⟨rfl, e_⟩
  rw [e_]
  clear e_ h_
  dsimp only [Option.toList, List.drop, List.cons_append, List.nil_append]
  refine Wp.bif_eq (tgt := 32) (n := 8) dX11_window_5 (by decide) rfl (fun c_5 => ?_) (fun c_5 => ?_)
  · try simp only [decide_eq_true_eq, decide_eq_false_iff_not, Bool.and_eq_true, bI_0, bI_n0] at c_5
    refine Wp.bipush (v := (-2)) dX11_window_32 (by decide) rfl ?_
    exact Wp.iret dX11_window_34 rfl (by rw [a_window, t_window, if_neg (by omega), if_neg (by omega)]; exact ⟨rfl, FX.rfl, A, C, ns, ws, cp, ln, lr, pS.up hj, ha⟩)
  · try simp only [decide_eq_true_eq, decide_eq_false_iff_not, Bool.and_eq_true, bI_0, bI_n0] at c_5
    refine Wp.iload_n dX11_window_8 rfl rfl ?_
    refine Wp.iload dX11_window_9 rfl rfl ?_
    refine Wp.cS dX11_window_11 cs_X11_174 rfl (by omega) rfl (Nat.le_of_ble_eq_true rfl) (Nat.le_of_ble_eq_true rfl) rfl (c_X11_isPrice (d := d - 1)) ?_
    rintro _ h_ ⟨rfl, e_⟩
    rw [e_]
    clear e_ h_
    dsimp only [Option.toList, List.drop, List.cons_append, List.nil_append]
    refine Wp.bif_eq (tgt := 32) (n := 17) dX11_window_14 (by decide) rfl (fun c_14 => ?_) (fun c_14 => ?_)
    · try simp only [decide_eq_true_eq, decide_eq_false_iff_not, Bool.and_eq_true, bI_0, bI_n0] at c_14
      refine Wp.bipush (v := (-2)) dX11_window_32 (by decide) rfl ?_
      exact Wp.iret dX11_window_34 rfl (by rw [a_window, t_window, if_neg (by omega), if_neg (by omega)]; exact ⟨rfl, FX.rfl, A, C, ns, ws, cp, ln, lr, pS.up hj, ha⟩)
    · try simp only [decide_eq_true_eq, decide_eq_false_iff_not, Bool.and_eq_true, bI_0, bI_n0] at c_14
      refine Wp.iload_n dX11_window_17 rfl rfl ?_
      refine Wp.i2l dX11_window_18 rfl ?_
      rw [i2l_lI]
      refine Wp.iload dX11_window_19 rfl rfl ?_
      refine Wp.i2l dX11_window_21 rfl ?_
      rw [i2l_lI]
      refine Wp.iload_n dX11_window_22 rfl rfl ?_
      refine Wp.i2l dX11_window_23 rfl ?_
      rw [i2l_lI]
      refine Wp.iload_n dX11_window_24 rfl rfl ?_
      refine Wp.i2l dX11_window_25 rfl ?_
      rw [i2l_lI]
      have m1 := mulb (a := p2.toInt) (b := q.toInt) (A := 10000) (C := 1000) (by omega) (by omega)
      have m2 := mulb (a := p.toInt) (b := q2.toInt) (A := 10000) (C := 1000) (by omega) (by omega)
      refine Wp.cS dX11_window_26 cs_X11_204 rfl (by omega) rfl (Nat.le_of_ble_eq_true rfl) (Nat.le_of_ble_eq_true rfl) rfl (c_X11_isLess (d := d - 1) (sm_b (by omega) (by omega)) (sm_b (by omega) (by omega))) ?_
      rintro _ h_ ⟨rfl, e_⟩
      rw [e_]
      clear e_ h_
      dsimp only [Option.toList, List.drop, List.cons_append, List.nil_append]
      refine Wp.bif_eq (tgt := 35) (n := 32) dX11_window_29 (by decide) rfl (fun c_29 => ?_) (fun c_29 => ?_)
      · try simp only [decide_eq_true_eq, decide_eq_false_iff_not, Bool.and_eq_true, bI_0, bI_n0] at c_29
        refine Wp.aload_n dX11_window_35 rfl (by first | exact Or.inr ⟨_, rfl⟩ | exact Or.inl rfl) rfl ?_
        refine Wp.get dX11_window_36 fl_X11_25 (pS.S.at' hVb ha) b3 rfl ?_
        refine Wp.iload_n dX11_window_39 rfl rfl ?_
        refine Wp.iload_n dX11_window_40 rfl rfl ?_
        refine Wp.iload_n dX11_window_41 rfl rfl ?_
        refine Wp.iload dX11_window_42 rfl rfl ?_
        refine Wp.cV dX11_window_44 cv_X11_208 rfl (by omega) rfl (Nat.le_of_ble_eq_true rfl) (Nat.le_of_ble_eq_true rfl) (pS.S.at hVw) rfl (c_X10_become (d := d - 1) pS.S pS.win) ?_
        rintro _ h1 ⟨rfl, C1, S1, o1, f1, w1⟩
        dsimp only [Option.toList, List.drop, List.cons_append, List.nil_append]
        refine Wp.iconst (v := (nI 1)) dX11_window_47 (by decide) rfl ?_
        exact Wp.iret dX11_window_48 rfl (by rw [a_window, t_window, if_pos (by omega), if_pos (by omega)]; exact ⟨rfl, o1.fx, A, C1, ns, ws + 1, cp, ln, lr, pS.wino hj S1 o1 f1 w1, ha⟩)
      · try simp only [decide_eq_true_eq, decide_eq_false_iff_not, Bool.and_eq_true, bI_0, bI_n0] at c_29
        refine Wp.bipush (v := (-2)) dX11_window_32 (by decide) rfl ?_
        exact Wp.iret dX11_window_34 rfl (by rw [a_window, t_window, if_neg (by omega), if_neg (by omega)]; exact ⟨rfl, FX.rfl, A, C, ns, ws, cp, ln, lr, pS.up hj, ha⟩)
set_option maxHeartbeats 1000000 in
theorem c_X11_bends {B : ev_B} {d a0 w0 j : Nat} {X : Nat → Prop} {h : ev_H} {σ : Sg} {o : Int32} (hp : PSx X w0 h a0 σ j) (hW : Wf σ) (hj : j + 1 ≤ 600) (hd : 35 ≤ d) :
    Wp B d M_X11_bends 0 [some (.ref a0), some (.int (o)), none] [] h (CQ X w0 h a0 (σ) j (.int (a_bends σ o))) := by
  obtain ⟨A, C, ns, ws, cp, ln, lr, pS, ha⟩ := hp
  obtain ⟨Vb, hVb, b0, b1, b2, b3, b4, b5, b6, b7⟩ := id pS.ben
  obtain ⟨Vw, hVw, -⟩ := id pS.win
  obtain ⟨Vq, gq, hVq, rq0, rq1, hgq, rq2, rq3⟩ := id pS.row.1
  obtain ⟨zf, hzf⟩ := id pS.fo
  have hcn := pS.cnt
  have hn10 := hW.n
  by_cases hio : 0 ≤ o.toInt ∧ o.toInt < σ.n
  · obtain ⟨i, rfl, ho, ho2⟩ := as_nI hio
    have ti := nI_tI ho2
    have hOw := hW.of i ho
    refine Wp.aload_n dX11_bends_0 rfl (by first | exact Or.inr ⟨_, rfl⟩ | exact Or.inl rfl) rfl ?_
    refine Wp.iload_n dX11_bends_1 rfl rfl ?_
    refine Wp.cV dX11_bends_2 cv_X11_112 rfl (by omega) rfl (Nat.le_of_ble_eq_true rfl) (Nat.le_of_ble_eq_true rfl) (pS.S.at' hVb ha) rfl (c_X11_offerAt_y (d := d - 1) pS ha hW ho (by omega)) ?_
    rintro _ h1 ⟨A1, C1, cp1, ln1, rfl, x1, ha1, p1, on1⟩
    dsimp only [Option.toList, List.drop, List.cons_append, List.nil_append]
    obtain ⟨Vd, hVd, d0_, d1_, d2_, d3_, d4_, d5_, d6_, d7_⟩ := id p1.ben
    obtain ⟨Vw1, hVw1, -⟩ := id p1.win
    obtain ⟨Vq1, gq1, hVq1, rqa0, rqa1, hgq1, rqa2, rqa3⟩ := id p1.row.1
    obtain ⟨zf1, hzf1⟩ := id p1.fo
    obtain ⟨Vo, bso, nbo, rbo, hVo, hOV, vo4, vo5, hch, hcap, hrow, hnb, hlen, hbs, hbok⟩ := id on1
    obtain ⟨ov0, ov1, ov2, ov3, ov5, ov6, ov7⟩ := id hOV
    obtain ⟨Vc, gc0, gc1, gc2, hVc, vc0, vc1, vc2, vc3, kc0, kc1, kc2, hlc, h8c, hgc⟩ := id hch
    have hO := ciO_is (σ.O i).k
    have hchn := chn_le σ i
    have hPrB := PrB_ch hW i
    change Vc 3 = .int (nI (chn σ i)) at vc3
    have hlc' : chn σ i ≤ cp1 i := hlc
    have hH := on1.H p1.S
    refine Wp.astore_n dX11_bends_5 (by first | exact Or.inr ⟨_, rfl⟩ | exact Or.inl rfl) (Nat.le_of_ble_eq_true rfl) (by dsimp only [ev_st1, ev_cl] <;> rfl) rfl ?_
    refine Wp.aload_n dX11_bends_6 rfl (by first | exact Or.inr ⟨_, rfl⟩ | exact Or.inl rfl) rfl ?_
    refine Wp.ifnonnull (n := 15) dX11_bends_7 (by decide) ?_
    refine Wp.aload_n dX11_bends_15 rfl (by first | exact Or.inr ⟨_, rfl⟩ | exact Or.inl rfl) rfl ?_
    refine Wp.aload_n dX11_bends_16 rfl (by first | exact Or.inr ⟨_, rfl⟩ | exact Or.inl rfl) rfl ?_
    refine Wp.get dX11_bends_17 fl_X11_25 (p1.S.at' hVd ha1) d3_ rfl ?_
    refine Wp.cU dX11_bends_20 (cu_X11_237 hO) rfl (by omega) rfl (Nat.le_of_ble_eq_true rfl) (Nat.le_of_ble_eq_true rfl) (p1.S.at hVo) rfl (c_X3_bendsIn (d := d - 1) hW p1.S p1.win (by have := p1.cnt; omega) on1 (by omega)) ?_
    rintro _ h2 ⟨rfl, A2, C2, cap2, len2, S2, o2, l1, l2, a2, f2, ob2⟩
    dsimp only [Option.toList, List.drop, List.cons_append, List.nil_append]
    have htO : tO i = 30 + 10 * i := rfl
    have p2 := p1.offer ho S2 o2 l1 l2 a2 f2 ob2.N.S
    have ha2 : A2 0 = a0 := (a2 0 (by omega)).trans ha1
    have x2 := x1.tr o2.fx
    rw [show A1 (tO i + 5) = A2 (tO i + 5) from (a2 _ (by omega)).symm]
    obtain ⟨Vo2, nb, rb, hVo2, hOV2, -, -, hch2, hcap2, hrow2, hnb2, hlen2, hbk⟩ := id ob2
    have hR2 := hrow2.H p2.S
    have hbk1 := hbk.1
    obtain ⟨Vr, gr, hVr, r0, r1, -⟩ := id hrow2
    obtain ⟨Ve, hVe, e0_, e1_, e2_, e3_, e4_, e5_, e6_, e7_⟩ := id p2.ben
    have hH2 := ob2.N.H p2.S
    refine Wp.get dX11_bends_23 fl_X11_247 (p2.S.at hVr) r1 rfl ?_
    exact Wp.iret dX11_bends_26 rfl (by
      refine ⟨?_, x2, A2, C2, ns, ws, updN cp1 i cap2, updN ln1 i len2, lr, p2.up hj, ha2⟩
      rw [a_bends, if_pos (show isO σ (nI i) by omega), tn_nI ho2, show npt σ i - 2 = nb by omega])
  · refine Wp.aload_n dX11_bends_0 rfl (by first | exact Or.inr ⟨_, rfl⟩ | exact Or.inl rfl) rfl ?_
    refine Wp.iload_n dX11_bends_1 rfl rfl ?_
    refine Wp.cV dX11_bends_2 cv_X11_112 rfl (by omega) rfl (Nat.le_of_ble_eq_true rfl) (Nat.le_of_ble_eq_true rfl) (pS.S.at' hVb ha) rfl (c_X11_offerAt_n (d := d - 1) pS ha hW hio) ?_
    rintro _ h1 ⟨rfl, e1_⟩
    rw [e1_]
    clear e1_ h1
    dsimp only [Option.toList, List.drop, List.cons_append, List.nil_append]
    refine Wp.astore_n dX11_bends_5 (by first | exact Or.inr ⟨_, rfl⟩ | exact Or.inl rfl) (Nat.le_of_ble_eq_true rfl) (by dsimp only [ev_st1, ev_cl] <;> rfl) rfl ?_
    refine Wp.aload_n dX11_bends_6 rfl (by first | exact Or.inr ⟨_, rfl⟩ | exact Or.inl rfl) rfl ?_
    refine Wp.ifnonnullN (n := 10) dX11_bends_7 rfl ?_
    refine Wp.bipush (v := (-2)) dX11_bends_10 (by decide) rfl ?_
    refine Wp.goto (n := 26) dX11_bends_12 (by decide) ?_
    exact Wp.iret dX11_bends_26 rfl (by refine ⟨?_, FX.rfl, A, C, ns, ws, cp, ln, lr, pS.up hj, ha⟩; simp (disch := omega) only [a_bends, isO, w01, isP, nI_tI, tn_nI]; (repeat' split) <;> first | (exfalso; omega) | rfl)
theorem c_X11_numberOrNo {B : ev_B} {d a n : Nat} {h : ev_H} {rv : Nat → Nat → Int} {u w : Int32} (hR : RowH h a n rv) (hn : n ≤ 1000) (hb : ∀ i k, i < n → k < 4 → -1000000 ≤ rv i k ∧ rv i k ≤ 1000000) (hd : 2 ≤ d) :
    Wp B d M_X11_numberOrNo 0 [some (.ref a), some (.int (u)), some (.int (w))] [] h (fun v h' => v = some (.long (if hasR n u w then lI (rv (tn u) (tn w)) else -4611686018427387904)) ∧ h' = h) := by
  obtain ⟨Vr, gr, lr_, len_, hVr, r_⟩ := id hR
  refine Wp.aload_n dX11_numberOrNo_0 rfl (by first | exact Or.inr ⟨_, rfl⟩ | exact Or.inl rfl) rfl ?_
  refine Wp.iload_n dX11_numberOrNo_1 rfl rfl ?_
  refine Wp.iload_n dX11_numberOrNo_2 rfl rfl ?_
  refine Wp.cV dX11_numberOrNo_3 cv_X11_286 rfl (by omega) rfl (Nat.le_of_ble_eq_true rfl) (Nat.le_of_ble_eq_true rfl) hVr rfl (c_X5_has (d := d - 1) hR hn) ?_
  rintro _ h_ ⟨rfl, e_⟩
  rw [e_]
  clear e_ h_
  dsimp only [Option.toList, List.drop, List.cons_append, List.nil_append]
  refine Wp.bif_eq (tgt := 19) (n := 9) dX11_numberOrNo_6 (by decide) rfl (fun c_6 => ?_) (fun c_6 => ?_)
  · try simp only [decide_eq_true_eq, decide_eq_false_iff_not, Bool.and_eq_true, bI_0, bI_n0] at c_6
    refine Wp.ldc2 kc_X11_177 dX11_numberOrNo_19 rfl ?_
    exact Wp.lret dX11_numberOrNo_22 rfl (by first | (rw [if_neg (by omega)]; exact ⟨rfl, rfl⟩) | (rw [if_pos (by omega), tn_nI hk2, tn_nI hm2]; exact ⟨rfl, rfl⟩))
  · try simp only [decide_eq_true_eq, decide_eq_false_iff_not, Bool.and_eq_true, bI_0, bI_n0] at c_6
    obtain ⟨k, rfl, hk, hk2⟩ := as_nI (show 0 ≤ u.toInt ∧ u.toInt < n by omega)
    obtain ⟨m, rfl, hm, hm2⟩ := as_nI (o := w) (n := 4) (by omega)
    have tk := nI_tI hk2
    have tm := nI_tI hm2
    have hbb := hb k m hk hm
    refine Wp.aload_n dX11_numberOrNo_9 rfl (by first | exact Or.inr ⟨_, rfl⟩ | exact Or.inl rfl) rfl ?_
    refine Wp.iload_n dX11_numberOrNo_10 rfl rfl ?_
    refine Wp.iload_n dX11_numberOrNo_11 rfl rfl ?_
    refine Wp.cV dX11_numberOrNo_12 cv_X11_248 rfl (by omega) rfl (Nat.le_of_ble_eq_true rfl) (Nat.le_of_ble_eq_true rfl) hVr rfl (c_X5_number (d := d - 1) hR hn hk hm (by omega)) ?_
    rintro _ h_ ⟨rfl, e_⟩
    rw [e_]
    clear e_ h_
    dsimp only [Option.toList, List.drop, List.cons_append, List.nil_append]
    refine Wp.i2l dX11_numberOrNo_15 rfl ?_
    rw [iI_l (by omega) (by omega)]
    refine Wp.goto (n := 22) dX11_numberOrNo_16 (by decide) ?_
    exact Wp.lret dX11_numberOrNo_22 rfl (by first | (rw [if_neg (by omega)]; exact ⟨rfl, rfl⟩) | (rw [if_pos (by omega), tn_nI hk2, tn_nI hm2]; exact ⟨rfl, rfl⟩))
set_option maxHeartbeats 1000000 in
theorem c_X11_bend {B : ev_B} {d a0 w0 j : Nat} {X : Nat → Prop} {h : ev_H} {σ : Sg} {o u w : Int32} (hp : PSx X w0 h a0 σ j) (hW : Wf σ) (hj : j + 1 ≤ 600) (hd : 35 ≤ d) :
    Wp B d M_X11_bend 0 [some (.ref a0), some (.int (o)), some (.int (u)), some (.int (w)), none] [] h (CQ X w0 h a0 (σ) j (.long (a_bend σ o u w))) := by
  obtain ⟨A, C, ns, ws, cp, ln, lr, pS, ha⟩ := hp
  obtain ⟨Vb, hVb, b0, b1, b2, b3, b4, b5, b6, b7⟩ := id pS.ben
  obtain ⟨Vw, hVw, -⟩ := id pS.win
  obtain ⟨Vq, gq, hVq, rq0, rq1, hgq, rq2, rq3⟩ := id pS.row.1
  obtain ⟨zf, hzf⟩ := id pS.fo
  have hcn := pS.cnt
  have hn10 := hW.n
  by_cases hio : 0 ≤ o.toInt ∧ o.toInt < σ.n
  · obtain ⟨i, rfl, ho, ho2⟩ := as_nI hio
    have ti := nI_tI ho2
    have hOw := hW.of i ho
    refine Wp.aload_n dX11_bend_0 rfl (by first | exact Or.inr ⟨_, rfl⟩ | exact Or.inl rfl) rfl ?_
    refine Wp.iload_n dX11_bend_1 rfl rfl ?_
    refine Wp.cV dX11_bend_2 cv_X11_112 rfl (by omega) rfl (Nat.le_of_ble_eq_true rfl) (Nat.le_of_ble_eq_true rfl) (pS.S.at' hVb ha) rfl (c_X11_offerAt_y (d := d - 1) pS ha hW ho (by omega)) ?_
    rintro _ h1 ⟨A1, C1, cp1, ln1, rfl, x1, ha1, p1, on1⟩
    dsimp only [Option.toList, List.drop, List.cons_append, List.nil_append]
    obtain ⟨Vd, hVd, d0_, d1_, d2_, d3_, d4_, d5_, d6_, d7_⟩ := id p1.ben
    obtain ⟨Vw1, hVw1, -⟩ := id p1.win
    obtain ⟨Vq1, gq1, hVq1, rqa0, rqa1, hgq1, rqa2, rqa3⟩ := id p1.row.1
    obtain ⟨zf1, hzf1⟩ := id p1.fo
    obtain ⟨Vo, bso, nbo, rbo, hVo, hOV, vo4, vo5, hch, hcap, hrow, hnb, hlen, hbs, hbok⟩ := id on1
    obtain ⟨ov0, ov1, ov2, ov3, ov5, ov6, ov7⟩ := id hOV
    obtain ⟨Vc, gc0, gc1, gc2, hVc, vc0, vc1, vc2, vc3, kc0, kc1, kc2, hlc, h8c, hgc⟩ := id hch
    have hO := ciO_is (σ.O i).k
    have hchn := chn_le σ i
    have hPrB := PrB_ch hW i
    change Vc 3 = .int (nI (chn σ i)) at vc3
    have hlc' : chn σ i ≤ cp1 i := hlc
    have hH := on1.H p1.S
    refine Wp.astore dX11_bend_5 (by first | exact Or.inr ⟨_, rfl⟩ | exact Or.inl rfl) (Nat.le_of_ble_eq_true rfl) (by dsimp only [ev_st1, ev_cl] <;> rfl) rfl ?_
    refine Wp.aload dX11_bend_7 rfl (by first | exact Or.inr ⟨_, rfl⟩ | exact Or.inl rfl) rfl ?_
    refine Wp.ifnonnull (n := 18) dX11_bend_9 (by decide) ?_
    refine Wp.aload dX11_bend_18 rfl (by first | exact Or.inr ⟨_, rfl⟩ | exact Or.inl rfl) rfl ?_
    refine Wp.aload_n dX11_bend_20 rfl (by first | exact Or.inr ⟨_, rfl⟩ | exact Or.inl rfl) rfl ?_
    refine Wp.get dX11_bend_21 fl_X11_25 (p1.S.at' hVd ha1) d3_ rfl ?_
    refine Wp.cU dX11_bend_24 (cu_X11_237 hO) rfl (by omega) rfl (Nat.le_of_ble_eq_true rfl) (Nat.le_of_ble_eq_true rfl) (p1.S.at hVo) rfl (c_X3_bendsIn (d := d - 1) hW p1.S p1.win (by have := p1.cnt; omega) on1 (by omega)) ?_
    rintro _ h2 ⟨rfl, A2, C2, cap2, len2, S2, o2, l1, l2, a2, f2, ob2⟩
    dsimp only [Option.toList, List.drop, List.cons_append, List.nil_append]
    have htO : tO i = 30 + 10 * i := rfl
    have p2 := p1.offer ho S2 o2 l1 l2 a2 f2 ob2.N.S
    have ha2 : A2 0 = a0 := (a2 0 (by omega)).trans ha1
    have x2 := x1.tr o2.fx
    rw [show A1 (tO i + 5) = A2 (tO i + 5) from (a2 _ (by omega)).symm]
    obtain ⟨Vo2, nb, rb, hVo2, hOV2, -, -, hch2, hcap2, hrow2, hnb2, hlen2, hbk⟩ := id ob2
    have hR2 := hrow2.H p2.S
    have hbk1 := hbk.1
    obtain ⟨Vr, gr, hVr, r0, r1, -⟩ := id hrow2
    obtain ⟨Ve, hVe, e0_, e1_, e2_, e3_, e4_, e5_, e6_, e7_⟩ := id p2.ben
    have hH2 := ob2.N.H p2.S
    refine Wp.iload_n dX11_bend_27 rfl rfl ?_
    refine Wp.iload_n dX11_bend_28 rfl rfl ?_
    refine Wp.cS dX11_bend_29 cs_X11_278 rfl (by omega) rfl (Nat.le_of_ble_eq_true rfl) (Nat.le_of_ble_eq_true rfl) rfl (c_X11_numberOrNo (d := d - 1) hR2 (by omega) (bk_b hW hbk) (by omega)) ?_
    rintro _ h_ ⟨rfl, e_⟩
    rw [e_]
    clear e_ h_
    dsimp only [Option.toList, List.drop, List.cons_append, List.nil_append]
    exact Wp.lret dX11_bend_32 rfl (by
      refine ⟨?_, x2, A2, C2, ns, ws, updN cp1 i cap2, updN ln1 i len2, lr, p2.up hj, ha2⟩
      rw [a_bend]
      by_cases hh : hasR nb u w
      · rw [if_pos hh, if_pos (by rw [tn_nI ho2]; simp only [w01]; omega), tn_nI ho2]
        obtain ⟨k, rfl, hk, hk2⟩ := as_nI (show 0 ≤ u.toInt ∧ u.toInt < nb by omega)
        obtain ⟨m, rfl, hm, hm2⟩ := as_nI (o := w) (n := 4) (by omega)
        rw [tn_nI hk2, tn_nI hm2, hbk.2 k m hk hm]
      · rw [if_neg hh, if_neg (by rw [tn_nI ho2]; simp only [w01]; omega)])
  · refine Wp.aload_n dX11_bend_0 rfl (by first | exact Or.inr ⟨_, rfl⟩ | exact Or.inl rfl) rfl ?_
    refine Wp.iload_n dX11_bend_1 rfl rfl ?_
    refine Wp.cV dX11_bend_2 cv_X11_112 rfl (by omega) rfl (Nat.le_of_ble_eq_true rfl) (Nat.le_of_ble_eq_true rfl) (pS.S.at' hVb ha) rfl (c_X11_offerAt_n (d := d - 1) pS ha hW hio) ?_
    rintro _ h1 ⟨rfl, e1_⟩
    rw [e1_]
    clear e1_ h1
    dsimp only [Option.toList, List.drop, List.cons_append, List.nil_append]
    refine Wp.astore dX11_bend_5 (by first | exact Or.inr ⟨_, rfl⟩ | exact Or.inl rfl) (Nat.le_of_ble_eq_true rfl) (by dsimp only [ev_st1, ev_cl] <;> rfl) rfl ?_
    refine Wp.aload dX11_bend_7 rfl (by first | exact Or.inr ⟨_, rfl⟩ | exact Or.inl rfl) rfl ?_
    refine Wp.ifnonnullN (n := 12) dX11_bend_9 rfl ?_
    refine Wp.ldc2 kc_X11_177 dX11_bend_12 rfl ?_
    refine Wp.goto (n := 32) dX11_bend_15 (by decide) ?_
    exact Wp.lret dX11_bend_32 rfl (by refine ⟨?_, FX.rfl, A, C, ns, ws, cp, ln, lr, pS.up hj, ha⟩; simp (disch := omega) only [a_bend, isO, w01, isP, nI_tI, tn_nI]; (repeat' split) <;> first | (exfalso; omega) | rfl)
