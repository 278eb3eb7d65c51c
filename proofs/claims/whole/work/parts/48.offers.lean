/-! the class: ways walked, all gatherings -/
theorem catL_s {f : Nat → List Nat} {L i : Nat} (h : i < L) : catL f L (L - i) = f i ++ catL f L (L - (i + 1)) := by
  rw [show L - i = (L - (i + 1)) + 1 by omega, catL, show L - (L - (i + 1) + 1) = i by omega]
set_option maxHeartbeats 2000000 in
theorem c_X9_walk {B : ev_B} {X : Nat → Prop} {σ : Sg} {ns t b a n : Nat} {V : Nat → Value} {fi la : Nat} (hW : Wf σ) (hf6 : V 6 = .int (nI fi)) (hl7 : V 7 = .int (nI la)) (hla : la < σ.N.T) :
    ∀ k, k ≤ 7 → ∀ (d u seen ch : Nat) (h : ev_H) (A : Nat → Nat) (C : Nat → Option ev_E) (l : List Nat) (cap : Nat), CS X h A C → NetS A C σ ns → OffO A C t b 8 V → ChoS A C b σ.N l cap → okCap cap → A t = a → A 1 = n → u < σ.N.T → seen < 128 → ch < 4096 → l.length + (walkL σ.N la k u seen ch).length ≤ 4096 → k + 6 ≤ d → Wp B d M_X9_walk 0 [some (.ref a), some (.ref n), some (.int (nI u)), some (.int (nI seen)), some (.int (nI ch)), some (.int (nI k)), none, none] [] h (GQ X h A C b σ.N l cap (walkL σ.N la k u seen ch)) := by
  intro k
  induction k with
  | zero =>
    intro hk7 d u seen ch h A C l cap hS hN hO hCh hok hat han hu hseen hch hlen hd
    obtain ⟨Vn, n0, n1, n2, n3, hVn, z0, z1, z2, z3, z4, z5, z6, z7, z8, q0, q1, q2, q3, hgn⟩ := id hN
    have hLM := LM_ge σ
    have hT := hW.net.1
    have hL := hW.net.2.1
    obtain ⟨Vc, -, -, -, hVc, -⟩ := id hCh
    obtain ⟨ht5, htb⟩ := hO.2.2
    refine Wp.iload_n dX9_walk_0 rfl rfl ?_
    refine Wp.aload_n dX9_walk_1 rfl (by first | exact Or.inr ⟨_, rfl⟩ | exact Or.inl rfl) rfl ?_
    refine Wp.get dX9_walk_2 fl_X9_15 (hS.at' hO.1 hat) hl7 rfl ?_
    refine Wp.icmp_ne (tgt := 19) (n := 8) dX9_walk_5 (by decide) rfl (fun c_5 => ?_) (fun c_5 => ?_)
    · have c_5 : u ≠ la := fun z => c_5 (by rw [z])
      refine Wp.iload dX9_walk_19 rfl rfl ?_
      refine Wp.if_gt (tgt := 25) (n := 24) dX9_walk_21 (by decide) rfl (fun c_21 => ?_) (fun c_21 => ?_)
      · try simp (disch := omega) only [nI_bit0, nI_bit1, Bool.not_eq_false, Bool.not_eq_true] at c_21
        try simp (disch := omega) only [i_lt, i_le, i_eq, l_lt, l_le, l_eq, i_0, i_m1, l_0, nI_tI, iI_tI, lI_tI, Int.not_lt, Int.not_le] at c_21
        omega
      · try simp (disch := omega) only [nI_bit0, nI_bit1, Bool.not_eq_false, Bool.not_eq_true] at c_21
        try simp (disch := omega) only [i_lt, i_le, i_eq, l_lt, l_le, l_eq, i_0, i_m1, l_0, nI_tI, iI_tI, lI_tI, Int.not_lt, Int.not_le] at c_21
        exact Wp.vret dX9_walk_24 rfl (by rw [walkL_0 c_5]; exact GQ.nil hS hok hCh)
    · have c_5 : u = la := (nI_eq (by omega) (by omega)).mp c_5
      subst c_5
      rw [walkL_at, List.length_singleton] at hlen
      refine Wp.aload_n dX9_walk_8 rfl (by first | exact Or.inr ⟨_, rfl⟩ | exact Or.inl rfl) rfl ?_
      refine Wp.get dX9_walk_9 fl_X9_27 (hS.at' hO.1 hat) hO.2.1 rfl ?_
      refine Wp.aload_n dX9_walk_12 rfl (by first | exact Or.inr ⟨_, rfl⟩ | exact Or.inl rfl) rfl ?_
      refine Wp.iload dX9_walk_13 rfl rfl ?_
      refine Wp.cV dX9_walk_15 cv_X9_31 rfl (by omega) rfl (Nat.le_of_ble_eq_true rfl) (Nat.le_of_ble_eq_true rfl) (hS.at hVc) rfl (put_GQ (d := d - 1) (a := A b) hS hCh hN hW hok rfl han (by omega) (by omega) (by omega) (by omega)) ?_
      rintro _ h1 g1
      have e_ := g1.1
      subst e_
      dsimp only [Option.toList, List.drop, List.cons_append, List.nil_append]
      exact Wp.vret dX9_walk_18 rfl (by rw [walkL_at]; exact g1)
  | succ k ihk =>
    intro hk7 d u seen ch h A C l cap hS hN hO hCh hok hat han hu hseen hch hlen hd
    obtain ⟨Vn, n0, n1, n2, n3, hVn, z0, z1, z2, z3, z4, z5, z6, z7, z8, q0, q1, q2, q3, hgn⟩ := id hN
    have hLM := LM_ge σ
    have hT := hW.net.1
    have hL := hW.net.2.1
    obtain ⟨Vc, -, -, -, hVc, -⟩ := id hCh
    obtain ⟨ht5, htb⟩ := hO.2.2
    refine Wp.iload_n dX9_walk_0 rfl rfl ?_
    refine Wp.aload_n dX9_walk_1 rfl (by first | exact Or.inr ⟨_, rfl⟩ | exact Or.inl rfl) rfl ?_
    refine Wp.get dX9_walk_2 fl_X9_15 (hS.at' hO.1 hat) hl7 rfl ?_
    refine Wp.icmp_ne (tgt := 19) (n := 8) dX9_walk_5 (by decide) rfl (fun c_5 => ?_) (fun c_5 => ?_)
    · have c_5 : u ≠ la := fun z => c_5 (by rw [z])
      refine Wp.iload dX9_walk_19 rfl rfl ?_
      refine Wp.if_gt (tgt := 25) (n := 24) dX9_walk_21 (by decide) rfl (fun c_21 => ?_) (fun c_21 => ?_)
      · try simp (disch := omega) only [nI_bit0, nI_bit1, Bool.not_eq_false, Bool.not_eq_true] at c_21
        try simp (disch := omega) only [i_lt, i_le, i_eq, l_lt, l_le, l_eq, i_0, i_m1, l_0, nI_tI, iI_tI, lI_tI, Int.not_lt, Int.not_le] at c_21
        refine Wp.iconst (v := (nI 0)) dX9_walk_25 (by decide) rfl ?_
        refine Wp.istore dX9_walk_26 (Nat.le_of_ble_eq_true rfl) (by dsimp only [ev_st1, ev_st2, ev_cl] <;> rfl) rfl ?_
        rw [walkL_s c_5] at hlen ⊢
        have loop : ∀ i, i ≤ σ.N.L → ∀ (hh : ev_H) (Ai : Nat → Nat) (Ci : Nat → Option ev_E) (li : List Nat) (capi : Nat) (j7 : Option Value), CS X hh Ai Ci → NetS Ai Ci σ ns → OffO Ai Ci t b 8 V → ChoS Ai Ci b σ.N li capi → okCap capi → Ai t = a → Ai 1 = n → li.length + (catL (wlF σ.N la k u seen ch) σ.N.L (σ.N.L - i)).length ≤ 4096 → Wp B d M_X9_walk 28 [some (.ref a), some (.ref n), some (.int (nI u)), some (.int (nI seen)), some (.int (nI ch)), some (.int (nI (k + 1))), some (.int (nI i)), j7] [] hh (GQ X hh Ai Ci b σ.N li capi (catL (wlF σ.N la k u seen ch) σ.N.L (σ.N.L - i))) := by
          refine ev_upl σ.N.L (fun i hi ih => ?_) ?_
          · intro hh Ai Ci li capi j7 Si Ni Oi Chi oki hati hani hleni
            obtain ⟨Vn, n0, n1, n2, n3, hVn, z0, z1, z2, z3, z4, z5, z6, z7, z8, q0, q1, q2, q3, hgn⟩ := id Ni
            have hLM := LM_ge σ
            have hT := hW.net.1
            have hL := hW.net.2.1
            have hnl := hW.net.2.2 i hi
            rw [catL_s hi] at hleni ⊢
            rw [List.length_append] at hleni
            refine Wp.iload dX9_walk_28 rfl rfl ?_
            refine Wp.aload_n dX9_walk_30 rfl (by first | exact Or.inr ⟨_, rfl⟩ | exact Or.inl rfl) rfl ?_
            refine Wp.get dX9_walk_31 fl_X9_37 (Si.at' hVn hani) z5 rfl ?_
            refine Wp.icmp_ge (tgt := 96) (n := 37) dX9_walk_34 (by decide) rfl (fun c_34 => ?_) (fun c_34 => ?_)
            · try simp (disch := omega) only [nI_bit0, nI_bit1, Bool.not_eq_false, Bool.not_eq_true] at c_34
              try simp (disch := omega) only [i_lt, i_le, i_eq, l_lt, l_le, l_eq, i_0, i_m1, l_0, nI_tI, iI_tI, lI_tI, Int.not_lt, Int.not_le] at c_34
              omega
            · try simp (disch := omega) only [nI_bit0, nI_bit1, Bool.not_eq_false, Bool.not_eq_true] at c_34
              try simp (disch := omega) only [i_lt, i_le, i_eq, l_lt, l_le, l_eq, i_0, i_m1, l_0, nI_tI, iI_tI, lI_tI, Int.not_lt, Int.not_le] at c_34
              refine Wp.aload_n dX9_walk_37 rfl (by first | exact Or.inr ⟨_, rfl⟩ | exact Or.inl rfl) rfl ?_
              refine Wp.get dX9_walk_38 fl_X9_40 (Si.at' hVn hani) z1 rfl ?_
              refine Wp.iload dX9_walk_41 rfl rfl ?_
              refine Wp.iaload dX9_walk_43 (Si.at q1) (nI_toInt (by omega)) (by omega) rfl ?_
              rw [(hgn i (by omega)).2.1]
              refine Wp.istore dX9_walk_44 (Nat.le_of_ble_eq_true rfl) (by dsimp only [ev_st1, ev_st2, ev_cl] <;> rfl) rfl ?_
              refine Wp.aload_n dX9_walk_46 rfl (by first | exact Or.inr ⟨_, rfl⟩ | exact Or.inl rfl) rfl ?_
              refine Wp.get dX9_walk_47 fl_X9_44 (Si.at' hVn hani) z0 rfl ?_
              refine Wp.iload dX9_walk_50 rfl rfl ?_
              refine Wp.iaload dX9_walk_52 (Si.at q0) (nI_toInt (by omega)) (by omega) rfl ?_
              rw [(hgn i (by omega)).1]
              refine Wp.iload_n dX9_walk_53 rfl rfl ?_
              refine Wp.icmp_ne (tgt := 90) (n := 57) dX9_walk_54 (by decide) rfl (fun c_54 => ?_) (fun c_54 => ?_)
              · try simp (disch := omega) only [nI_bit0, nI_bit1, Bool.not_eq_false, Bool.not_eq_true] at c_54
                try simp (disch := omega) only [i_lt, i_le, i_eq, l_lt, l_le, l_eq, i_0, i_m1, l_0, nI_tI, iI_tI, lI_tI, Int.not_lt, Int.not_le] at c_54
                refine Wp.iinc (v := _ + (nI 1)) dX9_walk_90 rfl rfl (Nat.le_of_ble_eq_true rfl) (by dsimp only [ev_st1, ev_cl] <;> rfl) rfl ?_
                refine Wp.goto (n := 28) dX9_walk_93 (by decide) ?_
                rw [nI_add1]
                have hF0 : (wlF σ.N la k u seen ch) i = [] := by
                  unfold wlF
                  rw [if_neg (fun z => by first | omega | (rw [z.2] at c_63; cases c_63))]
                rw [hF0, List.nil_append]
                rw [hF0, List.length_nil, Nat.zero_add] at hleni
                exact ih hh Ai Ci li capi _ Si Ni Oi Chi oki hati hani hleni
              · try simp (disch := omega) only [nI_bit0, nI_bit1, Bool.not_eq_false, Bool.not_eq_true] at c_54
                try simp (disch := omega) only [i_lt, i_le, i_eq, l_lt, l_le, l_eq, i_0, i_m1, l_0, nI_tI, iI_tI, lI_tI, Int.not_lt, Int.not_le] at c_54
                refine Wp.iload_n dX9_walk_57 rfl rfl ?_
                refine Wp.iload dX9_walk_58 rfl rfl ?_
                refine Wp.ishr dX9_walk_60 rfl ?_
                refine Wp.iconst (v := (nI 1)) dX9_walk_61 (by decide) rfl ?_
                refine Wp.iand dX9_walk_62 rfl ?_
                refine Wp.if_ne (tgt := 90) (n := 66) dX9_walk_63 (by decide) rfl (fun c_63 => ?_) (fun c_63 => ?_)
                · have c_63 : seen.testBit (σ.N.to i) = true := (nI_bitn0 (by omega) (by omega)).mp c_63
                  refine Wp.iinc (v := _ + (nI 1)) dX9_walk_90 rfl rfl (Nat.le_of_ble_eq_true rfl) (by dsimp only [ev_st1, ev_cl] <;> rfl) rfl ?_
                  refine Wp.goto (n := 28) dX9_walk_93 (by decide) ?_
                  rw [nI_add1]
                  have hF0 : (wlF σ.N la k u seen ch) i = [] := by
                    unfold wlF
                    rw [if_neg (fun z => by first | omega | (rw [z.2] at c_63; cases c_63))]
                  rw [hF0, List.nil_append]
                  rw [hF0, List.length_nil, Nat.zero_add] at hleni
                  exact ih hh Ai Ci li capi _ Si Ni Oi Chi oki hati hani hleni
                · have c_63 : seen.testBit (σ.N.to i) = false := (nI_bit0 (by omega) (by omega)).mp c_63
                  have hF1 : (wlF σ.N la k u seen ch) i = walkL σ.N la k (σ.N.to i) (seen ||| 2 ^ σ.N.to i) (ch ||| 2 ^ i) := by
                    unfold wlF
                    rw [if_pos ⟨by omega, c_63⟩]
                  rw [hF1] at hleni ⊢
                  refine Wp.aload_n dX9_walk_66 rfl (by first | exact Or.inr ⟨_, rfl⟩ | exact Or.inl rfl) rfl ?_
                  refine Wp.aload_n dX9_walk_67 rfl (by first | exact Or.inr ⟨_, rfl⟩ | exact Or.inl rfl) rfl ?_
                  refine Wp.iload dX9_walk_68 rfl rfl ?_
                  refine Wp.iload_n dX9_walk_70 rfl rfl ?_
                  refine Wp.iconst (v := (nI 1)) dX9_walk_71 (by decide) rfl ?_
                  refine Wp.iload dX9_walk_72 rfl rfl ?_
                  refine Wp.ishl dX9_walk_74 rfl ?_
                  rw [nI_one_shl (by omega)]
                  refine Wp.ior dX9_walk_75 rfl ?_
                  rw [nI_or]
                  refine Wp.iload dX9_walk_76 rfl rfl ?_
                  refine Wp.iconst (v := (nI 1)) dX9_walk_78 (by decide) rfl ?_
                  refine Wp.iload dX9_walk_79 rfl rfl ?_
                  refine Wp.ishl dX9_walk_81 rfl ?_
                  rw [nI_one_shl (by omega)]
                  refine Wp.ior dX9_walk_82 rfl ?_
                  rw [nI_or]
                  refine Wp.iload dX9_walk_83 rfl rfl ?_
                  refine Wp.iconst (v := (nI 1)) dX9_walk_85 (by decide) rfl ?_
                  refine Wp.isub dX9_walk_86 rfl ?_
                  rw [pk_sub (by omega), Nat.add_sub_cancel]
                  refine Wp.cS dX9_walk_87 cs_X9_23 rfl (by omega) rfl (Nat.le_of_ble_eq_true rfl) (Nat.le_of_ble_eq_true rfl) rfl (ihk (by omega) (d - 1) (σ.N.to i) (seen ||| 2 ^ σ.N.to i) (ch ||| 2 ^ i) hh Ai Ci li capi Si Ni Oi Chi oki hati hani hnl.2.1 (or_lt7 hseen (pow_lt7 (by omega))) (or_lt12 hch (by omega)) (by omega) (by omega)) ?_
                  rintro _ h1 ⟨rfl, A1, C1, cap1, S1, o1, hc1, ok1, a1, f1, Ch1⟩
                  dsimp only [Option.toList, List.drop, List.cons_append, List.nil_append]
                  have N1 := Ni.same (fun s h1 h2 => f1 s (by omega)) (fun s h1 h2 => a1 s (by omega))
                  have O1 := Oi.same (f1 t (by omega)) (a1 b (by omega))
                  have hat1 := (a1 t (by omega)).trans hati
                  have han1 := (a1 1 (by omega)).trans hani
                  refine Wp.iinc (v := _ + (nI 1)) dX9_walk_90 rfl rfl (Nat.le_of_ble_eq_true rfl) (by dsimp only [ev_st1, ev_cl] <;> rfl) rfl ?_
                  refine Wp.goto (n := 28) dX9_walk_93 (by decide) ?_
                  rw [nI_add1]
                  refine (ih h1 A1 C1 _ cap1 _ S1 N1 O1 Ch1 ok1 hat1 han1 (by rw [insA_len]; omega)).mono (fun v h2 g2 => ?_)
                  exact GQ.trans o1 hc1 a1 f1 rfl g2
          · intro hh Ai Ci li capi j7 Si Ni Oi Chi oki hati hani hleni
            obtain ⟨Vn, n0, n1, n2, n3, hVn, z0, z1, z2, z3, z4, z5, z6, z7, z8, q0, q1, q2, q3, hgn⟩ := id Ni
            have hLM := LM_ge σ
            have hT := hW.net.1
            have hL := hW.net.2.1
            refine Wp.iload dX9_walk_28 rfl rfl ?_
            refine Wp.aload_n dX9_walk_30 rfl (by first | exact Or.inr ⟨_, rfl⟩ | exact Or.inl rfl) rfl ?_
            refine Wp.get dX9_walk_31 fl_X9_37 (Si.at' hVn hani) z5 rfl ?_
            refine Wp.icmp_ge (tgt := 96) (n := 37) dX9_walk_34 (by decide) rfl (fun c_34 => ?_) (fun c_34 => ?_)
            · try simp (disch := omega) only [nI_bit0, nI_bit1, Bool.not_eq_false, Bool.not_eq_true] at c_34
              try simp (disch := omega) only [i_lt, i_le, i_eq, l_lt, l_le, l_eq, i_0, i_m1, l_0, nI_tI, iI_tI, lI_tI, Int.not_lt, Int.not_le] at c_34
              exact Wp.vret dX9_walk_96 rfl (by rw [Nat.sub_self]; exact GQ.nil Si oki Chi)
            · try simp (disch := omega) only [nI_bit0, nI_bit1, Bool.not_eq_false, Bool.not_eq_true] at c_34
              try simp (disch := omega) only [i_lt, i_le, i_eq, l_lt, l_le, l_eq, i_0, i_m1, l_0, nI_tI, iI_tI, lI_tI, Int.not_lt, Int.not_le] at c_34
              omega
        have l0 := loop 0 (Nat.zero_le _) h A C l cap none hS hN hO hCh hok hat han (by rw [Nat.sub_zero]; exact hlen)
        rw [Nat.sub_zero] at l0
        exact l0
      · try simp (disch := omega) only [nI_bit0, nI_bit1, Bool.not_eq_false, Bool.not_eq_true] at c_21
        try simp (disch := omega) only [i_lt, i_le, i_eq, l_lt, l_le, l_eq, i_0, i_m1, l_0, nI_tI, iI_tI, lI_tI, Int.not_lt, Int.not_le] at c_21
        omega
    · have c_5 : u = la := (nI_eq (by omega) (by omega)).mp c_5
      subst c_5
      rw [walkL_at, List.length_singleton] at hlen
      refine Wp.aload_n dX9_walk_8 rfl (by first | exact Or.inr ⟨_, rfl⟩ | exact Or.inl rfl) rfl ?_
      refine Wp.get dX9_walk_9 fl_X9_27 (hS.at' hO.1 hat) hO.2.1 rfl ?_
      refine Wp.aload_n dX9_walk_12 rfl (by first | exact Or.inr ⟨_, rfl⟩ | exact Or.inl rfl) rfl ?_
      refine Wp.iload dX9_walk_13 rfl rfl ?_
      refine Wp.cV dX9_walk_15 cv_X9_31 rfl (by omega) rfl (Nat.le_of_ble_eq_true rfl) (Nat.le_of_ble_eq_true rfl) (hS.at hVc) rfl (put_GQ (d := d - 1) (a := A b) hS hCh hN hW hok rfl han (by omega) (by omega) (by omega) (by omega)) ?_
      rintro _ h1 g1
      have e_ := g1.1
      subst e_
      dsimp only [Option.toList, List.drop, List.cons_append, List.nil_append]
      exact Wp.vret dX9_walk_18 rfl (by rw [walkL_at]; exact g1)
theorem c_X8_gather {B : ev_B} {d t n a ns cap : Nat} {X : Nat → Prop} {h : ev_H} {A : Nat → Nat} {C : Nat → Option ev_E} {σ : Sg} {V : Nat → Value} {o : Of} (hW : Wf σ) (ho : OfW σ.N.T o) (hS : CS X h A C) (hN : NetS A C σ ns) (hO : OffO A C t (t + 1) 7 V) (hCh : ChoS A C (t + 1) σ.N [] cap) (hok : okCap cap) (hat : A t = a) (han : A 1 = n) (hk : o.k = 1) (hd : 30 ≤ d) :
    Wp B d M_X8_gather 0 [some (.ref a), some (.ref n)] [] h (GQ X h A C (t + 1) σ.N [] cap (gatL σ.N o)) := by
  obtain ⟨Vn, n0, n1, n2, n3, hVn, z0, z1, z2, z3, z4, z5, z6, z7, z8, q0, q1, q2, q3, hgn⟩ := id hN
  have hLM := LM_ge σ
  have hT := hW.net.1
  have hL := hW.net.2.1
  obtain ⟨Vc, -, -, -, hVc, -⟩ := id hCh
  obtain ⟨ht5, htb⟩ := hO.2.2
  have hgl := gat_len hW.net ho
  have hgk : gatL σ.N o = if 0 < σ.N.T then growL σ.N σ.N.L 0 0 (σ.N.T - 1) (fun u => u) else [] := by simp only [gatL, hk]
  refine Wp.aload_n dX8_gather_0 rfl (by first | exact Or.inr ⟨_, rfl⟩ | exact Or.inl rfl) rfl ?_
  refine Wp.get dX8_gather_1 fl_X8_9 (hS.at' hVn han) z4 rfl ?_
  refine Wp.if_le (tgt := 22) (n := 7) dX8_gather_4 (by decide) rfl (fun c_4 => ?_) (fun c_4 => ?_)
  · try simp (disch := omega) only [nI_bit0, nI_bit1, Bool.not_eq_false, Bool.not_eq_true] at c_4
    try simp (disch := omega) only [i_lt, i_le, i_eq, l_lt, l_le, l_eq, i_0, i_m1, l_0, nI_tI, iI_tI, lI_tI, Int.not_lt, Int.not_le] at c_4
    rw [hgk, if_neg (by omega)]
    exact Wp.vret dX8_gather_22 rfl (by first | exact g1 | exact GQ.nil hS hok hCh)
  · try simp (disch := omega) only [nI_bit0, nI_bit1, Bool.not_eq_false, Bool.not_eq_true] at c_4
    try simp (disch := omega) only [i_lt, i_le, i_eq, l_lt, l_le, l_eq, i_0, i_m1, l_0, nI_tI, iI_tI, lI_tI, Int.not_lt, Int.not_le] at c_4
    rw [hgk, if_pos (by omega)] at hgl ⊢
    refine Wp.aload_n dX8_gather_7 rfl (by first | exact Or.inr ⟨_, rfl⟩ | exact Or.inl rfl) rfl ?_
    refine Wp.aload_n dX8_gather_8 rfl (by first | exact Or.inr ⟨_, rfl⟩ | exact Or.inl rfl) rfl ?_
    refine Wp.iconst (v := (nI 0)) dX8_gather_9 (by decide) rfl ?_
    refine Wp.iconst (v := (nI 0)) dX8_gather_10 (by decide) rfl ?_
    refine Wp.aload_n dX8_gather_11 rfl (by first | exact Or.inr ⟨_, rfl⟩ | exact Or.inl rfl) rfl ?_
    refine Wp.get dX8_gather_12 fl_X8_9 (hS.at' hVn han) z4 rfl ?_
    refine Wp.iconst (v := (nI 1)) dX8_gather_15 (by decide) rfl ?_
    refine Wp.isub dX8_gather_16 rfl ?_
    rw [pk_sub (by omega)]
    refine Wp.ldc kc_X8_17 dX8_gather_17 rfl ?_
    rw [show (1754760 : Int32) = nI 1754760 from rfl]
    refine Wp.cS dX8_gather_19 cs_X8_18 rfl (by omega) rfl (Nat.le_of_ble_eq_true rfl) (Nat.le_of_ble_eq_true rfl) rfl (c_X8_grow hW σ.N.L 0 (by omega) (d - 1) 0 (σ.N.T - 1) 1754760 _ h A C [] cap hS hN hO hCh hok hat han (by decide) (by omega) (GE.init hT) (by rw [List.length_nil]; omega) (by omega)) ?_
    rintro _ h1 g1
    have e_ := g1.1
    subst e_
    dsimp only [Option.toList, List.drop, List.cons_append, List.nil_append]
    exact Wp.vret dX8_gather_22 rfl (by first | exact g1 | exact GQ.nil hS hok hCh)
theorem c_X9_gather {B : ev_B} {d t n a ns cap : Nat} {X : Nat → Prop} {h : ev_H} {A : Nat → Nat} {C : Nat → Option ev_E} {σ : Sg} {V : Nat → Value} {o : Of} (hW : Wf σ) (ho : OfW σ.N.T o) (hS : CS X h A C) (hN : NetS A C σ ns) (hO : OffO A C t (t + 1) 8 V) (hCh : ChoS A C (t + 1) σ.N [] cap) (hok : okCap cap) (hat : A t = a) (han : A 1 = n) (hk : o.k = 2) (h6 : V 6 = .int (nI o.f)) (h7 : V 7 = .int (nI o.s)) (hd : 30 ≤ d) :
    Wp B d M_X9_gather 0 [some (.ref a), some (.ref n)] [] h (GQ X h A C (t + 1) σ.N [] cap (gatL σ.N o)) := by
  obtain ⟨Vn, n0, n1, n2, n3, hVn, z0, z1, z2, z3, z4, z5, z6, z7, z8, q0, q1, q2, q3, hgn⟩ := id hN
  have hLM := LM_ge σ
  have hT := hW.net.1
  have hL := hW.net.2.1
  obtain ⟨Vc, -, -, -, hVc, -⟩ := id hCh
  obtain ⟨ht5, htb⟩ := hO.2.2
  have hgl := gat_len hW.net ho
  have hwy := ho.wy hk
  have hgk : gatL σ.N o = walkL σ.N o.s σ.N.T o.f (2 ^ o.f) 0 := by simp only [gatL, hk]
  rw [hgk] at hgl ⊢
  refine Wp.aload_n dX9_gather_0 rfl (by first | exact Or.inr ⟨_, rfl⟩ | exact Or.inl rfl) rfl ?_
  refine Wp.aload_n dX9_gather_1 rfl (by first | exact Or.inr ⟨_, rfl⟩ | exact Or.inl rfl) rfl ?_
  refine Wp.aload_n dX9_gather_2 rfl (by first | exact Or.inr ⟨_, rfl⟩ | exact Or.inl rfl) rfl ?_
  refine Wp.get dX9_gather_3 fl_X9_9 (hS.at' hO.1 hat) h6 rfl ?_
  refine Wp.iconst (v := (nI 1)) dX9_gather_6 (by decide) rfl ?_
  refine Wp.aload_n dX9_gather_7 rfl (by first | exact Or.inr ⟨_, rfl⟩ | exact Or.inl rfl) rfl ?_
  refine Wp.get dX9_gather_8 fl_X9_9 (hS.at' hO.1 hat) h6 rfl ?_
  refine Wp.ishl dX9_gather_11 rfl ?_
  rw [nI_one_shl (by omega)]
  refine Wp.iconst (v := (nI 0)) dX9_gather_12 (by decide) rfl ?_
  refine Wp.aload_n dX9_gather_13 rfl (by first | exact Or.inr ⟨_, rfl⟩ | exact Or.inl rfl) rfl ?_
  refine Wp.get dX9_gather_14 fl_X9_18 (hS.at' hVn han) z4 rfl ?_
  refine Wp.cS dX9_gather_17 cs_X9_23 rfl (by omega) rfl (Nat.le_of_ble_eq_true rfl) (Nat.le_of_ble_eq_true rfl) rfl (c_X9_walk hW h6 h7 hwy.2.1 σ.N.T hT (d - 1) o.f (2 ^ o.f) 0 h A C [] cap hS hN hO hCh hok hat han hwy.1 (pow_lt7 (by omega)) (by decide) (by rw [List.length_nil]; omega) (by omega)) ?_
  rintro _ h1 g1
  have e_ := g1.1
  subst e_
  dsimp only [Option.toList, List.drop, List.cons_append, List.nil_append]
  exact Wp.vret dX9_gather_20 rfl (by exact g1)
theorem c_X4_gather {B : ev_B} {d t n a ns cap : Nat} {X : Nat → Prop} {h : ev_H} {A : Nat → Nat} {C : Nat → Option ev_E} {σ : Sg} {V : Nat → Value} {o : Of} (hW : Wf σ) (ho : OfW σ.N.T o) (hS : CS X h A C) (hN : NetS A C σ ns) (hO : OffO A C t (t + 1) 3 V) (hCh : ChoS A C (t + 1) σ.N [] cap) (hok : okCap cap) (hat : A t = a) (han : A 1 = n) (hk : o.k = 3) (h6 : V 6 = .int (nI o.f)) (hd : 30 ≤ d) :
    Wp B d M_X4_gather 0 [some (.ref a), some (.ref n)] [] h (GQ X h A C (t + 1) σ.N [] cap (gatL σ.N o)) := by
  obtain ⟨Vn, n0, n1, n2, n3, hVn, z0, z1, z2, z3, z4, z5, z6, z7, z8, q0, q1, q2, q3, hgn⟩ := id hN
  have hLM := LM_ge σ
  have hT := hW.net.1
  have hL := hW.net.2.1
  obtain ⟨Vc, -, -, -, hVc, -⟩ := id hCh
  obtain ⟨ht5, htb⟩ := hO.2.2
  have hgl := gat_len hW.net ho
  have hpr := ho.pr hk
  have hp7 := pow_T hT
  have hp0 := Nat.two_pow_pos σ.N.T
  have hgk : gatL σ.N o = pairL σ.N o.f σ.N.L 0 0 (2 ^ σ.N.T - 1) := by simp only [gatL, hk]
  rw [hgk] at hgl ⊢
  refine Wp.aload_n dX4_gather_0 rfl (by first | exact Or.inr ⟨_, rfl⟩ | exact Or.inl rfl) rfl ?_
  refine Wp.aload_n dX4_gather_1 rfl (by first | exact Or.inr ⟨_, rfl⟩ | exact Or.inl rfl) rfl ?_
  refine Wp.iconst (v := (nI 0)) dX4_gather_2 (by decide) rfl ?_
  refine Wp.iconst (v := (nI 0)) dX4_gather_3 (by decide) rfl ?_
  refine Wp.aload_n dX4_gather_4 rfl (by first | exact Or.inr ⟨_, rfl⟩ | exact Or.inl rfl) rfl ?_
  refine Wp.cV dX4_gather_5 cv_X4_15 rfl (by omega) rfl (Nat.le_of_ble_eq_true rfl) (Nat.le_of_ble_eq_true rfl) (hS.at' hVn han) rfl (c_X2_allThings (d := d - 1) (hN.C' hS han) hW.net) ?_
  rintro _ h_ ⟨rfl, e_⟩
  rw [e_]
  clear e_ h_
  dsimp only [Option.toList, List.drop, List.cons_append, List.nil_append]
  refine Wp.cS dX4_gather_8 cs_X4_21 rfl (by omega) rfl (Nat.le_of_ble_eq_true rfl) (Nat.le_of_ble_eq_true rfl) rfl (c_X4_pair hW h6 (by omega) σ.N.L 0 (by omega) (d - 1) 0 (2 ^ σ.N.T - 1) h A C [] cap hS hN hO hCh hok hat han (by decide) (by omega) (by rw [List.length_nil]; omega) (by omega)) ?_
  rintro _ h1 g1
  have e_ := g1.1
  subst e_
  dsimp only [Option.toList, List.drop, List.cons_append, List.nil_append]
  exact Wp.vret dX4_gather_11 rfl (by exact g1)
set_option maxHeartbeats 1000000 in
theorem c_X7_gather {B : ev_B} {d t n a ns cap : Nat} {X : Nat → Prop} {h : ev_H} {A : Nat → Nat} {C : Nat → Option ev_E} {σ : Sg} {V : Nat → Value} {o : Of} {ts : Nat} {gs : Nat → Int32} (hW : Wf σ) (ho : OfW σ.N.T o) (hS : CS X h A C) (hN : NetS A C σ ns) (hO : OffO A C t (t + 1) 6 V) (hCh : ChoS A C (t + 1) σ.N [] cap) (hok : okCap cap) (hat : A t = a) (han : A 1 = n) (hk : o.k = 0) (h6 : V 6 = .ref (A ts)) (h7 : V 7 = .int (nI o.m)) (hts : C ts = some (ev_ia 8 gs)) (hgs : ∀ j, j < o.m → gs j = nI (o.su j)) (hts5 : t + 4 < ts) (hd : 30 ≤ d) :
    Wp B d M_X7_gather 0 [some (.ref a), some (.ref n), none] [] h (GQ X h A C (t + 1) σ.N [] cap (gatL σ.N o)) := by
  obtain ⟨Vn, n0, n1, n2, n3, hVn, z0, z1, z2, z3, z4, z5, z6, z7, z8, q0, q1, q2, q3, hgn⟩ := id hN
  have hLM := LM_ge σ
  have hT := hW.net.1
  have hL := hW.net.2.1
  obtain ⟨Vc, -, -, -, hVc, -⟩ := id hCh
  obtain ⟨ht5, htb⟩ := hO.2.2
  have hgl := gat_len hW.net ho
  have hgk : gatL σ.N o = catL (fun i => if o.su i < 2 ^ σ.N.L then [o.su i] else []) o.m o.m := by simp only [gatL, hk, toldL]
  rw [hgk] at hgl ⊢
  have loop : ∀ i, i ≤ o.m → ∀ (hh : ev_H) (Ai : Nat → Nat) (Ci : Nat → Option ev_E) (li : List Nat) (capi : Nat), CS X hh Ai Ci → NetS Ai Ci σ ns → OffO Ai Ci t (t + 1) 6 V → ChoS Ai Ci (t + 1) σ.N li capi → okCap capi → Ai t = a → Ai 1 = n → Ci ts = some (ev_ia 8 gs) → V 6 = .ref (Ai ts) → li.length + (catL (fun i => if o.su i < 2 ^ σ.N.L then [o.su i] else []) o.m (o.m - i)).length ≤ 4096 → Wp B d M_X7_gather 2 [some (.ref a), some (.ref n), some (.int (nI i))] [] hh (GQ X hh Ai Ci (t + 1) σ.N li capi (catL (fun i => if o.su i < 2 ^ σ.N.L then [o.su i] else []) o.m (o.m - i))) := by
    refine ev_upl o.m (fun i hi ih => ?_) ?_
    · intro hh Ai Ci li capi Si Ni Oi Chi oki hati hani tsi v6i hleni
      obtain ⟨Vn, n0, n1, n2, n3, hVn, z0, z1, z2, z3, z4, z5, z6, z7, z8, q0, q1, q2, q3, hgn⟩ := id Ni
      have hLM := LM_ge σ
      have hT := hW.net.1
      have hL := hW.net.2.1
      obtain ⟨Vci, -, -, -, hVc, -⟩ := id Chi
      have hsu := ho.su i hi
      have hm8 := ho.m
      have hp12 := lt_2pow hL
      have hp0 := Nat.two_pow_pos σ.N.L
      rw [catL_s hi] at hleni ⊢
      rw [List.length_append] at hleni
      refine Wp.iload_n dX7_gather_2 rfl rfl ?_
      refine Wp.aload_n dX7_gather_3 rfl (by first | exact Or.inr ⟨_, rfl⟩ | exact Or.inl rfl) rfl ?_
      refine Wp.get dX7_gather_4 fl_X7_15 (Si.at' Oi.1 hati) h7 rfl ?_
      refine Wp.icmp_ge (tgt := 45) (n := 10) dX7_gather_7 (by decide) rfl (fun c_7 => ?_) (fun c_7 => ?_)
      · try simp (disch := omega) only [nI_bit0, nI_bit1, Bool.not_eq_false, Bool.not_eq_true] at c_7
        try simp (disch := omega) only [i_lt, i_le, i_eq, l_lt, l_le, l_eq, i_0, i_m1, l_0, nI_tI, iI_tI, lI_tI, Int.not_lt, Int.not_le] at c_7
        omega
      · try simp (disch := omega) only [nI_bit0, nI_bit1, Bool.not_eq_false, Bool.not_eq_true] at c_7
        try simp (disch := omega) only [i_lt, i_le, i_eq, l_lt, l_le, l_eq, i_0, i_m1, l_0, nI_tI, iI_tI, lI_tI, Int.not_lt, Int.not_le] at c_7
        refine Wp.aload_n dX7_gather_10 rfl (by first | exact Or.inr ⟨_, rfl⟩ | exact Or.inl rfl) rfl ?_
        refine Wp.get dX7_gather_11 fl_X7_9 (Si.at' Oi.1 hati) v6i rfl ?_
        refine Wp.iload_n dX7_gather_14 rfl rfl ?_
        refine Wp.iaload dX7_gather_15 (Si.at tsi) (nI_toInt (by omega)) (by omega) rfl ?_
        rw [hgs i hi]
        refine Wp.iconst (v := (nI 1)) dX7_gather_16 (by decide) rfl ?_
        refine Wp.aload_n dX7_gather_17 rfl (by first | exact Or.inr ⟨_, rfl⟩ | exact Or.inl rfl) rfl ?_
        refine Wp.get dX7_gather_18 fl_X7_23 (Si.at' hVn hani) z5 rfl ?_
        refine Wp.ishl dX7_gather_21 rfl ?_
        rw [nI_one_shl (by omega)]
        refine Wp.icmp_ge (tgt := 39) (n := 25) dX7_gather_22 (by decide) rfl (fun c_22 => ?_) (fun c_22 => ?_)
        · try simp (disch := omega) only [nI_bit0, nI_bit1, Bool.not_eq_false, Bool.not_eq_true] at c_22
          try simp (disch := omega) only [i_lt, i_le, i_eq, l_lt, l_le, l_eq, i_0, i_m1, l_0, nI_tI, iI_tI, lI_tI, Int.not_lt, Int.not_le] at c_22
          refine Wp.iinc (v := _ + (nI 1)) dX7_gather_39 rfl rfl (Nat.le_of_ble_eq_true rfl) (by dsimp only [ev_st1, ev_cl] <;> rfl) rfl ?_
          refine Wp.goto (n := 2) dX7_gather_42 (by decide) ?_
          rw [nI_add1]
          rw [if_neg (by omega), List.nil_append]
          rw [if_neg (by omega), List.length_nil, Nat.zero_add] at hleni
          exact ih hh Ai Ci li capi Si Ni Oi Chi oki hati hani tsi v6i hleni
        · try simp (disch := omega) only [nI_bit0, nI_bit1, Bool.not_eq_false, Bool.not_eq_true] at c_22
          try simp (disch := omega) only [i_lt, i_le, i_eq, l_lt, l_le, l_eq, i_0, i_m1, l_0, nI_tI, iI_tI, lI_tI, Int.not_lt, Int.not_le] at c_22
          rw [if_pos (by omega)] at hleni ⊢
          rw [List.length_singleton] at hleni
          refine Wp.aload_n dX7_gather_25 rfl (by first | exact Or.inr ⟨_, rfl⟩ | exact Or.inl rfl) rfl ?_
          refine Wp.get dX7_gather_26 fl_X7_28 (Si.at' Oi.1 hati) Oi.2.1 rfl ?_
          refine Wp.aload_n dX7_gather_29 rfl (by first | exact Or.inr ⟨_, rfl⟩ | exact Or.inl rfl) rfl ?_
          refine Wp.aload_n dX7_gather_30 rfl (by first | exact Or.inr ⟨_, rfl⟩ | exact Or.inl rfl) rfl ?_
          refine Wp.get dX7_gather_31 fl_X7_9 (Si.at' Oi.1 hati) v6i rfl ?_
          refine Wp.iload_n dX7_gather_34 rfl rfl ?_
          refine Wp.iaload dX7_gather_35 (Si.at tsi) (nI_toInt (by omega)) (by omega) rfl ?_
          rw [hgs i hi]
          refine Wp.cV dX7_gather_36 cv_X7_32 rfl (by omega) rfl (Nat.le_of_ble_eq_true rfl) (Nat.le_of_ble_eq_true rfl) (Si.at hVc) rfl (put_GQ (d := d - 1) (a := Ai (t + 1)) Si Chi Ni hW oki rfl hani (by omega) (by omega) (by omega) (by omega)) ?_
          rintro _ h1 ⟨rfl, A1, C1, cap1, S1, o1, hc1, ok1, a1, f1, Ch1⟩
          dsimp only [Option.toList, List.drop, List.cons_append, List.nil_append]
          have N1 := Ni.same (fun s h1 h2 => f1 s (by omega)) (fun s h1 h2 => a1 s (by omega))
          have O1 := Oi.same (f1 t (by omega)) (a1 (t + 1) (by omega))
          have hat1 := (a1 t (by omega)).trans hati
          have han1 := (a1 1 (by omega)).trans hani
          have ts1 := (f1 ts (by omega)).trans tsi
          have v61 : V 6 = .ref (A1 ts) := by rw [a1 ts (by omega)]; exact v6i
          refine Wp.iinc (v := _ + (nI 1)) dX7_gather_39 rfl rfl (Nat.le_of_ble_eq_true rfl) (by dsimp only [ev_st1, ev_cl] <;> rfl) rfl ?_
          refine Wp.goto (n := 2) dX7_gather_42 (by decide) ?_
          rw [nI_add1]
          refine (ih h1 A1 C1 _ cap1 S1 N1 O1 Ch1 ok1 hat1 han1 ts1 v61 (by rw [insA_len, List.length_singleton]; omega)).mono (fun v h2 g2 => ?_)
          exact GQ.trans o1 hc1 a1 f1 rfl g2
    · intro hh Ai Ci li capi Si Ni Oi Chi oki hati hani tsi v6i hleni
      obtain ⟨Vn, n0, n1, n2, n3, hVn, z0, z1, z2, z3, z4, z5, z6, z7, z8, q0, q1, q2, q3, hgn⟩ := id Ni
      have hLM := LM_ge σ
      have hT := hW.net.1
      have hL := hW.net.2.1
      have hm8 := ho.m
      refine Wp.iload_n dX7_gather_2 rfl rfl ?_
      refine Wp.aload_n dX7_gather_3 rfl (by first | exact Or.inr ⟨_, rfl⟩ | exact Or.inl rfl) rfl ?_
      refine Wp.get dX7_gather_4 fl_X7_15 (Si.at' Oi.1 hati) h7 rfl ?_
      refine Wp.icmp_ge (tgt := 45) (n := 10) dX7_gather_7 (by decide) rfl (fun c_7 => ?_) (fun c_7 => ?_)
      · try simp (disch := omega) only [nI_bit0, nI_bit1, Bool.not_eq_false, Bool.not_eq_true] at c_7
        try simp (disch := omega) only [i_lt, i_le, i_eq, l_lt, l_le, l_eq, i_0, i_m1, l_0, nI_tI, iI_tI, lI_tI, Int.not_lt, Int.not_le] at c_7
        exact Wp.vret dX7_gather_45 rfl (by rw [Nat.sub_self]; exact GQ.nil Si oki Chi)
      · try simp (disch := omega) only [nI_bit0, nI_bit1, Bool.not_eq_false, Bool.not_eq_true] at c_7
        try simp (disch := omega) only [i_lt, i_le, i_eq, l_lt, l_le, l_eq, i_0, i_m1, l_0, nI_tI, iI_tI, lI_tI, Int.not_lt, Int.not_le] at c_7
        omega
  refine Wp.iconst (v := (nI 0)) dX7_gather_0 (by decide) rfl ?_
  refine Wp.istore_n dX7_gather_1 (Nat.le_of_ble_eq_true rfl) (by dsimp only [ev_st1, ev_st2, ev_cl] <;> rfl) rfl ?_
  have l0 := loop 0 (Nat.zero_le _) h A C [] cap hS hN hO hCh hok hat han hts h6 (by rw [Nat.sub_zero, List.length_nil]; omega)
  rw [Nat.sub_zero] at l0
  exact l0
