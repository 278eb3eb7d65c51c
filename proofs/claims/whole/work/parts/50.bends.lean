/-! the class: bends found; bars, needs, numbers of offers -/
def BQ (X : Nat → Prop) (h0 : ev_H) (A0 : Nat → Nat) (C0 : Nat → Option ev_E) (b nb : Nat) (rv : Nat → Nat → Int) (len : Nat) (S R : Nat → Int) (c : Nat → Nat) (xs : List (Nat × Nat)) (v : Option Value) (h' : ev_H) : Prop := v = none ∧ ∃ A' C' len' rv', CS X h' A' C' ∧ CG X h0 h' (3 * (len' - len)) ∧ len ≤ len' ∧ len' ≤ 4000 ∧ (∀ t, t ≠ b + 1 → A' t = A0 t) ∧ (∀ t, t ≠ b → t ≠ b + 1 → C' t = C0 t) ∧ RowS A' C' b (nb + xs.length) rv' len' ∧ (∀ i k, i < nb → k < 4 → rv' i k = rv i k) ∧ ∀ i k, i < xs.length → k < 4 → rv' (nb + i) k = rowV S R c (xs.getD i (0, 0)) k
theorem BQ.nil {X : Nat → Prop} {h : ev_H} {A : Nat → Nat} {C : Nat → Option ev_E} {b nb len : Nat} {rv : Nat → Nat → Int} {S R : Nat → Int} {c : Nat → Nat} (hS : CS X h A C) (hR : RowS A C b nb rv len) (hl : len ≤ 4000) : BQ X h A C b nb rv len S R c [] none h := ⟨rfl, A, C, len, rv, hS, CG.rfl, Nat.le_refl _, hl, fun _ _ => rfl, fun _ _ _ => rfl, hR, fun _ _ _ _ => rfl, fun i k h1 => absurd h1 (Nat.not_lt_zero i)⟩
theorem BQ.cons {X : Nat → Prop} {h h1 h2 : ev_H} {A A1 : Nat → Nat} {C C1 : Nat → Option ev_E} {b nb len len1 : Nat} {rv : Nat → Nat → Int} {S R : Nat → Int} {c : Nat → Nat} {e : Nat × Nat} {xs : List (Nat × Nat)} {v : Option Value} (o1 : CG X h h1 (3 * (len1 - len))) (hl : len ≤ len1) (a1 : ∀ t, t ≠ b + 1 → A1 t = A t) (f1 : ∀ t, t ≠ b → t ≠ b + 1 → C1 t = C t)
    (g : BQ X h1 A1 C1 b (nb + 1) (fun i k => if i = nb then (if k = 0 then low true (S e.2 - S e.1) (R e.1 - R e.2) else if k = 1 then low false (S e.2 - S e.1) (R e.1 - R e.2) else if k = 2 then (c e.1 : Int) else (c e.2 : Int)) else rv i k) len1 S R c xs v h2) : BQ X h A C b nb rv len S R c (e :: xs) v h2 := by
  obtain ⟨rfl, A2, C2, len2, rv2, S2, o2, hl2, hl3, a2, f2, R2, q1, q2⟩ := g
  refine ⟨rfl, A2, C2, len2, rv2, S2, (o1.tr o2).le (by omega), by omega, hl3, fun t ht => (a2 t ht).trans (a1 t ht), fun t h1 h2 => (f2 t h1 h2).trans (f1 t h1 h2), ?_, fun i k h1 h2 => ?_, fun i k h1 h2 => ?_⟩
  · rw [List.length_cons, show nb + (xs.length + 1) = nb + 1 + xs.length by omega]; exact R2
  · rw [q1 i k (by omega) h2]; simp only []; rw [if_neg (by omega)]
  · rw [List.length_cons] at h1
    cases i with
    | zero => rw [Nat.add_zero, q1 nb k (by omega) h2]; simp only [if_true]; rfl
    | succ i =>
      rw [show nb + (i + 1) = nb + 1 + i by omega, q2 i k (by omega) h2]
      simp [List.getD]
/-- an offer's object, its choices, its rows of bends -/
def OffB (A : Nat → Nat) (C : Nat → Option ev_E) (i ci : Nat) (V : Nat → Value) : Prop := C (tO i) = some (ev_ob ci V) ∧ ev_isO ci ∧ V 2 = .ref (A (tO i + 1)) ∧ V 3 = .ref (A (tO i + 5))
theorem OffB.same {A A' : Nat → Nat} {C C' : Nat → Option ev_E} {i ci : Nat} {V : Nat → Value} (h : OffB A C i ci V) (f : C' (tO i) = C (tO i)) (a1 : A' (tO i + 1) = A (tO i + 1)) (a5 : A' (tO i + 5) = A (tO i + 5)) : OffB A' C' i ci V := ⟨f.trans h.1, h.2.1, by rw [a1]; exact h.2.2.1, by rw [a5]; exact h.2.2.2⟩
theorem WinS.same {C C' : Nat → Option ev_E} {σ : Sg} {ws : Nat} (h : WinS C σ ws) (f : C' 7 = C 7) : WinS C' σ ws := by
  obtain ⟨V, hV, q⟩ := h
  exact ⟨V, f.trans hV, q⟩
set_option maxHeartbeats 2000000 in
theorem c_X3_findBends {B : ev_B} {d i ci ns ws cap : Nat} {X : Nat → Prop} {σ : Sg} {V : Nat → Value} {a w : Nat} {h : ev_H} {A : Nat → Nat} {C : Nat → Option ev_E} {len : Nat} {rv : Nat → Nat → Int} (hW : Wf σ) (hS : CS X h A C) (hO : OffB A C i ci V) (hR : RowS A C (tO i + 5) 0 rv len) (hl4 : len ≤ 4000) (hCh : ChoS A C (tO i + 1) σ.N (chL σ.N (σ.O i)) cap) (hWn : WinS C σ ws) (hat : A (tO i) = a) (haw : A 7 = w) (hd : 5 ≤ d) :
    Wp B d M_X3_findBends 0 [some (.ref a), some (.ref w), none, none, none, none, none, none, none] [] h (BQ X h A C (tO i + 5) 0 rv len (chS σ i) (chR σ i) (chC σ i) (blL σ i)) := by
  have hB := PrB_ch hW i
  have hn4 := hB.1
  have hbb := hB.2
  have hw1 := hW.w1
  have hw2 := hW.w2
  have hbl480 := blL_len hW i
  have sEnd : ∀ (hh : ev_H) (Ai : Nat → Nat) (Ci : Nat → Option ev_E) (nb len : Nat) (rv : Nat → Nat → Int) (pl st : Int32) (j4 j5 j6 j7 j8 : Option Value), CS X hh Ai Ci → OffB Ai Ci i ci V → RowS Ai Ci (tO i + 5) nb rv len → len ≤ 4000 → ChoS Ai Ci (tO i + 1) σ.N (chL σ.N (σ.O i)) cap → WinS Ci σ ws → Ai (tO i) = a → Ai 7 = w → pl < 0 → Wp B d M_X3_findBends 19 [some (.ref a), some (.ref w), some (.int (pl)), some (.int (st)), j4, j5, j6, j7, j8] [] hh (BQ X hh Ai Ci (tO i + 5) nb rv len (chS σ i) (chR σ i) (chC σ i) []) := by
    intro hh Ai Ci nb len rv pl st j4 j5 j6 j7 j8 Si Oi Ri hlen4 Chi Wi hat haw hpl
    obtain ⟨hVt, hisO, u2_, u3_⟩ := id Oi
    obtain ⟨Vr, gr, hVr, r0_, r1_, rk0, rl, rg⟩ := id Ri
    have hC : ChoH hh (Ai (tO i + 1)) (chn σ i) (chC σ i) (chS σ i) (chR σ i) := Chi.H Si
    obtain ⟨Vc, x0, x1, x2, capc, g0, g1, g2, hVc, y0, y1, y2, y3, k0, k1, k2, hcap, hg⟩ := id hC
    obtain ⟨Vw, hVw, w0, w1, w2, w3, w4⟩ := id Wi
    have htO : tO i = 30 + 10 * i := rfl
    refine Wp.iload_n dX3_findBends_19 rfl rfl ?_
    refine Wp.aload_n dX3_findBends_20 rfl (by first | exact Or.inr ⟨_, rfl⟩ | exact Or.inl rfl) rfl ?_
    refine Wp.get dX3_findBends_21 (fl_X3_12 hisO) (Si.at' hVt hat) u2_ rfl ?_
    refine Wp.get dX3_findBends_24 fl_X3_68 hVc y3 rfl ?_
    refine Wp.icmp_ge (tgt := 160) (n := 30) dX3_findBends_27 (by decide) rfl (fun c_27 => ?_) (fun c_27 => ?_)
    · skip
      exact Wp.vret dX3_findBends_160 rfl (by exact BQ.nil Si Ri hlen4)
    · skip
      refine Wp.iload_n dX3_findBends_30 rfl rfl ?_
      refine Wp.if_lt (tgt := 160) (n := 34) dX3_findBends_31 (by decide) rfl (fun c_31 => ?_) (fun c_31 => ?_)
      · skip
        exact Wp.vret dX3_findBends_160 rfl (by exact BQ.nil Si Ri hlen4)
      · skip
        exact absurd hpl c_31
  have loop : ∀ step, step ≤ (chn σ i) → ∀ (hh : ev_H) (Ai : Nat → Nat) (Ci : Nat → Option ev_E) (p_ nb len : Nat) (rv : Nat → Nat → Int) (j4 j5 j6 j7 j8 : Option Value), CS X hh Ai Ci → OffB Ai Ci i ci V → RowS Ai Ci (tO i + 5) nb rv len → len ≤ 4000 → ChoS Ai Ci (tO i + 1) σ.N (chL σ.N (σ.O i)) cap → WinS Ci σ ws → Ai (tO i) = a → Ai 7 = w → p_ < chn σ i → nb + (bl (chS σ i) (chR σ i) (chn σ i) σ.p2 σ.q2 (chn σ i - step) p_).length ≤ 480 → Wp B d M_X3_findBends 19 [some (.ref a), some (.ref w), some (.int (nI p_)), some (.int (nI step)), j4, j5, j6, j7, j8] [] hh (BQ X hh Ai Ci (tO i + 5) nb rv len (chS σ i) (chR σ i) (chC σ i) (bl (chS σ i) (chR σ i) (chn σ i) σ.p2 σ.q2 (chn σ i - step) p_)) := by
    refine ev_upl (chn σ i) (fun step hi ih => ?_) ?_
    · intro hh Ai Ci p_ nb len rv j4 j5 j6 j7 j8 Si Oi Ri hlen4 Chi Wi hat haw hp_ hbl
      obtain ⟨hVt, hisO, u2_, u3_⟩ := id Oi
      obtain ⟨Vr, gr, hVr, r0_, r1_, rk0, rl, rg⟩ := id Ri
      have hC : ChoH hh (Ai (tO i + 1)) (chn σ i) (chC σ i) (chS σ i) (chR σ i) := Chi.H Si
      obtain ⟨Vc, x0, x1, x2, capc, g0, g1, g2, hVc, y0, y1, y2, y3, k0, k1, k2, hcap, hg⟩ := id hC
      obtain ⟨Vw, hVw, w0, w1, w2, w3, w4⟩ := id Wi
      have htO : tO i = 30 + 10 * i := rfl
      refine Wp.iload_n dX3_findBends_19 rfl rfl ?_
      refine Wp.aload_n dX3_findBends_20 rfl (by first | exact Or.inr ⟨_, rfl⟩ | exact Or.inl rfl) rfl ?_
      refine Wp.get dX3_findBends_21 (fl_X3_12 hisO) (Si.at' hVt hat) u2_ rfl ?_
      refine Wp.get dX3_findBends_24 fl_X3_68 hVc y3 rfl ?_
      refine Wp.icmp_ge (tgt := 160) (n := 30) dX3_findBends_27 (by decide) rfl (fun c_27 => ?_) (fun c_27 => ?_)
      · try simp (disch := omega) only [nI_bit0, nI_bit1, Bool.not_eq_false, Bool.not_eq_true] at c_27
        try simp (disch := omega) only [i_lt, i_le, i_eq, l_lt, l_le, l_eq, i_0, i_m1, l_0, nI_tI, iI_tI, lI_tI, Int.not_lt, Int.not_le] at c_27
        omega
      · try simp (disch := omega) only [nI_bit0, nI_bit1, Bool.not_eq_false, Bool.not_eq_true] at c_27
        try simp (disch := omega) only [i_lt, i_le, i_eq, l_lt, l_le, l_eq, i_0, i_m1, l_0, nI_tI, iI_tI, lI_tI, Int.not_lt, Int.not_le] at c_27
        refine Wp.iload_n dX3_findBends_30 rfl rfl ?_
        refine Wp.if_lt (tgt := 160) (n := 34) dX3_findBends_31 (by decide) rfl (fun c_31 => ?_) (fun c_31 => ?_)
        · try simp (disch := omega) only [nI_bit0, nI_bit1, Bool.not_eq_false, Bool.not_eq_true] at c_31
          try simp (disch := omega) only [i_lt, i_le, i_eq, l_lt, l_le, l_eq, i_0, i_m1, l_0, nI_tI, iI_tI, lI_tI, Int.not_lt, Int.not_le] at c_31
          omega
        · try simp (disch := omega) only [nI_bit0, nI_bit1, Bool.not_eq_false, Bool.not_eq_true] at c_31
          try simp (disch := omega) only [i_lt, i_le, i_eq, l_lt, l_le, l_eq, i_0, i_m1, l_0, nI_tI, iI_tI, lI_tI, Int.not_lt, Int.not_le] at c_31
          refine Wp.aload_n dX3_findBends_34 rfl (by first | exact Or.inr ⟨_, rfl⟩ | exact Or.inl rfl) rfl ?_
          refine Wp.get dX3_findBends_35 (fl_X3_12 hisO) (Si.at' hVt hat) u2_ rfl ?_
          refine Wp.iload_n dX3_findBends_38 rfl rfl ?_
          refine Wp.cV dX3_findBends_39 cv_X3_71 rfl (by omega) rfl (Nat.le_of_ble_eq_true rfl) (Nat.le_of_ble_eq_true rfl) hVc rfl (c_X1_nextAbove (d := d - 1) hC hB hp_ (by omega)) ?_
          rintro _ h_ ⟨rfl, e_⟩
          rw [e_]
          clear e_ h_
          dsimp only [Option.toList, List.drop, List.cons_append, List.nil_append]
          have hnx := nxN_in (chS σ i) (chR σ i) p_ (chn σ i)
          refine Wp.istore dX3_findBends_42 (Nat.le_of_ble_eq_true rfl) (by dsimp only [ev_st1, ev_st2, ev_cl] <;> rfl) rfl ?_
          refine Wp.iload dX3_findBends_44 rfl rfl ?_
          refine Wp.if_lt (tgt := 151) (n := 49) dX3_findBends_46 (by decide) rfl (fun c_46 => ?_) (fun c_46 => ?_)
          · try simp (disch := omega) only [nI_bit0, nI_bit1, Bool.not_eq_false, Bool.not_eq_true] at c_46
            try simp (disch := omega) only [i_lt, i_le, i_eq, l_lt, l_le, l_eq, i_0, i_m1, l_0, nI_tI, iI_tI, lI_tI, Int.not_lt, Int.not_le] at c_46
            refine Wp.iload dX3_findBends_151 rfl rfl ?_
            refine Wp.istore_n dX3_findBends_153 (Nat.le_of_ble_eq_true rfl) (by dsimp only [ev_st1, ev_st2, ev_cl] <;> rfl) rfl ?_
            refine Wp.iinc (v := _ + (nI 1)) dX3_findBends_154 rfl rfl (Nat.le_of_ble_eq_true rfl) (by dsimp only [ev_st1, ev_cl] <;> rfl) rfl ?_
            refine Wp.goto (n := 19) dX3_findBends_157 (by decide) ?_
            have hbe : (bl (chS σ i) (chR σ i) (chn σ i) σ.p2 σ.q2 (chn σ i - step) p_) = [] := by
              first
                | exact bl_no (by omega)
                | exact bl_out he_ (by omega)
            rw [hbe]
            exact sEnd hh Ai Ci nb len rv _ _ _ _ _ _ _ Si Oi Ri hlen4 Chi Wi hat haw (by first | (rw [i_lt, i_0, iI_tI (by omega) (by omega)]; omega) | decide)
          · try simp (disch := omega) only [nI_bit0, nI_bit1, Bool.not_eq_false, Bool.not_eq_true] at c_46
            try simp (disch := omega) only [i_lt, i_le, i_eq, l_lt, l_le, l_eq, i_0, i_m1, l_0, nI_tI, iI_tI, lI_tI, Int.not_lt, Int.not_le] at c_46
            obtain ⟨e_, he_⟩ : ∃ e_ : Nat, nxN (chS σ i) (chR σ i) p_ (chn σ i) = e_ := ⟨_, (Int.toNat_of_nonneg (by omega)).symm⟩
            rw [he_, ← nI_iI]
            have hen : e_ < chn σ i := by omega
            have hge := hg e_ hen
            have hgp := hg p_ hp_
            have hbe := hbb e_ hen
            have hbp := hbb p_ hp_
            have hnr : chR σ i e_ < chR σ i p_ := by
              rcases nxN_is (chS σ i) (chR σ i) p_ (chn σ i) with ⟨z, -⟩ | ⟨z, z1, z2⟩
              · omega
              · have e1 : z = e_ := by omega
                rw [← e1]; exact z2.2.1
            have m1 := mulb (a := chS σ i e_ - chS σ i p_) (b := σ.q2) (A := 2400) (C := 1000) (by omega) (by omega)
            have m2 := mulb (a := σ.p2) (b := chR σ i p_ - chR σ i e_) (A := 10000) (C := 480) (by omega) (by omega)
            refine Wp.aload_n dX3_findBends_49 rfl (by first | exact Or.inr ⟨_, rfl⟩ | exact Or.inl rfl) rfl ?_
            refine Wp.get dX3_findBends_50 (fl_X3_12 hisO) (Si.at' hVt hat) u2_ rfl ?_
            refine Wp.get dX3_findBends_53 fl_X3_75 hVc y1 rfl ?_
            refine Wp.iload dX3_findBends_56 rfl rfl ?_
            refine Wp.iaload dX3_findBends_58 k1 (nI_toInt (by omega)) (by omega) rfl ?_
            rw [hge.2.1]
            refine Wp.aload_n dX3_findBends_59 rfl (by first | exact Or.inr ⟨_, rfl⟩ | exact Or.inl rfl) rfl ?_
            refine Wp.get dX3_findBends_60 (fl_X3_12 hisO) (Si.at' hVt hat) u2_ rfl ?_
            refine Wp.get dX3_findBends_63 fl_X3_75 hVc y1 rfl ?_
            refine Wp.iload_n dX3_findBends_66 rfl rfl ?_
            refine Wp.iaload dX3_findBends_67 k1 (nI_toInt (by omega)) (by omega) rfl ?_
            rw [hgp.2.1]
            refine Wp.isub dX3_findBends_68 rfl ?_
            rw [iI_sub]
            refine Wp.i2l dX3_findBends_69 rfl ?_
            rw [iI_l (by omega) (by omega)]
            refine Wp.lstore dX3_findBends_70 (Nat.le_of_ble_eq_true rfl) (by dsimp only [ev_st1, ev_st2, ev_cl] <;> rfl) rfl ?_
            refine Wp.aload_n dX3_findBends_72 rfl (by first | exact Or.inr ⟨_, rfl⟩ | exact Or.inl rfl) rfl ?_
            refine Wp.get dX3_findBends_73 (fl_X3_12 hisO) (Si.at' hVt hat) u2_ rfl ?_
            refine Wp.get dX3_findBends_76 fl_X3_79 hVc y2 rfl ?_
            refine Wp.iload_n dX3_findBends_79 rfl rfl ?_
            refine Wp.iaload dX3_findBends_80 k2 (nI_toInt (by omega)) (by omega) rfl ?_
            rw [hgp.2.2]
            refine Wp.aload_n dX3_findBends_81 rfl (by first | exact Or.inr ⟨_, rfl⟩ | exact Or.inl rfl) rfl ?_
            refine Wp.get dX3_findBends_82 (fl_X3_12 hisO) (Si.at' hVt hat) u2_ rfl ?_
            refine Wp.get dX3_findBends_85 fl_X3_79 hVc y2 rfl ?_
            refine Wp.iload dX3_findBends_88 rfl rfl ?_
            refine Wp.iaload dX3_findBends_90 k2 (nI_toInt (by omega)) (by omega) rfl ?_
            rw [hge.2.2]
            refine Wp.isub dX3_findBends_91 rfl ?_
            rw [iI_sub]
            refine Wp.i2l dX3_findBends_92 rfl ?_
            rw [iI_l (by omega) (by omega)]
            refine Wp.lstore dX3_findBends_93 (Nat.le_of_ble_eq_true rfl) (by dsimp only [ev_st1, ev_st2, ev_cl] <;> rfl) rfl ?_
            refine Wp.lload dX3_findBends_95 rfl rfl ?_
            refine Wp.lload dX3_findBends_97 rfl rfl ?_
            refine Wp.aload_n dX3_findBends_99 rfl (by first | exact Or.inr ⟨_, rfl⟩ | exact Or.inl rfl) rfl ?_
            refine Wp.get dX3_findBends_100 fl_X3_82 (Si.at' hVw haw) w2 rfl ?_
            refine Wp.i2l dX3_findBends_103 rfl ?_
            rw [iI_l (by omega) (by omega)]
            refine Wp.aload_n dX3_findBends_104 rfl (by first | exact Or.inr ⟨_, rfl⟩ | exact Or.inl rfl) rfl ?_
            refine Wp.get dX3_findBends_105 fl_X3_85 (Si.at' hVw haw) w3 rfl ?_
            refine Wp.i2l dX3_findBends_108 rfl ?_
            rw [iI_l (by omega) (by omega)]
            refine Wp.cSN dX3_findBends_109 cs_X3_88 rfl (by omega) rfl (Nat.le_of_ble_eq_true rfl) (Nat.le_of_ble_eq_true rfl) rfl (c_X11_isLess (d := d - 1) ⟨by omega, by omega⟩ ⟨by omega, by omega⟩) ?_
            rintro _ h_ ⟨rfl, e_⟩
            rw [e_]
            clear e_ h_
            dsimp only [Option.toList, List.drop, List.cons_append, List.nil_append]
            refine Wp.bif_eq (tgt := 148) (n := 115) dX3_findBends_112 (by decide) rfl (fun c_112 => ?_) (fun c_112 => ?_)
            · try simp only [decide_eq_true_eq, decide_eq_false_iff_not, Bool.and_eq_true, bI_0, bI_n0] at c_112
              refine Wp.iconst (v := (-1)) dX3_findBends_148 (by decide) rfl ?_
              refine Wp.istore dX3_findBends_149 (Nat.le_of_ble_eq_true rfl) (by dsimp only [ev_st1, ev_st2, ev_cl] <;> rfl) rfl ?_
              refine Wp.iload dX3_findBends_151 rfl rfl ?_
              refine Wp.istore_n dX3_findBends_153 (Nat.le_of_ble_eq_true rfl) (by dsimp only [ev_st1, ev_st2, ev_cl] <;> rfl) rfl ?_
              refine Wp.iinc (v := _ + (nI 1)) dX3_findBends_154 rfl rfl (Nat.le_of_ble_eq_true rfl) (by dsimp only [ev_st1, ev_cl] <;> rfl) rfl ?_
              refine Wp.goto (n := 19) dX3_findBends_157 (by decide) ?_
              have hbe : (bl (chS σ i) (chR σ i) (chn σ i) σ.p2 σ.q2 (chn σ i - step) p_) = [] := by
                first
                  | exact bl_no (by omega)
                  | exact bl_out he_ (by omega)
              rw [hbe]
              exact sEnd hh Ai Ci nb len rv _ _ _ _ _ _ _ Si Oi Ri hlen4 Chi Wi hat haw (by first | (rw [i_lt, i_0, iI_tI (by omega) (by omega)]; omega) | decide)
            · try simp only [decide_eq_true_eq, decide_eq_false_iff_not, Bool.and_eq_true, bI_0, bI_n0] at c_112
              rw [show chn σ i - step = (chn σ i - (step + 1)) + 1 by omega, bl_in he_ c_112] at hbl ⊢
              rw [List.length_cons] at hbl
              refine Wp.aload_n dX3_findBends_115 rfl (by first | exact Or.inr ⟨_, rfl⟩ | exact Or.inl rfl) rfl ?_
              refine Wp.get dX3_findBends_116 (fl_X3_21 hisO) (Si.at' hVt hat) u3_ rfl ?_
              refine Wp.lload dX3_findBends_119 rfl rfl ?_
              refine Wp.lload dX3_findBends_121 rfl rfl ?_
              refine Wp.aload_n dX3_findBends_123 rfl (by first | exact Or.inr ⟨_, rfl⟩ | exact Or.inl rfl) rfl ?_
              refine Wp.get dX3_findBends_124 (fl_X3_12 hisO) (Si.at' hVt hat) u2_ rfl ?_
              refine Wp.get dX3_findBends_127 fl_X3_92 hVc y0 rfl ?_
              refine Wp.iload_n dX3_findBends_130 rfl rfl ?_
              refine Wp.iaload dX3_findBends_131 k0 (nI_toInt (by omega)) (by omega) rfl ?_
              rw [hgp.1]
              refine Wp.aload_n dX3_findBends_132 rfl (by first | exact Or.inr ⟨_, rfl⟩ | exact Or.inl rfl) rfl ?_
              refine Wp.get dX3_findBends_133 (fl_X3_12 hisO) (Si.at' hVt hat) u2_ rfl ?_
              refine Wp.get dX3_findBends_136 fl_X3_92 hVc y0 rfl ?_
              refine Wp.iload dX3_findBends_139 rfl rfl ?_
              refine Wp.iaload dX3_findBends_141 k0 (nI_toInt (by omega)) (by omega) rfl ?_
              rw [hge.1]
              refine Wp.cV dX3_findBends_142 cv_X3_95 rfl (by omega) rfl (Nat.le_of_ble_eq_true rfl) (Nat.le_of_ble_eq_true rfl) (Si.at hVr) rfl (c_X5_put (d := d - 1) (p := chS σ i e_ - chS σ i p_) (q := chR σ i p_ - chR σ i e_) (x := chC σ i p_) (y := chC σ i e_) Si Ri (by omega) (by omega) (by omega) (by omega) (chC_lt σ i p_) (chC_lt σ i e_) (by omega)) ?_
              rintro _ h1 ⟨rfl, A1, C1, len1, S1, o1, hl1, hl2, a1, f1, R1⟩
              dsimp only [Option.toList, List.drop, List.cons_append, List.nil_append]
              have hat1 := (a1 (tO i) (by omega)).trans hat
              have haw1 := (a1 7 (by omega)).trans haw
              have O1 := Oi.same (f1 (tO i) (by omega) (by omega)) (a1 _ (by omega)) (a1 _ (by omega))
              have Ch1 := Chi.same (fun t q1 q2 => f1 t (by omega) (by omega)) (fun t q1 q2 => a1 t (by omega))
              have W1 := Wi.same (f1 7 (by omega) (by omega))
              have hl14 : len1 ≤ 4000 := by omega
              refine Wp.goto (n := 151) dX3_findBends_145 (by decide) ?_
              refine Wp.iload dX3_findBends_151 rfl rfl ?_
              refine Wp.istore_n dX3_findBends_153 (Nat.le_of_ble_eq_true rfl) (by dsimp only [ev_st1, ev_st2, ev_cl] <;> rfl) rfl ?_
              refine Wp.iinc (v := _ + (nI 1)) dX3_findBends_154 rfl rfl (Nat.le_of_ble_eq_true rfl) (by dsimp only [ev_st1, ev_cl] <;> rfl) rfl ?_
              refine Wp.goto (n := 19) dX3_findBends_157 (by decide) ?_
              rw [nI_add1]
              refine (ih h1 A1 C1 e_ (nb + 1) len1 _ _ _ _ _ _ S1 O1 R1 hl14 Ch1 W1 hat1 haw1 hen (by omega)).mono (fun v h2 g => ?_)
              exact BQ.cons o1 hl1 a1 f1 g
    · intro hh Ai Ci p_ nb len rv j4 j5 j6 j7 j8 Si Oi Ri hlen4 Chi Wi hat haw hp_ hbl
      obtain ⟨hVt, hisO, u2_, u3_⟩ := id Oi
      obtain ⟨Vr, gr, hVr, r0_, r1_, rk0, rl, rg⟩ := id Ri
      have hC : ChoH hh (Ai (tO i + 1)) (chn σ i) (chC σ i) (chS σ i) (chR σ i) := Chi.H Si
      obtain ⟨Vc, x0, x1, x2, capc, g0, g1, g2, hVc, y0, y1, y2, y3, k0, k1, k2, hcap, hg⟩ := id hC
      obtain ⟨Vw, hVw, w0, w1, w2, w3, w4⟩ := id Wi
      have htO : tO i = 30 + 10 * i := rfl
      refine Wp.iload_n dX3_findBends_19 rfl rfl ?_
      refine Wp.aload_n dX3_findBends_20 rfl (by first | exact Or.inr ⟨_, rfl⟩ | exact Or.inl rfl) rfl ?_
      refine Wp.get dX3_findBends_21 (fl_X3_12 hisO) (Si.at' hVt hat) u2_ rfl ?_
      refine Wp.get dX3_findBends_24 fl_X3_68 hVc y3 rfl ?_
      refine Wp.icmp_ge (tgt := 160) (n := 30) dX3_findBends_27 (by decide) rfl (fun c_27 => ?_) (fun c_27 => ?_)
      · try simp (disch := omega) only [nI_bit0, nI_bit1, Bool.not_eq_false, Bool.not_eq_true] at c_27
        try simp (disch := omega) only [i_lt, i_le, i_eq, l_lt, l_le, l_eq, i_0, i_m1, l_0, nI_tI, iI_tI, lI_tI, Int.not_lt, Int.not_le] at c_27
        exact Wp.vret dX3_findBends_160 rfl (by rw [Nat.sub_self]; exact BQ.nil Si Ri hlen4)
      · try simp (disch := omega) only [nI_bit0, nI_bit1, Bool.not_eq_false, Bool.not_eq_true] at c_27
        try simp (disch := omega) only [i_lt, i_le, i_eq, l_lt, l_le, l_eq, i_0, i_m1, l_0, nI_tI, iI_tI, lI_tI, Int.not_lt, Int.not_le] at c_27
        omega
  obtain ⟨hVt, hisO, u2_, u3_⟩ := id hO
  obtain ⟨Vr, gr, hVr, r0_, r1_, rk0, rl, rg⟩ := id hR
  have hC : ChoH h (A (tO i + 1)) (chn σ i) (chC σ i) (chS σ i) (chR σ i) := hCh.H hS
  obtain ⟨Vc, x0, x1, x2, capc, g0, g1, g2, hVc, y0, y1, y2, y3, k0, k1, k2, hcap, hg⟩ := id hC
  obtain ⟨Vw, hVw, w0, w1, w2, w3, w4⟩ := id hWn
  have htO : tO i = 30 + 10 * i := rfl
  refine Wp.aload_n dX3_findBends_0 rfl (by first | exact Or.inr ⟨_, rfl⟩ | exact Or.inl rfl) rfl ?_
  refine Wp.get dX3_findBends_1 (fl_X3_12 hisO) (hS.at' hVt hat) u2_ rfl ?_
  refine Wp.aload_n dX3_findBends_4 rfl (by first | exact Or.inr ⟨_, rfl⟩ | exact Or.inl rfl) rfl ?_
  refine Wp.get dX3_findBends_5 fl_X3_58 (hS.at' hVw haw) w0 rfl ?_
  refine Wp.aload_n dX3_findBends_8 rfl (by first | exact Or.inr ⟨_, rfl⟩ | exact Or.inl rfl) rfl ?_
  refine Wp.get dX3_findBends_9 fl_X3_61 (hS.at' hVw haw) w1 rfl ?_
  refine Wp.iconst (v := (nI 1)) dX3_findBends_12 (by decide) rfl ?_
  refine Wp.cV dX3_findBends_13 cv_X3_64 rfl (by omega) rfl (Nat.le_of_ble_eq_true rfl) (Nat.le_of_ble_eq_true rfl) hVc rfl (c_X1_cheapestAt (d := d - 1) (w := 1) hC hB (iI_tI (by omega) (by omega)) (iI_tI (by omega) (by omega)) ⟨by omega, by omega, by omega, by omega⟩ (by decide) (by omega)) ?_
  rintro _ h_ ⟨rfl, e_⟩
  rw [e_]
  clear e_ h_
  dsimp only [Option.toList, List.drop, List.cons_append, List.nil_append]
  rcases Nat.eq_zero_or_pos (chn σ i) with hz | hz
  · rw [bsI, if_pos hz]
    rw [show blL σ i = [] by unfold blL; rw [if_neg (by omega)]]
    refine Wp.istore_n dX3_findBends_16 (Nat.le_of_ble_eq_true rfl) (by dsimp only [ev_st1, ev_st2, ev_cl] <;> rfl) rfl ?_
    refine Wp.iconst (v := (nI 0)) dX3_findBends_17 (by decide) rfl ?_
    refine Wp.istore_n dX3_findBends_18 (Nat.le_of_ble_eq_true rfl) (by dsimp only [ev_st1, ev_st2, ev_cl] <;> rfl) rfl ?_
    exact sEnd h A C 0 len rv _ _ _ _ _ _ _ hS hO hR hl4 hCh hWn hat haw (by decide)
  · rw [bsI_s hz, ← nI_iI]
    have hbe : blL σ i = (bl (chS σ i) (chR σ i) (chn σ i) σ.p2 σ.q2 (chn σ i) (bst (cst (chS σ i) (chR σ i) σ.p1 σ.q1) (Kw 1 (chR σ i)) (chn σ i))) := by unfold blL; rw [if_pos hz]
    rw [hbe] at hbl480 ⊢
    refine Wp.istore_n dX3_findBends_16 (Nat.le_of_ble_eq_true rfl) (by dsimp only [ev_st1, ev_st2, ev_cl] <;> rfl) rfl ?_
    refine Wp.iconst (v := (nI 0)) dX3_findBends_17 (by decide) rfl ?_
    refine Wp.istore_n dX3_findBends_18 (Nat.le_of_ble_eq_true rfl) (by dsimp only [ev_st1, ev_st2, ev_cl] <;> rfl) rfl ?_
    have l0 := loop 0 (Nat.zero_le _) h A C _ 0 len rv none none none none none hS hO hR hl4 hCh hWn hat haw (bst_lt _ _ _ hz) (by rw [Nat.sub_zero, Nat.zero_add]; exact hbl480)
    rw [Nat.sub_zero] at l0
    exact l0
