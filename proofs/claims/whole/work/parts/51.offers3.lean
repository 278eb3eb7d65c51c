/-! the class: bends renewed; what an offer tells; sheets -/
/-- with choices and bends as they are now -/
def OfB (A : Nat → Nat) (C : Nat → Option ev_E) (σ : Sg) (ns ws i cap len : Nat) : Prop := ∃ (V : Nat → Value) (nb : Nat) (rb : Nat → Nat → Int), C (tO i) = some (ev_ob (ciO (σ.O i).k) V) ∧ OfV A C i (σ.O i) V ∧ V 4 = .int (nI ns) ∧ V 5 = .int (nI ws) ∧ ChoS A C (tO i + 1) σ.N (chL σ.N (σ.O i)) cap ∧ okCap cap ∧ RowS A C (tO i + 5) nb rb len ∧ nb ≤ 480 ∧ len ≤ 4000 ∧ BenOK σ i nb rb
theorem OfB.N {A : Nat → Nat} {C : Nat → Option ev_E} {σ : Sg} {ns ws i cap len : Nat} (h : OfB A C σ ns ws i cap len) : OfN A C σ ns ws i cap len := by
  obtain ⟨V, nb, rb, h1, h2, h3, h4, h5, h6, h7, h8, h9, h10⟩ := h
  exact ⟨V, ws, nb, rb, h1, h2, h3, by rw [h4, nI_iI], h5, h6, h7, h8, h9, ⟨by omega, Int.le_refl _⟩, fun _ => h10⟩
set_option maxHeartbeats 1000000 in
theorem c_X3_bendsIn {B : ev_B} {d i ns ws cap len : Nat} {X : Nat → Prop} {h : ev_H} {A : Nat → Nat} {C : Nat → Option ev_E} {σ : Sg} (hW : Wf σ) (hS : CS X h A C) (hWn : WinS C σ ws) (hws : ws ≤ 100000) (hO : OfN A C σ ns ws i cap len) (hd : 7 ≤ d) :
    Wp B d M_X3_bendsIn 0 [some (.ref (A (tO i))), some (.ref (A 7))] [] h (OQ X h A C i cap len (fun A' C' cap' len' => OfB A' C' σ ns ws i cap' len') (some (.ref (A (tO i + 5))))) := by
  obtain ⟨V, bs, nb, rb, hV, hOV, v4, v5, h5, h6, h7, h8, h9, h10, h11⟩ := hO
  obtain ⟨o0_, o1_, o2_, o3_, o5_, o6_, o7_⟩ := id hOV
  have htO : tO i = 30 + 10 * i := rfl
  have hisO := ciO_is (σ.O i).k
  obtain ⟨Vw, hVw, w0, w1, w2, w3, w4⟩ := id hWn
  obtain ⟨Vr, gr, hVr, -⟩ := id h7
  refine Wp.aload_n dX3_bendsIn_0 rfl (by first | exact Or.inr ⟨_, rfl⟩ | exact Or.inl rfl) rfl ?_
  refine Wp.get dX3_bendsIn_1 (fl_X3_29 hisO) (hS.at hV) v5 rfl ?_
  refine Wp.aload_n dX3_bendsIn_4 rfl (by first | exact Or.inr ⟨_, rfl⟩ | exact Or.inl rfl) rfl ?_
  refine Wp.get dX3_bendsIn_5 fl_X3_50 (hS.at hVw) w4 rfl ?_
  refine Wp.icmp_eq (tgt := 31) (n := 11) dX3_bendsIn_8 (by decide) rfl (fun c_8 => ?_) (fun c_8 => ?_)
  · have c_8 : bs = ws := (iI_eq (by omega) (by omega) (by omega) (by omega)).mp (by rw [← nI_iI]; exact c_8)
    refine Wp.aload_n dX3_bendsIn_31 rfl (by first | exact Or.inr ⟨_, rfl⟩ | exact Or.inl rfl) rfl ?_
    refine Wp.get dX3_bendsIn_32 (fl_X3_21 hisO) (hS.at hV) o3_ rfl ?_
    exact Wp.aret dX3_bendsIn_35 rfl (Or.inl ⟨_, rfl⟩) (by first | exact Or.inr ⟨_, rfl⟩ | exact Or.inl rfl) (by exact ⟨rfl, A, C, cap, len, hS, CG.rfl, Nat.le_refl _, Nat.le_refl _, fun _ _ => rfl, fun _ _ => rfl, V, nb, rb, hV, hOV, v4, by rw [v5, c_8, nI_iI], h5, h6, h7, h8, h9, h11 c_8⟩)
  · skip
    refine Wp.aload_n dX3_bendsIn_11 rfl (by first | exact Or.inr ⟨_, rfl⟩ | exact Or.inl rfl) rfl ?_
    refine Wp.get dX3_bendsIn_12 (fl_X3_21 hisO) (hS.at hV) o3_ rfl ?_
    refine Wp.cV dX3_bendsIn_15 cv_X3_53 rfl (by omega) rfl (Nat.le_of_ble_eq_true rfl) (Nat.le_of_ble_eq_true rfl) (hS.at hVr) rfl (c_X5_clear (d := d - 1) hS h7 (by omega) (by omega)) ?_
    rintro _ h1 ⟨rfl, C1, S1, c1, f1, R1⟩
    dsimp only [Option.toList, List.drop, List.cons_append, List.nil_append]
    obtain ⟨Vr1, gr1, hVr1, -⟩ := id R1
    refine Wp.aload_n dX3_bendsIn_18 rfl (by first | exact Or.inr ⟨_, rfl⟩ | exact Or.inl rfl) rfl ?_
    refine Wp.aload_n dX3_bendsIn_19 rfl (by first | exact Or.inr ⟨_, rfl⟩ | exact Or.inl rfl) rfl ?_
    refine Wp.cU dX3_bendsIn_20 (cu_X3_54 hisO) rfl (by omega) rfl (Nat.le_of_ble_eq_true rfl) (Nat.le_of_ble_eq_true rfl) (S1.at ((f1 (tO i) (by omega)).trans hV)) rfl (c_X3_findBends (d := d - 1) (ns := 0) hW S1 ⟨(f1 (tO i) (by omega)).trans hV, hisO, o2_, o3_⟩ R1 h9 (h5.same (fun t q1 q2 => f1 t (by omega)) (fun _ _ _ => rfl)) (hWn.same (f1 7 (by omega))) rfl rfl (by omega)) ?_
    rintro _ h2 ⟨rfl, A2, C2, len2, rv2, S2, c2, hl2, hl3, a2, f2, R2, q1, q2⟩
    dsimp only [Option.toList, List.drop, List.cons_append, List.nil_append]
    have c2_ := c1.tr c2
    rw [show A (tO i) = A2 (tO i) from (a2 _ (by omega)).symm, show A 7 = A2 7 from (a2 7 (by omega)).symm, show A (tO i + 5) = A2 (tO i + 5) from (a2 _ (by omega)).symm]
    refine Wp.aload_n dX3_bendsIn_23 rfl (by first | exact Or.inr ⟨_, rfl⟩ | exact Or.inl rfl) rfl ?_
    refine Wp.aload_n dX3_bendsIn_24 rfl (by first | exact Or.inr ⟨_, rfl⟩ | exact Or.inl rfl) rfl ?_
    refine Wp.get dX3_bendsIn_25 fl_X3_50 (S2.at ((f2 (7) (by omega) (by omega)).trans ((f1 (7) (by omega)).trans hVw))) w4 rfl ?_
    refine Wp.put dX3_bendsIn_28 (fp_X3_29 hisO) (S2.at ((f2 (tO i) (by omega) (by omega)).trans ((f1 (tO i) (by omega)).trans hV))) rfl rfl rfl ?_
    refine S2.put ((f2 (tO i) (by omega) (by omega)).trans ((f1 (tO i) (by omega)).trans hV)) ?_
    intro h28 C28 V28 S28 o28 e28 w28 x28 f28
    have o28 := c2_.tr o28
    refine Wp.aload_n dX3_bendsIn_31 rfl (by first | exact Or.inr ⟨_, rfl⟩ | exact Or.inl rfl) rfl ?_
    refine Wp.get dX3_bendsIn_32 (fl_X3_21 hisO) (S28.at e28) ((x28 3 (by decide)).trans (show V 3 = .ref (A2 (tO i + 5)) by rw [a2 _ (by omega)]; exact o3_)) rfl ?_
    exact Wp.aret dX3_bendsIn_35 rfl (Or.inl ⟨_, rfl⟩) (by first | exact Or.inr ⟨_, rfl⟩ | exact Or.inl rfl) (by
      refine ⟨by rw [a2 (tO i + 5) (by omega)], A2, _, cap, len2, S28, o28.le (by omega), Nat.le_refl _, hl2, fun t ht => a2 t (by omega), fun t ht => (f28 t (by omega)).trans ((f2 t (by omega) (by omega)).trans (f1 t (by omega))), ?_⟩
      refine ⟨_, _, _, e28, ?_, ((x28 4 (by decide)).trans v4), w28, ?_, h6, (R2.same (f28 _ (by omega)) (f28 _ (by omega)) rfl), ?_, hl3, ?_⟩
      · refine OfV.same (A := A) (C := C) ?_ (fun t q1 q2 q3 => a2 t (by omega)) ((f28 _ (by omega)).trans ((f2 _ (by omega) (by omega)).trans (f1 _ (by omega))))
        have xx : ∀ j, j ≠ 5 → V28 j = V j := x28
        refine ⟨(xx 0 (by decide)).trans o0_, (xx 1 (by decide)).trans o1_, (xx 2 (by decide)).trans o2_, (xx 3 (by decide)).trans o3_, fun z => ?_, fun z => ?_, fun z => ?_⟩
        · rw [xx 6 (by decide), xx 7 (by decide)]; exact o5_ z
        · rw [xx 6 (by decide), xx 7 (by decide)]; exact o6_ z
        · rw [xx 6 (by decide)]; exact o7_ z
      · exact h5.same (fun t q1 q2 => (f28 t (by omega)).trans ((f2 t (by omega) (by omega)).trans (f1 t (by omega)))) (fun t q1 q2 => a2 t (by omega))
      · rw [Nat.zero_add]; exact blL_len hW i
      · rw [Nat.zero_add]; exact ben_ok hW (fun j k h1 h2 => by have := q2 j k h1 h2; rw [Nat.zero_add] at this; exact this))
theorem c_X7_firstNumber {B : ev_B} {d a x : Nat} {h : ev_H} {V : Nat → Value} (hV : h.1 a = some (ev_ob 6 V)) (h6 : V 7 = .int (nI x)) :
    Wp B d M_X7_firstNumber 0 [some (.ref a)] [] h (fun v h' => v = some (.int (nI x)) ∧ h' = h) := by
  refine Wp.aload_n dX7_firstNumber_0 rfl (by first | exact Or.inr ⟨_, rfl⟩ | exact Or.inl rfl) rfl ?_
  refine Wp.get dX7_firstNumber_1 fl_X7_15 hV h6 rfl ?_
  exact Wp.iret dX7_firstNumber_4 rfl (by exact ⟨rfl, rfl⟩)
theorem c_X9_firstNumber {B : ev_B} {d a x : Nat} {h : ev_H} {V : Nat → Value} (hV : h.1 a = some (ev_ob 8 V)) (h6 : V 6 = .int (nI x)) :
    Wp B d M_X9_firstNumber 0 [some (.ref a)] [] h (fun v h' => v = some (.int (nI x)) ∧ h' = h) := by
  refine Wp.aload_n dX9_firstNumber_0 rfl (by first | exact Or.inr ⟨_, rfl⟩ | exact Or.inl rfl) rfl ?_
  refine Wp.get dX9_firstNumber_1 fl_X9_9 hV h6 rfl ?_
  exact Wp.iret dX9_firstNumber_4 rfl (by exact ⟨rfl, rfl⟩)
theorem c_X9_secondNumber {B : ev_B} {d a x : Nat} {h : ev_H} {V : Nat → Value} (hV : h.1 a = some (ev_ob 8 V)) (h6 : V 7 = .int (nI x)) :
    Wp B d M_X9_secondNumber 0 [some (.ref a)] [] h (fun v h' => v = some (.int (nI x)) ∧ h' = h) := by
  refine Wp.aload_n dX9_secondNumber_0 rfl (by first | exact Or.inr ⟨_, rfl⟩ | exact Or.inl rfl) rfl ?_
  refine Wp.get dX9_secondNumber_1 fl_X9_15 hV h6 rfl ?_
  exact Wp.iret dX9_secondNumber_4 rfl (by exact ⟨rfl, rfl⟩)
theorem c_X4_firstNumber {B : ev_B} {d a x : Nat} {h : ev_H} {V : Nat → Value} (hV : h.1 a = some (ev_ob 3 V)) (h6 : V 6 = .int (nI x)) :
    Wp B d M_X4_firstNumber 0 [some (.ref a)] [] h (fun v h' => v = some (.int (nI x)) ∧ h' = h) := by
  refine Wp.aload_n dX4_firstNumber_0 rfl (by first | exact Or.inr ⟨_, rfl⟩ | exact Or.inl rfl) rfl ?_
  refine Wp.get dX4_firstNumber_1 fl_X4_9 hV h6 rfl ?_
  exact Wp.iret dX4_firstNumber_4 rfl (by exact ⟨rfl, rfl⟩)
theorem c_X8_firstNumber {B : ev_B} {d a : Nat} {h : ev_H} :
    Wp B d M_X8_firstNumber 0 [some (.ref a)] [] h (fun v h' => v = some (.int (nI 0)) ∧ h' = h) := by
  refine Wp.iconst (v := (nI 0)) dX8_firstNumber_0 (by decide) rfl ?_
  exact Wp.iret dX8_firstNumber_1 rfl (by exact ⟨rfl, rfl⟩)
theorem c_X8_secondNumber {B : ev_B} {d a : Nat} {h : ev_H} :
    Wp B d M_X8_secondNumber 0 [some (.ref a)] [] h (fun v h' => v = some (.int (nI 0)) ∧ h' = h) := by
  refine Wp.iconst (v := (nI 0)) dX8_secondNumber_0 (by decide) rfl ?_
  exact Wp.iret dX8_secondNumber_1 rfl (by exact ⟨rfl, rfl⟩)
theorem c_X7_secondNumber {B : ev_B} {d a : Nat} {h : ev_H} :
    Wp B d M_X7_secondNumber 0 [some (.ref a)] [] h (fun v h' => v = some (.int (nI 0)) ∧ h' = h) := by
  refine Wp.iconst (v := (nI 0)) dX7_secondNumber_0 (by decide) rfl ?_
  exact Wp.iret dX7_secondNumber_1 rfl (by exact ⟨rfl, rfl⟩)
theorem c_X4_secondNumber {B : ev_B} {d a : Nat} {h : ev_H} :
    Wp B d M_X4_secondNumber 0 [some (.ref a)] [] h (fun v h' => v = some (.int (nI 0)) ∧ h' = h) := by
  refine Wp.iconst (v := (nI 0)) dX4_secondNumber_0 (by decide) rfl ?_
  exact Wp.iret dX4_secondNumber_1 rfl (by exact ⟨rfl, rfl⟩)
theorem c_X7_needs {B : ev_B} {d a : Nat} {x : Int32} {h : ev_H} :
    Wp B d M_X7_needs 0 [some (.ref a), some (.int (x))] [] h (fun v h' => v = some (.int (bI false)) ∧ h' = h) := by
  refine Wp.iconst (v := (nI 0)) dX7_needs_0 (by decide) rfl ?_
  exact Wp.zret dX7_needs_1 rfl (by decide) (by exact ⟨rfl, rfl⟩)
theorem c_X8_needs {B : ev_B} {d a : Nat} {x : Int32} {h : ev_H} :
    Wp B d M_X8_needs 0 [some (.ref a), some (.int (x))] [] h (fun v h' => v = some (.int (bI false)) ∧ h' = h) := by
  refine Wp.iconst (v := (nI 0)) dX8_needs_0 (by decide) rfl ?_
  exact Wp.zret dX8_needs_1 rfl (by decide) (by exact ⟨rfl, rfl⟩)
theorem c_X9_needs {B : ev_B} {d a f s t : Nat} {h : ev_H} {V : Nat → Value} (hV : h.1 a = some (ev_ob 8 V)) (h6 : V 6 = .int (nI f)) (h7 : V 7 = .int (nI s)) (hf : f < 100) (hs : s < 100) (ht : t < 100) :
    Wp B d M_X9_needs 0 [some (.ref a), some (.int (nI t))] [] h (fun v h' => v = some (.int (bI (decide (f = t ∨ s = t)))) ∧ h' = h) := by
  refine Wp.aload_n dX9_needs_0 rfl (by first | exact Or.inr ⟨_, rfl⟩ | exact Or.inl rfl) rfl ?_
  refine Wp.get dX9_needs_1 fl_X9_9 hV h6 rfl ?_
  refine Wp.iload_n dX9_needs_4 rfl rfl ?_
  refine Wp.icmp_eq (tgt := 16) (n := 8) dX9_needs_5 (by decide) rfl (fun c_5 => ?_) (fun c_5 => ?_)
  · try simp (disch := omega) only [nI_bit0, nI_bit1, Bool.not_eq_false, Bool.not_eq_true] at c_5
    try simp (disch := omega) only [i_lt, i_le, i_eq, l_lt, l_le, l_eq, i_0, i_m1, l_0, nI_tI, iI_tI, lI_tI, Int.not_lt, Int.not_le] at c_5
    refine Wp.iconst (v := (nI 1)) dX9_needs_16 (by decide) rfl ?_
    refine Wp.goto (n := 21) dX9_needs_17 (by decide) ?_
    exact Wp.zret dX9_needs_21 rfl (by decide) (q_ret (bI_t (decide_eq_true (by omega))))
  · try simp (disch := omega) only [nI_bit0, nI_bit1, Bool.not_eq_false, Bool.not_eq_true] at c_5
    try simp (disch := omega) only [i_lt, i_le, i_eq, l_lt, l_le, l_eq, i_0, i_m1, l_0, nI_tI, iI_tI, lI_tI, Int.not_lt, Int.not_le] at c_5
    refine Wp.aload_n dX9_needs_8 rfl (by first | exact Or.inr ⟨_, rfl⟩ | exact Or.inl rfl) rfl ?_
    refine Wp.get dX9_needs_9 fl_X9_15 hV h7 rfl ?_
    refine Wp.iload_n dX9_needs_12 rfl rfl ?_
    refine Wp.icmp_ne (tgt := 20) (n := 16) dX9_needs_13 (by decide) rfl (fun c_13 => ?_) (fun c_13 => ?_)
    · try simp (disch := omega) only [nI_bit0, nI_bit1, Bool.not_eq_false, Bool.not_eq_true] at c_13
      try simp (disch := omega) only [i_lt, i_le, i_eq, l_lt, l_le, l_eq, i_0, i_m1, l_0, nI_tI, iI_tI, lI_tI, Int.not_lt, Int.not_le] at c_13
      refine Wp.iconst (v := (nI 0)) dX9_needs_20 (by decide) rfl ?_
      exact Wp.zret dX9_needs_21 rfl (by decide) (q_ret (bI_f (decide_eq_false (by omega))))
    · try simp (disch := omega) only [nI_bit0, nI_bit1, Bool.not_eq_false, Bool.not_eq_true] at c_13
      try simp (disch := omega) only [i_lt, i_le, i_eq, l_lt, l_le, l_eq, i_0, i_m1, l_0, nI_tI, iI_tI, lI_tI, Int.not_lt, Int.not_le] at c_13
      refine Wp.iconst (v := (nI 1)) dX9_needs_16 (by decide) rfl ?_
      refine Wp.goto (n := 21) dX9_needs_17 (by decide) ?_
      exact Wp.zret dX9_needs_21 rfl (by decide) (q_ret (bI_t (decide_eq_true (by omega))))
theorem c_X4_needs {B : ev_B} {d a f t : Nat} {h : ev_H} {V : Nat → Value} (hV : h.1 a = some (ev_ob 3 V)) (h6 : V 6 = .int (nI f)) (hf : f < 128) (ht : t < 30) :
    Wp B d M_X4_needs 0 [some (.ref a), some (.int (nI t))] [] h (fun v h' => v = some (.int (bI (f.testBit t))) ∧ h' = h) := by
  refine Wp.aload_n dX4_needs_0 rfl (by first | exact Or.inr ⟨_, rfl⟩ | exact Or.inl rfl) rfl ?_
  refine Wp.get dX4_needs_1 fl_X4_9 hV h6 rfl ?_
  refine Wp.iload_n dX4_needs_4 rfl rfl ?_
  refine Wp.ishr dX4_needs_5 rfl ?_
  refine Wp.iconst (v := (nI 1)) dX4_needs_6 (by decide) rfl ?_
  refine Wp.iand dX4_needs_7 rfl ?_
  refine Wp.if_eq (tgt := 15) (n := 11) dX4_needs_8 (by decide) rfl (fun c_8 => ?_) (fun c_8 => ?_)
  · have c_8 : f.testBit t = false := (nI_bit0 (by omega) (by omega)).mp c_8
    refine Wp.iconst (v := (nI 0)) dX4_needs_15 (by decide) rfl ?_
    exact Wp.zret dX4_needs_16 rfl (by decide) (q_ret (bI_f (c_8)))
  · have c_8 : f.testBit t = true := (nI_bitn0 (by omega) (by omega)).mp c_8
    refine Wp.iconst (v := (nI 1)) dX4_needs_11 (by decide) rfl ?_
    refine Wp.goto (n := 16) dX4_needs_12 (by decide) ?_
    exact Wp.zret dX4_needs_16 rfl (by decide) (q_ret (bI_t (c_8)))
theorem c_X7_barsIn {B : ev_B} {d a : Nat} {h : ev_H} {v : Value} :
    Wp B d M_X7_barsIn 0 [some (.ref a), some v] [] h (fun v h' => v = some (.int (nI 0)) ∧ h' = h) := by
  refine Wp.iconst (v := (nI 0)) dX7_barsIn_0 (by decide) rfl ?_
  exact Wp.iret dX7_barsIn_1 rfl (by exact ⟨rfl, rfl⟩)
theorem c_X8_barsIn {B : ev_B} {d a n i : Nat} {h : ev_H} {σ : Sg} (hN : NetC h n σ.N.T σ.N.L σ.N.fr σ.N.to σ.N.sa σ.N.ri) (hW : Wf σ) (hk : (σ.O i).k = 1) (hd : 2 ≤ d) :
    Wp B d M_X8_barsIn 0 [some (.ref a), some (.ref n)] [] h (fun v h' => v = some (.int (nI (barM σ i))) ∧ h' = h) := by
  obtain ⟨Vn, n0, n1, n2, n3, m0, m1, m2, m3, hVn, z0, z1, z2, z3, z4, z5, -⟩ := id hN
  have hT := hW.net.1
  have hL := hW.net.2.1
  have hp12 := lt_2pow hL
  have hp0 := Nat.two_pow_pos σ.N.L
  refine Wp.aload_n dX8_barsIn_0 rfl (by first | exact Or.inr ⟨_, rfl⟩ | exact Or.inl rfl) rfl ?_
  refine Wp.get dX8_barsIn_1 fl_X8_9 hVn z4 rfl ?_
  refine Wp.if_ne (tgt := 11) (n := 7) dX8_barsIn_4 (by decide) rfl (fun c_4 => ?_) (fun c_4 => ?_)
  · have c_4 : σ.N.T ≠ 0 := fun z => c_4 (by rw [z]; rfl)
    refine Wp.aload_n dX8_barsIn_11 rfl (by first | exact Or.inr ⟨_, rfl⟩ | exact Or.inl rfl) rfl ?_
    refine Wp.iconst (v := (nI 0)) dX8_barsIn_12 (by decide) rfl ?_
    refine Wp.iconst (v := (nI 1)) dX8_barsIn_13 (by decide) rfl ?_
    refine Wp.aload_n dX8_barsIn_14 rfl (by first | exact Or.inr ⟨_, rfl⟩ | exact Or.inl rfl) rfl ?_
    refine Wp.get dX8_barsIn_15 fl_X8_32 hVn z5 rfl ?_
    refine Wp.ishl dX8_barsIn_18 rfl ?_
    rw [nI_one_shl (by omega)]
    refine Wp.iconst (v := (nI 1)) dX8_barsIn_19 (by decide) rfl ?_
    refine Wp.isub dX8_barsIn_20 rfl ?_
    rw [pk_sub (by omega)]
    refine Wp.cV dX8_barsIn_21 cv_X8_50 rfl (by omega) rfl (Nat.le_of_ble_eq_true rfl) (Nat.le_of_ble_eq_true rfl) hVn rfl (c_X2_hangingWith (d := d - 1) (t := 0) (s := 2 ^ σ.N.L - 1) hN hW.net (by omega) (by omega)) ?_
    rintro _ h_ ⟨rfl, e_⟩
    rw [e_]
    clear e_ h_
    dsimp only [Option.toList, List.drop, List.cons_append, List.nil_append]
    exact Wp.iret dX8_barsIn_24 rfl (by rw [barM, if_pos hk]; first | (rw [if_pos c_4]; exact ⟨rfl, rfl⟩) | (rw [if_neg c_4, hang_rea hW.net (by omega) (by omega)]; exact ⟨rfl, rfl⟩))
  · have c_4 : σ.N.T = 0 := (nI_eq0 (by omega)).mp c_4
    refine Wp.iconst (v := (nI 0)) dX8_barsIn_7 (by decide) rfl ?_
    refine Wp.goto (n := 24) dX8_barsIn_8 (by decide) ?_
    exact Wp.iret dX8_barsIn_24 rfl (by rw [barM, if_pos hk]; first | (rw [if_pos c_4]; exact ⟨rfl, rfl⟩) | (rw [if_neg c_4, hang_rea hW.net (by omega) (by omega)]; exact ⟨rfl, rfl⟩))
theorem c_X9_barsIn {B : ev_B} {d a n i : Nat} {h : ev_H} {σ : Sg} {V : Nat → Value} (hN : NetC h n σ.N.T σ.N.L σ.N.fr σ.N.to σ.N.sa σ.N.ri) (hW : Wf σ) (hV : h.1 a = some (ev_ob 8 V)) (h6 : V 6 = .int (nI (σ.O i).f)) (hf : (σ.O i).f < σ.N.T) (hk : (σ.O i).k = 2) (hd : 2 ≤ d) :
    Wp B d M_X9_barsIn 0 [some (.ref a), some (.ref n)] [] h (fun v h' => v = some (.int (nI (barM σ i))) ∧ h' = h) := by
  obtain ⟨Vn, n0, n1, n2, n3, m0, m1, m2, m3, hVn, z0, z1, z2, z3, z4, z5, -⟩ := id hN
  have hT := hW.net.1
  have hL := hW.net.2.1
  have hp12 := lt_2pow hL
  have hp0 := Nat.two_pow_pos σ.N.L
  refine Wp.aload_n dX9_barsIn_0 rfl (by first | exact Or.inr ⟨_, rfl⟩ | exact Or.inl rfl) rfl ?_
  refine Wp.aload_n dX9_barsIn_1 rfl (by first | exact Or.inr ⟨_, rfl⟩ | exact Or.inl rfl) rfl ?_
  refine Wp.get dX9_barsIn_2 fl_X9_9 hV h6 rfl ?_
  refine Wp.cV dX9_barsIn_5 cv_X9_47 rfl (by omega) rfl (Nat.le_of_ble_eq_true rfl) (Nat.le_of_ble_eq_true rfl) hVn rfl (c_X2_ledToFrom (d := d - 1) hN hW.net hf) ?_
  rintro _ h_ ⟨rfl, e_⟩
  rw [e_]
  clear e_ h_
  dsimp only [Option.toList, List.drop, List.cons_append, List.nil_append]
  exact Wp.iret dX9_barsIn_8 rfl (by rw [barM, if_neg (by omega), if_pos hk, led_rea hW.net hf]; exact ⟨rfl, rfl⟩)
set_option maxHeartbeats 2000000 in
theorem c_X4_barsIn {B : ev_B} {d a n i : Nat} {h : ev_H} {σ : Sg} {V : Nat → Value} (hN : NetC h n σ.N.T σ.N.L σ.N.fr σ.N.to σ.N.sa σ.N.ri) (hW : Wf σ) (hV : h.1 a = some (ev_ob 3 V)) (h6 : V 6 = .int (nI (σ.O i).f)) (hf : (σ.O i).f < 2 ^ σ.N.T) (hk : (σ.O i).k = 3) (hd : 2 ≤ d) :
    Wp B d M_X4_barsIn 0 [some (.ref a), some (.ref n), none, none, none] [] h (fun v h' => v = some (.int (nI (barM σ i))) ∧ h' = h) := by
  obtain ⟨Vn, n0, n1, n2, n3, m0, m1, m2, m3, hVn, z0, z1, z2, z3, z4, z5, -⟩ := id hN
  have hT := hW.net.1
  have hL := hW.net.2.1
  have hp12 := lt_2pow hL
  have hp0 := Nat.two_pow_pos σ.N.L
  have hp7 := pow_T hT
  have hw7 : ∀ l, l < σ.N.L → σ.N.fr l < 7 ∧ σ.N.to l < 7 := fun l hl => by have := hW.net.2.2 l hl; omega
  have hot := otS_lt (sd := (σ.O i).f) hT
  have hb1 := cntB_le (σ.O i).f 31
  have hb2 := cntB_le (otS σ.N.T (σ.O i).f) 31
  refine Wp.aload_n dX4_barsIn_0 rfl (by first | exact Or.inr ⟨_, rfl⟩ | exact Or.inl rfl) rfl ?_
  refine Wp.cV dX4_barsIn_1 cv_X4_15 rfl (by omega) rfl (Nat.le_of_ble_eq_true rfl) (Nat.le_of_ble_eq_true rfl) hVn rfl (c_X2_allThings (d := d - 1) hN hW.net) ?_
  rintro _ h_ ⟨rfl, e_⟩
  rw [e_]
  clear e_ h_
  dsimp only [Option.toList, List.drop, List.cons_append, List.nil_append]
  refine Wp.aload_n dX4_barsIn_4 rfl (by first | exact Or.inr ⟨_, rfl⟩ | exact Or.inl rfl) rfl ?_
  refine Wp.get dX4_barsIn_5 fl_X4_9 hV h6 rfl ?_
  refine Wp.iconst (v := (-1)) dX4_barsIn_8 (by decide) rfl ?_
  refine Wp.ixor dX4_barsIn_9 rfl ?_
  refine Wp.iand dX4_barsIn_10 rfl ?_
  rw [nI_andn (by omega), show (2 ^ σ.N.T - 1) ^^^ ((2 ^ σ.N.T - 1) &&& (σ.O i).f) = otS σ.N.T (σ.O i).f from rfl]
  refine Wp.istore_n dX4_barsIn_11 (Nat.le_of_ble_eq_true rfl) (by dsimp only [ev_st1, ev_st2, ev_cl] <;> rfl) rfl ?_
  refine Wp.aload_n dX4_barsIn_12 rfl (by first | exact Or.inr ⟨_, rfl⟩ | exact Or.inl rfl) rfl ?_
  refine Wp.get dX4_barsIn_13 fl_X4_9 hV h6 rfl ?_
  refine Wp.cS dX4_barsIn_16 cs_X4_45 rfl (by omega) rfl (Nat.le_of_ble_eq_true rfl) (Nat.le_of_ble_eq_true rfl) rfl (c_J6_bitCount (d := d - 1) (by omega)) ?_
  rintro _ h_ ⟨rfl, e_⟩
  rw [e_]
  clear e_ h_
  dsimp only [Option.toList, List.drop, List.cons_append, List.nil_append]
  refine Wp.iload_n dX4_barsIn_19 rfl rfl ?_
  refine Wp.cS dX4_barsIn_20 cs_X4_45 rfl (by omega) rfl (Nat.le_of_ble_eq_true rfl) (Nat.le_of_ble_eq_true rfl) rfl (c_J6_bitCount (d := d - 1) (by omega)) ?_
  rintro _ h_ ⟨rfl, e_⟩
  rw [e_]
  clear e_ h_
  dsimp only [Option.toList, List.drop, List.cons_append, List.nil_append]
  refine Wp.isub dX4_barsIn_23 rfl ?_
  rw [show nI (cntB (σ.O i).f 31) - nI (cntB (otS σ.N.T (σ.O i).f) 31) = iI ((cntB (σ.O i).f 31 : Int) - (cntB (otS σ.N.T (σ.O i).f) 31 : Int)) by rw [nI_iI, nI_iI, iI_sub]]
  refine Wp.istore_n dX4_barsIn_24 (Nat.le_of_ble_eq_true rfl) (by dsimp only [ev_st1, ev_st2, ev_cl] <;> rfl) rfl ?_
  refine Wp.iload_n dX4_barsIn_25 rfl rfl ?_
  refine Wp.if_eq (tgt := 42) (n := 29) dX4_barsIn_26 (by decide) rfl (fun c_26 => ?_) (fun c_26 => ?_)
  · try simp (disch := omega) only [nI_bit0, nI_bit1, Bool.not_eq_false, Bool.not_eq_true] at c_26
    try simp (disch := omega) only [i_lt, i_le, i_eq, l_lt, l_le, l_eq, i_0, i_m1, l_0, nI_tI, iI_tI, lI_tI, Int.not_lt, Int.not_le] at c_26
    refine Wp.iconst (v := (nI 1)) dX4_barsIn_42 (by decide) rfl ?_
    refine Wp.istore dX4_barsIn_43 (Nat.le_of_ble_eq_true rfl) (by dsimp only [ev_st1, ev_st2, ev_cl] <;> rfl) rfl ?_
    have hbar : barM σ i = brF (brP σ.N (σ.O i).f) (σ.O i).f (σ.O i).f := by rw [barM, if_neg (by omega), if_neg (by omega), if_neg (by omega), if_neg (by omega)]
    have lpx : ∀ j3 : Int32, ∀ s, s ≤ ((σ.O i).f + 1) → brF (brP σ.N (σ.O i).f) (σ.O i).f ((σ.O i).f + 1 - s) = barM σ i → Wp B d M_X4_barsIn 45 [some (.ref a), some (.ref n), some (.int (nI (otS σ.N.T (σ.O i).f))), some (.int (j3)), some (.int (nI s))] [] h (fun v h' => v = some (.int (nI (barM σ i))) ∧ h' = h) := by
      intro j3
      have loop : ∀ s, s ≤ ((σ.O i).f + 1) → brF (brP σ.N (σ.O i).f) (σ.O i).f ((σ.O i).f + 1 - s) = barM σ i → Wp B d M_X4_barsIn 45 [some (.ref a), some (.ref n), some (.int (nI (otS σ.N.T (σ.O i).f))), some (.int (j3)), some (.int (nI s))] [] h (fun v h' => v = some (.int (nI (barM σ i))) ∧ h' = h) := by
        refine ev_upl ((σ.O i).f + 1) (fun s hi ih => ?_) ?_
        · intro hbr
          have hs1 : s < 128 := by omega
          have hbe := besU_lt (s := s) (sd := (σ.O i).f) hw7 σ.N.L (Nat.le_refl _)
          have hbb := bes_bes hW.net (sd := (σ.O i).f) hs1
          rw [show (σ.O i).f + 1 - s = ((σ.O i).f - s) + 1 by omega, brF, show (σ.O i).f - ((σ.O i).f - s) = s by omega] at hbr
          have hxs : s ^^^ (s &&& (σ.O i).f) < 128 := Nat.xor_lt_two_pow (n := 7) hs1 (Nat.lt_of_le_of_lt Nat.and_le_left hs1)
          have hc1 := cntB_le (besU σ.N.fr σ.N.to s (σ.O i).f σ.N.L) 31
          have hc2 := cntB_le s 31
          refine Wp.iload dX4_barsIn_45 rfl rfl ?_
          refine Wp.aload_n dX4_barsIn_47 rfl (by first | exact Or.inr ⟨_, rfl⟩ | exact Or.inl rfl) rfl ?_
          refine Wp.get dX4_barsIn_48 fl_X4_9 hV h6 rfl ?_
          refine Wp.icmp_gt (tgt := 96) (n := 54) dX4_barsIn_51 (by decide) rfl (fun c_51 => ?_) (fun c_51 => ?_)
          · try simp (disch := omega) only [nI_bit0, nI_bit1, Bool.not_eq_false, Bool.not_eq_true] at c_51
            try simp (disch := omega) only [i_lt, i_le, i_eq, l_lt, l_le, l_eq, i_0, i_m1, l_0, nI_tI, iI_tI, lI_tI, Int.not_lt, Int.not_le] at c_51
            omega
          · try simp (disch := omega) only [nI_bit0, nI_bit1, Bool.not_eq_false, Bool.not_eq_true] at c_51
            try simp (disch := omega) only [i_lt, i_le, i_eq, l_lt, l_le, l_eq, i_0, i_m1, l_0, nI_tI, iI_tI, lI_tI, Int.not_lt, Int.not_le] at c_51
            refine Wp.iload dX4_barsIn_54 rfl rfl ?_
            refine Wp.aload_n dX4_barsIn_56 rfl (by first | exact Or.inr ⟨_, rfl⟩ | exact Or.inl rfl) rfl ?_
            refine Wp.get dX4_barsIn_57 fl_X4_9 hV h6 rfl ?_
            refine Wp.iconst (v := (-1)) dX4_barsIn_60 (by decide) rfl ?_
            refine Wp.ixor dX4_barsIn_61 rfl ?_
            refine Wp.iand dX4_barsIn_62 rfl ?_
            rw [nI_andn (by omega)]
            refine Wp.if_ne (tgt := 90) (n := 66) dX4_barsIn_63 (by decide) rfl (fun c_63 => ?_) (fun c_63 => ?_)
            · have c_63 : s ^^^ (s &&& (σ.O i).f) ≠ 0 := fun z => c_63 (by rw [z]; rfl)
              rw [if_neg (by simp [brP, c_63])] at hbr
              refine Wp.iinc (v := _ + (nI 1)) dX4_barsIn_90 rfl rfl (Nat.le_of_ble_eq_true rfl) (by dsimp only [ev_st1, ev_cl] <;> rfl) rfl ?_
              refine Wp.goto (n := 45) dX4_barsIn_93 (by decide) ?_
              rw [nI_add1]
              exact ih (by rw [show (σ.O i).f + 1 - (s + 1) = (σ.O i).f - s by omega]; exact hbr)
            · have c_63 : s ^^^ (s &&& (σ.O i).f) = 0 := (nI_eq0 (by omega)).mp c_63
              refine Wp.aload_n dX4_barsIn_66 rfl (by first | exact Or.inr ⟨_, rfl⟩ | exact Or.inl rfl) rfl ?_
              refine Wp.iload dX4_barsIn_67 rfl rfl ?_
              refine Wp.aload_n dX4_barsIn_69 rfl (by first | exact Or.inr ⟨_, rfl⟩ | exact Or.inl rfl) rfl ?_
              refine Wp.get dX4_barsIn_70 fl_X4_9 hV h6 rfl ?_
              refine Wp.cV dX4_barsIn_73 cv_X4_51 rfl (by omega) rfl (Nat.le_of_ble_eq_true rfl) (Nat.le_of_ble_eq_true rfl) hVn rfl (c_X2_beside (d := d - 1) hN hW.net hs1 (by omega)) ?_
              rintro _ h_ ⟨rfl, e_⟩
              rw [e_]
              clear e_ h_
              dsimp only [Option.toList, List.drop, List.cons_append, List.nil_append]
              refine Wp.cS dX4_barsIn_76 cs_X4_45 rfl (by omega) rfl (Nat.le_of_ble_eq_true rfl) (Nat.le_of_ble_eq_true rfl) rfl (c_J6_bitCount (d := d - 1) (by omega)) ?_
              rintro _ h_ ⟨rfl, e_⟩
              rw [e_]
              clear e_ h_
              dsimp only [Option.toList, List.drop, List.cons_append, List.nil_append]
              refine Wp.iload dX4_barsIn_79 rfl rfl ?_
              refine Wp.cS dX4_barsIn_81 cs_X4_45 rfl (by omega) rfl (Nat.le_of_ble_eq_true rfl) (Nat.le_of_ble_eq_true rfl) rfl (c_J6_bitCount (d := d - 1) (by omega)) ?_
              rintro _ h_ ⟨rfl, e_⟩
              rw [e_]
              clear e_ h_
              dsimp only [Option.toList, List.drop, List.cons_append, List.nil_append]
              refine Wp.icmp_ge (tgt := 90) (n := 87) dX4_barsIn_84 (by decide) rfl (fun c_84 => ?_) (fun c_84 => ?_)
              · try simp (disch := omega) only [nI_bit0, nI_bit1, Bool.not_eq_false, Bool.not_eq_true] at c_84
                try simp (disch := omega) only [i_lt, i_le, i_eq, l_lt, l_le, l_eq, i_0, i_m1, l_0, nI_tI, iI_tI, lI_tI, Int.not_lt, Int.not_le] at c_84
                have hcc : ¬ cntB (besU σ.N.fr σ.N.to s (σ.O i).f σ.N.L) 31 < cntB s 31 := by omega
                rw [hbb] at hcc
                rw [if_neg (by simp [brP, hcc])] at hbr
                refine Wp.iinc (v := _ + (nI 1)) dX4_barsIn_90 rfl rfl (Nat.le_of_ble_eq_true rfl) (by dsimp only [ev_st1, ev_cl] <;> rfl) rfl ?_
                refine Wp.goto (n := 45) dX4_barsIn_93 (by decide) ?_
                rw [nI_add1]
                exact ih (by rw [show (σ.O i).f + 1 - (s + 1) = (σ.O i).f - s by omega]; exact hbr)
              · try simp (disch := omega) only [nI_bit0, nI_bit1, Bool.not_eq_false, Bool.not_eq_true] at c_84
                try simp (disch := omega) only [i_lt, i_le, i_eq, l_lt, l_le, l_eq, i_0, i_m1, l_0, nI_tI, iI_tI, lI_tI, Int.not_lt, Int.not_le] at c_84
                have hcc : cntB (besU σ.N.fr σ.N.to s (σ.O i).f σ.N.L) 31 < cntB s 31 := by omega
                rw [hbb] at hcc
                rw [if_pos (by simp [brP, hcc, c_63])] at hbr
                refine Wp.iload dX4_barsIn_87 rfl rfl ?_
                exact Wp.iret dX4_barsIn_89 rfl (by rw [hbr]; exact ⟨rfl, rfl⟩)
        · intro hbr
          rw [show (σ.O i).f + 1 - ((σ.O i).f + 1) = 0 by omega, brF] at hbr
          refine Wp.iload dX4_barsIn_45 rfl rfl ?_
          refine Wp.aload_n dX4_barsIn_47 rfl (by first | exact Or.inr ⟨_, rfl⟩ | exact Or.inl rfl) rfl ?_
          refine Wp.get dX4_barsIn_48 fl_X4_9 hV h6 rfl ?_
          refine Wp.icmp_gt (tgt := 96) (n := 54) dX4_barsIn_51 (by decide) rfl (fun c_51 => ?_) (fun c_51 => ?_)
          · try simp (disch := omega) only [nI_bit0, nI_bit1, Bool.not_eq_false, Bool.not_eq_true] at c_51
            try simp (disch := omega) only [i_lt, i_le, i_eq, l_lt, l_le, l_eq, i_0, i_m1, l_0, nI_tI, iI_tI, lI_tI, Int.not_lt, Int.not_le] at c_51
            refine Wp.iconst (v := (nI 0)) dX4_barsIn_96 (by decide) rfl ?_
            exact Wp.iret dX4_barsIn_97 rfl (by rw [← hbr]; exact ⟨rfl, rfl⟩)
          · try simp (disch := omega) only [nI_bit0, nI_bit1, Bool.not_eq_false, Bool.not_eq_true] at c_51
            try simp (disch := omega) only [i_lt, i_le, i_eq, l_lt, l_le, l_eq, i_0, i_m1, l_0, nI_tI, iI_tI, lI_tI, Int.not_lt, Int.not_le] at c_51
            omega
      exact loop
    exact lpx _ 1 (by omega) (by rw [show (σ.O i).f + 1 - 1 = (σ.O i).f by omega]; exact hbar.symm)
  · try simp (disch := omega) only [nI_bit0, nI_bit1, Bool.not_eq_false, Bool.not_eq_true] at c_26
    try simp (disch := omega) only [i_lt, i_le, i_eq, l_lt, l_le, l_eq, i_0, i_m1, l_0, nI_tI, iI_tI, lI_tI, Int.not_lt, Int.not_le] at c_26
    refine Wp.iload_n dX4_barsIn_29 rfl rfl ?_
    refine Wp.if_le (tgt := 40) (n := 33) dX4_barsIn_30 (by decide) rfl (fun c_30 => ?_) (fun c_30 => ?_)
    · try simp (disch := omega) only [nI_bit0, nI_bit1, Bool.not_eq_false, Bool.not_eq_true] at c_30
      try simp (disch := omega) only [i_lt, i_le, i_eq, l_lt, l_le, l_eq, i_0, i_m1, l_0, nI_tI, iI_tI, lI_tI, Int.not_lt, Int.not_le] at c_30
      refine Wp.iload_n dX4_barsIn_40 rfl rfl ?_
      exact Wp.iret dX4_barsIn_41 rfl (by rw [barM, if_neg (by omega), if_neg (by omega), if_neg (by omega), if_pos (by omega)]; first | (rw [if_pos (by omega)]; exact ⟨rfl, rfl⟩) | (rw [if_neg (by omega)]; exact ⟨rfl, rfl⟩))
    · try simp (disch := omega) only [nI_bit0, nI_bit1, Bool.not_eq_false, Bool.not_eq_true] at c_30
      try simp (disch := omega) only [i_lt, i_le, i_eq, l_lt, l_le, l_eq, i_0, i_m1, l_0, nI_tI, iI_tI, lI_tI, Int.not_lt, Int.not_le] at c_30
      refine Wp.aload_n dX4_barsIn_33 rfl (by first | exact Or.inr ⟨_, rfl⟩ | exact Or.inl rfl) rfl ?_
      refine Wp.get dX4_barsIn_34 fl_X4_9 hV h6 rfl ?_
      refine Wp.goto (n := 41) dX4_barsIn_37 (by decide) ?_
      exact Wp.iret dX4_barsIn_41 rfl (by rw [barM, if_neg (by omega), if_neg (by omega), if_neg (by omega), if_pos (by omega)]; first | (rw [if_pos (by omega)]; exact ⟨rfl, rfl⟩) | (rw [if_neg (by omega)]; exact ⟨rfl, rfl⟩))
theorem c_J7_fill {B : ev_B} {d a N : Nat} {h : ev_H} {z : Nat → Int64} {v : Int64} (hz : h.1 a = some (ev_la N z)) (hN : N ≤ 1000000) :
    Wp B d M_J7_fill_d0a16 0 [some (.ref a), some (.long (v)), none, none, none] [] h (fun v_ h' => v_ = none ∧ ∃ z', h' = ev_up h a (ev_la N z') ∧ ∀ j, j < N → z' j = v) := by
  have loop : ∀ i, i ≤ N → ∀ zi : Nat → Int64, (∀ j, j < i → zi j = v) → Wp B d M_J7_fill_d0a16 6 [some (.ref a), some (.long (v)), none, some (.int (nI i)), some (.int (nI N))] [] (ev_up h a (ev_la N zi)) (fun v_ h' => v_ = none ∧ ∃ z', h' = ev_up h a (ev_la N z') ∧ ∀ j, j < N → z' j = v) := by
    refine ev_upl N (fun i hi ih => ?_) ?_
    · intro zi hz
      refine Wp.iload_n dJ7_fill_d0a16_6 rfl rfl ?_
      refine Wp.iload dJ7_fill_d0a16_7 rfl rfl ?_
      refine Wp.icmp_ge (tgt := 22) (n := 12) dJ7_fill_d0a16_9 (by decide) rfl (fun c_9 => ?_) (fun c_9 => ?_)
      · try simp (disch := omega) only [nI_bit0, nI_bit1, Bool.not_eq_false, Bool.not_eq_true] at c_9
        try simp (disch := omega) only [i_lt, i_le, i_eq, l_lt, l_le, l_eq, i_0, i_m1, l_0, nI_tI, iI_tI, lI_tI, Int.not_lt, Int.not_le] at c_9
        omega
      · try simp (disch := omega) only [nI_bit0, nI_bit1, Bool.not_eq_false, Bool.not_eq_true] at c_9
        try simp (disch := omega) only [i_lt, i_le, i_eq, l_lt, l_le, l_eq, i_0, i_m1, l_0, nI_tI, iI_tI, lI_tI, Int.not_lt, Int.not_le] at c_9
        refine Wp.aload_n dJ7_fill_d0a16_12 rfl (by first | exact Or.inr ⟨_, rfl⟩ | exact Or.inl rfl) rfl ?_
        refine Wp.iload_n dJ7_fill_d0a16_13 rfl rfl ?_
        refine Wp.lload_n dJ7_fill_d0a16_14 rfl rfl ?_
        refine Wp.lastore dJ7_fill_d0a16_15 ev_up_s (nI_toInt (by omega)) (by omega) rfl ?_
        rw [ev_up_up]
        refine Wp.iinc (v := _ + (nI 1)) dJ7_fill_d0a16_16 rfl rfl (Nat.le_of_ble_eq_true rfl) (by dsimp only [ev_st1, ev_cl] <;> rfl) rfl ?_
        refine Wp.goto (n := 6) dJ7_fill_d0a16_19 (by decide) ?_
        rw [nI_add1]
        refine ih _ (fun j hj => ?_)
        simp only [vp_updL]
        split
        · rfl
        · exact hz j (by omega)
    · intro zi hz
      refine Wp.iload_n dJ7_fill_d0a16_6 rfl rfl ?_
      refine Wp.iload dJ7_fill_d0a16_7 rfl rfl ?_
      refine Wp.icmp_ge (tgt := 22) (n := 12) dJ7_fill_d0a16_9 (by decide) rfl (fun c_9 => ?_) (fun c_9 => ?_)
      · try simp (disch := omega) only [nI_bit0, nI_bit1, Bool.not_eq_false, Bool.not_eq_true] at c_9
        try simp (disch := omega) only [i_lt, i_le, i_eq, l_lt, l_le, l_eq, i_0, i_m1, l_0, nI_tI, iI_tI, lI_tI, Int.not_lt, Int.not_le] at c_9
        exact Wp.vret dJ7_fill_d0a16_22 rfl (by exact ⟨rfl, zi, rfl, hz⟩)
      · try simp (disch := omega) only [nI_bit0, nI_bit1, Bool.not_eq_false, Bool.not_eq_true] at c_9
        try simp (disch := omega) only [i_lt, i_le, i_eq, l_lt, l_le, l_eq, i_0, i_m1, l_0, nI_tI, iI_tI, lI_tI, Int.not_lt, Int.not_le] at c_9
        omega
  refine Wp.iconst (v := (nI 0)) dJ7_fill_d0a16_0 (by decide) rfl ?_
  refine Wp.istore_n dJ7_fill_d0a16_1 (Nat.le_of_ble_eq_true rfl) (by dsimp only [ev_st1, ev_st2, ev_cl] <;> rfl) rfl ?_
  refine Wp.aload_n dJ7_fill_d0a16_2 rfl (by first | exact Or.inr ⟨_, rfl⟩ | exact Or.inl rfl) rfl ?_
  refine Wp.alen dJ7_fill_d0a16_3 (by decide) hz rfl ?_
  rw [show Int32.ofNat N = nI N from rfl]
  refine Wp.istore dJ7_fill_d0a16_4 (Nat.le_of_ble_eq_true rfl) (by dsimp only [ev_st1, ev_st2, ev_cl] <;> rfl) rfl ?_
  have l0 := loop 0 (Nat.zero_le _) z (fun j hj => absurd hj (Nat.not_lt_zero j))
  rw [ev_up_same hz] at l0
  exact l0
def ShS (A : Nat → Nat) (C : Nat → Option ev_E) (σ : Sg) (s : Nat) : Prop := ∃ (V : Nat → Value) (z : Nat → Int64), C (14 + 2 * s) = some (ev_ob 5 V) ∧ V 0 = .int (iI (σ.so s)) ∧ V 1 = .int (nI (σ.sz s)) ∧ V 2 = .ref (A (15 + 2 * s)) ∧ C (15 + 2 * s) = some (ev_la 40 z) ∧ ∀ i, i < 40 → z i = σ.ce s i
theorem ShS.same {A A' : Nat → Nat} {C C' : Nat → Option ev_E} {σ σ' : Sg} {s : Nat} (h : ShS A C σ s) (f0 : C' (14 + 2 * s) = C (14 + 2 * s)) (f1 : C' (15 + 2 * s) = C (15 + 2 * s)) (a1 : A' (15 + 2 * s) = A (15 + 2 * s)) (e0 : σ'.so s = σ.so s) (e1 : σ'.sz s = σ.sz s) (e2 : ∀ i, σ'.ce s i = σ.ce s i) : ShS A' C' σ' s := by
  obtain ⟨V, z, hV, v0, v1, v2, k0, hz⟩ := h
  exact ⟨V, z, f0.trans hV, by rw [e0]; exact v0, by rw [e1]; exact v1, by rw [a1]; exact v2, f1.trans k0, fun i hi => by rw [e2]; exact hz i hi⟩
theorem c_X6_become {B : ev_B} {d s : Nat} {X : Nat → Prop} {h : ev_H} {A : Nat → Nat} {C : Nat → Option ev_E} {σ : Sg} {t n : Int32} (hS : CS X h A C) (hSh : ShS A C σ s) (hd : 1 ≤ d) :
    Wp B d M_X6_become 0 [some (.ref (A (14 + 2 * s))), some (.int t), some (.int n)] [] h (fun v h' => v = none ∧ ∃ C' V' z', CS X h' A C' ∧ CG X h h' 0 ∧ (∀ u, u ≠ 14 + 2 * s → u ≠ 15 + 2 * s → C' u = C u) ∧ C' (14 + 2 * s) = some (ev_ob 5 V') ∧ V' 0 = .int t ∧ V' 1 = .int (if t.toInt = -1 then 0 else n) ∧ V' 2 = .ref (A (15 + 2 * s)) ∧ C' (15 + 2 * s) = some (ev_la 40 z') ∧ ∀ i, i < 40 → z' i = 0) := by
  obtain ⟨V, z, hV, v0, v1, v2, k0, hz⟩ := hSh
  refine Wp.aload_n dX6_become_0 rfl (by first | exact Or.inr ⟨_, rfl⟩ | exact Or.inl rfl) rfl ?_
  refine Wp.iload_n dX6_become_1 rfl rfl ?_
  refine Wp.put dX6_become_2 fp_X6_9 (hS.at hV) rfl rfl rfl ?_
  refine hS.put hV ?_
  intro h2 C2 V2 S2 o2 e2 w2 x2 f2
  refine Wp.aload_n dX6_become_5 rfl (by first | exact Or.inr ⟨_, rfl⟩ | exact Or.inl rfl) rfl ?_
  refine Wp.iload_n dX6_become_6 rfl rfl ?_
  refine Wp.iconst (v := (-1)) dX6_become_7 (by decide) rfl ?_
  refine Wp.icmp_ne (tgt := 15) (n := 11) dX6_become_8 (by decide) rfl (fun c_8 => ?_) (fun c_8 => ?_)
  · try simp (disch := omega) only [nI_bit0, nI_bit1, Bool.not_eq_false, Bool.not_eq_true] at c_8
    try simp (disch := omega) only [i_lt, i_le, i_eq, l_lt, l_le, l_eq, i_0, i_m1, l_0, nI_tI, iI_tI, lI_tI, Int.not_lt, Int.not_le] at c_8
    refine Wp.iload_n dX6_become_15 rfl rfl ?_
    refine Wp.put dX6_become_16 fp_X6_19 (S2.at e2) rfl rfl rfl ?_
    refine S2.put e2 ?_
    intro h16 C16 V16 S16 o16 e16 w16 x16 f16
    have o16 := o2.tr o16
    refine Wp.aload_n dX6_become_19 rfl (by first | exact Or.inr ⟨_, rfl⟩ | exact Or.inl rfl) rfl ?_
    refine Wp.get dX6_become_20 fl_X6_15 (S16.at e16) ((x16 2 (by decide)).trans ((x2 2 (by decide)).trans v2)) rfl ?_
    refine Wp.lconst (v := 0) dX6_become_23 (by decide) rfl ?_
    refine Wp.cS dX6_become_24 cs_X6_22 rfl (by omega) rfl (Nat.le_of_ble_eq_true rfl) (Nat.le_of_ble_eq_true rfl) rfl (c_J7_fill (d := d - 1) (S16.at ((f16 (15 + 2 * s) (by omega)).trans ((f2 (15 + 2 * s) (by omega)).trans k0))) (by omega)) ?_
    rintro _ h3 ⟨rfl, z3, e3_, hz3⟩
    rw [e3_]
    refine S16.set ((f16 (15 + 2 * s) (by omega)).trans ((f2 (15 + 2 * s) (by omega)).trans k0)) ?_
    intro h4 C4 S4 o4 e4 f4
    dsimp only [Option.toList, List.drop, List.cons_append, List.nil_append]
    exact Wp.vret dX6_become_27 rfl (by exact ⟨rfl, _, _, _, S4, o16.tr o4, fun u h1 h2 => (f4 u h2).trans ((f16 u h1).trans (f2 u h1)), (f4 _ (by omega)).trans e16, (x16 0 (by decide)).trans w2, by rw [w16]; rw [if_neg (by omega)], (x16 2 (by decide)).trans ((x2 2 (by decide)).trans v2), e4, hz3⟩)
  · try simp (disch := omega) only [nI_bit0, nI_bit1, Bool.not_eq_false, Bool.not_eq_true] at c_8
    try simp (disch := omega) only [i_lt, i_le, i_eq, l_lt, l_le, l_eq, i_0, i_m1, l_0, nI_tI, iI_tI, lI_tI, Int.not_lt, Int.not_le] at c_8
    refine Wp.iconst (v := (nI 0)) dX6_become_11 (by decide) rfl ?_
    refine Wp.goto (n := 16) dX6_become_12 (by decide) ?_
    refine Wp.put dX6_become_16 fp_X6_19 (S2.at e2) rfl rfl rfl ?_
    refine S2.put e2 ?_
    intro h16 C16 V16 S16 o16 e16 w16 x16 f16
    have o16 := o2.tr o16
    refine Wp.aload_n dX6_become_19 rfl (by first | exact Or.inr ⟨_, rfl⟩ | exact Or.inl rfl) rfl ?_
    refine Wp.get dX6_become_20 fl_X6_15 (S16.at e16) ((x16 2 (by decide)).trans ((x2 2 (by decide)).trans v2)) rfl ?_
    refine Wp.lconst (v := 0) dX6_become_23 (by decide) rfl ?_
    refine Wp.cS dX6_become_24 cs_X6_22 rfl (by omega) rfl (Nat.le_of_ble_eq_true rfl) (Nat.le_of_ble_eq_true rfl) rfl (c_J7_fill (d := d - 1) (S16.at ((f16 (15 + 2 * s) (by omega)).trans ((f2 (15 + 2 * s) (by omega)).trans k0))) (by omega)) ?_
    rintro _ h3 ⟨rfl, z3, e3_, hz3⟩
    rw [e3_]
    refine S16.set ((f16 (15 + 2 * s) (by omega)).trans ((f2 (15 + 2 * s) (by omega)).trans k0)) ?_
    intro h4 C4 S4 o4 e4 f4
    dsimp only [Option.toList, List.drop, List.cons_append, List.nil_append]
    exact Wp.vret dX6_become_27 rfl (by exact ⟨rfl, _, _, _, S4, o16.tr o4, fun u h1 h2 => (f4 u h2).trans ((f16 u h1).trans (f2 u h1)), (f4 _ (by omega)).trans e16, (x16 0 (by decide)).trans w2, by rw [w16]; rw [if_pos (by omega)] <;> rfl, (x16 2 (by decide)).trans ((x2 2 (by decide)).trans v2), e4, hz3⟩)
theorem c_X6_holds {B : ev_B} {d a sz : Nat} {h : ev_H} {V : Nat → Value} {i n : Int32} (hV : h.1 a = some (ev_ob 5 V)) (v1 : V 1 = .int (nI sz)) (hsz : sz ≤ 1000) :
    Wp B d M_X6_holds 0 [some (.ref a), some (.int (i)), some (.int (n))] [] h (fun v h' => v = some (.int (bI (decide (0 ≤ i.toInt ∧ 0 ≤ n.toInt ∧ i.toInt + n.toInt ≤ sz)))) ∧ h' = h) := by
  have hi1 := Int32.toInt_lt i
  have hi2 := Int32.le_toInt i
  have hn1 := Int32.toInt_lt n
  have hn2 := Int32.le_toInt n
  refine Wp.iload_n dX6_holds_0 rfl rfl ?_
  refine Wp.if_lt (tgt := 26) (n := 4) dX6_holds_1 (by decide) rfl (fun c_1 => ?_) (fun c_1 => ?_)
  · try simp (disch := omega) only [nI_bit0, nI_bit1, Bool.not_eq_false, Bool.not_eq_true] at c_1
    try simp (disch := omega) only [i_lt, i_le, i_eq, l_lt, l_le, l_eq, i_0, i_m1, l_0, nI_tI, iI_tI, lI_tI, Int.not_lt, Int.not_le] at c_1
    refine Wp.iconst (v := (nI 0)) dX6_holds_26 (by decide) rfl ?_
    exact Wp.zret dX6_holds_27 rfl (by decide) (q_ret (bI_f (decide_eq_false (by omega))))
  · try simp (disch := omega) only [nI_bit0, nI_bit1, Bool.not_eq_false, Bool.not_eq_true] at c_1
    try simp (disch := omega) only [i_lt, i_le, i_eq, l_lt, l_le, l_eq, i_0, i_m1, l_0, nI_tI, iI_tI, lI_tI, Int.not_lt, Int.not_le] at c_1
    refine Wp.iload_n dX6_holds_4 rfl rfl ?_
    refine Wp.if_lt (tgt := 26) (n := 8) dX6_holds_5 (by decide) rfl (fun c_5 => ?_) (fun c_5 => ?_)
    · try simp (disch := omega) only [nI_bit0, nI_bit1, Bool.not_eq_false, Bool.not_eq_true] at c_5
      try simp (disch := omega) only [i_lt, i_le, i_eq, l_lt, l_le, l_eq, i_0, i_m1, l_0, nI_tI, iI_tI, lI_tI, Int.not_lt, Int.not_le] at c_5
      refine Wp.iconst (v := (nI 0)) dX6_holds_26 (by decide) rfl ?_
      exact Wp.zret dX6_holds_27 rfl (by decide) (q_ret (bI_f (decide_eq_false (by omega))))
    · try simp (disch := omega) only [nI_bit0, nI_bit1, Bool.not_eq_false, Bool.not_eq_true] at c_5
      try simp (disch := omega) only [i_lt, i_le, i_eq, l_lt, l_le, l_eq, i_0, i_m1, l_0, nI_tI, iI_tI, lI_tI, Int.not_lt, Int.not_le] at c_5
      refine Wp.iload_n dX6_holds_8 rfl rfl ?_
      refine Wp.i2l dX6_holds_9 rfl ?_
      rw [i2l_lI]
      refine Wp.iload_n dX6_holds_10 rfl rfl ?_
      refine Wp.i2l dX6_holds_11 rfl ?_
      rw [i2l_lI]
      refine Wp.ladd dX6_holds_12 rfl ?_
      rw [lI_add]
      refine Wp.aload_n dX6_holds_13 rfl (by first | exact Or.inr ⟨_, rfl⟩ | exact Or.inl rfl) rfl ?_
      refine Wp.get dX6_holds_14 fl_X6_19 hV v1 rfl ?_
      refine Wp.i2l dX6_holds_17 rfl ?_
      rw [nI_lI (by omega)]
      refine Wp.lcmp_gt (tgt := 26) (n := 22) dX6_holds_18 rfl dX6_holds_19 (by decide) rfl (fun c_18 => ?_) (fun c_18 => ?_)
      · try simp (disch := omega) only [nI_bit0, nI_bit1, Bool.not_eq_false, Bool.not_eq_true] at c_18
        try simp (disch := omega) only [i_lt, i_le, i_eq, l_lt, l_le, l_eq, i_0, i_m1, l_0, nI_tI, iI_tI, lI_tI, Int.not_lt, Int.not_le] at c_18
        refine Wp.iconst (v := (nI 0)) dX6_holds_26 (by decide) rfl ?_
        exact Wp.zret dX6_holds_27 rfl (by decide) (q_ret (bI_f (decide_eq_false (by omega))))
      · try simp (disch := omega) only [nI_bit0, nI_bit1, Bool.not_eq_false, Bool.not_eq_true] at c_18
        try simp (disch := omega) only [i_lt, i_le, i_eq, l_lt, l_le, l_eq, i_0, i_m1, l_0, nI_tI, iI_tI, lI_tI, Int.not_lt, Int.not_le] at c_18
        refine Wp.iconst (v := (nI 1)) dX6_holds_22 (by decide) rfl ?_
        refine Wp.goto (n := 27) dX6_holds_23 (by decide) ?_
        exact Wp.zret dX6_holds_27 rfl (by decide) (q_ret (bI_t (decide_eq_true (by omega))))
