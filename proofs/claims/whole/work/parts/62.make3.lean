/-! the class: told, tree, way, pairing -/
theorem BenS.made {A A' : Nat → Nat} {C' : Nat → Option ev_E} {n : Nat} {V V' : Nat → Value} (v : V 0 = .ref (A 1) ∧ V 1 = .ref (A 6) ∧ V 3 = .ref (A 7) ∧ V 4 = .ref (A 8) ∧ V 5 = .ref (A 10) ∧ V 6 = .ref (A 12) ∧ V 7 = .ref (A 13)) (h : C' 0 = some (ev_ob 10 V')) (w : V' 2 = .int (nI n)) (x : ∀ k, k ≠ 2 → V' k = V k) (a : ∀ t, t < 14 → A' t = A t) : BenS A' C' n := by
  obtain ⟨v0, v1, v3, v4, v5, v6, v7⟩ := v
  exact ⟨V', h, by rw [x 0 (by decide), a 1 (by decide)]; exact v0, by rw [x 1 (by decide), a 6 (by decide)]; exact v1, w, by rw [x 3 (by decide), a 7 (by decide)]; exact v3, by rw [x 4 (by decide), a 8 (by decide)]; exact v4, by rw [x 5 (by decide), a 10 (by decide)]; exact v5, by rw [x 6 (by decide), a 12 (by decide)]; exact v6, by rw [x 7 (by decide), a 13 (by decide)]; exact v7⟩
theorem OfA.made {A A' : Nat → Nat} {C' : Nat → Option ev_E} {n : Nat} {q : Nat → Option Nat} (hq : ∀ i, i < n → q i = some (A (tO i))) (h : C' 6 = some (ev_qa 2 10 (va_up q n (some (A' (tO n)))))) (a : ∀ i, i < n → A' (tO i) = A (tO i)) : OfA A' C' (n + 1) := by
  refine ⟨_, h, fun i hi => ?_⟩
  show (if i = n then some (A' (tO n)) else q i) = _
  by_cases e : i = n
  · rw [if_pos e, e]
  · rw [if_neg e, hq i (by omega), a i (by omega)]
set_option maxHeartbeats 1000000 in
theorem c_X11_told {B : ev_B} {d a0 w0 j : Nat} {X : Nat → Prop} {h : ev_H} {σ : Sg} (hp : PSx X w0 h a0 σ j) (hW : Wf σ) (hj : j + 1 ≤ 600) (hd : 8 ≤ d) :
    Wp B d M_X11_told 0 [some (.ref a0)] [] h (CQ X w0 h a0 (t_made σ 0 0 0) j (.int (a_made σ))) := by
  obtain ⟨A, C, ns, ws, cp, ln, lr, pS, ha⟩ := hp
  obtain ⟨Vb, hVb, b0, b1, b2, b3, b4, b5, b6, b7⟩ := id pS.ben
  obtain ⟨Vw, hVw, -⟩ := id pS.win
  obtain ⟨Vq, gq, hVq, rq0, rq1, hgq, rq2, rq3⟩ := id pS.row.1
  obtain ⟨zf, hzf⟩ := id pS.fo
  have hcn := pS.cnt
  have hn10 := hW.n
  obtain ⟨Vn, n0, n1, n2, n3, hVn, z0, z1, z2, z3, z4, z5, z6, z7, z8, m0_, m1_, m2_, m3_, hgn⟩ := id pS.net
  have hT := hW.net.1
  have hL := hW.net.2.1
  refine Wp.aload_n dX11_told_0 rfl (by first | exact Or.inr ⟨_, rfl⟩ | exact Or.inl rfl) rfl ?_
  refine Wp.get dX11_told_1 fl_X11_100 (pS.S.at' hVb ha) b2 rfl ?_
  refine Wp.bipush (v := (nI 10)) dX11_told_4 (by decide) rfl ?_
  refine Wp.icmp_lt (tgt := 14) (n := 9) dX11_told_6 (by decide) rfl (fun c_6 => ?_) (fun c_6 => ?_)
  · try simp (disch := omega) only [nI_bit0, nI_bit1, Bool.not_eq_false, Bool.not_eq_true] at c_6
    try simp (disch := omega) only [i_lt, i_le, i_eq, l_lt, l_le, l_eq, i_0, i_m1, l_0, nI_tI, iI_tI, lI_tI, Int.not_lt, Int.not_le] at c_6
    refine Wp.aload_n dX11_told_14 rfl (by first | exact Or.inr ⟨_, rfl⟩ | exact Or.inl rfl) rfl ?_
    have htn : tO σ.n = 30 + 10 * σ.n := rfl
    have hn9 : σ.n < 10 := by omega
    obtain ⟨qq, hqq, hqi⟩ := id pS.ofa
    refine Wp.new dX11_told_15 nw_X11_103 rfl ?_
    refine pS.S.nw (tO σ.n) (pS.dead (tO σ.n) (Nat.le_refl _)) ?_
    intro h1 A1 C1 S1 o1 a1 e1 f1
    refine Wp.dup dX11_told_18 rfl rfl ?_
    refine Wp.aload_n dX11_told_19 rfl (by first | exact Or.inr ⟨_, rfl⟩ | exact Or.inl rfl) rfl ?_
    refine Wp.get dX11_told_20 fl_X11_100 (S1.at' ((f1 0 (by omega)).trans hVb) ((a1 0 (by omega)).trans ha)) b2 rfl ?_
    refine Wp.cI dX11_told_23 ci_X11_105 rfl (by omega) rfl (Nat.le_of_ble_eq_true rfl) (Nat.le_of_ble_eq_true rfl) rfl (c_X7_init (d := d - 1) (i := σ.n) S1 rfl e1 (fun s q1 q2 => (f1 s (by omega)).trans (pS.dead s (by omega))) (by omega)) ?_
    rintro _ h2 ⟨rfl, A2, C2, V2, S2, o2, a2, f2, bo2, y0, y4, y5, ch2, r2⟩
    dsimp only [Option.toList, List.drop, List.cons_append, List.nil_append]
    have hV0_ := (f2 0 (by omega)).trans ((f1 0 (by omega)).trans hVb)
    have ha2_ : A2 0 = a0 := (a2 0 (by omega)).trans ((a1 0 (by omega)).trans ha)
    have a3 : ∀ s, s < tO σ.n ∨ tO σ.n + 7 < s → A2 s = A s := fun s hs => (a2 s (by omega)).trans (a1 s (by omega))
    have hb1_ : Vb 1 = .ref (A2 6) := by rw [a3 6 (by omega)]; exact b1
    rw [show A1 (tO σ.n) = A2 (tO σ.n) from (a2 _ (by omega)).symm]
    refine Wp.cV dX11_told_26 cv_X11_108 rfl (by omega) rfl (Nat.le_of_ble_eq_true rfl) (Nat.le_of_ble_eq_true rfl) (S2.at' hV0_ ha2_) rfl (c_X11_addOffer (d := d - 1) S2 ha2_ hV0_ hb1_ b2 ((f2 6 (by omega)).trans ((f1 6 (by omega)).trans hqq)) bo2 (Or.inr ⟨rfl, Or.inr (Or.inl rfl)⟩) hn9) ?_
    rintro _ h3 ⟨rfl, C3, V3, S3, o3, g3, w3, x3, q3, f3⟩
    dsimp only [Option.toList, List.drop, List.cons_append, List.nil_append]
    exact Wp.iret dX11_told_29 rfl (by
      have ea : a_made σ = nI σ.n := by rw [a_made, if_neg (by omega)]
      have es : t_made σ 0 0 0 = σ.ofs (σ.n + 1) (fun i => if i = σ.n then Of.new 0 0 0 else σ.O i) := by rw [t_made, if_neg (by omega)]
      rw [ea, es]
      refine ⟨rfl, (o1.tr (o2.tr o3)).fx, A2, C3, ns, ws, _, _, lr, pS.made (V' := V2) hj hn9 S3 ((o1.tr (o2.tr o3)).le (by omega)) a3 (fun s h1 h2 hs => (f3 s h1 h2).trans ((f2 s (by omega)).trans (f1 s (by omega)))) (BenS.made (A := A) ⟨b0, b1, b3, b4, b5, b6, b7⟩ g3 w3 x3 (fun t ht => a3 t (by omega))) (OfA.made hqi q3 (fun i hi => a3 _ (by have e_ : tO i = 30 + 10 * i := rfl; omega))) ((f3 _ (by omega) (by omega)).trans bo2) (y0.same (fun _ _ _ _ => rfl) (f3 _ (by omega) (by omega))) y4 y5 (fun N => (ch2 N).same (fun t q1 q2 => f3 t (by omega) (by omega)) (fun _ _ _ => rfl)) (fun rv => (r2 rv).same (f3 _ (by omega) (by omega)) (f3 _ (by omega) (by omega)) rfl), ha2_⟩)
  · try simp (disch := omega) only [nI_bit0, nI_bit1, Bool.not_eq_false, Bool.not_eq_true] at c_6
    try simp (disch := omega) only [i_lt, i_le, i_eq, l_lt, l_le, l_eq, i_0, i_m1, l_0, nI_tI, iI_tI, lI_tI, Int.not_lt, Int.not_le] at c_6
    refine Wp.bipush (v := (-4)) dX11_told_9 (by decide) rfl ?_
    refine Wp.goto (n := 29) dX11_told_11 (by decide) ?_
    exact Wp.iret dX11_told_29 rfl (by
      have hn : σ.n = 10 := by omega
      rw [show a_made σ = -4 by  rw [a_made, if_pos hn], show t_made σ 0 0 0 = σ by  rw [t_made, if_pos hn]]
      exact ⟨rfl, FX.rfl, A, C, ns, ws, cp, ln, lr, pS.up hj, ha⟩)
set_option maxHeartbeats 1000000 in
theorem c_X11_tree {B : ev_B} {d a0 w0 j : Nat} {X : Nat → Prop} {h : ev_H} {σ : Sg} (hp : PSx X w0 h a0 σ j) (hW : Wf σ) (hj : j + 1 ≤ 600) (hd : 8 ≤ d) :
    Wp B d M_X11_tree 0 [some (.ref a0)] [] h (CQ X w0 h a0 (t_made σ 1 0 0) j (.int (a_made σ))) := by
  obtain ⟨A, C, ns, ws, cp, ln, lr, pS, ha⟩ := hp
  obtain ⟨Vb, hVb, b0, b1, b2, b3, b4, b5, b6, b7⟩ := id pS.ben
  obtain ⟨Vw, hVw, -⟩ := id pS.win
  obtain ⟨Vq, gq, hVq, rq0, rq1, hgq, rq2, rq3⟩ := id pS.row.1
  obtain ⟨zf, hzf⟩ := id pS.fo
  have hcn := pS.cnt
  have hn10 := hW.n
  obtain ⟨Vn, n0, n1, n2, n3, hVn, z0, z1, z2, z3, z4, z5, z6, z7, z8, m0_, m1_, m2_, m3_, hgn⟩ := id pS.net
  have hT := hW.net.1
  have hL := hW.net.2.1
  refine Wp.aload_n dX11_tree_0 rfl (by first | exact Or.inr ⟨_, rfl⟩ | exact Or.inl rfl) rfl ?_
  refine Wp.get dX11_tree_1 fl_X11_100 (pS.S.at' hVb ha) b2 rfl ?_
  refine Wp.bipush (v := (nI 10)) dX11_tree_4 (by decide) rfl ?_
  refine Wp.icmp_lt (tgt := 14) (n := 9) dX11_tree_6 (by decide) rfl (fun c_6 => ?_) (fun c_6 => ?_)
  · try simp (disch := omega) only [nI_bit0, nI_bit1, Bool.not_eq_false, Bool.not_eq_true] at c_6
    try simp (disch := omega) only [i_lt, i_le, i_eq, l_lt, l_le, l_eq, i_0, i_m1, l_0, nI_tI, iI_tI, lI_tI, Int.not_lt, Int.not_le] at c_6
    refine Wp.aload_n dX11_tree_14 rfl (by first | exact Or.inr ⟨_, rfl⟩ | exact Or.inl rfl) rfl ?_
    have htn : tO σ.n = 30 + 10 * σ.n := rfl
    have hn9 : σ.n < 10 := by omega
    obtain ⟨qq, hqq, hqi⟩ := id pS.ofa
    refine Wp.new dX11_tree_15 nw_X11_120 rfl ?_
    refine pS.S.nw (tO σ.n) (pS.dead (tO σ.n) (Nat.le_refl _)) ?_
    intro h1 A1 C1 S1 o1 a1 e1 f1
    refine Wp.dup dX11_tree_18 rfl rfl ?_
    refine Wp.aload_n dX11_tree_19 rfl (by first | exact Or.inr ⟨_, rfl⟩ | exact Or.inl rfl) rfl ?_
    refine Wp.get dX11_tree_20 fl_X11_100 (S1.at' ((f1 0 (by omega)).trans hVb) ((a1 0 (by omega)).trans ha)) b2 rfl ?_
    refine Wp.cI dX11_tree_23 ci_X11_122 rfl (by omega) rfl (Nat.le_of_ble_eq_true rfl) (Nat.le_of_ble_eq_true rfl) rfl (c_X8_init (d := d - 1) (i := σ.n) S1 rfl e1 (fun s q1 q2 => (f1 s (by omega)).trans (pS.dead s (by omega))) (by omega)) ?_
    rintro _ h2 ⟨rfl, A2, C2, V2, S2, o2, a2, f2, bo2, y0, y4, y5, ch2, r2⟩
    dsimp only [Option.toList, List.drop, List.cons_append, List.nil_append]
    have hV0_ := (f2 0 (by omega)).trans ((f1 0 (by omega)).trans hVb)
    have ha2_ : A2 0 = a0 := (a2 0 (by omega)).trans ((a1 0 (by omega)).trans ha)
    have a3 : ∀ s, s < tO σ.n ∨ tO σ.n + 7 < s → A2 s = A s := fun s hs => (a2 s (by omega)).trans (a1 s (by omega))
    have hb1_ : Vb 1 = .ref (A2 6) := by rw [a3 6 (by omega)]; exact b1
    rw [show A1 (tO σ.n) = A2 (tO σ.n) from (a2 _ (by omega)).symm]
    refine Wp.cV dX11_tree_26 cv_X11_108 rfl (by omega) rfl (Nat.le_of_ble_eq_true rfl) (Nat.le_of_ble_eq_true rfl) (S2.at' hV0_ ha2_) rfl (c_X11_addOffer (d := d - 1) S2 ha2_ hV0_ hb1_ b2 ((f2 6 (by omega)).trans ((f1 6 (by omega)).trans hqq)) bo2 (Or.inr ⟨rfl, Or.inr (Or.inr (Or.inl rfl))⟩) hn9) ?_
    rintro _ h3 ⟨rfl, C3, V3, S3, o3, g3, w3, x3, q3, f3⟩
    dsimp only [Option.toList, List.drop, List.cons_append, List.nil_append]
    exact Wp.iret dX11_tree_29 rfl (by
      have ea : a_made σ = nI σ.n := by rw [a_made, if_neg (by omega)]
      have es : t_made σ 1 0 0 = σ.ofs (σ.n + 1) (fun i => if i = σ.n then Of.new 1 0 0 else σ.O i) := by rw [t_made, if_neg (by omega)]
      rw [ea, es]
      refine ⟨rfl, (o1.tr (o2.tr o3)).fx, A2, C3, ns, ws, _, _, lr, pS.made (V' := V2) hj hn9 S3 ((o1.tr (o2.tr o3)).le (by omega)) a3 (fun s h1 h2 hs => (f3 s h1 h2).trans ((f2 s (by omega)).trans (f1 s (by omega)))) (BenS.made (A := A) ⟨b0, b1, b3, b4, b5, b6, b7⟩ g3 w3 x3 (fun t ht => a3 t (by omega))) (OfA.made hqi q3 (fun i hi => a3 _ (by have e_ : tO i = 30 + 10 * i := rfl; omega))) ((f3 _ (by omega) (by omega)).trans bo2) (y0.same (fun _ _ _ _ => rfl) (f3 _ (by omega) (by omega))) y4 y5 (fun N => (ch2 N).same (fun t q1 q2 => f3 t (by omega) (by omega)) (fun _ _ _ => rfl)) (fun rv => (r2 rv).same (f3 _ (by omega) (by omega)) (f3 _ (by omega) (by omega)) rfl), ha2_⟩)
  · try simp (disch := omega) only [nI_bit0, nI_bit1, Bool.not_eq_false, Bool.not_eq_true] at c_6
    try simp (disch := omega) only [i_lt, i_le, i_eq, l_lt, l_le, l_eq, i_0, i_m1, l_0, nI_tI, iI_tI, lI_tI, Int.not_lt, Int.not_le] at c_6
    refine Wp.bipush (v := (-4)) dX11_tree_9 (by decide) rfl ?_
    refine Wp.goto (n := 29) dX11_tree_11 (by decide) ?_
    exact Wp.iret dX11_tree_29 rfl (by
      have hn : σ.n = 10 := by omega
      rw [show a_made σ = -4 by  rw [a_made, if_pos hn], show t_made σ 1 0 0 = σ by  rw [t_made, if_pos hn]]
      exact ⟨rfl, FX.rfl, A, C, ns, ws, cp, ln, lr, pS.up hj, ha⟩)
set_option maxHeartbeats 1000000 in
theorem c_X11_way {B : ev_B} {d a0 w0 j : Nat} {X : Nat → Prop} {h : ev_H} {σ : Sg} {a b : Int32} (hp : PSx X w0 h a0 σ j) (hW : Wf σ) (hj : j + 1 ≤ 600) (hd : 8 ≤ d) :
    Wp B d M_X11_way 0 [some (.ref a0), some (.int (a)), some (.int (b))] [] h (CQ X w0 h a0 (t_way σ a b) j (.int (a_way σ a b))) := by
  obtain ⟨A, C, ns, ws, cp, ln, lr, pS, ha⟩ := hp
  obtain ⟨Vb, hVb, b0, b1, b2, b3, b4, b5, b6, b7⟩ := id pS.ben
  obtain ⟨Vw, hVw, -⟩ := id pS.win
  obtain ⟨Vq, gq, hVq, rq0, rq1, hgq, rq2, rq3⟩ := id pS.row.1
  obtain ⟨zf, hzf⟩ := id pS.fo
  have hcn := pS.cnt
  have hn10 := hW.n
  obtain ⟨Vn, n0, n1, n2, n3, hVn, z0, z1, z2, z3, z4, z5, z6, z7, z8, m0_, m1_, m2_, m3_, hgn⟩ := id pS.net
  have hT := hW.net.1
  have hL := hW.net.2.1
  refine Wp.aload_n dX11_way_0 rfl (by first | exact Or.inr ⟨_, rfl⟩ | exact Or.inl rfl) rfl ?_
  refine Wp.get dX11_way_1 fl_X11_10 (pS.S.at' hVb ha) b0 rfl ?_
  refine Wp.iload_n dX11_way_4 rfl rfl ?_
  refine Wp.cV dX11_way_5 cv_X11_58 rfl (by omega) rfl (Nat.le_of_ble_eq_true rfl) (Nat.le_of_ble_eq_true rfl) (pS.S.at hVn) rfl (c_X2_isThing (d := d - 1) (pS.net.C pS.S) hW.net) ?_
  rintro _ h_ ⟨rfl, e_⟩
  rw [e_]
  clear e_ h_
  dsimp only [Option.toList, List.drop, List.cons_append, List.nil_append]
  refine Wp.bif_eq (tgt := 27) (n := 11) dX11_way_8 (by decide) rfl (fun c_8 => ?_) (fun c_8 => ?_)
  · try simp only [decide_eq_true_eq, decide_eq_false_iff_not, Bool.and_eq_true, bI_0, bI_n0] at c_8
    refine Wp.bipush (v := (-2)) dX11_way_27 (by decide) rfl ?_
    exact Wp.iret dX11_way_29 rfl (by
      rw [a_way, t_way, if_neg (by first | omega | (intro z; have z1 := z.1; have z2 := z.2; first | omega | exact z2.2 (by assumption))), if_neg (by first | omega | (intro z; have z1 := z.1; have z2 := z.2; first | omega | exact z2.2 (by assumption)))]
      exact ⟨rfl, FX.rfl, A, C, ns, ws, cp, ln, lr, pS.up hj, ha⟩)
  · try simp only [decide_eq_true_eq, decide_eq_false_iff_not, Bool.and_eq_true, bI_0, bI_n0] at c_8
    refine Wp.aload_n dX11_way_11 rfl (by first | exact Or.inr ⟨_, rfl⟩ | exact Or.inl rfl) rfl ?_
    refine Wp.get dX11_way_12 fl_X11_10 (pS.S.at' hVb ha) b0 rfl ?_
    refine Wp.iload_n dX11_way_15 rfl rfl ?_
    refine Wp.cV dX11_way_16 cv_X11_58 rfl (by omega) rfl (Nat.le_of_ble_eq_true rfl) (Nat.le_of_ble_eq_true rfl) (pS.S.at hVn) rfl (c_X2_isThing (d := d - 1) (pS.net.C pS.S) hW.net) ?_
    rintro _ h_ ⟨rfl, e_⟩
    rw [e_]
    clear e_ h_
    dsimp only [Option.toList, List.drop, List.cons_append, List.nil_append]
    refine Wp.bif_eq (tgt := 27) (n := 22) dX11_way_19 (by decide) rfl (fun c_19 => ?_) (fun c_19 => ?_)
    · try simp only [decide_eq_true_eq, decide_eq_false_iff_not, Bool.and_eq_true, bI_0, bI_n0] at c_19
      refine Wp.bipush (v := (-2)) dX11_way_27 (by decide) rfl ?_
      exact Wp.iret dX11_way_29 rfl (by
        rw [a_way, t_way, if_neg (by first | omega | (intro z; have z1 := z.1; have z2 := z.2; first | omega | exact z2.2 (by assumption))), if_neg (by first | omega | (intro z; have z1 := z.1; have z2 := z.2; first | omega | exact z2.2 (by assumption)))]
        exact ⟨rfl, FX.rfl, A, C, ns, ws, cp, ln, lr, pS.up hj, ha⟩)
    · try simp only [decide_eq_true_eq, decide_eq_false_iff_not, Bool.and_eq_true, bI_0, bI_n0] at c_19
      refine Wp.iload_n dX11_way_22 rfl rfl ?_
      refine Wp.iload_n dX11_way_23 rfl rfl ?_
      refine Wp.icmp_ne (tgt := 30) (n := 27) dX11_way_24 (by decide) rfl (fun c_24 => ?_) (fun c_24 => ?_)
      · try simp (disch := omega) only [nI_bit0, nI_bit1, Bool.not_eq_false, Bool.not_eq_true] at c_24
        try simp (disch := omega) only [i_lt, i_le, i_eq, l_lt, l_le, l_eq, i_0, i_m1, l_0, nI_tI, iI_tI, lI_tI, Int.not_lt, Int.not_le] at c_24
        refine Wp.aload_n dX11_way_30 rfl (by first | exact Or.inr ⟨_, rfl⟩ | exact Or.inl rfl) rfl ?_
        refine Wp.get dX11_way_31 fl_X11_100 (pS.S.at' hVb ha) b2 rfl ?_
        refine Wp.bipush (v := (nI 10)) dX11_way_34 (by decide) rfl ?_
        refine Wp.icmp_lt (tgt := 44) (n := 39) dX11_way_36 (by decide) rfl (fun c_36 => ?_) (fun c_36 => ?_)
        · try simp (disch := omega) only [nI_bit0, nI_bit1, Bool.not_eq_false, Bool.not_eq_true] at c_36
          try simp (disch := omega) only [i_lt, i_le, i_eq, l_lt, l_le, l_eq, i_0, i_m1, l_0, nI_tI, iI_tI, lI_tI, Int.not_lt, Int.not_le] at c_36
          refine Wp.aload_n dX11_way_44 rfl (by first | exact Or.inr ⟨_, rfl⟩ | exact Or.inl rfl) rfl ?_
          obtain ⟨x_, rfl, hx, hx2⟩ := as_nI (show 0 ≤ a.toInt ∧ a.toInt < σ.N.T by omega)
          obtain ⟨y_, rfl, hy, hy2⟩ := as_nI (show 0 ≤ b.toInt ∧ b.toInt < σ.N.T by omega)
          have tx := nI_tI hx2
          have ty := nI_tI hy2
          have htn : tO σ.n = 30 + 10 * σ.n := rfl
          have hn9 : σ.n < 10 := by omega
          obtain ⟨qq, hqq, hqi⟩ := id pS.ofa
          refine Wp.new dX11_way_45 nw_X11_123 rfl ?_
          refine pS.S.nw (tO σ.n) (pS.dead (tO σ.n) (Nat.le_refl _)) ?_
          intro h1 A1 C1 S1 o1 a1 e1 f1
          refine Wp.dup dX11_way_48 rfl rfl ?_
          refine Wp.aload_n dX11_way_49 rfl (by first | exact Or.inr ⟨_, rfl⟩ | exact Or.inl rfl) rfl ?_
          refine Wp.get dX11_way_50 fl_X11_100 (S1.at' ((f1 0 (by omega)).trans hVb) ((a1 0 (by omega)).trans ha)) b2 rfl ?_
          refine Wp.iload_n dX11_way_53 rfl rfl ?_
          refine Wp.iload_n dX11_way_54 rfl rfl ?_
          refine Wp.cI dX11_way_55 ci_X11_125 rfl (by omega) rfl (Nat.le_of_ble_eq_true rfl) (Nat.le_of_ble_eq_true rfl) rfl (c_X9_init (d := d - 1) (i := σ.n) S1 rfl e1 (fun s q1 q2 => (f1 s (by omega)).trans (pS.dead s (by omega))) (by omega)) ?_
          rintro _ h2 ⟨rfl, A2, C2, V2, S2, o2, a2, f2, bo2, y0, y4, y5, ch2, r2⟩
          dsimp only [Option.toList, List.drop, List.cons_append, List.nil_append]
          have hV0_ := (f2 0 (by omega)).trans ((f1 0 (by omega)).trans hVb)
          have ha2_ : A2 0 = a0 := (a2 0 (by omega)).trans ((a1 0 (by omega)).trans ha)
          have a3 : ∀ s, s < tO σ.n ∨ tO σ.n + 7 < s → A2 s = A s := fun s hs => (a2 s (by omega)).trans (a1 s (by omega))
          have hb1_ : Vb 1 = .ref (A2 6) := by rw [a3 6 (by omega)]; exact b1
          rw [show A1 (tO σ.n) = A2 (tO σ.n) from (a2 _ (by omega)).symm]
          refine Wp.cV dX11_way_58 cv_X11_108 rfl (by omega) rfl (Nat.le_of_ble_eq_true rfl) (Nat.le_of_ble_eq_true rfl) (S2.at' hV0_ ha2_) rfl (c_X11_addOffer (d := d - 1) S2 ha2_ hV0_ hb1_ b2 ((f2 6 (by omega)).trans ((f1 6 (by omega)).trans hqq)) bo2 (Or.inr ⟨rfl, Or.inr (Or.inr (Or.inr rfl))⟩) hn9) ?_
          rintro _ h3 ⟨rfl, C3, V3, S3, o3, g3, w3, x3, q3, f3⟩
          dsimp only [Option.toList, List.drop, List.cons_append, List.nil_append]
          exact Wp.iret dX11_way_61 rfl (by
            have ea : a_way σ (nI x_) (nI y_) = nI σ.n := by rw [a_way, if_pos (by omega), a_made, if_neg (by omega)]
            have es : t_way σ (nI x_) (nI y_) = σ.ofs (σ.n + 1) (fun i => if i = σ.n then Of.new 2 x_ y_ else σ.O i) := by rw [t_way, if_pos (by omega), t_made, if_neg (by omega), tn_nI hx2, tn_nI hy2]
            rw [ea, es]
            refine ⟨rfl, (o1.tr (o2.tr o3)).fx, A2, C3, ns, ws, _, _, lr, pS.made (V' := V2) hj hn9 S3 ((o1.tr (o2.tr o3)).le (by omega)) a3 (fun s h1 h2 hs => (f3 s h1 h2).trans ((f2 s (by omega)).trans (f1 s (by omega)))) (BenS.made (A := A) ⟨b0, b1, b3, b4, b5, b6, b7⟩ g3 w3 x3 (fun t ht => a3 t (by omega))) (OfA.made hqi q3 (fun i hi => a3 _ (by have e_ : tO i = 30 + 10 * i := rfl; omega))) ((f3 _ (by omega) (by omega)).trans bo2) (y0.same (fun _ _ _ _ => rfl) (f3 _ (by omega) (by omega))) y4 y5 (fun N => (ch2 N).same (fun t q1 q2 => f3 t (by omega) (by omega)) (fun _ _ _ => rfl)) (fun rv => (r2 rv).same (f3 _ (by omega) (by omega)) (f3 _ (by omega) (by omega)) rfl), ha2_⟩)
        · try simp (disch := omega) only [nI_bit0, nI_bit1, Bool.not_eq_false, Bool.not_eq_true] at c_36
          try simp (disch := omega) only [i_lt, i_le, i_eq, l_lt, l_le, l_eq, i_0, i_m1, l_0, nI_tI, iI_tI, lI_tI, Int.not_lt, Int.not_le] at c_36
          refine Wp.bipush (v := (-4)) dX11_way_39 (by decide) rfl ?_
          refine Wp.goto (n := 61) dX11_way_41 (by decide) ?_
          exact Wp.iret dX11_way_61 rfl (by
            have hn : σ.n = 10 := by omega
            rw [show a_way σ a b = -4 by rw [a_way, if_pos (by omega)]; rw [a_made, if_pos hn], show t_way σ a b = σ by rw [t_way, if_pos (by omega)]; rw [t_made, if_pos hn]]
            exact ⟨rfl, FX.rfl, A, C, ns, ws, cp, ln, lr, pS.up hj, ha⟩)
      · try simp (disch := omega) only [nI_bit0, nI_bit1, Bool.not_eq_false, Bool.not_eq_true] at c_24
        try simp (disch := omega) only [i_lt, i_le, i_eq, l_lt, l_le, l_eq, i_0, i_m1, l_0, nI_tI, iI_tI, lI_tI, Int.not_lt, Int.not_le] at c_24
        refine Wp.bipush (v := (-2)) dX11_way_27 (by decide) rfl ?_
        exact Wp.iret dX11_way_29 rfl (by
          rw [a_way, t_way, if_neg (by first | omega | (intro z; have z1 := z.1; have z2 := z.2; first | omega | exact z2.2 (by assumption))), if_neg (by first | omega | (intro z; have z1 := z.1; have z2 := z.2; first | omega | exact z2.2 (by assumption)))]
          exact ⟨rfl, FX.rfl, A, C, ns, ws, cp, ln, lr, pS.up hj, ha⟩)
set_option maxHeartbeats 1000000 in
theorem c_X11_pairing {B : ev_B} {d a0 w0 j : Nat} {X : Nat → Prop} {h : ev_H} {σ : Sg} {s : Int32} (hp : PSx X w0 h a0 σ j) (hW : Wf σ) (hj : j + 1 ≤ 600) (hd : 8 ≤ d) :
    Wp B d M_X11_pairing 0 [some (.ref a0), some (.int (s))] [] h (CQ X w0 h a0 (t_pairing σ s) j (.int (a_pairing σ s))) := by
  obtain ⟨A, C, ns, ws, cp, ln, lr, pS, ha⟩ := hp
  obtain ⟨Vb, hVb, b0, b1, b2, b3, b4, b5, b6, b7⟩ := id pS.ben
  obtain ⟨Vw, hVw, -⟩ := id pS.win
  obtain ⟨Vq, gq, hVq, rq0, rq1, hgq, rq2, rq3⟩ := id pS.row.1
  obtain ⟨zf, hzf⟩ := id pS.fo
  have hcn := pS.cnt
  have hn10 := hW.n
  obtain ⟨Vn, n0, n1, n2, n3, hVn, z0, z1, z2, z3, z4, z5, z6, z7, z8, m0_, m1_, m2_, m3_, hgn⟩ := id pS.net
  have hT := hW.net.1
  have hL := hW.net.2.1
  refine Wp.iload_n dX11_pairing_0 rfl rfl ?_
  refine Wp.if_lt (tgt := 15) (n := 4) dX11_pairing_1 (by decide) rfl (fun c_1 => ?_) (fun c_1 => ?_)
  · try simp (disch := omega) only [nI_bit0, nI_bit1, Bool.not_eq_false, Bool.not_eq_true] at c_1
    try simp (disch := omega) only [i_lt, i_le, i_eq, l_lt, l_le, l_eq, i_0, i_m1, l_0, nI_tI, iI_tI, lI_tI, Int.not_lt, Int.not_le] at c_1
    refine Wp.bipush (v := (-2)) dX11_pairing_15 (by decide) rfl ?_
    exact Wp.iret dX11_pairing_17 rfl (by
      rw [a_pairing, t_pairing, if_neg (by omega), if_neg (by omega)]
      exact ⟨rfl, FX.rfl, A, C, ns, ws, cp, ln, lr, pS.up hj, ha⟩)
  · try simp (disch := omega) only [nI_bit0, nI_bit1, Bool.not_eq_false, Bool.not_eq_true] at c_1
    try simp (disch := omega) only [i_lt, i_le, i_eq, l_lt, l_le, l_eq, i_0, i_m1, l_0, nI_tI, iI_tI, lI_tI, Int.not_lt, Int.not_le] at c_1
    refine Wp.iload_n dX11_pairing_4 rfl rfl ?_
    refine Wp.aload_n dX11_pairing_5 rfl (by first | exact Or.inr ⟨_, rfl⟩ | exact Or.inl rfl) rfl ?_
    refine Wp.get dX11_pairing_6 fl_X11_10 (pS.S.at' hVb ha) b0 rfl ?_
    have hp7 := pow_T hT
    have hp0 := Nat.two_pow_pos σ.N.T
    refine Wp.cV dX11_pairing_9 cv_X11_127 rfl (by omega) rfl (Nat.le_of_ble_eq_true rfl) (Nat.le_of_ble_eq_true rfl) (pS.S.at hVn) rfl (c_X2_allThings (d := d - 1) (pS.net.C pS.S) hW.net) ?_
    rintro _ h_ ⟨rfl, e_⟩
    rw [e_]
    clear e_ h_
    dsimp only [Option.toList, List.drop, List.cons_append, List.nil_append]
    refine Wp.icmp_le (tgt := 18) (n := 15) dX11_pairing_12 (by decide) rfl (fun c_12 => ?_) (fun c_12 => ?_)
    · try simp (disch := omega) only [nI_bit0, nI_bit1, Bool.not_eq_false, Bool.not_eq_true] at c_12
      try simp (disch := omega) only [i_lt, i_le, i_eq, l_lt, l_le, l_eq, i_0, i_m1, l_0, nI_tI, iI_tI, lI_tI, Int.not_lt, Int.not_le] at c_12
      refine Wp.aload_n dX11_pairing_18 rfl (by first | exact Or.inr ⟨_, rfl⟩ | exact Or.inl rfl) rfl ?_
      refine Wp.get dX11_pairing_19 fl_X11_100 (pS.S.at' hVb ha) b2 rfl ?_
      refine Wp.bipush (v := (nI 10)) dX11_pairing_22 (by decide) rfl ?_
      refine Wp.icmp_lt (tgt := 32) (n := 27) dX11_pairing_24 (by decide) rfl (fun c_24 => ?_) (fun c_24 => ?_)
      · try simp (disch := omega) only [nI_bit0, nI_bit1, Bool.not_eq_false, Bool.not_eq_true] at c_24
        try simp (disch := omega) only [i_lt, i_le, i_eq, l_lt, l_le, l_eq, i_0, i_m1, l_0, nI_tI, iI_tI, lI_tI, Int.not_lt, Int.not_le] at c_24
        refine Wp.aload_n dX11_pairing_32 rfl (by first | exact Or.inr ⟨_, rfl⟩ | exact Or.inl rfl) rfl ?_
        obtain ⟨x_, rfl, hx, hx2⟩ := as_nI (o := s) (n := 2 ^ σ.N.T) (by omega)
        have tx := nI_tI hx2
        have htn : tO σ.n = 30 + 10 * σ.n := rfl
        have hn9 : σ.n < 10 := by omega
        obtain ⟨qq, hqq, hqi⟩ := id pS.ofa
        refine Wp.new dX11_pairing_33 nw_X11_130 rfl ?_
        refine pS.S.nw (tO σ.n) (pS.dead (tO σ.n) (Nat.le_refl _)) ?_
        intro h1 A1 C1 S1 o1 a1 e1 f1
        refine Wp.dup dX11_pairing_36 rfl rfl ?_
        refine Wp.aload_n dX11_pairing_37 rfl (by first | exact Or.inr ⟨_, rfl⟩ | exact Or.inl rfl) rfl ?_
        refine Wp.get dX11_pairing_38 fl_X11_100 (S1.at' ((f1 0 (by omega)).trans hVb) ((a1 0 (by omega)).trans ha)) b2 rfl ?_
        refine Wp.iload_n dX11_pairing_41 rfl rfl ?_
        refine Wp.cI dX11_pairing_42 ci_X11_132 rfl (by omega) rfl (Nat.le_of_ble_eq_true rfl) (Nat.le_of_ble_eq_true rfl) rfl (c_X4_init (d := d - 1) (i := σ.n) S1 rfl e1 (fun s q1 q2 => (f1 s (by omega)).trans (pS.dead s (by omega))) (by omega)) ?_
        rintro _ h2 ⟨rfl, A2, C2, V2, S2, o2, a2, f2, bo2, y0, y4, y5, ch2, r2⟩
        dsimp only [Option.toList, List.drop, List.cons_append, List.nil_append]
        have hV0_ := (f2 0 (by omega)).trans ((f1 0 (by omega)).trans hVb)
        have ha2_ : A2 0 = a0 := (a2 0 (by omega)).trans ((a1 0 (by omega)).trans ha)
        have a3 : ∀ s, s < tO σ.n ∨ tO σ.n + 7 < s → A2 s = A s := fun s hs => (a2 s (by omega)).trans (a1 s (by omega))
        have hb1_ : Vb 1 = .ref (A2 6) := by rw [a3 6 (by omega)]; exact b1
        rw [show A1 (tO σ.n) = A2 (tO σ.n) from (a2 _ (by omega)).symm]
        refine Wp.cV dX11_pairing_45 cv_X11_108 rfl (by omega) rfl (Nat.le_of_ble_eq_true rfl) (Nat.le_of_ble_eq_true rfl) (S2.at' hV0_ ha2_) rfl (c_X11_addOffer (d := d - 1) S2 ha2_ hV0_ hb1_ b2 ((f2 6 (by omega)).trans ((f1 6 (by omega)).trans hqq)) bo2 (Or.inr ⟨rfl, Or.inl rfl⟩) hn9) ?_
        rintro _ h3 ⟨rfl, C3, V3, S3, o3, g3, w3, x3, q3, f3⟩
        dsimp only [Option.toList, List.drop, List.cons_append, List.nil_append]
        exact Wp.iret dX11_pairing_48 rfl (by
          have ea : a_pairing σ (nI x_) = nI σ.n := by rw [a_pairing, if_pos (by omega), a_made, if_neg (by omega)]
          have es : t_pairing σ (nI x_) = σ.ofs (σ.n + 1) (fun i => if i = σ.n then Of.new 3 x_ 0 else σ.O i) := by rw [t_pairing, if_pos (by omega), t_made, if_neg (by omega), tn_nI hx2]
          rw [ea, es]
          refine ⟨rfl, (o1.tr (o2.tr o3)).fx, A2, C3, ns, ws, _, _, lr, pS.made (V' := V2) hj hn9 S3 ((o1.tr (o2.tr o3)).le (by omega)) a3 (fun s h1 h2 hs => (f3 s h1 h2).trans ((f2 s (by omega)).trans (f1 s (by omega)))) (BenS.made (A := A) ⟨b0, b1, b3, b4, b5, b6, b7⟩ g3 w3 x3 (fun t ht => a3 t (by omega))) (OfA.made hqi q3 (fun i hi => a3 _ (by have e_ : tO i = 30 + 10 * i := rfl; omega))) ((f3 _ (by omega) (by omega)).trans bo2) (y0.same (fun _ _ _ _ => rfl) (f3 _ (by omega) (by omega))) y4 y5 (fun N => (ch2 N).same (fun t q1 q2 => f3 t (by omega) (by omega)) (fun _ _ _ => rfl)) (fun rv => (r2 rv).same (f3 _ (by omega) (by omega)) (f3 _ (by omega) (by omega)) rfl), ha2_⟩)
      · try simp (disch := omega) only [nI_bit0, nI_bit1, Bool.not_eq_false, Bool.not_eq_true] at c_24
        try simp (disch := omega) only [i_lt, i_le, i_eq, l_lt, l_le, l_eq, i_0, i_m1, l_0, nI_tI, iI_tI, lI_tI, Int.not_lt, Int.not_le] at c_24
        refine Wp.bipush (v := (-4)) dX11_pairing_27 (by decide) rfl ?_
        refine Wp.goto (n := 48) dX11_pairing_29 (by decide) ?_
        exact Wp.iret dX11_pairing_48 rfl (by
          have hn : σ.n = 10 := by omega
          rw [show a_pairing σ s = -4 by rw [a_pairing, if_pos (by omega)]; rw [a_made, if_pos hn], show t_pairing σ s = σ by rw [t_pairing, if_pos (by omega)]; rw [t_made, if_pos hn]]
          exact ⟨rfl, FX.rfl, A, C, ns, ws, cp, ln, lr, pS.up hj, ha⟩)
    · try simp (disch := omega) only [nI_bit0, nI_bit1, Bool.not_eq_false, Bool.not_eq_true] at c_12
      try simp (disch := omega) only [i_lt, i_le, i_eq, l_lt, l_le, l_eq, i_0, i_m1, l_0, nI_tI, iI_tI, lI_tI, Int.not_lt, Int.not_le] at c_12
      refine Wp.bipush (v := (-2)) dX11_pairing_15 (by decide) rfl ?_
      exact Wp.iret dX11_pairing_17 rfl (by
        rw [a_pairing, t_pairing, if_neg (by omega), if_neg (by omega)]
        exact ⟨rfl, FX.rfl, A, C, ns, ws, cp, ln, lr, pS.up hj, ha⟩)
