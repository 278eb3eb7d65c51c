/-! the class: undo, tell -/
theorem Wp.instZ {B : ev_B} {d : Nat} {M : ev_M} {pc n idx : Nat} {ls : List (Option Value)} {st : List Value} {h : ev_H} {Q : Option Value → ev_H → Prop} (hd : decode M.2.1 pc = .ok (.instanceof idx, 3)) (hn : pc + 3 = n) (k : Wp B d M n ls (.int 0 :: st) h Q) : Wp B d M pc ls (.null :: st) h Q := by
  subst hn
  exact Wp.go (fun D p l e R s m args below meth c H locs a cells slots Qf hG hR hS hL kk => lv_instN hG.1 hG.2.1 hd (kk a hL)) k
def nedO (o : Of) (t : Nat) : Bool := if o.k = 2 then decide (o.f = t ∨ o.s = t) else if o.k = 3 then o.f.testBit t else false
def nedN (O : Nat → Of) (t : Nat) : Nat → Bool
  | 0 => false
  | k + 1 => nedN O t k || nedO (O k) t
theorem nedN_t {O : Nat → Of} {t : Nat} : ∀ {n k : Nat}, k < n → nedO (O k) t = true → nedN O t n = true
  | 0, _, h, _ => absurd h (Nat.not_lt_zero _)
  | n + 1, k, h, e => by
    simp only [nedN, Bool.or_eq_true]
    by_cases z : k = n
    · subst z; exact Or.inr e
    · exact Or.inl (nedN_t (by omega) e)
theorem nedN_f {O : Nat → Of} {t : Nat} : ∀ {n : Nat}, (∀ k, k < n → nedO (O k) t = false) → nedN O t n = false
  | 0, _ => rfl
  | n + 1, h => by
    simp only [nedN, Bool.or_eq_false_iff]
    exact ⟨nedN_f (fun k hk => h k (by omega)), h n (by omega)⟩
theorem lt_bit {f T : Nat} (hT : T < 7) (h : f < 2 ^ (T + 1)) : f < 2 ^ T ↔ f.testBit T = false := by
  rw [Nat.testBit_eq_decide_div_mod_eq, decide_eq_false_iff_not]
  have h7 : T = 0 ∨ T = 1 ∨ T = 2 ∨ T = 3 ∨ T = 4 ∨ T = 5 ∨ T = 6 := by omega
  rcases h7 with rfl | rfl | rfl | rfl | rfl | rfl | rfl <;> simp only [Nat.reducePow, Nat.reduceAdd] at h ⊢ <;> omega
theorem okU_1 {σ : Sg} (hW : Wf σ) (hU : σ.U = 1) : ∀ n, n ≤ σ.n → okU σ n = !nedN σ.O (σ.N.T - 1) n
  | 0, _ => rfl
  | n + 1, h => by
    have hB : σ.B.T = σ.N.T - 1 := by unfold Sg.B; rw [hU]; rfl
    have hT := hW.net.1
    have h0 := hW.u1 hU
    have ho := hW.of n (by omega)
    simp only [okU, nedN, okU_1 hW hU n (by omega), Bool.not_or]
    congr 1
    rw [hB]
    unfold okO nedO
    by_cases k2 : (σ.O n).k = 2
    · have q := ho.wy k2
      rw [if_pos k2, ← decide_not]
      apply decide_eq_decide.mpr
      constructor
      · intro z y
        have z1 := z.1 k2
        omega
      · intro z
        exact ⟨fun _ => by omega, fun z3 => by omega⟩
    · rw [if_neg k2]
      by_cases k3 : (σ.O n).k = 3
      · have q := ho.pr k3
        rw [if_pos k3]
        have e := lt_bit (f := (σ.O n).f) (T := σ.N.T - 1) (by omega) (by rw [show σ.N.T - 1 + 1 = σ.N.T by omega]; exact q)
        cases hb : (σ.O n).f.testBit (σ.N.T - 1) with
        | true =>
          rw [hb] at e
          apply decide_eq_false
          intro z
          exact Bool.noConfusion (e.mp (z.2 k3))
        | false =>
          rw [hb] at e
          apply decide_eq_true
          exact ⟨fun z => absurd z k2, fun _ => e.mpr rfl⟩
      · rw [if_neg k3]
        apply decide_eq_true
        exact ⟨fun z => absurd z k2, fun z => absurd z k3⟩
theorem okU_n {σ : Sg} (hW : Wf σ) (hU : σ.U ≠ 1) : ∀ n, n ≤ σ.n → okU σ n = true
  | 0, _ => rfl
  | n + 1, h => by
    have hB : σ.B.T = σ.N.T := by
      unfold Sg.B
      have := hW.u
      have h5 : σ.U = 0 ∨ σ.U = 2 ∨ σ.U = 3 ∨ σ.U = 4 := by omega
      rcases h5 with e | e | e | e <;> rw [e] <;> rfl
    have ho := hW.of n (by omega)
    simp only [okU, okU_n hW hU n (by omega), Bool.true_and, hB, okO]
    exact decide_eq_true ⟨fun z => ⟨(ho.wy z).1, (ho.wy z).2.1⟩, fun z => ho.pr z⟩
theorem needs_at {B : ev_B} {d t k a0 w0 j : Nat} {X : Nat → Prop} {h : ev_H} {A : Nat → Nat} {C : Nat → Option ev_E} {σ : Sg} {ns ws : Nat} {cp ln : Nat → Nat} {lr : Nat} (pS : PS X w0 h A C σ ns ws cp ln lr j) (ha : A 0 = a0) (hW : Wf σ) {Q : Option Value → ev_H → Prop} (hk : k < σ.n) (ht : t < 30) (hd : 1 ≤ d) (kk : Wp B d M_X11_someOfferNeeds 29 [some (.ref a0), some (.int (nI t)), some (.int (nI k))] [.int (bI (nedO (σ.O k) t))] h Q) :
    Wp B d M_X11_someOfferNeeds 26 [some (.ref a0), some (.int (nI t)), some (.int (nI k))] [.int (nI t), .ref (A (tO k))] h Q := by
  have hO_ := hW.of k hk
  have hk4 := hO_.k
  have hT := hW.net.1
  have htO : tO k = 30 + 10 * k := rfl
  obtain ⟨Vo, cs, bs, Nl, l, nb, rb, hVo, hOV, -⟩ := id (pS.of k hk)
  obtain ⟨ov0, ov1, ov2, ov3, ov5, ov6, ov7⟩ := id hOV
  have hkk : (σ.O k).k = 0 ∨ (σ.O k).k = 1 ∨ (σ.O k).k = 2 ∨ (σ.O k).k = 3 := by omega
  rcases hkk with hk0 | hk0 | hk0 | hk0
  · have hVk : C (tO k) = some (ev_ob 6 Vo) := by rw [hk0] at hVo; exact hVo
    refine Wp.cU dX11_someOfferNeeds_26 cu_X11_171_6 rfl (by omega) rfl (Nat.le_of_ble_eq_true rfl) (Nat.le_of_ble_eq_true rfl) (pS.S.at hVk) rfl (c_X7_needs (d := d - 1)) ?_
    rintro _ h_ ⟨rfl, e_⟩
    rw [e_]
    rw [show bI false = bI (nedO (σ.O k) t) by rw [nedO, if_neg (by omega), if_neg (by omega)]]
    exact kk
  · have hVk : C (tO k) = some (ev_ob 7 Vo) := by rw [hk0] at hVo; exact hVo
    refine Wp.cU dX11_someOfferNeeds_26 cu_X11_171_7 rfl (by omega) rfl (Nat.le_of_ble_eq_true rfl) (Nat.le_of_ble_eq_true rfl) (pS.S.at hVk) rfl (c_X8_needs (d := d - 1)) ?_
    rintro _ h_ ⟨rfl, e_⟩
    rw [e_]
    rw [show bI false = bI (nedO (σ.O k) t) by rw [nedO, if_neg (by omega), if_neg (by omega)]]
    exact kk
  · have hVk : C (tO k) = some (ev_ob 8 Vo) := by rw [hk0] at hVo; exact hVo
    refine Wp.cU dX11_someOfferNeeds_26 cu_X11_171_8 rfl (by omega) rfl (Nat.le_of_ble_eq_true rfl) (Nat.le_of_ble_eq_true rfl) (pS.S.at hVk) rfl (c_X9_needs (d := d - 1) (pS.S.at hVk) (ov6 hk0).1 (ov6 hk0).2 (by have := (hO_.wy hk0); omega) (by have := (hO_.wy hk0); omega) (by omega)) ?_
    rintro _ h_ ⟨rfl, e_⟩
    rw [e_]
    rw [show decide ((σ.O k).f = t ∨ (σ.O k).s = t) = nedO (σ.O k) t by rw [nedO, if_pos hk0]]
    exact kk
  · have hVk : C (tO k) = some (ev_ob 3 Vo) := by rw [hk0] at hVo; exact hVo
    refine Wp.cU dX11_someOfferNeeds_26 cu_X11_171_3 rfl (by omega) rfl (Nat.le_of_ble_eq_true rfl) (Nat.le_of_ble_eq_true rfl) (pS.S.at hVk) rfl (c_X4_needs (d := d - 1) (pS.S.at hVk) (ov7 hk0) (by have := (hO_.pr hk0); have := pow_T hT; omega) ht) ?_
    rintro _ h_ ⟨rfl, e_⟩
    rw [e_]
    rw [show (σ.O k).f.testBit t = nedO (σ.O k) t by rw [nedO, if_neg (by omega), if_pos hk0]]
    exact kk
set_option maxHeartbeats 1000000 in
theorem c_X11_someOfferNeeds {B : ev_B} {d t a0 w0 j : Nat} {X : Nat → Prop} {h : ev_H} {A : Nat → Nat} {C : Nat → Option ev_E} {σ : Sg} {ns ws : Nat} {cp ln : Nat → Nat} {lr : Nat} (pS : PS X w0 h A C σ ns ws cp ln lr j) (ha : A 0 = a0) (hW : Wf σ) (ht : t < 30) (hd : 2 ≤ d) :
    Wp B d M_X11_someOfferNeeds 0 [some (.ref a0), some (.int (nI t)), none] [] h (fun v h' => v = some (.int (bI (nedN σ.O t σ.n))) ∧ h' = h) := by
  have hn10 := hW.n
  obtain ⟨Vb, hVb, b0, b1, b2, b3, b4, b5, b6, b7⟩ := id pS.ben
  obtain ⟨q, hq, hqi⟩ := id pS.ofa
  have loop : ∀ k, k ≤ σ.n → (∀ m, m < k → nedO (σ.O m) t = false) → Wp B d M_X11_someOfferNeeds 2 [some (.ref a0), some (.int (nI t)), some (.int (nI k))] [] h (fun v h' => v = some (.int (bI (nedN σ.O t σ.n))) ∧ h' = h) := by
    refine ev_upl σ.n (fun k hi ih => ?_) ?_
    · intro hm
      have hk : k < σ.n := by omega
      refine Wp.iload_n dX11_someOfferNeeds_2 rfl rfl ?_
      refine Wp.aload_n dX11_someOfferNeeds_3 rfl (by first | exact Or.inr ⟨_, rfl⟩ | exact Or.inl rfl) rfl ?_
      refine Wp.get dX11_someOfferNeeds_4 fl_X11_100 (pS.S.at' hVb ha) b2 rfl ?_
      refine Wp.icmp_ge (tgt := 40) (n := 10) dX11_someOfferNeeds_7 (by decide) rfl (fun c_7 => ?_) (fun c_7 => ?_)
      · try simp (disch := omega) only [nI_bit0, nI_bit1, Bool.not_eq_false, Bool.not_eq_true] at c_7
        try simp (disch := omega) only [i_lt, i_le, i_eq, l_lt, l_le, l_eq, i_0, i_m1, l_0, nI_tI, iI_tI, lI_tI, Int.not_lt, Int.not_le] at c_7
        omega
      · try simp (disch := omega) only [nI_bit0, nI_bit1, Bool.not_eq_false, Bool.not_eq_true] at c_7
        try simp (disch := omega) only [i_lt, i_le, i_eq, l_lt, l_le, l_eq, i_0, i_m1, l_0, nI_tI, iI_tI, lI_tI, Int.not_lt, Int.not_le] at c_7
        refine Wp.aload_n dX11_someOfferNeeds_10 rfl (by first | exact Or.inr ⟨_, rfl⟩ | exact Or.inl rfl) rfl ?_
        refine Wp.get dX11_someOfferNeeds_11 fl_X11_18 (pS.S.at' hVb ha) b1 rfl ?_
        refine Wp.iload_n dX11_someOfferNeeds_14 rfl rfl ?_
        refine Wp.aaload dX11_someOfferNeeds_15 (Or.inl rfl) (pS.S.at hq) (nI_toInt (by omega)) (by omega) (show va_rf (q k) = .ref (A (tO k)) by rw [hqi k hk]; rfl) rfl ?_
        refine Wp.ifnull (n := 19) dX11_someOfferNeeds_16 rfl ?_
        refine Wp.aload_n dX11_someOfferNeeds_19 rfl (by first | exact Or.inr ⟨_, rfl⟩ | exact Or.inl rfl) rfl ?_
        refine Wp.get dX11_someOfferNeeds_20 fl_X11_18 (pS.S.at' hVb ha) b1 rfl ?_
        refine Wp.iload_n dX11_someOfferNeeds_23 rfl rfl ?_
        refine Wp.aaload dX11_someOfferNeeds_24 (Or.inl rfl) (pS.S.at hq) (nI_toInt (by omega)) (by omega) (show va_rf (q k) = .ref (A (tO k)) by rw [hqi k hk]; rfl) rfl ?_
        refine Wp.iload_n dX11_someOfferNeeds_25 rfl rfl ?_
        refine needs_at pS ha hW hk ht (by omega) ?_
        refine Wp.bif_eq (tgt := 34) (n := 32) dX11_someOfferNeeds_29 (by decide) rfl (fun c_29 => ?_) (fun c_29 => ?_)
        · refine Wp.iinc (v := _ + (nI 1)) dX11_someOfferNeeds_34 rfl rfl (Nat.le_of_ble_eq_true rfl) (by dsimp only [ev_st1, ev_cl] <;> rfl) rfl ?_
          refine Wp.goto (n := 2) dX11_someOfferNeeds_37 (by decide) ?_
          rw [nI_add1]
          exact ih (fun m hm_ => by
            by_cases z : m = k
            · subst z; exact c_29
            · exact hm m (by omega))
        · refine Wp.iconst (v := (nI 1)) dX11_someOfferNeeds_32 (by decide) rfl ?_
          exact Wp.zret dX11_someOfferNeeds_33 rfl (by decide) (q_ret (bI_t (nedN_t hk c_29)))
    · intro hm
      refine Wp.iload_n dX11_someOfferNeeds_2 rfl rfl ?_
      refine Wp.aload_n dX11_someOfferNeeds_3 rfl (by first | exact Or.inr ⟨_, rfl⟩ | exact Or.inl rfl) rfl ?_
      refine Wp.get dX11_someOfferNeeds_4 fl_X11_100 (pS.S.at' hVb ha) b2 rfl ?_
      refine Wp.icmp_ge (tgt := 40) (n := 10) dX11_someOfferNeeds_7 (by decide) rfl (fun c_7 => ?_) (fun c_7 => ?_)
      · try simp (disch := omega) only [nI_bit0, nI_bit1, Bool.not_eq_false, Bool.not_eq_true] at c_7
        try simp (disch := omega) only [i_lt, i_le, i_eq, l_lt, l_le, l_eq, i_0, i_m1, l_0, nI_tI, iI_tI, lI_tI, Int.not_lt, Int.not_le] at c_7
        refine Wp.iconst (v := (nI 0)) dX11_someOfferNeeds_40 (by decide) rfl ?_
        exact Wp.zret dX11_someOfferNeeds_41 rfl (by decide) (q_ret (bI_f (nedN_f (fun m hm_ => hm m (by omega)))))
      · try simp (disch := omega) only [nI_bit0, nI_bit1, Bool.not_eq_false, Bool.not_eq_true] at c_7
        try simp (disch := omega) only [i_lt, i_le, i_eq, l_lt, l_le, l_eq, i_0, i_m1, l_0, nI_tI, iI_tI, lI_tI, Int.not_lt, Int.not_le] at c_7
        omega
  refine Wp.iconst (v := (nI 0)) dX11_someOfferNeeds_0 (by decide) rfl ?_
  refine Wp.istore_n dX11_someOfferNeeds_1 (Nat.le_of_ble_eq_true rfl) (by dsimp only [ev_st1, ev_st2, ev_cl] <;> rfl) rfl ?_
  exact loop 0 (Nat.zero_le _) (fun m hm => absurd hm (Nat.not_lt_zero m))
set_option maxHeartbeats 1000000 in
theorem c_X11_undo {B : ev_B} {d a0 w0 j : Nat} {X : Nat → Prop} {h : ev_H} {σ : Sg} (hp : PSx X w0 h a0 σ j) (hW : Wf σ) (hj : j + 1 ≤ 600) (hd : 4 ≤ d) :
    Wp B d M_X11_undo 0 [some (.ref a0), none] [] h (CQ X w0 h a0 (t_undo σ) j (.int (a_undo σ))) := by
  obtain ⟨A, C, ns, ws, cp, ln, lr, pS, ha⟩ := hp
  obtain ⟨Vb, hVb, b0, b1, b2, b3, b4, b5, b6, b7⟩ := id pS.ben
  obtain ⟨Vw, hVw, -⟩ := id pS.win
  obtain ⟨Vq, gq, hVq, rq0, rq1, hgq, rq2, rq3⟩ := id pS.row.1
  obtain ⟨zf, hzf⟩ := id pS.fo
  have hcn := pS.cnt
  have hn10 := hW.n
  obtain ⟨Vn, n0, n1, n2, n3, hVn, z0, z1, z2, z3, z4, z5, z6, z7, z8, m0_, m1_, m2_, m3_, hgn⟩ := id pS.net
  have hT := hW.net.1
  have hL := hW.net.2.1
  have hU4 := hW.u
  have hu1 := hW.u1
  refine Wp.aload_n dX11_undo_0 rfl (by first | exact Or.inr ⟨_, rfl⟩ | exact Or.inl rfl) rfl ?_
  refine Wp.get dX11_undo_1 fl_X11_10 (pS.S.at' hVb ha) b0 rfl ?_
  refine Wp.get dX11_undo_4 fl_X11_84 (pS.S.at hVn) z6 rfl ?_
  refine Wp.iconst (v := (nI 1)) dX11_undo_7 (by decide) rfl ?_
  refine Wp.icmp_ne (tgt := 15) (n := 11) dX11_undo_8 (by decide) rfl (fun c_8 => ?_) (fun c_8 => ?_)
  · have c_8 : σ.U ≠ 1 := fun z => c_8 (by rw [z])
    refine Wp.iconst (v := (nI 0)) dX11_undo_15 (by decide) rfl ?_
    refine Wp.istore_n dX11_undo_16 (Nat.le_of_ble_eq_true rfl) (by dsimp only [ev_st1, ev_st2, ev_cl] <;> rfl) rfl ?_
    refine Wp.aload_n dX11_undo_17 rfl (by first | exact Or.inr ⟨_, rfl⟩ | exact Or.inl rfl) rfl ?_
    refine Wp.get dX11_undo_18 fl_X11_10 (pS.S.at' hVb ha) b0 rfl ?_
    refine Wp.get dX11_undo_21 fl_X11_84 (pS.S.at hVn) z6 rfl ?_
    refine Wp.if_eq (tgt := 47) (n := 27) dX11_undo_24 (by decide) rfl (fun c_24 => ?_) (fun c_24 => ?_)
    · have c_24 : σ.U = 0 := (nI_eq0 (by omega)).mp c_24
      refine Wp.bipush (v := (-3)) dX11_undo_47 (by decide) rfl ?_
      exact Wp.iret dX11_undo_49 rfl (by
        have hc : ¬ (σ.U ≠ 0 ∧ okU σ σ.n = true) := fun z => by first | exact z.1 c_24 | (rw [hok] at z; exact Bool.noConfusion z.2)
        rw [a_undo, t_undo, if_neg hc, if_neg hc]
        exact ⟨rfl, FX.rfl, A, C, ns, ws, cp, ln, lr, pS.up hj, ha⟩)
    · have c_24 : σ.U ≠ 0 := fun z => c_24 (by rw [z] <;> rfl)
      refine Wp.iload_n dX11_undo_27 rfl rfl ?_
      refine Wp.if_eq (tgt := 50) (n := 31) dX11_undo_28 (by decide) rfl (fun _ => ?_) (fun c_ => absurd c_ (by decide))
      refine Wp.aload_n dX11_undo_50 rfl (by first | exact Or.inr ⟨_, rfl⟩ | exact Or.inl rfl) rfl ?_
      refine Wp.get dX11_undo_51 fl_X11_10 (pS.S.at' hVb ha) b0 rfl ?_
      refine Wp.cV dX11_undo_54 cv_X11_93 rfl (by omega) rfl (Nat.le_of_ble_eq_true rfl) (Nat.le_of_ble_eq_true rfl) (pS.S.at hVn) rfl (c_X2_stepBack (d := d - 1) pS.S pS.net hW (by omega) c_24 (by omega)) ?_
      rintro _ h1 ⟨rfl, C1, ns1, S1, o1, f1, N1, n1_, n2_⟩
      dsimp only [Option.toList, List.drop, List.cons_append, List.nil_append]
      refine Wp.iconst (v := (nI 1)) dX11_undo_57 (by decide) rfl ?_
      exact Wp.iret dX11_undo_58 rfl (by
        have hc : σ.U ≠ 0 ∧ okU σ σ.n = true := ⟨c_24, by first | exact hok | exact okU_n hW c_8 σ.n (Nat.le_refl _)⟩
        rw [a_undo, t_undo, if_pos hc, if_pos hc]
        exact ⟨rfl, o1.fx, A, C1, ns1, ws, cp, ln, lr, pS.netop hj S1 o1 f1 N1 n1_ n2_, ha⟩)
  · have c_8 : σ.U = 1 := by
      rcases (show σ.U = 0 ∨ σ.U = 1 ∨ σ.U = 2 ∨ σ.U = 3 ∨ σ.U = 4 by omega) with e | e | e | e | e
      · rw [e] at c_8; exact absurd c_8 (by decide)
      · exact e
      all_goals (rw [e] at c_8; exact absurd c_8 (by decide))
    refine Wp.iconst (v := (nI 1)) dX11_undo_11 (by decide) rfl ?_
    refine Wp.goto (n := 16) dX11_undo_12 (by decide) ?_
    refine Wp.istore_n dX11_undo_16 (Nat.le_of_ble_eq_true rfl) (by dsimp only [ev_st1, ev_st2, ev_cl] <;> rfl) rfl ?_
    refine Wp.aload_n dX11_undo_17 rfl (by first | exact Or.inr ⟨_, rfl⟩ | exact Or.inl rfl) rfl ?_
    refine Wp.get dX11_undo_18 fl_X11_10 (pS.S.at' hVb ha) b0 rfl ?_
    refine Wp.get dX11_undo_21 fl_X11_84 (pS.S.at hVn) z6 rfl ?_
    refine Wp.if_eq (tgt := 47) (n := 27) dX11_undo_24 (by decide) rfl (fun c_24 => ?_) (fun c_24 => ?_)
    · have c_24 : σ.U = 0 := (nI_eq0 (by omega)).mp c_24
      refine Wp.bipush (v := (-3)) dX11_undo_47 (by decide) rfl ?_
      exact Wp.iret dX11_undo_49 rfl (by
        have hc : ¬ (σ.U ≠ 0 ∧ okU σ σ.n = true) := fun z => by first | exact z.1 c_24 | (rw [hok] at z; exact Bool.noConfusion z.2)
        rw [a_undo, t_undo, if_neg hc, if_neg hc]
        exact ⟨rfl, FX.rfl, A, C, ns, ws, cp, ln, lr, pS.up hj, ha⟩)
    · have c_24 : σ.U ≠ 0 := fun z => c_24 (by rw [z] <;> rfl)
      refine Wp.iload_n dX11_undo_27 rfl rfl ?_
      refine Wp.if_eq (tgt := 50) (n := 31) dX11_undo_28 (by decide) rfl (fun c_ => absurd c_ (by decide)) (fun _ => ?_)
      refine Wp.aload_n dX11_undo_31 rfl (by first | exact Or.inr ⟨_, rfl⟩ | exact Or.inl rfl) rfl ?_
      refine Wp.aload_n dX11_undo_32 rfl (by first | exact Or.inr ⟨_, rfl⟩ | exact Or.inl rfl) rfl ?_
      refine Wp.get dX11_undo_33 fl_X11_10 (pS.S.at' hVb ha) b0 rfl ?_
      refine Wp.get dX11_undo_36 fl_X11_87 (pS.S.at hVn) z4 rfl ?_
      refine Wp.iconst (v := (nI 1)) dX11_undo_39 (by decide) rfl ?_
      refine Wp.isub dX11_undo_40 rfl ?_
      rw [pk_sub (by omega)]
      refine Wp.cV dX11_undo_41 cv_X11_90 rfl (by omega) rfl (Nat.le_of_ble_eq_true rfl) (Nat.le_of_ble_eq_true rfl) (pS.S.at' hVb ha) rfl (c_X11_someOfferNeeds (d := d - 1) pS ha hW (by omega) (by omega)) ?_
      rintro _ h_ ⟨rfl, e_⟩
      rw [e_]
      clear e_ h_
      dsimp only [Option.toList, List.drop, List.cons_append, List.nil_append]
      refine Wp.bif_eq (tgt := 50) (n := 47) dX11_undo_44 (by decide) rfl (fun c_44 => ?_) (fun c_44 => ?_)
      · have hok : okU σ σ.n = true := by rw [okU_1 hW c_8 σ.n (Nat.le_refl _), c_44]; rfl
        refine Wp.aload_n dX11_undo_50 rfl (by first | exact Or.inr ⟨_, rfl⟩ | exact Or.inl rfl) rfl ?_
        refine Wp.get dX11_undo_51 fl_X11_10 (pS.S.at' hVb ha) b0 rfl ?_
        refine Wp.cV dX11_undo_54 cv_X11_93 rfl (by omega) rfl (Nat.le_of_ble_eq_true rfl) (Nat.le_of_ble_eq_true rfl) (pS.S.at hVn) rfl (c_X2_stepBack (d := d - 1) pS.S pS.net hW (by omega) c_24 (by omega)) ?_
        rintro _ h1 ⟨rfl, C1, ns1, S1, o1, f1, N1, n1_, n2_⟩
        dsimp only [Option.toList, List.drop, List.cons_append, List.nil_append]
        refine Wp.iconst (v := (nI 1)) dX11_undo_57 (by decide) rfl ?_
        exact Wp.iret dX11_undo_58 rfl (by
          have hc : σ.U ≠ 0 ∧ okU σ σ.n = true := ⟨c_24, by first | exact hok | exact okU_n hW c_8 σ.n (Nat.le_refl _)⟩
          rw [a_undo, t_undo, if_pos hc, if_pos hc]
          exact ⟨rfl, o1.fx, A, C1, ns1, ws, cp, ln, lr, pS.netop hj S1 o1 f1 N1 n1_ n2_, ha⟩)
      · have hok : okU σ σ.n = false := by rw [okU_1 hW c_8 σ.n (Nat.le_refl _), c_44]; rfl
        refine Wp.bipush (v := (-3)) dX11_undo_47 (by decide) rfl ?_
        exact Wp.iret dX11_undo_49 rfl (by
          have hc : ¬ (σ.U ≠ 0 ∧ okU σ σ.n = true) := fun z => by first | exact z.1 c_24 | (rw [hok] at z; exact Bool.noConfusion z.2)
          rw [a_undo, t_undo, if_neg hc, if_neg hc]
          exact ⟨rfl, FX.rfl, A, C, ns, ws, cp, ln, lr, pS.up hj, ha⟩)
