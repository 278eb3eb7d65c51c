/-! the class: tell -/
def tellS (σ : Sg) (i s : Nat) : Sg := σ.ofs σ.n (fun k => if k = i then Of.mk 0 (σ.O i).f (σ.O i).s ((σ.O i).m + 1) (updN (σ.O i).su (σ.O i).m s) else σ.O k)
theorem tellS_O {σ : Sg} {i s : Nat} : (tellS σ i s).O i = Of.mk 0 (σ.O i).f (σ.O i).s ((σ.O i).m + 1) (updN (σ.O i).su (σ.O i).m s) := by
  show (if i = i then _ else σ.O i) = _
  rw [if_pos rfl]
/-- behind take -/
def TakQ (X : Nat → Prop) (h : ev_H) (A : Nat → Nat) (C : Nat → Option ev_E) (σ : Sg) (ns ws i cap len s : Nat) (v : Option Value) (h' : ev_H) : Prop :=
  (v = some (.int (if tldB (σ.O i).su s (σ.O i).m = true then -3 else -4)) ∧ h' = h ∧ (tldB (σ.O i).su s (σ.O i).m = true ∨ (σ.O i).m = 8)) ∨
  (v = some (.int (nI ((σ.O i).m + 1))) ∧ tldB (σ.O i).su s (σ.O i).m = false ∧ (σ.O i).m ≠ 8 ∧ ∃ C', CS X h' A C' ∧ CG X h h' 0 ∧ (∀ t, t ≠ tO i → t ≠ tO i + 7 → C' t = C t) ∧ OfS A C' (tellS σ i s) ns ws i cap len)
theorem PS.tell {X : Nat → Prop} {w0 : Nat} {h h' : ev_H} {A : Nat → Nat} {C C' : Nat → Option ev_E} {σ : Sg} {ns ws : Nat} {cp ln : Nat → Nat} {lr j i s : Nat} (p : PS X w0 h A C σ ns ws cp ln lr j) (hj : j + 1 ≤ 600) (hi : i < σ.n) (S' : CS X h' A C') (g : CG X h h' 0) (f : ∀ t, t ≠ tO i → t ≠ tO i + 7 → C' t = C t) (ho : OfS A C' (tellS σ i s) ns ws i (cp i) (ln i)) : PS X w0 h' A C' (tellS σ i s) ns ws cp ln lr (j + 1) := by
  have ht : ∀ i, tO i = 30 + 10 * i := fun _ => rfl
  have hT := ht i
  refine ⟨S', p.ben.same (f 0 (by omega) (by omega)) (fun _ _ => rfl), p.net.same (fun t _ _ => f t (by omega) (by omega)) (fun _ _ _ => rfl), p.win.same (f 7 (by omega) (by omega)), ⟨p.row.1.same (f 8 (by omega) (by omega)) (f 9 (by omega) (by omega)) rfl, p.row.2⟩, p.act.same (f 10 (by omega) (by omega)) (f 11 (by omega) (by omega)) rfl, p.ofa.same (f 6 (by omega) (by omega)) (fun _ _ => rfl), p.sha.same (f 12 (by omega) (by omega)) (fun _ _ => rfl), fun s hs => (p.sh s hs).same (f _ (by omega) (by omega)) (f _ (by omega) (by omega)) rfl rfl rfl (fun _ => rfl), p.fo.same (f 13 (by omega) (by omega)), fun k hk => ?_, fun t ht2 => ?_, ⟨by have := p.cnt; omega, by have := p.cnt; omega, hj⟩, ?_⟩
  · by_cases e : k = i
    · subst e; exact ho
    · have hk' : k < σ.n := hk
      have eO : (tellS σ i s).O k = σ.O k := by show (if k = i then _ else σ.O k) = _; rw [if_neg e]
      have hk2 := ht k
      exact ((p.of k hk').same (fun t q1 q2 => f t (by omega) (by omega)) (fun _ _ _ => rfl)).as eO rfl (fun nb rb b => b.as eO rfl rfl rfl rfl rfl)
  · have h2 : tO σ.n ≤ t := ht2
    have h3 := ht σ.n
    rw [f t (by omega) (by omega)]; exact p.dead t h2
  · have q1 := p.wt
    have q2 := g.2.2
    show h'.2.2 ≤ w0 + pot cp ln σ.n lr
    omega
set_option maxHeartbeats 1000000 in
theorem c_X7_take {B : ev_B} {d i ns ws cap len s : Nat} {X : Nat → Prop} {h : ev_H} {A : Nat → Nat} {C : Nat → Option ev_E} {σ : Sg} (hS : CS X h A C) (hO : OfS A C σ ns ws i cap len) (how : OfW σ.N.T (σ.O i)) (hk0 : (σ.O i).k = 0) (hs : s < 4096) (hd : 2 ≤ d) :
    Wp B d M_X7_take 0 [some (.ref (A (tO i))), some (.int (nI s)), none] [] h (TakQ X h A C σ ns ws i cap len s) := by
  have htO : tO i = 30 + 10 * i := rfl
  have hm8 := how.m
  obtain ⟨V, cs, bs, Nl, l, nb, rb, hV, hOV, hrest⟩ := id hO
  obtain ⟨v0, v1, v2, v3, v5, v6, v7⟩ := id hOV
  obtain ⟨h6, h7, gs, hts, hgs⟩ := v5 hk0
  rw [hk0] at hV
  change C (tO i) = some (ev_ob 6 V) at hV
  have loop : ∀ k, k ≤ (σ.O i).m → (∀ m, m < k → (σ.O i).su m ≠ s) → Wp B d M_X7_take 2 [some (.ref (A (tO i))), some (.int (nI s)), some (.int (nI k))] [] h (TakQ X h A C σ ns ws i cap len s) := by
    refine ev_upl (σ.O i).m (fun k hi ih => ?_) ?_
    · intro hm
      have hk : k < (σ.O i).m := by omega
      have hsu := how.su k hk
      refine Wp.iload_n dX7_take_2 rfl rfl ?_
      refine Wp.aload_n dX7_take_3 rfl (by first | exact Or.inr ⟨_, rfl⟩ | exact Or.inl rfl) rfl ?_
      refine Wp.get dX7_take_4 fl_X7_15 (hS.at hV) h7 rfl ?_
      refine Wp.icmp_ge (tgt := 29) (n := 10) dX7_take_7 (by decide) rfl (fun c_7 => ?_) (fun c_7 => ?_)
      · try simp (disch := omega) only [nI_bit0, nI_bit1, Bool.not_eq_false, Bool.not_eq_true] at c_7
        try simp (disch := omega) only [i_lt, i_le, i_eq, l_lt, l_le, l_eq, i_0, i_m1, l_0, nI_tI, iI_tI, lI_tI, Int.not_lt, Int.not_le] at c_7
        omega
      · try simp (disch := omega) only [nI_bit0, nI_bit1, Bool.not_eq_false, Bool.not_eq_true] at c_7
        try simp (disch := omega) only [i_lt, i_le, i_eq, l_lt, l_le, l_eq, i_0, i_m1, l_0, nI_tI, iI_tI, lI_tI, Int.not_lt, Int.not_le] at c_7
        refine Wp.aload_n dX7_take_10 rfl (by first | exact Or.inr ⟨_, rfl⟩ | exact Or.inl rfl) rfl ?_
        refine Wp.get dX7_take_11 fl_X7_9 (hS.at hV) h6 rfl ?_
        refine Wp.iload_n dX7_take_14 rfl rfl ?_
        refine Wp.iaload dX7_take_15 (hS.at hts) (nI_toInt (by omega)) (by omega) rfl ?_
        rw [hgs k hk]
        refine Wp.iload_n dX7_take_16 rfl rfl ?_
        refine Wp.icmp_ne (tgt := 23) (n := 20) dX7_take_17 (by decide) rfl (fun c_17 => ?_) (fun c_17 => ?_)
        · have c_17 : (σ.O i).su k ≠ s := fun z => c_17 (by rw [z])
          refine Wp.iinc (v := _ + (nI 1)) dX7_take_23 rfl rfl (Nat.le_of_ble_eq_true rfl) (by dsimp only [ev_st1, ev_cl] <;> rfl) rfl ?_
          refine Wp.goto (n := 2) dX7_take_26 (by decide) ?_
          rw [nI_add1]
          exact ih (fun m hm_ => by
            by_cases z : m = k
            · subst z; exact c_17
            · exact hm m (by omega))
        · have c_17 : (σ.O i).su k = s := (nI_eq (by omega) (by omega)).mp (by first | exact c_17 | exact Classical.not_not.mp c_17)
          refine Wp.bipush (v := (-3)) dX7_take_20 (by decide) rfl ?_
          exact Wp.iret dX7_take_22 rfl (by have e1 := tldB_t (su := (σ.O i).su) (s := s) hk c_17; exact Or.inl ⟨by rw [if_pos e1], rfl, Or.inl e1⟩)
    · intro hm
      refine Wp.iload_n dX7_take_2 rfl rfl ?_
      refine Wp.aload_n dX7_take_3 rfl (by first | exact Or.inr ⟨_, rfl⟩ | exact Or.inl rfl) rfl ?_
      refine Wp.get dX7_take_4 fl_X7_15 (hS.at hV) h7 rfl ?_
      refine Wp.icmp_ge (tgt := 29) (n := 10) dX7_take_7 (by decide) rfl (fun c_7 => ?_) (fun c_7 => ?_)
      · try simp (disch := omega) only [nI_bit0, nI_bit1, Bool.not_eq_false, Bool.not_eq_true] at c_7
        try simp (disch := omega) only [i_lt, i_le, i_eq, l_lt, l_le, l_eq, i_0, i_m1, l_0, nI_tI, iI_tI, lI_tI, Int.not_lt, Int.not_le] at c_7
        have hff : tldB (σ.O i).su s (σ.O i).m = false := (tldB_f _).mpr (fun m hm_ => hm m (by omega))
        refine Wp.aload_n dX7_take_29 rfl (by first | exact Or.inr ⟨_, rfl⟩ | exact Or.inl rfl) rfl ?_
        refine Wp.get dX7_take_30 fl_X7_15 (hS.at hV) h7 rfl ?_
        refine Wp.bipush (v := (nI 8)) dX7_take_33 (by decide) rfl ?_
        refine Wp.icmp_lt (tgt := 41) (n := 38) dX7_take_35 (by decide) rfl (fun c_35 => ?_) (fun c_35 => ?_)
        · try simp (disch := omega) only [nI_bit0, nI_bit1, Bool.not_eq_false, Bool.not_eq_true] at c_35
          try simp (disch := omega) only [i_lt, i_le, i_eq, l_lt, l_le, l_eq, i_0, i_m1, l_0, nI_tI, iI_tI, lI_tI, Int.not_lt, Int.not_le] at c_35
          refine Wp.aload_n dX7_take_41 rfl (by first | exact Or.inr ⟨_, rfl⟩ | exact Or.inl rfl) rfl ?_
          refine Wp.get dX7_take_42 fl_X7_9 (hS.at hV) h6 rfl ?_
          refine Wp.aload_n dX7_take_45 rfl (by first | exact Or.inr ⟨_, rfl⟩ | exact Or.inl rfl) rfl ?_
          refine Wp.get dX7_take_46 fl_X7_15 (hS.at hV) h7 rfl ?_
          refine Wp.iload_n dX7_take_49 rfl rfl ?_
          refine Wp.iastore dX7_take_50 (hS.at hts) (nI_toInt (by omega)) (by omega) rfl ?_
          refine hS.sti hts ?_
          intro h50 C50 g50 S50 o50 e50 u50 f50
          refine Wp.aload_n dX7_take_51 rfl (by first | exact Or.inr ⟨_, rfl⟩ | exact Or.inl rfl) rfl ?_
          refine Wp.dup dX7_take_52 rfl rfl ?_
          refine Wp.get dX7_take_53 fl_X7_15 (S50.at ((f50 (tO i) (by omega)).trans hV)) h7 rfl ?_
          refine Wp.iconst (v := (nI 1)) dX7_take_56 (by decide) rfl ?_
          refine Wp.iadd dX7_take_57 rfl ?_
          rw [nI_add1]
          refine Wp.put dX7_take_58 fp_X7_15 (S50.at ((f50 (tO i) (by omega)).trans hV)) rfl rfl rfl ?_
          refine S50.put ((f50 (tO i) (by omega)).trans hV) ?_
          intro h58 C58 V58 S58 o58 e58 w58 x58 f58
          have o58 := o50.tr o58
          refine Wp.aload_n dX7_take_61 rfl (by first | exact Or.inr ⟨_, rfl⟩ | exact Or.inl rfl) rfl ?_
          refine Wp.cU dX7_take_62 cu_X7_19_6 rfl (by omega) rfl (Nat.le_of_ble_eq_true rfl) (Nat.le_of_ble_eq_true rfl) (S58.at e58) rfl (c_X3_outdate (d := d - 1) (ci := 6) S58 (Or.inr (Or.inl rfl)) e58) ?_
          rintro _ h9 ⟨rfl, C9, V9, S9, o9, f9, e9, w9, x9⟩
          dsimp only [Option.toList, List.drop, List.cons_append, List.nil_append]
          refine Wp.aload_n dX7_take_65 rfl (by first | exact Or.inr ⟨_, rfl⟩ | exact Or.inl rfl) rfl ?_
          refine Wp.get dX7_take_66 fl_X7_15 (S9.at e9) ((x9 7 (by decide)).trans w58) rfl ?_
          exact Wp.iret dX7_take_69 rfl (by
            refine Or.inr ⟨rfl, hff, by omega, C9, S9, (o58.tr o9).le (by omega), fun t h1 h2 => (f9 t h1).trans ((f58 t h1).trans (f50 t h2)), ?_⟩
            have ff : ∀ t, t ≠ tO i → C9 t = C50 t := fun t h1 => (f9 t h1).trans (f58 t h1)
            have xx : ∀ k, k ≠ 4 → k ≠ 7 → V9 k = V k := fun k h1 h2 => (x9 k h1).trans (x58 k h2)
            refine hO.out (V := V) (by rw [hk0]; exact hV) (fun t q1 q2 => (ff t (by omega)).trans (f50 t (by omega))) (V' := V9) (by rw [tellS_O]; exact e9) ?_ w9 (xx 5 (by decide) (by decide))
            rw [tellS_O]
            refine ⟨(xx 0 (by decide) (by decide)).trans v0, ?_, (xx 2 (by decide) (by decide)).trans v2, (xx 3 (by decide) (by decide)).trans v3, fun _ => ⟨(xx 6 (by decide) (by decide)).trans h6, (x9 7 (by decide)).trans w58, _, (ff _ (by omega)).trans e50, fun m hm_ => ?_⟩, fun z => absurd (show (0 : Nat) = 2 from z) (by decide), fun z => absurd (show (0 : Nat) = 3 from z) (by decide)⟩
            · rw [xx 1 (by decide) (by decide), v1, hk0]; rfl
            · have hm2 : m < (σ.O i).m + 1 := hm_
              rw [u50]
              show upd gs (σ.O i).m (nI s) m = nI (updN (σ.O i).su (σ.O i).m s m)
              simp only [upd, updN]
              by_cases z : m = (σ.O i).m
              · rw [if_pos z, if_pos z]
              · rw [if_neg z, if_neg z]; exact hgs m (by omega))
        · try simp (disch := omega) only [nI_bit0, nI_bit1, Bool.not_eq_false, Bool.not_eq_true] at c_35
          try simp (disch := omega) only [i_lt, i_le, i_eq, l_lt, l_le, l_eq, i_0, i_m1, l_0, nI_tI, iI_tI, lI_tI, Int.not_lt, Int.not_le] at c_35
          refine Wp.bipush (v := (-4)) dX7_take_38 (by decide) rfl ?_
          exact Wp.iret dX7_take_40 rfl (by exact Or.inl ⟨by rw [hff] <;> rfl, rfl, Or.inr (by omega)⟩)
      · try simp (disch := omega) only [nI_bit0, nI_bit1, Bool.not_eq_false, Bool.not_eq_true] at c_7
        try simp (disch := omega) only [i_lt, i_le, i_eq, l_lt, l_le, l_eq, i_0, i_m1, l_0, nI_tI, iI_tI, lI_tI, Int.not_lt, Int.not_le] at c_7
        omega
  refine Wp.iconst (v := (nI 0)) dX7_take_0 (by decide) rfl ?_
  refine Wp.istore_n dX7_take_1 (Nat.le_of_ble_eq_true rfl) (by dsimp only [ev_st1, ev_st2, ev_cl] <;> rfl) rfl ?_
  exact loop 0 (Nat.zero_le _) (fun m hm => absurd hm (Nat.not_lt_zero m))
set_option maxHeartbeats 1000000 in
theorem c_X11_tell {B : ev_B} {d a0 w0 j : Nat} {X : Nat → Prop} {h : ev_H} {σ : Sg} {o s : Int32} (hp : PSx X w0 h a0 σ j) (hW : Wf σ) (hj : j + 1 ≤ 600) (hd : 36 ≤ d) :
    Wp B d M_X11_tell 0 [some (.ref a0), some (.int (o)), some (.int (s)), none, none, none] [] h (CQ X w0 h a0 (t_tell σ o s) j (.int (a_tell σ o s))) := by
  obtain ⟨A, C, ns, ws, cp, ln, lr, pS, ha⟩ := hp
  obtain ⟨Vb, hVb, b0, b1, b2, b3, b4, b5, b6, b7⟩ := id pS.ben
  obtain ⟨Vw, hVw, -⟩ := id pS.win
  obtain ⟨Vq, gq, hVq, rq0, rq1, hgq, rq2, rq3⟩ := id pS.row.1
  obtain ⟨zf, hzf⟩ := id pS.fo
  have hcn := pS.cnt
  have hn10 := hW.n
  refine Wp.iload_n dX11_tell_0 rfl rfl ?_
  refine Wp.if_lt (tgt := 15) (n := 4) dX11_tell_1 (by decide) rfl (fun c_1 => ?_) (fun c_1 => ?_)
  · try simp (disch := omega) only [nI_bit0, nI_bit1, Bool.not_eq_false, Bool.not_eq_true] at c_1
    try simp (disch := omega) only [i_lt, i_le, i_eq, l_lt, l_le, l_eq, i_0, i_m1, l_0, nI_tI, iI_tI, lI_tI, Int.not_lt, Int.not_le] at c_1
    refine Wp.iconst (v := (nI 0)) dX11_tell_15 (by decide) rfl ?_
    refine Wp.istore_n dX11_tell_16 (Nat.le_of_ble_eq_true rfl) (by dsimp only [ev_st1, ev_st2, ev_cl] <;> rfl) rfl ?_
    refine Wp.iload_n dX11_tell_17 rfl rfl ?_
    refine Wp.if_eq (tgt := 52) (n := 21) dX11_tell_18 (by decide) rfl (fun _ => ?_) (fun c_ => absurd c_ (by decide))
    refine Wp.bipush (v := (-2)) dX11_tell_52 (by decide) rfl ?_
    exact Wp.iret dX11_tell_54 rfl (by
      have hc : ¬ okTl σ o s := by intro z; have z3 := z.2.2; omega
      rw [a_tell, t_tell, if_neg hc, if_neg (fun z => hc z.1)]
      exact ⟨rfl, FX.rfl, A, C, ns, ws, cp, ln, lr, pS.up hj, ha⟩)
  · try simp (disch := omega) only [nI_bit0, nI_bit1, Bool.not_eq_false, Bool.not_eq_true] at c_1
    try simp (disch := omega) only [i_lt, i_le, i_eq, l_lt, l_le, l_eq, i_0, i_m1, l_0, nI_tI, iI_tI, lI_tI, Int.not_lt, Int.not_le] at c_1
    refine Wp.iload_n dX11_tell_4 rfl rfl ?_
    refine Wp.sipush (v := (nI 4096)) dX11_tell_5 (by decide) rfl ?_
    refine Wp.icmp_ge (tgt := 15) (n := 11) dX11_tell_8 (by decide) rfl (fun c_8 => ?_) (fun c_8 => ?_)
    · try simp (disch := omega) only [nI_bit0, nI_bit1, Bool.not_eq_false, Bool.not_eq_true] at c_8
      try simp (disch := omega) only [i_lt, i_le, i_eq, l_lt, l_le, l_eq, i_0, i_m1, l_0, nI_tI, iI_tI, lI_tI, Int.not_lt, Int.not_le] at c_8
      refine Wp.iconst (v := (nI 0)) dX11_tell_15 (by decide) rfl ?_
      refine Wp.istore_n dX11_tell_16 (Nat.le_of_ble_eq_true rfl) (by dsimp only [ev_st1, ev_st2, ev_cl] <;> rfl) rfl ?_
      refine Wp.iload_n dX11_tell_17 rfl rfl ?_
      refine Wp.if_eq (tgt := 52) (n := 21) dX11_tell_18 (by decide) rfl (fun _ => ?_) (fun c_ => absurd c_ (by decide))
      refine Wp.bipush (v := (-2)) dX11_tell_52 (by decide) rfl ?_
      exact Wp.iret dX11_tell_54 rfl (by
        have hc : ¬ okTl σ o s := by intro z; have z3 := z.2.2; omega
        rw [a_tell, t_tell, if_neg hc, if_neg (fun z => hc z.1)]
        exact ⟨rfl, FX.rfl, A, C, ns, ws, cp, ln, lr, pS.up hj, ha⟩)
    · try simp (disch := omega) only [nI_bit0, nI_bit1, Bool.not_eq_false, Bool.not_eq_true] at c_8
      try simp (disch := omega) only [i_lt, i_le, i_eq, l_lt, l_le, l_eq, i_0, i_m1, l_0, nI_tI, iI_tI, lI_tI, Int.not_lt, Int.not_le] at c_8
      refine Wp.iconst (v := (nI 1)) dX11_tell_11 (by decide) rfl ?_
      refine Wp.goto (n := 16) dX11_tell_12 (by decide) ?_
      refine Wp.istore_n dX11_tell_16 (Nat.le_of_ble_eq_true rfl) (by dsimp only [ev_st1, ev_st2, ev_cl] <;> rfl) rfl ?_
      refine Wp.iload_n dX11_tell_17 rfl rfl ?_
      refine Wp.if_eq (tgt := 52) (n := 21) dX11_tell_18 (by decide) rfl (fun c_ => absurd c_ (by decide)) (fun _ => ?_)
      by_cases hio : 0 ≤ o.toInt ∧ o.toInt < σ.n
      · obtain ⟨i, rfl, ho, ho2⟩ := as_nI hio
        have ti := nI_tI ho2
        have hOw := hW.of i ho
        refine Wp.aload_n dX11_tell_21 rfl (by first | exact Or.inr ⟨_, rfl⟩ | exact Or.inl rfl) rfl ?_
        refine Wp.iload_n dX11_tell_22 rfl rfl ?_
        refine Wp.cV dX11_tell_23 cv_X11_112 rfl (by omega) rfl (Nat.le_of_ble_eq_true rfl) (Nat.le_of_ble_eq_true rfl) (pS.S.at' hVb ha) rfl (c_X11_offerAt_y (d := d - 1) pS ha hW ho (by omega)) ?_
        rintro _ h1 ⟨A1, C1, cp1, ln1, rfl, x1, ha1, p1, on1⟩
        dsimp only [Option.toList, List.drop, List.cons_append, List.nil_append]
        obtain ⟨Vd, hVd, d0_, d1_, d2_, d3_, d4_, d5_, d6_, d7_⟩ := id p1.ben
        obtain ⟨Vw1, hVw1, -⟩ := id p1.win
        obtain ⟨Vq1, gq1, hVq1, rqa0, rqa1, hgq1, rqa2, rqa3⟩ := id p1.row.1
        obtain ⟨zf1, hzf1⟩ := id p1.fo
        obtain ⟨Vo, bso, nbo, rbo, hVo, hOV, vo4, vo5, hch, hcap, hrow, hnb, hlen, hbs, hbok⟩ := id on1
        obtain ⟨ov0, ov1, ov2, ov3, ov5, ov6, ov7⟩ := id hOV
        obtain ⟨Vc, gc0, gc1, gc2, hVc, vc0, vc1, vc2, vc3, kc0, kc1, kc2, hlc, h8c, hgc⟩ := id hch
        have hO := ciO_is (σ.O i).k
        have hchn := chn_le σ i
        have hPrB := PrB_ch hW i
        change Vc 3 = .int (nI (chn σ i)) at vc3
        have hlc' : chn σ i ≤ cp1 i := hlc
        have hH := on1.H p1.S
        refine Wp.astore dX11_tell_26 (by first | exact Or.inr ⟨_, rfl⟩ | exact Or.inl rfl) (Nat.le_of_ble_eq_true rfl) (by dsimp only [ev_st1, ev_cl] <;> rfl) rfl ?_
        refine Wp.aload dX11_tell_28 rfl (by first | exact Or.inr ⟨_, rfl⟩ | exact Or.inl rfl) rfl ?_
        have hk4 := hOw.k
        have hkk : (σ.O i).k = 0 ∨ (σ.O i).k = 1 ∨ (σ.O i).k = 2 ∨ (σ.O i).k = 3 := by omega
        rcases hkk with hk | hk | hk | hk
        · have hVk : C1 (tO i) = some (ev_ob 6 Vo) := by rw [hk] at hVo; exact hVo
          refine Wp.instY dX11_tell_30 cl_X11_103 (p1.S.at hVk) rfl ?_
          refine Wp.if_eq (tgt := 52) (n := 36) dX11_tell_33 (by decide) rfl (fun c_ => absurd c_ (by decide)) (fun _ => ?_)
          refine Wp.aload dX11_tell_36 rfl (by first | exact Or.inr ⟨_, rfl⟩ | exact Or.inl rfl) rfl ?_
          refine Wp.castY dX11_tell_38 cl_X11_103 (p1.S.at hVk) rfl ?_
          obtain ⟨q, rfl, hq, hq2⟩ := as_nI (o := s) (n := 4096) (by omega)
          have tq := nI_tI hq2
          refine Wp.astore dX11_tell_41 (by first | exact Or.inr ⟨_, rfl⟩ | exact Or.inl rfl) (Nat.le_of_ble_eq_true rfl) (by dsimp only [ev_st1, ev_cl] <;> rfl) rfl ?_
          refine Wp.aload dX11_tell_43 rfl (by first | exact Or.inr ⟨_, rfl⟩ | exact Or.inl rfl) rfl ?_
          refine Wp.iload_n dX11_tell_45 rfl rfl ?_
          refine Wp.cV dX11_tell_46 cv_X11_116 rfl (by omega) rfl (Nat.le_of_ble_eq_true rfl) (Nat.le_of_ble_eq_true rfl) (p1.S.at hVk) rfl (c_X7_take (d := d - 1) (s := q) p1.S on1.S hOw hk hq (by omega)) ?_
          rintro _ h9 (⟨rfl, rfl, hor⟩ | ⟨rfl, hf, hm8, C9, S9, o9, f9, ho9⟩)
          · refine Wp.goto (n := 54) dX11_tell_49 (by decide) ?_
            refine Wp.iret dX11_tell_54 rfl ?_
            have hok : okTl σ (nI i) (nI q) := ⟨hio, by rw [tn_nI ho2]; exact hk, by omega, by omega⟩
            have es : t_tell σ (nI i) (nI q) = σ := by
              rw [t_tell, if_neg]
              rintro ⟨z1, z2, z3⟩
              rw [tn_nI ho2, tn_nI hq2] at z2
              rw [tn_nI ho2] at z3
              rcases hor with w | w
              · rw [w] at z2; exact Bool.noConfusion z2
              · exact z3 w
            have ea : a_tell σ (nI i) (nI q) = if tldB (σ.O i).su q (σ.O i).m = true then -3 else -4 := by
              rw [a_tell, if_pos hok, tn_nI ho2, tn_nI hq2]
              rcases hor with w | w
              · rw [if_pos w, if_pos w]
              · by_cases w2 : tldB (σ.O i).su q (σ.O i).m = true
                · rw [if_pos w2, if_pos w2]
                · rw [if_neg w2, if_neg w2, if_pos w]
            rw [ea, es]
            exact ⟨rfl, x1, A1, C1, ns, ws, cp1, ln1, lr, p1.up hj, ha1⟩
          · refine Wp.goto (n := 54) dX11_tell_49 (by decide) ?_
            refine Wp.iret dX11_tell_54 rfl ?_
            have hok : okTl σ (nI i) (nI q) := ⟨hio, by rw [tn_nI ho2]; exact hk, by omega, by omega⟩
            have es : t_tell σ (nI i) (nI q) = tellS σ i q := by
              rw [t_tell, if_pos ⟨hok, by rw [tn_nI ho2, tn_nI hq2]; exact hf, by rw [tn_nI ho2]; exact hm8⟩, tn_nI ho2, tn_nI hq2]; rfl
            have ea : a_tell σ (nI i) (nI q) = nI ((σ.O i).m + 1) := by
              rw [a_tell, if_pos hok, tn_nI ho2, tn_nI hq2, if_neg (by rw [hf]; exact Bool.false_ne_true), if_neg hm8]
            rw [ea, es]
            exact ⟨rfl, x1.tr o9.fx, A1, C9, ns, ws, cp1, ln1, lr, p1.tell hj ho S9 o9 f9 ho9, ha1⟩
        · have hVk : C1 (tO i) = some (ev_ob 7 Vo) := by rw [hk] at hVo; exact hVo
          refine Wp.instN dX11_tell_30 cl_X11_103 (ci := 7) (Or.inr (Or.inl rfl)) (p1.S.at hVk) rfl ?_
          refine Wp.if_eq (tgt := 52) (n := 36) dX11_tell_33 (by decide) rfl (fun _ => ?_) (fun c_ => absurd rfl c_)
          refine Wp.bipush (v := (-2)) dX11_tell_52 (by decide) rfl ?_
          exact Wp.iret dX11_tell_54 rfl (by
            have hc : ¬ okTl σ (nI i) s := by rintro ⟨z1, z2, z3⟩; rw [tn_nI ho2] at z2; omega
            rw [a_tell, t_tell, if_neg hc, if_neg (fun z => hc z.1)]
            exact ⟨rfl, x1, A1, C1, ns, ws, cp1, ln1, lr, p1.up hj, ha1⟩)
        · have hVk : C1 (tO i) = some (ev_ob 8 Vo) := by rw [hk] at hVo; exact hVo
          refine Wp.instN dX11_tell_30 cl_X11_103 (ci := 8) (Or.inr (Or.inr rfl)) (p1.S.at hVk) rfl ?_
          refine Wp.if_eq (tgt := 52) (n := 36) dX11_tell_33 (by decide) rfl (fun _ => ?_) (fun c_ => absurd rfl c_)
          refine Wp.bipush (v := (-2)) dX11_tell_52 (by decide) rfl ?_
          exact Wp.iret dX11_tell_54 rfl (by
            have hc : ¬ okTl σ (nI i) s := by rintro ⟨z1, z2, z3⟩; rw [tn_nI ho2] at z2; omega
            rw [a_tell, t_tell, if_neg hc, if_neg (fun z => hc z.1)]
            exact ⟨rfl, x1, A1, C1, ns, ws, cp1, ln1, lr, p1.up hj, ha1⟩)
        · have hVk : C1 (tO i) = some (ev_ob 3 Vo) := by rw [hk] at hVo; exact hVo
          refine Wp.instN dX11_tell_30 cl_X11_103 (ci := 3) (Or.inl rfl) (p1.S.at hVk) rfl ?_
          refine Wp.if_eq (tgt := 52) (n := 36) dX11_tell_33 (by decide) rfl (fun _ => ?_) (fun c_ => absurd rfl c_)
          refine Wp.bipush (v := (-2)) dX11_tell_52 (by decide) rfl ?_
          exact Wp.iret dX11_tell_54 rfl (by
            have hc : ¬ okTl σ (nI i) s := by rintro ⟨z1, z2, z3⟩; rw [tn_nI ho2] at z2; omega
            rw [a_tell, t_tell, if_neg hc, if_neg (fun z => hc z.1)]
            exact ⟨rfl, x1, A1, C1, ns, ws, cp1, ln1, lr, p1.up hj, ha1⟩)
      · refine Wp.aload_n dX11_tell_21 rfl (by first | exact Or.inr ⟨_, rfl⟩ | exact Or.inl rfl) rfl ?_
        refine Wp.iload_n dX11_tell_22 rfl rfl ?_
        refine Wp.cV dX11_tell_23 cv_X11_112 rfl (by omega) rfl (Nat.le_of_ble_eq_true rfl) (Nat.le_of_ble_eq_true rfl) (pS.S.at' hVb ha) rfl (c_X11_offerAt_n (d := d - 1) pS ha hW hio) ?_
        rintro _ h1 ⟨rfl, e1_⟩
        rw [e1_]
        clear e1_ h1
        dsimp only [Option.toList, List.drop, List.cons_append, List.nil_append]
        refine Wp.astore dX11_tell_26 (by first | exact Or.inr ⟨_, rfl⟩ | exact Or.inl rfl) (Nat.le_of_ble_eq_true rfl) (by dsimp only [ev_st1, ev_cl] <;> rfl) rfl ?_
        refine Wp.aload dX11_tell_28 rfl (by first | exact Or.inr ⟨_, rfl⟩ | exact Or.inl rfl) rfl ?_
        refine Wp.instZ dX11_tell_30 rfl ?_
        refine Wp.if_eq (tgt := 52) (n := 36) dX11_tell_33 (by decide) rfl (fun _ => ?_) (fun c_ => absurd rfl c_)
        refine Wp.bipush (v := (-2)) dX11_tell_52 (by decide) rfl ?_
        exact Wp.iret dX11_tell_54 rfl (by
          have hc : ¬ okTl σ o s := by exact fun z => hio z.1
          rw [a_tell, t_tell, if_neg hc, if_neg (fun z => hc z.1)]
          exact ⟨rfl, FX.rfl, A, C, ns, ws, cp, ln, lr, pS.up hj, ha⟩)
