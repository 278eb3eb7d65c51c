/-! the class: acts, sheets -/
def ActS (A : Nat → Nat) (C : Nat → Option ev_E) (σ : Sg) : Prop := ∃ (V : Nat → Value) (g : Nat → Int32), C 10 = some (ev_ob 0 V) ∧ V 0 = .ref (A 11) ∧ V 1 = .int (nI σ.nT) ∧ C 11 = some (ev_ia 40 g) ∧ ∀ i, i < σ.nT → i < 40 → g i = nI (σ.tr i)
theorem ActS.same {A A' : Nat → Nat} {C C' : Nat → Option ev_E} {σ : Sg} (h : ActS A C σ) (h0 : C' 10 = C 10) (h1 : C' 11 = C 11) (h2 : A' 11 = A 11) : ActS A' C' σ := by
  obtain ⟨V, g, hV, v0, v1, k0, hg⟩ := h
  exact ⟨V, g, h0.trans hV, by rw [h2]; exact v0, v1, h1.trans k0, hg⟩
/-- what an act reads of an offer: its number, kind, how many choices -/
def OffR (A : Nat → Nat) (C : Nat → Option ev_E) (t o k : Nat) (m : Int32) : Prop := 11 < t ∧ ∃ (ci tc : Nat) (V Vc : Nat → Value), ev_isO ci ∧ 11 < tc ∧ C t = some (ev_ob ci V) ∧ V 0 = .int (nI o) ∧ V 1 = .int (nI k) ∧ V 2 = .ref (A tc) ∧ C tc = some (ev_ob 1 Vc) ∧ Vc 3 = .int m
theorem OffR.same {A : Nat → Nat} {C C' : Nat → Option ev_E} {t o k : Nat} {m : Int32} (h : OffR A C t o k m) (f : ∀ s, s ≠ 10 → s ≠ 11 → C' s = C s) : OffR A C' t o k m := by
  obtain ⟨h1, ci, tc, V, Vc, hO, h2, hV, v0, v1, v2, hc, c3⟩ := h
  exact ⟨h1, ci, tc, V, Vc, hO, h2, (f t (by omega) (by omega)).trans hV, v0, v1, v2, (f tc (by omega) (by omega)).trans hc, c3⟩
def PQ (X : Nat → Prop) (h : ev_H) (A : Nat → Nat) (C : Nat → Option ev_E) (σ : Sg) (l : List Nat) (a : Option Value) (v : Option Value) (h' : ev_H) : Prop := v = a ∧ ∃ C', CS X h' A C' ∧ CG X h h' 0 ∧ (∀ t, t ≠ 10 → t ≠ 11 → C' t = C t) ∧ ActS A C' (σ.runs l)
theorem c_X0_note {B : ev_B} {d : Nat} {X : Nat → Prop} {h : ev_H} {A : Nat → Nat} {C : Nat → Option ev_E} {σ : Sg} {b : Nat} (hS : CS X h A C) (hA : ActS A C σ) (hn9 : σ.nT ≤ 950) :
    Wp B d M_X0_note 0 [some (.ref (A 10)), some (.int (nI b))] [] h (PQ X h A C σ [b] none) := by
  obtain ⟨V, g, hV, v0, v1, k0, hg⟩ := id hA
  refine Wp.aload_n dX0_note_0 rfl (by first | exact Or.inr ⟨_, rfl⟩ | exact Or.inl rfl) rfl ?_
  refine Wp.get dX0_note_1 fl_X0_22 (hS.at hV) v1 rfl ?_
  refine Wp.if_lt (tgt := 29) (n := 7) dX0_note_4 (by decide) rfl (fun c_4 => ?_) (fun c_4 => ?_)
  · try simp (disch := omega) only [nI_bit0, nI_bit1, Bool.not_eq_false, Bool.not_eq_true] at c_4
    try simp (disch := omega) only [i_lt, i_le, i_eq, l_lt, l_le, l_eq, i_0, i_m1, l_0, nI_tI, iI_tI, lI_tI, Int.not_lt, Int.not_le] at c_4
    omega
  · try simp (disch := omega) only [nI_bit0, nI_bit1, Bool.not_eq_false, Bool.not_eq_true] at c_4
    try simp (disch := omega) only [i_lt, i_le, i_eq, l_lt, l_le, l_eq, i_0, i_m1, l_0, nI_tI, iI_tI, lI_tI, Int.not_lt, Int.not_le] at c_4
    refine Wp.aload_n dX0_note_7 rfl (by first | exact Or.inr ⟨_, rfl⟩ | exact Or.inl rfl) rfl ?_
    refine Wp.get dX0_note_8 fl_X0_22 (hS.at hV) v1 rfl ?_
    refine Wp.aload_n dX0_note_11 rfl (by first | exact Or.inr ⟨_, rfl⟩ | exact Or.inl rfl) rfl ?_
    refine Wp.get dX0_note_12 fl_X0_11 (hS.at hV) v0 rfl ?_
    refine Wp.alen dX0_note_15 (by decide) (hS.at k0) rfl ?_
    rw [show Int32.ofNat 40 = nI 40 from rfl]
    refine Wp.icmp_ge (tgt := 29) (n := 19) dX0_note_16 (by decide) rfl (fun c_16 => ?_) (fun c_16 => ?_)
    · try simp (disch := omega) only [nI_bit0, nI_bit1, Bool.not_eq_false, Bool.not_eq_true] at c_16
      try simp (disch := omega) only [i_lt, i_le, i_eq, l_lt, l_le, l_eq, i_0, i_m1, l_0, nI_tI, iI_tI, lI_tI, Int.not_lt, Int.not_le] at c_16
      refine Wp.aload_n dX0_note_29 rfl (by first | exact Or.inr ⟨_, rfl⟩ | exact Or.inl rfl) rfl ?_
      refine Wp.dup dX0_note_30 rfl rfl ?_
      refine Wp.get dX0_note_31 fl_X0_22 (hS.at hV) v1 rfl ?_
      refine Wp.iconst (v := (nI 1)) dX0_note_34 (by decide) rfl ?_
      refine Wp.iadd dX0_note_35 rfl ?_
      rw [nI_add1]
      refine Wp.put dX0_note_36 fp_X0_22 (hS.at hV) rfl rfl rfl ?_
      refine hS.put hV ?_
      intro h36 C36 V36 S36 o36 e36 w36 x36 f36
      exact Wp.vret dX0_note_39 rfl (by
        refine ⟨rfl, _, S36, o36, fun t h1 h2 => f36 t h1, _, _, e36, ((x36 0 (by decide)).trans v0), w36, ((f36 (11) (by omega)).trans k0), fun i hi hi2 => ?_⟩
        have hi' : i < σ.nT + 1 := hi
        show _ = nI (updN σ.tr σ.nT b i)
        simp only [updN]
        split
        · next e_ => omega
        · next e_ => exact hg i (by omega) hi2)
    · try simp (disch := omega) only [nI_bit0, nI_bit1, Bool.not_eq_false, Bool.not_eq_true] at c_16
      try simp (disch := omega) only [i_lt, i_le, i_eq, l_lt, l_le, l_eq, i_0, i_m1, l_0, nI_tI, iI_tI, lI_tI, Int.not_lt, Int.not_le] at c_16
      refine Wp.aload_n dX0_note_19 rfl (by first | exact Or.inr ⟨_, rfl⟩ | exact Or.inl rfl) rfl ?_
      refine Wp.get dX0_note_20 fl_X0_11 (hS.at hV) v0 rfl ?_
      refine Wp.aload_n dX0_note_23 rfl (by first | exact Or.inr ⟨_, rfl⟩ | exact Or.inl rfl) rfl ?_
      refine Wp.get dX0_note_24 fl_X0_22 (hS.at hV) v1 rfl ?_
      refine Wp.iload_n dX0_note_27 rfl rfl ?_
      refine Wp.iastore dX0_note_28 (hS.at k0) (nI_toInt (by omega)) (by omega) rfl ?_
      refine hS.sti k0 ?_
      intro h28 C28 g28 S28 o28 e28 u28 f28
      refine Wp.aload_n dX0_note_29 rfl (by first | exact Or.inr ⟨_, rfl⟩ | exact Or.inl rfl) rfl ?_
      refine Wp.dup dX0_note_30 rfl rfl ?_
      refine Wp.get dX0_note_31 fl_X0_22 (S28.at ((f28 (10) (by omega)).trans hV)) v1 rfl ?_
      refine Wp.iconst (v := (nI 1)) dX0_note_34 (by decide) rfl ?_
      refine Wp.iadd dX0_note_35 rfl ?_
      rw [nI_add1]
      refine Wp.put dX0_note_36 fp_X0_22 (S28.at ((f28 (10) (by omega)).trans hV)) rfl rfl rfl ?_
      refine S28.put ((f28 (10) (by omega)).trans hV) ?_
      intro h36 C36 V36 S36 o36 e36 w36 x36 f36
      have o36 := o28.tr o36
      exact Wp.vret dX0_note_39 rfl (by
        refine ⟨rfl, _, S36, o36, fun t h1 h2 => (f36 t h1).trans (f28 t h2), _, _, e36, ((x36 0 (by decide)).trans v0), w36, ((f36 (11) (by omega)).trans e28), fun i hi hi2 => ?_⟩
        have hi' : i < σ.nT + 1 := hi
        show _ = nI (updN σ.tr σ.nT b i)
        simp only [updN]
        split
        · next e_ => rw [u28, e_]; simp only [upd, if_true]
        · next e_ => rw [u28]; simp only [upd, if_neg e_]; exact hg i (by omega) hi2)
theorem c_X0_forget {B : ev_B} {d : Nat} {X : Nat → Prop} {h : ev_H} {A : Nat → Nat} {C : Nat → Option ev_E} {σ : Sg} (hS : CS X h A C) (hA : ActS A C σ) :
    Wp B d M_X0_forget 0 [some (.ref (A 10))] [] h (fun v h' => v = none ∧ ∃ C', CS X h' A C' ∧ CG X h h' 0 ∧ (∀ t, t ≠ 10 → C' t = C t) ∧ ActS A C' (σ.trc 0 σ.tr)) := by
  obtain ⟨V, g, hV, v0, v1, k0, hg⟩ := id hA
  refine Wp.aload_n dX0_forget_0 rfl (by first | exact Or.inr ⟨_, rfl⟩ | exact Or.inl rfl) rfl ?_
  refine Wp.iconst (v := (nI 0)) dX0_forget_1 (by decide) rfl ?_
  refine Wp.put dX0_forget_2 fp_X0_22 (hS.at hV) rfl rfl rfl ?_
  refine hS.put hV ?_
  intro h2 C2 V2 S2 o2 e2 w2 x2 f2
  exact Wp.vret dX0_forget_5 rfl (by exact ⟨rfl, _, S2, o2, f2, _, _, e2, (x2 0 (by decide)).trans v0, w2, (f2 11 (by decide)).trans k0, fun i hi => absurd hi (Nat.not_lt_zero i)⟩)
theorem c_X0_kindAbove {B : ev_B} {d k : Nat} {h : ev_H} (hsta : ev_sta B) (hk : k < 4) :
    Wp B d M_X0_kindAbove 0 [some (.int (nI k))] [] h (fun v h' => v = some (.int (ev_KA k)) ∧ h' = h) := by
  refine Wp.iload_n dX0_kindAbove_0 rfl rfl ?_
  refine Wp.if_lt (tgt := 20) (n := 4) dX0_kindAbove_1 (by decide) rfl (fun c_1 => ?_) (fun c_1 => ?_)
  · try simp (disch := omega) only [nI_bit0, nI_bit1, Bool.not_eq_false, Bool.not_eq_true] at c_1
    try simp (disch := omega) only [i_lt, i_le, i_eq, l_lt, l_le, l_eq, i_0, i_m1, l_0, nI_tI, iI_tI, lI_tI, Int.not_lt, Int.not_le] at c_1
    omega
  · try simp (disch := omega) only [nI_bit0, nI_bit1, Bool.not_eq_false, Bool.not_eq_true] at c_1
    try simp (disch := omega) only [i_lt, i_le, i_eq, l_lt, l_le, l_eq, i_0, i_m1, l_0, nI_tI, iI_tI, lI_tI, Int.not_lt, Int.not_le] at c_1
    refine Wp.iload_n dX0_kindAbove_4 rfl rfl ?_
    refine Wp.getKA dX0_kindAbove_5 sl_X0_15 rfl ?_
    refine Wp.rolen dX0_kindAbove_8 hsta.1 rfl ?_
    rw [show Int32.ofNat 4 = nI 4 from rfl]
    refine Wp.icmp_ge (tgt := 20) (n := 12) dX0_kindAbove_9 (by decide) rfl (fun c_9 => ?_) (fun c_9 => ?_)
    · try simp (disch := omega) only [nI_bit0, nI_bit1, Bool.not_eq_false, Bool.not_eq_true] at c_9
      try simp (disch := omega) only [i_lt, i_le, i_eq, l_lt, l_le, l_eq, i_0, i_m1, l_0, nI_tI, iI_tI, lI_tI, Int.not_lt, Int.not_le] at c_9
      omega
    · try simp (disch := omega) only [nI_bit0, nI_bit1, Bool.not_eq_false, Bool.not_eq_true] at c_9
      try simp (disch := omega) only [i_lt, i_le, i_eq, l_lt, l_le, l_eq, i_0, i_m1, l_0, nI_tI, iI_tI, lI_tI, Int.not_lt, Int.not_le] at c_9
      refine Wp.getKA dX0_kindAbove_12 sl_X0_15 rfl ?_
      refine Wp.iload_n dX0_kindAbove_15 rfl rfl ?_
      refine Wp.roload dX0_kindAbove_16 hsta.1 (nI_toInt (by omega)) (by omega) rfl ?_
      refine Wp.goto (n := 21) dX0_kindAbove_17 (by decide) ?_
      exact Wp.iret dX0_kindAbove_21 rfl (by exact ⟨rfl, rfl⟩)
theorem c_kwb_0_0 {B : ev_B} {d : Nat} {h : ev_H} (hsta : ev_sta B) (hd : 1 ≤ d) :
    Wp B d M_X0_kindWithBody 0 [some (.int (nI 0)), some (.int (nI 0)), none, none, none] [] h (fun v h' => v = some (.int (nI 0)) ∧ h' = h) := by
  refine Wp.iload_n dX0_kindWithBody_0 rfl rfl ?_
  refine Wp.istore_n dX0_kindWithBody_1 (Nat.le_of_ble_eq_true rfl) (by dsimp only [ev_st1, ev_st2, ev_cl] <;> rfl) rfl ?_
  refine Wp.iconst (v := (nI 0)) dX0_kindWithBody_2 (by decide) rfl ?_
  refine Wp.istore_n dX0_kindWithBody_3 (Nat.le_of_ble_eq_true rfl) (by dsimp only [ev_st1, ev_st2, ev_cl] <;> rfl) rfl ?_
  refine Wp.iload_n dX0_kindWithBody_4 rfl rfl ?_
  refine Wp.getKA dX0_kindWithBody_5 sl_X0_15 rfl ?_
  refine Wp.rolen dX0_kindWithBody_8 hsta.1 rfl ?_
  rw [show Int32.ofNat 4 = nI 4 from rfl]
  refine Wp.icmp_ge (tgt := 59) (n := 12) dX0_kindWithBody_9 (by decide) rfl (fun c_ => absurd c_ (by decide)) (fun _ => ?_)
  refine Wp.iload_n dX0_kindWithBody_12 rfl rfl ?_
  refine Wp.if_lt (tgt := 59) (n := 16) dX0_kindWithBody_13 (by decide) rfl (fun c_ => absurd c_ (by decide)) (fun _ => ?_)
  refine Wp.iconst (v := (nI 3)) dX0_kindWithBody_16 (by decide) rfl ?_
  refine Wp.iload_n dX0_kindWithBody_17 rfl rfl ?_
  refine Wp.imul dX0_kindWithBody_18 rfl ?_
  refine Wp.iload_n dX0_kindWithBody_19 rfl rfl ?_
  refine Wp.iadd dX0_kindWithBody_20 rfl ?_
  refine Wp.istore dX0_kindWithBody_21 (Nat.le_of_ble_eq_true rfl) (by dsimp only [ev_st1, ev_st2, ev_cl] <;> rfl) rfl ?_
  refine Wp.iload dX0_kindWithBody_23 rfl rfl ?_
  refine Wp.if_lt (tgt := 48) (n := 28) dX0_kindWithBody_25 (by decide) rfl (fun c_ => absurd c_ (by decide)) (fun _ => ?_)
  refine Wp.iload dX0_kindWithBody_28 rfl rfl ?_
  refine Wp.getBO dX0_kindWithBody_30 sl_X0_39 rfl ?_
  refine Wp.rolen dX0_kindWithBody_33 hsta.2 rfl ?_
  rw [show Int32.ofNat 12 = nI 12 from rfl]
  refine Wp.icmp_ge (tgt := 48) (n := 37) dX0_kindWithBody_34 (by decide) rfl (fun c_ => absurd c_ (by decide)) (fun _ => ?_)
  refine Wp.getBO dX0_kindWithBody_37 sl_X0_39 rfl ?_
  refine Wp.iload dX0_kindWithBody_40 rfl rfl ?_
  refine Wp.roload dX0_kindWithBody_42 hsta.2 (j := 0) (by decide) (by omega) rfl ?_
  rw [show ev_BO 0 = nI 10 from rfl]
  refine Wp.if_eq (tgt := 48) (n := 46) dX0_kindWithBody_43 (by decide) rfl (fun c_ => absurd c_ (by decide)) (fun _ => ?_)
  refine Wp.iload_n dX0_kindWithBody_46 rfl rfl ?_
  exact Wp.iret dX0_kindWithBody_47 rfl (by exact ⟨rfl, rfl⟩)
theorem c_kwb_1_0 {B : ev_B} {d : Nat} {h : ev_H} (hsta : ev_sta B) (hd : 1 ≤ d) :
    Wp B d M_X0_kindWithBody 0 [some (.int (nI 1)), some (.int (nI 0)), none, none, none] [] h (fun v h' => v = some (.int (nI 1)) ∧ h' = h) := by
  refine Wp.iload_n dX0_kindWithBody_0 rfl rfl ?_
  refine Wp.istore_n dX0_kindWithBody_1 (Nat.le_of_ble_eq_true rfl) (by dsimp only [ev_st1, ev_st2, ev_cl] <;> rfl) rfl ?_
  refine Wp.iconst (v := (nI 0)) dX0_kindWithBody_2 (by decide) rfl ?_
  refine Wp.istore_n dX0_kindWithBody_3 (Nat.le_of_ble_eq_true rfl) (by dsimp only [ev_st1, ev_st2, ev_cl] <;> rfl) rfl ?_
  refine Wp.iload_n dX0_kindWithBody_4 rfl rfl ?_
  refine Wp.getKA dX0_kindWithBody_5 sl_X0_15 rfl ?_
  refine Wp.rolen dX0_kindWithBody_8 hsta.1 rfl ?_
  rw [show Int32.ofNat 4 = nI 4 from rfl]
  refine Wp.icmp_ge (tgt := 59) (n := 12) dX0_kindWithBody_9 (by decide) rfl (fun c_ => absurd c_ (by decide)) (fun _ => ?_)
  refine Wp.iload_n dX0_kindWithBody_12 rfl rfl ?_
  refine Wp.if_lt (tgt := 59) (n := 16) dX0_kindWithBody_13 (by decide) rfl (fun c_ => absurd c_ (by decide)) (fun _ => ?_)
  refine Wp.iconst (v := (nI 3)) dX0_kindWithBody_16 (by decide) rfl ?_
  refine Wp.iload_n dX0_kindWithBody_17 rfl rfl ?_
  refine Wp.imul dX0_kindWithBody_18 rfl ?_
  refine Wp.iload_n dX0_kindWithBody_19 rfl rfl ?_
  refine Wp.iadd dX0_kindWithBody_20 rfl ?_
  refine Wp.istore dX0_kindWithBody_21 (Nat.le_of_ble_eq_true rfl) (by dsimp only [ev_st1, ev_st2, ev_cl] <;> rfl) rfl ?_
  refine Wp.iload dX0_kindWithBody_23 rfl rfl ?_
  refine Wp.if_lt (tgt := 48) (n := 28) dX0_kindWithBody_25 (by decide) rfl (fun c_ => absurd c_ (by decide)) (fun _ => ?_)
  refine Wp.iload dX0_kindWithBody_28 rfl rfl ?_
  refine Wp.getBO dX0_kindWithBody_30 sl_X0_39 rfl ?_
  refine Wp.rolen dX0_kindWithBody_33 hsta.2 rfl ?_
  rw [show Int32.ofNat 12 = nI 12 from rfl]
  refine Wp.icmp_ge (tgt := 48) (n := 37) dX0_kindWithBody_34 (by decide) rfl (fun c_ => absurd c_ (by decide)) (fun _ => ?_)
  refine Wp.getBO dX0_kindWithBody_37 sl_X0_39 rfl ?_
  refine Wp.iload dX0_kindWithBody_40 rfl rfl ?_
  refine Wp.roload dX0_kindWithBody_42 hsta.2 (j := 3) (by decide) (by omega) rfl ?_
  rw [show ev_BO 3 = nI 20 from rfl]
  refine Wp.if_eq (tgt := 48) (n := 46) dX0_kindWithBody_43 (by decide) rfl (fun c_ => absurd c_ (by decide)) (fun _ => ?_)
  refine Wp.iload_n dX0_kindWithBody_46 rfl rfl ?_
  exact Wp.iret dX0_kindWithBody_47 rfl (by exact ⟨rfl, rfl⟩)
theorem c_kwb_2_0 {B : ev_B} {d : Nat} {h : ev_H} (hsta : ev_sta B) (hd : 1 ≤ d) :
    Wp B d M_X0_kindWithBody 0 [some (.int (nI 2)), some (.int (nI 0)), none, none, none] [] h (fun v h' => v = some (.int (nI 0)) ∧ h' = h) := by
  refine Wp.iload_n dX0_kindWithBody_0 rfl rfl ?_
  refine Wp.istore_n dX0_kindWithBody_1 (Nat.le_of_ble_eq_true rfl) (by dsimp only [ev_st1, ev_st2, ev_cl] <;> rfl) rfl ?_
  refine Wp.iconst (v := (nI 0)) dX0_kindWithBody_2 (by decide) rfl ?_
  refine Wp.istore_n dX0_kindWithBody_3 (Nat.le_of_ble_eq_true rfl) (by dsimp only [ev_st1, ev_st2, ev_cl] <;> rfl) rfl ?_
  refine Wp.iload_n dX0_kindWithBody_4 rfl rfl ?_
  refine Wp.getKA dX0_kindWithBody_5 sl_X0_15 rfl ?_
  refine Wp.rolen dX0_kindWithBody_8 hsta.1 rfl ?_
  rw [show Int32.ofNat 4 = nI 4 from rfl]
  refine Wp.icmp_ge (tgt := 59) (n := 12) dX0_kindWithBody_9 (by decide) rfl (fun c_ => absurd c_ (by decide)) (fun _ => ?_)
  refine Wp.iload_n dX0_kindWithBody_12 rfl rfl ?_
  refine Wp.if_lt (tgt := 59) (n := 16) dX0_kindWithBody_13 (by decide) rfl (fun c_ => absurd c_ (by decide)) (fun _ => ?_)
  refine Wp.iconst (v := (nI 3)) dX0_kindWithBody_16 (by decide) rfl ?_
  refine Wp.iload_n dX0_kindWithBody_17 rfl rfl ?_
  refine Wp.imul dX0_kindWithBody_18 rfl ?_
  refine Wp.iload_n dX0_kindWithBody_19 rfl rfl ?_
  refine Wp.iadd dX0_kindWithBody_20 rfl ?_
  refine Wp.istore dX0_kindWithBody_21 (Nat.le_of_ble_eq_true rfl) (by dsimp only [ev_st1, ev_st2, ev_cl] <;> rfl) rfl ?_
  refine Wp.iload dX0_kindWithBody_23 rfl rfl ?_
  refine Wp.if_lt (tgt := 48) (n := 28) dX0_kindWithBody_25 (by decide) rfl (fun c_ => absurd c_ (by decide)) (fun _ => ?_)
  refine Wp.iload dX0_kindWithBody_28 rfl rfl ?_
  refine Wp.getBO dX0_kindWithBody_30 sl_X0_39 rfl ?_
  refine Wp.rolen dX0_kindWithBody_33 hsta.2 rfl ?_
  rw [show Int32.ofNat 12 = nI 12 from rfl]
  refine Wp.icmp_ge (tgt := 48) (n := 37) dX0_kindWithBody_34 (by decide) rfl (fun c_ => absurd c_ (by decide)) (fun _ => ?_)
  refine Wp.getBO dX0_kindWithBody_37 sl_X0_39 rfl ?_
  refine Wp.iload dX0_kindWithBody_40 rfl rfl ?_
  refine Wp.roload dX0_kindWithBody_42 hsta.2 (j := 6) (by decide) (by omega) rfl ?_
  rw [show ev_BO 6 = nI 0 from rfl]
  refine Wp.if_eq (tgt := 48) (n := 46) dX0_kindWithBody_43 (by decide) rfl (fun _ => ?_) (fun c_ => absurd (by decide) c_)
  refine Wp.iload_n dX0_kindWithBody_48 rfl rfl ?_
  refine Wp.cS dX0_kindWithBody_49 cs_X0_18 rfl (by omega) rfl (Nat.le_of_ble_eq_true rfl) (Nat.le_of_ble_eq_true rfl) rfl (c_X0_kindAbove (d := d - 1) (k := 2) hsta (by decide)) ?_
  rintro _ h_ ⟨rfl, e_⟩
  rw [e_]
  clear e_ h_
  dsimp only [Option.toList, List.drop, List.cons_append, List.nil_append]
  rw [show ev_KA 2 = nI 0 from rfl]
  refine Wp.istore_n dX0_kindWithBody_52 (Nat.le_of_ble_eq_true rfl) (by dsimp only [ev_st1, ev_st2, ev_cl] <;> rfl) rfl ?_
  refine Wp.iinc (v := _ + (nI 1)) dX0_kindWithBody_53 rfl rfl (Nat.le_of_ble_eq_true rfl) (by dsimp only [ev_st1, ev_cl] <;> rfl) rfl ?_
  refine Wp.goto (n := 4) dX0_kindWithBody_56 (by decide) ?_
  refine Wp.iload_n dX0_kindWithBody_4 rfl rfl ?_
  refine Wp.getKA dX0_kindWithBody_5 sl_X0_15 rfl ?_
  refine Wp.rolen dX0_kindWithBody_8 hsta.1 rfl ?_
  rw [show Int32.ofNat 4 = nI 4 from rfl]
  refine Wp.icmp_ge (tgt := 59) (n := 12) dX0_kindWithBody_9 (by decide) rfl (fun c_ => absurd c_ (by decide)) (fun _ => ?_)
  refine Wp.iload_n dX0_kindWithBody_12 rfl rfl ?_
  refine Wp.if_lt (tgt := 59) (n := 16) dX0_kindWithBody_13 (by decide) rfl (fun c_ => absurd c_ (by decide)) (fun _ => ?_)
  refine Wp.iconst (v := (nI 3)) dX0_kindWithBody_16 (by decide) rfl ?_
  refine Wp.iload_n dX0_kindWithBody_17 rfl rfl ?_
  refine Wp.imul dX0_kindWithBody_18 rfl ?_
  refine Wp.iload_n dX0_kindWithBody_19 rfl rfl ?_
  refine Wp.iadd dX0_kindWithBody_20 rfl ?_
  refine Wp.istore dX0_kindWithBody_21 (Nat.le_of_ble_eq_true rfl) (by dsimp only [ev_st1, ev_st2, ev_cl] <;> rfl) rfl ?_
  refine Wp.iload dX0_kindWithBody_23 rfl rfl ?_
  refine Wp.if_lt (tgt := 48) (n := 28) dX0_kindWithBody_25 (by decide) rfl (fun c_ => absurd c_ (by decide)) (fun _ => ?_)
  refine Wp.iload dX0_kindWithBody_28 rfl rfl ?_
  refine Wp.getBO dX0_kindWithBody_30 sl_X0_39 rfl ?_
  refine Wp.rolen dX0_kindWithBody_33 hsta.2 rfl ?_
  rw [show Int32.ofNat 12 = nI 12 from rfl]
  refine Wp.icmp_ge (tgt := 48) (n := 37) dX0_kindWithBody_34 (by decide) rfl (fun c_ => absurd c_ (by decide)) (fun _ => ?_)
  refine Wp.getBO dX0_kindWithBody_37 sl_X0_39 rfl ?_
  refine Wp.iload dX0_kindWithBody_40 rfl rfl ?_
  refine Wp.roload dX0_kindWithBody_42 hsta.2 (j := 0) (by decide) (by omega) rfl ?_
  rw [show ev_BO 0 = nI 10 from rfl]
  refine Wp.if_eq (tgt := 48) (n := 46) dX0_kindWithBody_43 (by decide) rfl (fun c_ => absurd c_ (by decide)) (fun _ => ?_)
  refine Wp.iload_n dX0_kindWithBody_46 rfl rfl ?_
  exact Wp.iret dX0_kindWithBody_47 rfl (by exact ⟨rfl, rfl⟩)
theorem c_kwb_3_0 {B : ev_B} {d : Nat} {h : ev_H} (hsta : ev_sta B) (hd : 1 ≤ d) :
    Wp B d M_X0_kindWithBody 0 [some (.int (nI 3)), some (.int (nI 0)), none, none, none] [] h (fun v h' => v = some (.int (nI 3)) ∧ h' = h) := by
  refine Wp.iload_n dX0_kindWithBody_0 rfl rfl ?_
  refine Wp.istore_n dX0_kindWithBody_1 (Nat.le_of_ble_eq_true rfl) (by dsimp only [ev_st1, ev_st2, ev_cl] <;> rfl) rfl ?_
  refine Wp.iconst (v := (nI 0)) dX0_kindWithBody_2 (by decide) rfl ?_
  refine Wp.istore_n dX0_kindWithBody_3 (Nat.le_of_ble_eq_true rfl) (by dsimp only [ev_st1, ev_st2, ev_cl] <;> rfl) rfl ?_
  refine Wp.iload_n dX0_kindWithBody_4 rfl rfl ?_
  refine Wp.getKA dX0_kindWithBody_5 sl_X0_15 rfl ?_
  refine Wp.rolen dX0_kindWithBody_8 hsta.1 rfl ?_
  rw [show Int32.ofNat 4 = nI 4 from rfl]
  refine Wp.icmp_ge (tgt := 59) (n := 12) dX0_kindWithBody_9 (by decide) rfl (fun c_ => absurd c_ (by decide)) (fun _ => ?_)
  refine Wp.iload_n dX0_kindWithBody_12 rfl rfl ?_
  refine Wp.if_lt (tgt := 59) (n := 16) dX0_kindWithBody_13 (by decide) rfl (fun c_ => absurd c_ (by decide)) (fun _ => ?_)
  refine Wp.iconst (v := (nI 3)) dX0_kindWithBody_16 (by decide) rfl ?_
  refine Wp.iload_n dX0_kindWithBody_17 rfl rfl ?_
  refine Wp.imul dX0_kindWithBody_18 rfl ?_
  refine Wp.iload_n dX0_kindWithBody_19 rfl rfl ?_
  refine Wp.iadd dX0_kindWithBody_20 rfl ?_
  refine Wp.istore dX0_kindWithBody_21 (Nat.le_of_ble_eq_true rfl) (by dsimp only [ev_st1, ev_st2, ev_cl] <;> rfl) rfl ?_
  refine Wp.iload dX0_kindWithBody_23 rfl rfl ?_
  refine Wp.if_lt (tgt := 48) (n := 28) dX0_kindWithBody_25 (by decide) rfl (fun c_ => absurd c_ (by decide)) (fun _ => ?_)
  refine Wp.iload dX0_kindWithBody_28 rfl rfl ?_
  refine Wp.getBO dX0_kindWithBody_30 sl_X0_39 rfl ?_
  refine Wp.rolen dX0_kindWithBody_33 hsta.2 rfl ?_
  rw [show Int32.ofNat 12 = nI 12 from rfl]
  refine Wp.icmp_ge (tgt := 48) (n := 37) dX0_kindWithBody_34 (by decide) rfl (fun c_ => absurd c_ (by decide)) (fun _ => ?_)
  refine Wp.getBO dX0_kindWithBody_37 sl_X0_39 rfl ?_
  refine Wp.iload dX0_kindWithBody_40 rfl rfl ?_
  refine Wp.roload dX0_kindWithBody_42 hsta.2 (j := 9) (by decide) (by omega) rfl ?_
  rw [show ev_BO 9 = nI 40 from rfl]
  refine Wp.if_eq (tgt := 48) (n := 46) dX0_kindWithBody_43 (by decide) rfl (fun c_ => absurd c_ (by decide)) (fun _ => ?_)
  refine Wp.iload_n dX0_kindWithBody_46 rfl rfl ?_
  exact Wp.iret dX0_kindWithBody_47 rfl (by exact ⟨rfl, rfl⟩)
theorem c_kwb_0_1 {B : ev_B} {d : Nat} {h : ev_H} (hsta : ev_sta B) (hd : 1 ≤ d) :
    Wp B d M_X0_kindWithBody 0 [some (.int (nI 0)), some (.int (nI 1)), none, none, none] [] h (fun v h' => v = some (.int (nI 0)) ∧ h' = h) := by
  refine Wp.iload_n dX0_kindWithBody_0 rfl rfl ?_
  refine Wp.istore_n dX0_kindWithBody_1 (Nat.le_of_ble_eq_true rfl) (by dsimp only [ev_st1, ev_st2, ev_cl] <;> rfl) rfl ?_
  refine Wp.iconst (v := (nI 0)) dX0_kindWithBody_2 (by decide) rfl ?_
  refine Wp.istore_n dX0_kindWithBody_3 (Nat.le_of_ble_eq_true rfl) (by dsimp only [ev_st1, ev_st2, ev_cl] <;> rfl) rfl ?_
  refine Wp.iload_n dX0_kindWithBody_4 rfl rfl ?_
  refine Wp.getKA dX0_kindWithBody_5 sl_X0_15 rfl ?_
  refine Wp.rolen dX0_kindWithBody_8 hsta.1 rfl ?_
  rw [show Int32.ofNat 4 = nI 4 from rfl]
  refine Wp.icmp_ge (tgt := 59) (n := 12) dX0_kindWithBody_9 (by decide) rfl (fun c_ => absurd c_ (by decide)) (fun _ => ?_)
  refine Wp.iload_n dX0_kindWithBody_12 rfl rfl ?_
  refine Wp.if_lt (tgt := 59) (n := 16) dX0_kindWithBody_13 (by decide) rfl (fun c_ => absurd c_ (by decide)) (fun _ => ?_)
  refine Wp.iconst (v := (nI 3)) dX0_kindWithBody_16 (by decide) rfl ?_
  refine Wp.iload_n dX0_kindWithBody_17 rfl rfl ?_
  refine Wp.imul dX0_kindWithBody_18 rfl ?_
  refine Wp.iload_n dX0_kindWithBody_19 rfl rfl ?_
  refine Wp.iadd dX0_kindWithBody_20 rfl ?_
  refine Wp.istore dX0_kindWithBody_21 (Nat.le_of_ble_eq_true rfl) (by dsimp only [ev_st1, ev_st2, ev_cl] <;> rfl) rfl ?_
  refine Wp.iload dX0_kindWithBody_23 rfl rfl ?_
  refine Wp.if_lt (tgt := 48) (n := 28) dX0_kindWithBody_25 (by decide) rfl (fun c_ => absurd c_ (by decide)) (fun _ => ?_)
  refine Wp.iload dX0_kindWithBody_28 rfl rfl ?_
  refine Wp.getBO dX0_kindWithBody_30 sl_X0_39 rfl ?_
  refine Wp.rolen dX0_kindWithBody_33 hsta.2 rfl ?_
  rw [show Int32.ofNat 12 = nI 12 from rfl]
  refine Wp.icmp_ge (tgt := 48) (n := 37) dX0_kindWithBody_34 (by decide) rfl (fun c_ => absurd c_ (by decide)) (fun _ => ?_)
  refine Wp.getBO dX0_kindWithBody_37 sl_X0_39 rfl ?_
  refine Wp.iload dX0_kindWithBody_40 rfl rfl ?_
  refine Wp.roload dX0_kindWithBody_42 hsta.2 (j := 1) (by decide) (by omega) rfl ?_
  rw [show ev_BO 1 = nI 11 from rfl]
  refine Wp.if_eq (tgt := 48) (n := 46) dX0_kindWithBody_43 (by decide) rfl (fun c_ => absurd c_ (by decide)) (fun _ => ?_)
  refine Wp.iload_n dX0_kindWithBody_46 rfl rfl ?_
  exact Wp.iret dX0_kindWithBody_47 rfl (by exact ⟨rfl, rfl⟩)
theorem c_kwb_1_1 {B : ev_B} {d : Nat} {h : ev_H} (hsta : ev_sta B) (hd : 1 ≤ d) :
    Wp B d M_X0_kindWithBody 0 [some (.int (nI 1)), some (.int (nI 1)), none, none, none] [] h (fun v h' => v = some (.int (nI 0)) ∧ h' = h) := by
  refine Wp.iload_n dX0_kindWithBody_0 rfl rfl ?_
  refine Wp.istore_n dX0_kindWithBody_1 (Nat.le_of_ble_eq_true rfl) (by dsimp only [ev_st1, ev_st2, ev_cl] <;> rfl) rfl ?_
  refine Wp.iconst (v := (nI 0)) dX0_kindWithBody_2 (by decide) rfl ?_
  refine Wp.istore_n dX0_kindWithBody_3 (Nat.le_of_ble_eq_true rfl) (by dsimp only [ev_st1, ev_st2, ev_cl] <;> rfl) rfl ?_
  refine Wp.iload_n dX0_kindWithBody_4 rfl rfl ?_
  refine Wp.getKA dX0_kindWithBody_5 sl_X0_15 rfl ?_
  refine Wp.rolen dX0_kindWithBody_8 hsta.1 rfl ?_
  rw [show Int32.ofNat 4 = nI 4 from rfl]
  refine Wp.icmp_ge (tgt := 59) (n := 12) dX0_kindWithBody_9 (by decide) rfl (fun c_ => absurd c_ (by decide)) (fun _ => ?_)
  refine Wp.iload_n dX0_kindWithBody_12 rfl rfl ?_
  refine Wp.if_lt (tgt := 59) (n := 16) dX0_kindWithBody_13 (by decide) rfl (fun c_ => absurd c_ (by decide)) (fun _ => ?_)
  refine Wp.iconst (v := (nI 3)) dX0_kindWithBody_16 (by decide) rfl ?_
  refine Wp.iload_n dX0_kindWithBody_17 rfl rfl ?_
  refine Wp.imul dX0_kindWithBody_18 rfl ?_
  refine Wp.iload_n dX0_kindWithBody_19 rfl rfl ?_
  refine Wp.iadd dX0_kindWithBody_20 rfl ?_
  refine Wp.istore dX0_kindWithBody_21 (Nat.le_of_ble_eq_true rfl) (by dsimp only [ev_st1, ev_st2, ev_cl] <;> rfl) rfl ?_
  refine Wp.iload dX0_kindWithBody_23 rfl rfl ?_
  refine Wp.if_lt (tgt := 48) (n := 28) dX0_kindWithBody_25 (by decide) rfl (fun c_ => absurd c_ (by decide)) (fun _ => ?_)
  refine Wp.iload dX0_kindWithBody_28 rfl rfl ?_
  refine Wp.getBO dX0_kindWithBody_30 sl_X0_39 rfl ?_
  refine Wp.rolen dX0_kindWithBody_33 hsta.2 rfl ?_
  rw [show Int32.ofNat 12 = nI 12 from rfl]
  refine Wp.icmp_ge (tgt := 48) (n := 37) dX0_kindWithBody_34 (by decide) rfl (fun c_ => absurd c_ (by decide)) (fun _ => ?_)
  refine Wp.getBO dX0_kindWithBody_37 sl_X0_39 rfl ?_
  refine Wp.iload dX0_kindWithBody_40 rfl rfl ?_
  refine Wp.roload dX0_kindWithBody_42 hsta.2 (j := 4) (by decide) (by omega) rfl ?_
  rw [show ev_BO 4 = nI 0 from rfl]
  refine Wp.if_eq (tgt := 48) (n := 46) dX0_kindWithBody_43 (by decide) rfl (fun _ => ?_) (fun c_ => absurd (by decide) c_)
  refine Wp.iload_n dX0_kindWithBody_48 rfl rfl ?_
  refine Wp.cS dX0_kindWithBody_49 cs_X0_18 rfl (by omega) rfl (Nat.le_of_ble_eq_true rfl) (Nat.le_of_ble_eq_true rfl) rfl (c_X0_kindAbove (d := d - 1) (k := 1) hsta (by decide)) ?_
  rintro _ h_ ⟨rfl, e_⟩
  rw [e_]
  clear e_ h_
  dsimp only [Option.toList, List.drop, List.cons_append, List.nil_append]
  rw [show ev_KA 1 = nI 0 from rfl]
  refine Wp.istore_n dX0_kindWithBody_52 (Nat.le_of_ble_eq_true rfl) (by dsimp only [ev_st1, ev_st2, ev_cl] <;> rfl) rfl ?_
  refine Wp.iinc (v := _ + (nI 1)) dX0_kindWithBody_53 rfl rfl (Nat.le_of_ble_eq_true rfl) (by dsimp only [ev_st1, ev_cl] <;> rfl) rfl ?_
  refine Wp.goto (n := 4) dX0_kindWithBody_56 (by decide) ?_
  refine Wp.iload_n dX0_kindWithBody_4 rfl rfl ?_
  refine Wp.getKA dX0_kindWithBody_5 sl_X0_15 rfl ?_
  refine Wp.rolen dX0_kindWithBody_8 hsta.1 rfl ?_
  rw [show Int32.ofNat 4 = nI 4 from rfl]
  refine Wp.icmp_ge (tgt := 59) (n := 12) dX0_kindWithBody_9 (by decide) rfl (fun c_ => absurd c_ (by decide)) (fun _ => ?_)
  refine Wp.iload_n dX0_kindWithBody_12 rfl rfl ?_
  refine Wp.if_lt (tgt := 59) (n := 16) dX0_kindWithBody_13 (by decide) rfl (fun c_ => absurd c_ (by decide)) (fun _ => ?_)
  refine Wp.iconst (v := (nI 3)) dX0_kindWithBody_16 (by decide) rfl ?_
  refine Wp.iload_n dX0_kindWithBody_17 rfl rfl ?_
  refine Wp.imul dX0_kindWithBody_18 rfl ?_
  refine Wp.iload_n dX0_kindWithBody_19 rfl rfl ?_
  refine Wp.iadd dX0_kindWithBody_20 rfl ?_
  refine Wp.istore dX0_kindWithBody_21 (Nat.le_of_ble_eq_true rfl) (by dsimp only [ev_st1, ev_st2, ev_cl] <;> rfl) rfl ?_
  refine Wp.iload dX0_kindWithBody_23 rfl rfl ?_
  refine Wp.if_lt (tgt := 48) (n := 28) dX0_kindWithBody_25 (by decide) rfl (fun c_ => absurd c_ (by decide)) (fun _ => ?_)
  refine Wp.iload dX0_kindWithBody_28 rfl rfl ?_
  refine Wp.getBO dX0_kindWithBody_30 sl_X0_39 rfl ?_
  refine Wp.rolen dX0_kindWithBody_33 hsta.2 rfl ?_
  rw [show Int32.ofNat 12 = nI 12 from rfl]
  refine Wp.icmp_ge (tgt := 48) (n := 37) dX0_kindWithBody_34 (by decide) rfl (fun c_ => absurd c_ (by decide)) (fun _ => ?_)
  refine Wp.getBO dX0_kindWithBody_37 sl_X0_39 rfl ?_
  refine Wp.iload dX0_kindWithBody_40 rfl rfl ?_
  refine Wp.roload dX0_kindWithBody_42 hsta.2 (j := 1) (by decide) (by omega) rfl ?_
  rw [show ev_BO 1 = nI 11 from rfl]
  refine Wp.if_eq (tgt := 48) (n := 46) dX0_kindWithBody_43 (by decide) rfl (fun c_ => absurd c_ (by decide)) (fun _ => ?_)
  refine Wp.iload_n dX0_kindWithBody_46 rfl rfl ?_
  exact Wp.iret dX0_kindWithBody_47 rfl (by exact ⟨rfl, rfl⟩)
theorem c_kwb_2_1 {B : ev_B} {d : Nat} {h : ev_H} (hsta : ev_sta B) (hd : 1 ≤ d) :
    Wp B d M_X0_kindWithBody 0 [some (.int (nI 2)), some (.int (nI 1)), none, none, none] [] h (fun v h' => v = some (.int (nI 2)) ∧ h' = h) := by
  refine Wp.iload_n dX0_kindWithBody_0 rfl rfl ?_
  refine Wp.istore_n dX0_kindWithBody_1 (Nat.le_of_ble_eq_true rfl) (by dsimp only [ev_st1, ev_st2, ev_cl] <;> rfl) rfl ?_
  refine Wp.iconst (v := (nI 0)) dX0_kindWithBody_2 (by decide) rfl ?_
  refine Wp.istore_n dX0_kindWithBody_3 (Nat.le_of_ble_eq_true rfl) (by dsimp only [ev_st1, ev_st2, ev_cl] <;> rfl) rfl ?_
  refine Wp.iload_n dX0_kindWithBody_4 rfl rfl ?_
  refine Wp.getKA dX0_kindWithBody_5 sl_X0_15 rfl ?_
  refine Wp.rolen dX0_kindWithBody_8 hsta.1 rfl ?_
  rw [show Int32.ofNat 4 = nI 4 from rfl]
  refine Wp.icmp_ge (tgt := 59) (n := 12) dX0_kindWithBody_9 (by decide) rfl (fun c_ => absurd c_ (by decide)) (fun _ => ?_)
  refine Wp.iload_n dX0_kindWithBody_12 rfl rfl ?_
  refine Wp.if_lt (tgt := 59) (n := 16) dX0_kindWithBody_13 (by decide) rfl (fun c_ => absurd c_ (by decide)) (fun _ => ?_)
  refine Wp.iconst (v := (nI 3)) dX0_kindWithBody_16 (by decide) rfl ?_
  refine Wp.iload_n dX0_kindWithBody_17 rfl rfl ?_
  refine Wp.imul dX0_kindWithBody_18 rfl ?_
  refine Wp.iload_n dX0_kindWithBody_19 rfl rfl ?_
  refine Wp.iadd dX0_kindWithBody_20 rfl ?_
  refine Wp.istore dX0_kindWithBody_21 (Nat.le_of_ble_eq_true rfl) (by dsimp only [ev_st1, ev_st2, ev_cl] <;> rfl) rfl ?_
  refine Wp.iload dX0_kindWithBody_23 rfl rfl ?_
  refine Wp.if_lt (tgt := 48) (n := 28) dX0_kindWithBody_25 (by decide) rfl (fun c_ => absurd c_ (by decide)) (fun _ => ?_)
  refine Wp.iload dX0_kindWithBody_28 rfl rfl ?_
  refine Wp.getBO dX0_kindWithBody_30 sl_X0_39 rfl ?_
  refine Wp.rolen dX0_kindWithBody_33 hsta.2 rfl ?_
  rw [show Int32.ofNat 12 = nI 12 from rfl]
  refine Wp.icmp_ge (tgt := 48) (n := 37) dX0_kindWithBody_34 (by decide) rfl (fun c_ => absurd c_ (by decide)) (fun _ => ?_)
  refine Wp.getBO dX0_kindWithBody_37 sl_X0_39 rfl ?_
  refine Wp.iload dX0_kindWithBody_40 rfl rfl ?_
  refine Wp.roload dX0_kindWithBody_42 hsta.2 (j := 7) (by decide) (by omega) rfl ?_
  rw [show ev_BO 7 = nI 30 from rfl]
  refine Wp.if_eq (tgt := 48) (n := 46) dX0_kindWithBody_43 (by decide) rfl (fun c_ => absurd c_ (by decide)) (fun _ => ?_)
  refine Wp.iload_n dX0_kindWithBody_46 rfl rfl ?_
  exact Wp.iret dX0_kindWithBody_47 rfl (by exact ⟨rfl, rfl⟩)
theorem c_kwb_3_1 {B : ev_B} {d : Nat} {h : ev_H} (hsta : ev_sta B) (hd : 1 ≤ d) :
    Wp B d M_X0_kindWithBody 0 [some (.int (nI 3)), some (.int (nI 1)), none, none, none] [] h (fun v h' => v = some (.int (nI 3)) ∧ h' = h) := by
  refine Wp.iload_n dX0_kindWithBody_0 rfl rfl ?_
  refine Wp.istore_n dX0_kindWithBody_1 (Nat.le_of_ble_eq_true rfl) (by dsimp only [ev_st1, ev_st2, ev_cl] <;> rfl) rfl ?_
  refine Wp.iconst (v := (nI 0)) dX0_kindWithBody_2 (by decide) rfl ?_
  refine Wp.istore_n dX0_kindWithBody_3 (Nat.le_of_ble_eq_true rfl) (by dsimp only [ev_st1, ev_st2, ev_cl] <;> rfl) rfl ?_
  refine Wp.iload_n dX0_kindWithBody_4 rfl rfl ?_
  refine Wp.getKA dX0_kindWithBody_5 sl_X0_15 rfl ?_
  refine Wp.rolen dX0_kindWithBody_8 hsta.1 rfl ?_
  rw [show Int32.ofNat 4 = nI 4 from rfl]
  refine Wp.icmp_ge (tgt := 59) (n := 12) dX0_kindWithBody_9 (by decide) rfl (fun c_ => absurd c_ (by decide)) (fun _ => ?_)
  refine Wp.iload_n dX0_kindWithBody_12 rfl rfl ?_
  refine Wp.if_lt (tgt := 59) (n := 16) dX0_kindWithBody_13 (by decide) rfl (fun c_ => absurd c_ (by decide)) (fun _ => ?_)
  refine Wp.iconst (v := (nI 3)) dX0_kindWithBody_16 (by decide) rfl ?_
  refine Wp.iload_n dX0_kindWithBody_17 rfl rfl ?_
  refine Wp.imul dX0_kindWithBody_18 rfl ?_
  refine Wp.iload_n dX0_kindWithBody_19 rfl rfl ?_
  refine Wp.iadd dX0_kindWithBody_20 rfl ?_
  refine Wp.istore dX0_kindWithBody_21 (Nat.le_of_ble_eq_true rfl) (by dsimp only [ev_st1, ev_st2, ev_cl] <;> rfl) rfl ?_
  refine Wp.iload dX0_kindWithBody_23 rfl rfl ?_
  refine Wp.if_lt (tgt := 48) (n := 28) dX0_kindWithBody_25 (by decide) rfl (fun c_ => absurd c_ (by decide)) (fun _ => ?_)
  refine Wp.iload dX0_kindWithBody_28 rfl rfl ?_
  refine Wp.getBO dX0_kindWithBody_30 sl_X0_39 rfl ?_
  refine Wp.rolen dX0_kindWithBody_33 hsta.2 rfl ?_
  rw [show Int32.ofNat 12 = nI 12 from rfl]
  refine Wp.icmp_ge (tgt := 48) (n := 37) dX0_kindWithBody_34 (by decide) rfl (fun c_ => absurd c_ (by decide)) (fun _ => ?_)
  refine Wp.getBO dX0_kindWithBody_37 sl_X0_39 rfl ?_
  refine Wp.iload dX0_kindWithBody_40 rfl rfl ?_
  refine Wp.roload dX0_kindWithBody_42 hsta.2 (j := 10) (by decide) (by omega) rfl ?_
  rw [show ev_BO 10 = nI 41 from rfl]
  refine Wp.if_eq (tgt := 48) (n := 46) dX0_kindWithBody_43 (by decide) rfl (fun c_ => absurd c_ (by decide)) (fun _ => ?_)
  refine Wp.iload_n dX0_kindWithBody_46 rfl rfl ?_
  exact Wp.iret dX0_kindWithBody_47 rfl (by exact ⟨rfl, rfl⟩)
theorem c_kwb_0_2 {B : ev_B} {d : Nat} {h : ev_H} (hsta : ev_sta B) (hd : 1 ≤ d) :
    Wp B d M_X0_kindWithBody 0 [some (.int (nI 0)), some (.int (nI 2)), none, none, none] [] h (fun v h' => v = some (.int (nI 0)) ∧ h' = h) := by
  refine Wp.iload_n dX0_kindWithBody_0 rfl rfl ?_
  refine Wp.istore_n dX0_kindWithBody_1 (Nat.le_of_ble_eq_true rfl) (by dsimp only [ev_st1, ev_st2, ev_cl] <;> rfl) rfl ?_
  refine Wp.iconst (v := (nI 0)) dX0_kindWithBody_2 (by decide) rfl ?_
  refine Wp.istore_n dX0_kindWithBody_3 (Nat.le_of_ble_eq_true rfl) (by dsimp only [ev_st1, ev_st2, ev_cl] <;> rfl) rfl ?_
  refine Wp.iload_n dX0_kindWithBody_4 rfl rfl ?_
  refine Wp.getKA dX0_kindWithBody_5 sl_X0_15 rfl ?_
  refine Wp.rolen dX0_kindWithBody_8 hsta.1 rfl ?_
  rw [show Int32.ofNat 4 = nI 4 from rfl]
  refine Wp.icmp_ge (tgt := 59) (n := 12) dX0_kindWithBody_9 (by decide) rfl (fun c_ => absurd c_ (by decide)) (fun _ => ?_)
  refine Wp.iload_n dX0_kindWithBody_12 rfl rfl ?_
  refine Wp.if_lt (tgt := 59) (n := 16) dX0_kindWithBody_13 (by decide) rfl (fun c_ => absurd c_ (by decide)) (fun _ => ?_)
  refine Wp.iconst (v := (nI 3)) dX0_kindWithBody_16 (by decide) rfl ?_
  refine Wp.iload_n dX0_kindWithBody_17 rfl rfl ?_
  refine Wp.imul dX0_kindWithBody_18 rfl ?_
  refine Wp.iload_n dX0_kindWithBody_19 rfl rfl ?_
  refine Wp.iadd dX0_kindWithBody_20 rfl ?_
  refine Wp.istore dX0_kindWithBody_21 (Nat.le_of_ble_eq_true rfl) (by dsimp only [ev_st1, ev_st2, ev_cl] <;> rfl) rfl ?_
  refine Wp.iload dX0_kindWithBody_23 rfl rfl ?_
  refine Wp.if_lt (tgt := 48) (n := 28) dX0_kindWithBody_25 (by decide) rfl (fun c_ => absurd c_ (by decide)) (fun _ => ?_)
  refine Wp.iload dX0_kindWithBody_28 rfl rfl ?_
  refine Wp.getBO dX0_kindWithBody_30 sl_X0_39 rfl ?_
  refine Wp.rolen dX0_kindWithBody_33 hsta.2 rfl ?_
  rw [show Int32.ofNat 12 = nI 12 from rfl]
  refine Wp.icmp_ge (tgt := 48) (n := 37) dX0_kindWithBody_34 (by decide) rfl (fun c_ => absurd c_ (by decide)) (fun _ => ?_)
  refine Wp.getBO dX0_kindWithBody_37 sl_X0_39 rfl ?_
  refine Wp.iload dX0_kindWithBody_40 rfl rfl ?_
  refine Wp.roload dX0_kindWithBody_42 hsta.2 (j := 2) (by decide) (by omega) rfl ?_
  rw [show ev_BO 2 = nI 12 from rfl]
  refine Wp.if_eq (tgt := 48) (n := 46) dX0_kindWithBody_43 (by decide) rfl (fun c_ => absurd c_ (by decide)) (fun _ => ?_)
  refine Wp.iload_n dX0_kindWithBody_46 rfl rfl ?_
  exact Wp.iret dX0_kindWithBody_47 rfl (by exact ⟨rfl, rfl⟩)
theorem c_kwb_1_2 {B : ev_B} {d : Nat} {h : ev_H} (hsta : ev_sta B) (hd : 1 ≤ d) :
    Wp B d M_X0_kindWithBody 0 [some (.int (nI 1)), some (.int (nI 2)), none, none, none] [] h (fun v h' => v = some (.int (nI 1)) ∧ h' = h) := by
  refine Wp.iload_n dX0_kindWithBody_0 rfl rfl ?_
  refine Wp.istore_n dX0_kindWithBody_1 (Nat.le_of_ble_eq_true rfl) (by dsimp only [ev_st1, ev_st2, ev_cl] <;> rfl) rfl ?_
  refine Wp.iconst (v := (nI 0)) dX0_kindWithBody_2 (by decide) rfl ?_
  refine Wp.istore_n dX0_kindWithBody_3 (Nat.le_of_ble_eq_true rfl) (by dsimp only [ev_st1, ev_st2, ev_cl] <;> rfl) rfl ?_
  refine Wp.iload_n dX0_kindWithBody_4 rfl rfl ?_
  refine Wp.getKA dX0_kindWithBody_5 sl_X0_15 rfl ?_
  refine Wp.rolen dX0_kindWithBody_8 hsta.1 rfl ?_
  rw [show Int32.ofNat 4 = nI 4 from rfl]
  refine Wp.icmp_ge (tgt := 59) (n := 12) dX0_kindWithBody_9 (by decide) rfl (fun c_ => absurd c_ (by decide)) (fun _ => ?_)
  refine Wp.iload_n dX0_kindWithBody_12 rfl rfl ?_
  refine Wp.if_lt (tgt := 59) (n := 16) dX0_kindWithBody_13 (by decide) rfl (fun c_ => absurd c_ (by decide)) (fun _ => ?_)
  refine Wp.iconst (v := (nI 3)) dX0_kindWithBody_16 (by decide) rfl ?_
  refine Wp.iload_n dX0_kindWithBody_17 rfl rfl ?_
  refine Wp.imul dX0_kindWithBody_18 rfl ?_
  refine Wp.iload_n dX0_kindWithBody_19 rfl rfl ?_
  refine Wp.iadd dX0_kindWithBody_20 rfl ?_
  refine Wp.istore dX0_kindWithBody_21 (Nat.le_of_ble_eq_true rfl) (by dsimp only [ev_st1, ev_st2, ev_cl] <;> rfl) rfl ?_
  refine Wp.iload dX0_kindWithBody_23 rfl rfl ?_
  refine Wp.if_lt (tgt := 48) (n := 28) dX0_kindWithBody_25 (by decide) rfl (fun c_ => absurd c_ (by decide)) (fun _ => ?_)
  refine Wp.iload dX0_kindWithBody_28 rfl rfl ?_
  refine Wp.getBO dX0_kindWithBody_30 sl_X0_39 rfl ?_
  refine Wp.rolen dX0_kindWithBody_33 hsta.2 rfl ?_
  rw [show Int32.ofNat 12 = nI 12 from rfl]
  refine Wp.icmp_ge (tgt := 48) (n := 37) dX0_kindWithBody_34 (by decide) rfl (fun c_ => absurd c_ (by decide)) (fun _ => ?_)
  refine Wp.getBO dX0_kindWithBody_37 sl_X0_39 rfl ?_
  refine Wp.iload dX0_kindWithBody_40 rfl rfl ?_
  refine Wp.roload dX0_kindWithBody_42 hsta.2 (j := 5) (by decide) (by omega) rfl ?_
  rw [show ev_BO 5 = nI 21 from rfl]
  refine Wp.if_eq (tgt := 48) (n := 46) dX0_kindWithBody_43 (by decide) rfl (fun c_ => absurd c_ (by decide)) (fun _ => ?_)
  refine Wp.iload_n dX0_kindWithBody_46 rfl rfl ?_
  exact Wp.iret dX0_kindWithBody_47 rfl (by exact ⟨rfl, rfl⟩)
theorem c_kwb_2_2 {B : ev_B} {d : Nat} {h : ev_H} (hsta : ev_sta B) (hd : 1 ≤ d) :
    Wp B d M_X0_kindWithBody 0 [some (.int (nI 2)), some (.int (nI 2)), none, none, none] [] h (fun v h' => v = some (.int (nI 0)) ∧ h' = h) := by
  refine Wp.iload_n dX0_kindWithBody_0 rfl rfl ?_
  refine Wp.istore_n dX0_kindWithBody_1 (Nat.le_of_ble_eq_true rfl) (by dsimp only [ev_st1, ev_st2, ev_cl] <;> rfl) rfl ?_
  refine Wp.iconst (v := (nI 0)) dX0_kindWithBody_2 (by decide) rfl ?_
  refine Wp.istore_n dX0_kindWithBody_3 (Nat.le_of_ble_eq_true rfl) (by dsimp only [ev_st1, ev_st2, ev_cl] <;> rfl) rfl ?_
  refine Wp.iload_n dX0_kindWithBody_4 rfl rfl ?_
  refine Wp.getKA dX0_kindWithBody_5 sl_X0_15 rfl ?_
  refine Wp.rolen dX0_kindWithBody_8 hsta.1 rfl ?_
  rw [show Int32.ofNat 4 = nI 4 from rfl]
  refine Wp.icmp_ge (tgt := 59) (n := 12) dX0_kindWithBody_9 (by decide) rfl (fun c_ => absurd c_ (by decide)) (fun _ => ?_)
  refine Wp.iload_n dX0_kindWithBody_12 rfl rfl ?_
  refine Wp.if_lt (tgt := 59) (n := 16) dX0_kindWithBody_13 (by decide) rfl (fun c_ => absurd c_ (by decide)) (fun _ => ?_)
  refine Wp.iconst (v := (nI 3)) dX0_kindWithBody_16 (by decide) rfl ?_
  refine Wp.iload_n dX0_kindWithBody_17 rfl rfl ?_
  refine Wp.imul dX0_kindWithBody_18 rfl ?_
  refine Wp.iload_n dX0_kindWithBody_19 rfl rfl ?_
  refine Wp.iadd dX0_kindWithBody_20 rfl ?_
  refine Wp.istore dX0_kindWithBody_21 (Nat.le_of_ble_eq_true rfl) (by dsimp only [ev_st1, ev_st2, ev_cl] <;> rfl) rfl ?_
  refine Wp.iload dX0_kindWithBody_23 rfl rfl ?_
  refine Wp.if_lt (tgt := 48) (n := 28) dX0_kindWithBody_25 (by decide) rfl (fun c_ => absurd c_ (by decide)) (fun _ => ?_)
  refine Wp.iload dX0_kindWithBody_28 rfl rfl ?_
  refine Wp.getBO dX0_kindWithBody_30 sl_X0_39 rfl ?_
  refine Wp.rolen dX0_kindWithBody_33 hsta.2 rfl ?_
  rw [show Int32.ofNat 12 = nI 12 from rfl]
  refine Wp.icmp_ge (tgt := 48) (n := 37) dX0_kindWithBody_34 (by decide) rfl (fun c_ => absurd c_ (by decide)) (fun _ => ?_)
  refine Wp.getBO dX0_kindWithBody_37 sl_X0_39 rfl ?_
  refine Wp.iload dX0_kindWithBody_40 rfl rfl ?_
  refine Wp.roload dX0_kindWithBody_42 hsta.2 (j := 8) (by decide) (by omega) rfl ?_
  rw [show ev_BO 8 = nI 0 from rfl]
  refine Wp.if_eq (tgt := 48) (n := 46) dX0_kindWithBody_43 (by decide) rfl (fun _ => ?_) (fun c_ => absurd (by decide) c_)
  refine Wp.iload_n dX0_kindWithBody_48 rfl rfl ?_
  refine Wp.cS dX0_kindWithBody_49 cs_X0_18 rfl (by omega) rfl (Nat.le_of_ble_eq_true rfl) (Nat.le_of_ble_eq_true rfl) rfl (c_X0_kindAbove (d := d - 1) (k := 2) hsta (by decide)) ?_
  rintro _ h_ ⟨rfl, e_⟩
  rw [e_]
  clear e_ h_
  dsimp only [Option.toList, List.drop, List.cons_append, List.nil_append]
  rw [show ev_KA 2 = nI 0 from rfl]
  refine Wp.istore_n dX0_kindWithBody_52 (Nat.le_of_ble_eq_true rfl) (by dsimp only [ev_st1, ev_st2, ev_cl] <;> rfl) rfl ?_
  refine Wp.iinc (v := _ + (nI 1)) dX0_kindWithBody_53 rfl rfl (Nat.le_of_ble_eq_true rfl) (by dsimp only [ev_st1, ev_cl] <;> rfl) rfl ?_
  refine Wp.goto (n := 4) dX0_kindWithBody_56 (by decide) ?_
  refine Wp.iload_n dX0_kindWithBody_4 rfl rfl ?_
  refine Wp.getKA dX0_kindWithBody_5 sl_X0_15 rfl ?_
  refine Wp.rolen dX0_kindWithBody_8 hsta.1 rfl ?_
  rw [show Int32.ofNat 4 = nI 4 from rfl]
  refine Wp.icmp_ge (tgt := 59) (n := 12) dX0_kindWithBody_9 (by decide) rfl (fun c_ => absurd c_ (by decide)) (fun _ => ?_)
  refine Wp.iload_n dX0_kindWithBody_12 rfl rfl ?_
  refine Wp.if_lt (tgt := 59) (n := 16) dX0_kindWithBody_13 (by decide) rfl (fun c_ => absurd c_ (by decide)) (fun _ => ?_)
  refine Wp.iconst (v := (nI 3)) dX0_kindWithBody_16 (by decide) rfl ?_
  refine Wp.iload_n dX0_kindWithBody_17 rfl rfl ?_
  refine Wp.imul dX0_kindWithBody_18 rfl ?_
  refine Wp.iload_n dX0_kindWithBody_19 rfl rfl ?_
  refine Wp.iadd dX0_kindWithBody_20 rfl ?_
  refine Wp.istore dX0_kindWithBody_21 (Nat.le_of_ble_eq_true rfl) (by dsimp only [ev_st1, ev_st2, ev_cl] <;> rfl) rfl ?_
  refine Wp.iload dX0_kindWithBody_23 rfl rfl ?_
  refine Wp.if_lt (tgt := 48) (n := 28) dX0_kindWithBody_25 (by decide) rfl (fun c_ => absurd c_ (by decide)) (fun _ => ?_)
  refine Wp.iload dX0_kindWithBody_28 rfl rfl ?_
  refine Wp.getBO dX0_kindWithBody_30 sl_X0_39 rfl ?_
  refine Wp.rolen dX0_kindWithBody_33 hsta.2 rfl ?_
  rw [show Int32.ofNat 12 = nI 12 from rfl]
  refine Wp.icmp_ge (tgt := 48) (n := 37) dX0_kindWithBody_34 (by decide) rfl (fun c_ => absurd c_ (by decide)) (fun _ => ?_)
  refine Wp.getBO dX0_kindWithBody_37 sl_X0_39 rfl ?_
  refine Wp.iload dX0_kindWithBody_40 rfl rfl ?_
  refine Wp.roload dX0_kindWithBody_42 hsta.2 (j := 2) (by decide) (by omega) rfl ?_
  rw [show ev_BO 2 = nI 12 from rfl]
  refine Wp.if_eq (tgt := 48) (n := 46) dX0_kindWithBody_43 (by decide) rfl (fun c_ => absurd c_ (by decide)) (fun _ => ?_)
  refine Wp.iload_n dX0_kindWithBody_46 rfl rfl ?_
  exact Wp.iret dX0_kindWithBody_47 rfl (by exact ⟨rfl, rfl⟩)
theorem c_kwb_3_2 {B : ev_B} {d : Nat} {h : ev_H} (hsta : ev_sta B) (hd : 1 ≤ d) :
    Wp B d M_X0_kindWithBody 0 [some (.int (nI 3)), some (.int (nI 2)), none, none, none] [] h (fun v h' => v = some (.int (nI 1)) ∧ h' = h) := by
  refine Wp.iload_n dX0_kindWithBody_0 rfl rfl ?_
  refine Wp.istore_n dX0_kindWithBody_1 (Nat.le_of_ble_eq_true rfl) (by dsimp only [ev_st1, ev_st2, ev_cl] <;> rfl) rfl ?_
  refine Wp.iconst (v := (nI 0)) dX0_kindWithBody_2 (by decide) rfl ?_
  refine Wp.istore_n dX0_kindWithBody_3 (Nat.le_of_ble_eq_true rfl) (by dsimp only [ev_st1, ev_st2, ev_cl] <;> rfl) rfl ?_
  refine Wp.iload_n dX0_kindWithBody_4 rfl rfl ?_
  refine Wp.getKA dX0_kindWithBody_5 sl_X0_15 rfl ?_
  refine Wp.rolen dX0_kindWithBody_8 hsta.1 rfl ?_
  rw [show Int32.ofNat 4 = nI 4 from rfl]
  refine Wp.icmp_ge (tgt := 59) (n := 12) dX0_kindWithBody_9 (by decide) rfl (fun c_ => absurd c_ (by decide)) (fun _ => ?_)
  refine Wp.iload_n dX0_kindWithBody_12 rfl rfl ?_
  refine Wp.if_lt (tgt := 59) (n := 16) dX0_kindWithBody_13 (by decide) rfl (fun c_ => absurd c_ (by decide)) (fun _ => ?_)
  refine Wp.iconst (v := (nI 3)) dX0_kindWithBody_16 (by decide) rfl ?_
  refine Wp.iload_n dX0_kindWithBody_17 rfl rfl ?_
  refine Wp.imul dX0_kindWithBody_18 rfl ?_
  refine Wp.iload_n dX0_kindWithBody_19 rfl rfl ?_
  refine Wp.iadd dX0_kindWithBody_20 rfl ?_
  refine Wp.istore dX0_kindWithBody_21 (Nat.le_of_ble_eq_true rfl) (by dsimp only [ev_st1, ev_st2, ev_cl] <;> rfl) rfl ?_
  refine Wp.iload dX0_kindWithBody_23 rfl rfl ?_
  refine Wp.if_lt (tgt := 48) (n := 28) dX0_kindWithBody_25 (by decide) rfl (fun c_ => absurd c_ (by decide)) (fun _ => ?_)
  refine Wp.iload dX0_kindWithBody_28 rfl rfl ?_
  refine Wp.getBO dX0_kindWithBody_30 sl_X0_39 rfl ?_
  refine Wp.rolen dX0_kindWithBody_33 hsta.2 rfl ?_
  rw [show Int32.ofNat 12 = nI 12 from rfl]
  refine Wp.icmp_ge (tgt := 48) (n := 37) dX0_kindWithBody_34 (by decide) rfl (fun c_ => absurd c_ (by decide)) (fun _ => ?_)
  refine Wp.getBO dX0_kindWithBody_37 sl_X0_39 rfl ?_
  refine Wp.iload dX0_kindWithBody_40 rfl rfl ?_
  refine Wp.roload dX0_kindWithBody_42 hsta.2 (j := 11) (by decide) (by omega) rfl ?_
  rw [show ev_BO 11 = nI 0 from rfl]
  refine Wp.if_eq (tgt := 48) (n := 46) dX0_kindWithBody_43 (by decide) rfl (fun _ => ?_) (fun c_ => absurd (by decide) c_)
  refine Wp.iload_n dX0_kindWithBody_48 rfl rfl ?_
  refine Wp.cS dX0_kindWithBody_49 cs_X0_18 rfl (by omega) rfl (Nat.le_of_ble_eq_true rfl) (Nat.le_of_ble_eq_true rfl) rfl (c_X0_kindAbove (d := d - 1) (k := 3) hsta (by decide)) ?_
  rintro _ h_ ⟨rfl, e_⟩
  rw [e_]
  clear e_ h_
  dsimp only [Option.toList, List.drop, List.cons_append, List.nil_append]
  rw [show ev_KA 3 = nI 1 from rfl]
  refine Wp.istore_n dX0_kindWithBody_52 (Nat.le_of_ble_eq_true rfl) (by dsimp only [ev_st1, ev_st2, ev_cl] <;> rfl) rfl ?_
  refine Wp.iinc (v := _ + (nI 1)) dX0_kindWithBody_53 rfl rfl (Nat.le_of_ble_eq_true rfl) (by dsimp only [ev_st1, ev_cl] <;> rfl) rfl ?_
  refine Wp.goto (n := 4) dX0_kindWithBody_56 (by decide) ?_
  refine Wp.iload_n dX0_kindWithBody_4 rfl rfl ?_
  refine Wp.getKA dX0_kindWithBody_5 sl_X0_15 rfl ?_
  refine Wp.rolen dX0_kindWithBody_8 hsta.1 rfl ?_
  rw [show Int32.ofNat 4 = nI 4 from rfl]
  refine Wp.icmp_ge (tgt := 59) (n := 12) dX0_kindWithBody_9 (by decide) rfl (fun c_ => absurd c_ (by decide)) (fun _ => ?_)
  refine Wp.iload_n dX0_kindWithBody_12 rfl rfl ?_
  refine Wp.if_lt (tgt := 59) (n := 16) dX0_kindWithBody_13 (by decide) rfl (fun c_ => absurd c_ (by decide)) (fun _ => ?_)
  refine Wp.iconst (v := (nI 3)) dX0_kindWithBody_16 (by decide) rfl ?_
  refine Wp.iload_n dX0_kindWithBody_17 rfl rfl ?_
  refine Wp.imul dX0_kindWithBody_18 rfl ?_
  refine Wp.iload_n dX0_kindWithBody_19 rfl rfl ?_
  refine Wp.iadd dX0_kindWithBody_20 rfl ?_
  refine Wp.istore dX0_kindWithBody_21 (Nat.le_of_ble_eq_true rfl) (by dsimp only [ev_st1, ev_st2, ev_cl] <;> rfl) rfl ?_
  refine Wp.iload dX0_kindWithBody_23 rfl rfl ?_
  refine Wp.if_lt (tgt := 48) (n := 28) dX0_kindWithBody_25 (by decide) rfl (fun c_ => absurd c_ (by decide)) (fun _ => ?_)
  refine Wp.iload dX0_kindWithBody_28 rfl rfl ?_
  refine Wp.getBO dX0_kindWithBody_30 sl_X0_39 rfl ?_
  refine Wp.rolen dX0_kindWithBody_33 hsta.2 rfl ?_
  rw [show Int32.ofNat 12 = nI 12 from rfl]
  refine Wp.icmp_ge (tgt := 48) (n := 37) dX0_kindWithBody_34 (by decide) rfl (fun c_ => absurd c_ (by decide)) (fun _ => ?_)
  refine Wp.getBO dX0_kindWithBody_37 sl_X0_39 rfl ?_
  refine Wp.iload dX0_kindWithBody_40 rfl rfl ?_
  refine Wp.roload dX0_kindWithBody_42 hsta.2 (j := 5) (by decide) (by omega) rfl ?_
  rw [show ev_BO 5 = nI 21 from rfl]
  refine Wp.if_eq (tgt := 48) (n := 46) dX0_kindWithBody_43 (by decide) rfl (fun c_ => absurd c_ (by decide)) (fun _ => ?_)
  refine Wp.iload_n dX0_kindWithBody_46 rfl rfl ?_
  exact Wp.iret dX0_kindWithBody_47 rfl (by exact ⟨rfl, rfl⟩)
set_option maxHeartbeats 1000000 in
theorem pl_a0 {B : ev_B} {d t o k dp : Nat} {m x : Int32} {X : Nat → Prop} {h : ev_H} {A : Nat → Nat} {C : Nat → Option ev_E} {σ : Sg} (hS : CS X h A C) (hA : ActS A C σ) (hR : OffR A C t o k m) (hsta : ev_sta B) (hn9 : σ.nT ≤ 940) (hdp : dp ≤ 36) (hd : 2 ≤ d) :
    Wp B d M_X0_play 0 [some (.ref (A 10)), some (.ref (A t)), some (.int (nI 0)), some (.int (nI 0)), some (.int x), some (.int (nI dp)), none, none, none, none, none] [] h (PQ X h A C σ ([10]) (some (.int (x + m)))) := by
  obtain ⟨ht11, ci, tc, V, Vc, hO, htc, hV, v0, v1, v2, hc, c3⟩ := id hR
  obtain ⟨Va, ga, hVa, -⟩ := id hA
  refine Wp.iload_n dX0_play_0 rfl rfl ?_
  refine Wp.iload_n dX0_play_1 rfl rfl ?_
  refine Wp.cS dX0_play_2 cs_X0_35 rfl (by omega) rfl (Nat.le_of_ble_eq_true rfl) (Nat.le_of_ble_eq_true rfl) rfl (c_kwb_0_0 (d := d - 1) hsta (by omega)) ?_
  rintro _ h_ ⟨rfl, e_⟩
  rw [e_]
  clear e_ h_
  dsimp only [Option.toList, List.drop, List.cons_append, List.nil_append]
  refine Wp.istore dX0_play_5 (Nat.le_of_ble_eq_true rfl) (by dsimp only [ev_st1, ev_st2, ev_cl] <;> rfl) rfl ?_
  refine Wp.iload dX0_play_7 rfl rfl ?_
  refine Wp.if_lt (tgt := 19) (n := 12) dX0_play_9 (by decide) rfl (fun c_ => absurd c_ (by decide)) (fun _ => ?_)
  refine Wp.iload dX0_play_12 rfl rfl ?_
  refine Wp.bipush (v := (nI 40)) dX0_play_14 (by decide) rfl ?_
  refine Wp.icmp_le (tgt := 21) (n := 19) dX0_play_16 (by decide) rfl (fun c_16 => ?_) (fun c_16 => ?_)
  · try simp (disch := omega) only [nI_bit0, nI_bit1, Bool.not_eq_false, Bool.not_eq_true] at c_16
    try simp (disch := omega) only [i_lt, i_le, i_eq, l_lt, l_le, l_eq, i_0, i_m1, l_0, nI_tI, iI_tI, lI_tI, Int.not_lt, Int.not_le] at c_16
    refine Wp.aload_n dX0_play_21 rfl (by first | exact Or.inr ⟨_, rfl⟩ | exact Or.inl rfl) rfl ?_
    refine Wp.get dX0_play_22 (fl_X0_26 hO) (hS.at hV) v1 rfl ?_
    refine Wp.istore dX0_play_25 (Nat.le_of_ble_eq_true rfl) (by dsimp only [ev_st1, ev_st2, ev_cl] <;> rfl) rfl ?_
    refine Wp.iload dX0_play_27 rfl rfl ?_
    refine Wp.cS dX0_play_29 cs_X0_18 rfl (by omega) rfl (Nat.le_of_ble_eq_true rfl) (Nat.le_of_ble_eq_true rfl) rfl (c_X0_kindAbove (d := d - 1) (k := 0) hsta (by decide)) ?_
    rintro _ h_ ⟨rfl, e_⟩
    rw [e_]
    clear e_ h_
    dsimp only [Option.toList, List.drop, List.cons_append, List.nil_append]
    rw [show ev_KA 0 = (-1) from rfl]
    refine Wp.istore dX0_play_32 (Nat.le_of_ble_eq_true rfl) (by dsimp only [ev_st1, ev_st2, ev_cl] <;> rfl) rfl ?_
    refine Wp.iload dX0_play_34 rfl rfl ?_
    refine Wp.iconst (v := (nI 1)) dX0_play_36 (by decide) rfl ?_
    refine Wp.iadd dX0_play_37 rfl ?_
    rw [nI_add1]
    refine Wp.istore dX0_play_38 (Nat.le_of_ble_eq_true rfl) (by dsimp only [ev_st1, ev_st2, ev_cl] <;> rfl) rfl ?_
    refine Wp.getBO dX0_play_40 sl_X0_39 rfl ?_
    refine Wp.iconst (v := (nI 3)) dX0_play_43 (by decide) rfl ?_
    refine Wp.iload dX0_play_44 rfl rfl ?_
    refine Wp.imul dX0_play_46 rfl ?_
    refine Wp.iload_n dX0_play_47 rfl rfl ?_
    refine Wp.iadd dX0_play_48 rfl ?_
    refine Wp.roload dX0_play_49 hsta.2 (j := 0) (by decide) (by omega) rfl ?_
    rw [show ev_BO 0 = nI 10 from rfl]
    refine Wp.istore dX0_play_50 (Nat.le_of_ble_eq_true rfl) (by dsimp only [ev_st1, ev_st2, ev_cl] <;> rfl) rfl ?_
    refine Wp.aload_n dX0_play_52 rfl (by first | exact Or.inr ⟨_, rfl⟩ | exact Or.inl rfl) rfl ?_
    refine Wp.iload dX0_play_53 rfl rfl ?_
    refine Wp.cV dX0_play_55 cv_X0_42 rfl (by omega) rfl (Nat.le_of_ble_eq_true rfl) (Nat.le_of_ble_eq_true rfl) (hS.at hVa) rfl (c_X0_note (d := d - 1) (σ := σ) (b := 10) hS hA (by omega)) ?_
    rintro _ h1 ⟨rfl, C1, S1, o1, f1, A1⟩
    dsimp only [Option.toList, List.drop, List.cons_append, List.nil_append]
    have R1 := hR.same f1
    refine Wp.iload dX0_play_58 rfl rfl ?_
    refine Wp.lsw (off := 76) (n := 136) dX0_play_60 (by decide) (by decide) (by decide) ?_
    refine Wp.iload dX0_play_136 rfl rfl ?_
    refine Wp.aload_n dX0_play_138 rfl (by first | exact Or.inr ⟨_, rfl⟩ | exact Or.inl rfl) rfl ?_
    refine Wp.get dX0_play_139 (fl_X0_46 hO) (S1.at ((f1 (t) (by omega) (by omega)).trans hV)) v2 rfl ?_
    refine Wp.get dX0_play_142 fl_X0_50 (S1.at ((f1 (tc) (by omega) (by omega)).trans hc)) c3 rfl ?_
    refine Wp.iadd dX0_play_145 rfl ?_
    exact Wp.iret dX0_play_146 rfl (by exact ⟨rfl, _, S1, o1, fun s h1 h2 => f1 s h1 h2, by have e_ := A1; exact e_⟩)
  · try simp (disch := omega) only [nI_bit0, nI_bit1, Bool.not_eq_false, Bool.not_eq_true] at c_16
    try simp (disch := omega) only [i_lt, i_le, i_eq, l_lt, l_le, l_eq, i_0, i_m1, l_0, nI_tI, iI_tI, lI_tI, Int.not_lt, Int.not_le] at c_16
    omega
set_option maxHeartbeats 1000000 in
theorem pl_a2 {B : ev_B} {d t o k dp : Nat} {m x : Int32} {X : Nat → Prop} {h : ev_H} {A : Nat → Nat} {C : Nat → Option ev_E} {σ : Sg} (hS : CS X h A C) (hA : ActS A C σ) (hR : OffR A C t o k m) (hsta : ev_sta B) (hn9 : σ.nT ≤ 940) (hdp : dp ≤ 36) (hd : 2 ≤ d) :
    Wp B d M_X0_play 0 [some (.ref (A 10)), some (.ref (A t)), some (.int (nI 2)), some (.int (nI 0)), some (.int x), some (.int (nI dp)), none, none, none, none, none] [] h (PQ X h A C σ ([10]) (some (.int (x + m)))) := by
  obtain ⟨ht11, ci, tc, V, Vc, hO, htc, hV, v0, v1, v2, hc, c3⟩ := id hR
  obtain ⟨Va, ga, hVa, -⟩ := id hA
  refine Wp.iload_n dX0_play_0 rfl rfl ?_
  refine Wp.iload_n dX0_play_1 rfl rfl ?_
  refine Wp.cS dX0_play_2 cs_X0_35 rfl (by omega) rfl (Nat.le_of_ble_eq_true rfl) (Nat.le_of_ble_eq_true rfl) rfl (c_kwb_2_0 (d := d - 1) hsta (by omega)) ?_
  rintro _ h_ ⟨rfl, e_⟩
  rw [e_]
  clear e_ h_
  dsimp only [Option.toList, List.drop, List.cons_append, List.nil_append]
  refine Wp.istore dX0_play_5 (Nat.le_of_ble_eq_true rfl) (by dsimp only [ev_st1, ev_st2, ev_cl] <;> rfl) rfl ?_
  refine Wp.iload dX0_play_7 rfl rfl ?_
  refine Wp.if_lt (tgt := 19) (n := 12) dX0_play_9 (by decide) rfl (fun c_ => absurd c_ (by decide)) (fun _ => ?_)
  refine Wp.iload dX0_play_12 rfl rfl ?_
  refine Wp.bipush (v := (nI 40)) dX0_play_14 (by decide) rfl ?_
  refine Wp.icmp_le (tgt := 21) (n := 19) dX0_play_16 (by decide) rfl (fun c_16 => ?_) (fun c_16 => ?_)
  · try simp (disch := omega) only [nI_bit0, nI_bit1, Bool.not_eq_false, Bool.not_eq_true] at c_16
    try simp (disch := omega) only [i_lt, i_le, i_eq, l_lt, l_le, l_eq, i_0, i_m1, l_0, nI_tI, iI_tI, lI_tI, Int.not_lt, Int.not_le] at c_16
    refine Wp.aload_n dX0_play_21 rfl (by first | exact Or.inr ⟨_, rfl⟩ | exact Or.inl rfl) rfl ?_
    refine Wp.get dX0_play_22 (fl_X0_26 hO) (hS.at hV) v1 rfl ?_
    refine Wp.istore dX0_play_25 (Nat.le_of_ble_eq_true rfl) (by dsimp only [ev_st1, ev_st2, ev_cl] <;> rfl) rfl ?_
    refine Wp.iload dX0_play_27 rfl rfl ?_
    refine Wp.cS dX0_play_29 cs_X0_18 rfl (by omega) rfl (Nat.le_of_ble_eq_true rfl) (Nat.le_of_ble_eq_true rfl) rfl (c_X0_kindAbove (d := d - 1) (k := 0) hsta (by decide)) ?_
    rintro _ h_ ⟨rfl, e_⟩
    rw [e_]
    clear e_ h_
    dsimp only [Option.toList, List.drop, List.cons_append, List.nil_append]
    rw [show ev_KA 0 = (-1) from rfl]
    refine Wp.istore dX0_play_32 (Nat.le_of_ble_eq_true rfl) (by dsimp only [ev_st1, ev_st2, ev_cl] <;> rfl) rfl ?_
    refine Wp.iload dX0_play_34 rfl rfl ?_
    refine Wp.iconst (v := (nI 1)) dX0_play_36 (by decide) rfl ?_
    refine Wp.iadd dX0_play_37 rfl ?_
    rw [nI_add1]
    refine Wp.istore dX0_play_38 (Nat.le_of_ble_eq_true rfl) (by dsimp only [ev_st1, ev_st2, ev_cl] <;> rfl) rfl ?_
    refine Wp.getBO dX0_play_40 sl_X0_39 rfl ?_
    refine Wp.iconst (v := (nI 3)) dX0_play_43 (by decide) rfl ?_
    refine Wp.iload dX0_play_44 rfl rfl ?_
    refine Wp.imul dX0_play_46 rfl ?_
    refine Wp.iload_n dX0_play_47 rfl rfl ?_
    refine Wp.iadd dX0_play_48 rfl ?_
    refine Wp.roload dX0_play_49 hsta.2 (j := 0) (by decide) (by omega) rfl ?_
    rw [show ev_BO 0 = nI 10 from rfl]
    refine Wp.istore dX0_play_50 (Nat.le_of_ble_eq_true rfl) (by dsimp only [ev_st1, ev_st2, ev_cl] <;> rfl) rfl ?_
    refine Wp.aload_n dX0_play_52 rfl (by first | exact Or.inr ⟨_, rfl⟩ | exact Or.inl rfl) rfl ?_
    refine Wp.iload dX0_play_53 rfl rfl ?_
    refine Wp.cV dX0_play_55 cv_X0_42 rfl (by omega) rfl (Nat.le_of_ble_eq_true rfl) (Nat.le_of_ble_eq_true rfl) (hS.at hVa) rfl (c_X0_note (d := d - 1) (σ := σ) (b := 10) hS hA (by omega)) ?_
    rintro _ h1 ⟨rfl, C1, S1, o1, f1, A1⟩
    dsimp only [Option.toList, List.drop, List.cons_append, List.nil_append]
    have R1 := hR.same f1
    refine Wp.iload dX0_play_58 rfl rfl ?_
    refine Wp.lsw (off := 76) (n := 136) dX0_play_60 (by decide) (by decide) (by decide) ?_
    refine Wp.iload dX0_play_136 rfl rfl ?_
    refine Wp.aload_n dX0_play_138 rfl (by first | exact Or.inr ⟨_, rfl⟩ | exact Or.inl rfl) rfl ?_
    refine Wp.get dX0_play_139 (fl_X0_46 hO) (S1.at ((f1 (t) (by omega) (by omega)).trans hV)) v2 rfl ?_
    refine Wp.get dX0_play_142 fl_X0_50 (S1.at ((f1 (tc) (by omega) (by omega)).trans hc)) c3 rfl ?_
    refine Wp.iadd dX0_play_145 rfl ?_
    exact Wp.iret dX0_play_146 rfl (by exact ⟨rfl, _, S1, o1, fun s h1 h2 => f1 s h1 h2, by have e_ := A1; exact e_⟩)
  · try simp (disch := omega) only [nI_bit0, nI_bit1, Bool.not_eq_false, Bool.not_eq_true] at c_16
    try simp (disch := omega) only [i_lt, i_le, i_eq, l_lt, l_le, l_eq, i_0, i_m1, l_0, nI_tI, iI_tI, lI_tI, Int.not_lt, Int.not_le] at c_16
    omega
set_option maxHeartbeats 1000000 in
theorem pl_a1 {B : ev_B} {d t o k dp : Nat} {m x : Int32} {X : Nat → Prop} {h : ev_H} {A : Nat → Nat} {C : Nat → Option ev_E} {σ : Sg} (hS : CS X h A C) (hA : ActS A C σ) (hR : OffR A C t o k m) (hsta : ev_sta B) (hn9 : σ.nT ≤ 930) (hdp : dp ≤ 35) (hd : 3 ≤ d) :
    Wp B d M_X0_play 0 [some (.ref (A 10)), some (.ref (A t)), some (.int (nI 1)), some (.int (nI 0)), some (.int x), some (.int (nI dp)), none, none, none, none, none] [] h (PQ X h A C σ ((tAskR m x).1) (some (.int ((tAskR m x).2)))) := by
  obtain ⟨ht11, ci, tc, V, Vc, hO, htc, hV, v0, v1, v2, hc, c3⟩ := id hR
  obtain ⟨Va, ga, hVa, -⟩ := id hA
  refine Wp.iload_n dX0_play_0 rfl rfl ?_
  refine Wp.iload_n dX0_play_1 rfl rfl ?_
  refine Wp.cS dX0_play_2 cs_X0_35 rfl (by omega) rfl (Nat.le_of_ble_eq_true rfl) (Nat.le_of_ble_eq_true rfl) rfl (c_kwb_1_0 (d := d - 1) hsta (by omega)) ?_
  rintro _ h_ ⟨rfl, e_⟩
  rw [e_]
  clear e_ h_
  dsimp only [Option.toList, List.drop, List.cons_append, List.nil_append]
  refine Wp.istore dX0_play_5 (Nat.le_of_ble_eq_true rfl) (by dsimp only [ev_st1, ev_st2, ev_cl] <;> rfl) rfl ?_
  refine Wp.iload dX0_play_7 rfl rfl ?_
  refine Wp.if_lt (tgt := 19) (n := 12) dX0_play_9 (by decide) rfl (fun c_ => absurd c_ (by decide)) (fun _ => ?_)
  refine Wp.iload dX0_play_12 rfl rfl ?_
  refine Wp.bipush (v := (nI 40)) dX0_play_14 (by decide) rfl ?_
  refine Wp.icmp_le (tgt := 21) (n := 19) dX0_play_16 (by decide) rfl (fun c_16 => ?_) (fun c_16 => ?_)
  · try simp (disch := omega) only [nI_bit0, nI_bit1, Bool.not_eq_false, Bool.not_eq_true] at c_16
    try simp (disch := omega) only [i_lt, i_le, i_eq, l_lt, l_le, l_eq, i_0, i_m1, l_0, nI_tI, iI_tI, lI_tI, Int.not_lt, Int.not_le] at c_16
    refine Wp.aload_n dX0_play_21 rfl (by first | exact Or.inr ⟨_, rfl⟩ | exact Or.inl rfl) rfl ?_
    refine Wp.get dX0_play_22 (fl_X0_26 hO) (hS.at hV) v1 rfl ?_
    refine Wp.istore dX0_play_25 (Nat.le_of_ble_eq_true rfl) (by dsimp only [ev_st1, ev_st2, ev_cl] <;> rfl) rfl ?_
    refine Wp.iload dX0_play_27 rfl rfl ?_
    refine Wp.cS dX0_play_29 cs_X0_18 rfl (by omega) rfl (Nat.le_of_ble_eq_true rfl) (Nat.le_of_ble_eq_true rfl) rfl (c_X0_kindAbove (d := d - 1) (k := 1) hsta (by decide)) ?_
    rintro _ h_ ⟨rfl, e_⟩
    rw [e_]
    clear e_ h_
    dsimp only [Option.toList, List.drop, List.cons_append, List.nil_append]
    rw [show ev_KA 1 = nI 0 from rfl]
    refine Wp.istore dX0_play_32 (Nat.le_of_ble_eq_true rfl) (by dsimp only [ev_st1, ev_st2, ev_cl] <;> rfl) rfl ?_
    refine Wp.iload dX0_play_34 rfl rfl ?_
    refine Wp.iconst (v := (nI 1)) dX0_play_36 (by decide) rfl ?_
    refine Wp.iadd dX0_play_37 rfl ?_
    rw [nI_add1]
    refine Wp.istore dX0_play_38 (Nat.le_of_ble_eq_true rfl) (by dsimp only [ev_st1, ev_st2, ev_cl] <;> rfl) rfl ?_
    refine Wp.getBO dX0_play_40 sl_X0_39 rfl ?_
    refine Wp.iconst (v := (nI 3)) dX0_play_43 (by decide) rfl ?_
    refine Wp.iload dX0_play_44 rfl rfl ?_
    refine Wp.imul dX0_play_46 rfl ?_
    refine Wp.iload_n dX0_play_47 rfl rfl ?_
    refine Wp.iadd dX0_play_48 rfl ?_
    refine Wp.roload dX0_play_49 hsta.2 (j := 3) (by decide) (by omega) rfl ?_
    rw [show ev_BO 3 = nI 20 from rfl]
    refine Wp.istore dX0_play_50 (Nat.le_of_ble_eq_true rfl) (by dsimp only [ev_st1, ev_st2, ev_cl] <;> rfl) rfl ?_
    refine Wp.aload_n dX0_play_52 rfl (by first | exact Or.inr ⟨_, rfl⟩ | exact Or.inl rfl) rfl ?_
    refine Wp.iload dX0_play_53 rfl rfl ?_
    refine Wp.cV dX0_play_55 cv_X0_42 rfl (by omega) rfl (Nat.le_of_ble_eq_true rfl) (Nat.le_of_ble_eq_true rfl) (hS.at hVa) rfl (c_X0_note (d := d - 1) (σ := σ) (b := 20) hS hA (by omega)) ?_
    rintro _ h1 ⟨rfl, C1, S1, o1, f1, A1⟩
    dsimp only [Option.toList, List.drop, List.cons_append, List.nil_append]
    have R1 := hR.same f1
    refine Wp.iload dX0_play_58 rfl rfl ?_
    refine Wp.lsw (off := 133) (n := 193) dX0_play_60 (by decide) (by decide) (by decide) ?_
    refine Wp.aload_n dX0_play_193 rfl (by first | exact Or.inr ⟨_, rfl⟩ | exact Or.inl rfl) rfl ?_
    refine Wp.aload_n dX0_play_194 rfl (by first | exact Or.inr ⟨_, rfl⟩ | exact Or.inl rfl) rfl ?_
    refine Wp.iload dX0_play_195 rfl rfl ?_
    refine Wp.iconst (v := (nI 0)) dX0_play_197 (by decide) rfl ?_
    refine Wp.iload dX0_play_198 rfl rfl ?_
    refine Wp.iload dX0_play_200 rfl rfl ?_
    refine Wp.cS dX0_play_202 cs_X0_31 rfl (by omega) rfl (Nat.le_of_ble_eq_true rfl) (Nat.le_of_ble_eq_true rfl) rfl (pl_a0 (d := d - 1) (σ := (σ.runs [20])) (x := x) S1 A1 R1 hsta (by rw [runs_nT]; simp only [List.length_cons, List.length_append, List.length_nil]; omega) (by omega) (by omega)) ?_
    rintro _ h2 ⟨rfl, C2, S2, o2, f2, A2⟩
    dsimp only [Option.toList, List.drop, List.cons_append, List.nil_append]
    have o2 := o1.tr o2
    have R2 := R1.same f2
    refine Wp.iconst (v := (nI 5)) dX0_play_205 (by decide) rfl ?_
    refine Wp.ixor dX0_play_206 rfl ?_
    exact Wp.iret dX0_play_207 rfl (by exact ⟨rfl, _, S2, o2, fun s h1 h2 => (f2 s h1 h2).trans (f1 s h1 h2), by have e_ := A2; rw [runs_app] at e_; exact e_⟩)
  · try simp (disch := omega) only [nI_bit0, nI_bit1, Bool.not_eq_false, Bool.not_eq_true] at c_16
    try simp (disch := omega) only [i_lt, i_le, i_eq, l_lt, l_le, l_eq, i_0, i_m1, l_0, nI_tI, iI_tI, lI_tI, Int.not_lt, Int.not_le] at c_16
    omega
set_option maxHeartbeats 1000000 in
theorem pl_a3 {B : ev_B} {d t o k dp : Nat} {m x : Int32} {X : Nat → Prop} {h : ev_H} {A : Nat → Nat} {C : Nat → Option ev_E} {σ : Sg} (hS : CS X h A C) (hA : ActS A C σ) (hR : OffR A C t o k m) (hsta : ev_sta B) (hn9 : σ.nT ≤ 920) (hdp : dp ≤ 34) (hd : 4 ≤ d) :
    Wp B d M_X0_play 0 [some (.ref (A 10)), some (.ref (A t)), some (.int (nI 3)), some (.int (nI 0)), some (.int x), some (.int (nI dp)), none, none, none, none, none] [] h (PQ X h A C σ (40 :: (tAskR m x).1) (some (.int ((tAskR m x).2 + nI o)))) := by
  obtain ⟨ht11, ci, tc, V, Vc, hO, htc, hV, v0, v1, v2, hc, c3⟩ := id hR
  obtain ⟨Va, ga, hVa, -⟩ := id hA
  refine Wp.iload_n dX0_play_0 rfl rfl ?_
  refine Wp.iload_n dX0_play_1 rfl rfl ?_
  refine Wp.cS dX0_play_2 cs_X0_35 rfl (by omega) rfl (Nat.le_of_ble_eq_true rfl) (Nat.le_of_ble_eq_true rfl) rfl (c_kwb_3_0 (d := d - 1) hsta (by omega)) ?_
  rintro _ h_ ⟨rfl, e_⟩
  rw [e_]
  clear e_ h_
  dsimp only [Option.toList, List.drop, List.cons_append, List.nil_append]
  refine Wp.istore dX0_play_5 (Nat.le_of_ble_eq_true rfl) (by dsimp only [ev_st1, ev_st2, ev_cl] <;> rfl) rfl ?_
  refine Wp.iload dX0_play_7 rfl rfl ?_
  refine Wp.if_lt (tgt := 19) (n := 12) dX0_play_9 (by decide) rfl (fun c_ => absurd c_ (by decide)) (fun _ => ?_)
  refine Wp.iload dX0_play_12 rfl rfl ?_
  refine Wp.bipush (v := (nI 40)) dX0_play_14 (by decide) rfl ?_
  refine Wp.icmp_le (tgt := 21) (n := 19) dX0_play_16 (by decide) rfl (fun c_16 => ?_) (fun c_16 => ?_)
  · try simp (disch := omega) only [nI_bit0, nI_bit1, Bool.not_eq_false, Bool.not_eq_true] at c_16
    try simp (disch := omega) only [i_lt, i_le, i_eq, l_lt, l_le, l_eq, i_0, i_m1, l_0, nI_tI, iI_tI, lI_tI, Int.not_lt, Int.not_le] at c_16
    refine Wp.aload_n dX0_play_21 rfl (by first | exact Or.inr ⟨_, rfl⟩ | exact Or.inl rfl) rfl ?_
    refine Wp.get dX0_play_22 (fl_X0_26 hO) (hS.at hV) v1 rfl ?_
    refine Wp.istore dX0_play_25 (Nat.le_of_ble_eq_true rfl) (by dsimp only [ev_st1, ev_st2, ev_cl] <;> rfl) rfl ?_
    refine Wp.iload dX0_play_27 rfl rfl ?_
    refine Wp.cS dX0_play_29 cs_X0_18 rfl (by omega) rfl (Nat.le_of_ble_eq_true rfl) (Nat.le_of_ble_eq_true rfl) rfl (c_X0_kindAbove (d := d - 1) (k := 3) hsta (by decide)) ?_
    rintro _ h_ ⟨rfl, e_⟩
    rw [e_]
    clear e_ h_
    dsimp only [Option.toList, List.drop, List.cons_append, List.nil_append]
    rw [show ev_KA 3 = nI 1 from rfl]
    refine Wp.istore dX0_play_32 (Nat.le_of_ble_eq_true rfl) (by dsimp only [ev_st1, ev_st2, ev_cl] <;> rfl) rfl ?_
    refine Wp.iload dX0_play_34 rfl rfl ?_
    refine Wp.iconst (v := (nI 1)) dX0_play_36 (by decide) rfl ?_
    refine Wp.iadd dX0_play_37 rfl ?_
    rw [nI_add1]
    refine Wp.istore dX0_play_38 (Nat.le_of_ble_eq_true rfl) (by dsimp only [ev_st1, ev_st2, ev_cl] <;> rfl) rfl ?_
    refine Wp.getBO dX0_play_40 sl_X0_39 rfl ?_
    refine Wp.iconst (v := (nI 3)) dX0_play_43 (by decide) rfl ?_
    refine Wp.iload dX0_play_44 rfl rfl ?_
    refine Wp.imul dX0_play_46 rfl ?_
    refine Wp.iload_n dX0_play_47 rfl rfl ?_
    refine Wp.iadd dX0_play_48 rfl ?_
    refine Wp.roload dX0_play_49 hsta.2 (j := 9) (by decide) (by omega) rfl ?_
    rw [show ev_BO 9 = nI 40 from rfl]
    refine Wp.istore dX0_play_50 (Nat.le_of_ble_eq_true rfl) (by dsimp only [ev_st1, ev_st2, ev_cl] <;> rfl) rfl ?_
    refine Wp.aload_n dX0_play_52 rfl (by first | exact Or.inr ⟨_, rfl⟩ | exact Or.inl rfl) rfl ?_
    refine Wp.iload dX0_play_53 rfl rfl ?_
    refine Wp.cV dX0_play_55 cv_X0_42 rfl (by omega) rfl (Nat.le_of_ble_eq_true rfl) (Nat.le_of_ble_eq_true rfl) (hS.at hVa) rfl (c_X0_note (d := d - 1) (σ := σ) (b := 40) hS hA (by omega)) ?_
    rintro _ h1 ⟨rfl, C1, S1, o1, f1, A1⟩
    dsimp only [Option.toList, List.drop, List.cons_append, List.nil_append]
    have R1 := hR.same f1
    refine Wp.iload dX0_play_58 rfl rfl ?_
    refine Wp.lsw (off := 190) (n := 250) dX0_play_60 (by decide) (by decide) (by decide) ?_
    refine Wp.aload_n dX0_play_250 rfl (by first | exact Or.inr ⟨_, rfl⟩ | exact Or.inl rfl) rfl ?_
    refine Wp.aload_n dX0_play_251 rfl (by first | exact Or.inr ⟨_, rfl⟩ | exact Or.inl rfl) rfl ?_
    refine Wp.iload dX0_play_252 rfl rfl ?_
    refine Wp.iconst (v := (nI 0)) dX0_play_254 (by decide) rfl ?_
    refine Wp.iload dX0_play_255 rfl rfl ?_
    refine Wp.iload dX0_play_257 rfl rfl ?_
    refine Wp.cS dX0_play_259 cs_X0_31 rfl (by omega) rfl (Nat.le_of_ble_eq_true rfl) (Nat.le_of_ble_eq_true rfl) rfl (pl_a1 (d := d - 1) (σ := (σ.runs [40])) (x := x) S1 A1 R1 hsta (by rw [runs_nT]; simp only [List.length_cons, List.length_append, List.length_nil]; omega) (by omega) (by omega)) ?_
    rintro _ h2 ⟨rfl, C2, S2, o2, f2, A2⟩
    dsimp only [Option.toList, List.drop, List.cons_append, List.nil_append]
    have o2 := o1.tr o2
    have R2 := R1.same f2
    refine Wp.aload_n dX0_play_262 rfl (by first | exact Or.inr ⟨_, rfl⟩ | exact Or.inl rfl) rfl ?_
    refine Wp.get dX0_play_263 (fl_X0_55 hO) (S2.at ((f2 (t) (by omega) (by omega)).trans ((f1 (t) (by omega) (by omega)).trans hV))) v0 rfl ?_
    refine Wp.iadd dX0_play_266 rfl ?_
    exact Wp.iret dX0_play_267 rfl (by exact ⟨rfl, _, S2, o2, fun s h1 h2 => (f2 s h1 h2).trans (f1 s h1 h2), by have e_ := A2; rw [runs_app] at e_; exact e_⟩)
  · try simp (disch := omega) only [nI_bit0, nI_bit1, Bool.not_eq_false, Bool.not_eq_true] at c_16
    try simp (disch := omega) only [i_lt, i_le, i_eq, l_lt, l_le, l_eq, i_0, i_m1, l_0, nI_tI, iI_tI, lI_tI, Int.not_lt, Int.not_le] at c_16
    omega
theorem pl_ask {B : ev_B} {d t o k dp : Nat} {m x : Int32} {X : Nat → Prop} {h : ev_H} {A : Nat → Nat} {C : Nat → Option ev_E} {σ : Sg} (hS : CS X h A C) (hA : ActS A C σ) (hR : OffR A C t o k m) (hsta : ev_sta B) (hn9 : σ.nT ≤ 920) (hdp : dp ≤ 34) (hk : k ≤ 3) (hd : 4 ≤ d) :
    Wp B d M_X0_play 0 [some (.ref (A 10)), some (.ref (A t)), some (.int (nI k)), some (.int (nI 0)), some (.int x), some (.int (nI dp)), none, none, none, none, none] [] h (PQ X h A C σ (askR k o m x).1 (some (.int (askR k o m x).2))) := by
  have hkk : k = 0 ∨ k = 1 ∨ k = 2 ∨ k = 3 := by omega
  rcases hkk with rfl | rfl | rfl | rfl
  · exact pl_a0 hS hA hR hsta (by omega) (by omega) (by omega)
  · exact pl_a1 hS hA hR hsta (by omega) (by omega) (by omega)
  · exact pl_a2 hS hA hR hsta (by omega) (by omega) (by omega)
  · exact pl_a3 hS hA hR hsta (by omega) (by omega) (by omega)
set_option maxHeartbeats 1000000 in
theorem pl_s0 {B : ev_B} {d t o k dp : Nat} {m x : Int32} {X : Nat → Prop} {h : ev_H} {A : Nat → Nat} {C : Nat → Option ev_E} {σ : Sg} (hS : CS X h A C) (hA : ActS A C σ) (hR : OffR A C t o k m) (hsta : ev_sta B) (hn9 : σ.nT ≤ 900) (hdp : dp ≤ 33) (hk : k ≤ 3) (hd : 5 ≤ d) :
    Wp B d M_X0_play 0 [some (.ref (A 10)), some (.ref (A t)), some (.int (nI 0)), some (.int (nI 1)), some (.int x), some (.int (nI dp)), none, none, none, none, none] [] h (PQ X h A C σ ((tShoR k o m x).1) (some (.int ((tShoR k o m x).2)))) := by
  obtain ⟨ht11, ci, tc, V, Vc, hO, htc, hV, v0, v1, v2, hc, c3⟩ := id hR
  obtain ⟨Va, ga, hVa, -⟩ := id hA
  refine Wp.iload_n dX0_play_0 rfl rfl ?_
  refine Wp.iload_n dX0_play_1 rfl rfl ?_
  refine Wp.cS dX0_play_2 cs_X0_35 rfl (by omega) rfl (Nat.le_of_ble_eq_true rfl) (Nat.le_of_ble_eq_true rfl) rfl (c_kwb_0_1 (d := d - 1) hsta (by omega)) ?_
  rintro _ h_ ⟨rfl, e_⟩
  rw [e_]
  clear e_ h_
  dsimp only [Option.toList, List.drop, List.cons_append, List.nil_append]
  refine Wp.istore dX0_play_5 (Nat.le_of_ble_eq_true rfl) (by dsimp only [ev_st1, ev_st2, ev_cl] <;> rfl) rfl ?_
  refine Wp.iload dX0_play_7 rfl rfl ?_
  refine Wp.if_lt (tgt := 19) (n := 12) dX0_play_9 (by decide) rfl (fun c_ => absurd c_ (by decide)) (fun _ => ?_)
  refine Wp.iload dX0_play_12 rfl rfl ?_
  refine Wp.bipush (v := (nI 40)) dX0_play_14 (by decide) rfl ?_
  refine Wp.icmp_le (tgt := 21) (n := 19) dX0_play_16 (by decide) rfl (fun c_16 => ?_) (fun c_16 => ?_)
  · try simp (disch := omega) only [nI_bit0, nI_bit1, Bool.not_eq_false, Bool.not_eq_true] at c_16
    try simp (disch := omega) only [i_lt, i_le, i_eq, l_lt, l_le, l_eq, i_0, i_m1, l_0, nI_tI, iI_tI, lI_tI, Int.not_lt, Int.not_le] at c_16
    refine Wp.aload_n dX0_play_21 rfl (by first | exact Or.inr ⟨_, rfl⟩ | exact Or.inl rfl) rfl ?_
    refine Wp.get dX0_play_22 (fl_X0_26 hO) (hS.at hV) v1 rfl ?_
    refine Wp.istore dX0_play_25 (Nat.le_of_ble_eq_true rfl) (by dsimp only [ev_st1, ev_st2, ev_cl] <;> rfl) rfl ?_
    refine Wp.iload dX0_play_27 rfl rfl ?_
    refine Wp.cS dX0_play_29 cs_X0_18 rfl (by omega) rfl (Nat.le_of_ble_eq_true rfl) (Nat.le_of_ble_eq_true rfl) rfl (c_X0_kindAbove (d := d - 1) (k := 0) hsta (by decide)) ?_
    rintro _ h_ ⟨rfl, e_⟩
    rw [e_]
    clear e_ h_
    dsimp only [Option.toList, List.drop, List.cons_append, List.nil_append]
    rw [show ev_KA 0 = (-1) from rfl]
    refine Wp.istore dX0_play_32 (Nat.le_of_ble_eq_true rfl) (by dsimp only [ev_st1, ev_st2, ev_cl] <;> rfl) rfl ?_
    refine Wp.iload dX0_play_34 rfl rfl ?_
    refine Wp.iconst (v := (nI 1)) dX0_play_36 (by decide) rfl ?_
    refine Wp.iadd dX0_play_37 rfl ?_
    rw [nI_add1]
    refine Wp.istore dX0_play_38 (Nat.le_of_ble_eq_true rfl) (by dsimp only [ev_st1, ev_st2, ev_cl] <;> rfl) rfl ?_
    refine Wp.getBO dX0_play_40 sl_X0_39 rfl ?_
    refine Wp.iconst (v := (nI 3)) dX0_play_43 (by decide) rfl ?_
    refine Wp.iload dX0_play_44 rfl rfl ?_
    refine Wp.imul dX0_play_46 rfl ?_
    refine Wp.iload_n dX0_play_47 rfl rfl ?_
    refine Wp.iadd dX0_play_48 rfl ?_
    refine Wp.roload dX0_play_49 hsta.2 (j := 1) (by decide) (by omega) rfl ?_
    rw [show ev_BO 1 = nI 11 from rfl]
    refine Wp.istore dX0_play_50 (Nat.le_of_ble_eq_true rfl) (by dsimp only [ev_st1, ev_st2, ev_cl] <;> rfl) rfl ?_
    refine Wp.aload_n dX0_play_52 rfl (by first | exact Or.inr ⟨_, rfl⟩ | exact Or.inl rfl) rfl ?_
    refine Wp.iload dX0_play_53 rfl rfl ?_
    refine Wp.cV dX0_play_55 cv_X0_42 rfl (by omega) rfl (Nat.le_of_ble_eq_true rfl) (Nat.le_of_ble_eq_true rfl) (hS.at hVa) rfl (c_X0_note (d := d - 1) (σ := σ) (b := 11) hS hA (by omega)) ?_
    rintro _ h1 ⟨rfl, C1, S1, o1, f1, A1⟩
    dsimp only [Option.toList, List.drop, List.cons_append, List.nil_append]
    have R1 := hR.same f1
    refine Wp.iload dX0_play_58 rfl rfl ?_
    refine Wp.lsw (off := 87) (n := 147) dX0_play_60 (by decide) (by decide) (by decide) ?_
    refine Wp.aload_n dX0_play_147 rfl (by first | exact Or.inr ⟨_, rfl⟩ | exact Or.inl rfl) rfl ?_
    refine Wp.aload_n dX0_play_148 rfl (by first | exact Or.inr ⟨_, rfl⟩ | exact Or.inl rfl) rfl ?_
    refine Wp.iload dX0_play_149 rfl rfl ?_
    refine Wp.iconst (v := (nI 0)) dX0_play_151 (by decide) rfl ?_
    refine Wp.iload dX0_play_152 rfl rfl ?_
    refine Wp.iload dX0_play_154 rfl rfl ?_
    refine Wp.cS dX0_play_156 cs_X0_31 rfl (by omega) rfl (Nat.le_of_ble_eq_true rfl) (Nat.le_of_ble_eq_true rfl) rfl (pl_ask (d := d - 1) (σ := (σ.runs [11])) (x := x) S1 A1 R1 hsta (by rw [runs_nT]; simp only [List.length_cons, List.length_append, List.length_nil]; omega) (by omega) hk (by omega)) ?_
    rintro _ h2 ⟨rfl, C2, S2, o2, f2, A2⟩
    dsimp only [Option.toList, List.drop, List.cons_append, List.nil_append]
    have o2 := o1.tr o2
    have R2 := R1.same f2
    refine Wp.iconst (v := (nI 3)) dX0_play_159 (by decide) rfl ?_
    refine Wp.imul dX0_play_160 rfl ?_
    exact Wp.iret dX0_play_161 rfl (by exact ⟨rfl, _, S2, o2, fun s h1 h2 => (f2 s h1 h2).trans (f1 s h1 h2), by have e_ := A2; rw [runs_app] at e_; exact e_⟩)
  · try simp (disch := omega) only [nI_bit0, nI_bit1, Bool.not_eq_false, Bool.not_eq_true] at c_16
    try simp (disch := omega) only [i_lt, i_le, i_eq, l_lt, l_le, l_eq, i_0, i_m1, l_0, nI_tI, iI_tI, lI_tI, Int.not_lt, Int.not_le] at c_16
    omega
set_option maxHeartbeats 1000000 in
theorem pl_s1 {B : ev_B} {d t o k dp : Nat} {m x : Int32} {X : Nat → Prop} {h : ev_H} {A : Nat → Nat} {C : Nat → Option ev_E} {σ : Sg} (hS : CS X h A C) (hA : ActS A C σ) (hR : OffR A C t o k m) (hsta : ev_sta B) (hn9 : σ.nT ≤ 900) (hdp : dp ≤ 33) (hk : k ≤ 3) (hd : 5 ≤ d) :
    Wp B d M_X0_play 0 [some (.ref (A 10)), some (.ref (A t)), some (.int (nI 1)), some (.int (nI 1)), some (.int x), some (.int (nI dp)), none, none, none, none, none] [] h (PQ X h A C σ ((tShoR k o m x).1) (some (.int ((tShoR k o m x).2)))) := by
  obtain ⟨ht11, ci, tc, V, Vc, hO, htc, hV, v0, v1, v2, hc, c3⟩ := id hR
  obtain ⟨Va, ga, hVa, -⟩ := id hA
  refine Wp.iload_n dX0_play_0 rfl rfl ?_
  refine Wp.iload_n dX0_play_1 rfl rfl ?_
  refine Wp.cS dX0_play_2 cs_X0_35 rfl (by omega) rfl (Nat.le_of_ble_eq_true rfl) (Nat.le_of_ble_eq_true rfl) rfl (c_kwb_1_1 (d := d - 1) hsta (by omega)) ?_
  rintro _ h_ ⟨rfl, e_⟩
  rw [e_]
  clear e_ h_
  dsimp only [Option.toList, List.drop, List.cons_append, List.nil_append]
  refine Wp.istore dX0_play_5 (Nat.le_of_ble_eq_true rfl) (by dsimp only [ev_st1, ev_st2, ev_cl] <;> rfl) rfl ?_
  refine Wp.iload dX0_play_7 rfl rfl ?_
  refine Wp.if_lt (tgt := 19) (n := 12) dX0_play_9 (by decide) rfl (fun c_ => absurd c_ (by decide)) (fun _ => ?_)
  refine Wp.iload dX0_play_12 rfl rfl ?_
  refine Wp.bipush (v := (nI 40)) dX0_play_14 (by decide) rfl ?_
  refine Wp.icmp_le (tgt := 21) (n := 19) dX0_play_16 (by decide) rfl (fun c_16 => ?_) (fun c_16 => ?_)
  · try simp (disch := omega) only [nI_bit0, nI_bit1, Bool.not_eq_false, Bool.not_eq_true] at c_16
    try simp (disch := omega) only [i_lt, i_le, i_eq, l_lt, l_le, l_eq, i_0, i_m1, l_0, nI_tI, iI_tI, lI_tI, Int.not_lt, Int.not_le] at c_16
    refine Wp.aload_n dX0_play_21 rfl (by first | exact Or.inr ⟨_, rfl⟩ | exact Or.inl rfl) rfl ?_
    refine Wp.get dX0_play_22 (fl_X0_26 hO) (hS.at hV) v1 rfl ?_
    refine Wp.istore dX0_play_25 (Nat.le_of_ble_eq_true rfl) (by dsimp only [ev_st1, ev_st2, ev_cl] <;> rfl) rfl ?_
    refine Wp.iload dX0_play_27 rfl rfl ?_
    refine Wp.cS dX0_play_29 cs_X0_18 rfl (by omega) rfl (Nat.le_of_ble_eq_true rfl) (Nat.le_of_ble_eq_true rfl) rfl (c_X0_kindAbove (d := d - 1) (k := 0) hsta (by decide)) ?_
    rintro _ h_ ⟨rfl, e_⟩
    rw [e_]
    clear e_ h_
    dsimp only [Option.toList, List.drop, List.cons_append, List.nil_append]
    rw [show ev_KA 0 = (-1) from rfl]
    refine Wp.istore dX0_play_32 (Nat.le_of_ble_eq_true rfl) (by dsimp only [ev_st1, ev_st2, ev_cl] <;> rfl) rfl ?_
    refine Wp.iload dX0_play_34 rfl rfl ?_
    refine Wp.iconst (v := (nI 1)) dX0_play_36 (by decide) rfl ?_
    refine Wp.iadd dX0_play_37 rfl ?_
    rw [nI_add1]
    refine Wp.istore dX0_play_38 (Nat.le_of_ble_eq_true rfl) (by dsimp only [ev_st1, ev_st2, ev_cl] <;> rfl) rfl ?_
    refine Wp.getBO dX0_play_40 sl_X0_39 rfl ?_
    refine Wp.iconst (v := (nI 3)) dX0_play_43 (by decide) rfl ?_
    refine Wp.iload dX0_play_44 rfl rfl ?_
    refine Wp.imul dX0_play_46 rfl ?_
    refine Wp.iload_n dX0_play_47 rfl rfl ?_
    refine Wp.iadd dX0_play_48 rfl ?_
    refine Wp.roload dX0_play_49 hsta.2 (j := 1) (by decide) (by omega) rfl ?_
    rw [show ev_BO 1 = nI 11 from rfl]
    refine Wp.istore dX0_play_50 (Nat.le_of_ble_eq_true rfl) (by dsimp only [ev_st1, ev_st2, ev_cl] <;> rfl) rfl ?_
    refine Wp.aload_n dX0_play_52 rfl (by first | exact Or.inr ⟨_, rfl⟩ | exact Or.inl rfl) rfl ?_
    refine Wp.iload dX0_play_53 rfl rfl ?_
    refine Wp.cV dX0_play_55 cv_X0_42 rfl (by omega) rfl (Nat.le_of_ble_eq_true rfl) (Nat.le_of_ble_eq_true rfl) (hS.at hVa) rfl (c_X0_note (d := d - 1) (σ := σ) (b := 11) hS hA (by omega)) ?_
    rintro _ h1 ⟨rfl, C1, S1, o1, f1, A1⟩
    dsimp only [Option.toList, List.drop, List.cons_append, List.nil_append]
    have R1 := hR.same f1
    refine Wp.iload dX0_play_58 rfl rfl ?_
    refine Wp.lsw (off := 87) (n := 147) dX0_play_60 (by decide) (by decide) (by decide) ?_
    refine Wp.aload_n dX0_play_147 rfl (by first | exact Or.inr ⟨_, rfl⟩ | exact Or.inl rfl) rfl ?_
    refine Wp.aload_n dX0_play_148 rfl (by first | exact Or.inr ⟨_, rfl⟩ | exact Or.inl rfl) rfl ?_
    refine Wp.iload dX0_play_149 rfl rfl ?_
    refine Wp.iconst (v := (nI 0)) dX0_play_151 (by decide) rfl ?_
    refine Wp.iload dX0_play_152 rfl rfl ?_
    refine Wp.iload dX0_play_154 rfl rfl ?_
    refine Wp.cS dX0_play_156 cs_X0_31 rfl (by omega) rfl (Nat.le_of_ble_eq_true rfl) (Nat.le_of_ble_eq_true rfl) rfl (pl_ask (d := d - 1) (σ := (σ.runs [11])) (x := x) S1 A1 R1 hsta (by rw [runs_nT]; simp only [List.length_cons, List.length_append, List.length_nil]; omega) (by omega) hk (by omega)) ?_
    rintro _ h2 ⟨rfl, C2, S2, o2, f2, A2⟩
    dsimp only [Option.toList, List.drop, List.cons_append, List.nil_append]
    have o2 := o1.tr o2
    have R2 := R1.same f2
    refine Wp.iconst (v := (nI 3)) dX0_play_159 (by decide) rfl ?_
    refine Wp.imul dX0_play_160 rfl ?_
    exact Wp.iret dX0_play_161 rfl (by exact ⟨rfl, _, S2, o2, fun s h1 h2 => (f2 s h1 h2).trans (f1 s h1 h2), by have e_ := A2; rw [runs_app] at e_; exact e_⟩)
  · try simp (disch := omega) only [nI_bit0, nI_bit1, Bool.not_eq_false, Bool.not_eq_true] at c_16
    try simp (disch := omega) only [i_lt, i_le, i_eq, l_lt, l_le, l_eq, i_0, i_m1, l_0, nI_tI, iI_tI, lI_tI, Int.not_lt, Int.not_le] at c_16
    omega
set_option maxHeartbeats 1000000 in
theorem pl_s2 {B : ev_B} {d t o k dp : Nat} {m x : Int32} {X : Nat → Prop} {h : ev_H} {A : Nat → Nat} {C : Nat → Option ev_E} {σ : Sg} (hS : CS X h A C) (hA : ActS A C σ) (hR : OffR A C t o k m) (hsta : ev_sta B) (hn9 : σ.nT ≤ 890) (hdp : dp ≤ 32) (hk : k ≤ 3) (hd : 6 ≤ d) :
    Wp B d M_X0_play 0 [some (.ref (A 10)), some (.ref (A t)), some (.int (nI 2)), some (.int (nI 1)), some (.int x), some (.int (nI dp)), none, none, none, none, none] [] h (PQ X h A C σ (30 :: (tShoR k o m (x - nI 1)).1) (some (.int ((tShoR k o m (x - nI 1)).2 * nI 2)))) := by
  obtain ⟨ht11, ci, tc, V, Vc, hO, htc, hV, v0, v1, v2, hc, c3⟩ := id hR
  obtain ⟨Va, ga, hVa, -⟩ := id hA
  refine Wp.iload_n dX0_play_0 rfl rfl ?_
  refine Wp.iload_n dX0_play_1 rfl rfl ?_
  refine Wp.cS dX0_play_2 cs_X0_35 rfl (by omega) rfl (Nat.le_of_ble_eq_true rfl) (Nat.le_of_ble_eq_true rfl) rfl (c_kwb_2_1 (d := d - 1) hsta (by omega)) ?_
  rintro _ h_ ⟨rfl, e_⟩
  rw [e_]
  clear e_ h_
  dsimp only [Option.toList, List.drop, List.cons_append, List.nil_append]
  refine Wp.istore dX0_play_5 (Nat.le_of_ble_eq_true rfl) (by dsimp only [ev_st1, ev_st2, ev_cl] <;> rfl) rfl ?_
  refine Wp.iload dX0_play_7 rfl rfl ?_
  refine Wp.if_lt (tgt := 19) (n := 12) dX0_play_9 (by decide) rfl (fun c_ => absurd c_ (by decide)) (fun _ => ?_)
  refine Wp.iload dX0_play_12 rfl rfl ?_
  refine Wp.bipush (v := (nI 40)) dX0_play_14 (by decide) rfl ?_
  refine Wp.icmp_le (tgt := 21) (n := 19) dX0_play_16 (by decide) rfl (fun c_16 => ?_) (fun c_16 => ?_)
  · try simp (disch := omega) only [nI_bit0, nI_bit1, Bool.not_eq_false, Bool.not_eq_true] at c_16
    try simp (disch := omega) only [i_lt, i_le, i_eq, l_lt, l_le, l_eq, i_0, i_m1, l_0, nI_tI, iI_tI, lI_tI, Int.not_lt, Int.not_le] at c_16
    refine Wp.aload_n dX0_play_21 rfl (by first | exact Or.inr ⟨_, rfl⟩ | exact Or.inl rfl) rfl ?_
    refine Wp.get dX0_play_22 (fl_X0_26 hO) (hS.at hV) v1 rfl ?_
    refine Wp.istore dX0_play_25 (Nat.le_of_ble_eq_true rfl) (by dsimp only [ev_st1, ev_st2, ev_cl] <;> rfl) rfl ?_
    refine Wp.iload dX0_play_27 rfl rfl ?_
    refine Wp.cS dX0_play_29 cs_X0_18 rfl (by omega) rfl (Nat.le_of_ble_eq_true rfl) (Nat.le_of_ble_eq_true rfl) rfl (c_X0_kindAbove (d := d - 1) (k := 2) hsta (by decide)) ?_
    rintro _ h_ ⟨rfl, e_⟩
    rw [e_]
    clear e_ h_
    dsimp only [Option.toList, List.drop, List.cons_append, List.nil_append]
    rw [show ev_KA 2 = nI 0 from rfl]
    refine Wp.istore dX0_play_32 (Nat.le_of_ble_eq_true rfl) (by dsimp only [ev_st1, ev_st2, ev_cl] <;> rfl) rfl ?_
    refine Wp.iload dX0_play_34 rfl rfl ?_
    refine Wp.iconst (v := (nI 1)) dX0_play_36 (by decide) rfl ?_
    refine Wp.iadd dX0_play_37 rfl ?_
    rw [nI_add1]
    refine Wp.istore dX0_play_38 (Nat.le_of_ble_eq_true rfl) (by dsimp only [ev_st1, ev_st2, ev_cl] <;> rfl) rfl ?_
    refine Wp.getBO dX0_play_40 sl_X0_39 rfl ?_
    refine Wp.iconst (v := (nI 3)) dX0_play_43 (by decide) rfl ?_
    refine Wp.iload dX0_play_44 rfl rfl ?_
    refine Wp.imul dX0_play_46 rfl ?_
    refine Wp.iload_n dX0_play_47 rfl rfl ?_
    refine Wp.iadd dX0_play_48 rfl ?_
    refine Wp.roload dX0_play_49 hsta.2 (j := 7) (by decide) (by omega) rfl ?_
    rw [show ev_BO 7 = nI 30 from rfl]
    refine Wp.istore dX0_play_50 (Nat.le_of_ble_eq_true rfl) (by dsimp only [ev_st1, ev_st2, ev_cl] <;> rfl) rfl ?_
    refine Wp.aload_n dX0_play_52 rfl (by first | exact Or.inr ⟨_, rfl⟩ | exact Or.inl rfl) rfl ?_
    refine Wp.iload dX0_play_53 rfl rfl ?_
    refine Wp.cV dX0_play_55 cv_X0_42 rfl (by omega) rfl (Nat.le_of_ble_eq_true rfl) (Nat.le_of_ble_eq_true rfl) (hS.at hVa) rfl (c_X0_note (d := d - 1) (σ := σ) (b := 30) hS hA (by omega)) ?_
    rintro _ h1 ⟨rfl, C1, S1, o1, f1, A1⟩
    dsimp only [Option.toList, List.drop, List.cons_append, List.nil_append]
    have R1 := hR.same f1
    refine Wp.iload dX0_play_58 rfl rfl ?_
    refine Wp.lsw (off := 173) (n := 233) dX0_play_60 (by decide) (by decide) (by decide) ?_
    refine Wp.aload_n dX0_play_233 rfl (by first | exact Or.inr ⟨_, rfl⟩ | exact Or.inl rfl) rfl ?_
    refine Wp.aload_n dX0_play_234 rfl (by first | exact Or.inr ⟨_, rfl⟩ | exact Or.inl rfl) rfl ?_
    refine Wp.iload dX0_play_235 rfl rfl ?_
    refine Wp.iconst (v := (nI 1)) dX0_play_237 (by decide) rfl ?_
    refine Wp.iload dX0_play_238 rfl rfl ?_
    refine Wp.iconst (v := (nI 1)) dX0_play_240 (by decide) rfl ?_
    refine Wp.isub dX0_play_241 rfl ?_
    refine Wp.iload dX0_play_242 rfl rfl ?_
    refine Wp.cS dX0_play_244 cs_X0_31 rfl (by omega) rfl (Nat.le_of_ble_eq_true rfl) (Nat.le_of_ble_eq_true rfl) rfl (pl_s0 (d := d - 1) (σ := (σ.runs [30])) (x := x - nI 1) S1 A1 R1 hsta (by rw [runs_nT]; simp only [List.length_cons, List.length_append, List.length_nil]; omega) (by omega) hk (by omega)) ?_
    rintro _ h2 ⟨rfl, C2, S2, o2, f2, A2⟩
    dsimp only [Option.toList, List.drop, List.cons_append, List.nil_append]
    have o2 := o1.tr o2
    have R2 := R1.same f2
    refine Wp.iconst (v := (nI 2)) dX0_play_247 (by decide) rfl ?_
    refine Wp.imul dX0_play_248 rfl ?_
    exact Wp.iret dX0_play_249 rfl (by exact ⟨rfl, _, S2, o2, fun s h1 h2 => (f2 s h1 h2).trans (f1 s h1 h2), by have e_ := A2; rw [runs_app] at e_; exact e_⟩)
  · try simp (disch := omega) only [nI_bit0, nI_bit1, Bool.not_eq_false, Bool.not_eq_true] at c_16
    try simp (disch := omega) only [i_lt, i_le, i_eq, l_lt, l_le, l_eq, i_0, i_m1, l_0, nI_tI, iI_tI, lI_tI, Int.not_lt, Int.not_le] at c_16
    omega
set_option maxHeartbeats 1000000 in
theorem pl_s3 {B : ev_B} {d t o k dp : Nat} {m x : Int32} {X : Nat → Prop} {h : ev_H} {A : Nat → Nat} {C : Nat → Option ev_E} {σ : Sg} (hS : CS X h A C) (hA : ActS A C σ) (hR : OffR A C t o k m) (hsta : ev_sta B) (hn9 : σ.nT ≤ 890) (hdp : dp ≤ 32) (hk : k ≤ 3) (hd : 6 ≤ d) :
    Wp B d M_X0_play 0 [some (.ref (A 10)), some (.ref (A t)), some (.int (nI 3)), some (.int (nI 1)), some (.int x), some (.int (nI dp)), none, none, none, none, none] [] h (PQ X h A C σ (41 :: ((tShoR k o m x).1 ++ (tAskR m x).1)) (some (.int ((tShoR k o m x).2 - (tAskR m x).2)))) := by
  obtain ⟨ht11, ci, tc, V, Vc, hO, htc, hV, v0, v1, v2, hc, c3⟩ := id hR
  obtain ⟨Va, ga, hVa, -⟩ := id hA
  have hls := tShoR_len k o m x
  refine Wp.iload_n dX0_play_0 rfl rfl ?_
  refine Wp.iload_n dX0_play_1 rfl rfl ?_
  refine Wp.cS dX0_play_2 cs_X0_35 rfl (by omega) rfl (Nat.le_of_ble_eq_true rfl) (Nat.le_of_ble_eq_true rfl) rfl (c_kwb_3_1 (d := d - 1) hsta (by omega)) ?_
  rintro _ h_ ⟨rfl, e_⟩
  rw [e_]
  clear e_ h_
  dsimp only [Option.toList, List.drop, List.cons_append, List.nil_append]
  refine Wp.istore dX0_play_5 (Nat.le_of_ble_eq_true rfl) (by dsimp only [ev_st1, ev_st2, ev_cl] <;> rfl) rfl ?_
  refine Wp.iload dX0_play_7 rfl rfl ?_
  refine Wp.if_lt (tgt := 19) (n := 12) dX0_play_9 (by decide) rfl (fun c_ => absurd c_ (by decide)) (fun _ => ?_)
  refine Wp.iload dX0_play_12 rfl rfl ?_
  refine Wp.bipush (v := (nI 40)) dX0_play_14 (by decide) rfl ?_
  refine Wp.icmp_le (tgt := 21) (n := 19) dX0_play_16 (by decide) rfl (fun c_16 => ?_) (fun c_16 => ?_)
  · try simp (disch := omega) only [nI_bit0, nI_bit1, Bool.not_eq_false, Bool.not_eq_true] at c_16
    try simp (disch := omega) only [i_lt, i_le, i_eq, l_lt, l_le, l_eq, i_0, i_m1, l_0, nI_tI, iI_tI, lI_tI, Int.not_lt, Int.not_le] at c_16
    refine Wp.aload_n dX0_play_21 rfl (by first | exact Or.inr ⟨_, rfl⟩ | exact Or.inl rfl) rfl ?_
    refine Wp.get dX0_play_22 (fl_X0_26 hO) (hS.at hV) v1 rfl ?_
    refine Wp.istore dX0_play_25 (Nat.le_of_ble_eq_true rfl) (by dsimp only [ev_st1, ev_st2, ev_cl] <;> rfl) rfl ?_
    refine Wp.iload dX0_play_27 rfl rfl ?_
    refine Wp.cS dX0_play_29 cs_X0_18 rfl (by omega) rfl (Nat.le_of_ble_eq_true rfl) (Nat.le_of_ble_eq_true rfl) rfl (c_X0_kindAbove (d := d - 1) (k := 3) hsta (by decide)) ?_
    rintro _ h_ ⟨rfl, e_⟩
    rw [e_]
    clear e_ h_
    dsimp only [Option.toList, List.drop, List.cons_append, List.nil_append]
    rw [show ev_KA 3 = nI 1 from rfl]
    refine Wp.istore dX0_play_32 (Nat.le_of_ble_eq_true rfl) (by dsimp only [ev_st1, ev_st2, ev_cl] <;> rfl) rfl ?_
    refine Wp.iload dX0_play_34 rfl rfl ?_
    refine Wp.iconst (v := (nI 1)) dX0_play_36 (by decide) rfl ?_
    refine Wp.iadd dX0_play_37 rfl ?_
    rw [nI_add1]
    refine Wp.istore dX0_play_38 (Nat.le_of_ble_eq_true rfl) (by dsimp only [ev_st1, ev_st2, ev_cl] <;> rfl) rfl ?_
    refine Wp.getBO dX0_play_40 sl_X0_39 rfl ?_
    refine Wp.iconst (v := (nI 3)) dX0_play_43 (by decide) rfl ?_
    refine Wp.iload dX0_play_44 rfl rfl ?_
    refine Wp.imul dX0_play_46 rfl ?_
    refine Wp.iload_n dX0_play_47 rfl rfl ?_
    refine Wp.iadd dX0_play_48 rfl ?_
    refine Wp.roload dX0_play_49 hsta.2 (j := 10) (by decide) (by omega) rfl ?_
    rw [show ev_BO 10 = nI 41 from rfl]
    refine Wp.istore dX0_play_50 (Nat.le_of_ble_eq_true rfl) (by dsimp only [ev_st1, ev_st2, ev_cl] <;> rfl) rfl ?_
    refine Wp.aload_n dX0_play_52 rfl (by first | exact Or.inr ⟨_, rfl⟩ | exact Or.inl rfl) rfl ?_
    refine Wp.iload dX0_play_53 rfl rfl ?_
    refine Wp.cV dX0_play_55 cv_X0_42 rfl (by omega) rfl (Nat.le_of_ble_eq_true rfl) (Nat.le_of_ble_eq_true rfl) (hS.at hVa) rfl (c_X0_note (d := d - 1) (σ := σ) (b := 41) hS hA (by omega)) ?_
    rintro _ h1 ⟨rfl, C1, S1, o1, f1, A1⟩
    dsimp only [Option.toList, List.drop, List.cons_append, List.nil_append]
    have R1 := hR.same f1
    refine Wp.iload dX0_play_58 rfl rfl ?_
    refine Wp.lsw (off := 208) (n := 268) dX0_play_60 (by decide) (by decide) (by decide) ?_
    refine Wp.aload_n dX0_play_268 rfl (by first | exact Or.inr ⟨_, rfl⟩ | exact Or.inl rfl) rfl ?_
    refine Wp.aload_n dX0_play_269 rfl (by first | exact Or.inr ⟨_, rfl⟩ | exact Or.inl rfl) rfl ?_
    refine Wp.iload dX0_play_270 rfl rfl ?_
    refine Wp.iconst (v := (nI 1)) dX0_play_272 (by decide) rfl ?_
    refine Wp.iload dX0_play_273 rfl rfl ?_
    refine Wp.iload dX0_play_275 rfl rfl ?_
    refine Wp.cS dX0_play_277 cs_X0_31 rfl (by omega) rfl (Nat.le_of_ble_eq_true rfl) (Nat.le_of_ble_eq_true rfl) rfl (pl_s1 (d := d - 1) (σ := (σ.runs [41])) (x := x) S1 A1 R1 hsta (by rw [runs_nT]; simp only [List.length_cons, List.length_append, List.length_nil]; omega) (by omega) hk (by omega)) ?_
    rintro _ h2 ⟨rfl, C2, S2, o2, f2, A2⟩
    dsimp only [Option.toList, List.drop, List.cons_append, List.nil_append]
    have o2 := o1.tr o2
    have R2 := R1.same f2
    refine Wp.aload_n dX0_play_280 rfl (by first | exact Or.inr ⟨_, rfl⟩ | exact Or.inl rfl) rfl ?_
    refine Wp.aload_n dX0_play_281 rfl (by first | exact Or.inr ⟨_, rfl⟩ | exact Or.inl rfl) rfl ?_
    refine Wp.iload dX0_play_282 rfl rfl ?_
    refine Wp.iconst (v := (nI 0)) dX0_play_284 (by decide) rfl ?_
    refine Wp.iload dX0_play_285 rfl rfl ?_
    refine Wp.iload dX0_play_287 rfl rfl ?_
    refine Wp.cS dX0_play_289 cs_X0_31 rfl (by omega) rfl (Nat.le_of_ble_eq_true rfl) (Nat.le_of_ble_eq_true rfl) rfl (pl_a1 (d := d - 1) (σ := ((σ.runs [41]).runs (tShoR k o m x).1)) (x := x) S2 A2 R2 hsta (by rw [runs_nT, runs_nT]; simp only [List.length_cons, List.length_nil]; omega) (by omega) (by omega)) ?_
    rintro _ h3 ⟨rfl, C3, S3, o3, f3, A3⟩
    dsimp only [Option.toList, List.drop, List.cons_append, List.nil_append]
    have o3 := o2.tr o3
    have R3 := R2.same f3
    refine Wp.isub dX0_play_292 rfl ?_
    exact Wp.iret dX0_play_293 rfl (by exact ⟨rfl, _, S3, o3, fun s h1 h2 => (f3 s h1 h2).trans ((f2 s h1 h2).trans (f1 s h1 h2)), by have e_ := A3; rw [runs_app] at e_; rw [runs_app] at e_; exact e_⟩)
  · try simp (disch := omega) only [nI_bit0, nI_bit1, Bool.not_eq_false, Bool.not_eq_true] at c_16
    try simp (disch := omega) only [i_lt, i_le, i_eq, l_lt, l_le, l_eq, i_0, i_m1, l_0, nI_tI, iI_tI, lI_tI, Int.not_lt, Int.not_le] at c_16
    omega
theorem pl_sho {B : ev_B} {d t o k dp : Nat} {m x : Int32} {X : Nat → Prop} {h : ev_H} {A : Nat → Nat} {C : Nat → Option ev_E} {σ : Sg} (hS : CS X h A C) (hA : ActS A C σ) (hR : OffR A C t o k m) (hsta : ev_sta B) (hn9 : σ.nT ≤ 890) (hdp : dp ≤ 32) (hk : k ≤ 3) (hd : 6 ≤ d) :
    Wp B d M_X0_play 0 [some (.ref (A 10)), some (.ref (A t)), some (.int (nI k)), some (.int (nI 1)), some (.int x), some (.int (nI dp)), none, none, none, none, none] [] h (PQ X h A C σ (shoR k o m x).1 (some (.int (shoR k o m x).2))) := by
  have hkk : k = 0 ∨ k = 1 ∨ k = 2 ∨ k = 3 := by omega
  rcases hkk with rfl | rfl | rfl | rfl
  · exact pl_s0 hS hA hR hsta (by omega) (by omega) hk (by omega)
  · exact pl_s1 hS hA hR hsta (by omega) (by omega) hk (by omega)
  · exact pl_s2 hS hA hR hsta (by omega) (by omega) hk (by omega)
  · exact pl_s3 hS hA hR hsta (by omega) (by omega) hk (by omega)
set_option maxHeartbeats 1000000 in
theorem pl_t0 {B : ev_B} {d t o k dp : Nat} {m x : Int32} {X : Nat → Prop} {h : ev_H} {A : Nat → Nat} {C : Nat → Option ev_E} {σ : Sg} (hS : CS X h A C) (hA : ActS A C σ) (hR : OffR A C t o k m) (hsta : ev_sta B) (hn9 : σ.nT ≤ 870) (hdp : dp ≤ 31) (hk : k ≤ 3) (hd : 7 ≤ d) :
    Wp B d M_X0_play 0 [some (.ref (A 10)), some (.ref (A t)), some (.int (nI 0)), some (.int (nI 2)), some (.int x), some (.int (nI dp)), none, none, none, none, none] [] h (PQ X h A C σ ((tTurR k o m x).1) (some (.int ((tTurR k o m x).2)))) := by
  obtain ⟨ht11, ci, tc, V, Vc, hO, htc, hV, v0, v1, v2, hc, c3⟩ := id hR
  obtain ⟨Va, ga, hVa, -⟩ := id hA
  have hls := shoR_len k o m x
  refine Wp.iload_n dX0_play_0 rfl rfl ?_
  refine Wp.iload_n dX0_play_1 rfl rfl ?_
  refine Wp.cS dX0_play_2 cs_X0_35 rfl (by omega) rfl (Nat.le_of_ble_eq_true rfl) (Nat.le_of_ble_eq_true rfl) rfl (c_kwb_0_2 (d := d - 1) hsta (by omega)) ?_
  rintro _ h_ ⟨rfl, e_⟩
  rw [e_]
  clear e_ h_
  dsimp only [Option.toList, List.drop, List.cons_append, List.nil_append]
  refine Wp.istore dX0_play_5 (Nat.le_of_ble_eq_true rfl) (by dsimp only [ev_st1, ev_st2, ev_cl] <;> rfl) rfl ?_
  refine Wp.iload dX0_play_7 rfl rfl ?_
  refine Wp.if_lt (tgt := 19) (n := 12) dX0_play_9 (by decide) rfl (fun c_ => absurd c_ (by decide)) (fun _ => ?_)
  refine Wp.iload dX0_play_12 rfl rfl ?_
  refine Wp.bipush (v := (nI 40)) dX0_play_14 (by decide) rfl ?_
  refine Wp.icmp_le (tgt := 21) (n := 19) dX0_play_16 (by decide) rfl (fun c_16 => ?_) (fun c_16 => ?_)
  · try simp (disch := omega) only [nI_bit0, nI_bit1, Bool.not_eq_false, Bool.not_eq_true] at c_16
    try simp (disch := omega) only [i_lt, i_le, i_eq, l_lt, l_le, l_eq, i_0, i_m1, l_0, nI_tI, iI_tI, lI_tI, Int.not_lt, Int.not_le] at c_16
    refine Wp.aload_n dX0_play_21 rfl (by first | exact Or.inr ⟨_, rfl⟩ | exact Or.inl rfl) rfl ?_
    refine Wp.get dX0_play_22 (fl_X0_26 hO) (hS.at hV) v1 rfl ?_
    refine Wp.istore dX0_play_25 (Nat.le_of_ble_eq_true rfl) (by dsimp only [ev_st1, ev_st2, ev_cl] <;> rfl) rfl ?_
    refine Wp.iload dX0_play_27 rfl rfl ?_
    refine Wp.cS dX0_play_29 cs_X0_18 rfl (by omega) rfl (Nat.le_of_ble_eq_true rfl) (Nat.le_of_ble_eq_true rfl) rfl (c_X0_kindAbove (d := d - 1) (k := 0) hsta (by decide)) ?_
    rintro _ h_ ⟨rfl, e_⟩
    rw [e_]
    clear e_ h_
    dsimp only [Option.toList, List.drop, List.cons_append, List.nil_append]
    rw [show ev_KA 0 = (-1) from rfl]
    refine Wp.istore dX0_play_32 (Nat.le_of_ble_eq_true rfl) (by dsimp only [ev_st1, ev_st2, ev_cl] <;> rfl) rfl ?_
    refine Wp.iload dX0_play_34 rfl rfl ?_
    refine Wp.iconst (v := (nI 1)) dX0_play_36 (by decide) rfl ?_
    refine Wp.iadd dX0_play_37 rfl ?_
    rw [nI_add1]
    refine Wp.istore dX0_play_38 (Nat.le_of_ble_eq_true rfl) (by dsimp only [ev_st1, ev_st2, ev_cl] <;> rfl) rfl ?_
    refine Wp.getBO dX0_play_40 sl_X0_39 rfl ?_
    refine Wp.iconst (v := (nI 3)) dX0_play_43 (by decide) rfl ?_
    refine Wp.iload dX0_play_44 rfl rfl ?_
    refine Wp.imul dX0_play_46 rfl ?_
    refine Wp.iload_n dX0_play_47 rfl rfl ?_
    refine Wp.iadd dX0_play_48 rfl ?_
    refine Wp.roload dX0_play_49 hsta.2 (j := 2) (by decide) (by omega) rfl ?_
    rw [show ev_BO 2 = nI 12 from rfl]
    refine Wp.istore dX0_play_50 (Nat.le_of_ble_eq_true rfl) (by dsimp only [ev_st1, ev_st2, ev_cl] <;> rfl) rfl ?_
    refine Wp.aload_n dX0_play_52 rfl (by first | exact Or.inr ⟨_, rfl⟩ | exact Or.inl rfl) rfl ?_
    refine Wp.iload dX0_play_53 rfl rfl ?_
    refine Wp.cV dX0_play_55 cv_X0_42 rfl (by omega) rfl (Nat.le_of_ble_eq_true rfl) (Nat.le_of_ble_eq_true rfl) (hS.at hVa) rfl (c_X0_note (d := d - 1) (σ := σ) (b := 12) hS hA (by omega)) ?_
    rintro _ h1 ⟨rfl, C1, S1, o1, f1, A1⟩
    dsimp only [Option.toList, List.drop, List.cons_append, List.nil_append]
    have R1 := hR.same f1
    refine Wp.iload dX0_play_58 rfl rfl ?_
    refine Wp.lsw (off := 102) (n := 162) dX0_play_60 (by decide) (by decide) (by decide) ?_
    refine Wp.aload_n dX0_play_162 rfl (by first | exact Or.inr ⟨_, rfl⟩ | exact Or.inl rfl) rfl ?_
    refine Wp.aload_n dX0_play_163 rfl (by first | exact Or.inr ⟨_, rfl⟩ | exact Or.inl rfl) rfl ?_
    refine Wp.iload dX0_play_164 rfl rfl ?_
    refine Wp.iconst (v := (nI 1)) dX0_play_166 (by decide) rfl ?_
    refine Wp.iload dX0_play_167 rfl rfl ?_
    refine Wp.iload dX0_play_169 rfl rfl ?_
    refine Wp.cS dX0_play_171 cs_X0_31 rfl (by omega) rfl (Nat.le_of_ble_eq_true rfl) (Nat.le_of_ble_eq_true rfl) rfl (pl_sho (d := d - 1) (σ := (σ.runs [12])) (x := x) S1 A1 R1 hsta (by rw [runs_nT]; simp only [List.length_cons, List.length_append, List.length_nil]; omega) (by omega) hk (by omega)) ?_
    rintro _ h2 ⟨rfl, C2, S2, o2, f2, A2⟩
    dsimp only [Option.toList, List.drop, List.cons_append, List.nil_append]
    have o2 := o1.tr o2
    have R2 := R1.same f2
    refine Wp.aload_n dX0_play_174 rfl (by first | exact Or.inr ⟨_, rfl⟩ | exact Or.inl rfl) rfl ?_
    refine Wp.aload_n dX0_play_175 rfl (by first | exact Or.inr ⟨_, rfl⟩ | exact Or.inl rfl) rfl ?_
    refine Wp.iload dX0_play_176 rfl rfl ?_
    refine Wp.iconst (v := (nI 0)) dX0_play_178 (by decide) rfl ?_
    refine Wp.iload dX0_play_179 rfl rfl ?_
    refine Wp.aload_n dX0_play_181 rfl (by first | exact Or.inr ⟨_, rfl⟩ | exact Or.inl rfl) rfl ?_
    refine Wp.get dX0_play_182 (fl_X0_55 hO) (S2.at ((f2 (t) (by omega) (by omega)).trans ((f1 (t) (by omega) (by omega)).trans hV))) v0 rfl ?_
    refine Wp.iadd dX0_play_185 rfl ?_
    refine Wp.iload dX0_play_186 rfl rfl ?_
    refine Wp.cS dX0_play_188 cs_X0_31 rfl (by omega) rfl (Nat.le_of_ble_eq_true rfl) (Nat.le_of_ble_eq_true rfl) rfl (pl_ask (d := d - 1) (σ := ((σ.runs [12]).runs (shoR k o m x).1)) (x := x + nI o) S2 A2 R2 hsta (by rw [runs_nT, runs_nT]; simp only [List.length_cons, List.length_nil]; omega) (by omega) hk (by omega)) ?_
    rintro _ h3 ⟨rfl, C3, S3, o3, f3, A3⟩
    dsimp only [Option.toList, List.drop, List.cons_append, List.nil_append]
    have o3 := o2.tr o3
    have R3 := R2.same f3
    refine Wp.isub dX0_play_191 rfl ?_
    exact Wp.iret dX0_play_192 rfl (by exact ⟨rfl, _, S3, o3, fun s h1 h2 => (f3 s h1 h2).trans ((f2 s h1 h2).trans (f1 s h1 h2)), by have e_ := A3; rw [runs_app] at e_; rw [runs_app] at e_; exact e_⟩)
  · try simp (disch := omega) only [nI_bit0, nI_bit1, Bool.not_eq_false, Bool.not_eq_true] at c_16
    try simp (disch := omega) only [i_lt, i_le, i_eq, l_lt, l_le, l_eq, i_0, i_m1, l_0, nI_tI, iI_tI, lI_tI, Int.not_lt, Int.not_le] at c_16
    omega
set_option maxHeartbeats 1000000 in
theorem pl_t2 {B : ev_B} {d t o k dp : Nat} {m x : Int32} {X : Nat → Prop} {h : ev_H} {A : Nat → Nat} {C : Nat → Option ev_E} {σ : Sg} (hS : CS X h A C) (hA : ActS A C σ) (hR : OffR A C t o k m) (hsta : ev_sta B) (hn9 : σ.nT ≤ 870) (hdp : dp ≤ 31) (hk : k ≤ 3) (hd : 7 ≤ d) :
    Wp B d M_X0_play 0 [some (.ref (A 10)), some (.ref (A t)), some (.int (nI 2)), some (.int (nI 2)), some (.int x), some (.int (nI dp)), none, none, none, none, none] [] h (PQ X h A C σ ((tTurR k o m x).1) (some (.int ((tTurR k o m x).2)))) := by
  obtain ⟨ht11, ci, tc, V, Vc, hO, htc, hV, v0, v1, v2, hc, c3⟩ := id hR
  obtain ⟨Va, ga, hVa, -⟩ := id hA
  have hls := shoR_len k o m x
  refine Wp.iload_n dX0_play_0 rfl rfl ?_
  refine Wp.iload_n dX0_play_1 rfl rfl ?_
  refine Wp.cS dX0_play_2 cs_X0_35 rfl (by omega) rfl (Nat.le_of_ble_eq_true rfl) (Nat.le_of_ble_eq_true rfl) rfl (c_kwb_2_2 (d := d - 1) hsta (by omega)) ?_
  rintro _ h_ ⟨rfl, e_⟩
  rw [e_]
  clear e_ h_
  dsimp only [Option.toList, List.drop, List.cons_append, List.nil_append]
  refine Wp.istore dX0_play_5 (Nat.le_of_ble_eq_true rfl) (by dsimp only [ev_st1, ev_st2, ev_cl] <;> rfl) rfl ?_
  refine Wp.iload dX0_play_7 rfl rfl ?_
  refine Wp.if_lt (tgt := 19) (n := 12) dX0_play_9 (by decide) rfl (fun c_ => absurd c_ (by decide)) (fun _ => ?_)
  refine Wp.iload dX0_play_12 rfl rfl ?_
  refine Wp.bipush (v := (nI 40)) dX0_play_14 (by decide) rfl ?_
  refine Wp.icmp_le (tgt := 21) (n := 19) dX0_play_16 (by decide) rfl (fun c_16 => ?_) (fun c_16 => ?_)
  · try simp (disch := omega) only [nI_bit0, nI_bit1, Bool.not_eq_false, Bool.not_eq_true] at c_16
    try simp (disch := omega) only [i_lt, i_le, i_eq, l_lt, l_le, l_eq, i_0, i_m1, l_0, nI_tI, iI_tI, lI_tI, Int.not_lt, Int.not_le] at c_16
    refine Wp.aload_n dX0_play_21 rfl (by first | exact Or.inr ⟨_, rfl⟩ | exact Or.inl rfl) rfl ?_
    refine Wp.get dX0_play_22 (fl_X0_26 hO) (hS.at hV) v1 rfl ?_
    refine Wp.istore dX0_play_25 (Nat.le_of_ble_eq_true rfl) (by dsimp only [ev_st1, ev_st2, ev_cl] <;> rfl) rfl ?_
    refine Wp.iload dX0_play_27 rfl rfl ?_
    refine Wp.cS dX0_play_29 cs_X0_18 rfl (by omega) rfl (Nat.le_of_ble_eq_true rfl) (Nat.le_of_ble_eq_true rfl) rfl (c_X0_kindAbove (d := d - 1) (k := 0) hsta (by decide)) ?_
    rintro _ h_ ⟨rfl, e_⟩
    rw [e_]
    clear e_ h_
    dsimp only [Option.toList, List.drop, List.cons_append, List.nil_append]
    rw [show ev_KA 0 = (-1) from rfl]
    refine Wp.istore dX0_play_32 (Nat.le_of_ble_eq_true rfl) (by dsimp only [ev_st1, ev_st2, ev_cl] <;> rfl) rfl ?_
    refine Wp.iload dX0_play_34 rfl rfl ?_
    refine Wp.iconst (v := (nI 1)) dX0_play_36 (by decide) rfl ?_
    refine Wp.iadd dX0_play_37 rfl ?_
    rw [nI_add1]
    refine Wp.istore dX0_play_38 (Nat.le_of_ble_eq_true rfl) (by dsimp only [ev_st1, ev_st2, ev_cl] <;> rfl) rfl ?_
    refine Wp.getBO dX0_play_40 sl_X0_39 rfl ?_
    refine Wp.iconst (v := (nI 3)) dX0_play_43 (by decide) rfl ?_
    refine Wp.iload dX0_play_44 rfl rfl ?_
    refine Wp.imul dX0_play_46 rfl ?_
    refine Wp.iload_n dX0_play_47 rfl rfl ?_
    refine Wp.iadd dX0_play_48 rfl ?_
    refine Wp.roload dX0_play_49 hsta.2 (j := 2) (by decide) (by omega) rfl ?_
    rw [show ev_BO 2 = nI 12 from rfl]
    refine Wp.istore dX0_play_50 (Nat.le_of_ble_eq_true rfl) (by dsimp only [ev_st1, ev_st2, ev_cl] <;> rfl) rfl ?_
    refine Wp.aload_n dX0_play_52 rfl (by first | exact Or.inr ⟨_, rfl⟩ | exact Or.inl rfl) rfl ?_
    refine Wp.iload dX0_play_53 rfl rfl ?_
    refine Wp.cV dX0_play_55 cv_X0_42 rfl (by omega) rfl (Nat.le_of_ble_eq_true rfl) (Nat.le_of_ble_eq_true rfl) (hS.at hVa) rfl (c_X0_note (d := d - 1) (σ := σ) (b := 12) hS hA (by omega)) ?_
    rintro _ h1 ⟨rfl, C1, S1, o1, f1, A1⟩
    dsimp only [Option.toList, List.drop, List.cons_append, List.nil_append]
    have R1 := hR.same f1
    refine Wp.iload dX0_play_58 rfl rfl ?_
    refine Wp.lsw (off := 102) (n := 162) dX0_play_60 (by decide) (by decide) (by decide) ?_
    refine Wp.aload_n dX0_play_162 rfl (by first | exact Or.inr ⟨_, rfl⟩ | exact Or.inl rfl) rfl ?_
    refine Wp.aload_n dX0_play_163 rfl (by first | exact Or.inr ⟨_, rfl⟩ | exact Or.inl rfl) rfl ?_
    refine Wp.iload dX0_play_164 rfl rfl ?_
    refine Wp.iconst (v := (nI 1)) dX0_play_166 (by decide) rfl ?_
    refine Wp.iload dX0_play_167 rfl rfl ?_
    refine Wp.iload dX0_play_169 rfl rfl ?_
    refine Wp.cS dX0_play_171 cs_X0_31 rfl (by omega) rfl (Nat.le_of_ble_eq_true rfl) (Nat.le_of_ble_eq_true rfl) rfl (pl_sho (d := d - 1) (σ := (σ.runs [12])) (x := x) S1 A1 R1 hsta (by rw [runs_nT]; simp only [List.length_cons, List.length_append, List.length_nil]; omega) (by omega) hk (by omega)) ?_
    rintro _ h2 ⟨rfl, C2, S2, o2, f2, A2⟩
    dsimp only [Option.toList, List.drop, List.cons_append, List.nil_append]
    have o2 := o1.tr o2
    have R2 := R1.same f2
    refine Wp.aload_n dX0_play_174 rfl (by first | exact Or.inr ⟨_, rfl⟩ | exact Or.inl rfl) rfl ?_
    refine Wp.aload_n dX0_play_175 rfl (by first | exact Or.inr ⟨_, rfl⟩ | exact Or.inl rfl) rfl ?_
    refine Wp.iload dX0_play_176 rfl rfl ?_
    refine Wp.iconst (v := (nI 0)) dX0_play_178 (by decide) rfl ?_
    refine Wp.iload dX0_play_179 rfl rfl ?_
    refine Wp.aload_n dX0_play_181 rfl (by first | exact Or.inr ⟨_, rfl⟩ | exact Or.inl rfl) rfl ?_
    refine Wp.get dX0_play_182 (fl_X0_55 hO) (S2.at ((f2 (t) (by omega) (by omega)).trans ((f1 (t) (by omega) (by omega)).trans hV))) v0 rfl ?_
    refine Wp.iadd dX0_play_185 rfl ?_
    refine Wp.iload dX0_play_186 rfl rfl ?_
    refine Wp.cS dX0_play_188 cs_X0_31 rfl (by omega) rfl (Nat.le_of_ble_eq_true rfl) (Nat.le_of_ble_eq_true rfl) rfl (pl_ask (d := d - 1) (σ := ((σ.runs [12]).runs (shoR k o m x).1)) (x := x + nI o) S2 A2 R2 hsta (by rw [runs_nT, runs_nT]; simp only [List.length_cons, List.length_nil]; omega) (by omega) hk (by omega)) ?_
    rintro _ h3 ⟨rfl, C3, S3, o3, f3, A3⟩
    dsimp only [Option.toList, List.drop, List.cons_append, List.nil_append]
    have o3 := o2.tr o3
    have R3 := R2.same f3
    refine Wp.isub dX0_play_191 rfl ?_
    exact Wp.iret dX0_play_192 rfl (by exact ⟨rfl, _, S3, o3, fun s h1 h2 => (f3 s h1 h2).trans ((f2 s h1 h2).trans (f1 s h1 h2)), by have e_ := A3; rw [runs_app] at e_; rw [runs_app] at e_; exact e_⟩)
  · try simp (disch := omega) only [nI_bit0, nI_bit1, Bool.not_eq_false, Bool.not_eq_true] at c_16
    try simp (disch := omega) only [i_lt, i_le, i_eq, l_lt, l_le, l_eq, i_0, i_m1, l_0, nI_tI, iI_tI, lI_tI, Int.not_lt, Int.not_le] at c_16
    omega
set_option maxHeartbeats 1000000 in
theorem pl_t1 {B : ev_B} {d t o k dp : Nat} {m x : Int32} {X : Nat → Prop} {h : ev_H} {A : Nat → Nat} {C : Nat → Option ev_E} {σ : Sg} (hS : CS X h A C) (hA : ActS A C σ) (hR : OffR A C t o k m) (hsta : ev_sta B) (hn9 : σ.nT ≤ 860) (hdp : dp ≤ 30) (hk : k ≤ 3) (hd : 8 ≤ d) :
    Wp B d M_X0_play 0 [some (.ref (A 10)), some (.ref (A t)), some (.int (nI 1)), some (.int (nI 2)), some (.int x), some (.int (nI dp)), none, none, none, none, none] [] h (PQ X h A C σ (21 :: ((tTurR k o m x).1 ++ (askR k o m (nI 0)).1)) (some (.int ((tTurR k o m x).2 + (askR k o m (nI 0)).2)))) := by
  obtain ⟨ht11, ci, tc, V, Vc, hO, htc, hV, v0, v1, v2, hc, c3⟩ := id hR
  obtain ⟨Va, ga, hVa, -⟩ := id hA
  have hls := tTurR_len k o m x
  refine Wp.iload_n dX0_play_0 rfl rfl ?_
  refine Wp.iload_n dX0_play_1 rfl rfl ?_
  refine Wp.cS dX0_play_2 cs_X0_35 rfl (by omega) rfl (Nat.le_of_ble_eq_true rfl) (Nat.le_of_ble_eq_true rfl) rfl (c_kwb_1_2 (d := d - 1) hsta (by omega)) ?_
  rintro _ h_ ⟨rfl, e_⟩
  rw [e_]
  clear e_ h_
  dsimp only [Option.toList, List.drop, List.cons_append, List.nil_append]
  refine Wp.istore dX0_play_5 (Nat.le_of_ble_eq_true rfl) (by dsimp only [ev_st1, ev_st2, ev_cl] <;> rfl) rfl ?_
  refine Wp.iload dX0_play_7 rfl rfl ?_
  refine Wp.if_lt (tgt := 19) (n := 12) dX0_play_9 (by decide) rfl (fun c_ => absurd c_ (by decide)) (fun _ => ?_)
  refine Wp.iload dX0_play_12 rfl rfl ?_
  refine Wp.bipush (v := (nI 40)) dX0_play_14 (by decide) rfl ?_
  refine Wp.icmp_le (tgt := 21) (n := 19) dX0_play_16 (by decide) rfl (fun c_16 => ?_) (fun c_16 => ?_)
  · try simp (disch := omega) only [nI_bit0, nI_bit1, Bool.not_eq_false, Bool.not_eq_true] at c_16
    try simp (disch := omega) only [i_lt, i_le, i_eq, l_lt, l_le, l_eq, i_0, i_m1, l_0, nI_tI, iI_tI, lI_tI, Int.not_lt, Int.not_le] at c_16
    refine Wp.aload_n dX0_play_21 rfl (by first | exact Or.inr ⟨_, rfl⟩ | exact Or.inl rfl) rfl ?_
    refine Wp.get dX0_play_22 (fl_X0_26 hO) (hS.at hV) v1 rfl ?_
    refine Wp.istore dX0_play_25 (Nat.le_of_ble_eq_true rfl) (by dsimp only [ev_st1, ev_st2, ev_cl] <;> rfl) rfl ?_
    refine Wp.iload dX0_play_27 rfl rfl ?_
    refine Wp.cS dX0_play_29 cs_X0_18 rfl (by omega) rfl (Nat.le_of_ble_eq_true rfl) (Nat.le_of_ble_eq_true rfl) rfl (c_X0_kindAbove (d := d - 1) (k := 1) hsta (by decide)) ?_
    rintro _ h_ ⟨rfl, e_⟩
    rw [e_]
    clear e_ h_
    dsimp only [Option.toList, List.drop, List.cons_append, List.nil_append]
    rw [show ev_KA 1 = nI 0 from rfl]
    refine Wp.istore dX0_play_32 (Nat.le_of_ble_eq_true rfl) (by dsimp only [ev_st1, ev_st2, ev_cl] <;> rfl) rfl ?_
    refine Wp.iload dX0_play_34 rfl rfl ?_
    refine Wp.iconst (v := (nI 1)) dX0_play_36 (by decide) rfl ?_
    refine Wp.iadd dX0_play_37 rfl ?_
    rw [nI_add1]
    refine Wp.istore dX0_play_38 (Nat.le_of_ble_eq_true rfl) (by dsimp only [ev_st1, ev_st2, ev_cl] <;> rfl) rfl ?_
    refine Wp.getBO dX0_play_40 sl_X0_39 rfl ?_
    refine Wp.iconst (v := (nI 3)) dX0_play_43 (by decide) rfl ?_
    refine Wp.iload dX0_play_44 rfl rfl ?_
    refine Wp.imul dX0_play_46 rfl ?_
    refine Wp.iload_n dX0_play_47 rfl rfl ?_
    refine Wp.iadd dX0_play_48 rfl ?_
    refine Wp.roload dX0_play_49 hsta.2 (j := 5) (by decide) (by omega) rfl ?_
    rw [show ev_BO 5 = nI 21 from rfl]
    refine Wp.istore dX0_play_50 (Nat.le_of_ble_eq_true rfl) (by dsimp only [ev_st1, ev_st2, ev_cl] <;> rfl) rfl ?_
    refine Wp.aload_n dX0_play_52 rfl (by first | exact Or.inr ⟨_, rfl⟩ | exact Or.inl rfl) rfl ?_
    refine Wp.iload dX0_play_53 rfl rfl ?_
    refine Wp.cV dX0_play_55 cv_X0_42 rfl (by omega) rfl (Nat.le_of_ble_eq_true rfl) (Nat.le_of_ble_eq_true rfl) (hS.at hVa) rfl (c_X0_note (d := d - 1) (σ := σ) (b := 21) hS hA (by omega)) ?_
    rintro _ h1 ⟨rfl, C1, S1, o1, f1, A1⟩
    dsimp only [Option.toList, List.drop, List.cons_append, List.nil_append]
    have R1 := hR.same f1
    refine Wp.iload dX0_play_58 rfl rfl ?_
    refine Wp.lsw (off := 148) (n := 208) dX0_play_60 (by decide) (by decide) (by decide) ?_
    refine Wp.aload_n dX0_play_208 rfl (by first | exact Or.inr ⟨_, rfl⟩ | exact Or.inl rfl) rfl ?_
    refine Wp.aload_n dX0_play_209 rfl (by first | exact Or.inr ⟨_, rfl⟩ | exact Or.inl rfl) rfl ?_
    refine Wp.iload dX0_play_210 rfl rfl ?_
    refine Wp.iconst (v := (nI 2)) dX0_play_212 (by decide) rfl ?_
    refine Wp.iload dX0_play_213 rfl rfl ?_
    refine Wp.iload dX0_play_215 rfl rfl ?_
    refine Wp.cS dX0_play_217 cs_X0_31 rfl (by omega) rfl (Nat.le_of_ble_eq_true rfl) (Nat.le_of_ble_eq_true rfl) rfl (pl_t0 (d := d - 1) (σ := (σ.runs [21])) (x := x) S1 A1 R1 hsta (by rw [runs_nT]; simp only [List.length_cons, List.length_append, List.length_nil]; omega) (by omega) hk (by omega)) ?_
    rintro _ h2 ⟨rfl, C2, S2, o2, f2, A2⟩
    dsimp only [Option.toList, List.drop, List.cons_append, List.nil_append]
    have o2 := o1.tr o2
    have R2 := R1.same f2
    refine Wp.aload_n dX0_play_220 rfl (by first | exact Or.inr ⟨_, rfl⟩ | exact Or.inl rfl) rfl ?_
    refine Wp.aload_n dX0_play_221 rfl (by first | exact Or.inr ⟨_, rfl⟩ | exact Or.inl rfl) rfl ?_
    refine Wp.iload dX0_play_222 rfl rfl ?_
    refine Wp.iconst (v := (nI 0)) dX0_play_224 (by decide) rfl ?_
    refine Wp.iconst (v := (nI 0)) dX0_play_225 (by decide) rfl ?_
    refine Wp.iload dX0_play_226 rfl rfl ?_
    refine Wp.cS dX0_play_228 cs_X0_31 rfl (by omega) rfl (Nat.le_of_ble_eq_true rfl) (Nat.le_of_ble_eq_true rfl) rfl (pl_ask (d := d - 1) (σ := ((σ.runs [21]).runs (tTurR k o m x).1)) (x := nI 0) S2 A2 R2 hsta (by rw [runs_nT, runs_nT]; simp only [List.length_cons, List.length_nil]; omega) (by omega) hk (by omega)) ?_
    rintro _ h3 ⟨rfl, C3, S3, o3, f3, A3⟩
    dsimp only [Option.toList, List.drop, List.cons_append, List.nil_append]
    have o3 := o2.tr o3
    have R3 := R2.same f3
    refine Wp.iadd dX0_play_231 rfl ?_
    exact Wp.iret dX0_play_232 rfl (by exact ⟨rfl, _, S3, o3, fun s h1 h2 => (f3 s h1 h2).trans ((f2 s h1 h2).trans (f1 s h1 h2)), by have e_ := A3; rw [runs_app] at e_; rw [runs_app] at e_; exact e_⟩)
  · try simp (disch := omega) only [nI_bit0, nI_bit1, Bool.not_eq_false, Bool.not_eq_true] at c_16
    try simp (disch := omega) only [i_lt, i_le, i_eq, l_lt, l_le, l_eq, i_0, i_m1, l_0, nI_tI, iI_tI, lI_tI, Int.not_lt, Int.not_le] at c_16
    omega
set_option maxHeartbeats 1000000 in
theorem pl_t3 {B : ev_B} {d t o k dp : Nat} {m x : Int32} {X : Nat → Prop} {h : ev_H} {A : Nat → Nat} {C : Nat → Option ev_E} {σ : Sg} (hS : CS X h A C) (hA : ActS A C σ) (hR : OffR A C t o k m) (hsta : ev_sta B) (hn9 : σ.nT ≤ 860) (hdp : dp ≤ 30) (hk : k ≤ 3) (hd : 8 ≤ d) :
    Wp B d M_X0_play 0 [some (.ref (A 10)), some (.ref (A t)), some (.int (nI 3)), some (.int (nI 2)), some (.int x), some (.int (nI dp)), none, none, none, none, none] [] h (PQ X h A C σ (21 :: ((tTurR k o m x).1 ++ (askR k o m (nI 0)).1)) (some (.int ((tTurR k o m x).2 + (askR k o m (nI 0)).2)))) := by
  obtain ⟨ht11, ci, tc, V, Vc, hO, htc, hV, v0, v1, v2, hc, c3⟩ := id hR
  obtain ⟨Va, ga, hVa, -⟩ := id hA
  have hls := tTurR_len k o m x
  refine Wp.iload_n dX0_play_0 rfl rfl ?_
  refine Wp.iload_n dX0_play_1 rfl rfl ?_
  refine Wp.cS dX0_play_2 cs_X0_35 rfl (by omega) rfl (Nat.le_of_ble_eq_true rfl) (Nat.le_of_ble_eq_true rfl) rfl (c_kwb_3_2 (d := d - 1) hsta (by omega)) ?_
  rintro _ h_ ⟨rfl, e_⟩
  rw [e_]
  clear e_ h_
  dsimp only [Option.toList, List.drop, List.cons_append, List.nil_append]
  refine Wp.istore dX0_play_5 (Nat.le_of_ble_eq_true rfl) (by dsimp only [ev_st1, ev_st2, ev_cl] <;> rfl) rfl ?_
  refine Wp.iload dX0_play_7 rfl rfl ?_
  refine Wp.if_lt (tgt := 19) (n := 12) dX0_play_9 (by decide) rfl (fun c_ => absurd c_ (by decide)) (fun _ => ?_)
  refine Wp.iload dX0_play_12 rfl rfl ?_
  refine Wp.bipush (v := (nI 40)) dX0_play_14 (by decide) rfl ?_
  refine Wp.icmp_le (tgt := 21) (n := 19) dX0_play_16 (by decide) rfl (fun c_16 => ?_) (fun c_16 => ?_)
  · try simp (disch := omega) only [nI_bit0, nI_bit1, Bool.not_eq_false, Bool.not_eq_true] at c_16
    try simp (disch := omega) only [i_lt, i_le, i_eq, l_lt, l_le, l_eq, i_0, i_m1, l_0, nI_tI, iI_tI, lI_tI, Int.not_lt, Int.not_le] at c_16
    refine Wp.aload_n dX0_play_21 rfl (by first | exact Or.inr ⟨_, rfl⟩ | exact Or.inl rfl) rfl ?_
    refine Wp.get dX0_play_22 (fl_X0_26 hO) (hS.at hV) v1 rfl ?_
    refine Wp.istore dX0_play_25 (Nat.le_of_ble_eq_true rfl) (by dsimp only [ev_st1, ev_st2, ev_cl] <;> rfl) rfl ?_
    refine Wp.iload dX0_play_27 rfl rfl ?_
    refine Wp.cS dX0_play_29 cs_X0_18 rfl (by omega) rfl (Nat.le_of_ble_eq_true rfl) (Nat.le_of_ble_eq_true rfl) rfl (c_X0_kindAbove (d := d - 1) (k := 1) hsta (by decide)) ?_
    rintro _ h_ ⟨rfl, e_⟩
    rw [e_]
    clear e_ h_
    dsimp only [Option.toList, List.drop, List.cons_append, List.nil_append]
    rw [show ev_KA 1 = nI 0 from rfl]
    refine Wp.istore dX0_play_32 (Nat.le_of_ble_eq_true rfl) (by dsimp only [ev_st1, ev_st2, ev_cl] <;> rfl) rfl ?_
    refine Wp.iload dX0_play_34 rfl rfl ?_
    refine Wp.iconst (v := (nI 1)) dX0_play_36 (by decide) rfl ?_
    refine Wp.iadd dX0_play_37 rfl ?_
    rw [nI_add1]
    refine Wp.istore dX0_play_38 (Nat.le_of_ble_eq_true rfl) (by dsimp only [ev_st1, ev_st2, ev_cl] <;> rfl) rfl ?_
    refine Wp.getBO dX0_play_40 sl_X0_39 rfl ?_
    refine Wp.iconst (v := (nI 3)) dX0_play_43 (by decide) rfl ?_
    refine Wp.iload dX0_play_44 rfl rfl ?_
    refine Wp.imul dX0_play_46 rfl ?_
    refine Wp.iload_n dX0_play_47 rfl rfl ?_
    refine Wp.iadd dX0_play_48 rfl ?_
    refine Wp.roload dX0_play_49 hsta.2 (j := 5) (by decide) (by omega) rfl ?_
    rw [show ev_BO 5 = nI 21 from rfl]
    refine Wp.istore dX0_play_50 (Nat.le_of_ble_eq_true rfl) (by dsimp only [ev_st1, ev_st2, ev_cl] <;> rfl) rfl ?_
    refine Wp.aload_n dX0_play_52 rfl (by first | exact Or.inr ⟨_, rfl⟩ | exact Or.inl rfl) rfl ?_
    refine Wp.iload dX0_play_53 rfl rfl ?_
    refine Wp.cV dX0_play_55 cv_X0_42 rfl (by omega) rfl (Nat.le_of_ble_eq_true rfl) (Nat.le_of_ble_eq_true rfl) (hS.at hVa) rfl (c_X0_note (d := d - 1) (σ := σ) (b := 21) hS hA (by omega)) ?_
    rintro _ h1 ⟨rfl, C1, S1, o1, f1, A1⟩
    dsimp only [Option.toList, List.drop, List.cons_append, List.nil_append]
    have R1 := hR.same f1
    refine Wp.iload dX0_play_58 rfl rfl ?_
    refine Wp.lsw (off := 148) (n := 208) dX0_play_60 (by decide) (by decide) (by decide) ?_
    refine Wp.aload_n dX0_play_208 rfl (by first | exact Or.inr ⟨_, rfl⟩ | exact Or.inl rfl) rfl ?_
    refine Wp.aload_n dX0_play_209 rfl (by first | exact Or.inr ⟨_, rfl⟩ | exact Or.inl rfl) rfl ?_
    refine Wp.iload dX0_play_210 rfl rfl ?_
    refine Wp.iconst (v := (nI 2)) dX0_play_212 (by decide) rfl ?_
    refine Wp.iload dX0_play_213 rfl rfl ?_
    refine Wp.iload dX0_play_215 rfl rfl ?_
    refine Wp.cS dX0_play_217 cs_X0_31 rfl (by omega) rfl (Nat.le_of_ble_eq_true rfl) (Nat.le_of_ble_eq_true rfl) rfl (pl_t0 (d := d - 1) (σ := (σ.runs [21])) (x := x) S1 A1 R1 hsta (by rw [runs_nT]; simp only [List.length_cons, List.length_append, List.length_nil]; omega) (by omega) hk (by omega)) ?_
    rintro _ h2 ⟨rfl, C2, S2, o2, f2, A2⟩
    dsimp only [Option.toList, List.drop, List.cons_append, List.nil_append]
    have o2 := o1.tr o2
    have R2 := R1.same f2
    refine Wp.aload_n dX0_play_220 rfl (by first | exact Or.inr ⟨_, rfl⟩ | exact Or.inl rfl) rfl ?_
    refine Wp.aload_n dX0_play_221 rfl (by first | exact Or.inr ⟨_, rfl⟩ | exact Or.inl rfl) rfl ?_
    refine Wp.iload dX0_play_222 rfl rfl ?_
    refine Wp.iconst (v := (nI 0)) dX0_play_224 (by decide) rfl ?_
    refine Wp.iconst (v := (nI 0)) dX0_play_225 (by decide) rfl ?_
    refine Wp.iload dX0_play_226 rfl rfl ?_
    refine Wp.cS dX0_play_228 cs_X0_31 rfl (by omega) rfl (Nat.le_of_ble_eq_true rfl) (Nat.le_of_ble_eq_true rfl) rfl (pl_ask (d := d - 1) (σ := ((σ.runs [21]).runs (tTurR k o m x).1)) (x := nI 0) S2 A2 R2 hsta (by rw [runs_nT, runs_nT]; simp only [List.length_cons, List.length_nil]; omega) (by omega) hk (by omega)) ?_
    rintro _ h3 ⟨rfl, C3, S3, o3, f3, A3⟩
    dsimp only [Option.toList, List.drop, List.cons_append, List.nil_append]
    have o3 := o2.tr o3
    have R3 := R2.same f3
    refine Wp.iadd dX0_play_231 rfl ?_
    exact Wp.iret dX0_play_232 rfl (by exact ⟨rfl, _, S3, o3, fun s h1 h2 => (f3 s h1 h2).trans ((f2 s h1 h2).trans (f1 s h1 h2)), by have e_ := A3; rw [runs_app] at e_; rw [runs_app] at e_; exact e_⟩)
  · try simp (disch := omega) only [nI_bit0, nI_bit1, Bool.not_eq_false, Bool.not_eq_true] at c_16
    try simp (disch := omega) only [i_lt, i_le, i_eq, l_lt, l_le, l_eq, i_0, i_m1, l_0, nI_tI, iI_tI, lI_tI, Int.not_lt, Int.not_le] at c_16
    omega
theorem pl_tur {B : ev_B} {d t o k dp : Nat} {m x : Int32} {X : Nat → Prop} {h : ev_H} {A : Nat → Nat} {C : Nat → Option ev_E} {σ : Sg} (hS : CS X h A C) (hA : ActS A C σ) (hR : OffR A C t o k m) (hsta : ev_sta B) (hn9 : σ.nT ≤ 860) (hdp : dp ≤ 30) (hk : k ≤ 3) (hd : 8 ≤ d) :
    Wp B d M_X0_play 0 [some (.ref (A 10)), some (.ref (A t)), some (.int (nI k)), some (.int (nI 2)), some (.int x), some (.int (nI dp)), none, none, none, none, none] [] h (PQ X h A C σ (turR k o m x).1 (some (.int (turR k o m x).2))) := by
  have hkk : k = 0 ∨ k = 1 ∨ k = 2 ∨ k = 3 := by omega
  rcases hkk with rfl | rfl | rfl | rfl
  · exact pl_t0 hS hA hR hsta (by omega) (by omega) hk (by omega)
  · exact pl_t1 hS hA hR hsta (by omega) (by omega) hk (by omega)
  · exact pl_t2 hS hA hR hsta (by omega) (by omega) hk (by omega)
  · exact pl_t3 hS hA hR hsta (by omega) (by omega) hk (by omega)
theorem c_X0_play {B : ev_B} {d t o k dp : Nat} {m x : Int32} {X : Nat → Prop} {h : ev_H} {A : Nat → Nat} {C : Nat → Option ev_E} {σ : Sg} {a : Nat} (hS : CS X h A C) (hA : ActS A C σ) (hR : OffR A C t o k m) (hsta : ev_sta B) (hn9 : σ.nT ≤ 860) (hdp : dp ≤ 30) (hk : k ≤ 3) (ha : a < 3) (hd : 8 ≤ d) :
    Wp B d M_X0_play 0 [some (.ref (A 10)), some (.ref (A t)), some (.int (nI k)), some (.int (nI a)), some (.int x), some (.int (nI dp)), none, none, none, none, none] [] h (PQ X h A C σ (actR k o m a x).1 (some (.int (actR k o m a x).2))) := by
  have haa : a = 0 ∨ a = 1 ∨ a = 2 := by omega
  rcases haa with rfl | rfl | rfl
  · exact pl_ask hS hA hR hsta (by omega) (by omega) hk (by omega)
  · exact pl_sho hS hA hR hsta (by omega) (by omega) hk (by omega)
  · exact pl_tur hS hA hR hsta (by omega) (by omega) hk (by omega)
theorem c_X0_start {B : ev_B} {d t o k a : Nat} {m x : Int32} {X : Nat → Prop} {h : ev_H} {A : Nat → Nat} {C : Nat → Option ev_E} {σ : Sg} (hS : CS X h A C) (hA : ActS A C σ) (hR : OffR A C t o k m) (hsta : ev_sta B) (hn9 : σ.nT ≤ 860) (hk : k ≤ 3) (ha : a < 3) (hd : 9 ≤ d) :
    Wp B d M_X0_start 0 [some (.ref (A 10)), some (.ref (A t)), some (.int (nI a)), some (.int x)] [] h (PQ X h A C σ (actR k o m a x).1 (some (.int (actR k o m a x).2))) := by
  obtain ⟨ht11, ci, tc, V, Vc, hO, htc, hV, v0, v1, v2, hc, c3⟩ := id hR
  obtain ⟨Va, ga, hVa, -⟩ := id hA
  refine Wp.aload_n dX0_start_0 rfl (by first | exact Or.inr ⟨_, rfl⟩ | exact Or.inl rfl) rfl ?_
  refine Wp.aload_n dX0_start_1 rfl (by first | exact Or.inr ⟨_, rfl⟩ | exact Or.inl rfl) rfl ?_
  refine Wp.aload_n dX0_start_2 rfl (by first | exact Or.inr ⟨_, rfl⟩ | exact Or.inl rfl) rfl ?_
  refine Wp.get dX0_start_3 (fl_X0_26 hO) (hS.at hV) v1 rfl ?_
  refine Wp.iload_n dX0_start_6 rfl rfl ?_
  refine Wp.iload_n dX0_start_7 rfl rfl ?_
  refine Wp.iconst (v := (nI 0)) dX0_start_8 (by decide) rfl ?_
  refine Wp.cS dX0_start_9 cs_X0_31 rfl (by omega) rfl (Nat.le_of_ble_eq_true rfl) (Nat.le_of_ble_eq_true rfl) rfl (c_X0_play (d := d - 1) (dp := 0) hS hA hR hsta (by omega) (by omega) hk ha (by omega)) ?_
  rintro _ h1 ⟨rfl, C1, S1, o1, f1, A1⟩
  dsimp only [Option.toList, List.drop, List.cons_append, List.nil_append]
  exact Wp.iret dX0_start_12 rfl (by exact ⟨rfl, C1, S1, o1, f1, A1⟩)
def unB (k j : Nat) : Bool := decide (j = 0 ∨ k = j ∨ k = 3 ∧ j = 1)
theorem un_0_0 {B : ev_B} {d : Nat} {h : ev_H} (hsta : ev_sta B) (hd : 1 ≤ d) :
    Wp B d M_X0_isUnder 0 [some (.int (nI 0)), some (.int (nI 0)), none, none] [] h (fun v h' => v = some (.int (bI (unB 0 0))) ∧ h' = h) := by
  refine Wp.iload_n dX0_isUnder_0 rfl rfl ?_
  refine Wp.istore_n dX0_isUnder_1 (Nat.le_of_ble_eq_true rfl) (by dsimp only [ev_st1, ev_st2, ev_cl] <;> rfl) rfl ?_
  refine Wp.iconst (v := (nI 0)) dX0_isUnder_2 (by decide) rfl ?_
  refine Wp.istore_n dX0_isUnder_3 (Nat.le_of_ble_eq_true rfl) (by dsimp only [ev_st1, ev_st2, ev_cl] <;> rfl) rfl ?_
  refine Wp.iload_n dX0_isUnder_4 rfl rfl ?_
  refine Wp.getKA dX0_isUnder_5 sl_X0_15 rfl ?_
  refine Wp.rolen dX0_isUnder_8 hsta.1 rfl ?_
  rw [show Int32.ofNat 4 = nI 4 from rfl]
  refine Wp.icmp_ge (tgt := 28) (n := 12) dX0_isUnder_9 (by decide) rfl (fun c_ => absurd c_ (by decide)) (fun _ => ?_)
  refine Wp.iload_n dX0_isUnder_12 rfl rfl ?_
  refine Wp.iload_n dX0_isUnder_13 rfl rfl ?_
  refine Wp.icmp_le (tgt := 28) (n := 17) dX0_isUnder_14 (by decide) rfl (fun _ => ?_) (fun c_ => absurd (by decide) c_)
  refine Wp.iload_n dX0_isUnder_28 rfl rfl ?_
  refine Wp.iload_n dX0_isUnder_29 rfl rfl ?_
  refine Wp.icmp_ne (tgt := 37) (n := 33) dX0_isUnder_30 (by decide) rfl (fun c_ => absurd (by decide) c_) (fun _ => ?_)
  refine Wp.iconst (v := (nI 1)) dX0_isUnder_33 (by decide) rfl ?_
  refine Wp.goto (n := 38) dX0_isUnder_34 (by decide) ?_
  exact Wp.zret dX0_isUnder_38 rfl (by decide) (by exact ⟨rfl, rfl⟩)
theorem un_0_1 {B : ev_B} {d : Nat} {h : ev_H} (hsta : ev_sta B) (hd : 1 ≤ d) :
    Wp B d M_X0_isUnder 0 [some (.int (nI 0)), some (.int (nI 1)), none, none] [] h (fun v h' => v = some (.int (bI (unB 0 1))) ∧ h' = h) := by
  refine Wp.iload_n dX0_isUnder_0 rfl rfl ?_
  refine Wp.istore_n dX0_isUnder_1 (Nat.le_of_ble_eq_true rfl) (by dsimp only [ev_st1, ev_st2, ev_cl] <;> rfl) rfl ?_
  refine Wp.iconst (v := (nI 0)) dX0_isUnder_2 (by decide) rfl ?_
  refine Wp.istore_n dX0_isUnder_3 (Nat.le_of_ble_eq_true rfl) (by dsimp only [ev_st1, ev_st2, ev_cl] <;> rfl) rfl ?_
  refine Wp.iload_n dX0_isUnder_4 rfl rfl ?_
  refine Wp.getKA dX0_isUnder_5 sl_X0_15 rfl ?_
  refine Wp.rolen dX0_isUnder_8 hsta.1 rfl ?_
  rw [show Int32.ofNat 4 = nI 4 from rfl]
  refine Wp.icmp_ge (tgt := 28) (n := 12) dX0_isUnder_9 (by decide) rfl (fun c_ => absurd c_ (by decide)) (fun _ => ?_)
  refine Wp.iload_n dX0_isUnder_12 rfl rfl ?_
  refine Wp.iload_n dX0_isUnder_13 rfl rfl ?_
  refine Wp.icmp_le (tgt := 28) (n := 17) dX0_isUnder_14 (by decide) rfl (fun _ => ?_) (fun c_ => absurd (by decide) c_)
  refine Wp.iload_n dX0_isUnder_28 rfl rfl ?_
  refine Wp.iload_n dX0_isUnder_29 rfl rfl ?_
  refine Wp.icmp_ne (tgt := 37) (n := 33) dX0_isUnder_30 (by decide) rfl (fun _ => ?_) (fun c_ => absurd c_ (by decide))
  refine Wp.iconst (v := (nI 0)) dX0_isUnder_37 (by decide) rfl ?_
  exact Wp.zret dX0_isUnder_38 rfl (by decide) (by exact ⟨rfl, rfl⟩)
theorem un_0_2 {B : ev_B} {d : Nat} {h : ev_H} (hsta : ev_sta B) (hd : 1 ≤ d) :
    Wp B d M_X0_isUnder 0 [some (.int (nI 0)), some (.int (nI 2)), none, none] [] h (fun v h' => v = some (.int (bI (unB 0 2))) ∧ h' = h) := by
  refine Wp.iload_n dX0_isUnder_0 rfl rfl ?_
  refine Wp.istore_n dX0_isUnder_1 (Nat.le_of_ble_eq_true rfl) (by dsimp only [ev_st1, ev_st2, ev_cl] <;> rfl) rfl ?_
  refine Wp.iconst (v := (nI 0)) dX0_isUnder_2 (by decide) rfl ?_
  refine Wp.istore_n dX0_isUnder_3 (Nat.le_of_ble_eq_true rfl) (by dsimp only [ev_st1, ev_st2, ev_cl] <;> rfl) rfl ?_
  refine Wp.iload_n dX0_isUnder_4 rfl rfl ?_
  refine Wp.getKA dX0_isUnder_5 sl_X0_15 rfl ?_
  refine Wp.rolen dX0_isUnder_8 hsta.1 rfl ?_
  rw [show Int32.ofNat 4 = nI 4 from rfl]
  refine Wp.icmp_ge (tgt := 28) (n := 12) dX0_isUnder_9 (by decide) rfl (fun c_ => absurd c_ (by decide)) (fun _ => ?_)
  refine Wp.iload_n dX0_isUnder_12 rfl rfl ?_
  refine Wp.iload_n dX0_isUnder_13 rfl rfl ?_
  refine Wp.icmp_le (tgt := 28) (n := 17) dX0_isUnder_14 (by decide) rfl (fun _ => ?_) (fun c_ => absurd (by decide) c_)
  refine Wp.iload_n dX0_isUnder_28 rfl rfl ?_
  refine Wp.iload_n dX0_isUnder_29 rfl rfl ?_
  refine Wp.icmp_ne (tgt := 37) (n := 33) dX0_isUnder_30 (by decide) rfl (fun _ => ?_) (fun c_ => absurd c_ (by decide))
  refine Wp.iconst (v := (nI 0)) dX0_isUnder_37 (by decide) rfl ?_
  exact Wp.zret dX0_isUnder_38 rfl (by decide) (by exact ⟨rfl, rfl⟩)
theorem un_0_3 {B : ev_B} {d : Nat} {h : ev_H} (hsta : ev_sta B) (hd : 1 ≤ d) :
    Wp B d M_X0_isUnder 0 [some (.int (nI 0)), some (.int (nI 3)), none, none] [] h (fun v h' => v = some (.int (bI (unB 0 3))) ∧ h' = h) := by
  refine Wp.iload_n dX0_isUnder_0 rfl rfl ?_
  refine Wp.istore_n dX0_isUnder_1 (Nat.le_of_ble_eq_true rfl) (by dsimp only [ev_st1, ev_st2, ev_cl] <;> rfl) rfl ?_
  refine Wp.iconst (v := (nI 0)) dX0_isUnder_2 (by decide) rfl ?_
  refine Wp.istore_n dX0_isUnder_3 (Nat.le_of_ble_eq_true rfl) (by dsimp only [ev_st1, ev_st2, ev_cl] <;> rfl) rfl ?_
  refine Wp.iload_n dX0_isUnder_4 rfl rfl ?_
  refine Wp.getKA dX0_isUnder_5 sl_X0_15 rfl ?_
  refine Wp.rolen dX0_isUnder_8 hsta.1 rfl ?_
  rw [show Int32.ofNat 4 = nI 4 from rfl]
  refine Wp.icmp_ge (tgt := 28) (n := 12) dX0_isUnder_9 (by decide) rfl (fun c_ => absurd c_ (by decide)) (fun _ => ?_)
  refine Wp.iload_n dX0_isUnder_12 rfl rfl ?_
  refine Wp.iload_n dX0_isUnder_13 rfl rfl ?_
  refine Wp.icmp_le (tgt := 28) (n := 17) dX0_isUnder_14 (by decide) rfl (fun _ => ?_) (fun c_ => absurd (by decide) c_)
  refine Wp.iload_n dX0_isUnder_28 rfl rfl ?_
  refine Wp.iload_n dX0_isUnder_29 rfl rfl ?_
  refine Wp.icmp_ne (tgt := 37) (n := 33) dX0_isUnder_30 (by decide) rfl (fun _ => ?_) (fun c_ => absurd c_ (by decide))
  refine Wp.iconst (v := (nI 0)) dX0_isUnder_37 (by decide) rfl ?_
  exact Wp.zret dX0_isUnder_38 rfl (by decide) (by exact ⟨rfl, rfl⟩)
theorem un_1_0 {B : ev_B} {d : Nat} {h : ev_H} (hsta : ev_sta B) (hd : 1 ≤ d) :
    Wp B d M_X0_isUnder 0 [some (.int (nI 1)), some (.int (nI 0)), none, none] [] h (fun v h' => v = some (.int (bI (unB 1 0))) ∧ h' = h) := by
  refine Wp.iload_n dX0_isUnder_0 rfl rfl ?_
  refine Wp.istore_n dX0_isUnder_1 (Nat.le_of_ble_eq_true rfl) (by dsimp only [ev_st1, ev_st2, ev_cl] <;> rfl) rfl ?_
  refine Wp.iconst (v := (nI 0)) dX0_isUnder_2 (by decide) rfl ?_
  refine Wp.istore_n dX0_isUnder_3 (Nat.le_of_ble_eq_true rfl) (by dsimp only [ev_st1, ev_st2, ev_cl] <;> rfl) rfl ?_
  refine Wp.iload_n dX0_isUnder_4 rfl rfl ?_
  refine Wp.getKA dX0_isUnder_5 sl_X0_15 rfl ?_
  refine Wp.rolen dX0_isUnder_8 hsta.1 rfl ?_
  rw [show Int32.ofNat 4 = nI 4 from rfl]
  refine Wp.icmp_ge (tgt := 28) (n := 12) dX0_isUnder_9 (by decide) rfl (fun c_ => absurd c_ (by decide)) (fun _ => ?_)
  refine Wp.iload_n dX0_isUnder_12 rfl rfl ?_
  refine Wp.iload_n dX0_isUnder_13 rfl rfl ?_
  refine Wp.icmp_le (tgt := 28) (n := 17) dX0_isUnder_14 (by decide) rfl (fun c_ => absurd c_ (by decide)) (fun _ => ?_)
  refine Wp.iload_n dX0_isUnder_17 rfl rfl ?_
  refine Wp.cS dX0_isUnder_18 cs_X0_18 rfl (by omega) rfl (Nat.le_of_ble_eq_true rfl) (Nat.le_of_ble_eq_true rfl) rfl (c_X0_kindAbove (d := d - 1) (k := 1) hsta (by decide)) ?_
  rintro _ h_ ⟨rfl, e_⟩
  rw [e_]
  clear e_ h_
  dsimp only [Option.toList, List.drop, List.cons_append, List.nil_append]
  rw [show ev_KA 1 = nI 0 from rfl]
  refine Wp.istore_n dX0_isUnder_21 (Nat.le_of_ble_eq_true rfl) (by dsimp only [ev_st1, ev_st2, ev_cl] <;> rfl) rfl ?_
  refine Wp.iinc (v := _ + (nI 1)) dX0_isUnder_22 rfl rfl (Nat.le_of_ble_eq_true rfl) (by dsimp only [ev_st1, ev_cl] <;> rfl) rfl ?_
  refine Wp.goto (n := 4) dX0_isUnder_25 (by decide) ?_
  refine Wp.iload_n dX0_isUnder_4 rfl rfl ?_
  refine Wp.getKA dX0_isUnder_5 sl_X0_15 rfl ?_
  refine Wp.rolen dX0_isUnder_8 hsta.1 rfl ?_
  rw [show Int32.ofNat 4 = nI 4 from rfl]
  refine Wp.icmp_ge (tgt := 28) (n := 12) dX0_isUnder_9 (by decide) rfl (fun c_ => absurd c_ (by decide)) (fun _ => ?_)
  refine Wp.iload_n dX0_isUnder_12 rfl rfl ?_
  refine Wp.iload_n dX0_isUnder_13 rfl rfl ?_
  refine Wp.icmp_le (tgt := 28) (n := 17) dX0_isUnder_14 (by decide) rfl (fun _ => ?_) (fun c_ => absurd (by decide) c_)
  refine Wp.iload_n dX0_isUnder_28 rfl rfl ?_
  refine Wp.iload_n dX0_isUnder_29 rfl rfl ?_
  refine Wp.icmp_ne (tgt := 37) (n := 33) dX0_isUnder_30 (by decide) rfl (fun c_ => absurd (by decide) c_) (fun _ => ?_)
  refine Wp.iconst (v := (nI 1)) dX0_isUnder_33 (by decide) rfl ?_
  refine Wp.goto (n := 38) dX0_isUnder_34 (by decide) ?_
  exact Wp.zret dX0_isUnder_38 rfl (by decide) (by exact ⟨rfl, rfl⟩)
theorem un_1_1 {B : ev_B} {d : Nat} {h : ev_H} (hsta : ev_sta B) (hd : 1 ≤ d) :
    Wp B d M_X0_isUnder 0 [some (.int (nI 1)), some (.int (nI 1)), none, none] [] h (fun v h' => v = some (.int (bI (unB 1 1))) ∧ h' = h) := by
  refine Wp.iload_n dX0_isUnder_0 rfl rfl ?_
  refine Wp.istore_n dX0_isUnder_1 (Nat.le_of_ble_eq_true rfl) (by dsimp only [ev_st1, ev_st2, ev_cl] <;> rfl) rfl ?_
  refine Wp.iconst (v := (nI 0)) dX0_isUnder_2 (by decide) rfl ?_
  refine Wp.istore_n dX0_isUnder_3 (Nat.le_of_ble_eq_true rfl) (by dsimp only [ev_st1, ev_st2, ev_cl] <;> rfl) rfl ?_
  refine Wp.iload_n dX0_isUnder_4 rfl rfl ?_
  refine Wp.getKA dX0_isUnder_5 sl_X0_15 rfl ?_
  refine Wp.rolen dX0_isUnder_8 hsta.1 rfl ?_
  rw [show Int32.ofNat 4 = nI 4 from rfl]
  refine Wp.icmp_ge (tgt := 28) (n := 12) dX0_isUnder_9 (by decide) rfl (fun c_ => absurd c_ (by decide)) (fun _ => ?_)
  refine Wp.iload_n dX0_isUnder_12 rfl rfl ?_
  refine Wp.iload_n dX0_isUnder_13 rfl rfl ?_
  refine Wp.icmp_le (tgt := 28) (n := 17) dX0_isUnder_14 (by decide) rfl (fun _ => ?_) (fun c_ => absurd (by decide) c_)
  refine Wp.iload_n dX0_isUnder_28 rfl rfl ?_
  refine Wp.iload_n dX0_isUnder_29 rfl rfl ?_
  refine Wp.icmp_ne (tgt := 37) (n := 33) dX0_isUnder_30 (by decide) rfl (fun c_ => absurd (by decide) c_) (fun _ => ?_)
  refine Wp.iconst (v := (nI 1)) dX0_isUnder_33 (by decide) rfl ?_
  refine Wp.goto (n := 38) dX0_isUnder_34 (by decide) ?_
  exact Wp.zret dX0_isUnder_38 rfl (by decide) (by exact ⟨rfl, rfl⟩)
theorem un_1_2 {B : ev_B} {d : Nat} {h : ev_H} (hsta : ev_sta B) (hd : 1 ≤ d) :
    Wp B d M_X0_isUnder 0 [some (.int (nI 1)), some (.int (nI 2)), none, none] [] h (fun v h' => v = some (.int (bI (unB 1 2))) ∧ h' = h) := by
  refine Wp.iload_n dX0_isUnder_0 rfl rfl ?_
  refine Wp.istore_n dX0_isUnder_1 (Nat.le_of_ble_eq_true rfl) (by dsimp only [ev_st1, ev_st2, ev_cl] <;> rfl) rfl ?_
  refine Wp.iconst (v := (nI 0)) dX0_isUnder_2 (by decide) rfl ?_
  refine Wp.istore_n dX0_isUnder_3 (Nat.le_of_ble_eq_true rfl) (by dsimp only [ev_st1, ev_st2, ev_cl] <;> rfl) rfl ?_
  refine Wp.iload_n dX0_isUnder_4 rfl rfl ?_
  refine Wp.getKA dX0_isUnder_5 sl_X0_15 rfl ?_
  refine Wp.rolen dX0_isUnder_8 hsta.1 rfl ?_
  rw [show Int32.ofNat 4 = nI 4 from rfl]
  refine Wp.icmp_ge (tgt := 28) (n := 12) dX0_isUnder_9 (by decide) rfl (fun c_ => absurd c_ (by decide)) (fun _ => ?_)
  refine Wp.iload_n dX0_isUnder_12 rfl rfl ?_
  refine Wp.iload_n dX0_isUnder_13 rfl rfl ?_
  refine Wp.icmp_le (tgt := 28) (n := 17) dX0_isUnder_14 (by decide) rfl (fun _ => ?_) (fun c_ => absurd (by decide) c_)
  refine Wp.iload_n dX0_isUnder_28 rfl rfl ?_
  refine Wp.iload_n dX0_isUnder_29 rfl rfl ?_
  refine Wp.icmp_ne (tgt := 37) (n := 33) dX0_isUnder_30 (by decide) rfl (fun _ => ?_) (fun c_ => absurd c_ (by decide))
  refine Wp.iconst (v := (nI 0)) dX0_isUnder_37 (by decide) rfl ?_
  exact Wp.zret dX0_isUnder_38 rfl (by decide) (by exact ⟨rfl, rfl⟩)
theorem un_1_3 {B : ev_B} {d : Nat} {h : ev_H} (hsta : ev_sta B) (hd : 1 ≤ d) :
    Wp B d M_X0_isUnder 0 [some (.int (nI 1)), some (.int (nI 3)), none, none] [] h (fun v h' => v = some (.int (bI (unB 1 3))) ∧ h' = h) := by
  refine Wp.iload_n dX0_isUnder_0 rfl rfl ?_
  refine Wp.istore_n dX0_isUnder_1 (Nat.le_of_ble_eq_true rfl) (by dsimp only [ev_st1, ev_st2, ev_cl] <;> rfl) rfl ?_
  refine Wp.iconst (v := (nI 0)) dX0_isUnder_2 (by decide) rfl ?_
  refine Wp.istore_n dX0_isUnder_3 (Nat.le_of_ble_eq_true rfl) (by dsimp only [ev_st1, ev_st2, ev_cl] <;> rfl) rfl ?_
  refine Wp.iload_n dX0_isUnder_4 rfl rfl ?_
  refine Wp.getKA dX0_isUnder_5 sl_X0_15 rfl ?_
  refine Wp.rolen dX0_isUnder_8 hsta.1 rfl ?_
  rw [show Int32.ofNat 4 = nI 4 from rfl]
  refine Wp.icmp_ge (tgt := 28) (n := 12) dX0_isUnder_9 (by decide) rfl (fun c_ => absurd c_ (by decide)) (fun _ => ?_)
  refine Wp.iload_n dX0_isUnder_12 rfl rfl ?_
  refine Wp.iload_n dX0_isUnder_13 rfl rfl ?_
  refine Wp.icmp_le (tgt := 28) (n := 17) dX0_isUnder_14 (by decide) rfl (fun _ => ?_) (fun c_ => absurd (by decide) c_)
  refine Wp.iload_n dX0_isUnder_28 rfl rfl ?_
  refine Wp.iload_n dX0_isUnder_29 rfl rfl ?_
  refine Wp.icmp_ne (tgt := 37) (n := 33) dX0_isUnder_30 (by decide) rfl (fun _ => ?_) (fun c_ => absurd c_ (by decide))
  refine Wp.iconst (v := (nI 0)) dX0_isUnder_37 (by decide) rfl ?_
  exact Wp.zret dX0_isUnder_38 rfl (by decide) (by exact ⟨rfl, rfl⟩)
theorem un_2_0 {B : ev_B} {d : Nat} {h : ev_H} (hsta : ev_sta B) (hd : 1 ≤ d) :
    Wp B d M_X0_isUnder 0 [some (.int (nI 2)), some (.int (nI 0)), none, none] [] h (fun v h' => v = some (.int (bI (unB 2 0))) ∧ h' = h) := by
  refine Wp.iload_n dX0_isUnder_0 rfl rfl ?_
  refine Wp.istore_n dX0_isUnder_1 (Nat.le_of_ble_eq_true rfl) (by dsimp only [ev_st1, ev_st2, ev_cl] <;> rfl) rfl ?_
  refine Wp.iconst (v := (nI 0)) dX0_isUnder_2 (by decide) rfl ?_
  refine Wp.istore_n dX0_isUnder_3 (Nat.le_of_ble_eq_true rfl) (by dsimp only [ev_st1, ev_st2, ev_cl] <;> rfl) rfl ?_
  refine Wp.iload_n dX0_isUnder_4 rfl rfl ?_
  refine Wp.getKA dX0_isUnder_5 sl_X0_15 rfl ?_
  refine Wp.rolen dX0_isUnder_8 hsta.1 rfl ?_
  rw [show Int32.ofNat 4 = nI 4 from rfl]
  refine Wp.icmp_ge (tgt := 28) (n := 12) dX0_isUnder_9 (by decide) rfl (fun c_ => absurd c_ (by decide)) (fun _ => ?_)
  refine Wp.iload_n dX0_isUnder_12 rfl rfl ?_
  refine Wp.iload_n dX0_isUnder_13 rfl rfl ?_
  refine Wp.icmp_le (tgt := 28) (n := 17) dX0_isUnder_14 (by decide) rfl (fun c_ => absurd c_ (by decide)) (fun _ => ?_)
  refine Wp.iload_n dX0_isUnder_17 rfl rfl ?_
  refine Wp.cS dX0_isUnder_18 cs_X0_18 rfl (by omega) rfl (Nat.le_of_ble_eq_true rfl) (Nat.le_of_ble_eq_true rfl) rfl (c_X0_kindAbove (d := d - 1) (k := 2) hsta (by decide)) ?_
  rintro _ h_ ⟨rfl, e_⟩
  rw [e_]
  clear e_ h_
  dsimp only [Option.toList, List.drop, List.cons_append, List.nil_append]
  rw [show ev_KA 2 = nI 0 from rfl]
  refine Wp.istore_n dX0_isUnder_21 (Nat.le_of_ble_eq_true rfl) (by dsimp only [ev_st1, ev_st2, ev_cl] <;> rfl) rfl ?_
  refine Wp.iinc (v := _ + (nI 1)) dX0_isUnder_22 rfl rfl (Nat.le_of_ble_eq_true rfl) (by dsimp only [ev_st1, ev_cl] <;> rfl) rfl ?_
  refine Wp.goto (n := 4) dX0_isUnder_25 (by decide) ?_
  refine Wp.iload_n dX0_isUnder_4 rfl rfl ?_
  refine Wp.getKA dX0_isUnder_5 sl_X0_15 rfl ?_
  refine Wp.rolen dX0_isUnder_8 hsta.1 rfl ?_
  rw [show Int32.ofNat 4 = nI 4 from rfl]
  refine Wp.icmp_ge (tgt := 28) (n := 12) dX0_isUnder_9 (by decide) rfl (fun c_ => absurd c_ (by decide)) (fun _ => ?_)
  refine Wp.iload_n dX0_isUnder_12 rfl rfl ?_
  refine Wp.iload_n dX0_isUnder_13 rfl rfl ?_
  refine Wp.icmp_le (tgt := 28) (n := 17) dX0_isUnder_14 (by decide) rfl (fun _ => ?_) (fun c_ => absurd (by decide) c_)
  refine Wp.iload_n dX0_isUnder_28 rfl rfl ?_
  refine Wp.iload_n dX0_isUnder_29 rfl rfl ?_
  refine Wp.icmp_ne (tgt := 37) (n := 33) dX0_isUnder_30 (by decide) rfl (fun c_ => absurd (by decide) c_) (fun _ => ?_)
  refine Wp.iconst (v := (nI 1)) dX0_isUnder_33 (by decide) rfl ?_
  refine Wp.goto (n := 38) dX0_isUnder_34 (by decide) ?_
  exact Wp.zret dX0_isUnder_38 rfl (by decide) (by exact ⟨rfl, rfl⟩)
theorem un_2_1 {B : ev_B} {d : Nat} {h : ev_H} (hsta : ev_sta B) (hd : 1 ≤ d) :
    Wp B d M_X0_isUnder 0 [some (.int (nI 2)), some (.int (nI 1)), none, none] [] h (fun v h' => v = some (.int (bI (unB 2 1))) ∧ h' = h) := by
  refine Wp.iload_n dX0_isUnder_0 rfl rfl ?_
  refine Wp.istore_n dX0_isUnder_1 (Nat.le_of_ble_eq_true rfl) (by dsimp only [ev_st1, ev_st2, ev_cl] <;> rfl) rfl ?_
  refine Wp.iconst (v := (nI 0)) dX0_isUnder_2 (by decide) rfl ?_
  refine Wp.istore_n dX0_isUnder_3 (Nat.le_of_ble_eq_true rfl) (by dsimp only [ev_st1, ev_st2, ev_cl] <;> rfl) rfl ?_
  refine Wp.iload_n dX0_isUnder_4 rfl rfl ?_
  refine Wp.getKA dX0_isUnder_5 sl_X0_15 rfl ?_
  refine Wp.rolen dX0_isUnder_8 hsta.1 rfl ?_
  rw [show Int32.ofNat 4 = nI 4 from rfl]
  refine Wp.icmp_ge (tgt := 28) (n := 12) dX0_isUnder_9 (by decide) rfl (fun c_ => absurd c_ (by decide)) (fun _ => ?_)
  refine Wp.iload_n dX0_isUnder_12 rfl rfl ?_
  refine Wp.iload_n dX0_isUnder_13 rfl rfl ?_
  refine Wp.icmp_le (tgt := 28) (n := 17) dX0_isUnder_14 (by decide) rfl (fun c_ => absurd c_ (by decide)) (fun _ => ?_)
  refine Wp.iload_n dX0_isUnder_17 rfl rfl ?_
  refine Wp.cS dX0_isUnder_18 cs_X0_18 rfl (by omega) rfl (Nat.le_of_ble_eq_true rfl) (Nat.le_of_ble_eq_true rfl) rfl (c_X0_kindAbove (d := d - 1) (k := 2) hsta (by decide)) ?_
  rintro _ h_ ⟨rfl, e_⟩
  rw [e_]
  clear e_ h_
  dsimp only [Option.toList, List.drop, List.cons_append, List.nil_append]
  rw [show ev_KA 2 = nI 0 from rfl]
  refine Wp.istore_n dX0_isUnder_21 (Nat.le_of_ble_eq_true rfl) (by dsimp only [ev_st1, ev_st2, ev_cl] <;> rfl) rfl ?_
  refine Wp.iinc (v := _ + (nI 1)) dX0_isUnder_22 rfl rfl (Nat.le_of_ble_eq_true rfl) (by dsimp only [ev_st1, ev_cl] <;> rfl) rfl ?_
  refine Wp.goto (n := 4) dX0_isUnder_25 (by decide) ?_
  refine Wp.iload_n dX0_isUnder_4 rfl rfl ?_
  refine Wp.getKA dX0_isUnder_5 sl_X0_15 rfl ?_
  refine Wp.rolen dX0_isUnder_8 hsta.1 rfl ?_
  rw [show Int32.ofNat 4 = nI 4 from rfl]
  refine Wp.icmp_ge (tgt := 28) (n := 12) dX0_isUnder_9 (by decide) rfl (fun c_ => absurd c_ (by decide)) (fun _ => ?_)
  refine Wp.iload_n dX0_isUnder_12 rfl rfl ?_
  refine Wp.iload_n dX0_isUnder_13 rfl rfl ?_
  refine Wp.icmp_le (tgt := 28) (n := 17) dX0_isUnder_14 (by decide) rfl (fun _ => ?_) (fun c_ => absurd (by decide) c_)
  refine Wp.iload_n dX0_isUnder_28 rfl rfl ?_
  refine Wp.iload_n dX0_isUnder_29 rfl rfl ?_
  refine Wp.icmp_ne (tgt := 37) (n := 33) dX0_isUnder_30 (by decide) rfl (fun _ => ?_) (fun c_ => absurd c_ (by decide))
  refine Wp.iconst (v := (nI 0)) dX0_isUnder_37 (by decide) rfl ?_
  exact Wp.zret dX0_isUnder_38 rfl (by decide) (by exact ⟨rfl, rfl⟩)
theorem un_2_2 {B : ev_B} {d : Nat} {h : ev_H} (hsta : ev_sta B) (hd : 1 ≤ d) :
    Wp B d M_X0_isUnder 0 [some (.int (nI 2)), some (.int (nI 2)), none, none] [] h (fun v h' => v = some (.int (bI (unB 2 2))) ∧ h' = h) := by
  refine Wp.iload_n dX0_isUnder_0 rfl rfl ?_
  refine Wp.istore_n dX0_isUnder_1 (Nat.le_of_ble_eq_true rfl) (by dsimp only [ev_st1, ev_st2, ev_cl] <;> rfl) rfl ?_
  refine Wp.iconst (v := (nI 0)) dX0_isUnder_2 (by decide) rfl ?_
  refine Wp.istore_n dX0_isUnder_3 (Nat.le_of_ble_eq_true rfl) (by dsimp only [ev_st1, ev_st2, ev_cl] <;> rfl) rfl ?_
  refine Wp.iload_n dX0_isUnder_4 rfl rfl ?_
  refine Wp.getKA dX0_isUnder_5 sl_X0_15 rfl ?_
  refine Wp.rolen dX0_isUnder_8 hsta.1 rfl ?_
  rw [show Int32.ofNat 4 = nI 4 from rfl]
  refine Wp.icmp_ge (tgt := 28) (n := 12) dX0_isUnder_9 (by decide) rfl (fun c_ => absurd c_ (by decide)) (fun _ => ?_)
  refine Wp.iload_n dX0_isUnder_12 rfl rfl ?_
  refine Wp.iload_n dX0_isUnder_13 rfl rfl ?_
  refine Wp.icmp_le (tgt := 28) (n := 17) dX0_isUnder_14 (by decide) rfl (fun _ => ?_) (fun c_ => absurd (by decide) c_)
  refine Wp.iload_n dX0_isUnder_28 rfl rfl ?_
  refine Wp.iload_n dX0_isUnder_29 rfl rfl ?_
  refine Wp.icmp_ne (tgt := 37) (n := 33) dX0_isUnder_30 (by decide) rfl (fun c_ => absurd (by decide) c_) (fun _ => ?_)
  refine Wp.iconst (v := (nI 1)) dX0_isUnder_33 (by decide) rfl ?_
  refine Wp.goto (n := 38) dX0_isUnder_34 (by decide) ?_
  exact Wp.zret dX0_isUnder_38 rfl (by decide) (by exact ⟨rfl, rfl⟩)
theorem un_2_3 {B : ev_B} {d : Nat} {h : ev_H} (hsta : ev_sta B) (hd : 1 ≤ d) :
    Wp B d M_X0_isUnder 0 [some (.int (nI 2)), some (.int (nI 3)), none, none] [] h (fun v h' => v = some (.int (bI (unB 2 3))) ∧ h' = h) := by
  refine Wp.iload_n dX0_isUnder_0 rfl rfl ?_
  refine Wp.istore_n dX0_isUnder_1 (Nat.le_of_ble_eq_true rfl) (by dsimp only [ev_st1, ev_st2, ev_cl] <;> rfl) rfl ?_
  refine Wp.iconst (v := (nI 0)) dX0_isUnder_2 (by decide) rfl ?_
  refine Wp.istore_n dX0_isUnder_3 (Nat.le_of_ble_eq_true rfl) (by dsimp only [ev_st1, ev_st2, ev_cl] <;> rfl) rfl ?_
  refine Wp.iload_n dX0_isUnder_4 rfl rfl ?_
  refine Wp.getKA dX0_isUnder_5 sl_X0_15 rfl ?_
  refine Wp.rolen dX0_isUnder_8 hsta.1 rfl ?_
  rw [show Int32.ofNat 4 = nI 4 from rfl]
  refine Wp.icmp_ge (tgt := 28) (n := 12) dX0_isUnder_9 (by decide) rfl (fun c_ => absurd c_ (by decide)) (fun _ => ?_)
  refine Wp.iload_n dX0_isUnder_12 rfl rfl ?_
  refine Wp.iload_n dX0_isUnder_13 rfl rfl ?_
  refine Wp.icmp_le (tgt := 28) (n := 17) dX0_isUnder_14 (by decide) rfl (fun _ => ?_) (fun c_ => absurd (by decide) c_)
  refine Wp.iload_n dX0_isUnder_28 rfl rfl ?_
  refine Wp.iload_n dX0_isUnder_29 rfl rfl ?_
  refine Wp.icmp_ne (tgt := 37) (n := 33) dX0_isUnder_30 (by decide) rfl (fun _ => ?_) (fun c_ => absurd c_ (by decide))
  refine Wp.iconst (v := (nI 0)) dX0_isUnder_37 (by decide) rfl ?_
  exact Wp.zret dX0_isUnder_38 rfl (by decide) (by exact ⟨rfl, rfl⟩)
theorem un_3_0 {B : ev_B} {d : Nat} {h : ev_H} (hsta : ev_sta B) (hd : 1 ≤ d) :
    Wp B d M_X0_isUnder 0 [some (.int (nI 3)), some (.int (nI 0)), none, none] [] h (fun v h' => v = some (.int (bI (unB 3 0))) ∧ h' = h) := by
  refine Wp.iload_n dX0_isUnder_0 rfl rfl ?_
  refine Wp.istore_n dX0_isUnder_1 (Nat.le_of_ble_eq_true rfl) (by dsimp only [ev_st1, ev_st2, ev_cl] <;> rfl) rfl ?_
  refine Wp.iconst (v := (nI 0)) dX0_isUnder_2 (by decide) rfl ?_
  refine Wp.istore_n dX0_isUnder_3 (Nat.le_of_ble_eq_true rfl) (by dsimp only [ev_st1, ev_st2, ev_cl] <;> rfl) rfl ?_
  refine Wp.iload_n dX0_isUnder_4 rfl rfl ?_
  refine Wp.getKA dX0_isUnder_5 sl_X0_15 rfl ?_
  refine Wp.rolen dX0_isUnder_8 hsta.1 rfl ?_
  rw [show Int32.ofNat 4 = nI 4 from rfl]
  refine Wp.icmp_ge (tgt := 28) (n := 12) dX0_isUnder_9 (by decide) rfl (fun c_ => absurd c_ (by decide)) (fun _ => ?_)
  refine Wp.iload_n dX0_isUnder_12 rfl rfl ?_
  refine Wp.iload_n dX0_isUnder_13 rfl rfl ?_
  refine Wp.icmp_le (tgt := 28) (n := 17) dX0_isUnder_14 (by decide) rfl (fun c_ => absurd c_ (by decide)) (fun _ => ?_)
  refine Wp.iload_n dX0_isUnder_17 rfl rfl ?_
  refine Wp.cS dX0_isUnder_18 cs_X0_18 rfl (by omega) rfl (Nat.le_of_ble_eq_true rfl) (Nat.le_of_ble_eq_true rfl) rfl (c_X0_kindAbove (d := d - 1) (k := 3) hsta (by decide)) ?_
  rintro _ h_ ⟨rfl, e_⟩
  rw [e_]
  clear e_ h_
  dsimp only [Option.toList, List.drop, List.cons_append, List.nil_append]
  rw [show ev_KA 3 = nI 1 from rfl]
  refine Wp.istore_n dX0_isUnder_21 (Nat.le_of_ble_eq_true rfl) (by dsimp only [ev_st1, ev_st2, ev_cl] <;> rfl) rfl ?_
  refine Wp.iinc (v := _ + (nI 1)) dX0_isUnder_22 rfl rfl (Nat.le_of_ble_eq_true rfl) (by dsimp only [ev_st1, ev_cl] <;> rfl) rfl ?_
  refine Wp.goto (n := 4) dX0_isUnder_25 (by decide) ?_
  refine Wp.iload_n dX0_isUnder_4 rfl rfl ?_
  refine Wp.getKA dX0_isUnder_5 sl_X0_15 rfl ?_
  refine Wp.rolen dX0_isUnder_8 hsta.1 rfl ?_
  rw [show Int32.ofNat 4 = nI 4 from rfl]
  refine Wp.icmp_ge (tgt := 28) (n := 12) dX0_isUnder_9 (by decide) rfl (fun c_ => absurd c_ (by decide)) (fun _ => ?_)
  refine Wp.iload_n dX0_isUnder_12 rfl rfl ?_
  refine Wp.iload_n dX0_isUnder_13 rfl rfl ?_
  refine Wp.icmp_le (tgt := 28) (n := 17) dX0_isUnder_14 (by decide) rfl (fun c_ => absurd c_ (by decide)) (fun _ => ?_)
  refine Wp.iload_n dX0_isUnder_17 rfl rfl ?_
  refine Wp.cS dX0_isUnder_18 cs_X0_18 rfl (by omega) rfl (Nat.le_of_ble_eq_true rfl) (Nat.le_of_ble_eq_true rfl) rfl (c_X0_kindAbove (d := d - 1) (k := 1) hsta (by decide)) ?_
  rintro _ h_ ⟨rfl, e_⟩
  rw [e_]
  clear e_ h_
  dsimp only [Option.toList, List.drop, List.cons_append, List.nil_append]
  rw [show ev_KA 1 = nI 0 from rfl]
  refine Wp.istore_n dX0_isUnder_21 (Nat.le_of_ble_eq_true rfl) (by dsimp only [ev_st1, ev_st2, ev_cl] <;> rfl) rfl ?_
  refine Wp.iinc (v := _ + (nI 1)) dX0_isUnder_22 rfl rfl (Nat.le_of_ble_eq_true rfl) (by dsimp only [ev_st1, ev_cl] <;> rfl) rfl ?_
  refine Wp.goto (n := 4) dX0_isUnder_25 (by decide) ?_
  refine Wp.iload_n dX0_isUnder_4 rfl rfl ?_
  refine Wp.getKA dX0_isUnder_5 sl_X0_15 rfl ?_
  refine Wp.rolen dX0_isUnder_8 hsta.1 rfl ?_
  rw [show Int32.ofNat 4 = nI 4 from rfl]
  refine Wp.icmp_ge (tgt := 28) (n := 12) dX0_isUnder_9 (by decide) rfl (fun c_ => absurd c_ (by decide)) (fun _ => ?_)
  refine Wp.iload_n dX0_isUnder_12 rfl rfl ?_
  refine Wp.iload_n dX0_isUnder_13 rfl rfl ?_
  refine Wp.icmp_le (tgt := 28) (n := 17) dX0_isUnder_14 (by decide) rfl (fun _ => ?_) (fun c_ => absurd (by decide) c_)
  refine Wp.iload_n dX0_isUnder_28 rfl rfl ?_
  refine Wp.iload_n dX0_isUnder_29 rfl rfl ?_
  refine Wp.icmp_ne (tgt := 37) (n := 33) dX0_isUnder_30 (by decide) rfl (fun c_ => absurd (by decide) c_) (fun _ => ?_)
  refine Wp.iconst (v := (nI 1)) dX0_isUnder_33 (by decide) rfl ?_
  refine Wp.goto (n := 38) dX0_isUnder_34 (by decide) ?_
  exact Wp.zret dX0_isUnder_38 rfl (by decide) (by exact ⟨rfl, rfl⟩)
theorem un_3_1 {B : ev_B} {d : Nat} {h : ev_H} (hsta : ev_sta B) (hd : 1 ≤ d) :
    Wp B d M_X0_isUnder 0 [some (.int (nI 3)), some (.int (nI 1)), none, none] [] h (fun v h' => v = some (.int (bI (unB 3 1))) ∧ h' = h) := by
  refine Wp.iload_n dX0_isUnder_0 rfl rfl ?_
  refine Wp.istore_n dX0_isUnder_1 (Nat.le_of_ble_eq_true rfl) (by dsimp only [ev_st1, ev_st2, ev_cl] <;> rfl) rfl ?_
  refine Wp.iconst (v := (nI 0)) dX0_isUnder_2 (by decide) rfl ?_
  refine Wp.istore_n dX0_isUnder_3 (Nat.le_of_ble_eq_true rfl) (by dsimp only [ev_st1, ev_st2, ev_cl] <;> rfl) rfl ?_
  refine Wp.iload_n dX0_isUnder_4 rfl rfl ?_
  refine Wp.getKA dX0_isUnder_5 sl_X0_15 rfl ?_
  refine Wp.rolen dX0_isUnder_8 hsta.1 rfl ?_
  rw [show Int32.ofNat 4 = nI 4 from rfl]
  refine Wp.icmp_ge (tgt := 28) (n := 12) dX0_isUnder_9 (by decide) rfl (fun c_ => absurd c_ (by decide)) (fun _ => ?_)
  refine Wp.iload_n dX0_isUnder_12 rfl rfl ?_
  refine Wp.iload_n dX0_isUnder_13 rfl rfl ?_
  refine Wp.icmp_le (tgt := 28) (n := 17) dX0_isUnder_14 (by decide) rfl (fun c_ => absurd c_ (by decide)) (fun _ => ?_)
  refine Wp.iload_n dX0_isUnder_17 rfl rfl ?_
  refine Wp.cS dX0_isUnder_18 cs_X0_18 rfl (by omega) rfl (Nat.le_of_ble_eq_true rfl) (Nat.le_of_ble_eq_true rfl) rfl (c_X0_kindAbove (d := d - 1) (k := 3) hsta (by decide)) ?_
  rintro _ h_ ⟨rfl, e_⟩
  rw [e_]
  clear e_ h_
  dsimp only [Option.toList, List.drop, List.cons_append, List.nil_append]
  rw [show ev_KA 3 = nI 1 from rfl]
  refine Wp.istore_n dX0_isUnder_21 (Nat.le_of_ble_eq_true rfl) (by dsimp only [ev_st1, ev_st2, ev_cl] <;> rfl) rfl ?_
  refine Wp.iinc (v := _ + (nI 1)) dX0_isUnder_22 rfl rfl (Nat.le_of_ble_eq_true rfl) (by dsimp only [ev_st1, ev_cl] <;> rfl) rfl ?_
  refine Wp.goto (n := 4) dX0_isUnder_25 (by decide) ?_
  refine Wp.iload_n dX0_isUnder_4 rfl rfl ?_
  refine Wp.getKA dX0_isUnder_5 sl_X0_15 rfl ?_
  refine Wp.rolen dX0_isUnder_8 hsta.1 rfl ?_
  rw [show Int32.ofNat 4 = nI 4 from rfl]
  refine Wp.icmp_ge (tgt := 28) (n := 12) dX0_isUnder_9 (by decide) rfl (fun c_ => absurd c_ (by decide)) (fun _ => ?_)
  refine Wp.iload_n dX0_isUnder_12 rfl rfl ?_
  refine Wp.iload_n dX0_isUnder_13 rfl rfl ?_
  refine Wp.icmp_le (tgt := 28) (n := 17) dX0_isUnder_14 (by decide) rfl (fun _ => ?_) (fun c_ => absurd (by decide) c_)
  refine Wp.iload_n dX0_isUnder_28 rfl rfl ?_
  refine Wp.iload_n dX0_isUnder_29 rfl rfl ?_
  refine Wp.icmp_ne (tgt := 37) (n := 33) dX0_isUnder_30 (by decide) rfl (fun c_ => absurd (by decide) c_) (fun _ => ?_)
  refine Wp.iconst (v := (nI 1)) dX0_isUnder_33 (by decide) rfl ?_
  refine Wp.goto (n := 38) dX0_isUnder_34 (by decide) ?_
  exact Wp.zret dX0_isUnder_38 rfl (by decide) (by exact ⟨rfl, rfl⟩)
theorem un_3_2 {B : ev_B} {d : Nat} {h : ev_H} (hsta : ev_sta B) (hd : 1 ≤ d) :
    Wp B d M_X0_isUnder 0 [some (.int (nI 3)), some (.int (nI 2)), none, none] [] h (fun v h' => v = some (.int (bI (unB 3 2))) ∧ h' = h) := by
  refine Wp.iload_n dX0_isUnder_0 rfl rfl ?_
  refine Wp.istore_n dX0_isUnder_1 (Nat.le_of_ble_eq_true rfl) (by dsimp only [ev_st1, ev_st2, ev_cl] <;> rfl) rfl ?_
  refine Wp.iconst (v := (nI 0)) dX0_isUnder_2 (by decide) rfl ?_
  refine Wp.istore_n dX0_isUnder_3 (Nat.le_of_ble_eq_true rfl) (by dsimp only [ev_st1, ev_st2, ev_cl] <;> rfl) rfl ?_
  refine Wp.iload_n dX0_isUnder_4 rfl rfl ?_
  refine Wp.getKA dX0_isUnder_5 sl_X0_15 rfl ?_
  refine Wp.rolen dX0_isUnder_8 hsta.1 rfl ?_
  rw [show Int32.ofNat 4 = nI 4 from rfl]
  refine Wp.icmp_ge (tgt := 28) (n := 12) dX0_isUnder_9 (by decide) rfl (fun c_ => absurd c_ (by decide)) (fun _ => ?_)
  refine Wp.iload_n dX0_isUnder_12 rfl rfl ?_
  refine Wp.iload_n dX0_isUnder_13 rfl rfl ?_
  refine Wp.icmp_le (tgt := 28) (n := 17) dX0_isUnder_14 (by decide) rfl (fun c_ => absurd c_ (by decide)) (fun _ => ?_)
  refine Wp.iload_n dX0_isUnder_17 rfl rfl ?_
  refine Wp.cS dX0_isUnder_18 cs_X0_18 rfl (by omega) rfl (Nat.le_of_ble_eq_true rfl) (Nat.le_of_ble_eq_true rfl) rfl (c_X0_kindAbove (d := d - 1) (k := 3) hsta (by decide)) ?_
  rintro _ h_ ⟨rfl, e_⟩
  rw [e_]
  clear e_ h_
  dsimp only [Option.toList, List.drop, List.cons_append, List.nil_append]
  rw [show ev_KA 3 = nI 1 from rfl]
  refine Wp.istore_n dX0_isUnder_21 (Nat.le_of_ble_eq_true rfl) (by dsimp only [ev_st1, ev_st2, ev_cl] <;> rfl) rfl ?_
  refine Wp.iinc (v := _ + (nI 1)) dX0_isUnder_22 rfl rfl (Nat.le_of_ble_eq_true rfl) (by dsimp only [ev_st1, ev_cl] <;> rfl) rfl ?_
  refine Wp.goto (n := 4) dX0_isUnder_25 (by decide) ?_
  refine Wp.iload_n dX0_isUnder_4 rfl rfl ?_
  refine Wp.getKA dX0_isUnder_5 sl_X0_15 rfl ?_
  refine Wp.rolen dX0_isUnder_8 hsta.1 rfl ?_
  rw [show Int32.ofNat 4 = nI 4 from rfl]
  refine Wp.icmp_ge (tgt := 28) (n := 12) dX0_isUnder_9 (by decide) rfl (fun c_ => absurd c_ (by decide)) (fun _ => ?_)
  refine Wp.iload_n dX0_isUnder_12 rfl rfl ?_
  refine Wp.iload_n dX0_isUnder_13 rfl rfl ?_
  refine Wp.icmp_le (tgt := 28) (n := 17) dX0_isUnder_14 (by decide) rfl (fun _ => ?_) (fun c_ => absurd (by decide) c_)
  refine Wp.iload_n dX0_isUnder_28 rfl rfl ?_
  refine Wp.iload_n dX0_isUnder_29 rfl rfl ?_
  refine Wp.icmp_ne (tgt := 37) (n := 33) dX0_isUnder_30 (by decide) rfl (fun _ => ?_) (fun c_ => absurd c_ (by decide))
  refine Wp.iconst (v := (nI 0)) dX0_isUnder_37 (by decide) rfl ?_
  exact Wp.zret dX0_isUnder_38 rfl (by decide) (by exact ⟨rfl, rfl⟩)
theorem un_3_3 {B : ev_B} {d : Nat} {h : ev_H} (hsta : ev_sta B) (hd : 1 ≤ d) :
    Wp B d M_X0_isUnder 0 [some (.int (nI 3)), some (.int (nI 3)), none, none] [] h (fun v h' => v = some (.int (bI (unB 3 3))) ∧ h' = h) := by
  refine Wp.iload_n dX0_isUnder_0 rfl rfl ?_
  refine Wp.istore_n dX0_isUnder_1 (Nat.le_of_ble_eq_true rfl) (by dsimp only [ev_st1, ev_st2, ev_cl] <;> rfl) rfl ?_
  refine Wp.iconst (v := (nI 0)) dX0_isUnder_2 (by decide) rfl ?_
  refine Wp.istore_n dX0_isUnder_3 (Nat.le_of_ble_eq_true rfl) (by dsimp only [ev_st1, ev_st2, ev_cl] <;> rfl) rfl ?_
  refine Wp.iload_n dX0_isUnder_4 rfl rfl ?_
  refine Wp.getKA dX0_isUnder_5 sl_X0_15 rfl ?_
  refine Wp.rolen dX0_isUnder_8 hsta.1 rfl ?_
  rw [show Int32.ofNat 4 = nI 4 from rfl]
  refine Wp.icmp_ge (tgt := 28) (n := 12) dX0_isUnder_9 (by decide) rfl (fun c_ => absurd c_ (by decide)) (fun _ => ?_)
  refine Wp.iload_n dX0_isUnder_12 rfl rfl ?_
  refine Wp.iload_n dX0_isUnder_13 rfl rfl ?_
  refine Wp.icmp_le (tgt := 28) (n := 17) dX0_isUnder_14 (by decide) rfl (fun _ => ?_) (fun c_ => absurd (by decide) c_)
  refine Wp.iload_n dX0_isUnder_28 rfl rfl ?_
  refine Wp.iload_n dX0_isUnder_29 rfl rfl ?_
  refine Wp.icmp_ne (tgt := 37) (n := 33) dX0_isUnder_30 (by decide) rfl (fun c_ => absurd (by decide) c_) (fun _ => ?_)
  refine Wp.iconst (v := (nI 1)) dX0_isUnder_33 (by decide) rfl ?_
  refine Wp.goto (n := 38) dX0_isUnder_34 (by decide) ?_
  exact Wp.zret dX0_isUnder_38 rfl (by decide) (by exact ⟨rfl, rfl⟩)
theorem c_X0_isUnder {B : ev_B} {d k j : Nat} {h : ev_H} (hsta : ev_sta B) (hk : k < 4) (hj : j < 4) (hd : 1 ≤ d) :
    Wp B d M_X0_isUnder 0 [some (.int (nI k)), some (.int (nI j)), none, none] [] h (fun v h' => v = some (.int (bI (unB k j))) ∧ h' = h) := by
  have hkk : k = 0 ∨ k = 1 ∨ k = 2 ∨ k = 3 := by omega
  have hjj : j = 0 ∨ j = 1 ∨ j = 2 ∨ j = 3 := by omega
  rcases hkk with rfl | rfl | rfl | rfl <;> rcases hjj with rfl | rfl | rfl | rfl
  · exact un_0_0 hsta hd
  · exact un_0_1 hsta hd
  · exact un_0_2 hsta hd
  · exact un_0_3 hsta hd
  · exact un_1_0 hsta hd
  · exact un_1_1 hsta hd
  · exact un_1_2 hsta hd
  · exact un_1_3 hsta hd
  · exact un_2_0 hsta hd
  · exact un_2_1 hsta hd
  · exact un_2_2 hsta hd
  · exact un_2_3 hsta hd
  · exact un_3_0 hsta hd
  · exact un_3_1 hsta hd
  · exact un_3_2 hsta hd
  · exact un_3_3 hsta hd
