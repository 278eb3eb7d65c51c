/-! the class: its making -/
set_option maxHeartbeats 1000000 in
theorem c_X2_init {B : ev_B} {d a : Nat} {X : Nat → Prop} {h : ev_H} {A : Nat → Nat} {C : Nat → Option ev_E} (hS : CS X h A C) (ha : A 1 = a) (hb : C 1 = some (ev_ob 2 ev_v2)) (f0 : ∀ s, 1 < s → s ≤ 5 → C s = none) (hd : 2 ≤ d) :
    Wp B d M_X2_init 0 [some (.ref a)] [] h (fun v h' => v = none ∧ ∃ A' C', CS X h' A' C' ∧ CG X h h' 52 ∧ (∀ s, s ≤ 1 ∨ 5 < s → A' s = A s) ∧ (∀ s, s < 1 ∨ 5 < s → C' s = C s) ∧ NetS A' C' Sg.new 0) := by
  refine Wp.aload_n dX2_init_0 rfl (by first | exact Or.inr ⟨_, rfl⟩ | exact Or.inl rfl) rfl ?_
  refine Wp.objInit dX2_init_1 ol_X2_3 (by omega) (by decide) rfl ?_
  refine Wp.aload_n dX2_init_4 rfl (by first | exact Or.inr ⟨_, rfl⟩ | exact Or.inl rfl) rfl ?_
  refine Wp.bipush (v := (nI 12)) dX2_init_5 (by decide) rfl ?_
  refine Wp.newai dX2_init_7 (nI_toInt (n := 12) (by decide)) (by omega) rfl ?_
  refine Wp.putF dX2_init_9 fp_X2_9 rfl (hS.nwat hb ha) rfl rfl rfl ?_
  refine hS.mkf ha hb (f0 2 (by omega) (by omega)) ?_
  intro h1 A1 C1 V1 S1 o1 a1 e1 b1 w1 x1 f1
  refine Wp.aload_n dX2_init_12 rfl (by first | exact Or.inr ⟨_, rfl⟩ | exact Or.inl rfl) rfl ?_
  refine Wp.bipush (v := (nI 12)) dX2_init_13 (by decide) rfl ?_
  refine Wp.newai dX2_init_15 (nI_toInt (n := 12) (by decide)) (by omega) rfl ?_
  refine Wp.putF dX2_init_17 fp_X2_15 rfl (S1.nwat b1 ((a1 1 (by omega)).trans ha)) rfl rfl rfl ?_
  refine S1.mkf ((a1 1 (by omega)).trans ha) b1 ((f1 3 (by omega) (by omega)).trans (f0 3 (by omega) (by omega))) ?_
  intro h2 A2 C2 V2 S2 o2 a2 e2 b2 w2 x2 f2
  refine Wp.aload_n dX2_init_20 rfl (by first | exact Or.inr ⟨_, rfl⟩ | exact Or.inl rfl) rfl ?_
  refine Wp.bipush (v := (nI 12)) dX2_init_21 (by decide) rfl ?_
  refine Wp.newai dX2_init_23 (nI_toInt (n := 12) (by decide)) (by omega) rfl ?_
  refine Wp.putF dX2_init_25 fp_X2_18 rfl (S2.nwat b2 ((a2 1 (by omega)).trans ((a1 1 (by omega)).trans ha))) rfl rfl rfl ?_
  refine S2.mkf ((a2 1 (by omega)).trans ((a1 1 (by omega)).trans ha)) b2 ((f2 4 (by omega) (by omega)).trans ((f1 4 (by omega) (by omega)).trans (f0 4 (by omega) (by omega)))) ?_
  intro h3 A3 C3 V3 S3 o3 a3 e3 b3 w3 x3 f3
  refine Wp.aload_n dX2_init_28 rfl (by first | exact Or.inr ⟨_, rfl⟩ | exact Or.inl rfl) rfl ?_
  refine Wp.bipush (v := (nI 12)) dX2_init_29 (by decide) rfl ?_
  refine Wp.newai dX2_init_31 (nI_toInt (n := 12) (by decide)) (by omega) rfl ?_
  refine Wp.putF dX2_init_33 fp_X2_21 rfl (S3.nwat b3 ((a3 1 (by omega)).trans ((a2 1 (by omega)).trans ((a1 1 (by omega)).trans ha)))) rfl rfl rfl ?_
  refine S3.mkf ((a3 1 (by omega)).trans ((a2 1 (by omega)).trans ((a1 1 (by omega)).trans ha))) b3 ((f3 5 (by omega) (by omega)).trans ((f2 5 (by omega) (by omega)).trans ((f1 5 (by omega) (by omega)).trans (f0 5 (by omega) (by omega))))) ?_
  intro h4 A4 C4 V4 S4 o4 a4 e4 b4 w4 x4 f4
  refine Wp.aload_n dX2_init_36 rfl (by first | exact Or.inr ⟨_, rfl⟩ | exact Or.inl rfl) rfl ?_
  refine Wp.iconst (v := (nI 0)) dX2_init_37 (by decide) rfl ?_
  refine Wp.put dX2_init_38 fp_X2_24 (S4.at' b4 ((a4 1 (by omega)).trans ((a3 1 (by omega)).trans ((a2 1 (by omega)).trans ((a1 1 (by omega)).trans ha))))) rfl rfl rfl ?_
  refine S4.put' ((a4 1 (by omega)).trans ((a3 1 (by omega)).trans ((a2 1 (by omega)).trans ((a1 1 (by omega)).trans ha)))) b4 ?_
  intro h5 C5 V5 S5 o5 b5 w5 x5 f5
  exact Wp.vret dX2_init_41 rfl (by
    have q1 : ∀ t, t ≠ 1 → C5 t = C4 t := fun t z => f5 t z
    refine ⟨rfl, A4, C5, S5, (o1.tr (o2.tr (o3.tr (o4.tr o5)))).le (by omega), fun s hs => (a4 s (by omega)).trans ((a3 s (by omega)).trans ((a2 s (by omega)).trans (a1 s (by omega)))), fun s hs => (q1 s (by omega)).trans ((f4 s (by omega) (by omega)).trans ((f3 s (by omega) (by omega)).trans ((f2 s (by omega) (by omega)).trans (f1 s (by omega) (by omega))))), ?_⟩
    refine ⟨V5, _, _, _, _, b5, ?_, ?_, ?_, ?_, ?_, ?_, ?_, ?_, fun z => absurd (show (0 : Nat) = 3 from z) (by decide), (q1 _ (by omega)).trans ((f4 _ (by omega) (by omega)).trans ((f3 _ (by omega) (by omega)).trans ((f2 _ (by omega) (by omega)).trans e1))), (q1 _ (by omega)).trans ((f4 _ (by omega) (by omega)).trans ((f3 _ (by omega) (by omega)).trans e2)), (q1 _ (by omega)).trans ((f4 _ (by omega) (by omega)).trans e3), (q1 _ (by omega)).trans e4, fun l hl => absurd (show l < 0 from hl) (Nat.not_lt_zero l)⟩
    · rw [x5 0 (by decide), x4 0 (by decide), x3 0 (by decide), x2 0 (by decide), w1, a4 _ (by omega), a3 _ (by omega), a2 _ (by omega)]
    · rw [x5 1 (by decide), x4 1 (by decide), x3 1 (by decide), w2, a4 _ (by omega), a3 _ (by omega)]
    · rw [x5 2 (by decide), x4 2 (by decide), w3, a4 _ (by omega)]
    · rw [x5 3 (by decide), w4]
    · rw [x5 4 (by decide), x4 4 (by decide), x3 4 (by decide), x2 4 (by decide), x1 4 (by decide)]; rfl
    · rw [x5 5 (by decide), x4 5 (by decide), x3 5 (by decide), x2 5 (by decide), x1 5 (by decide)]; rfl
    · rw [w5]; rfl
    · rw [x5 7 (by decide), x4 7 (by decide), x3 7 (by decide), x2 7 (by decide), x1 7 (by decide)]; rfl)
theorem c_X10_init {B : ev_B} {d a : Nat} {X : Nat → Prop} {h : ev_H} {A : Nat → Nat} {C : Nat → Option ev_E} (hS : CS X h A C) (ha : A 7 = a) (hb : C 7 = some (ev_ob 9 ev_v9)) (hd : 2 ≤ d) :
    Wp B d M_X10_init 0 [some (.ref a)] [] h (fun v h' => v = none ∧ ∃ C', CS X h' A C' ∧ CG X h h' 0 ∧ (∀ s, s ≠ 7 → C' s = C s) ∧ WinS C' Sg.new 0) := by
  refine Wp.aload_n dX10_init_0 rfl (by first | exact Or.inr ⟨_, rfl⟩ | exact Or.inl rfl) rfl ?_
  refine Wp.objInit dX10_init_1 ol_X10_1 (by omega) (by decide) rfl ?_
  refine Wp.aload_n dX10_init_4 rfl (by first | exact Or.inr ⟨_, rfl⟩ | exact Or.inl rfl) rfl ?_
  refine Wp.iconst (v := (nI 0)) dX10_init_5 (by decide) rfl ?_
  refine Wp.put dX10_init_6 fp_X10_7 (hS.at' hb ha) rfl rfl rfl ?_
  refine hS.put' ha hb ?_
  intro h1 C1 V1 S1 o1 b1 w1 x1 f1
  refine Wp.aload_n dX10_init_9 rfl (by first | exact Or.inr ⟨_, rfl⟩ | exact Or.inl rfl) rfl ?_
  refine Wp.iconst (v := (nI 1)) dX10_init_10 (by decide) rfl ?_
  refine Wp.put dX10_init_11 fp_X10_13 (S1.at' b1 ha) rfl rfl rfl ?_
  refine S1.put' ha b1 ?_
  intro h2 C2 V2 S2 o2 b2 w2 x2 f2
  refine Wp.aload_n dX10_init_14 rfl (by first | exact Or.inr ⟨_, rfl⟩ | exact Or.inl rfl) rfl ?_
  refine Wp.bipush (v := (nI 10)) dX10_init_15 (by decide) rfl ?_
  refine Wp.put dX10_init_17 fp_X10_16 (S2.at' b2 ha) rfl rfl rfl ?_
  refine S2.put' ha b2 ?_
  intro h3 C3 V3 S3 o3 b3 w3 x3 f3
  refine Wp.aload_n dX10_init_20 rfl (by first | exact Or.inr ⟨_, rfl⟩ | exact Or.inl rfl) rfl ?_
  refine Wp.iconst (v := (nI 1)) dX10_init_21 (by decide) rfl ?_
  refine Wp.put dX10_init_22 fp_X10_19 (S3.at' b3 ha) rfl rfl rfl ?_
  refine S3.put' ha b3 ?_
  intro h4 C4 V4 S4 o4 b4 w4 x4 f4
  exact Wp.vret dX10_init_25 rfl (by
    refine ⟨rfl, C4, S4, (o1.tr (o2.tr (o3.tr o4))).le (by omega), fun t ht => (f4 t ht).trans ((f3 t ht).trans ((f2 t ht).trans (f1 t ht))), V4, b4, ?_, ?_, ?_, ?_, ?_⟩
    · rw [x4 0 (by decide), x3 0 (by decide), x2 0 (by decide), w1]; rfl
    · rw [x4 1 (by decide), x3 1 (by decide), w2]; rfl
    · rw [x4 2 (by decide), w3]; rfl
    · rw [w4]; rfl
    · rw [x4 4 (by decide), x3 4 (by decide), x2 4 (by decide), x1 4 (by decide)]; rfl)
theorem c_X0_init {B : ev_B} {d a : Nat} {X : Nat → Prop} {h : ev_H} {A : Nat → Nat} {C : Nat → Option ev_E} (hS : CS X h A C) (ha : A 10 = a) (hb : C 10 = some (ev_ob 0 ev_v0)) (f0 : C 11 = none) (hd : 2 ≤ d) :
    Wp B d M_X0_init 0 [some (.ref a)] [] h (fun v h' => v = none ∧ ∃ A' C', CS X h' A' C' ∧ CG X h h' 41 ∧ (∀ s, s ≠ 11 → A' s = A s) ∧ (∀ s, s ≠ 10 → s ≠ 11 → C' s = C s) ∧ ActS A' C' Sg.new) := by
  refine Wp.aload_n dX0_init_0 rfl (by first | exact Or.inr ⟨_, rfl⟩ | exact Or.inl rfl) rfl ?_
  refine Wp.objInit dX0_init_1 ol_X0_3 (by omega) (by decide) rfl ?_
  refine Wp.aload_n dX0_init_4 rfl (by first | exact Or.inr ⟨_, rfl⟩ | exact Or.inl rfl) rfl ?_
  refine Wp.bipush (v := (nI 40)) dX0_init_5 (by decide) rfl ?_
  refine Wp.newai dX0_init_7 (nI_toInt (n := 40) (by decide)) (by omega) rfl ?_
  refine Wp.putF dX0_init_9 fp_X0_11 rfl (hS.nwat hb ha) rfl rfl rfl ?_
  refine hS.mkf ha hb f0 ?_
  intro h1 A1 C1 V1 S1 o1 a1 e1 b1 w1 x1 f1
  exact Wp.vret dX0_init_12 rfl (by
    refine ⟨rfl, A1, C1, S1, o1.le (by omega), a1, fun s h1 h2 => f1 s h2 h1, V1, _, b1, w1, ?_, e1, fun i hi => absurd (show i < 0 from hi) (Nat.not_lt_zero i)⟩
    rw [x1 1 (by decide)]; rfl)
theorem c_X6_init {B : ev_B} {d s a : Nat} {X : Nat → Prop} {h : ev_H} {A : Nat → Nat} {C : Nat → Option ev_E} (hS : CS X h A C) (ha : A (14 + 2 * s) = a) (hb : C (14 + 2 * s) = some (ev_ob 5 ev_v5)) (f0 : C (15 + 2 * s) = none) (hd : 2 ≤ d) :
    Wp B d M_X6_init 0 [some (.ref a)] [] h (fun v h' => v = none ∧ ∃ A' C', CS X h' A' C' ∧ CG X h h' 41 ∧ (∀ u, u ≠ 15 + 2 * s → A' u = A u) ∧ (∀ u, u ≠ 14 + 2 * s → u ≠ 15 + 2 * s → C' u = C u) ∧ ShS A' C' Sg.new s) := by
  refine Wp.aload_n dX6_init_0 rfl (by first | exact Or.inr ⟨_, rfl⟩ | exact Or.inl rfl) rfl ?_
  refine Wp.objInit dX6_init_1 ol_X6_3 (by omega) (by decide) rfl ?_
  refine Wp.aload_n dX6_init_4 rfl (by first | exact Or.inr ⟨_, rfl⟩ | exact Or.inl rfl) rfl ?_
  refine Wp.iconst (v := (-1)) dX6_init_5 (by decide) rfl ?_
  refine Wp.put dX6_init_6 fp_X6_9 (hS.at' hb ha) rfl rfl rfl ?_
  refine hS.put' ha hb ?_
  intro h1 C1 V1 S1 o1 b1 w1 x1 f1
  refine Wp.aload_n dX6_init_9 rfl (by first | exact Or.inr ⟨_, rfl⟩ | exact Or.inl rfl) rfl ?_
  refine Wp.bipush (v := (nI 40)) dX6_init_10 (by decide) rfl ?_
  refine Wp.newal dX6_init_12 (nI_toInt (n := 40) (by decide)) (by omega) rfl ?_
  refine Wp.putF dX6_init_14 fp_X6_15 rfl (S1.nwat b1 ha) rfl rfl rfl ?_
  refine S1.mkf ha b1 ((f1 _ (by omega)).trans f0) ?_
  intro h2 A2 C2 V2 S2 o2 a2 e2 b2 w2 x2 f2
  exact Wp.vret dX6_init_17 rfl (by
    refine ⟨rfl, A2, C2, S2, (o1.tr o2).le (by omega), a2, fun u h1 h2 => (f2 u h2 h1).trans (f1 u h1), V2, _, b2, ?_, ?_, w2, e2, fun i hi => rfl⟩
    · rw [x2 0 (by decide), w1]; rfl
    · rw [x2 1 (by decide), x1 1 (by decide)]; rfl)
