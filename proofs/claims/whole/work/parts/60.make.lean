/-! the class: making -/
section
variable {B : ev_B} {d : Nat} {M : ev_M} {pc : Nat} {ls : List (Option Value)} {st : List Value} {X : Nat → Prop} {h : ev_H} {A : Nat → Nat} {C : Nat → Option ev_E} {Q : Option Value → ev_H → Prop} {t b a ci k m : Nat} {V : Nat → Value} {v : Value} {e e0 : ev_E}
theorem CS.lt' (hS : CS X h A C) (hb : C b = some e0) (ha : A b = a) : a < h.2.1 := by rw [← ha]; exact (hS.1 b e0 hb).2.1
theorem CS.nwat (hS : CS X h A C) (hb : C b = some e0) (ha : A b = a) : (ev_nw h e m).1 a = some e0 := by
  rw [ev_nw_o (by have := hS.lt' hb ha; omega)]; exact hS.at' hb ha
theorem CS.put' (hS : CS X h A C) (ha : A b = a) (hb : C b = some (ev_ob ci V))
    (kk : ∀ h1 C1 V1, CS X h1 A C1 → CG X h h1 0 → C1 b = some (ev_ob ci V1) → V1 k = v → (∀ j, j ≠ k → V1 j = V j) → (∀ s, s ≠ b → C1 s = C s) → Wp B d M pc ls st h1 Q) : Wp B d M pc ls st (ev_up h a (ev_ob ci (updV V k v))) Q := by
  subst ha; exact hS.put hb kk
/-- what is new, written into a field -/
theorem CS.mkf (hS : CS X h A C) (ha : A b = a) (hb : C b = some (ev_ob ci V)) (ht : C t = none)
    (kk : ∀ h1 A1 C1 V1, CS X h1 A1 C1 → CG X h h1 (m + 1) → (∀ s, s ≠ t → A1 s = A s) → C1 t = some e → C1 b = some (ev_ob ci V1) → V1 k = .ref (A1 t) → (∀ j, j ≠ k → V1 j = V j) → (∀ s, s ≠ t → s ≠ b → C1 s = C s) → Wp B d M pc ls st h1 Q) : Wp B d M pc ls st (ev_up (ev_nw h e m) a (ev_ob ci (updV V k (.ref h.2.1)))) Q := by
  have htb : b ≠ t := fun z => by rw [z, ht] at hb; cases hb
  obtain ⟨n1, n2⟩ := hS.new e m ht
  have hb1 : (fun s => if s = t then some e else C s) b = some (ev_ob ci V) := by simp only [if_neg htb]; exact hb
  have ha1 : updN A t h.2.1 b = a := by simp only [updN, if_neg htb]; exact ha
  refine n1.put' ha1 hb1 (fun h1 C1 V1 S1 o1 b1 w1 x1 f1 => kk h1 _ C1 V1 S1 ?_ ?_ ?_ b1 ?_ x1 ?_)
  · have := n2.tr o1; exact this
  · intro s hs; simp only [updN, if_neg hs]
  · rw [f1 t (fun z => htb z.symm)]; simp only [if_true]
  · rw [w1]; simp only [updN, if_true]
  · intro s h1 h2; rw [f1 s h2]; simp only [if_neg h1]
end
theorem c_X1_init {B : ev_B} {d b a : Nat} {X : Nat → Prop} {h : ev_H} {A : Nat → Nat} {C : Nat → Option ev_E} (hS : CS X h A C) (ha : A b = a) (hb : C b = some (ev_ob 1 ev_v1)) (f0 : ∀ s, b < s → s ≤ b + 3 → C s = none) (hd : 2 ≤ d) :
    Wp B d M_X1_init 0 [some (.ref a)] [] h (fun v h' => v = none ∧ ∃ A' C', CS X h' A' C' ∧ CG X h h' 27 ∧ (∀ s, s ≤ b ∨ b + 3 < s → A' s = A s) ∧ (∀ s, s < b ∨ b + 3 < s → C' s = C s) ∧ ∀ N, ChoS A' C' b N [] 8) := by
  refine Wp.aload_n dX1_init_0 rfl (by first | exact Or.inr ⟨_, rfl⟩ | exact Or.inl rfl) rfl ?_
  refine Wp.objInit dX1_init_1 ol_X1_3 (by omega) (by decide) rfl ?_
  refine Wp.aload_n dX1_init_4 rfl (by first | exact Or.inr ⟨_, rfl⟩ | exact Or.inl rfl) rfl ?_
  refine Wp.bipush (v := (nI 8)) dX1_init_5 (by decide) rfl ?_
  refine Wp.newai dX1_init_7 (nI_toInt (n := 8) (by decide)) (by omega) rfl ?_
  refine Wp.put dX1_init_9 fp_X1_9 (hS.nwat hb ha) rfl rfl rfl ?_
  refine hS.mkf ha hb (f0 (b + 1) (by omega) (by omega)) ?_
  intro h1 A1 C1 V1 S1 o1 a1 e1 b1 w1 x1 f1
  refine Wp.aload_n dX1_init_12 rfl (by first | exact Or.inr ⟨_, rfl⟩ | exact Or.inl rfl) rfl ?_
  refine Wp.bipush (v := (nI 8)) dX1_init_13 (by decide) rfl ?_
  refine Wp.newai dX1_init_15 (nI_toInt (n := 8) (by decide)) (by omega) rfl ?_
  refine Wp.put dX1_init_17 fp_X1_15 (S1.nwat b1 ((a1 b (by omega)).trans ha)) rfl rfl rfl ?_
  refine S1.mkf ((a1 b (by omega)).trans ha) b1 ((f1 (b + 2) (by omega) (by omega)).trans (f0 _ (by omega) (by omega))) ?_
  intro h2 A2 C2 V2 S2 o2 a2 e2 b2 w2 x2 f2
  refine Wp.aload_n dX1_init_20 rfl (by first | exact Or.inr ⟨_, rfl⟩ | exact Or.inl rfl) rfl ?_
  refine Wp.bipush (v := (nI 8)) dX1_init_21 (by decide) rfl ?_
  refine Wp.newai dX1_init_23 (nI_toInt (n := 8) (by decide)) (by omega) rfl ?_
  refine Wp.put dX1_init_25 fp_X1_18 (S2.nwat b2 ((a2 b (by omega)).trans ((a1 b (by omega)).trans ha))) rfl rfl rfl ?_
  refine S2.mkf ((a2 b (by omega)).trans ((a1 b (by omega)).trans ha)) b2 ((f2 (b + 3) (by omega) (by omega)).trans ((f1 (b + 3) (by omega) (by omega)).trans (f0 _ (by omega) (by omega)))) ?_
  intro h3 A3 C3 V3 S3 o3 a3 e3 b3 w3 x3 f3
  exact Wp.vret dX1_init_28 rfl (by
    refine ⟨rfl, A3, C3, S3, (o1.tr (o2.tr o3)).le (by omega), fun s hs => (a3 s (by omega)).trans ((a2 s (by omega)).trans (a1 s (by omega))), fun s hs => (f3 s (by omega) (by omega)).trans ((f2 s (by omega) (by omega)).trans (f1 s (by omega) (by omega))), fun N => ⟨V3, _, _, _, b3, ?_, ?_, w3, ?_, (f3 _ (by omega) (by omega)).trans ((f2 _ (by omega) (by omega)).trans e1), (f3 _ (by omega) (by omega)).trans e2, e3, Nat.zero_le _, Nat.le_refl _, fun j hj => absurd hj (Nat.not_lt_zero j)⟩⟩
    · rw [x3 0 (by decide), x2 0 (by decide), w1, a3 _ (by omega), a2 _ (by omega)]
    · rw [x3 1 (by decide), w2, a3 _ (by omega)]
    · rw [x3 3 (by decide), x2 3 (by decide), x1 3 (by decide)]; rfl)
theorem c_X5_init {B : ev_B} {d b a : Nat} {X : Nat → Prop} {h : ev_H} {A : Nat → Nat} {C : Nat → Option ev_E} (hS : CS X h A C) (ha : A b = a) (hb : C b = some (ev_ob 4 ev_v4)) (f0 : C (b + 1) = none) (hd : 2 ≤ d) :
    Wp B d M_X5_init 0 [some (.ref a)] [] h (fun v h' => v = none ∧ ∃ A' C', CS X h' A' C' ∧ CG X h h' 5 ∧ (∀ s, s ≠ b + 1 → A' s = A s) ∧ (∀ s, s ≠ b → s ≠ b + 1 → C' s = C s) ∧ ∀ rv, RowS A' C' b 0 rv 4) := by
  refine Wp.aload_n dX5_init_0 rfl (by first | exact Or.inr ⟨_, rfl⟩ | exact Or.inl rfl) rfl ?_
  refine Wp.objInit dX5_init_1 ol_X5_1 (by omega) (by decide) rfl ?_
  refine Wp.aload_n dX5_init_4 rfl (by first | exact Or.inr ⟨_, rfl⟩ | exact Or.inl rfl) rfl ?_
  refine Wp.iconst (v := (nI 4)) dX5_init_5 (by decide) rfl ?_
  refine Wp.newai dX5_init_6 (nI_toInt (n := 4) (by decide)) (by omega) rfl ?_
  refine Wp.put dX5_init_8 fp_X5_9 (hS.nwat hb ha) rfl rfl rfl ?_
  refine hS.mkf ha hb f0 ?_
  intro h1 A1 C1 V1 S1 o1 a1 e1 b1 w1 x1 f1
  exact Wp.vret dX5_init_11 rfl (by
    refine ⟨rfl, A1, C1, S1, o1.le (by omega), a1, fun s h1 h2 => f1 s h2 h1, fun rv => ⟨V1, _, b1, w1, ?_, e1, by omega, fun i k hi => absurd hi (Nat.not_lt_zero i)⟩⟩
    rw [x1 1 (by decide)]; rfl)
set_option maxHeartbeats 1000000 in
theorem c_X3_init {B : ev_B} {d b a ci : Nat} {X : Nat → Prop} {h : ev_H} {A : Nat → Nat} {C : Nat → Option ev_E} (hS : CS X h A C) (ha : A b = a) {V : Nat → Value} {x y : Int32} (hO : ev_isO ci) (hb : C b = some (ev_ob ci V)) (f0 : ∀ s, b < s → s ≤ b + 6 → C s = none) (hd : 4 ≤ d) :
    Wp B d M_X3_init 0 [some (.ref a), some (.int x), some (.int y)] [] h (fun v h' => v = none ∧ ∃ A' C' V', CS X h' A' C' ∧ CG X h h' 40 ∧ (∀ s, s ≤ b ∨ b + 6 < s → A' s = A s) ∧ (∀ s, s < b ∨ b + 6 < s → C' s = C s) ∧ C' b = some (ev_ob ci V') ∧ V' 0 = .int x ∧ V' 1 = .int y ∧ V' 2 = .ref (A' (b + 1)) ∧ V' 3 = .ref (A' (b + 5)) ∧ V' 4 = .int (-1) ∧ V' 5 = .int (-1) ∧ (∀ k, 6 ≤ k → V' k = V k) ∧ (∀ N, ChoS A' C' (b + 1) N [] 8) ∧ ∀ rv, RowS A' C' (b + 5) 0 rv 4) := by
  refine Wp.aload_n dX3_init_0 rfl (by first | exact Or.inr ⟨_, rfl⟩ | exact Or.inl rfl) rfl ?_
  refine Wp.objInit dX3_init_1 ol_X3_3 (by omega) (by decide) rfl ?_
  refine Wp.aload_n dX3_init_4 rfl (by first | exact Or.inr ⟨_, rfl⟩ | exact Or.inl rfl) rfl ?_
  refine Wp.new dX3_init_5 nw_X3_9 rfl ?_
  refine hS.nw (b + 1) (f0 (b + 1) (by omega) (by omega)) ?_
  intro h1 A1 C1 S1 o1 a1 e1 f1
  refine Wp.dup dX3_init_8 rfl rfl ?_
  refine Wp.cIN dX3_init_9 ci_X3_11 rfl (by omega) rfl (Nat.le_of_ble_eq_true rfl) (Nat.le_of_ble_eq_true rfl) rfl (c_X1_init (d := d - 1) (b := b + 1) S1 rfl e1 (fun s q1 q2 => (f1 s (by omega)).trans (f0 s (by omega) (by omega))) (by omega)) ?_
  rintro _ h2 ⟨rfl, A2, C2, S2, o2, k2, f2, ch2⟩
  dsimp only [Option.toList, List.drop, List.cons_append, List.nil_append]
  rw [show A1 (b + 1) = A2 (b + 1) from (k2 _ (by omega)).symm]
  refine Wp.putF dX3_init_12 (fp_X3_12 hO) rfl (S2.at' ((f2 b (by omega)).trans ((f1 b (by omega)).trans hb)) ((k2 b (by omega)).trans ((a1 b (by omega)).trans ha))) rfl rfl rfl ?_
  refine S2.put' ((k2 b (by omega)).trans ((a1 b (by omega)).trans ha)) ((f2 b (by omega)).trans ((f1 b (by omega)).trans hb)) ?_
  intro h3 C3 V3 S3 o3 b3 w3 x3 f3
  refine Wp.aload_n dX3_init_15 rfl (by first | exact Or.inr ⟨_, rfl⟩ | exact Or.inl rfl) rfl ?_
  refine Wp.new dX3_init_16 nw_X3_18 rfl ?_
  refine S3.nw (b + 5) ((f3 _ (by omega)).trans ((f2 _ (by omega)).trans ((f1 _ (by omega)).trans (f0 (b + 5) (by omega) (by omega))))) ?_
  intro h4 A4 C4 S4 o4 a4 e4 f4
  refine Wp.dup dX3_init_19 rfl rfl ?_
  refine Wp.cIN dX3_init_20 ci_X3_20 rfl (by omega) rfl (Nat.le_of_ble_eq_true rfl) (Nat.le_of_ble_eq_true rfl) rfl (c_X5_init (d := d - 1) (b := b + 5) S4 rfl e4 ((f4 _ (by omega)).trans ((f3 _ (by omega)).trans ((f2 _ (by omega)).trans ((f1 _ (by omega)).trans (f0 (b + 6) (by omega) (by omega)))))) (by omega)) ?_
  rintro _ h5 ⟨rfl, A5, C5, S5, o5, k5, f5, r5⟩
  dsimp only [Option.toList, List.drop, List.cons_append, List.nil_append]
  rw [show A4 (b + 5) = A5 (b + 5) from (k5 _ (by omega)).symm]
  refine Wp.putF dX3_init_23 (fp_X3_21 hO) rfl (S5.at' ((f5 b (by omega) (by omega)).trans ((f4 b (by omega)).trans b3)) ((k5 b (by omega)).trans ((a4 b (by omega)).trans ((k2 b (by omega)).trans ((a1 b (by omega)).trans ha))))) rfl rfl rfl ?_
  refine S5.put' ((k5 b (by omega)).trans ((a4 b (by omega)).trans ((k2 b (by omega)).trans ((a1 b (by omega)).trans ha)))) ((f5 b (by omega) (by omega)).trans ((f4 b (by omega)).trans b3)) ?_
  intro h6 C6 V6 S6 o6 b6 w6 x6 f6
  refine Wp.aload_n dX3_init_26 rfl (by first | exact Or.inr ⟨_, rfl⟩ | exact Or.inl rfl) rfl ?_
  refine Wp.iconst (v := (-1)) dX3_init_27 (by decide) rfl ?_
  refine Wp.put dX3_init_28 (fp_X3_25 hO) (S6.at' b6 ((k5 b (by omega)).trans ((a4 b (by omega)).trans ((k2 b (by omega)).trans ((a1 b (by omega)).trans ha))))) rfl rfl rfl ?_
  refine S6.put' ((k5 b (by omega)).trans ((a4 b (by omega)).trans ((k2 b (by omega)).trans ((a1 b (by omega)).trans ha)))) b6 ?_
  intro h7 C7 V7 S7 o7 b7 w7 x7 f7
  refine Wp.aload_n dX3_init_31 rfl (by first | exact Or.inr ⟨_, rfl⟩ | exact Or.inl rfl) rfl ?_
  refine Wp.iconst (v := (-1)) dX3_init_32 (by decide) rfl ?_
  refine Wp.put dX3_init_33 (fp_X3_29 hO) (S7.at' b7 ((k5 b (by omega)).trans ((a4 b (by omega)).trans ((k2 b (by omega)).trans ((a1 b (by omega)).trans ha))))) rfl rfl rfl ?_
  refine S7.put' ((k5 b (by omega)).trans ((a4 b (by omega)).trans ((k2 b (by omega)).trans ((a1 b (by omega)).trans ha)))) b7 ?_
  intro h8 C8 V8 S8 o8 b8 w8 x8 f8
  refine Wp.aload_n dX3_init_36 rfl (by first | exact Or.inr ⟨_, rfl⟩ | exact Or.inl rfl) rfl ?_
  refine Wp.iload_n dX3_init_37 rfl rfl ?_
  refine Wp.putF dX3_init_38 (fp_X3_32 hO) rfl (S8.at' b8 ((k5 b (by omega)).trans ((a4 b (by omega)).trans ((k2 b (by omega)).trans ((a1 b (by omega)).trans ha))))) rfl rfl rfl ?_
  refine S8.put' ((k5 b (by omega)).trans ((a4 b (by omega)).trans ((k2 b (by omega)).trans ((a1 b (by omega)).trans ha)))) b8 ?_
  intro h9 C9 V9 S9 o9 b9 w9 x9 f9
  refine Wp.aload_n dX3_init_41 rfl (by first | exact Or.inr ⟨_, rfl⟩ | exact Or.inl rfl) rfl ?_
  refine Wp.iload_n dX3_init_42 rfl rfl ?_
  refine Wp.putF dX3_init_43 (fp_X3_35 hO) rfl (S9.at' b9 ((k5 b (by omega)).trans ((a4 b (by omega)).trans ((k2 b (by omega)).trans ((a1 b (by omega)).trans ha))))) rfl rfl rfl ?_
  refine S9.put' ((k5 b (by omega)).trans ((a4 b (by omega)).trans ((k2 b (by omega)).trans ((a1 b (by omega)).trans ha)))) b9 ?_
  intro h10 C10 V10 S10 o10 b10 w10 x10 f10
  exact Wp.vret dX3_init_46 rfl (by
    have ff : ∀ s, s ≠ b → C10 s = C5 s := fun s hs => (f10 s (by omega)).trans ((f9 s (by omega)).trans ((f8 s (by omega)).trans ((f7 s (by omega)).trans (f6 s (by omega)))))
    refine ⟨rfl, A5, C10, V10, S10, (o1.tr (o2.tr (o3.tr (o4.tr (o5.tr (o6.tr (o7.tr (o8.tr (o9.tr o10))))))))).le (by omega), fun s hs => (k5 s (by omega)).trans ((a4 s (by omega)).trans ((k2 s (by omega)).trans (a1 s (by omega)))), fun s hs => (ff s (by omega)).trans ((f5 s (by omega) (by omega)).trans ((f4 s (by omega)).trans ((f3 s (by omega)).trans ((f2 s (by omega)).trans (f1 s (by omega)))))), b10, ?_, w10, ?_, ?_, ?_, ?_, fun k hk => ?_, fun N => ?_, fun rv => ?_⟩
    · rw [x10 0 (by decide)]; exact w9
    · rw [x10 2 (by decide), x9 2 (by decide), x8 2 (by decide), x7 2 (by decide), x6 2 (by decide), w3, k5 _ (by omega), a4 _ (by omega)]
    · rw [x10 3 (by decide), x9 3 (by decide), x8 3 (by decide), x7 3 (by decide), w6]
    · rw [x10 4 (by decide), x9 4 (by decide), x8 4 (by decide), w7]
    · rw [x10 5 (by decide), x9 5 (by decide), w8]
    · rw [x10 k (by omega), x9 k (by omega), x8 k (by omega), x7 k (by omega), x6 k (by omega), x3 k (by omega)]
    · exact (ch2 N).same (fun t q1 q2 => (ff t (by omega)).trans ((f5 t (by omega) (by omega)).trans ((f4 t (by omega)).trans (f3 t (by omega))))) (fun t q1 q2 => (k5 t (by omega)).trans (a4 t (by omega)))
    · exact (r5 rv).same (ff _ (by omega)) (ff _ (by omega)) rfl)
