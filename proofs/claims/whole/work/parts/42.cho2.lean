/-! the class: one step back; the window; rows that grow; putting a choice -/
theorem CS.at' {X : Nat → Prop} {h : ev_H} {A : Nat → Nat} {C : Nat → Option ev_E} {t a : Nat} {e : ev_E} (hS : CS X h A C) (hC : C t = some e) (ha : A t = a) : h.1 a = some e := by rw [← ha]; exact hS.at hC
section
variable {B : ev_B} {d : Nat} {M : ev_M} {pc : Nat} {ls : List (Option Value)} {st : List Value} {Q : Option Value → ev_H → Prop} {X : Nat → Prop} {h : ev_H} {A : Nat → Nat} {C : Nat → Option ev_E} {t : Nat}
/-- a new row takes an old one's place in an object -/
theorem CS.grow {ci k m b a : Nat} {V : Nat → Value} {e0 : ev_E} (g' : Nat → Int32) (hS : CS X h A C) (ha : A b = a) (hb : C b = some (ev_ob ci V)) (ht : C t = some e0) (htb : t ≠ b)
    (kk : ∀ h1 A1 C1 V1, CS X h1 A1 C1 → CG X h h1 (m + 1) → (∀ s, s ≠ t → A1 s = A s) → C1 b = some (ev_ob ci V1) → V1 k = .ref (A1 t) → (∀ j, j ≠ k → V1 j = V j) → C1 t = some (ev_ia m g') → (∀ s, s ≠ b → s ≠ t → C1 s = C s) → Wp B d M pc ls st h1 Q) :
    Wp B d M pc ls st (ev_up (ev_nw h (ev_ia m g') m) a (ev_ob ci (updV V k (.ref h.2.1)))) Q := by
  subst ha
  obtain ⟨h1, h2, h3⟩ := hS
  have hbl := (h1 b _ hb).2.1
  refine kk _ (updN A t h.2.1) (fun s => if s = t then some (ev_ia m g') else if s = b then some (ev_ob ci (updV V k (.ref h.2.1))) else C s) (updV V k (.ref h.2.1)) ⟨fun s e he => ?_, fun u w hu hw => ?_, fun q hq => Nat.lt_succ_of_lt (h3 q hq)⟩ ⟨fun q hq => ?_, Nat.le_succ _, Nat.le_refl _⟩ (fun s hs => by simp [updN, hs]) (by simp only [if_neg htb.symm]; simp) (by simp [updV, updN]) (fun j hj => by simp [updV, hj]) (if_pos (Eq.refl t)) (fun s h4 h5 => by simp only [if_neg h4, if_neg h5])
  · by_cases e1 : s = t
    · subst e1
      simp only [if_true] at he
      cases he
      simp only [updN, if_true]
      refine ⟨?_, Nat.lt_succ_self _, fun z => Nat.lt_irrefl _ (h3 _ z)⟩
      rw [ev_up_o (by omega)]; exact ev_nw_s
    · simp only [if_neg e1] at he
      simp only [updN, if_neg e1]
      by_cases e2 : s = b
      · subst e2
        simp only [if_true] at he
        cases he
        exact ⟨ev_up_s, Nat.lt_succ_of_lt hbl, (h1 s _ hb).2.2⟩
      · simp only [if_neg e2] at he
        have hc := h1 s e he
        refine ⟨?_, Nat.lt_succ_of_lt hc.2.1, hc.2.2⟩
        rw [ev_up_o (fun z => e2 (h2 s b (by rw [he]; simp) (by rw [hb]; simp) z)), ev_nw_o (by omega)]
        exact hc.1
  · have key : ∀ u, u ≠ t → (if u = t then some (ev_ia m g') else if u = b then some (ev_ob ci (updV V k (.ref h.2.1))) else C u) ≠ none → C u ≠ none ∧ A u < h.2.1 := fun u e1 hu => by
      rw [if_neg e1] at hu
      by_cases e2 : u = b
      · rw [e2, hb]; exact ⟨by simp, hbl⟩
      · rw [if_neg e2] at hu
        cases hx : C u with
        | none => exact absurd hx hu
        | some y => exact ⟨by simp, (h1 u y hx).2.1⟩
    intro hab
    by_cases e1 : u = t
    · by_cases e2 : w = t
      · rw [e1, e2]
      · have := (key w e2 hw).2
        simp only [updN, e1, e2, if_true, if_false] at hab
        omega
    · by_cases e2 : w = t
      · have := (key u e1 hu).2
        simp only [updN, e1, e2, if_true, if_false] at hab
        omega
      · simp only [updN, e1, e2, if_false] at hab
        exact h2 u w (key u e1 hu).1 (key w e2 hw).1 hab
  · rw [ev_up_o (fun z => (h1 b _ hb).2.2 (by rw [← z]; exact hq)), ev_nw_o (by have := h3 q hq; omega)]
end
theorem ev_up_nw {h : ev_H} {e e' : ev_E} {k : Nat} : ev_up (ev_nw h e k) h.2.1 e' = ev_nw h e' k := by
  show ((fun q => if q = h.2.1 then some e' else (if q = h.2.1 then some e else h.1 q)), (h.2.1 + 1, h.2.2 + (k + 1))) = ((fun q => if q = h.2.1 then some e' else h.1 q), (h.2.1 + 1, h.2.2 + (k + 1)))
  congr 1
  funext q
  by_cases hq : q = h.2.1
  · rw [if_pos hq, if_pos hq]
  · rw [if_neg hq, if_neg hq, if_neg hq]
set_option maxHeartbeats 1000000 in
theorem c_X2_stepBack {B : ev_B} {d : Nat} {X : Nat → Prop} {h : ev_H} {A : Nat → Nat} {C : Nat → Option ev_E} {σ : Sg} {ns : Nat} (hS : CS X h A C) (hN : NetS A C σ ns) (hW : Wf σ) (hns : ns ≤ 100000) (hU : σ.U ≠ 0) (hd : 2 ≤ d) :
    Wp B d M_X2_stepBack 0 [some (.ref (A 1))] [] h (fun v h' => v = none ∧ ∃ C' ns', CS X h' A C' ∧ CG X h h' 0 ∧ (∀ t, t = 0 ∨ 5 < t → C' t = C t) ∧ NetS A C' (σ.net σ.B 0 σ.al σ.sb σ.rb) ns' ∧ ns < ns' ∧ ns' ≤ ns + 2) := by
  obtain ⟨V, g0, g1, g2, g3, hV, v0, v1, v2, v3, v4, v5, v6, v7, v8, k0, k1, k2, k3, hg⟩ := id hN
  have hT := hW.net.1
  have hL := hW.net.2.1
  have hLM := LM_ge σ
  have hu4 := hW.u
  have huu : σ.U = 1 ∨ σ.U = 2 ∨ σ.U = 3 ∨ σ.U = 4 := by omega
  rcases huu with hu | hu | hu | hu
  · refine Wp.aload_n dX2_stepBack_0 rfl (by first | exact Or.inr ⟨_, rfl⟩ | exact Or.inl rfl) rfl ?_
    refine Wp.get dX2_stepBack_1 fl_X2_24 (hS.at hV) v6 rfl ?_
    rw [hu]
    refine Wp.tswIn (off := 32) (n := 36) dX2_stepBack_4 (by decide) (by decide) (by decide) (by decide) ?_
    refine Wp.aload_n dX2_stepBack_36 rfl (by first | exact Or.inr ⟨_, rfl⟩ | exact Or.inl rfl) rfl ?_
    refine Wp.dup dX2_stepBack_37 rfl rfl ?_
    refine Wp.get dX2_stepBack_38 fl_X2_28 (hS.at hV) v4 rfl ?_
    refine Wp.iconst (v := (nI 1)) dX2_stepBack_41 (by decide) rfl ?_
    refine Wp.isub dX2_stepBack_42 rfl ?_
    rw [pk_sub (by have := hW.u1 hu; omega)]
    refine Wp.put dX2_stepBack_43 fp_X2_28 (hS.at hV) rfl rfl rfl ?_
    refine hS.put hV ?_
    intro h43 C43 V43 S43 o43 e43 w43 x43 f43
    refine Wp.goto (n := 94) dX2_stepBack_46 (by decide) ?_
    refine Wp.aload_n dX2_stepBack_94 rfl (by first | exact Or.inr ⟨_, rfl⟩ | exact Or.inl rfl) rfl ?_
    refine Wp.iconst (v := (nI 0)) dX2_stepBack_95 (by decide) rfl ?_
    refine Wp.cV dX2_stepBack_96 cv_X2_34 rfl (by omega) rfl (Nat.le_of_ble_eq_true rfl) (Nat.le_of_ble_eq_true rfl) (S43.at e43) rfl (c_X2_changed (d := d - 1) (u := 0) S43 e43 ((x43 7 (by decide)).trans v7)) ?_
    rintro _ hc ⟨rfl, Cc, Vc, Sc, oc, fc, ec, wc6, wc7, xc⟩
    dsimp only [Option.toList, List.drop, List.cons_append, List.nil_append]
    have oc := o43.tr oc
    exact Wp.vret dX2_stepBack_99 rfl (by
      have hlm : LM σ = σ.N.L := by unfold LM; rw [hu]; rfl
      refine ⟨rfl, _, ns + 1, Sc, oc, fun t ht => (fc t (by omega)).trans (f43 t (by omega)), ?_, by omega, by omega⟩
      have hB : σ.B = σ.N.s_T (σ.N.T - 1) := by unfold Sg.B; rw [hu] <;> rfl
      rw [hB]
      exact ⟨_, _, _, _, _, ec, ((xc 0 (by decide) (by decide)).trans ((x43 0 (by decide)).trans v0)), ((xc 1 (by decide) (by decide)).trans ((x43 1 (by decide)).trans v1)), ((xc 2 (by decide) (by decide)).trans ((x43 2 (by decide)).trans v2)), ((xc 3 (by decide) (by decide)).trans ((x43 3 (by decide)).trans v3)), ((xc 4 (by decide) (by decide)).trans w43), ((xc 5 (by decide) (by decide)).trans ((x43 5 (by decide)).trans v5)), wc6, wc7, fun z => absurd (show (0 : Nat) = 3 from z) (by decide), ((fc (2) (by decide)).trans ((f43 (2) (by omega)).trans k0)), ((fc (3) (by decide)).trans ((f43 (3) (by omega)).trans k1)), ((fc (4) (by decide)).trans ((f43 (4) (by omega)).trans k2)), ((fc (5) (by decide)).trans ((f43 (5) (by omega)).trans k3)), fun l hl => hg l (by have hl2 : l < σ.N.L := hl; omega)⟩)
  · refine Wp.aload_n dX2_stepBack_0 rfl (by first | exact Or.inr ⟨_, rfl⟩ | exact Or.inl rfl) rfl ?_
    refine Wp.get dX2_stepBack_1 fl_X2_24 (hS.at hV) v6 rfl ?_
    rw [hu]
    refine Wp.tswIn (off := 45) (n := 49) dX2_stepBack_4 (by decide) (by decide) (by decide) (by decide) ?_
    refine Wp.aload_n dX2_stepBack_49 rfl (by first | exact Or.inr ⟨_, rfl⟩ | exact Or.inl rfl) rfl ?_
    refine Wp.dup dX2_stepBack_50 rfl rfl ?_
    refine Wp.get dX2_stepBack_51 fl_X2_31 (hS.at hV) v5 rfl ?_
    refine Wp.iconst (v := (nI 1)) dX2_stepBack_54 (by decide) rfl ?_
    refine Wp.isub dX2_stepBack_55 rfl ?_
    rw [pk_sub (by have := hW.u2 hu; omega)]
    refine Wp.put dX2_stepBack_56 fp_X2_31 (hS.at hV) rfl rfl rfl ?_
    refine hS.put hV ?_
    intro h56 C56 V56 S56 o56 e56 w56 x56 f56
    refine Wp.goto (n := 94) dX2_stepBack_59 (by decide) ?_
    refine Wp.aload_n dX2_stepBack_94 rfl (by first | exact Or.inr ⟨_, rfl⟩ | exact Or.inl rfl) rfl ?_
    refine Wp.iconst (v := (nI 0)) dX2_stepBack_95 (by decide) rfl ?_
    refine Wp.cV dX2_stepBack_96 cv_X2_34 rfl (by omega) rfl (Nat.le_of_ble_eq_true rfl) (Nat.le_of_ble_eq_true rfl) (S56.at e56) rfl (c_X2_changed (d := d - 1) (u := 0) S56 e56 ((x56 7 (by decide)).trans v7)) ?_
    rintro _ hc ⟨rfl, Cc, Vc, Sc, oc, fc, ec, wc6, wc7, xc⟩
    dsimp only [Option.toList, List.drop, List.cons_append, List.nil_append]
    have oc := o56.tr oc
    exact Wp.vret dX2_stepBack_99 rfl (by
      have hlm : LM σ = σ.N.L := by unfold LM; rw [hu]; rfl
      refine ⟨rfl, _, ns + 1, Sc, oc, fun t ht => (fc t (by omega)).trans (f56 t (by omega)), ?_, by omega, by omega⟩
      have hB : σ.B = σ.N.s_L (σ.N.L - 1) := by unfold Sg.B; rw [hu] <;> rfl
      rw [hB]
      exact ⟨_, _, _, _, _, ec, ((xc 0 (by decide) (by decide)).trans ((x56 0 (by decide)).trans v0)), ((xc 1 (by decide) (by decide)).trans ((x56 1 (by decide)).trans v1)), ((xc 2 (by decide) (by decide)).trans ((x56 2 (by decide)).trans v2)), ((xc 3 (by decide) (by decide)).trans ((x56 3 (by decide)).trans v3)), ((xc 4 (by decide) (by decide)).trans ((x56 4 (by decide)).trans v4)), ((xc 5 (by decide) (by decide)).trans w56), wc6, wc7, fun z => absurd (show (0 : Nat) = 3 from z) (by decide), ((fc (2) (by decide)).trans ((f56 (2) (by omega)).trans k0)), ((fc (3) (by decide)).trans ((f56 (3) (by omega)).trans k1)), ((fc (4) (by decide)).trans ((f56 (4) (by omega)).trans k2)), ((fc (5) (by decide)).trans ((f56 (5) (by omega)).trans k3)), fun l hl => hg l (by have hl2 : l < σ.N.L - 1 := hl; omega)⟩)
  · refine Wp.aload_n dX2_stepBack_0 rfl (by first | exact Or.inr ⟨_, rfl⟩ | exact Or.inl rfl) rfl ?_
    refine Wp.get dX2_stepBack_1 fl_X2_24 (hS.at hV) v6 rfl ?_
    rw [hu]
    refine Wp.tswIn (off := 58) (n := 62) dX2_stepBack_4 (by decide) (by decide) (by decide) (by decide) ?_
    refine Wp.aload_n dX2_stepBack_62 rfl (by first | exact Or.inr ⟨_, rfl⟩ | exact Or.inl rfl) rfl ?_
    refine Wp.aload_n dX2_stepBack_63 rfl (by first | exact Or.inr ⟨_, rfl⟩ | exact Or.inl rfl) rfl ?_
    refine Wp.get dX2_stepBack_64 fl_X2_42 (hS.at hV) (v8 hu).1 rfl ?_
    refine Wp.aload_n dX2_stepBack_67 rfl (by first | exact Or.inr ⟨_, rfl⟩ | exact Or.inl rfl) rfl ?_
    refine Wp.get dX2_stepBack_68 fl_X2_45 (hS.at hV) (v8 hu).2.1 rfl ?_
    refine Wp.aload_n dX2_stepBack_71 rfl (by first | exact Or.inr ⟨_, rfl⟩ | exact Or.inl rfl) rfl ?_
    refine Wp.get dX2_stepBack_72 fl_X2_48 (hS.at hV) (v8 hu).2.2 rfl ?_
    refine Wp.cV dX2_stepBack_75 cv_X2_51 rfl (by omega) rfl (Nat.le_of_ble_eq_true rfl) (Nat.le_of_ble_eq_true rfl) (hS.at hV) rfl (c_X2_changeLine (d := d - 1) hS hN hW hns (hW.u3 hu) (by omega)) ?_
    rintro _ h2 ⟨rfl, C2, _, S2, o2, f2, N2, rfl⟩
    obtain ⟨Vb, b0, b1, b2, b3, hVb, y0, y1, y2, y3, y4, y5, y6, y7, y8, z0, z1, z2, z3, hgb⟩ := N2
    dsimp only [Option.toList, List.drop, List.cons_append, List.nil_append]
    refine Wp.goto (n := 94) dX2_stepBack_78 (by decide) ?_
    refine Wp.aload_n dX2_stepBack_94 rfl (by first | exact Or.inr ⟨_, rfl⟩ | exact Or.inl rfl) rfl ?_
    refine Wp.iconst (v := (nI 0)) dX2_stepBack_95 (by decide) rfl ?_
    refine Wp.cV dX2_stepBack_96 cv_X2_34 rfl (by omega) rfl (Nat.le_of_ble_eq_true rfl) (Nat.le_of_ble_eq_true rfl) (S2.at hVb) rfl (c_X2_changed (d := d - 1) (u := 0) S2 hVb y7) ?_
    rintro _ hc ⟨rfl, Cc, Vc, Sc, oc, fc, ec, wc6, wc7, xc⟩
    dsimp only [Option.toList, List.drop, List.cons_append, List.nil_append]
    have oc := o2.tr oc
    exact Wp.vret dX2_stepBack_99 rfl (by
      refine ⟨rfl, _, ns + 1 + 1, Sc, oc, fun t ht => (fc t (by omega)).trans (f2 t ht), ?_, by omega, by omega⟩
      have hB : σ.B = σ.N.al σ.al σ.sb σ.rb := by unfold Sg.B; rw [hu]; rfl
      rw [hB]
      exact ⟨_, _, _, _, _, ec, ((xc 0 (by decide) (by decide)).trans y0), ((xc 1 (by decide) (by decide)).trans y1), ((xc 2 (by decide) (by decide)).trans y2), ((xc 3 (by decide) (by decide)).trans y3), ((xc 4 (by decide) (by decide)).trans y4), ((xc 5 (by decide) (by decide)).trans y5), wc6, wc7, fun z => absurd (show (0 : Nat) = 3 from z) (by decide), ((fc (2) (by decide)).trans z0), ((fc (3) (by decide)).trans z1), ((fc (4) (by decide)).trans z2), ((fc (5) (by decide)).trans z3), fun l hl => hgb l hl⟩)
  · refine Wp.aload_n dX2_stepBack_0 rfl (by first | exact Or.inr ⟨_, rfl⟩ | exact Or.inl rfl) rfl ?_
    refine Wp.get dX2_stepBack_1 fl_X2_24 (hS.at hV) v6 rfl ?_
    rw [hu]
    refine Wp.tswIn (off := 77) (n := 81) dX2_stepBack_4 (by decide) (by decide) (by decide) (by decide) ?_
    refine Wp.aload_n dX2_stepBack_81 rfl (by first | exact Or.inr ⟨_, rfl⟩ | exact Or.inl rfl) rfl ?_
    refine Wp.dup dX2_stepBack_82 rfl rfl ?_
    refine Wp.get dX2_stepBack_83 fl_X2_31 (hS.at hV) v5 rfl ?_
    refine Wp.iconst (v := (nI 1)) dX2_stepBack_86 (by decide) rfl ?_
    refine Wp.iadd dX2_stepBack_87 rfl ?_
    rw [nI_add1]
    refine Wp.put dX2_stepBack_88 fp_X2_31 (hS.at hV) rfl rfl rfl ?_
    refine hS.put hV ?_
    intro h88 C88 V88 S88 o88 e88 w88 x88 f88
    refine Wp.goto (n := 94) dX2_stepBack_91 (by decide) ?_
    refine Wp.aload_n dX2_stepBack_94 rfl (by first | exact Or.inr ⟨_, rfl⟩ | exact Or.inl rfl) rfl ?_
    refine Wp.iconst (v := (nI 0)) dX2_stepBack_95 (by decide) rfl ?_
    refine Wp.cV dX2_stepBack_96 cv_X2_34 rfl (by omega) rfl (Nat.le_of_ble_eq_true rfl) (Nat.le_of_ble_eq_true rfl) (S88.at e88) rfl (c_X2_changed (d := d - 1) (u := 0) S88 e88 ((x88 7 (by decide)).trans v7)) ?_
    rintro _ hc ⟨rfl, Cc, Vc, Sc, oc, fc, ec, wc6, wc7, xc⟩
    dsimp only [Option.toList, List.drop, List.cons_append, List.nil_append]
    have oc := o88.tr oc
    exact Wp.vret dX2_stepBack_99 rfl (by
      have hlm : LM σ = σ.N.L + 1 := by unfold LM; rw [hu]; rfl
      refine ⟨rfl, _, ns + 1, Sc, oc, fun t ht => (fc t (by omega)).trans (f88 t (by omega)), ?_, by omega, by omega⟩
      have hB : σ.B = σ.N.s_L (σ.N.L + 1) := by unfold Sg.B; rw [hu] <;> rfl
      rw [hB]
      exact ⟨_, _, _, _, _, ec, ((xc 0 (by decide) (by decide)).trans ((x88 0 (by decide)).trans v0)), ((xc 1 (by decide) (by decide)).trans ((x88 1 (by decide)).trans v1)), ((xc 2 (by decide) (by decide)).trans ((x88 2 (by decide)).trans v2)), ((xc 3 (by decide) (by decide)).trans ((x88 3 (by decide)).trans v3)), ((xc 4 (by decide) (by decide)).trans ((x88 4 (by decide)).trans v4)), ((xc 5 (by decide) (by decide)).trans w88), wc6, wc7, fun z => absurd (show (0 : Nat) = 3 from z) (by decide), ((fc (2) (by decide)).trans ((f88 (2) (by omega)).trans k0)), ((fc (3) (by decide)).trans ((f88 (3) (by omega)).trans k1)), ((fc (4) (by decide)).trans ((f88 (4) (by omega)).trans k2)), ((fc (5) (by decide)).trans ((f88 (5) (by omega)).trans k3)), fun l hl => hg l (by have hl2 : l < σ.N.L + 1 := hl; omega)⟩)
def WinS (C : Nat → Option ev_E) (σ : Sg) (ws : Nat) : Prop := ∃ V : Nat → Value, C 7 = some (ev_ob 9 V) ∧ V 0 = .int (iI σ.p1) ∧ V 1 = .int (iI σ.q1) ∧ V 2 = .int (iI σ.p2) ∧ V 3 = .int (iI σ.q2) ∧ V 4 = .int (nI ws)
theorem WinS.H {X : Nat → Prop} {h : ev_H} {A : Nat → Nat} {C : Nat → Option ev_E} {σ : Sg} {ws : Nat} (hN : WinS C σ ws) (hS : CS X h A C) : WinH h (A 7) σ.p1 σ.q1 σ.p2 σ.q2 := by
  obtain ⟨V, hV, v0, v1, v2, v3, -⟩ := hN
  exact ⟨V, hS.at hV, v0, v1, v2, v3⟩
theorem c_X10_become {B : ev_B} {d : Nat} {X : Nat → Prop} {h : ev_H} {A : Nat → Nat} {C : Nat → Option ev_E} {σ : Sg} {ws : Nat} {p q p2 q2 : Int32} (hS : CS X h A C) (hN : WinS C σ ws) :
    Wp B d M_X10_become 0 [some (.ref (A 7)), some (.int p), some (.int q), some (.int p2), some (.int q2)] [] h (fun v h' => v = none ∧ ∃ C', CS X h' A C' ∧ CG X h h' 0 ∧ (∀ t, t ≠ 7 → C' t = C t) ∧ WinS C' (σ.win p.toInt q.toInt p2.toInt q2.toInt) (ws + 1)) := by
  obtain ⟨V, hV, v0, v1, v2, v3, v4⟩ := hN
  refine Wp.aload_n dX10_become_0 rfl (by first | exact Or.inr ⟨_, rfl⟩ | exact Or.inl rfl) rfl ?_
  refine Wp.iload_n dX10_become_1 rfl rfl ?_
  refine Wp.put dX10_become_2 fp_X10_7 (hS.at hV) rfl rfl rfl ?_
  refine hS.put hV ?_
  intro h2 C2 V2 S2 o2 e2 w2 x2 f2
  refine Wp.aload_n dX10_become_5 rfl (by first | exact Or.inr ⟨_, rfl⟩ | exact Or.inl rfl) rfl ?_
  refine Wp.iload_n dX10_become_6 rfl rfl ?_
  refine Wp.put dX10_become_7 fp_X10_13 (S2.at e2) rfl rfl rfl ?_
  refine S2.put e2 ?_
  intro h7 C7 V7 S7 o7 e7 w7 x7 f7
  have o7 := o2.tr o7
  refine Wp.aload_n dX10_become_10 rfl (by first | exact Or.inr ⟨_, rfl⟩ | exact Or.inl rfl) rfl ?_
  refine Wp.iload_n dX10_become_11 rfl rfl ?_
  refine Wp.put dX10_become_12 fp_X10_16 (S7.at e7) rfl rfl rfl ?_
  refine S7.put e7 ?_
  intro h12 C12 V12 S12 o12 e12 w12 x12 f12
  have o12 := o7.tr o12
  refine Wp.aload_n dX10_become_15 rfl (by first | exact Or.inr ⟨_, rfl⟩ | exact Or.inl rfl) rfl ?_
  refine Wp.iload dX10_become_16 rfl rfl ?_
  refine Wp.put dX10_become_18 fp_X10_19 (S12.at e12) rfl rfl rfl ?_
  refine S12.put e12 ?_
  intro h18 C18 V18 S18 o18 e18 w18 x18 f18
  have o18 := o12.tr o18
  refine Wp.aload_n dX10_become_21 rfl (by first | exact Or.inr ⟨_, rfl⟩ | exact Or.inl rfl) rfl ?_
  refine Wp.dup dX10_become_22 rfl rfl ?_
  refine Wp.get dX10_become_23 fl_X10_22 (S18.at e18) ((x18 4 (by decide)).trans ((x12 4 (by decide)).trans ((x7 4 (by decide)).trans ((x2 4 (by decide)).trans v4)))) rfl ?_
  refine Wp.iconst (v := (nI 1)) dX10_become_26 (by decide) rfl ?_
  refine Wp.iadd dX10_become_27 rfl ?_
  rw [nI_add1]
  refine Wp.put dX10_become_28 fp_X10_22 (S18.at e18) rfl rfl rfl ?_
  refine S18.put e18 ?_
  intro h28 C28 V28 S28 o28 e28 w28 x28 f28
  have o28 := o18.tr o28
  exact Wp.vret dX10_become_31 rfl (by exact ⟨rfl, _, S28, o28, fun t ht => (f28 t ht).trans ((f18 t ht).trans ((f12 t ht).trans ((f7 t ht).trans (f2 t ht)))), _, e28, (((x28 0 (by decide)).trans ((x18 0 (by decide)).trans ((x12 0 (by decide)).trans ((x7 0 (by decide)).trans w2))))).trans (by show Value.int p = .int (iI p.toInt); rw [← iI_of]), (((x28 1 (by decide)).trans ((x18 1 (by decide)).trans ((x12 1 (by decide)).trans w7)))).trans (by show Value.int q = .int (iI q.toInt); rw [← iI_of]), (((x28 2 (by decide)).trans ((x18 2 (by decide)).trans w12))).trans (by show Value.int p2 = .int (iI p2.toInt); rw [← iI_of]), (((x28 3 (by decide)).trans w18)).trans (by show Value.int q2 = .int (iI q2.toInt); rw [← iI_of]), w28⟩)
theorem c_X10_holdsInside {B : ev_B} {d w : Nat} {h : ev_H} {p q p2 q2 : Int} {x y : Int32} (hw : WinH h w p q p2 q2) (hw1 : isP p q) (hw2 : isP p2 q2) (hx : -1000000 ≤ x.toInt ∧ x.toInt ≤ 1000000) (hy : -1000000 ≤ y.toInt ∧ y.toInt ≤ 1000000) (hd : 1 ≤ d) :
    Wp B d M_X10_holdsInside 0 [some (.ref w), some (.int (x)), some (.int (y))] [] h (fun v h' => v = some (.int (bI (decide (p * y.toInt < x.toInt * q ∧ x.toInt * q2 < p2 * y.toInt)))) ∧ h' = h) := by
  obtain ⟨V, hV, v0, v1, v2, v3⟩ := hw
  have m1 := mulb (a := p) (b := y.toInt) (A := 10000) (C := 1000000) (by omega) (by omega)
  have m2 := mulb (a := x.toInt) (b := q) (A := 1000000) (C := 1000) (by omega) (by omega)
  have m3 := mulb (a := x.toInt) (b := q2) (A := 1000000) (C := 1000) (by omega) (by omega)
  have m4 := mulb (a := p2) (b := y.toInt) (A := 10000) (C := 1000000) (by omega) (by omega)
  refine Wp.aload_n dX10_holdsInside_0 rfl (by first | exact Or.inr ⟨_, rfl⟩ | exact Or.inl rfl) rfl ?_
  refine Wp.get dX10_holdsInside_1 fl_X10_7 hV v0 rfl ?_
  refine Wp.i2l dX10_holdsInside_4 rfl ?_
  rw [iI_l (by omega) (by omega)]
  refine Wp.aload_n dX10_holdsInside_5 rfl (by first | exact Or.inr ⟨_, rfl⟩ | exact Or.inl rfl) rfl ?_
  refine Wp.get dX10_holdsInside_6 fl_X10_13 hV v1 rfl ?_
  refine Wp.i2l dX10_holdsInside_9 rfl ?_
  rw [iI_l (by omega) (by omega)]
  refine Wp.iload_n dX10_holdsInside_10 rfl rfl ?_
  refine Wp.i2l dX10_holdsInside_11 rfl ?_
  rw [i2l_lI]
  refine Wp.iload_n dX10_holdsInside_12 rfl rfl ?_
  refine Wp.i2l dX10_holdsInside_13 rfl ?_
  rw [i2l_lI]
  refine Wp.cSN dX10_holdsInside_14 cs_X10_25 rfl (by omega) rfl (Nat.le_of_ble_eq_true rfl) (Nat.le_of_ble_eq_true rfl) rfl (c_X11_isLess (d := d - 1) ⟨by omega, by omega⟩ ⟨by omega, by omega⟩) ?_
  rintro _ h_ ⟨rfl, e_⟩
  rw [e_]
  clear e_ h_
  dsimp only [Option.toList, List.drop, List.cons_append, List.nil_append]
  refine Wp.bif_eq (tgt := 44) (n := 20) dX10_holdsInside_17 (by decide) rfl (fun c_17 => ?_) (fun c_17 => ?_)
  · try simp only [decide_eq_true_eq, decide_eq_false_iff_not, Bool.and_eq_true, bI_0, bI_n0] at c_17
    refine Wp.iconst (v := (nI 0)) dX10_holdsInside_44 (by decide) rfl ?_
    exact Wp.zret dX10_holdsInside_45 rfl (by decide) (q_ret (bI_f (decide_eq_false (by omega))))
  · try simp only [decide_eq_true_eq, decide_eq_false_iff_not, Bool.and_eq_true, bI_0, bI_n0] at c_17
    refine Wp.iload_n dX10_holdsInside_20 rfl rfl ?_
    refine Wp.i2l dX10_holdsInside_21 rfl ?_
    rw [i2l_lI]
    refine Wp.iload_n dX10_holdsInside_22 rfl rfl ?_
    refine Wp.i2l dX10_holdsInside_23 rfl ?_
    rw [i2l_lI]
    refine Wp.aload_n dX10_holdsInside_24 rfl (by first | exact Or.inr ⟨_, rfl⟩ | exact Or.inl rfl) rfl ?_
    refine Wp.get dX10_holdsInside_25 fl_X10_16 hV v2 rfl ?_
    refine Wp.i2l dX10_holdsInside_28 rfl ?_
    rw [iI_l (by omega) (by omega)]
    refine Wp.aload_n dX10_holdsInside_29 rfl (by first | exact Or.inr ⟨_, rfl⟩ | exact Or.inl rfl) rfl ?_
    refine Wp.get dX10_holdsInside_30 fl_X10_19 hV v3 rfl ?_
    refine Wp.i2l dX10_holdsInside_33 rfl ?_
    rw [iI_l (by omega) (by omega)]
    refine Wp.cSN dX10_holdsInside_34 cs_X10_25 rfl (by omega) rfl (Nat.le_of_ble_eq_true rfl) (Nat.le_of_ble_eq_true rfl) rfl (c_X11_isLess (d := d - 1) ⟨by omega, by omega⟩ ⟨by omega, by omega⟩) ?_
    rintro _ h_ ⟨rfl, e_⟩
    rw [e_]
    clear e_ h_
    dsimp only [Option.toList, List.drop, List.cons_append, List.nil_append]
    refine Wp.bif_eq (tgt := 44) (n := 40) dX10_holdsInside_37 (by decide) rfl (fun c_37 => ?_) (fun c_37 => ?_)
    · try simp only [decide_eq_true_eq, decide_eq_false_iff_not, Bool.and_eq_true, bI_0, bI_n0] at c_37
      refine Wp.iconst (v := (nI 0)) dX10_holdsInside_44 (by decide) rfl ?_
      exact Wp.zret dX10_holdsInside_45 rfl (by decide) (q_ret (bI_f (decide_eq_false (by omega))))
    · try simp only [decide_eq_true_eq, decide_eq_false_iff_not, Bool.and_eq_true, bI_0, bI_n0] at c_37
      refine Wp.iconst (v := (nI 1)) dX10_holdsInside_40 (by decide) rfl ?_
      refine Wp.goto (n := 45) dX10_holdsInside_41 (by decide) ?_
      exact Wp.zret dX10_holdsInside_45 rfl (by decide) (q_ret (bI_t (decide_eq_true (by omega))))
theorem mn_nI {N m : Nat} (hN : N ≤ 1000000) (hm : m ≤ 1000000) : ∃ z : Nat, (if nI m < Int32.ofNat N then nI m else Int32.ofNat N) = nI z ∧ z ≤ N ∧ z ≤ m ∧ (z = N ∨ z = m) := by
  have e : Int32.ofNat N = nI N := rfl
  rw [e]
  by_cases hlt : nI m < nI N
  · have := hlt
    simp (disch := omega) only [i_lt, nI_tI] at this
    exact ⟨m, if_pos hlt, by omega, Nat.le_refl _, Or.inr rfl⟩
  · have := hlt
    simp (disch := omega) only [i_lt, nI_tI] at this
    exact ⟨N, if_neg hlt, Nat.le_refl _, by omega, Or.inl rfl⟩
set_option maxHeartbeats 1000000 in
theorem c_J7_copyOf {B : ev_B} {d a m N : Nat} {h : ev_H} {g : Nat → Int32} (h0 : h.1 a = some (ev_ia N g)) (hm : m ≠ N) (hmb : m ≤ 1000000) (hN : N ≤ 1000000) (ha : a < h.2.1) (hd : 1 ≤ d) :
    Wp B d M_J7_copyOf_59c91 0 [some (.ref a), some (.int (nI m)), none] [] h (fun v h' => ∃ g', v = some (.ref h.2.1) ∧ h' = ev_nw h (ev_ia m g') m ∧ ∀ j, j < N → j < m → g' j = g j) := by
  refine Wp.iload_n dJ7_copyOf_59c91_0 rfl rfl ?_
  refine Wp.aload_n dJ7_copyOf_59c91_1 rfl (by first | exact Or.inr ⟨_, rfl⟩ | exact Or.inl rfl) rfl ?_
  refine Wp.alen dJ7_copyOf_59c91_2 (by decide) h0 rfl ?_
  rw [show Int32.ofNat N = nI N from rfl]
  refine Wp.icmp_ne (tgt := 14) (n := 6) dJ7_copyOf_59c91_3 (by decide) rfl (fun c_3 => ?_) (fun c_3 => ?_)
  · try simp (disch := omega) only [nI_bit0, nI_bit1, Bool.not_eq_false, Bool.not_eq_true] at c_3
    try simp (disch := omega) only [i_lt, i_le, i_eq, l_lt, l_le, l_eq, i_0, i_m1, l_0, nI_tI, iI_tI, lI_tI, Int.not_lt, Int.not_le] at c_3
    refine Wp.iload_n dJ7_copyOf_59c91_14 rfl rfl ?_
    refine Wp.newai dJ7_copyOf_59c91_15 (nI_toInt (by omega)) (by omega) rfl ?_
    refine Wp.astore_n dJ7_copyOf_59c91_17 (by first | exact Or.inr ⟨_, rfl⟩ | exact Or.inl rfl) (Nat.le_of_ble_eq_true rfl) (by dsimp only [ev_st1, ev_cl] <;> rfl) rfl ?_
    refine Wp.aload_n dJ7_copyOf_59c91_18 rfl (by first | exact Or.inr ⟨_, rfl⟩ | exact Or.inl rfl) rfl ?_
    refine Wp.iconst (v := (nI 0)) dJ7_copyOf_59c91_19 (by decide) rfl ?_
    refine Wp.aload_n dJ7_copyOf_59c91_20 rfl (by first | exact Or.inr ⟨_, rfl⟩ | exact Or.inl rfl) rfl ?_
    refine Wp.iconst (v := (nI 0)) dJ7_copyOf_59c91_21 (by decide) rfl ?_
    refine Wp.aload_n dJ7_copyOf_59c91_22 rfl (by first | exact Or.inr ⟨_, rfl⟩ | exact Or.inl rfl) rfl ?_
    refine Wp.alen dJ7_copyOf_59c91_23 (by decide) ((ev_nw_o (by omega)).trans h0) rfl ?_
    refine Wp.iload_n dJ7_copyOf_59c91_24 rfl rfl ?_
    refine Wp.mmin dJ7_copyOf_59c91_25 jl_J7_304 (by omega) (Nat.le_of_ble_eq_true rfl) rfl ?_
    obtain ⟨z, hz, hz1, hz2, hz3⟩ : ∃ z : Nat, (if nI m < Int32.ofNat N then nI m else Int32.ofNat N) = nI z ∧ z ≤ N ∧ z ≤ m ∧ (z = N ∨ z = m) := mn_nI (by omega) (by omega)
    first | rw [hz] | skip
    refine Wp.copyi dJ7_copyOf_59c91_28 al_J7_150 (by omega) (N0 := N) (N1 := m) (f := g) (g := fun _ => 0) (x := 0) (y := 0) (z := z) ((ev_nw_o (by omega)).trans h0) ev_nw_s (by decide) (by decide) (nI_toInt (by omega)) (by omega) (by omega) (Nat.le_of_ble_eq_true rfl) rfl ?_
    rw [ev_up_nw]
    refine Wp.aload_n dJ7_copyOf_59c91_31 rfl (by first | exact Or.inr ⟨_, rfl⟩ | exact Or.inl rfl) rfl ?_
    exact Wp.aret dJ7_copyOf_59c91_32 rfl (Or.inr ⟨_, rfl⟩) (by first | exact Or.inr ⟨_, rfl⟩ | exact Or.inl rfl) (by exact ⟨_, rfl, rfl, fun j h1 h2 => by rw [pk_cpy_in (Nat.zero_le _) (by omega)]; simp⟩)
  · try simp (disch := omega) only [nI_bit0, nI_bit1, Bool.not_eq_false, Bool.not_eq_true] at c_3
    try simp (disch := omega) only [i_lt, i_le, i_eq, l_lt, l_le, l_eq, i_0, i_m1, l_0, nI_tI, iI_tI, lI_tI, Int.not_lt, Int.not_le] at c_3
    try simp (disch := omega) only [nI_bit0, nI_bit1, Bool.not_eq_false, Bool.not_eq_true] at c_3
    try simp (disch := omega) only [i_lt, i_le, i_eq, l_lt, l_le, l_eq, i_0, i_m1, l_0, nI_tI, iI_tI, lI_tI, Int.not_lt, Int.not_le] at c_3
    omega
