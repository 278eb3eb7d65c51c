/-! the class: its store of cells, by tags -/
def CS (X : Nat → Prop) (h : ev_H) (A : Nat → Nat) (C : Nat → Option ev_E) : Prop := (∀ t e, C t = some e → h.1 (A t) = some e ∧ A t < h.2.1 ∧ ¬ X (A t)) ∧ (∀ s t, C s ≠ none → C t ≠ none → A s = A t → s = t) ∧ (∀ a, X a → a < h.2.1)
/-- what stays, and what was made at most -/
def CG (X : Nat → Prop) (h h' : ev_H) (k : Nat) : Prop := (∀ a, X a → h'.1 a = h.1 a) ∧ h.2.1 ≤ h'.2.1 ∧ h'.2.2 ≤ h.2.2 + k
theorem CG.rfl {X : Nat → Prop} {h : ev_H} {k : Nat} : CG X h h k := ⟨fun _ _ => Eq.refl _, Nat.le_refl _, Nat.le_add_right _ _⟩
theorem CG.tr {X : Nat → Prop} {h h1 h2 : ev_H} {k k1 : Nat} (a : CG X h h1 k) (b : CG X h1 h2 k1) : CG X h h2 (k + k1) := ⟨fun q hq => (b.1 q hq).trans (a.1 q hq), Nat.le_trans a.2.1 b.2.1, by have := a.2.2; have := b.2.2; omega⟩
theorem CG.le {X : Nat → Prop} {h h1 : ev_H} {k k1 : Nat} (a : CG X h h1 k) (b : k ≤ k1) : CG X h h1 k1 := ⟨a.1, a.2.1, by have := a.2.2; omega⟩
theorem CS.at {X : Nat → Prop} {h : ev_H} {A : Nat → Nat} {C : Nat → Option ev_E} {t : Nat} {e : ev_E} (hS : CS X h A C) (hC : C t = some e) : h.1 (A t) = some e := (hS.1 t e hC).1
theorem CS.up {X : Nat → Prop} {h : ev_H} {A : Nat → Nat} {C : Nat → Option ev_E} {t : Nat} {e0 : ev_E} (e : ev_E) (hS : CS X h A C) (hC : C t = some e0) : CS X (ev_up h (A t) e) A (fun s => if s = t then some e else C s) ∧ CG X h (ev_up h (A t) e) 0 := by
  obtain ⟨h1, h2, h3⟩ := hS
  have hc := h1 t e0 hC
  refine ⟨⟨fun s e' he => ?_, fun a b ha hb => ?_, h3⟩, fun a ha => ev_up_o (fun z => hc.2.2 (by rw [← z]; exact ha)), Nat.le_refl _, Nat.le_refl _⟩
  · by_cases hs : s = t
    · subst hs
      simp only [if_true] at he
      cases he
      exact ⟨ev_up_s, hc.2⟩
    · simp only [if_neg hs] at he
      have hc' := h1 s e' he
      refine ⟨?_, hc'.2⟩
      rw [ev_up_o (fun z => hs (h2 s t (by rw [he]; simp) (by rw [hC]; simp) z))]
      exact hc'.1
  · have k : ∀ u, (if u = t then some e else C u) ≠ none → C u ≠ none := fun u hu z => by
      by_cases hut : u = t
      · rw [hut, hC] at z; cases z
      · rw [if_neg hut] at hu; exact hu z
    exact h2 a b (k a ha) (k b hb)
theorem CS.new {X : Nat → Prop} {h : ev_H} {A : Nat → Nat} {C : Nat → Option ev_E} {t : Nat} (e : ev_E) (k : Nat) (hS : CS X h A C) (hC : C t = none) : CS X (ev_nw h e k) (updN A t h.2.1) (fun s => if s = t then some e else C s) ∧ CG X h (ev_nw h e k) (k + 1) := by
  obtain ⟨h1, h2, h3⟩ := hS
  refine ⟨⟨fun s e' he => ?_, fun a b ha hb => ?_, fun a ha => Nat.lt_succ_of_lt (h3 a ha)⟩, fun a ha => ev_nw_o (by have := h3 a ha; omega), Nat.le_succ _, Nat.le_refl _⟩
  · by_cases hs : s = t
    · subst hs
      simp only [if_true] at he
      cases he
      simp only [updN, if_true]
      exact ⟨ev_nw_s, Nat.lt_succ_self _, fun z => Nat.lt_irrefl _ (h3 _ z)⟩
    · simp only [if_neg hs] at he
      have hc' := h1 s e' he
      simp only [updN, if_neg hs]
      refine ⟨?_, Nat.lt_succ_of_lt hc'.2.1, hc'.2.2⟩
      rw [ev_nw_o (by omega)]
      exact hc'.1
  · have k2 : ∀ u, u ≠ t → (if u = t then some e else C u) ≠ none → C u ≠ none ∧ A u < h.2.1 := fun u hut hu => by
      rw [if_neg hut] at hu
      cases hx : C u with
      | none => exact absurd hx hu
      | some y => exact ⟨by simp, (h1 u y hx).2.1⟩
    intro hab
    by_cases ha' : a = t
    · by_cases hb' : b = t
      · rw [ha', hb']
      · have := (k2 b hb' hb).2
        simp only [updN, ha', hb', if_true, if_false] at hab
        omega
    · by_cases hb' : b = t
      · have := (k2 a ha' ha).2
        simp only [updN, ha', hb', if_true, if_false] at hab
        omega
      · simp only [updN, ha', hb', if_false] at hab
        exact h2 a b (k2 a ha' ha).1 (k2 b hb' hb).1 hab
section
variable {B : ev_B} {d : Nat} {M : ev_M} {pc : Nat} {ls : List (Option Value)} {st : List Value} {Q : Option Value → ev_H → Prop} {X : Nat → Prop} {h : ev_H} {A : Nat → Nat} {C : Nat → Option ev_E} {t : Nat}
theorem CS.put {ci k : Nat} {V : Nat → Value} {v : Value} (hS : CS X h A C) (hC : C t = some (ev_ob ci V))
    (kk : ∀ h1 C1 V1, CS X h1 A C1 → CG X h h1 0 → C1 t = some (ev_ob ci V1) → V1 k = v → (∀ j, j ≠ k → V1 j = V j) → (∀ s, s ≠ t → C1 s = C s) → Wp B d M pc ls st h1 Q) : Wp B d M pc ls st (ev_up h (A t) (ev_ob ci (updV V k v))) Q :=
  kk _ _ _ (hS.up _ hC).1 (hS.up _ hC).2 (if_pos (Eq.refl t)) (by simp [updV]) (fun j hj => by simp [updV, hj]) (fun s hs => if_neg hs)
theorem CS.sti {N j : Nat} {g : Nat → Int32} {v : Int32} (hS : CS X h A C) (hC : C t = some (ev_ia N g))
    (kk : ∀ h1 C1 g1, CS X h1 A C1 → CG X h h1 0 → C1 t = some (ev_ia N g1) → g1 = upd g j v → (∀ s, s ≠ t → C1 s = C s) → Wp B d M pc ls st h1 Q) : Wp B d M pc ls st (ev_up h (A t) (ev_ia N (upd g j v))) Q :=
  kk _ _ _ (hS.up _ hC).1 (hS.up _ hC).2 (if_pos (Eq.refl t)) (Eq.refl _) (fun s hs => if_neg hs)
theorem CS.stl {N j : Nat} {g : Nat → Int64} {v : Int64} (hS : CS X h A C) (hC : C t = some (ev_la N g))
    (kk : ∀ h1 C1 g1, CS X h1 A C1 → CG X h h1 0 → C1 t = some (ev_la N g1) → g1 = vp_updL g j v → (∀ s, s ≠ t → C1 s = C s) → Wp B d M pc ls st h1 Q) : Wp B d M pc ls st (ev_up h (A t) (ev_la N (vp_updL g j v))) Q :=
  kk _ _ _ (hS.up _ hC).1 (hS.up _ hC).2 (if_pos (Eq.refl t)) (Eq.refl _) (fun s hs => if_neg hs)
theorem CS.stq {y N j b : Nat} {g : Nat → Option Nat} (hS : CS X h A C) (hC : C t = some (ev_qa y N g))
    (kk : ∀ h1 C1 g1, CS X h1 A C1 → CG X h h1 0 → C1 t = some (ev_qa y N g1) → g1 = va_up g j (some b) → (∀ s, s ≠ t → C1 s = C s) → Wp B d M pc ls st h1 Q) : Wp B d M pc ls st (ev_up h (A t) (ev_qa y N (va_up g j (some b)))) Q :=
  kk _ _ _ (hS.up _ hC).1 (hS.up _ hC).2 (if_pos (Eq.refl t)) (Eq.refl _) (fun s hs => if_neg hs)
theorem CS.set {e0 e : ev_E} (hS : CS X h A C) (hC : C t = some e0)
    (kk : ∀ h1 C1, CS X h1 A C1 → CG X h h1 0 → C1 t = some e → (∀ s, s ≠ t → C1 s = C s) → Wp B d M pc ls st h1 Q) : Wp B d M pc ls st (ev_up h (A t) e) Q :=
  kk _ _ (hS.up _ hC).1 (hS.up _ hC).2 (if_pos (Eq.refl t)) (fun s hs => if_neg hs)
theorem CS.nw {k : Nat} {e : ev_E} (t : Nat) (hS : CS X h A C) (hC : C t = none)
    (kk : ∀ h1 A1 C1, CS X h1 A1 C1 → CG X h h1 (k + 1) → (∀ s, s ≠ t → A1 s = A s) → C1 t = some e → (∀ s, s ≠ t → C1 s = C s) → Wp B d M pc ls (.ref (A1 t) :: st) h1 Q) : Wp B d M pc ls (.ref h.2.1 :: st) (ev_nw h e k) Q := by
  have := kk _ _ _ (hS.new e k hC).1 (hS.new e k hC).2 (fun s hs => by simp [updN, hs]) (if_pos (Eq.refl t)) (fun s hs => if_neg hs)
  have e1 : updN A t h.2.1 t = h.2.1 := by simp [updN]
  rwa [e1] at this
end
/-! the net, in the store -/
def LM (σ : Sg) : Nat := if σ.U = 4 then σ.N.L + 1 else σ.N.L
theorem LM_ge (σ : Sg) : σ.N.L ≤ LM σ := by unfold LM; split <;> omega
def NetS (A : Nat → Nat) (C : Nat → Option ev_E) (σ : Sg) (ns : Nat) : Prop := ∃ (V : Nat → Value) (g0 g1 g2 g3 : Nat → Int32), C 1 = some (ev_ob 2 V) ∧ V 0 = .ref (A 2) ∧ V 1 = .ref (A 3) ∧ V 2 = .ref (A 4) ∧ V 3 = .ref (A 5) ∧ V 4 = .int (nI σ.N.T) ∧ V 5 = .int (nI σ.N.L) ∧ V 6 = .int (nI σ.U) ∧ V 7 = .int (nI ns) ∧ (σ.U = 3 → V 8 = .int (nI σ.al) ∧ V 9 = .int (iI σ.sb) ∧ V 10 = .int (iI σ.rb)) ∧
  C 2 = some (ev_ia 12 g0) ∧ C 3 = some (ev_ia 12 g1) ∧ C 4 = some (ev_ia 12 g2) ∧ C 5 = some (ev_ia 12 g3) ∧ ∀ l, l < LM σ → g0 l = nI (σ.N.fr l) ∧ g1 l = nI (σ.N.to l) ∧ g2 l = iI (σ.N.sa l) ∧ g3 l = iI (σ.N.ri l)
theorem NetS.C {X : Nat → Prop} {h : ev_H} {A : Nat → Nat} {C : Nat → Option ev_E} {σ : Sg} {ns : Nat} (hN : NetS A C σ ns) (hS : CS X h A C) : NetC h (A 1) σ.N.T σ.N.L σ.N.fr σ.N.to σ.N.sa σ.N.ri := by
  obtain ⟨V, g0, g1, g2, g3, hV, v0, v1, v2, v3, v4, v5, -, -, -, k0, k1, k2, k3, hg⟩ := hN
  have hL := LM_ge σ
  exact ⟨V, A 2, A 3, A 4, A 5, g0, g1, g2, g3, hS.at hV, v0, v1, v2, v3, v4, v5, hS.at k0, hS.at k1, hS.at k2, hS.at k3, fun l hl => (hg l (by omega)).1, fun l hl => (hg l (by omega)).2.1, fun l hl => (hg l (by omega)).2.2.1, fun l hl => (hg l (by omega)).2.2.2⟩
theorem NetS.same {A A' : Nat → Nat} {C C' : Nat → Option ev_E} {σ : Sg} {ns : Nat} (hN : NetS A C σ ns) (hC : ∀ t, 1 ≤ t → t ≤ 5 → C' t = C t) (hA : ∀ t, 2 ≤ t → t ≤ 5 → A' t = A t) : NetS A' C' σ ns := by
  obtain ⟨V, g0, g1, g2, g3, hV, v0, v1, v2, v3, v4, v5, v6, v7, v8, k0, k1, k2, k3, hg⟩ := hN
  exact ⟨V, g0, g1, g2, g3, (hC 1 (by decide) (by decide)).trans hV, by rw [hA 2 (by decide) (by decide)]; exact v0, by rw [hA 3 (by decide) (by decide)]; exact v1, by rw [hA 4 (by decide) (by decide)]; exact v2, by rw [hA 5 (by decide) (by decide)]; exact v3, v4, v5, v6, v7, v8, (hC 2 (by decide) (by decide)).trans k0, (hC 3 (by decide) (by decide)).trans k1, (hC 4 (by decide) (by decide)).trans k2, (hC 5 (by decide) (by decide)).trans k3, hg⟩
/-- a method of the net has ended: another net, and a higher stamp if it is another one -/
def NQ (X : Nat → Prop) (h : ev_H) (A : Nat → Nat) (C : Nat → Option ev_E) (σ σ' : Sg) (ns : Nat) (a : Option Value) (v : Option Value) (h' : ev_H) : Prop := v = a ∧ ∃ (C' : Nat → Option ev_E) (ns' : Nat), CS X h' A C' ∧ CG X h h' 0 ∧ (∀ t, t = 0 ∨ 5 < t → C' t = C t) ∧ NetS A C' σ' ns' ∧ (σ' = σ ∧ ns' = ns ∨ ns < ns' ∧ ns' ≤ ns + 2)
theorem c_X2_changed {B : ev_B} {d : Nat} {X : Nat → Prop} {h : ev_H} {A : Nat → Nat} {C : Nat → Option ev_E} {V : Nat → Value} {ns u : Nat} (hS : CS X h A C) (hV : C 1 = some (ev_ob 2 V)) (v7 : V 7 = .int (nI ns)) :
    Wp B d M_X2_changed 0 [some (.ref (A 1)), some (.int (nI u))] [] h (fun v h' => v = none ∧ ∃ C' V', CS X h' A C' ∧ CG X h h' 0 ∧ (∀ t, t ≠ 1 → C' t = C t) ∧ C' 1 = some (ev_ob 2 V') ∧ V' 6 = .int (nI u) ∧ V' 7 = .int (nI (ns + 1)) ∧ ∀ k, k ≠ 6 → k ≠ 7 → V' k = V k) := by
  refine Wp.aload_n dX2_changed_0 rfl (by first | exact Or.inr ⟨_, rfl⟩ | exact Or.inl rfl) rfl ?_
  refine Wp.iload_n dX2_changed_1 rfl rfl ?_
  refine Wp.put dX2_changed_2 fp_X2_24 (hS.at hV) rfl rfl rfl ?_
  refine hS.put hV ?_
  intro h2 C2 V2 S2 o2 e2 w2 x2 f2
  refine Wp.aload_n dX2_changed_5 rfl (by first | exact Or.inr ⟨_, rfl⟩ | exact Or.inl rfl) rfl ?_
  refine Wp.dup dX2_changed_6 rfl rfl ?_
  refine Wp.get dX2_changed_7 fl_X2_55 (S2.at e2) ((x2 7 (by decide)).trans v7) rfl ?_
  refine Wp.iconst (v := (nI 1)) dX2_changed_10 (by decide) rfl ?_
  refine Wp.iadd dX2_changed_11 rfl ?_
  rw [nI_add1]
  refine Wp.put dX2_changed_12 fp_X2_55 (S2.at e2) rfl rfl rfl ?_
  refine S2.put e2 ?_
  intro h12 C12 V12 S12 o12 e12 w12 x12 f12
  have o12 := o2.tr o12
  exact Wp.vret dX2_changed_15 rfl (by exact ⟨rfl, _, _, S12, o12, fun t ht => (f12 t ht).trans (f2 t ht), e12, (x12 6 (by decide)).trans w2, w12, fun k h1 h2 => (x12 k h2).trans (x2 k h1)⟩)
theorem c_X2_addThing {B : ev_B} {d : Nat} {X : Nat → Prop} {h : ev_H} {A : Nat → Nat} {C : Nat → Option ev_E} {σ : Sg} {ns : Nat} (hS : CS X h A C) (hN : NetS A C σ ns) (hW : Wf σ) (hns : ns ≤ 100000) (hd : 1 ≤ d) :
    Wp B d M_X2_addThing 0 [some (.ref (A 1))] [] h (NQ X h A C σ (t_thing σ) ns (some (.int (a_thing σ)))) := by
  obtain ⟨V, g0, g1, g2, g3, hV, v0, v1, v2, v3, v4, v5, v6, v7, v8, k0, k1, k2, k3, hg⟩ := id hN
  have hT := hW.net.1
  have hL := hW.net.2.1
  have hLM := LM_ge σ
  refine Wp.aload_n dX2_addThing_0 rfl (by first | exact Or.inr ⟨_, rfl⟩ | exact Or.inl rfl) rfl ?_
  refine Wp.get dX2_addThing_1 fl_X2_28 (hS.at hV) v4 rfl ?_
  refine Wp.bipush (v := (nI 7)) dX2_addThing_4 (by decide) rfl ?_
  refine Wp.icmp_lt (tgt := 12) (n := 9) dX2_addThing_6 (by decide) rfl (fun c_6 => ?_) (fun c_6 => ?_)
  · try simp (disch := omega) only [nI_bit0, nI_bit1, Bool.not_eq_false, Bool.not_eq_true] at c_6
    try simp (disch := omega) only [i_lt, i_le, i_eq, l_lt, l_le, l_eq, i_0, i_m1, l_0, nI_tI, iI_tI, lI_tI, Int.not_lt, Int.not_le] at c_6
    refine Wp.aload_n dX2_addThing_12 rfl (by first | exact Or.inr ⟨_, rfl⟩ | exact Or.inl rfl) rfl ?_
    refine Wp.iconst (v := (nI 1)) dX2_addThing_13 (by decide) rfl ?_
    refine Wp.cV dX2_addThing_14 cv_X2_34 rfl (by omega) rfl (Nat.le_of_ble_eq_true rfl) (Nat.le_of_ble_eq_true rfl) (hS.at hV) rfl (c_X2_changed (d := d - 1) (u := 1) hS hV v7) ?_
    rintro _ hc ⟨rfl, Cc, Vc, Sc, oc, fc, ec, wc6, wc7, xc⟩
    dsimp only [Option.toList, List.drop, List.cons_append, List.nil_append]
    refine Wp.aload_n dX2_addThing_17 rfl (by first | exact Or.inr ⟨_, rfl⟩ | exact Or.inl rfl) rfl ?_
    refine Wp.dup dX2_addThing_18 rfl rfl ?_
    refine Wp.get dX2_addThing_19 fl_X2_28 (Sc.at ec) ((xc 4 (by decide) (by decide)).trans v4) rfl ?_
    refine Wp.dup_x1 dX2_addThing_22 rfl rfl rfl ?_
    refine Wp.iconst (v := (nI 1)) dX2_addThing_23 (by decide) rfl ?_
    refine Wp.iadd dX2_addThing_24 rfl ?_
    rw [nI_add1]
    refine Wp.put dX2_addThing_25 fp_X2_28 (Sc.at ec) rfl rfl rfl ?_
    refine Sc.put ec ?_
    intro h25 C25 V25 S25 o25 e25 w25 x25 f25
    have o25 := oc.tr o25
    exact Wp.iret dX2_addThing_28 rfl (by rw [a_thing, t_thing, if_neg (by omega), if_neg (by omega)]; exact ⟨rfl, _, ns + 1, S25, o25, fun t ht => (f25 t (by omega)).trans (fc t (by omega)), ⟨_, _, _, _, _, e25, ((x25 0 (by decide)).trans ((xc 0 (by decide) (by decide)).trans v0)), ((x25 1 (by decide)).trans ((xc 1 (by decide) (by decide)).trans v1)), ((x25 2 (by decide)).trans ((xc 2 (by decide) (by decide)).trans v2)), ((x25 3 (by decide)).trans ((xc 3 (by decide) (by decide)).trans v3)), w25, ((x25 5 (by decide)).trans ((xc 5 (by decide) (by decide)).trans v5)), ((x25 6 (by decide)).trans wc6), ((x25 7 (by decide)).trans wc7), fun z => absurd (show (1 : Nat) = 3 from z) (by decide), ((f25 (2) (by omega)).trans ((fc (2) (by decide)).trans k0)), ((f25 (3) (by omega)).trans ((fc (3) (by decide)).trans k1)), ((f25 (4) (by omega)).trans ((fc (4) (by decide)).trans k2)), ((f25 (5) (by omega)).trans ((fc (5) (by decide)).trans k3)), fun l hl => hg l (Nat.lt_of_lt_of_le hl hLM)⟩, Or.inr ⟨by omega, by omega⟩⟩)
  · try simp (disch := omega) only [nI_bit0, nI_bit1, Bool.not_eq_false, Bool.not_eq_true] at c_6
    try simp (disch := omega) only [i_lt, i_le, i_eq, l_lt, l_le, l_eq, i_0, i_m1, l_0, nI_tI, iI_tI, lI_tI, Int.not_lt, Int.not_le] at c_6
    refine Wp.bipush (v := (-4)) dX2_addThing_9 (by decide) rfl ?_
    exact Wp.iret dX2_addThing_11 rfl (by rw [a_thing, t_thing, if_pos (by omega), if_pos (by omega)]; exact ⟨rfl, C, ns, hS, CG.rfl, fun _ _ => rfl, hN, Or.inl ⟨rfl, rfl⟩⟩)
set_option maxHeartbeats 1000000 in
theorem c_X2_addLine {B : ev_B} {d : Nat} {X : Nat → Prop} {h : ev_H} {A : Nat → Nat} {C : Nat → Option ev_E} {σ : Sg} {ns : Nat} {a b : Nat} {s r : Int32} (hS : CS X h A C) (hN : NetS A C σ ns) (hW : Wf σ) (hns : ns ≤ 100000) (ha : a < σ.N.T) (hb : b < σ.N.T) (hab : a ≠ b) (hs : -100 ≤ s.toInt ∧ s.toInt ≤ 100) (hr : -20 ≤ r.toInt ∧ r.toInt ≤ 20) (hd : 1 ≤ d) :
    Wp B d M_X2_addLine 0 [some (.ref (A 1)), some (.int (nI a)), some (.int (nI b)), some (.int s), some (.int r)] [] h (NQ X h A C σ (t_line σ (nI a) (nI b) s r) ns (some (.int (a_line σ (nI a) (nI b) s r)))) := by
  obtain ⟨V, g0, g1, g2, g3, hV, v0, v1, v2, v3, v4, v5, v6, v7, v8, k0, k1, k2, k3, hg⟩ := id hN
  have hT := hW.net.1
  have hL := hW.net.2.1
  have hLM := LM_ge σ
  refine Wp.aload_n dX2_addLine_0 rfl (by first | exact Or.inr ⟨_, rfl⟩ | exact Or.inl rfl) rfl ?_
  refine Wp.get dX2_addLine_1 fl_X2_31 (hS.at hV) v5 rfl ?_
  refine Wp.bipush (v := (nI 12)) dX2_addLine_4 (by decide) rfl ?_
  refine Wp.icmp_lt (tgt := 12) (n := 9) dX2_addLine_6 (by decide) rfl (fun c_6 => ?_) (fun c_6 => ?_)
  · try simp (disch := omega) only [nI_bit0, nI_bit1, Bool.not_eq_false, Bool.not_eq_true] at c_6
    try simp (disch := omega) only [i_lt, i_le, i_eq, l_lt, l_le, l_eq, i_0, i_m1, l_0, nI_tI, iI_tI, lI_tI, Int.not_lt, Int.not_le] at c_6
    refine Wp.aload_n dX2_addLine_12 rfl (by first | exact Or.inr ⟨_, rfl⟩ | exact Or.inl rfl) rfl ?_
    refine Wp.get dX2_addLine_13 fl_X2_9 (hS.at hV) v0 rfl ?_
    refine Wp.aload_n dX2_addLine_16 rfl (by first | exact Or.inr ⟨_, rfl⟩ | exact Or.inl rfl) rfl ?_
    refine Wp.get dX2_addLine_17 fl_X2_31 (hS.at hV) v5 rfl ?_
    refine Wp.iload_n dX2_addLine_20 rfl rfl ?_
    refine Wp.iastore dX2_addLine_21 (hS.at k0) (nI_toInt (by omega)) (by omega) rfl ?_
    refine hS.sti k0 ?_
    intro h21 C21 g21 S21 o21 e21 u21 f21
    refine Wp.aload_n dX2_addLine_22 rfl (by first | exact Or.inr ⟨_, rfl⟩ | exact Or.inl rfl) rfl ?_
    refine Wp.get dX2_addLine_23 fl_X2_15 (S21.at ((f21 (1) (by omega)).trans hV)) v1 rfl ?_
    refine Wp.aload_n dX2_addLine_26 rfl (by first | exact Or.inr ⟨_, rfl⟩ | exact Or.inl rfl) rfl ?_
    refine Wp.get dX2_addLine_27 fl_X2_31 (S21.at ((f21 (1) (by omega)).trans hV)) v5 rfl ?_
    refine Wp.iload_n dX2_addLine_30 rfl rfl ?_
    refine Wp.iastore dX2_addLine_31 (S21.at ((f21 (3) (by omega)).trans k1)) (nI_toInt (by omega)) (by omega) rfl ?_
    refine S21.sti ((f21 (3) (by omega)).trans k1) ?_
    intro h31 C31 g31 S31 o31 e31 u31 f31
    have o31 := o21.tr o31
    refine Wp.aload_n dX2_addLine_32 rfl (by first | exact Or.inr ⟨_, rfl⟩ | exact Or.inl rfl) rfl ?_
    refine Wp.get dX2_addLine_33 fl_X2_18 (S31.at ((f31 (1) (by omega)).trans ((f21 (1) (by omega)).trans hV))) v2 rfl ?_
    refine Wp.aload_n dX2_addLine_36 rfl (by first | exact Or.inr ⟨_, rfl⟩ | exact Or.inl rfl) rfl ?_
    refine Wp.get dX2_addLine_37 fl_X2_31 (S31.at ((f31 (1) (by omega)).trans ((f21 (1) (by omega)).trans hV))) v5 rfl ?_
    refine Wp.iload_n dX2_addLine_40 rfl rfl ?_
    refine Wp.iastore dX2_addLine_41 (S31.at ((f31 (4) (by omega)).trans ((f21 (4) (by omega)).trans k2))) (nI_toInt (by omega)) (by omega) rfl ?_
    refine S31.sti ((f31 (4) (by omega)).trans ((f21 (4) (by omega)).trans k2)) ?_
    intro h41 C41 g41 S41 o41 e41 u41 f41
    have o41 := o31.tr o41
    refine Wp.aload_n dX2_addLine_42 rfl (by first | exact Or.inr ⟨_, rfl⟩ | exact Or.inl rfl) rfl ?_
    refine Wp.get dX2_addLine_43 fl_X2_21 (S41.at ((f41 (1) (by omega)).trans ((f31 (1) (by omega)).trans ((f21 (1) (by omega)).trans hV)))) v3 rfl ?_
    refine Wp.aload_n dX2_addLine_46 rfl (by first | exact Or.inr ⟨_, rfl⟩ | exact Or.inl rfl) rfl ?_
    refine Wp.get dX2_addLine_47 fl_X2_31 (S41.at ((f41 (1) (by omega)).trans ((f31 (1) (by omega)).trans ((f21 (1) (by omega)).trans hV)))) v5 rfl ?_
    refine Wp.iload dX2_addLine_50 rfl rfl ?_
    refine Wp.iastore dX2_addLine_52 (S41.at ((f41 (5) (by omega)).trans ((f31 (5) (by omega)).trans ((f21 (5) (by omega)).trans k3)))) (nI_toInt (by omega)) (by omega) rfl ?_
    refine S41.sti ((f41 (5) (by omega)).trans ((f31 (5) (by omega)).trans ((f21 (5) (by omega)).trans k3))) ?_
    intro h52 C52 g52 S52 o52 e52 u52 f52
    have o52 := o41.tr o52
    refine Wp.aload_n dX2_addLine_53 rfl (by first | exact Or.inr ⟨_, rfl⟩ | exact Or.inl rfl) rfl ?_
    refine Wp.iconst (v := (nI 2)) dX2_addLine_54 (by decide) rfl ?_
    refine Wp.cV dX2_addLine_55 cv_X2_34 rfl (by omega) rfl (Nat.le_of_ble_eq_true rfl) (Nat.le_of_ble_eq_true rfl) (S52.at ((f52 (1) (by omega)).trans ((f41 (1) (by omega)).trans ((f31 (1) (by omega)).trans ((f21 (1) (by omega)).trans hV))))) rfl (c_X2_changed (d := d - 1) (u := 2) S52 ((f52 (1) (by omega)).trans ((f41 (1) (by omega)).trans ((f31 (1) (by omega)).trans ((f21 (1) (by omega)).trans hV)))) v7) ?_
    rintro _ hc ⟨rfl, Cc, Vc, Sc, oc, fc, ec, wc6, wc7, xc⟩
    dsimp only [Option.toList, List.drop, List.cons_append, List.nil_append]
    have oc := o52.tr oc
    refine Wp.aload_n dX2_addLine_58 rfl (by first | exact Or.inr ⟨_, rfl⟩ | exact Or.inl rfl) rfl ?_
    refine Wp.dup dX2_addLine_59 rfl rfl ?_
    refine Wp.get dX2_addLine_60 fl_X2_31 (Sc.at ec) ((xc 5 (by decide) (by decide)).trans v5) rfl ?_
    refine Wp.dup_x1 dX2_addLine_63 rfl rfl rfl ?_
    refine Wp.iconst (v := (nI 1)) dX2_addLine_64 (by decide) rfl ?_
    refine Wp.iadd dX2_addLine_65 rfl ?_
    rw [nI_add1]
    refine Wp.put dX2_addLine_66 fp_X2_31 (Sc.at ec) rfl rfl rfl ?_
    refine Sc.put ec ?_
    intro h66 C66 V66 S66 o66 e66 w66 x66 f66
    have o66 := oc.tr o66
    exact Wp.iret dX2_addLine_69 rfl (by
      have hok : okL σ (nI a) (nI b) s r ∧ σ.N.L ≠ 12 := ⟨by have ta := nI_tI (n := a) (by omega); have tb := nI_tI (n := b) (by omega); omega, by omega⟩
      rw [a_line, t_line, if_pos hok, if_pos hok.1, if_neg hok.2, tn_nI (by omega), tn_nI (by omega)]
      refine ⟨rfl, _, ns + 1, S66, o66, fun t ht => (f66 t (by omega)).trans ((fc t (by omega)).trans ((f52 t (by omega)).trans ((f41 t (by omega)).trans ((f31 t (by omega)).trans (f21 t (by omega)))))), ⟨_, _, _, _, _, e66, ((x66 0 (by decide)).trans ((xc 0 (by decide) (by decide)).trans v0)), ((x66 1 (by decide)).trans ((xc 1 (by decide) (by decide)).trans v1)), ((x66 2 (by decide)).trans ((xc 2 (by decide) (by decide)).trans v2)), ((x66 3 (by decide)).trans ((xc 3 (by decide) (by decide)).trans v3)), ((x66 4 (by decide)).trans ((xc 4 (by decide) (by decide)).trans v4)), w66, ((x66 6 (by decide)).trans wc6), ((x66 7 (by decide)).trans wc7), fun z => absurd (show (2 : Nat) = 3 from z) (by decide), ((f66 (2) (by omega)).trans ((fc (2) (by decide)).trans ((f52 (2) (by omega)).trans ((f41 (2) (by omega)).trans ((f31 (2) (by omega)).trans e21))))), ((f66 (3) (by omega)).trans ((fc (3) (by decide)).trans ((f52 (3) (by omega)).trans ((f41 (3) (by omega)).trans e31)))), ((f66 (4) (by omega)).trans ((fc (4) (by decide)).trans ((f52 (4) (by omega)).trans e41))), ((f66 (5) (by omega)).trans ((fc (5) (by decide)).trans e52)), fun l hl => ?_⟩, Or.inr ⟨by omega, by omega⟩⟩
      have hl' : l < σ.N.L + 1 := hl
      show g21 l = nI (updN σ.N.fr σ.N.L a l) ∧ g31 l = nI (updN σ.N.to σ.N.L b l) ∧ g41 l = iI (updZ σ.N.sa σ.N.L s.toInt l) ∧ g52 l = iI (updZ σ.N.ri σ.N.L r.toInt l)
      rw [u21, u31, u41, u52]
      simp only [upd, updN, updZ]
      by_cases e_ : l = σ.N.L
      · simp only [if_pos e_]; exact ⟨trivial, trivial, iI_of s, iI_of r⟩
      · simp only [if_neg e_]; exact hg l (by omega))
  · try simp (disch := omega) only [nI_bit0, nI_bit1, Bool.not_eq_false, Bool.not_eq_true] at c_6
    try simp (disch := omega) only [i_lt, i_le, i_eq, l_lt, l_le, l_eq, i_0, i_m1, l_0, nI_tI, iI_tI, lI_tI, Int.not_lt, Int.not_le] at c_6
    refine Wp.bipush (v := (-4)) dX2_addLine_9 (by decide) rfl ?_
    exact Wp.iret dX2_addLine_11 rfl (by have ta := nI_tI (n := a) (by omega); have tb := nI_tI (n := b) (by omega); rw [a_line, t_line, if_neg (fun z => z.2 (by omega)), if_pos (by omega), if_pos (by omega)]; exact ⟨rfl, C, ns, hS, CG.rfl, fun _ _ => rfl, hN, Or.inl ⟨rfl, rfl⟩⟩)
set_option maxHeartbeats 1000000 in
theorem c_X2_changeLine {B : ev_B} {d : Nat} {X : Nat → Prop} {h : ev_H} {A : Nat → Nat} {C : Nat → Option ev_E} {σ : Sg} {ns : Nat} {i : Nat} {s r : Int} (hS : CS X h A C) (hN : NetS A C σ ns) (hW : Wf σ) (hns : ns ≤ 100000) (hi : i < σ.N.L) (hd : 1 ≤ d) :
    Wp B d M_X2_changeLine 0 [some (.ref (A 1)), some (.int (nI i)), some (.int (iI s)), some (.int (iI r))] [] h (fun v h' => v = none ∧ ∃ C' ns', CS X h' A C' ∧ CG X h h' 0 ∧ (∀ t, t = 0 ∨ 5 < t → C' t = C t) ∧ NetS A C' (σ.net (σ.N.al i s r) 3 i (σ.N.sa i) (σ.N.ri i)) ns' ∧ ns' = ns + 1) := by
  obtain ⟨V, g0, g1, g2, g3, hV, v0, v1, v2, v3, v4, v5, v6, v7, v8, k0, k1, k2, k3, hg⟩ := id hN
  have hT := hW.net.1
  have hL := hW.net.2.1
  have hLM := LM_ge σ
  have hgi := hg i (by omega)
  refine Wp.aload_n dX2_changeLine_0 rfl (by first | exact Or.inr ⟨_, rfl⟩ | exact Or.inl rfl) rfl ?_
  refine Wp.iload_n dX2_changeLine_1 rfl rfl ?_
  refine Wp.cV dX2_changeLine_2 cv_X2_38 rfl (by omega) rfl (Nat.le_of_ble_eq_true rfl) (Nat.le_of_ble_eq_true rfl) (hS.at hV) rfl (c_X2_isLine (d := d - 1) (hN.C hS) hW.net) ?_
  rintro _ h_ ⟨rfl, e_⟩
  rw [e_]
  clear e_ h_
  dsimp only [Option.toList, List.drop, List.cons_append, List.nil_append]
  refine Wp.bif_eq (tgt := 52) (n := 8) dX2_changeLine_5 (by decide) rfl (fun c_5 => ?_) (fun c_5 => ?_)
  · try simp only [decide_eq_true_eq, decide_eq_false_iff_not, Bool.and_eq_true, bI_0, bI_n0] at c_5
    have ti := nI_tI (n := i) (by omega)
    omega
  · try simp only [decide_eq_true_eq, decide_eq_false_iff_not, Bool.and_eq_true, bI_0, bI_n0] at c_5
    refine Wp.aload_n dX2_changeLine_8 rfl (by first | exact Or.inr ⟨_, rfl⟩ | exact Or.inl rfl) rfl ?_
    refine Wp.iload_n dX2_changeLine_9 rfl rfl ?_
    refine Wp.put dX2_changeLine_10 fp_X2_42 (hS.at hV) rfl rfl rfl ?_
    refine hS.put hV ?_
    intro h10 C10 V10 S10 o10 e10 w10 x10 f10
    refine Wp.aload_n dX2_changeLine_13 rfl (by first | exact Or.inr ⟨_, rfl⟩ | exact Or.inl rfl) rfl ?_
    refine Wp.aload_n dX2_changeLine_14 rfl (by first | exact Or.inr ⟨_, rfl⟩ | exact Or.inl rfl) rfl ?_
    refine Wp.get dX2_changeLine_15 fl_X2_18 (S10.at e10) ((x10 2 (by decide)).trans v2) rfl ?_
    refine Wp.iload_n dX2_changeLine_18 rfl rfl ?_
    refine Wp.iaload dX2_changeLine_19 (S10.at ((f10 (4) (by omega)).trans k2)) (nI_toInt (by omega)) (by omega) rfl ?_
    rw [hgi.2.2.1]
    refine Wp.put dX2_changeLine_20 fp_X2_45 (S10.at e10) rfl rfl rfl ?_
    refine S10.put e10 ?_
    intro h20 C20 V20 S20 o20 e20 w20 x20 f20
    have o20 := o10.tr o20
    refine Wp.aload_n dX2_changeLine_23 rfl (by first | exact Or.inr ⟨_, rfl⟩ | exact Or.inl rfl) rfl ?_
    refine Wp.aload_n dX2_changeLine_24 rfl (by first | exact Or.inr ⟨_, rfl⟩ | exact Or.inl rfl) rfl ?_
    refine Wp.get dX2_changeLine_25 fl_X2_21 (S20.at e20) ((x20 3 (by decide)).trans ((x10 3 (by decide)).trans v3)) rfl ?_
    refine Wp.iload_n dX2_changeLine_28 rfl rfl ?_
    refine Wp.iaload dX2_changeLine_29 (S20.at ((f20 (5) (by omega)).trans ((f10 (5) (by omega)).trans k3))) (nI_toInt (by omega)) (by omega) rfl ?_
    rw [hgi.2.2.2]
    refine Wp.put dX2_changeLine_30 fp_X2_48 (S20.at e20) rfl rfl rfl ?_
    refine S20.put e20 ?_
    intro h30 C30 V30 S30 o30 e30 w30 x30 f30
    have o30 := o20.tr o30
    refine Wp.aload_n dX2_changeLine_33 rfl (by first | exact Or.inr ⟨_, rfl⟩ | exact Or.inl rfl) rfl ?_
    refine Wp.get dX2_changeLine_34 fl_X2_18 (S30.at e30) ((x30 2 (by decide)).trans ((x20 2 (by decide)).trans ((x10 2 (by decide)).trans v2))) rfl ?_
    refine Wp.iload_n dX2_changeLine_37 rfl rfl ?_
    refine Wp.iload_n dX2_changeLine_38 rfl rfl ?_
    refine Wp.iastore dX2_changeLine_39 (S30.at ((f30 (4) (by omega)).trans ((f20 (4) (by omega)).trans ((f10 (4) (by omega)).trans k2)))) (nI_toInt (by omega)) (by omega) rfl ?_
    refine S30.sti ((f30 (4) (by omega)).trans ((f20 (4) (by omega)).trans ((f10 (4) (by omega)).trans k2))) ?_
    intro h39 C39 g39 S39 o39 e39 u39 f39
    have o39 := o30.tr o39
    refine Wp.aload_n dX2_changeLine_40 rfl (by first | exact Or.inr ⟨_, rfl⟩ | exact Or.inl rfl) rfl ?_
    refine Wp.get dX2_changeLine_41 fl_X2_21 (S39.at ((f39 (1) (by omega)).trans e30)) ((x30 3 (by decide)).trans ((x20 3 (by decide)).trans ((x10 3 (by decide)).trans v3))) rfl ?_
    refine Wp.iload_n dX2_changeLine_44 rfl rfl ?_
    refine Wp.iload_n dX2_changeLine_45 rfl rfl ?_
    refine Wp.iastore dX2_changeLine_46 (S39.at ((f39 (5) (by omega)).trans ((f30 (5) (by omega)).trans ((f20 (5) (by omega)).trans ((f10 (5) (by omega)).trans k3))))) (nI_toInt (by omega)) (by omega) rfl ?_
    refine S39.sti ((f39 (5) (by omega)).trans ((f30 (5) (by omega)).trans ((f20 (5) (by omega)).trans ((f10 (5) (by omega)).trans k3)))) ?_
    intro h46 C46 g46 S46 o46 e46 u46 f46
    have o46 := o39.tr o46
    refine Wp.aload_n dX2_changeLine_47 rfl (by first | exact Or.inr ⟨_, rfl⟩ | exact Or.inl rfl) rfl ?_
    refine Wp.iconst (v := (nI 3)) dX2_changeLine_48 (by decide) rfl ?_
    refine Wp.cV dX2_changeLine_49 cv_X2_34 rfl (by omega) rfl (Nat.le_of_ble_eq_true rfl) (Nat.le_of_ble_eq_true rfl) (S46.at ((f46 (1) (by omega)).trans ((f39 (1) (by omega)).trans e30))) rfl (c_X2_changed (d := d - 1) (u := 3) S46 ((f46 (1) (by omega)).trans ((f39 (1) (by omega)).trans e30)) ((x30 7 (by decide)).trans ((x20 7 (by decide)).trans ((x10 7 (by decide)).trans v7)))) ?_
    rintro _ hc ⟨rfl, Cc, Vc, Sc, oc, fc, ec, wc6, wc7, xc⟩
    dsimp only [Option.toList, List.drop, List.cons_append, List.nil_append]
    have oc := o46.tr oc
    exact Wp.vret dX2_changeLine_52 rfl (by
      refine ⟨rfl, _, ns + 1, Sc, oc, fun t ht => (fc t (by omega)).trans ((f46 t (by omega)).trans ((f39 t (by omega)).trans ((f30 t (by omega)).trans ((f20 t (by omega)).trans (f10 t (by omega)))))), ⟨_, _, _, _, _, ec, ((xc 0 (by decide) (by decide)).trans ((x30 0 (by decide)).trans ((x20 0 (by decide)).trans ((x10 0 (by decide)).trans v0)))), ((xc 1 (by decide) (by decide)).trans ((x30 1 (by decide)).trans ((x20 1 (by decide)).trans ((x10 1 (by decide)).trans v1)))), ((xc 2 (by decide) (by decide)).trans ((x30 2 (by decide)).trans ((x20 2 (by decide)).trans ((x10 2 (by decide)).trans v2)))), ((xc 3 (by decide) (by decide)).trans ((x30 3 (by decide)).trans ((x20 3 (by decide)).trans ((x10 3 (by decide)).trans v3)))), ((xc 4 (by decide) (by decide)).trans ((x30 4 (by decide)).trans ((x20 4 (by decide)).trans ((x10 4 (by decide)).trans v4)))), ((xc 5 (by decide) (by decide)).trans ((x30 5 (by decide)).trans ((x20 5 (by decide)).trans ((x10 5 (by decide)).trans v5)))), wc6, wc7, fun _ => ⟨((xc 8 (by decide) (by decide)).trans ((x30 8 (by decide)).trans ((x20 8 (by decide)).trans w10))), ((xc 9 (by decide) (by decide)).trans ((x30 9 (by decide)).trans w20)), ((xc 10 (by decide) (by decide)).trans w30)⟩, ((fc (2) (by decide)).trans ((f46 (2) (by omega)).trans ((f39 (2) (by omega)).trans ((f30 (2) (by omega)).trans ((f20 (2) (by omega)).trans ((f10 (2) (by omega)).trans k0)))))), ((fc (3) (by decide)).trans ((f46 (3) (by omega)).trans ((f39 (3) (by omega)).trans ((f30 (3) (by omega)).trans ((f20 (3) (by omega)).trans ((f10 (3) (by omega)).trans k1)))))), ((fc (4) (by decide)).trans ((f46 (4) (by omega)).trans e39)), ((fc (5) (by decide)).trans e46), fun l hl => ?_⟩, by omega⟩
      have hl' : l < σ.N.L := hl
      have hgl := hg l (by omega)
      show g0 l = nI (σ.N.fr l) ∧ g1 l = nI (σ.N.to l) ∧ g39 l = iI (updZ σ.N.sa i s l) ∧ g46 l = iI (updZ σ.N.ri i r l)
      rw [u39, u46]
      refine ⟨hgl.1, hgl.2.1, ?_, ?_⟩
      · simp only [upd, updZ]; split
        · rfl
        · exact hgl.2.2.1
      · simp only [upd, updZ]; split
        · rfl
        · exact hgl.2.2.2)
theorem c_X2_dropLine {B : ev_B} {d : Nat} {X : Nat → Prop} {h : ev_H} {A : Nat → Nat} {C : Nat → Option ev_E} {σ : Sg} {ns : Nat} (hS : CS X h A C) (hN : NetS A C σ ns) (hW : Wf σ) (hns : ns ≤ 100000) (h0 : σ.N.L ≠ 0) (hd : 1 ≤ d) :
    Wp B d M_X2_dropLine 0 [some (.ref (A 1))] [] h (NQ X h A C σ (t_close σ) ns (some (.int (a_close σ)))) := by
  obtain ⟨V, g0, g1, g2, g3, hV, v0, v1, v2, v3, v4, v5, v6, v7, v8, k0, k1, k2, k3, hg⟩ := id hN
  have hT := hW.net.1
  have hL := hW.net.2.1
  have hLM := LM_ge σ
  refine Wp.aload_n dX2_dropLine_0 rfl (by first | exact Or.inr ⟨_, rfl⟩ | exact Or.inl rfl) rfl ?_
  refine Wp.iconst (v := (nI 4)) dX2_dropLine_1 (by decide) rfl ?_
  refine Wp.cV dX2_dropLine_2 cv_X2_34 rfl (by omega) rfl (Nat.le_of_ble_eq_true rfl) (Nat.le_of_ble_eq_true rfl) (hS.at hV) rfl (c_X2_changed (d := d - 1) (u := 4) hS hV v7) ?_
  rintro _ hc ⟨rfl, Cc, Vc, Sc, oc, fc, ec, wc6, wc7, xc⟩
  dsimp only [Option.toList, List.drop, List.cons_append, List.nil_append]
  refine Wp.aload_n dX2_dropLine_5 rfl (by first | exact Or.inr ⟨_, rfl⟩ | exact Or.inl rfl) rfl ?_
  refine Wp.dup dX2_dropLine_6 rfl rfl ?_
  refine Wp.get dX2_dropLine_7 fl_X2_31 (Sc.at ec) ((xc 5 (by decide) (by decide)).trans v5) rfl ?_
  refine Wp.iconst (v := (nI 1)) dX2_dropLine_10 (by decide) rfl ?_
  refine Wp.isub dX2_dropLine_11 rfl ?_
  rw [pk_sub (by omega)]
  refine Wp.dup_x1 dX2_dropLine_12 rfl rfl rfl ?_
  refine Wp.put dX2_dropLine_13 fp_X2_31 (Sc.at ec) rfl rfl rfl ?_
  refine Sc.put ec ?_
  intro h13 C13 V13 S13 o13 e13 w13 x13 f13
  have o13 := oc.tr o13
  exact Wp.iret dX2_dropLine_16 rfl (by
    rw [a_close, t_close, if_neg h0, if_neg h0]
    refine ⟨rfl, _, ns + 1, S13, o13, fun t ht => (f13 t (by omega)).trans (fc t (by omega)), ⟨_, _, _, _, _, e13, ((x13 0 (by decide)).trans ((xc 0 (by decide) (by decide)).trans v0)), ((x13 1 (by decide)).trans ((xc 1 (by decide) (by decide)).trans v1)), ((x13 2 (by decide)).trans ((xc 2 (by decide) (by decide)).trans v2)), ((x13 3 (by decide)).trans ((xc 3 (by decide) (by decide)).trans v3)), ((x13 4 (by decide)).trans ((xc 4 (by decide) (by decide)).trans v4)), w13, ((x13 6 (by decide)).trans wc6), ((x13 7 (by decide)).trans wc7), fun z => absurd (show (4 : Nat) = 3 from z) (by decide), ((f13 (2) (by omega)).trans ((fc (2) (by decide)).trans k0)), ((f13 (3) (by omega)).trans ((fc (3) (by decide)).trans k1)), ((f13 (4) (by omega)).trans ((fc (4) (by decide)).trans k2)), ((f13 (5) (by omega)).trans ((fc (5) (by decide)).trans k3)), fun l hl => hg l ?_⟩, Or.inr ⟨by omega, by omega⟩⟩
    have hl' : l < σ.N.L - 1 + 1 := hl
    omega)
theorem c_X2_numberOf {B : ev_B} {d a T L : Nat} {h : ev_H} {fr to : Nat → Nat} {sa ri : Nat → Int} {l w : Nat} (hN : NetC h a T L fr to sa ri) (hW : NetW T L fr to sa ri) (hl : l < L) (hw : w < 4) :
    Wp B d M_X2_numberOf 0 [some (.ref a), some (.int (nI l)), some (.int (nI w))] [] h (fun v h' => v = some (.int (iI (lnN (Nt.mk T L fr to sa ri) l w))) ∧ h' = h) := by
  obtain ⟨V, a0, a1, a2, a3, g0, g1, g2, g3, hV, v0, v1, v2, v3, v4, v5, k0, k1, k2, k3, f0, f1, f2, f3⟩ := hN
  have hL := hW.2.1
  have hww : w = 0 ∨ w = 1 ∨ w = 2 ∨ w = 3 := by omega
  rcases hww with rfl | rfl | rfl | rfl
  · refine Wp.iload_n dX2_numberOf_0 rfl rfl ?_
    refine Wp.tswIn (off := 27) (n := 28) dX2_numberOf_1 (by decide) (by decide) (by decide) (by decide) ?_
    refine Wp.aload_n dX2_numberOf_28 rfl (by first | exact Or.inr ⟨_, rfl⟩ | exact Or.inl rfl) rfl ?_
    refine Wp.get dX2_numberOf_29 fl_X2_9 (by assumption) (by first | assumption | rfl) rfl ?_
    refine Wp.iload_n dX2_numberOf_32 rfl rfl ?_
    refine Wp.iaload dX2_numberOf_33 (by assumption) (nI_toInt (by omega)) (by omega) rfl ?_
    rw [f0 l hl]
    exact Wp.iret dX2_numberOf_34 rfl (by rw [nI_iI]; exact ⟨rfl, rfl⟩)
  · refine Wp.iload_n dX2_numberOf_0 rfl rfl ?_
    refine Wp.tswIn (off := 34) (n := 35) dX2_numberOf_1 (by decide) (by decide) (by decide) (by decide) ?_
    refine Wp.aload_n dX2_numberOf_35 rfl (by first | exact Or.inr ⟨_, rfl⟩ | exact Or.inl rfl) rfl ?_
    refine Wp.get dX2_numberOf_36 fl_X2_15 (by assumption) (by first | assumption | rfl) rfl ?_
    refine Wp.iload_n dX2_numberOf_39 rfl rfl ?_
    refine Wp.iaload dX2_numberOf_40 (by assumption) (nI_toInt (by omega)) (by omega) rfl ?_
    rw [f1 l hl]
    exact Wp.iret dX2_numberOf_41 rfl (by rw [nI_iI]; exact ⟨rfl, rfl⟩)
  · refine Wp.iload_n dX2_numberOf_0 rfl rfl ?_
    refine Wp.tswIn (off := 41) (n := 42) dX2_numberOf_1 (by decide) (by decide) (by decide) (by decide) ?_
    refine Wp.aload_n dX2_numberOf_42 rfl (by first | exact Or.inr ⟨_, rfl⟩ | exact Or.inl rfl) rfl ?_
    refine Wp.get dX2_numberOf_43 fl_X2_18 (by assumption) (by first | assumption | rfl) rfl ?_
    refine Wp.iload_n dX2_numberOf_46 rfl rfl ?_
    refine Wp.iaload dX2_numberOf_47 (by assumption) (nI_toInt (by omega)) (by omega) rfl ?_
    rw [f2 l hl]
    exact Wp.iret dX2_numberOf_48 rfl (by exact ⟨rfl, rfl⟩)
  · refine Wp.iload_n dX2_numberOf_0 rfl rfl ?_
    refine Wp.tswOut (n := 49) dX2_numberOf_1 (by decide) (by decide) ?_
    refine Wp.aload_n dX2_numberOf_49 rfl (by first | exact Or.inr ⟨_, rfl⟩ | exact Or.inl rfl) rfl ?_
    refine Wp.get dX2_numberOf_50 fl_X2_21 (by assumption) (by first | assumption | rfl) rfl ?_
    refine Wp.iload_n dX2_numberOf_53 rfl rfl ?_
    refine Wp.iaload dX2_numberOf_54 (by assumption) (nI_toInt (by omega)) (by omega) rfl ?_
    rw [f3 l hl]
    exact Wp.iret dX2_numberOf_55 rfl (by exact ⟨rfl, rfl⟩)
