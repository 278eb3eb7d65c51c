/-! the class: choices written -/
def ChoS (A : Nat → Nat) (C : Nat → Option ev_E) (b : Nat) (N : Nt) (l : List Nat) (cap : Nat) : Prop := ∃ (V : Nat → Value) (g0 g1 g2 : Nat → Int32), C b = some (ev_ob 1 V) ∧ V 0 = .ref (A (b + 1)) ∧ V 1 = .ref (A (b + 2)) ∧ V 2 = .ref (A (b + 3)) ∧ V 3 = .int (nI l.length) ∧ C (b + 1) = some (ev_ia cap g0) ∧ C (b + 2) = some (ev_ia cap g1) ∧ C (b + 3) = some (ev_ia cap g2) ∧ l.length ≤ cap ∧ 8 ≤ cap ∧ AH N l g0 g1 g2
theorem ChoS.H {X : Nat → Prop} {h : ev_H} {A : Nat → Nat} {C : Nat → Option ev_E} {b : Nat} {N : Nt} {l : List Nat} {cap : Nat} (hC : ChoS A C b N l cap) (hS : CS X h A C) : ChoH h (A b) l.length (fun j => l.getD j 0) (fun j => sumS N.sa (l.getD j 0) N.L) (fun j => sumS N.ri (l.getD j 0) N.L) := by
  obtain ⟨V, g0, g1, g2, hV, v0, v1, v2, v3, k0, k1, k2, hl, -, hg⟩ := hC
  exact ⟨V, A (b + 1), A (b + 2), A (b + 3), cap, g0, g1, g2, hS.at hV, v0, v1, v2, v3, hS.at k0, hS.at k1, hS.at k2, hl, hg⟩
theorem ChoS.same {A A' : Nat → Nat} {C C' : Nat → Option ev_E} {b : Nat} {N : Nt} {l : List Nat} {cap : Nat} (hC : ChoS A C b N l cap) (f : ∀ t, b ≤ t → t ≤ b + 3 → C' t = C t) (a : ∀ t, b < t → t ≤ b + 3 → A' t = A t) : ChoS A' C' b N l cap := by
  obtain ⟨V, g0, g1, g2, hV, v0, v1, v2, v3, k0, k1, k2, hl, h8, hg⟩ := hC
  exact ⟨V, g0, g1, g2, (f b (by omega) (by omega)).trans hV, by rw [a _ (by omega) (by omega)]; exact v0, by rw [a _ (by omega) (by omega)]; exact v1, by rw [a _ (by omega) (by omega)]; exact v2, v3, (f _ (by omega) (by omega)).trans k0, (f _ (by omega) (by omega)).trans k1, (f _ (by omega) (by omega)).trans k2, hl, h8, hg⟩
/-- where a set goes among others -/
def insK (s : Nat) (l : List Nat) : Nat → Nat
  | 0 => 0
  | k + 1 => if ahB s (l.getD k 0) = 0 then k + 1 else insK s l k
def insO (s : Nat) (l : List Nat) : List Nat := l.take (insK s l l.length) ++ s :: l.drop (insK s l l.length)
theorem insK_le (s : Nat) (l : List Nat) : ∀ k, insK s l k ≤ k
  | 0 => Nat.le_refl _
  | k + 1 => by
    have := insK_le s l k
    simp only [insK]
    split <;> omega
theorem insO_len (s : Nat) (l : List Nat) : (insO s l).length = l.length + 1 := by
  have := insK_le s l l.length
  simp only [insO, List.length_append, List.length_take, List.length_cons, List.length_drop]
  omega
def AI (N : Nt) (l : List Nat) (k : Nat) (g0 g1 g2 : Nat → Int32) : Prop := (∀ j, j < k → g0 j = nI (l.getD j 0) ∧ g1 j = iI (sumS N.sa (l.getD j 0) N.L) ∧ g2 j = iI (sumS N.ri (l.getD j 0) N.L)) ∧ ∀ j, k < j → j ≤ l.length → g0 j = nI (l.getD (j - 1) 0) ∧ g1 j = iI (sumS N.sa (l.getD (j - 1) 0) N.L) ∧ g2 j = iI (sumS N.ri (l.getD (j - 1) 0) N.L)
theorem AI.down {N : Nt} {l : List Nat} {k : Nat} {g0 g1 g2 : Nat → Int32} (h : AI N l (k + 1) g0 g1 g2) : AI N l k (upd g0 (k + 1) (g0 k)) (upd g1 (k + 1) (g1 k)) (upd g2 (k + 1) (g2 k)) := by
  refine ⟨fun j hj => ?_, fun j h1 h2 => ?_⟩
  · simp only [upd]; rw [if_neg (by omega), if_neg (by omega), if_neg (by omega)]; exact h.1 j (by omega)
  · simp only [upd]
    by_cases e : j = k + 1
    · rw [if_pos e, if_pos e, if_pos e, show j - 1 = k by omega]; exact h.1 k (by omega)
    · rw [if_neg e, if_neg e, if_neg e]; exact h.2 j (by omega) h2
theorem ins_get {l : List Nat} {s k j : Nat} (hk : k ≤ l.length) : (l.take k ++ s :: l.drop k).getD j 0 = if j < k then l.getD j 0 else if j = k then s else l.getD (j - 1) 0 := by
  have hl : (l.take k).length = k := by rw [List.length_take]; omega
  simp only [List.getD]
  by_cases h1 : j < k
  · rw [if_pos h1, List.getElem?_append_left (by omega), List.getElem?_take_of_lt h1]
  · rw [if_neg h1, List.getElem?_append_right (by omega), hl]
    by_cases h2 : j = k
    · rw [if_pos h2, h2, Nat.sub_self]; rfl
    · rw [if_neg h2, show j - k = (j - k - 1) + 1 by omega, List.getElem?_cons_succ, List.getElem?_drop, show k + (j - k - 1) = j - 1 by omega]
theorem AI.fin {N : Nt} {l : List Nat} {k s : Nat} {g0 g1 g2 : Nat → Int32} (h : AI N l k g0 g1 g2) (hk : k ≤ l.length) : AH N (l.take k ++ s :: l.drop k) (upd g0 k (nI s)) (upd g1 k (iI (sumS N.sa s N.L))) (upd g2 k (iI (sumS N.ri s N.L))) := by
  intro j hj
  have hlen : (l.take k ++ s :: l.drop k).length = l.length + 1 := by simp only [List.length_append, List.length_take, List.length_cons, List.length_drop]; omega
  rw [ins_get hk]
  simp only [upd]
  by_cases h1 : j < k
  · rw [if_pos h1, if_neg (by omega), if_neg (by omega), if_neg (by omega)]; exact h.1 j h1
  · rw [if_neg h1]
    by_cases h2 : j = k
    · simp only [if_pos h2]; exact ⟨trivial, trivial, trivial⟩
    · simp only [if_neg h2]; exact h.2 j (by omega) (by omega)
theorem AI.top {N : Nt} {l : List Nat} {g0 g1 g2 : Nat → Int32} (h : AH N l g0 g1 g2) : AI N l l.length g0 g1 g2 := ⟨h, fun j h1 h2 => absurd h1 (by omega)⟩
theorem nI_dec (k : Nat) : nI (k + 1) + (-1) = nI k := by
  rw [nI_iI, nI_iI, show (-1 : Int32) = iI (-1) from rfl, iI_add]; congr 1; omega
theorem c_X1_clear {B : ev_B} {d b cap : Nat} {X : Nat → Prop} {h : ev_H} {A : Nat → Nat} {C : Nat → Option ev_E} {l : List Nat} {N : Nt} (hS : CS X h A C) (hCh : ChoS A C b N l cap) :
    Wp B d M_X1_clear 0 [some (.ref (A b))] [] h (fun v_ h' => v_ = none ∧ ∃ C', CS X h' A C' ∧ CG X h h' 0 ∧ (∀ t, t ≠ b → C' t = C t) ∧ ∀ N', ChoS A C' b N' [] cap) := by
  obtain ⟨V, g0, g1, g2, hV, v0, v1, v2, v3, k0, k1, k2, hl, h8, hg⟩ := id hCh
  refine Wp.aload_n dX1_clear_0 rfl (by first | exact Or.inr ⟨_, rfl⟩ | exact Or.inl rfl) rfl ?_
  refine Wp.iconst (v := (nI 0)) dX1_clear_1 (by decide) rfl ?_
  refine Wp.put dX1_clear_2 fp_X1_21 (hS.at hV) rfl rfl rfl ?_
  refine hS.put hV ?_
  intro h2 C2 V2 S2 o2 e2 w2 x2 f2
  exact Wp.vret dX1_clear_5 rfl (by exact ⟨rfl, _, S2, o2, f2, fun N' => ⟨_, _, _, _, e2, (x2 0 (by decide)).trans v0, (x2 1 (by decide)).trans v1, (x2 2 (by decide)).trans v2, w2, (f2 _ (by omega)).trans k0, (f2 _ (by omega)).trans k1, (f2 _ (by omega)).trans k2, Nat.zero_le _, h8, AH.nil⟩⟩)
set_option maxHeartbeats 1000000 in
theorem c_X1_widen {B : ev_B} {d b cap : Nat} {X : Nat → Prop} {h : ev_H} {A : Nat → Nat} {C : Nat → Option ev_E} {l : List Nat} {N : Nt} (hS : CS X h A C) (hCh : ChoS A C b N l cap) (hcap : cap ≤ 100000) (hd : 2 ≤ d) :
    Wp B d M_X1_widen 0 [some (.ref (A b))] [] h (fun v_ h' => v_ = none ∧ ∃ A' C', CS X h' A' C' ∧ CG X h h' (6 * cap + 3) ∧ (∀ t, t ≤ b ∨ b + 3 < t → A' t = A t) ∧ (∀ t, t < b ∨ b + 3 < t → C' t = C t) ∧ ChoS A' C' b N l (2 * cap)) := by
  obtain ⟨V, g0, g1, g2, hV, v0, v1, v2, v3, k0, k1, k2, hl, h8, hg⟩ := id hCh
  refine Wp.aload_n dX1_widen_0 rfl (by first | exact Or.inr ⟨_, rfl⟩ | exact Or.inl rfl) rfl ?_
  refine Wp.aload_n dX1_widen_1 rfl (by first | exact Or.inr ⟨_, rfl⟩ | exact Or.inl rfl) rfl ?_
  refine Wp.get dX1_widen_2 fl_X1_9 (hS.at hV) v0 rfl ?_
  refine Wp.iconst (v := (nI 2)) dX1_widen_5 (by decide) rfl ?_
  refine Wp.aload_n dX1_widen_6 rfl (by first | exact Or.inr ⟨_, rfl⟩ | exact Or.inl rfl) rfl ?_
  refine Wp.get dX1_widen_7 fl_X1_9 (hS.at hV) v0 rfl ?_
  refine Wp.alen dX1_widen_10 (by decide) (hS.at k0) rfl ?_
  rw [show Int32.ofNat (cap) = nI (cap) from rfl]
  refine Wp.imul dX1_widen_11 rfl ?_
  rw [pk_mul]
  refine Wp.cS dX1_widen_12 cs_X1_44 rfl (by omega) rfl (Nat.le_of_ble_eq_true rfl) (Nat.le_of_ble_eq_true rfl) rfl (c_J7_copyOf (d := d - 1) (m := 2 * cap) (N := cap) (hS.at k0) (by omega) (by omega) (by omega) (hS.1 _ _ k0).2.1 (by omega)) ?_
  rintro _ h_ ⟨n0, rfl, e_, hn0⟩
  rw [e_]
  clear e_ h_
  dsimp only [Option.toList, List.drop, List.cons_append, List.nil_append]
  refine Wp.put dX1_widen_15 fp_X1_9 ((ev_nw_o (by have := (hS.1 _ _ hV).2.1; omega)).trans (hS.at hV)) rfl rfl rfl ?_
  refine hS.grow n0 rfl hV k0 (by omega) ?_
  intro h15 A15 C15 V15 S15 o15 a15 e15 w15 x15 k15 f15
  have y1_15 : V15 1 = .ref (A15 (b + 2)) := by rw [a15 (b + 2) (by omega)]; exact (x15 1 (by decide)).trans v1
  have y2_15 : V15 2 = .ref (A15 (b + 3)) := by rw [a15 (b + 3) (by omega)]; exact (x15 2 (by decide)).trans v2
  have y3_15 := (x15 3 (by decide)).trans v3
  rw [show A b = A15 b from (a15 b (by omega)).symm]
  refine Wp.aload_n dX1_widen_18 rfl (by first | exact Or.inr ⟨_, rfl⟩ | exact Or.inl rfl) rfl ?_
  refine Wp.aload_n dX1_widen_19 rfl (by first | exact Or.inr ⟨_, rfl⟩ | exact Or.inl rfl) rfl ?_
  refine Wp.get dX1_widen_20 fl_X1_15 (S15.at e15) y1_15 rfl ?_
  refine Wp.aload_n dX1_widen_23 rfl (by first | exact Or.inr ⟨_, rfl⟩ | exact Or.inl rfl) rfl ?_
  refine Wp.get dX1_widen_24 fl_X1_9 (S15.at e15) w15 rfl ?_
  refine Wp.alen dX1_widen_27 (by decide) (S15.at k15) rfl ?_
  rw [show Int32.ofNat (2 * cap) = nI (2 * cap) from rfl]
  refine Wp.cS dX1_widen_28 cs_X1_44 rfl (by omega) rfl (Nat.le_of_ble_eq_true rfl) (Nat.le_of_ble_eq_true rfl) rfl (c_J7_copyOf (d := d - 1) (m := 2 * cap) (N := cap) (S15.at ((f15 (b + 2) (by omega) (by omega)).trans k1)) (by omega) (by omega) (by omega) (S15.1 _ _ ((f15 (b + 2) (by omega) (by omega)).trans k1)).2.1 (by omega)) ?_
  rintro _ h_ ⟨n1, rfl, e_, hn1⟩
  rw [e_]
  clear e_ h_
  dsimp only [Option.toList, List.drop, List.cons_append, List.nil_append]
  refine Wp.put dX1_widen_31 fp_X1_15 ((ev_nw_o (by have := (S15.1 _ _ e15).2.1; omega)).trans (S15.at e15)) rfl rfl rfl ?_
  refine S15.grow n1 rfl e15 ((f15 (b + 2) (by omega) (by omega)).trans k1) (by omega) ?_
  intro h31 A31 C31 V31 S31 o31 a31 e31 w31 x31 k31 f31
  have o31 := o15.tr o31
  have y0_31 : V31 0 = .ref (A31 (b + 1)) := by rw [a31 (b + 1) (by omega)]; exact (x31 0 (by decide)).trans w15
  have y2_31 : V31 2 = .ref (A31 (b + 3)) := by rw [a31 (b + 3) (by omega)]; exact (x31 2 (by decide)).trans y2_15
  have y3_31 := (x31 3 (by decide)).trans y3_15
  rw [show A15 b = A31 b from (a31 b (by omega)).symm]
  refine Wp.aload_n dX1_widen_34 rfl (by first | exact Or.inr ⟨_, rfl⟩ | exact Or.inl rfl) rfl ?_
  refine Wp.aload_n dX1_widen_35 rfl (by first | exact Or.inr ⟨_, rfl⟩ | exact Or.inl rfl) rfl ?_
  refine Wp.get dX1_widen_36 fl_X1_18 (S31.at e31) y2_31 rfl ?_
  refine Wp.aload_n dX1_widen_39 rfl (by first | exact Or.inr ⟨_, rfl⟩ | exact Or.inl rfl) rfl ?_
  refine Wp.get dX1_widen_40 fl_X1_9 (S31.at e31) y0_31 rfl ?_
  refine Wp.alen dX1_widen_43 (by decide) (S31.at ((f31 (b + 1) (by omega) (by omega)).trans k15)) rfl ?_
  rw [show Int32.ofNat (2 * cap) = nI (2 * cap) from rfl]
  refine Wp.cS dX1_widen_44 cs_X1_44 rfl (by omega) rfl (Nat.le_of_ble_eq_true rfl) (Nat.le_of_ble_eq_true rfl) rfl (c_J7_copyOf (d := d - 1) (m := 2 * cap) (N := cap) (S31.at ((f31 (b + 3) (by omega) (by omega)).trans ((f15 (b + 3) (by omega) (by omega)).trans k2))) (by omega) (by omega) (by omega) (S31.1 _ _ ((f31 (b + 3) (by omega) (by omega)).trans ((f15 (b + 3) (by omega) (by omega)).trans k2))).2.1 (by omega)) ?_
  rintro _ h_ ⟨n2, rfl, e_, hn2⟩
  rw [e_]
  clear e_ h_
  dsimp only [Option.toList, List.drop, List.cons_append, List.nil_append]
  refine Wp.put dX1_widen_47 fp_X1_18 ((ev_nw_o (by have := (S31.1 _ _ e31).2.1; omega)).trans (S31.at e31)) rfl rfl rfl ?_
  refine S31.grow n2 rfl e31 ((f31 (b + 3) (by omega) (by omega)).trans ((f15 (b + 3) (by omega) (by omega)).trans k2)) (by omega) ?_
  intro h47 A47 C47 V47 S47 o47 a47 e47 w47 x47 k47 f47
  have o47 := o31.tr o47
  have y0_47 : V47 0 = .ref (A47 (b + 1)) := by rw [a47 (b + 1) (by omega)]; exact (x47 0 (by decide)).trans y0_31
  have y1_47 : V47 1 = .ref (A47 (b + 2)) := by rw [a47 (b + 2) (by omega)]; exact (x47 1 (by decide)).trans w31
  have y3_47 := (x47 3 (by decide)).trans y3_31
  rw [show A31 b = A47 b from (a47 b (by omega)).symm]
  exact Wp.vret dX1_widen_50 rfl (by
    refine ⟨rfl, A47, C47, S47, o47.le (by omega), fun t ht => (a47 t (by omega)).trans ((a31 t (by omega)).trans (a15 t (by omega))), fun t ht => (f47 t (by omega) (by omega)).trans ((f31 t (by omega) (by omega)).trans (f15 t (by omega) (by omega))), _, _, _, _, e47, y0_47, y1_47, w47, y3_47, ((f47 (b + 1) (by omega) (by omega)).trans ((f31 (b + 1) (by omega) (by omega)).trans k15)), ((f47 (b + 2) (by omega) (by omega)).trans k31), k47, by omega, by omega, fun j hj => ?_⟩
    have hgj := hg j hj
    exact ⟨(hn0 j (by omega) (by omega)).trans hgj.1, (hn1 j (by omega) (by omega)).trans hgj.2.1, (hn2 j (by omega) (by omega)).trans hgj.2.2⟩)
set_option maxHeartbeats 2000000 in
theorem c_X1_put16 {B : ev_B} {d b cap s ns w0 : Nat} {X : Nat → Prop} {h h0 : ev_H} {A : Nat → Nat} {C C0 : Nat → Option ev_E} {l : List Nat} {σ : Sg} (hS : CS X h A C) (hCh : ChoS A C b σ.N l cap) (hN : NetS A C0 σ ns) (hW : Wf σ) (ho : CG X h0 h w0) (hf : ∀ t, t < b ∨ b + 3 < t → C t = C0 t) (hb5 : 5 < b) (hs : s < 4096) (hlc : l.length < cap) (hcap : cap ≤ 100000) (hd : 1 ≤ d) :
    Wp B d M_X1_put 16 [some (.ref (A b)), some (.ref (A 1)), some (.int (nI s)), none] [] h (fun v_ h' => v_ = none ∧ ∃ C', CS X h' A C' ∧ CG X h0 h' w0 ∧ (∀ t, t < b ∨ b + 3 < t → C' t = C0 t) ∧ ChoS A C' b σ.N (insO s l) cap) := by
  obtain ⟨V, g0, g1, g2, hV, v0, v1, v2, v3, k0, k1, k2, hl, h8, hg⟩ := id hCh
  obtain ⟨Vn, n0, n1, n2, n3, hVn, z0, z1, z2, z3, z4, z5, z6, z7, z8, q0, q1, q2, q3, hgn⟩ := id hN
  have hLM := LM_ge σ
  have s88 : ∀ k, k ≤ l.length → insK s l l.length = k → ∀ (hh : ev_H) (Ci : Nat → Option ev_E) (Vi : Nat → Value) (g0 g1 g2 : Nat → Int32), CS X hh A Ci → CG X h0 hh w0 → (∀ t, t < b ∨ b + 3 < t → Ci t = C0 t) → Ci b = some (ev_ob 1 Vi) → Vi 0 = .ref (A (b + 1)) → Vi 1 = .ref (A (b + 2)) → Vi 2 = .ref (A (b + 3)) → Vi 3 = .int (nI l.length) → Ci (b + 1) = some (ev_ia cap g0) → Ci (b + 2) = some (ev_ia cap g1) → Ci (b + 3) = some (ev_ia cap g2) → AI σ.N l k g0 g1 g2 → Wp B d M_X1_put 88 [some (.ref (A b)), some (.ref (A 1)), some (.int (nI s)), some (.int (nI k))] [] hh (fun v_ h' => v_ = none ∧ ∃ C', CS X h' A C' ∧ CG X h0 h' w0 ∧ (∀ t, t < b ∨ b + 3 < t → C' t = C0 t) ∧ ChoS A C' b σ.N (insO s l) cap) := by
    intro k hk hins hh Ci Vi g0 g1 g2 Si oi fi hV v0 v1 v2 v3 k0 k1 k2 hai
    refine Wp.aload_n dX1_put_88 rfl (by first | exact Or.inr ⟨_, rfl⟩ | exact Or.inl rfl) rfl ?_
    refine Wp.get dX1_put_89 fl_X1_9 (Si.at hV) v0 rfl ?_
    refine Wp.iload_n dX1_put_92 rfl rfl ?_
    refine Wp.iload_n dX1_put_93 rfl rfl ?_
    refine Wp.iastore dX1_put_94 (Si.at k0) (nI_toInt (by omega)) (by omega) rfl ?_
    refine Si.sti k0 ?_
    intro h94 C94 g94 S94 o94 e94 u94 f94
    have o94 := oi.tr o94
    refine Wp.aload_n dX1_put_95 rfl (by first | exact Or.inr ⟨_, rfl⟩ | exact Or.inl rfl) rfl ?_
    refine Wp.get dX1_put_96 fl_X1_15 (S94.at ((f94 (b) (by omega)).trans hV)) v1 rfl ?_
    refine Wp.iload_n dX1_put_99 rfl rfl ?_
    refine Wp.aload_n dX1_put_100 rfl (by first | exact Or.inr ⟨_, rfl⟩ | exact Or.inl rfl) rfl ?_
    refine Wp.aload_n dX1_put_101 rfl (by first | exact Or.inr ⟨_, rfl⟩ | exact Or.inl rfl) rfl ?_
    refine Wp.get dX1_put_102 fl_X1_32 (S94.at ((f94 (1) (by omega)).trans ((fi (1) (by omega)).trans hVn))) z2 rfl ?_
    refine Wp.iload_n dX1_put_105 rfl rfl ?_
    refine Wp.cV dX1_put_106 cv_X1_37 rfl (by omega) rfl (Nat.le_of_ble_eq_true rfl) (Nat.le_of_ble_eq_true rfl) (S94.at ((f94 (1) (by omega)).trans ((fi (1) (by omega)).trans hVn))) rfl (c_X2_sumOver (d := d - 1) ((hN.same (fun t h1 h2 => (f94 t (by omega)).trans (fi t (by omega))) (fun _ _ _ => rfl)).C S94) hW.net (S94.at ((f94 (4) (by omega)).trans ((fi (4) (by omega)).trans q2))) (fun i hi => (hgn i (by omega)).2.2.1) hs) ?_
    rintro _ h_ ⟨rfl, e_⟩
    rw [e_]
    clear e_ h_
    dsimp only [Option.toList, List.drop, List.cons_append, List.nil_append]
    refine Wp.iastore dX1_put_109 (S94.at ((f94 (b + 2) (by omega)).trans k1)) (nI_toInt (by omega)) (by omega) rfl ?_
    refine S94.sti ((f94 (b + 2) (by omega)).trans k1) ?_
    intro h109 C109 g109 S109 o109 e109 u109 f109
    have o109 := o94.tr o109
    refine Wp.aload_n dX1_put_110 rfl (by first | exact Or.inr ⟨_, rfl⟩ | exact Or.inl rfl) rfl ?_
    refine Wp.get dX1_put_111 fl_X1_18 (S109.at ((f109 (b) (by omega)).trans ((f94 (b) (by omega)).trans hV))) v2 rfl ?_
    refine Wp.iload_n dX1_put_114 rfl rfl ?_
    refine Wp.aload_n dX1_put_115 rfl (by first | exact Or.inr ⟨_, rfl⟩ | exact Or.inl rfl) rfl ?_
    refine Wp.aload_n dX1_put_116 rfl (by first | exact Or.inr ⟨_, rfl⟩ | exact Or.inl rfl) rfl ?_
    refine Wp.get dX1_put_117 fl_X1_41 (S109.at ((f109 (1) (by omega)).trans ((f94 (1) (by omega)).trans ((fi (1) (by omega)).trans hVn)))) z3 rfl ?_
    refine Wp.iload_n dX1_put_120 rfl rfl ?_
    refine Wp.cV dX1_put_121 cv_X1_37 rfl (by omega) rfl (Nat.le_of_ble_eq_true rfl) (Nat.le_of_ble_eq_true rfl) (S109.at ((f109 (1) (by omega)).trans ((f94 (1) (by omega)).trans ((fi (1) (by omega)).trans hVn)))) rfl (c_X2_sumOver (d := d - 1) ((hN.same (fun t h1 h2 => (f109 t (by omega)).trans ((f94 t (by omega)).trans (fi t (by omega)))) (fun _ _ _ => rfl)).C S109) hW.net (S109.at ((f109 (5) (by omega)).trans ((f94 (5) (by omega)).trans ((fi (5) (by omega)).trans q3)))) (fun i hi => (hgn i (by omega)).2.2.2) hs) ?_
    rintro _ h_ ⟨rfl, e_⟩
    rw [e_]
    clear e_ h_
    dsimp only [Option.toList, List.drop, List.cons_append, List.nil_append]
    refine Wp.iastore dX1_put_124 (S109.at ((f109 (b + 3) (by omega)).trans ((f94 (b + 3) (by omega)).trans k2))) (nI_toInt (by omega)) (by omega) rfl ?_
    refine S109.sti ((f109 (b + 3) (by omega)).trans ((f94 (b + 3) (by omega)).trans k2)) ?_
    intro h124 C124 g124 S124 o124 e124 u124 f124
    have o124 := o109.tr o124
    refine Wp.aload_n dX1_put_125 rfl (by first | exact Or.inr ⟨_, rfl⟩ | exact Or.inl rfl) rfl ?_
    refine Wp.dup dX1_put_126 rfl rfl ?_
    refine Wp.get dX1_put_127 fl_X1_21 (S124.at ((f124 (b) (by omega)).trans ((f109 (b) (by omega)).trans ((f94 (b) (by omega)).trans hV)))) v3 rfl ?_
    refine Wp.iconst (v := (nI 1)) dX1_put_130 (by decide) rfl ?_
    refine Wp.iadd dX1_put_131 rfl ?_
    rw [nI_add1]
    refine Wp.put dX1_put_132 fp_X1_21 (S124.at ((f124 (b) (by omega)).trans ((f109 (b) (by omega)).trans ((f94 (b) (by omega)).trans hV)))) rfl rfl rfl ?_
    refine S124.put ((f124 (b) (by omega)).trans ((f109 (b) (by omega)).trans ((f94 (b) (by omega)).trans hV))) ?_
    intro h132 C132 V132 S132 o132 e132 w132 x132 f132
    have o132 := o124.tr o132
    exact Wp.vret dX1_put_135 rfl (by
      refine ⟨rfl, _, S132, o132, fun t ht => (f132 t (by omega)).trans ((f124 t (by omega)).trans ((f109 t (by omega)).trans ((f94 t (by omega)).trans (fi t ht)))), _, _, _, _, e132, ((x132 0 (by decide)).trans v0), ((x132 1 (by decide)).trans v1), ((x132 2 (by decide)).trans v2), ?_, ((f132 (b + 1) (by omega)).trans ((f124 (b + 1) (by omega)).trans ((f109 (b + 1) (by omega)).trans e94))), ((f132 (b + 2) (by omega)).trans ((f124 (b + 2) (by omega)).trans e109)), ((f132 (b + 3) (by omega)).trans e124), by rw [insO_len]; omega, h8, ?_⟩
      · rw [insO_len]; exact w132
      · rw [u94, u109, u124, insO, hins]; exact hai.fin hk)
  have loop : ∀ k, k ≤ l.length → insK s l l.length = insK s l k → ∀ (hh : ev_H) (Ci : Nat → Option ev_E) (Vi : Nat → Value) (g0 g1 g2 : Nat → Int32), CS X hh A Ci → CG X h0 hh w0 → (∀ t, t < b ∨ b + 3 < t → Ci t = C0 t) → Ci b = some (ev_ob 1 Vi) → Vi 0 = .ref (A (b + 1)) → Vi 1 = .ref (A (b + 2)) → Vi 2 = .ref (A (b + 3)) → Vi 3 = .int (nI l.length) → Ci (b + 1) = some (ev_ia cap g0) → Ci (b + 2) = some (ev_ia cap g1) → Ci (b + 3) = some (ev_ia cap g2) → AI σ.N l k g0 g1 g2 → Wp B d M_X1_put 21 [some (.ref (A b)), some (.ref (A 1)), some (.int (nI s)), some (.int (nI k))] [] hh (fun v_ h' => v_ = none ∧ ∃ C', CS X h' A C' ∧ CG X h0 h' w0 ∧ (∀ t, t < b ∨ b + 3 < t → C' t = C0 t) ∧ ChoS A C' b σ.N (insO s l) cap) := by
    intro k
    induction k with
    | zero =>
      intro hk hins hh Ci Vi g0 g1 g2 Si oi fi hV v0 v1 v2 v3 k0 k1 k2 hai
      refine Wp.iload_n dX1_put_21 rfl rfl ?_
      refine Wp.if_le (tgt := 88) (n := 25) dX1_put_22 (by decide) rfl (fun c_22 => ?_) (fun c_22 => ?_)
      · try simp (disch := omega) only [nI_bit0, nI_bit1, Bool.not_eq_false, Bool.not_eq_true] at c_22
        try simp (disch := omega) only [i_lt, i_le, i_eq, l_lt, l_le, l_eq, i_0, i_m1, l_0, nI_tI, iI_tI, lI_tI, Int.not_lt, Int.not_le] at c_22
        exact s88 0 hk hins _ _ _ _ _ _ Si oi fi hV v0 v1 v2 v3 k0 k1 k2 hai
      · try simp (disch := omega) only [nI_bit0, nI_bit1, Bool.not_eq_false, Bool.not_eq_true] at c_22
        try simp (disch := omega) only [i_lt, i_le, i_eq, l_lt, l_le, l_eq, i_0, i_m1, l_0, nI_tI, iI_tI, lI_tI, Int.not_lt, Int.not_le] at c_22
        omega
    | succ k ih =>
      intro hk hins hh Ci Vi g0 g1 g2 Si oi fi hV v0 v1 v2 v3 k0 k1 k2 hai
      refine Wp.iload_n dX1_put_21 rfl rfl ?_
      refine Wp.if_le (tgt := 88) (n := 25) dX1_put_22 (by decide) rfl (fun c_22 => ?_) (fun c_22 => ?_)
      · try simp (disch := omega) only [nI_bit0, nI_bit1, Bool.not_eq_false, Bool.not_eq_true] at c_22
        try simp (disch := omega) only [i_lt, i_le, i_eq, l_lt, l_le, l_eq, i_0, i_m1, l_0, nI_tI, iI_tI, lI_tI, Int.not_lt, Int.not_le] at c_22
        omega
      · try simp (disch := omega) only [nI_bit0, nI_bit1, Bool.not_eq_false, Bool.not_eq_true] at c_22
        try simp (disch := omega) only [i_lt, i_le, i_eq, l_lt, l_le, l_eq, i_0, i_m1, l_0, nI_tI, iI_tI, lI_tI, Int.not_lt, Int.not_le] at c_22
        refine Wp.iload_n dX1_put_25 rfl rfl ?_
        refine Wp.aload_n dX1_put_26 rfl (by first | exact Or.inr ⟨_, rfl⟩ | exact Or.inl rfl) rfl ?_
        refine Wp.get dX1_put_27 fl_X1_9 (Si.at hV) v0 rfl ?_
        refine Wp.iload_n dX1_put_30 rfl rfl ?_
        refine Wp.iconst (v := (nI 1)) dX1_put_31 (by decide) rfl ?_
        refine Wp.isub dX1_put_32 rfl ?_
        refine Wp.iaload dX1_put_33 (Si.at k0) (nI_m1n (by omega)) (by omega) rfl ?_
        rw [(hai.1 k (by omega)).1]
        refine Wp.cS dX1_put_34 cs_X1_28 rfl (by omega) rfl (Nat.le_of_ble_eq_true rfl) (Nat.le_of_ble_eq_true rfl) rfl (c_X1_comesAhead (d := d - 1)) ?_
        rintro _ h_ ⟨rfl, e_⟩
        rw [e_]
        clear e_ h_
        dsimp only [Option.toList, List.drop, List.cons_append, List.nil_append]
        refine Wp.bif_eq (tgt := 88) (n := 40) dX1_put_37 (by decide) rfl (fun c_37 => ?_) (fun c_37 => ?_)
        · have c_37 : ahB s (l.getD k 0) = 0 := Classical.not_not.mp (of_decide_eq_false c_37)
          exact s88 (k + 1) hk (hins.trans (by rw [insK, if_pos c_37])) _ _ _ _ _ _ Si oi fi hV v0 v1 v2 v3 k0 k1 k2 hai
        · have c_37 : ¬ ahB s (l.getD k 0) = 0 := of_decide_eq_true c_37
          refine Wp.aload_n dX1_put_40 rfl (by first | exact Or.inr ⟨_, rfl⟩ | exact Or.inl rfl) rfl ?_
          refine Wp.get dX1_put_41 fl_X1_9 (Si.at hV) v0 rfl ?_
          refine Wp.iload_n dX1_put_44 rfl rfl ?_
          refine Wp.aload_n dX1_put_45 rfl (by first | exact Or.inr ⟨_, rfl⟩ | exact Or.inl rfl) rfl ?_
          refine Wp.get dX1_put_46 fl_X1_9 (Si.at hV) v0 rfl ?_
          refine Wp.iload_n dX1_put_49 rfl rfl ?_
          refine Wp.iconst (v := (nI 1)) dX1_put_50 (by decide) rfl ?_
          refine Wp.isub dX1_put_51 rfl ?_
          refine Wp.iaload dX1_put_52 (Si.at k0) (nI_m1n (by omega)) (by omega) rfl ?_
          refine Wp.iastore dX1_put_53 (Si.at k0) (nI_toInt (by omega)) (by omega) rfl ?_
          refine Si.sti k0 ?_
          intro h53 C53 g53 S53 o53 e53 u53 f53
          have o53 := oi.tr o53
          refine Wp.aload_n dX1_put_54 rfl (by first | exact Or.inr ⟨_, rfl⟩ | exact Or.inl rfl) rfl ?_
          refine Wp.get dX1_put_55 fl_X1_15 (S53.at ((f53 (b) (by omega)).trans hV)) v1 rfl ?_
          refine Wp.iload_n dX1_put_58 rfl rfl ?_
          refine Wp.aload_n dX1_put_59 rfl (by first | exact Or.inr ⟨_, rfl⟩ | exact Or.inl rfl) rfl ?_
          refine Wp.get dX1_put_60 fl_X1_15 (S53.at ((f53 (b) (by omega)).trans hV)) v1 rfl ?_
          refine Wp.iload_n dX1_put_63 rfl rfl ?_
          refine Wp.iconst (v := (nI 1)) dX1_put_64 (by decide) rfl ?_
          refine Wp.isub dX1_put_65 rfl ?_
          refine Wp.iaload dX1_put_66 (S53.at ((f53 (b + 2) (by omega)).trans k1)) (nI_m1n (by omega)) (by omega) rfl ?_
          refine Wp.iastore dX1_put_67 (S53.at ((f53 (b + 2) (by omega)).trans k1)) (nI_toInt (by omega)) (by omega) rfl ?_
          refine S53.sti ((f53 (b + 2) (by omega)).trans k1) ?_
          intro h67 C67 g67 S67 o67 e67 u67 f67
          have o67 := o53.tr o67
          refine Wp.aload_n dX1_put_68 rfl (by first | exact Or.inr ⟨_, rfl⟩ | exact Or.inl rfl) rfl ?_
          refine Wp.get dX1_put_69 fl_X1_18 (S67.at ((f67 (b) (by omega)).trans ((f53 (b) (by omega)).trans hV))) v2 rfl ?_
          refine Wp.iload_n dX1_put_72 rfl rfl ?_
          refine Wp.aload_n dX1_put_73 rfl (by first | exact Or.inr ⟨_, rfl⟩ | exact Or.inl rfl) rfl ?_
          refine Wp.get dX1_put_74 fl_X1_18 (S67.at ((f67 (b) (by omega)).trans ((f53 (b) (by omega)).trans hV))) v2 rfl ?_
          refine Wp.iload_n dX1_put_77 rfl rfl ?_
          refine Wp.iconst (v := (nI 1)) dX1_put_78 (by decide) rfl ?_
          refine Wp.isub dX1_put_79 rfl ?_
          refine Wp.iaload dX1_put_80 (S67.at ((f67 (b + 3) (by omega)).trans ((f53 (b + 3) (by omega)).trans k2))) (nI_m1n (by omega)) (by omega) rfl ?_
          refine Wp.iastore dX1_put_81 (S67.at ((f67 (b + 3) (by omega)).trans ((f53 (b + 3) (by omega)).trans k2))) (nI_toInt (by omega)) (by omega) rfl ?_
          refine S67.sti ((f67 (b + 3) (by omega)).trans ((f53 (b + 3) (by omega)).trans k2)) ?_
          intro h81 C81 g81 S81 o81 e81 u81 f81
          have o81 := o67.tr o81
          refine Wp.iinc (v := _ + (-1)) dX1_put_82 rfl rfl (Nat.le_of_ble_eq_true rfl) (by dsimp only [ev_st1, ev_cl] <;> rfl) rfl ?_
          rw [nI_dec]
          refine Wp.goto (n := 21) dX1_put_85 (by decide) ?_
          exact ih (by omega) (hins.trans (by rw [insK, if_neg c_37])) _ _ _ _ _ _ S81 o81 (fun t ht => (f81 t (by omega)).trans ((f67 t (by omega)).trans ((f53 t (by omega)).trans (fi t ht)))) ((f81 (b) (by omega)).trans ((f67 (b) (by omega)).trans ((f53 (b) (by omega)).trans hV))) v0 v1 v2 v3 ((f81 (b + 1) (by omega)).trans ((f67 (b + 1) (by omega)).trans e53)) ((f81 (b + 2) (by omega)).trans e67) e81 (by rw [u53, u67, u81]; exact hai.down)
  refine Wp.aload_n dX1_put_16 rfl (by first | exact Or.inr ⟨_, rfl⟩ | exact Or.inl rfl) rfl ?_
  refine Wp.get dX1_put_17 fl_X1_21 (hS.at hV) v3 rfl ?_
  refine Wp.istore_n dX1_put_20 (Nat.le_of_ble_eq_true rfl) (by dsimp only [ev_st1, ev_st2, ev_cl] <;> rfl) rfl ?_
  exact loop l.length (Nat.le_refl _) rfl _ _ _ _ _ _ hS ho hf hV v0 v1 v2 v3 k0 k1 k2 (AI.top hg)
theorem c_X1_put {B : ev_B} {d b cap s ns : Nat} {X : Nat → Prop} {h : ev_H} {A : Nat → Nat} {C : Nat → Option ev_E} {l : List Nat} {σ : Sg} (hS : CS X h A C) (hCh : ChoS A C b σ.N l cap) (hN : NetS A C σ ns) (hW : Wf σ) (hb5 : 5 < b) (hs : s < 4096) (hcap : cap ≤ 40000) (hd : 3 ≤ d) :
    Wp B d M_X1_put 0 [some (.ref (A b)), some (.ref (A 1)), some (.int (nI s)), none] [] h (fun v_ h' => v_ = none ∧ ∃ A' C' cap', CS X h' A' C' ∧ CG X h h' (7 * (cap' - cap)) ∧ cap ≤ cap' ∧ (cap' = cap ∨ l.length = cap ∧ cap' = 2 * cap) ∧ (∀ t, t ≤ b ∨ b + 3 < t → A' t = A t) ∧ (∀ t, t < b ∨ b + 3 < t → C' t = C t) ∧ ChoS A' C' b σ.N (insO s l) cap') := by
  obtain ⟨V, g0, g1, g2, hV, v0, v1, v2, v3, k0, k1, k2, hl, h8, hg⟩ := id hCh
  refine Wp.aload_n dX1_put_0 rfl (by first | exact Or.inr ⟨_, rfl⟩ | exact Or.inl rfl) rfl ?_
  refine Wp.get dX1_put_1 fl_X1_21 (hS.at hV) v3 rfl ?_
  refine Wp.aload_n dX1_put_4 rfl (by first | exact Or.inr ⟨_, rfl⟩ | exact Or.inl rfl) rfl ?_
  refine Wp.get dX1_put_5 fl_X1_9 (hS.at hV) v0 rfl ?_
  refine Wp.alen dX1_put_8 (by decide) (hS.at k0) rfl ?_
  rw [show Int32.ofNat (cap) = nI (cap) from rfl]
  refine Wp.icmp_lt (tgt := 16) (n := 12) dX1_put_9 (by decide) rfl (fun c_9 => ?_) (fun c_9 => ?_)
  · try simp (disch := omega) only [nI_bit0, nI_bit1, Bool.not_eq_false, Bool.not_eq_true] at c_9
    try simp (disch := omega) only [i_lt, i_le, i_eq, l_lt, l_le, l_eq, i_0, i_m1, l_0, nI_tI, iI_tI, lI_tI, Int.not_lt, Int.not_le] at c_9
    refine (c_X1_put16 (d := d) (h0 := h) (w0 := 0) (C0 := C) (ns := ns) (σ := σ) (s := s) hS hCh hN hW CG.rfl (fun _ _ => rfl) hb5 hs (by omega) (by omega) (by omega)).mono ?_
    rintro v_ h' ⟨rfl, C', S', o', f', Ch'⟩
    exact ⟨rfl, A, C', cap, S', o'.le (by omega), Nat.le_refl _, Or.inl rfl, fun _ _ => rfl, f', Ch'⟩
  · try simp (disch := omega) only [nI_bit0, nI_bit1, Bool.not_eq_false, Bool.not_eq_true] at c_9
    try simp (disch := omega) only [i_lt, i_le, i_eq, l_lt, l_le, l_eq, i_0, i_m1, l_0, nI_tI, iI_tI, lI_tI, Int.not_lt, Int.not_le] at c_9
    refine Wp.aload_n dX1_put_12 rfl (by first | exact Or.inr ⟨_, rfl⟩ | exact Or.inl rfl) rfl ?_
    refine Wp.cV dX1_put_13 cv_X1_25 rfl (by omega) rfl (Nat.le_of_ble_eq_true rfl) (Nat.le_of_ble_eq_true rfl) (hS.at hV) rfl (c_X1_widen (d := d - 1) hS hCh (by omega) (by omega)) ?_
    rintro _ h1 ⟨rfl, A1, C1, S1, o1, a1, f1, Ch1⟩
    rw [show A b = A1 b from (a1 b (by omega)).symm, show A 1 = A1 1 from (a1 1 (by omega)).symm]
    dsimp only [Option.toList, List.drop, List.cons_append, List.nil_append]
    refine (c_X1_put16 (d := d) (h0 := h1) (w0 := 0) (C0 := C1) (ns := ns) (σ := σ) (s := s) S1 Ch1 (hN.same (fun t h1 h2 => f1 t (by omega)) (fun t h1 h2 => a1 t (by omega))) hW CG.rfl (fun _ _ => rfl) hb5 hs (by omega) (by omega) (by omega)).mono ?_
    rintro v_ h' ⟨rfl, C', S', o', f', Ch'⟩
    exact ⟨rfl, A1, C', 2 * cap, S', (o1.tr o').le (by omega), by omega, Or.inr ⟨by omega, rfl⟩, a1, fun t ht => (f' t ht).trans (f1 t ht), Ch'⟩
