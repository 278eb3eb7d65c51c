/-! the class: spans and regrets; rows of bends -/
theorem low_00 (w : Bool) : low w 0 0 = 0 := by cases w <;> rfl
def Fnd (h : ev_H) (f : Nat) (z : Nat → Int64) : Prop := h.1 f = some (ev_la 5 z)
def RowH (h : ev_H) (a n : Nat) (rv : Nat → Nat → Int) : Prop := ∃ (V : Nat → Value) (a0 len : Nat) (g : Nat → Int32), h.1 a = some (ev_ob 4 V) ∧ V 0 = .ref a0 ∧ V 1 = .int (nI n) ∧ h.1 a0 = some (ev_ia len g) ∧ 4 * n ≤ len ∧ ∀ i k, i < n → k < 4 → g (4 * i + k) = iI (rv i k)
def RowS (A : Nat → Nat) (C : Nat → Option ev_E) (b n : Nat) (rv : Nat → Nat → Int) (len : Nat) : Prop := ∃ (V : Nat → Value) (g : Nat → Int32), C b = some (ev_ob 4 V) ∧ V 0 = .ref (A (b + 1)) ∧ V 1 = .int (nI n) ∧ C (b + 1) = some (ev_ia len g) ∧ 4 * n ≤ len ∧ ∀ i k, i < n → k < 4 → g (4 * i + k) = iI (rv i k)
theorem RowS.H {X : Nat → Prop} {h : ev_H} {A : Nat → Nat} {C : Nat → Option ev_E} {b n len : Nat} {rv : Nat → Nat → Int} (hR : RowS A C b n rv len) (hS : CS X h A C) : RowH h (A b) n rv := by
  obtain ⟨V, g, hV, v0, v1, k0, hl, hg⟩ := hR
  exact ⟨V, A (b + 1), len, g, hS.at hV, v0, v1, hS.at k0, hl, hg⟩
theorem RowS.same {A A' : Nat → Nat} {C C' : Nat → Option ev_E} {b n len : Nat} {rv : Nat → Nat → Int} (hR : RowS A C b n rv len) (h0 : C' b = C b) (h1 : C' (b + 1) = C (b + 1)) (h2 : A' (b + 1) = A (b + 1)) : RowS A' C' b n rv len := by
  obtain ⟨V, g, hV, v0, v1, k0, hl, hg⟩ := hR
  exact ⟨V, g, h0.trans hV, by rw [h2]; exact v0, v1, h1.trans k0, hl, hg⟩
abbrev hasR (n : Nat) (i w : Int32) : Prop := (0 ≤ i.toInt ∧ i.toInt < n) ∧ 0 ≤ w.toInt ∧ w.toInt < 4
theorem c_X5_has {B : ev_B} {d a n : Nat} {h : ev_H} {rv : Nat → Nat → Int} {i w : Int32} (hR : RowH h a n rv) (hn : n ≤ 1000) :
    Wp B d M_X5_has 0 [some (.ref a), some (.int (i)), some (.int (w))] [] h (fun v h' => v = some (.int (bI (decide (hasR n i w)))) ∧ h' = h) := by
  obtain ⟨V, a0, len, g, hV, v0, v1, k0, hl, hg⟩ := id hR
  refine Wp.iload_n dX5_has_0 rfl rfl ?_
  refine Wp.if_lt (tgt := 25) (n := 4) dX5_has_1 (by decide) rfl (fun c_1 => ?_) (fun c_1 => ?_)
  · try simp (disch := omega) only [nI_bit0, nI_bit1, Bool.not_eq_false, Bool.not_eq_true] at c_1
    try simp (disch := omega) only [i_lt, i_le, i_eq, l_lt, l_le, l_eq, i_0, i_m1, l_0, nI_tI, iI_tI, lI_tI, Int.not_lt, Int.not_le] at c_1
    refine Wp.iconst (v := (nI 0)) dX5_has_25 (by decide) rfl ?_
    exact Wp.zret dX5_has_26 rfl (by decide) (q_ret (bI_f (decide_eq_false (by omega))))
  · try simp (disch := omega) only [nI_bit0, nI_bit1, Bool.not_eq_false, Bool.not_eq_true] at c_1
    try simp (disch := omega) only [i_lt, i_le, i_eq, l_lt, l_le, l_eq, i_0, i_m1, l_0, nI_tI, iI_tI, lI_tI, Int.not_lt, Int.not_le] at c_1
    refine Wp.iload_n dX5_has_4 rfl rfl ?_
    refine Wp.aload_n dX5_has_5 rfl (by first | exact Or.inr ⟨_, rfl⟩ | exact Or.inl rfl) rfl ?_
    refine Wp.get dX5_has_6 fl_X5_13 hV v1 rfl ?_
    refine Wp.icmp_ge (tgt := 25) (n := 12) dX5_has_9 (by decide) rfl (fun c_9 => ?_) (fun c_9 => ?_)
    · try simp (disch := omega) only [nI_bit0, nI_bit1, Bool.not_eq_false, Bool.not_eq_true] at c_9
      try simp (disch := omega) only [i_lt, i_le, i_eq, l_lt, l_le, l_eq, i_0, i_m1, l_0, nI_tI, iI_tI, lI_tI, Int.not_lt, Int.not_le] at c_9
      refine Wp.iconst (v := (nI 0)) dX5_has_25 (by decide) rfl ?_
      exact Wp.zret dX5_has_26 rfl (by decide) (q_ret (bI_f (decide_eq_false (by omega))))
    · try simp (disch := omega) only [nI_bit0, nI_bit1, Bool.not_eq_false, Bool.not_eq_true] at c_9
      try simp (disch := omega) only [i_lt, i_le, i_eq, l_lt, l_le, l_eq, i_0, i_m1, l_0, nI_tI, iI_tI, lI_tI, Int.not_lt, Int.not_le] at c_9
      refine Wp.iload_n dX5_has_12 rfl rfl ?_
      refine Wp.if_lt (tgt := 25) (n := 16) dX5_has_13 (by decide) rfl (fun c_13 => ?_) (fun c_13 => ?_)
      · try simp (disch := omega) only [nI_bit0, nI_bit1, Bool.not_eq_false, Bool.not_eq_true] at c_13
        try simp (disch := omega) only [i_lt, i_le, i_eq, l_lt, l_le, l_eq, i_0, i_m1, l_0, nI_tI, iI_tI, lI_tI, Int.not_lt, Int.not_le] at c_13
        refine Wp.iconst (v := (nI 0)) dX5_has_25 (by decide) rfl ?_
        exact Wp.zret dX5_has_26 rfl (by decide) (q_ret (bI_f (decide_eq_false (by omega))))
      · try simp (disch := omega) only [nI_bit0, nI_bit1, Bool.not_eq_false, Bool.not_eq_true] at c_13
        try simp (disch := omega) only [i_lt, i_le, i_eq, l_lt, l_le, l_eq, i_0, i_m1, l_0, nI_tI, iI_tI, lI_tI, Int.not_lt, Int.not_le] at c_13
        refine Wp.iload_n dX5_has_16 rfl rfl ?_
        refine Wp.iconst (v := (nI 4)) dX5_has_17 (by decide) rfl ?_
        refine Wp.icmp_ge (tgt := 25) (n := 21) dX5_has_18 (by decide) rfl (fun c_18 => ?_) (fun c_18 => ?_)
        · try simp (disch := omega) only [nI_bit0, nI_bit1, Bool.not_eq_false, Bool.not_eq_true] at c_18
          try simp (disch := omega) only [i_lt, i_le, i_eq, l_lt, l_le, l_eq, i_0, i_m1, l_0, nI_tI, iI_tI, lI_tI, Int.not_lt, Int.not_le] at c_18
          refine Wp.iconst (v := (nI 0)) dX5_has_25 (by decide) rfl ?_
          exact Wp.zret dX5_has_26 rfl (by decide) (q_ret (bI_f (decide_eq_false (by omega))))
        · try simp (disch := omega) only [nI_bit0, nI_bit1, Bool.not_eq_false, Bool.not_eq_true] at c_18
          try simp (disch := omega) only [i_lt, i_le, i_eq, l_lt, l_le, l_eq, i_0, i_m1, l_0, nI_tI, iI_tI, lI_tI, Int.not_lt, Int.not_le] at c_18
          refine Wp.iconst (v := (nI 1)) dX5_has_21 (by decide) rfl ?_
          refine Wp.goto (n := 26) dX5_has_22 (by decide) ?_
          exact Wp.zret dX5_has_26 rfl (by decide) (q_ret (bI_t (decide_eq_true (by omega))))
theorem c_X5_number {B : ev_B} {d a n : Nat} {h : ev_H} {rv : Nat → Nat → Int} {i w : Nat} (hR : RowH h a n rv) (hn : n ≤ 1000) (hi : i < n) (hw : w < 4) (hd : 1 ≤ d) :
    Wp B d M_X5_number 0 [some (.ref a), some (.int (nI i)), some (.int (nI w))] [] h (fun v h' => v = some (.int (iI (rv i w))) ∧ h' = h) := by
  obtain ⟨V, a0, len, g, hV, v0, v1, k0, hl, hg⟩ := id hR
  have hhas : hasR n (nI i) (nI w) := by simp (disch := omega) only [hasR, nI_tI]; omega
  refine Wp.aload_n dX5_number_0 rfl (by first | exact Or.inr ⟨_, rfl⟩ | exact Or.inl rfl) rfl ?_
  refine Wp.iload_n dX5_number_1 rfl rfl ?_
  refine Wp.iload_n dX5_number_2 rfl rfl ?_
  refine Wp.cV dX5_number_3 cv_X5_17 rfl (by omega) rfl (Nat.le_of_ble_eq_true rfl) (Nat.le_of_ble_eq_true rfl) hV rfl (c_X5_has (d := d - 1) hR hn) ?_
  rintro _ h_ ⟨rfl, e_⟩
  rw [e_]
  clear e_ h_
  dsimp only [Option.toList, List.drop, List.cons_append, List.nil_append]
  refine Wp.bif_eq (tgt := 22) (n := 9) dX5_number_6 (by decide) rfl (fun c_6 => ?_) (fun c_6 => ?_)
  · try simp only [decide_eq_true_eq, decide_eq_false_iff_not, Bool.and_eq_true, bI_0, bI_n0] at c_6
    exact absurd hhas c_6
  · try simp only [decide_eq_true_eq, decide_eq_false_iff_not, Bool.and_eq_true, bI_0, bI_n0] at c_6
    refine Wp.aload_n dX5_number_9 rfl (by first | exact Or.inr ⟨_, rfl⟩ | exact Or.inl rfl) rfl ?_
    refine Wp.get dX5_number_10 fl_X5_9 hV v0 rfl ?_
    refine Wp.iconst (v := (nI 4)) dX5_number_13 (by decide) rfl ?_
    refine Wp.iload_n dX5_number_14 rfl rfl ?_
    refine Wp.imul dX5_number_15 rfl ?_
    refine Wp.iload_n dX5_number_16 rfl rfl ?_
    refine Wp.iadd dX5_number_17 rfl ?_
    refine Wp.iaload dX5_number_18 k0 (nI_4 (by omega) (by omega)) (by omega) rfl ?_
    rw [hg i w hi hw]
    refine Wp.goto (n := 23) dX5_number_19 (by decide) ?_
    exact Wp.iret dX5_number_23 rfl (by exact ⟨rfl, rfl⟩)
theorem c_X5_set {B : ev_B} {d b n len : Nat} {X : Nat → Prop} {h : ev_H} {A : Nat → Nat} {C : Nat → Option ev_E} {rv : Nat → Nat → Int} {i w : Nat} {v : Int32} (hS : CS X h A C) (hR : RowS A C b n rv len) (hn : n ≤ 500) (hlen : len ≤ 100000) (hi : i < n) (hw : w < 4) (hd : 1 ≤ d) :
    Wp B d M_X5_set 0 [some (.ref (A b)), some (.int (nI i)), some (.int (nI w)), some (.int v)] [] h (fun v_ h' => v_ = none ∧ ∃ C', CS X h' A C' ∧ CG X h h' 0 ∧ (∀ t, t ≠ b + 1 → C' t = C t) ∧ RowS A C' b n (updR rv i w v.toInt) len) := by
  obtain ⟨V, g, hV, v0, v1, k0, hl, hg⟩ := id hR
  have hhas : hasR n (nI i) (nI w) := by simp (disch := omega) only [hasR, nI_tI]; omega
  refine Wp.aload_n dX5_set_0 rfl (by first | exact Or.inr ⟨_, rfl⟩ | exact Or.inl rfl) rfl ?_
  refine Wp.iload_n dX5_set_1 rfl rfl ?_
  refine Wp.iload_n dX5_set_2 rfl rfl ?_
  refine Wp.cV dX5_set_3 cv_X5_17 rfl (by omega) rfl (Nat.le_of_ble_eq_true rfl) (Nat.le_of_ble_eq_true rfl) (hS.at hV) rfl (c_X5_has (d := d - 1) (hR.H hS) (by omega)) ?_
  rintro _ h_ ⟨rfl, e_⟩
  rw [e_]
  clear e_ h_
  dsimp only [Option.toList, List.drop, List.cons_append, List.nil_append]
  refine Wp.bif_eq (tgt := 20) (n := 9) dX5_set_6 (by decide) rfl (fun c_6 => ?_) (fun c_6 => ?_)
  · try simp only [decide_eq_true_eq, decide_eq_false_iff_not, Bool.and_eq_true, bI_0, bI_n0] at c_6
    exact absurd hhas c_6
  · try simp only [decide_eq_true_eq, decide_eq_false_iff_not, Bool.and_eq_true, bI_0, bI_n0] at c_6
    refine Wp.aload_n dX5_set_9 rfl (by first | exact Or.inr ⟨_, rfl⟩ | exact Or.inl rfl) rfl ?_
    refine Wp.get dX5_set_10 fl_X5_9 (hS.at hV) v0 rfl ?_
    refine Wp.iconst (v := (nI 4)) dX5_set_13 (by decide) rfl ?_
    refine Wp.iload_n dX5_set_14 rfl rfl ?_
    refine Wp.imul dX5_set_15 rfl ?_
    refine Wp.iload_n dX5_set_16 rfl rfl ?_
    refine Wp.iadd dX5_set_17 rfl ?_
    refine Wp.iload_n dX5_set_18 rfl rfl ?_
    refine Wp.iastore dX5_set_19 (hS.at k0) (nI_4 (by omega) (by omega)) (by omega) rfl ?_
    refine hS.sti k0 ?_
    intro h19 C19 g19 S19 o19 e19 u19 f19
    exact Wp.vret dX5_set_20 rfl (by
      refine ⟨rfl, _, S19, o19, f19, _, _, (f19 b (by omega)).trans hV, v0, v1, e19, hl, fun t k h1 h2 => ?_⟩
      rw [u19]
      simp only [upd, updR]
      by_cases e : 4 * t + k = 4 * i + w
      · rw [if_pos e, if_pos (by omega), ← iI_of]
      · rw [if_neg e, if_neg (by omega)]; exact hg t k h1 h2)
theorem c_X5_makeRoomFor {B : ev_B} {d b n len : Nat} {X : Nat → Prop} {h : ev_H} {A : Nat → Nat} {C : Nat → Option ev_E} {rv : Nat → Nat → Int} {m : Nat} (hS : CS X h A C) (hR : RowS A C b n rv len) (hn : n ≤ 500) (hlen : len ≤ 100000) (hm : m ≤ 1000) (hd : 2 ≤ d) :
    Wp B d M_X5_makeRoomFor 0 [some (.ref (A b)), some (.int (nI m))] [] h (fun v_ h' => v_ = none ∧ ∃ A' C' len', CS X h' A' C' ∧ CG X h h' (3 * (len' - len)) ∧ len ≤ len' ∧ (len' = len ∨ len' = 8 * m) ∧ 4 * m ≤ len' ∧ (∀ t, t ≠ b + 1 → A' t = A t) ∧ (∀ t, t ≠ b → t ≠ b + 1 → C' t = C t) ∧ RowS A' C' b n rv len') := by
  obtain ⟨V, g, hV, v0, v1, k0, hl, hg⟩ := id hR
  refine Wp.iconst (v := (nI 4)) dX5_makeRoomFor_0 (by decide) rfl ?_
  refine Wp.iload_n dX5_makeRoomFor_1 rfl rfl ?_
  refine Wp.imul dX5_makeRoomFor_2 rfl ?_
  rw [pk_mul]
  refine Wp.aload_n dX5_makeRoomFor_3 rfl (by first | exact Or.inr ⟨_, rfl⟩ | exact Or.inl rfl) rfl ?_
  refine Wp.get dX5_makeRoomFor_4 fl_X5_9 (hS.at hV) v0 rfl ?_
  refine Wp.alen dX5_makeRoomFor_7 (by decide) (hS.at k0) rfl ?_
  rw [show Int32.ofNat len = nI len from rfl]
  refine Wp.icmp_le (tgt := 26) (n := 11) dX5_makeRoomFor_8 (by decide) rfl (fun c_8 => ?_) (fun c_8 => ?_)
  · try simp (disch := omega) only [nI_bit0, nI_bit1, Bool.not_eq_false, Bool.not_eq_true] at c_8
    try simp (disch := omega) only [i_lt, i_le, i_eq, l_lt, l_le, l_eq, i_0, i_m1, l_0, nI_tI, iI_tI, lI_tI, Int.not_lt, Int.not_le] at c_8
    exact Wp.vret dX5_makeRoomFor_26 rfl (by exact ⟨rfl, A, C, len, hS, CG.rfl, Nat.le_refl _, Or.inl rfl, by omega, fun _ _ => rfl, fun _ _ _ => rfl, hR⟩)
  · try simp (disch := omega) only [nI_bit0, nI_bit1, Bool.not_eq_false, Bool.not_eq_true] at c_8
    try simp (disch := omega) only [i_lt, i_le, i_eq, l_lt, l_le, l_eq, i_0, i_m1, l_0, nI_tI, iI_tI, lI_tI, Int.not_lt, Int.not_le] at c_8
    refine Wp.aload_n dX5_makeRoomFor_11 rfl (by first | exact Or.inr ⟨_, rfl⟩ | exact Or.inl rfl) rfl ?_
    refine Wp.aload_n dX5_makeRoomFor_12 rfl (by first | exact Or.inr ⟨_, rfl⟩ | exact Or.inl rfl) rfl ?_
    refine Wp.get dX5_makeRoomFor_13 fl_X5_9 (hS.at hV) v0 rfl ?_
    refine Wp.bipush (v := (nI 8)) dX5_makeRoomFor_16 (by decide) rfl ?_
    refine Wp.iload_n dX5_makeRoomFor_18 rfl rfl ?_
    refine Wp.imul dX5_makeRoomFor_19 rfl ?_
    rw [pk_mul]
    refine Wp.cS dX5_makeRoomFor_20 cs_X5_37 rfl (by omega) rfl (Nat.le_of_ble_eq_true rfl) (Nat.le_of_ble_eq_true rfl) rfl (c_J7_copyOf (d := d - 1) (m := 8 * m) (N := len) (hS.at k0) (by omega) (by omega) (by omega) (hS.1 _ _ k0).2.1 (by omega)) ?_
    rintro _ h_ ⟨g', rfl, e_, hg'⟩
    rw [e_]
    clear e_ h_
    dsimp only [Option.toList, List.drop, List.cons_append, List.nil_append]
    refine Wp.put dX5_makeRoomFor_23 fp_X5_9 ((ev_nw_o (by have := (hS.1 _ _ hV).2.1; omega)).trans (hS.at hV)) rfl rfl rfl ?_
    refine hS.grow g' rfl hV k0 (by omega) ?_
    intro h1 A1 C1 V1 S1 o1 a1 e1 w1 x1 k1 f1
    exact Wp.vret dX5_makeRoomFor_26 rfl ⟨rfl, A1, C1, 8 * m, S1, o1.le (by omega), by omega, Or.inr rfl, by omega, a1, fun t h1 h2 => f1 t h1 h2, _, _, e1, w1, (x1 1 (by decide)).trans v1, k1, by omega, fun t k h1 h2 => (hg' (4 * t + k) (by omega) (by omega)).trans (hg t k h1 h2)⟩
set_option maxHeartbeats 1000000 in
theorem c_X5_put {B : ev_B} {d b n len : Nat} {X : Nat → Prop} {h : ev_H} {A : Nat → Nat} {C : Nat → Option ev_E} {rv : Nat → Nat → Int} {p q : Int} {x y : Nat} (hS : CS X h A C) (hR : RowS A C b n rv len) (hn : n ≤ 500) (hlen : len ≤ 100000) (hp : -1000000 ≤ p ∧ p ≤ 1000000) (hq : 0 < q ∧ q ≤ 1000000) (hx : x < 4096) (hy : y < 4096) (hd : 3 ≤ d) :
    Wp B d M_X5_put 0 [some (.ref (A b)), some (.long (lI p)), none, some (.long (lI q)), none, some (.int (nI x)), some (.int (nI y)), none] [] h (fun v_ h' => v_ = none ∧ ∃ A' C' len', CS X h' A' C' ∧ CG X h h' (3 * (len' - len)) ∧ len ≤ len' ∧ (len' = len ∨ len' = 8 * (n + 1)) ∧ (∀ t, t ≠ b + 1 → A' t = A t) ∧ (∀ t, t ≠ b → t ≠ b + 1 → C' t = C t) ∧ RowS A' C' b (n + 1) (fun i k => if i = n then (if k = 0 then low true p q else if k = 1 then low false p q else if k = 2 then (x : Int) else (y : Int)) else rv i k) len') := by
  have hlt := low_b (w := true) (a := p) (b := q) (A := 1000000) (by omega) (by omega)
  have hlf := low_b (w := false) (a := p) (b := q) (A := 1000000) (by omega) (by omega)
  obtain ⟨V, g, hV, v0, v1, k0, hl, hg⟩ := id hR
  refine Wp.aload_n dX5_put_0 rfl (by first | exact Or.inr ⟨_, rfl⟩ | exact Or.inl rfl) rfl ?_
  refine Wp.aload_n dX5_put_1 rfl (by first | exact Or.inr ⟨_, rfl⟩ | exact Or.inl rfl) rfl ?_
  refine Wp.get dX5_put_2 fl_X5_13 (hS.at hV) v1 rfl ?_
  refine Wp.iconst (v := (nI 1)) dX5_put_5 (by decide) rfl ?_
  refine Wp.iadd dX5_put_6 rfl ?_
  rw [nI_add1]
  refine Wp.cV dX5_put_7 cv_X5_21 rfl (by omega) rfl (Nat.le_of_ble_eq_true rfl) (Nat.le_of_ble_eq_true rfl) (hS.at hV) rfl (c_X5_makeRoomFor (d := d - 1) (m := n + 1) hS hR hn hlen (by omega) (by omega)) ?_
  rintro _ h1 ⟨rfl, A1, C1, len1, S1, c1, hl1, hl2, hl3, a1, ff1, R1⟩
  obtain ⟨V1, g1, hV1, v01, v11, k1, hll1, hg1⟩ := R1
  rw [show A b = A1 b from (a1 b (by omega)).symm]
  dsimp only [Option.toList, List.drop, List.cons_append, List.nil_append]
  have hlen1 : len1 ≤ 100000 := by omega
  refine Wp.iconst (v := (nI 4)) dX5_put_10 (by decide) rfl ?_
  refine Wp.aload_n dX5_put_11 rfl (by first | exact Or.inr ⟨_, rfl⟩ | exact Or.inl rfl) rfl ?_
  refine Wp.get dX5_put_12 fl_X5_13 (S1.at hV1) v11 rfl ?_
  refine Wp.imul dX5_put_15 rfl ?_
  rw [pk_mul]
  refine Wp.istore dX5_put_16 (Nat.le_of_ble_eq_true rfl) (by dsimp only [ev_st1, ev_st2, ev_cl] <;> rfl) rfl ?_
  refine Wp.aload_n dX5_put_18 rfl (by first | exact Or.inr ⟨_, rfl⟩ | exact Or.inl rfl) rfl ?_
  refine Wp.get dX5_put_19 fl_X5_9 (S1.at hV1) v01 rfl ?_
  refine Wp.iload dX5_put_22 rfl rfl ?_
  refine Wp.iconst (v := (nI 0)) dX5_put_24 (by decide) rfl ?_
  refine Wp.iadd dX5_put_25 rfl ?_
  rw [nI_add]
  refine Wp.lload_n dX5_put_26 rfl rfl ?_
  refine Wp.lload_n dX5_put_27 rfl rfl ?_
  refine Wp.iconst (v := (nI 0)) dX5_put_28 (by decide) rfl ?_
  refine Wp.cSN dX5_put_29 cs_X5_25 rfl (by omega) rfl (Nat.le_of_ble_eq_true rfl) (Nat.le_of_ble_eq_true rfl) rfl (c_X11_lowest (d := d - 1) (sm_b (by omega) (by omega)) (sm_b (by omega) (by omega)) (by omega) (by omega)) ?_
  rintro _ h_ ⟨rfl, e_⟩
  rw [e_]
  clear e_ h_
  dsimp only [Option.toList, List.drop, List.cons_append, List.nil_append]
  rw [show decide ((nI 0 : Int32) = 0) = true from by decide]
  refine Wp.l2i dX5_put_32 rfl ?_
  rw [lI_i (by omega) (by omega)]
  refine Wp.iastore dX5_put_33 (S1.at k1) (nI_toInt (by omega)) (by omega) rfl ?_
  refine S1.sti k1 ?_
  intro h33 C33 g33 S33 o33 e33 u33 f33
  refine Wp.aload_n dX5_put_34 rfl (by first | exact Or.inr ⟨_, rfl⟩ | exact Or.inl rfl) rfl ?_
  refine Wp.get dX5_put_35 fl_X5_9 (S33.at ((f33 (b) (by omega)).trans hV1)) v01 rfl ?_
  refine Wp.iload dX5_put_38 rfl rfl ?_
  refine Wp.iconst (v := (nI 1)) dX5_put_40 (by decide) rfl ?_
  refine Wp.iadd dX5_put_41 rfl ?_
  rw [nI_add]
  refine Wp.lload_n dX5_put_42 rfl rfl ?_
  refine Wp.lload_n dX5_put_43 rfl rfl ?_
  refine Wp.iconst (v := (nI 1)) dX5_put_44 (by decide) rfl ?_
  refine Wp.cSN dX5_put_45 cs_X5_25 rfl (by omega) rfl (Nat.le_of_ble_eq_true rfl) (Nat.le_of_ble_eq_true rfl) rfl (c_X11_lowest (d := d - 1) (sm_b (by omega) (by omega)) (sm_b (by omega) (by omega)) (by omega) (by omega)) ?_
  rintro _ h_ ⟨rfl, e_⟩
  rw [e_]
  clear e_ h_
  dsimp only [Option.toList, List.drop, List.cons_append, List.nil_append]
  rw [show decide ((nI 1 : Int32) = 0) = false from by decide]
  refine Wp.l2i dX5_put_48 rfl ?_
  rw [lI_i (by omega) (by omega)]
  refine Wp.iastore dX5_put_49 (S33.at e33) (nI_toInt (by omega)) (by omega) rfl ?_
  refine S33.sti e33 ?_
  intro h49 C49 g49 S49 o49 e49 u49 f49
  have o49 := o33.tr o49
  refine Wp.aload_n dX5_put_50 rfl (by first | exact Or.inr ⟨_, rfl⟩ | exact Or.inl rfl) rfl ?_
  refine Wp.get dX5_put_51 fl_X5_9 (S49.at ((f49 (b) (by omega)).trans ((f33 (b) (by omega)).trans hV1))) v01 rfl ?_
  refine Wp.iload dX5_put_54 rfl rfl ?_
  refine Wp.iconst (v := (nI 2)) dX5_put_56 (by decide) rfl ?_
  refine Wp.iadd dX5_put_57 rfl ?_
  rw [nI_add]
  refine Wp.iload dX5_put_58 rfl rfl ?_
  refine Wp.iastore dX5_put_60 (S49.at e49) (nI_toInt (by omega)) (by omega) rfl ?_
  refine S49.sti e49 ?_
  intro h60 C60 g60 S60 o60 e60 u60 f60
  have o60 := o49.tr o60
  refine Wp.aload_n dX5_put_61 rfl (by first | exact Or.inr ⟨_, rfl⟩ | exact Or.inl rfl) rfl ?_
  refine Wp.get dX5_put_62 fl_X5_9 (S60.at ((f60 (b) (by omega)).trans ((f49 (b) (by omega)).trans ((f33 (b) (by omega)).trans hV1)))) v01 rfl ?_
  refine Wp.iload dX5_put_65 rfl rfl ?_
  refine Wp.iconst (v := (nI 3)) dX5_put_67 (by decide) rfl ?_
  refine Wp.iadd dX5_put_68 rfl ?_
  rw [nI_add]
  refine Wp.iload dX5_put_69 rfl rfl ?_
  refine Wp.iastore dX5_put_71 (S60.at e60) (nI_toInt (by omega)) (by omega) rfl ?_
  refine S60.sti e60 ?_
  intro h71 C71 g71 S71 o71 e71 u71 f71
  have o71 := o60.tr o71
  refine Wp.aload_n dX5_put_72 rfl (by first | exact Or.inr ⟨_, rfl⟩ | exact Or.inl rfl) rfl ?_
  refine Wp.dup dX5_put_73 rfl rfl ?_
  refine Wp.get dX5_put_74 fl_X5_13 (S71.at ((f71 (b) (by omega)).trans ((f60 (b) (by omega)).trans ((f49 (b) (by omega)).trans ((f33 (b) (by omega)).trans hV1))))) v11 rfl ?_
  refine Wp.iconst (v := (nI 1)) dX5_put_77 (by decide) rfl ?_
  refine Wp.iadd dX5_put_78 rfl ?_
  rw [nI_add1]
  refine Wp.put dX5_put_79 fp_X5_13 (S71.at ((f71 (b) (by omega)).trans ((f60 (b) (by omega)).trans ((f49 (b) (by omega)).trans ((f33 (b) (by omega)).trans hV1))))) rfl rfl rfl ?_
  refine S71.put ((f71 (b) (by omega)).trans ((f60 (b) (by omega)).trans ((f49 (b) (by omega)).trans ((f33 (b) (by omega)).trans hV1)))) ?_
  intro h79 C79 V79 S79 o79 e79 w79 x79 f79
  have o79 := o71.tr o79
  exact Wp.vret dX5_put_82 rfl (by
    refine ⟨rfl, A1, _, len1, S79, (c1.tr o79).le (by omega), hl1, hl2, a1, fun t h1 h2 => (f79 t h1).trans ((f71 t h2).trans ((f60 t h2).trans ((f49 t h2).trans ((f33 t h2).trans (ff1 t h1 h2))))), _, _, e79, ((x79 0 (by decide)).trans v01), w79, ((f79 (b + 1) (by omega)).trans e71), by omega, fun t k h1 h2 => ?_⟩
    rw [u71, u60, u49, u33]
    simp only [upd]
    by_cases e : t = n
    · subst e
      have hk : k = 0 ∨ k = 1 ∨ k = 2 ∨ k = 3 := by omega
      rcases hk with rfl | rfl | rfl | rfl
      · rw [if_neg (by omega), if_neg (by omega), if_neg (by omega), if_pos (by omega)]; simp
      · rw [if_neg (by omega), if_neg (by omega), if_pos (by omega)]; simp
      · rw [if_neg (by omega), if_pos (by omega), nI_iI]; simp
      · rw [if_pos (by omega), nI_iI]; simp
    · rw [if_neg (by omega), if_neg (by omega), if_neg (by omega), if_neg (by omega), if_neg e]; exact hg1 t k (by omega) h2)
set_option maxHeartbeats 1000000 in
theorem c_X5_becomeLike {B : ev_B} {d b n len : Nat} {X : Nat → Prop} {h : ev_H} {A : Nat → Nat} {C : Nat → Option ev_E} {rv : Nat → Nat → Int} {e n2 len2 : Nat} {rv2 : Nat → Nat → Int} (hS : CS X h A C) (hR : RowS A C b n rv len) (hn : n ≤ 500) (hlen : len ≤ 100000) (hR2 : RowS A C e n2 rv2 len2) (hn2 : n2 ≤ 500) (he : e + 1 < b ∨ b + 1 < e) (hd : 3 ≤ d) :
    Wp B d M_X5_becomeLike 0 [some (.ref (A b)), some (.ref (A e))] [] h (fun v_ h' => v_ = none ∧ ∃ A' C' len', CS X h' A' C' ∧ CG X h h' (3 * (len' - len)) ∧ len ≤ len' ∧ (len' = len ∨ len' = 8 * n2) ∧ (∀ t, t ≠ b + 1 → A' t = A t) ∧ (∀ t, t ≠ b → t ≠ b + 1 → C' t = C t) ∧ RowS A' C' b n2 rv2 len') := by
  obtain ⟨V, g, hV, v0, v1, k0, hl, hg⟩ := id hR
  obtain ⟨V2, g2, hV2, v02, v12, k2, hll2, hg2⟩ := id hR2
  refine Wp.aload_n dX5_becomeLike_0 rfl (by first | exact Or.inr ⟨_, rfl⟩ | exact Or.inl rfl) rfl ?_
  refine Wp.aload_n dX5_becomeLike_1 rfl (by first | exact Or.inr ⟨_, rfl⟩ | exact Or.inl rfl) rfl ?_
  refine Wp.get dX5_becomeLike_2 fl_X5_13 (hS.at hV2) v12 rfl ?_
  refine Wp.cV dX5_becomeLike_5 cv_X5_21 rfl (by omega) rfl (Nat.le_of_ble_eq_true rfl) (Nat.le_of_ble_eq_true rfl) (hS.at hV) rfl (c_X5_makeRoomFor (d := d - 1) (m := n2) hS hR hn hlen (by omega) (by omega)) ?_
  rintro _ h1 ⟨rfl, A1, C1, len1, S1, c1, hl1, hl2, hl3, a1, ff1, R1⟩
  obtain ⟨V1, g1, hV1, v01, v11, k1, hll1, hg1⟩ := R1
  have hV2 := (ff1 e (by omega) (by omega)).trans hV2
  have k2 := (ff1 (e + 1) (by omega) (by omega)).trans k2
  have v02 : V2 0 = .ref (A1 (e + 1)) := by rw [a1 (e + 1) (by omega)]; exact v02
  rw [show A b = A1 b from (a1 b (by omega)).symm, show A e = A1 e from (a1 e (by omega)).symm]
  dsimp only [Option.toList, List.drop, List.cons_append, List.nil_append]
  refine Wp.aload_n dX5_becomeLike_8 rfl (by first | exact Or.inr ⟨_, rfl⟩ | exact Or.inl rfl) rfl ?_
  refine Wp.aload_n dX5_becomeLike_9 rfl (by first | exact Or.inr ⟨_, rfl⟩ | exact Or.inl rfl) rfl ?_
  refine Wp.get dX5_becomeLike_10 fl_X5_13 (S1.at hV2) v12 rfl ?_
  refine Wp.put dX5_becomeLike_13 fp_X5_13 (S1.at hV1) rfl rfl rfl ?_
  refine S1.put hV1 ?_
  intro h13 C13 V13 S13 o13 e13 w13 x13 f13
  refine Wp.aload_n dX5_becomeLike_16 rfl (by first | exact Or.inr ⟨_, rfl⟩ | exact Or.inl rfl) rfl ?_
  refine Wp.get dX5_becomeLike_17 fl_X5_9 (S13.at ((f13 (e) (by omega)).trans hV2)) v02 rfl ?_
  refine Wp.iconst (v := (nI 0)) dX5_becomeLike_20 (by decide) rfl ?_
  refine Wp.aload_n dX5_becomeLike_21 rfl (by first | exact Or.inr ⟨_, rfl⟩ | exact Or.inl rfl) rfl ?_
  refine Wp.get dX5_becomeLike_22 fl_X5_9 (S13.at e13) ((x13 0 (by decide)).trans v01) rfl ?_
  refine Wp.iconst (v := (nI 0)) dX5_becomeLike_25 (by decide) rfl ?_
  refine Wp.iconst (v := (nI 4)) dX5_becomeLike_26 (by decide) rfl ?_
  refine Wp.aload_n dX5_becomeLike_27 rfl (by first | exact Or.inr ⟨_, rfl⟩ | exact Or.inl rfl) rfl ?_
  refine Wp.get dX5_becomeLike_28 fl_X5_13 (S13.at e13) w13 rfl ?_
  refine Wp.imul dX5_becomeLike_31 rfl ?_
  rw [pk_mul]
  refine Wp.copyi dX5_becomeLike_32 al_X5_31 (by omega) (N0 := len2) (N1 := len1) (x := 0) (y := 0) (z := 4 * n2) (S13.at ((f13 (e + 1) (by omega)).trans k2)) (S13.at ((f13 (b + 1) (by omega)).trans k1)) (by decide) (by decide) (nI_toInt (by omega)) (by omega) (by omega) (Nat.le_of_ble_eq_true rfl) rfl ?_
  refine S13.set ((f13 (b + 1) (by omega)).trans k1) ?_
  intro h3 C3 S3 o3 e3 f3
  exact Wp.vret dX5_becomeLike_35 rfl (by
    refine ⟨rfl, A1, C3, len1, S3, ((c1.tr o13).tr o3).le (by omega), hl1, hl2, a1, fun t h1 h2 => (f3 t h2).trans ((f13 t h1).trans (ff1 t h1 h2)), _, _, (f3 b (by omega)).trans e13, (x13 0 (by decide)).trans v01, w13, e3, by omega, fun t k h1 h2 => ?_⟩
    rw [pk_cpy_in (Nat.zero_le _) (by omega)]
    simp only [Nat.zero_add, Nat.sub_zero]
    exact hg2 t k h1 h2)
theorem c_X5_clear {B : ev_B} {d b n len : Nat} {X : Nat → Prop} {h : ev_H} {A : Nat → Nat} {C : Nat → Option ev_E} {rv : Nat → Nat → Int} (hS : CS X h A C) (hR : RowS A C b n rv len) (hn : n ≤ 500) (hlen : len ≤ 100000)  :
    Wp B d M_X5_clear 0 [some (.ref (A b))] [] h (fun v_ h' => v_ = none ∧ ∃ C', CS X h' A C' ∧ CG X h h' 0 ∧ (∀ t, t ≠ b → C' t = C t) ∧ RowS A C' b 0 rv len) := by
  obtain ⟨V, g, hV, v0, v1, k0, hl, hg⟩ := id hR
  refine Wp.aload_n dX5_clear_0 rfl (by first | exact Or.inr ⟨_, rfl⟩ | exact Or.inl rfl) rfl ?_
  refine Wp.iconst (v := (nI 0)) dX5_clear_1 (by decide) rfl ?_
  refine Wp.put dX5_clear_2 fp_X5_13 (hS.at hV) rfl rfl rfl ?_
  refine hS.put hV ?_
  intro h2 C2 V2 S2 o2 e2 w2 x2 f2
  exact Wp.vret dX5_clear_5 rfl (by exact ⟨rfl, _, S2, o2, f2, _, _, e2, (x2 0 (by decide)).trans v0, w2, (f2 _ (by omega)).trans k0, by omega, fun t k h1 => absurd h1 (Nat.not_lt_zero t)⟩)
theorem isN_no {S R : Nat → Int} {c i : Nat} : ∀ n, i < n → R c - R i = 0 → S i - S c < 0 → isN S R c n = false
  | 0, h, _, _ => by omega
  | n + 1, h, h1, h2 => by
    simp only [isN, Bool.and_eq_false_iff]
    rcases Nat.lt_or_ge i n with g | g
    · exact Or.inl (isN_no n g h1 h2)
    · have e : i = n := by omega
      subst e
      exact Or.inr (decide_eq_false (by omega))
set_option maxHeartbeats 2000000 in
theorem c_X1_findSpan {B : ev_B} {d a n f c_ : Nat} {h : ev_H} {c : Nat → Nat} {S R : Nat → Int} {z : Nat → Int64} (hC : ChoH h a n c S R) (hB : PrB n S R) (hf : h.1 f = some (ev_la 5 z)) (hc : c_ < n) (hd : 2 ≤ d) :
    Wp B d M_X1_findSpan 0 [some (.ref a), some (.int (nI c_)), some (.ref f), none, none, none, none, none, none, none, none, none, none, none, none, none] [] h (fun v h' => v = some (.int (bI (spB S R c_ n))) ∧ ∃ z', h' = ev_up h f (ev_la 5 z') ∧ (spB S R c_ n = true → z' 1 = lI (low true (loN S R c_ n).1 (loN S R c_ n).2) ∧ z' 2 = lI (low false (loN S R c_ n).1 (loN S R c_ n).2) ∧ z' 3 = lI (low true (hiN S R c_ n).1 (hiN S R c_ n).2) ∧ z' 4 = lI (low false (hiN S R c_ n).1 (hiN S R c_ n).2))) := by
  obtain ⟨V, a0, a1, a2, cap, g0, g1, g2, hV, v0, v1, v2, v3, k0, k1, k2, hcap, hg⟩ := id hC
  have hn4 := hB.1
  have hbb := hB.2
  have loop : ∀ i, i ≤ n → isN S R c_ i = true → ∀ j12 j13 j14 j15 : Option Value, Wp B d M_X1_findSpan 14 [some (.ref a), some (.int (nI c_)), some (.ref f), some (.long (lI (loN S R c_ i).1)), none, some (.long (lI (loN S R c_ i).2)), none, some (.long (lI (hiN S R c_ i).1)), none, some (.long (lI (hiN S R c_ i).2)), none, some (.int (nI i)), j12, j13, j14, j15] [] h (fun v h' => v = some (.int (bI (spB S R c_ n))) ∧ ∃ z', h' = ev_up h f (ev_la 5 z') ∧ (spB S R c_ n = true → z' 1 = lI (low true (loN S R c_ n).1 (loN S R c_ n).2) ∧ z' 2 = lI (low false (loN S R c_ n).1 (loN S R c_ n).2) ∧ z' 3 = lI (low true (hiN S R c_ n).1 (hiN S R c_ n).2) ∧ z' 4 = lI (low false (hiN S R c_ n).1 (hiN S R c_ n).2))) := by
    refine ev_upl n (fun i hi ih => ?_) ?_
    · intro his j12 j13 j14 j15
      have hgi := hg i hi
      have hgc := hg c_ hc
      have hbi := hbb i hi
      have hbc := hbb c_ hc
      have hlo := loN_b hB hc i (Nat.le_of_lt hi)
      have hhi := hiN_b hB hc i (Nat.le_of_lt hi)
      have m1 := mulb (a := S i - S c_) (b := (hiN S R c_ i).2) (A := 2400) (C := 480) (by omega) (by omega)
      have m2 := mulb (a := (hiN S R c_ i).1) (b := R c_ - R i) (A := 2400) (C := 480) (by omega) (by omega)
      have m3 := mulb (a := (loN S R c_ i).1) (b := -(R c_ - R i)) (A := 2400) (C := 480) (by omega) (by omega)
      have m4 := mulb (a := -(S i - S c_)) (b := (loN S R c_ i).2) (A := 2400) (C := 480) (by omega) (by omega)
      have n3 : (loN S R c_ i).1 * -(R c_ - R i) = -((loN S R c_ i).1 * (R c_ - R i)) := Int.mul_neg _ _
      have n4 : -(S i - S c_) * (loN S R c_ i).2 = -((S i - S c_) * (loN S R c_ i).2) := Int.neg_mul _ _
      refine Wp.iload dX1_findSpan_14 rfl rfl ?_
      refine Wp.aload_n dX1_findSpan_16 rfl (by first | exact Or.inr ⟨_, rfl⟩ | exact Or.inl rfl) rfl ?_
      refine Wp.get dX1_findSpan_17 fl_X1_21 hV v3 rfl ?_
      refine Wp.icmp_ge (tgt := 153) (n := 23) dX1_findSpan_20 (by decide) rfl (fun c_20 => ?_) (fun c_20 => ?_)
      · try simp (disch := omega) only [nI_bit0, nI_bit1, Bool.not_eq_false, Bool.not_eq_true] at c_20
        try simp (disch := omega) only [i_lt, i_le, i_eq, l_lt, l_le, l_eq, i_0, i_m1, l_0, nI_tI, iI_tI, lI_tI, Int.not_lt, Int.not_le] at c_20
        omega
      · try simp (disch := omega) only [nI_bit0, nI_bit1, Bool.not_eq_false, Bool.not_eq_true] at c_20
        try simp (disch := omega) only [i_lt, i_le, i_eq, l_lt, l_le, l_eq, i_0, i_m1, l_0, nI_tI, iI_tI, lI_tI, Int.not_lt, Int.not_le] at c_20
        refine Wp.aload_n dX1_findSpan_23 rfl (by first | exact Or.inr ⟨_, rfl⟩ | exact Or.inl rfl) rfl ?_
        refine Wp.get dX1_findSpan_24 fl_X1_18 hV v2 rfl ?_
        refine Wp.iload_n dX1_findSpan_27 rfl rfl ?_
        refine Wp.iaload dX1_findSpan_28 k2 (nI_toInt (by omega)) (by omega) rfl ?_
        rw [hgc.2.2]
        refine Wp.aload_n dX1_findSpan_29 rfl (by first | exact Or.inr ⟨_, rfl⟩ | exact Or.inl rfl) rfl ?_
        refine Wp.get dX1_findSpan_30 fl_X1_18 hV v2 rfl ?_
        refine Wp.iload dX1_findSpan_33 rfl rfl ?_
        refine Wp.iaload dX1_findSpan_35 k2 (nI_toInt (by omega)) (by omega) rfl ?_
        rw [hgi.2.2]
        refine Wp.isub dX1_findSpan_36 rfl ?_
        rw [iI_sub]
        refine Wp.i2l dX1_findSpan_37 rfl ?_
        rw [iI_l (by omega) (by omega)]
        refine Wp.lstore dX1_findSpan_38 (Nat.le_of_ble_eq_true rfl) (by dsimp only [ev_st1, ev_st2, ev_cl] <;> rfl) rfl ?_
        refine Wp.aload_n dX1_findSpan_40 rfl (by first | exact Or.inr ⟨_, rfl⟩ | exact Or.inl rfl) rfl ?_
        refine Wp.get dX1_findSpan_41 fl_X1_15 hV v1 rfl ?_
        refine Wp.iload dX1_findSpan_44 rfl rfl ?_
        refine Wp.iaload dX1_findSpan_46 k1 (nI_toInt (by omega)) (by omega) rfl ?_
        rw [hgi.2.1]
        refine Wp.aload_n dX1_findSpan_47 rfl (by first | exact Or.inr ⟨_, rfl⟩ | exact Or.inl rfl) rfl ?_
        refine Wp.get dX1_findSpan_48 fl_X1_15 hV v1 rfl ?_
        refine Wp.iload_n dX1_findSpan_51 rfl rfl ?_
        refine Wp.iaload dX1_findSpan_52 k1 (nI_toInt (by omega)) (by omega) rfl ?_
        rw [hgc.2.1]
        refine Wp.isub dX1_findSpan_53 rfl ?_
        rw [iI_sub]
        refine Wp.i2l dX1_findSpan_54 rfl ?_
        rw [iI_l (by omega) (by omega)]
        refine Wp.lstore dX1_findSpan_55 (Nat.le_of_ble_eq_true rfl) (by dsimp only [ev_st1, ev_st2, ev_cl] <;> rfl) rfl ?_
        refine Wp.lload dX1_findSpan_57 rfl rfl ?_
        refine Wp.lconst (v := 0) dX1_findSpan_59 (by decide) rfl ?_
        rw [L0]
        refine Wp.lcmp_ne (tgt := 73) (n := 64) dX1_findSpan_60 rfl dX1_findSpan_61 (by decide) rfl (fun c_60 => ?_) (fun c_60 => ?_)
        · try simp (disch := omega) only [nI_bit0, nI_bit1, Bool.not_eq_false, Bool.not_eq_true] at c_60
          try simp (disch := omega) only [i_lt, i_le, i_eq, l_lt, l_le, l_eq, i_0, i_m1, l_0, nI_tI, iI_tI, lI_tI, Int.not_lt, Int.not_le] at c_60
          refine Wp.lload dX1_findSpan_73 rfl rfl ?_
          refine Wp.lconst (v := 0) dX1_findSpan_75 (by decide) rfl ?_
          rw [L0]
          refine Wp.lcmp_le (tgt := 109) (n := 80) dX1_findSpan_76 rfl dX1_findSpan_77 (by decide) rfl (fun c_76 => ?_) (fun c_76 => ?_)
          · try simp (disch := omega) only [nI_bit0, nI_bit1, Bool.not_eq_false, Bool.not_eq_true] at c_76
            try simp (disch := omega) only [i_lt, i_le, i_eq, l_lt, l_le, l_eq, i_0, i_m1, l_0, nI_tI, iI_tI, lI_tI, Int.not_lt, Int.not_le] at c_76
            refine Wp.lload dX1_findSpan_109 rfl rfl ?_
            refine Wp.lconst (v := 0) dX1_findSpan_111 (by decide) rfl ?_
            rw [L0]
            refine Wp.lcmp_ge (tgt := 147) (n := 116) dX1_findSpan_112 rfl dX1_findSpan_113 (by decide) rfl (fun c_112 => ?_) (fun c_112 => ?_)
            · try simp (disch := omega) only [nI_bit0, nI_bit1, Bool.not_eq_false, Bool.not_eq_true] at c_112
              try simp (disch := omega) only [i_lt, i_le, i_eq, l_lt, l_le, l_eq, i_0, i_m1, l_0, nI_tI, iI_tI, lI_tI, Int.not_lt, Int.not_le] at c_112
              refine Wp.iinc (v := _ + (nI 1)) dX1_findSpan_147 rfl rfl (Nat.le_of_ble_eq_true rfl) (by dsimp only [ev_st1, ev_cl] <;> rfl) rfl ?_
              refine Wp.goto (n := 14) dX1_findSpan_150 (by decide) ?_
              rw [nI_add1]
              have hr1 : hiN S R c_ (i + 1) = if 0 < R c_ - R i ∧ ((hiN S R c_ i).2 = 0 ∨ (S i - S c_) * (hiN S R c_ i).2 < (hiN S R c_ i).1 * (R c_ - R i)) then (S i - S c_, R c_ - R i) else hiN S R c_ i := rfl
              have hr2 : loN S R c_ (i + 1) = if R c_ - R i < 0 ∧ ((loN S R c_ i).2 = 0 ∨ (S i - S c_) * (loN S R c_ i).2 < (loN S R c_ i).1 * (R c_ - R i)) then (-(S i - S c_), -(R c_ - R i)) else loN S R c_ i := rfl
              have hr3 : isN S R c_ (i + 1) = true := by
                show (isN S R c_ i && decide (R c_ - R i ≠ 0 ∨ 0 ≤ S i - S c_)) = true
                rw [his, Bool.true_and]; exact decide_eq_true (by omega)
              have ihh := ih hr3
              first
                | (exfalso; omega)
                | (rw [if_pos (by omega)] at hr1; rw [hr1] at ihh; first | (rw [if_pos (by omega)] at hr2; rw [hr2] at ihh; exact ihh _ _ _ _) | (rw [if_neg (by omega)] at hr2; rw [hr2] at ihh; exact ihh _ _ _ _))
                | (rw [if_neg (by omega)] at hr1; rw [hr1] at ihh; first | (rw [if_pos (by omega)] at hr2; rw [hr2] at ihh; exact ihh _ _ _ _) | (rw [if_neg (by omega)] at hr2; rw [hr2] at ihh; exact ihh _ _ _ _))
            · try simp (disch := omega) only [nI_bit0, nI_bit1, Bool.not_eq_false, Bool.not_eq_true] at c_112
              try simp (disch := omega) only [i_lt, i_le, i_eq, l_lt, l_le, l_eq, i_0, i_m1, l_0, nI_tI, iI_tI, lI_tI, Int.not_lt, Int.not_le] at c_112
              refine Wp.lload dX1_findSpan_116 rfl rfl ?_
              refine Wp.lconst (v := 0) dX1_findSpan_118 (by decide) rfl ?_
              rw [L0]
              refine Wp.lcmp_eq (tgt := 138) (n := 123) dX1_findSpan_119 rfl dX1_findSpan_120 (by decide) rfl (fun c_119 => ?_) (fun c_119 => ?_)
              · try simp (disch := omega) only [nI_bit0, nI_bit1, Bool.not_eq_false, Bool.not_eq_true] at c_119
                try simp (disch := omega) only [i_lt, i_le, i_eq, l_lt, l_le, l_eq, i_0, i_m1, l_0, nI_tI, iI_tI, lI_tI, Int.not_lt, Int.not_le] at c_119
                refine Wp.lload dX1_findSpan_138 rfl rfl ?_
                refine Wp.lneg dX1_findSpan_140 rfl ?_
                rw [lI_neg]
                refine Wp.lstore_n dX1_findSpan_141 (Nat.le_of_ble_eq_true rfl) (by dsimp only [ev_st1, ev_st2, ev_cl] <;> rfl) rfl ?_
                refine Wp.lload dX1_findSpan_142 rfl rfl ?_
                refine Wp.lneg dX1_findSpan_144 rfl ?_
                rw [lI_neg]
                refine Wp.lstore dX1_findSpan_145 (Nat.le_of_ble_eq_true rfl) (by dsimp only [ev_st1, ev_st2, ev_cl] <;> rfl) rfl ?_
                refine Wp.iinc (v := _ + (nI 1)) dX1_findSpan_147 rfl rfl (Nat.le_of_ble_eq_true rfl) (by dsimp only [ev_st1, ev_cl] <;> rfl) rfl ?_
                refine Wp.goto (n := 14) dX1_findSpan_150 (by decide) ?_
                rw [nI_add1]
                have hr1 : hiN S R c_ (i + 1) = if 0 < R c_ - R i ∧ ((hiN S R c_ i).2 = 0 ∨ (S i - S c_) * (hiN S R c_ i).2 < (hiN S R c_ i).1 * (R c_ - R i)) then (S i - S c_, R c_ - R i) else hiN S R c_ i := rfl
                have hr2 : loN S R c_ (i + 1) = if R c_ - R i < 0 ∧ ((loN S R c_ i).2 = 0 ∨ (S i - S c_) * (loN S R c_ i).2 < (loN S R c_ i).1 * (R c_ - R i)) then (-(S i - S c_), -(R c_ - R i)) else loN S R c_ i := rfl
                have hr3 : isN S R c_ (i + 1) = true := by
                  show (isN S R c_ i && decide (R c_ - R i ≠ 0 ∨ 0 ≤ S i - S c_)) = true
                  rw [his, Bool.true_and]; exact decide_eq_true (by omega)
                have ihh := ih hr3
                first
                  | (exfalso; omega)
                  | (rw [if_pos (by omega)] at hr1; rw [hr1] at ihh; first | (rw [if_pos (by omega)] at hr2; rw [hr2] at ihh; exact ihh _ _ _ _) | (rw [if_neg (by omega)] at hr2; rw [hr2] at ihh; exact ihh _ _ _ _))
                  | (rw [if_neg (by omega)] at hr1; rw [hr1] at ihh; first | (rw [if_pos (by omega)] at hr2; rw [hr2] at ihh; exact ihh _ _ _ _) | (rw [if_neg (by omega)] at hr2; rw [hr2] at ihh; exact ihh _ _ _ _))
              · try simp (disch := omega) only [nI_bit0, nI_bit1, Bool.not_eq_false, Bool.not_eq_true] at c_119
                try simp (disch := omega) only [i_lt, i_le, i_eq, l_lt, l_le, l_eq, i_0, i_m1, l_0, nI_tI, iI_tI, lI_tI, Int.not_lt, Int.not_le] at c_119
                refine Wp.lload_n dX1_findSpan_123 rfl rfl ?_
                refine Wp.lload dX1_findSpan_124 rfl rfl ?_
                refine Wp.lload dX1_findSpan_126 rfl rfl ?_
                refine Wp.lneg dX1_findSpan_128 rfl ?_
                rw [lI_neg]
                refine Wp.lload dX1_findSpan_129 rfl rfl ?_
                refine Wp.lneg dX1_findSpan_131 rfl ?_
                rw [lI_neg]
                refine Wp.cSN dX1_findSpan_132 cs_X1_65 rfl (by omega) rfl (Nat.le_of_ble_eq_true rfl) (Nat.le_of_ble_eq_true rfl) rfl (c_X11_isLess (d := d - 1) ⟨by omega, by omega⟩ ⟨by omega, by omega⟩) ?_
                rintro _ h_ ⟨rfl, e_⟩
                rw [e_]
                clear e_ h_
                dsimp only [Option.toList, List.drop, List.cons_append, List.nil_append]
                refine Wp.bif_eq (tgt := 147) (n := 138) dX1_findSpan_135 (by decide) rfl (fun c_135 => ?_) (fun c_135 => ?_)
                · try simp only [decide_eq_true_eq, decide_eq_false_iff_not, Bool.and_eq_true, bI_0, bI_n0] at c_135
                  refine Wp.iinc (v := _ + (nI 1)) dX1_findSpan_147 rfl rfl (Nat.le_of_ble_eq_true rfl) (by dsimp only [ev_st1, ev_cl] <;> rfl) rfl ?_
                  refine Wp.goto (n := 14) dX1_findSpan_150 (by decide) ?_
                  rw [nI_add1]
                  have hr1 : hiN S R c_ (i + 1) = if 0 < R c_ - R i ∧ ((hiN S R c_ i).2 = 0 ∨ (S i - S c_) * (hiN S R c_ i).2 < (hiN S R c_ i).1 * (R c_ - R i)) then (S i - S c_, R c_ - R i) else hiN S R c_ i := rfl
                  have hr2 : loN S R c_ (i + 1) = if R c_ - R i < 0 ∧ ((loN S R c_ i).2 = 0 ∨ (S i - S c_) * (loN S R c_ i).2 < (loN S R c_ i).1 * (R c_ - R i)) then (-(S i - S c_), -(R c_ - R i)) else loN S R c_ i := rfl
                  have hr3 : isN S R c_ (i + 1) = true := by
                    show (isN S R c_ i && decide (R c_ - R i ≠ 0 ∨ 0 ≤ S i - S c_)) = true
                    rw [his, Bool.true_and]; exact decide_eq_true (by omega)
                  have ihh := ih hr3
                  first
                    | (exfalso; omega)
                    | (rw [if_pos (by omega)] at hr1; rw [hr1] at ihh; first | (rw [if_pos (by omega)] at hr2; rw [hr2] at ihh; exact ihh _ _ _ _) | (rw [if_neg (by omega)] at hr2; rw [hr2] at ihh; exact ihh _ _ _ _))
                    | (rw [if_neg (by omega)] at hr1; rw [hr1] at ihh; first | (rw [if_pos (by omega)] at hr2; rw [hr2] at ihh; exact ihh _ _ _ _) | (rw [if_neg (by omega)] at hr2; rw [hr2] at ihh; exact ihh _ _ _ _))
                · try simp only [decide_eq_true_eq, decide_eq_false_iff_not, Bool.and_eq_true, bI_0, bI_n0] at c_135
                  refine Wp.lload dX1_findSpan_138 rfl rfl ?_
                  refine Wp.lneg dX1_findSpan_140 rfl ?_
                  rw [lI_neg]
                  refine Wp.lstore_n dX1_findSpan_141 (Nat.le_of_ble_eq_true rfl) (by dsimp only [ev_st1, ev_st2, ev_cl] <;> rfl) rfl ?_
                  refine Wp.lload dX1_findSpan_142 rfl rfl ?_
                  refine Wp.lneg dX1_findSpan_144 rfl ?_
                  rw [lI_neg]
                  refine Wp.lstore dX1_findSpan_145 (Nat.le_of_ble_eq_true rfl) (by dsimp only [ev_st1, ev_st2, ev_cl] <;> rfl) rfl ?_
                  refine Wp.iinc (v := _ + (nI 1)) dX1_findSpan_147 rfl rfl (Nat.le_of_ble_eq_true rfl) (by dsimp only [ev_st1, ev_cl] <;> rfl) rfl ?_
                  refine Wp.goto (n := 14) dX1_findSpan_150 (by decide) ?_
                  rw [nI_add1]
                  have hr1 : hiN S R c_ (i + 1) = if 0 < R c_ - R i ∧ ((hiN S R c_ i).2 = 0 ∨ (S i - S c_) * (hiN S R c_ i).2 < (hiN S R c_ i).1 * (R c_ - R i)) then (S i - S c_, R c_ - R i) else hiN S R c_ i := rfl
                  have hr2 : loN S R c_ (i + 1) = if R c_ - R i < 0 ∧ ((loN S R c_ i).2 = 0 ∨ (S i - S c_) * (loN S R c_ i).2 < (loN S R c_ i).1 * (R c_ - R i)) then (-(S i - S c_), -(R c_ - R i)) else loN S R c_ i := rfl
                  have hr3 : isN S R c_ (i + 1) = true := by
                    show (isN S R c_ i && decide (R c_ - R i ≠ 0 ∨ 0 ≤ S i - S c_)) = true
                    rw [his, Bool.true_and]; exact decide_eq_true (by omega)
                  have ihh := ih hr3
                  first
                    | (exfalso; omega)
                    | (rw [if_pos (by omega)] at hr1; rw [hr1] at ihh; first | (rw [if_pos (by omega)] at hr2; rw [hr2] at ihh; exact ihh _ _ _ _) | (rw [if_neg (by omega)] at hr2; rw [hr2] at ihh; exact ihh _ _ _ _))
                    | (rw [if_neg (by omega)] at hr1; rw [hr1] at ihh; first | (rw [if_pos (by omega)] at hr2; rw [hr2] at ihh; exact ihh _ _ _ _) | (rw [if_neg (by omega)] at hr2; rw [hr2] at ihh; exact ihh _ _ _ _))
          · try simp (disch := omega) only [nI_bit0, nI_bit1, Bool.not_eq_false, Bool.not_eq_true] at c_76
            try simp (disch := omega) only [i_lt, i_le, i_eq, l_lt, l_le, l_eq, i_0, i_m1, l_0, nI_tI, iI_tI, lI_tI, Int.not_lt, Int.not_le] at c_76
            refine Wp.lload dX1_findSpan_80 rfl rfl ?_
            refine Wp.lconst (v := 0) dX1_findSpan_82 (by decide) rfl ?_
            rw [L0]
            refine Wp.lcmp_eq (tgt := 101) (n := 87) dX1_findSpan_83 rfl dX1_findSpan_84 (by decide) rfl (fun c_83 => ?_) (fun c_83 => ?_)
            · try simp (disch := omega) only [nI_bit0, nI_bit1, Bool.not_eq_false, Bool.not_eq_true] at c_83
              try simp (disch := omega) only [i_lt, i_le, i_eq, l_lt, l_le, l_eq, i_0, i_m1, l_0, nI_tI, iI_tI, lI_tI, Int.not_lt, Int.not_le] at c_83
              refine Wp.lload dX1_findSpan_101 rfl rfl ?_
              refine Wp.lstore dX1_findSpan_103 (Nat.le_of_ble_eq_true rfl) (by dsimp only [ev_st1, ev_st2, ev_cl] <;> rfl) rfl ?_
              refine Wp.lload dX1_findSpan_105 rfl rfl ?_
              refine Wp.lstore dX1_findSpan_107 (Nat.le_of_ble_eq_true rfl) (by dsimp only [ev_st1, ev_st2, ev_cl] <;> rfl) rfl ?_
              refine Wp.lload dX1_findSpan_109 rfl rfl ?_
              refine Wp.lconst (v := 0) dX1_findSpan_111 (by decide) rfl ?_
              rw [L0]
              refine Wp.lcmp_ge (tgt := 147) (n := 116) dX1_findSpan_112 rfl dX1_findSpan_113 (by decide) rfl (fun c_112 => ?_) (fun c_112 => ?_)
              · try simp (disch := omega) only [nI_bit0, nI_bit1, Bool.not_eq_false, Bool.not_eq_true] at c_112
                try simp (disch := omega) only [i_lt, i_le, i_eq, l_lt, l_le, l_eq, i_0, i_m1, l_0, nI_tI, iI_tI, lI_tI, Int.not_lt, Int.not_le] at c_112
                refine Wp.iinc (v := _ + (nI 1)) dX1_findSpan_147 rfl rfl (Nat.le_of_ble_eq_true rfl) (by dsimp only [ev_st1, ev_cl] <;> rfl) rfl ?_
                refine Wp.goto (n := 14) dX1_findSpan_150 (by decide) ?_
                rw [nI_add1]
                have hr1 : hiN S R c_ (i + 1) = if 0 < R c_ - R i ∧ ((hiN S R c_ i).2 = 0 ∨ (S i - S c_) * (hiN S R c_ i).2 < (hiN S R c_ i).1 * (R c_ - R i)) then (S i - S c_, R c_ - R i) else hiN S R c_ i := rfl
                have hr2 : loN S R c_ (i + 1) = if R c_ - R i < 0 ∧ ((loN S R c_ i).2 = 0 ∨ (S i - S c_) * (loN S R c_ i).2 < (loN S R c_ i).1 * (R c_ - R i)) then (-(S i - S c_), -(R c_ - R i)) else loN S R c_ i := rfl
                have hr3 : isN S R c_ (i + 1) = true := by
                  show (isN S R c_ i && decide (R c_ - R i ≠ 0 ∨ 0 ≤ S i - S c_)) = true
                  rw [his, Bool.true_and]; exact decide_eq_true (by omega)
                have ihh := ih hr3
                first
                  | (exfalso; omega)
                  | (rw [if_pos (by omega)] at hr1; rw [hr1] at ihh; first | (rw [if_pos (by omega)] at hr2; rw [hr2] at ihh; exact ihh _ _ _ _) | (rw [if_neg (by omega)] at hr2; rw [hr2] at ihh; exact ihh _ _ _ _))
                  | (rw [if_neg (by omega)] at hr1; rw [hr1] at ihh; first | (rw [if_pos (by omega)] at hr2; rw [hr2] at ihh; exact ihh _ _ _ _) | (rw [if_neg (by omega)] at hr2; rw [hr2] at ihh; exact ihh _ _ _ _))
              · try simp (disch := omega) only [nI_bit0, nI_bit1, Bool.not_eq_false, Bool.not_eq_true] at c_112
                try simp (disch := omega) only [i_lt, i_le, i_eq, l_lt, l_le, l_eq, i_0, i_m1, l_0, nI_tI, iI_tI, lI_tI, Int.not_lt, Int.not_le] at c_112
                refine Wp.lload dX1_findSpan_116 rfl rfl ?_
                refine Wp.lconst (v := 0) dX1_findSpan_118 (by decide) rfl ?_
                rw [L0]
                refine Wp.lcmp_eq (tgt := 138) (n := 123) dX1_findSpan_119 rfl dX1_findSpan_120 (by decide) rfl (fun c_119 => ?_) (fun c_119 => ?_)
                · try simp (disch := omega) only [nI_bit0, nI_bit1, Bool.not_eq_false, Bool.not_eq_true] at c_119
                  try simp (disch := omega) only [i_lt, i_le, i_eq, l_lt, l_le, l_eq, i_0, i_m1, l_0, nI_tI, iI_tI, lI_tI, Int.not_lt, Int.not_le] at c_119
                  refine Wp.lload dX1_findSpan_138 rfl rfl ?_
                  refine Wp.lneg dX1_findSpan_140 rfl ?_
                  rw [lI_neg]
                  refine Wp.lstore_n dX1_findSpan_141 (Nat.le_of_ble_eq_true rfl) (by dsimp only [ev_st1, ev_st2, ev_cl] <;> rfl) rfl ?_
                  refine Wp.lload dX1_findSpan_142 rfl rfl ?_
                  refine Wp.lneg dX1_findSpan_144 rfl ?_
                  rw [lI_neg]
                  refine Wp.lstore dX1_findSpan_145 (Nat.le_of_ble_eq_true rfl) (by dsimp only [ev_st1, ev_st2, ev_cl] <;> rfl) rfl ?_
                  refine Wp.iinc (v := _ + (nI 1)) dX1_findSpan_147 rfl rfl (Nat.le_of_ble_eq_true rfl) (by dsimp only [ev_st1, ev_cl] <;> rfl) rfl ?_
                  refine Wp.goto (n := 14) dX1_findSpan_150 (by decide) ?_
                  rw [nI_add1]
                  have hr1 : hiN S R c_ (i + 1) = if 0 < R c_ - R i ∧ ((hiN S R c_ i).2 = 0 ∨ (S i - S c_) * (hiN S R c_ i).2 < (hiN S R c_ i).1 * (R c_ - R i)) then (S i - S c_, R c_ - R i) else hiN S R c_ i := rfl
                  have hr2 : loN S R c_ (i + 1) = if R c_ - R i < 0 ∧ ((loN S R c_ i).2 = 0 ∨ (S i - S c_) * (loN S R c_ i).2 < (loN S R c_ i).1 * (R c_ - R i)) then (-(S i - S c_), -(R c_ - R i)) else loN S R c_ i := rfl
                  have hr3 : isN S R c_ (i + 1) = true := by
                    show (isN S R c_ i && decide (R c_ - R i ≠ 0 ∨ 0 ≤ S i - S c_)) = true
                    rw [his, Bool.true_and]; exact decide_eq_true (by omega)
                  have ihh := ih hr3
                  first
                    | (exfalso; omega)
                    | (rw [if_pos (by omega)] at hr1; rw [hr1] at ihh; first | (rw [if_pos (by omega)] at hr2; rw [hr2] at ihh; exact ihh _ _ _ _) | (rw [if_neg (by omega)] at hr2; rw [hr2] at ihh; exact ihh _ _ _ _))
                    | (rw [if_neg (by omega)] at hr1; rw [hr1] at ihh; first | (rw [if_pos (by omega)] at hr2; rw [hr2] at ihh; exact ihh _ _ _ _) | (rw [if_neg (by omega)] at hr2; rw [hr2] at ihh; exact ihh _ _ _ _))
                · try simp (disch := omega) only [nI_bit0, nI_bit1, Bool.not_eq_false, Bool.not_eq_true] at c_119
                  try simp (disch := omega) only [i_lt, i_le, i_eq, l_lt, l_le, l_eq, i_0, i_m1, l_0, nI_tI, iI_tI, lI_tI, Int.not_lt, Int.not_le] at c_119
                  refine Wp.lload_n dX1_findSpan_123 rfl rfl ?_
                  refine Wp.lload dX1_findSpan_124 rfl rfl ?_
                  refine Wp.lload dX1_findSpan_126 rfl rfl ?_
                  refine Wp.lneg dX1_findSpan_128 rfl ?_
                  rw [lI_neg]
                  refine Wp.lload dX1_findSpan_129 rfl rfl ?_
                  refine Wp.lneg dX1_findSpan_131 rfl ?_
                  rw [lI_neg]
                  refine Wp.cSN dX1_findSpan_132 cs_X1_65 rfl (by omega) rfl (Nat.le_of_ble_eq_true rfl) (Nat.le_of_ble_eq_true rfl) rfl (c_X11_isLess (d := d - 1) ⟨by omega, by omega⟩ ⟨by omega, by omega⟩) ?_
                  rintro _ h_ ⟨rfl, e_⟩
                  rw [e_]
                  clear e_ h_
                  dsimp only [Option.toList, List.drop, List.cons_append, List.nil_append]
                  refine Wp.bif_eq (tgt := 147) (n := 138) dX1_findSpan_135 (by decide) rfl (fun c_135 => ?_) (fun c_135 => ?_)
                  · try simp only [decide_eq_true_eq, decide_eq_false_iff_not, Bool.and_eq_true, bI_0, bI_n0] at c_135
                    refine Wp.iinc (v := _ + (nI 1)) dX1_findSpan_147 rfl rfl (Nat.le_of_ble_eq_true rfl) (by dsimp only [ev_st1, ev_cl] <;> rfl) rfl ?_
                    refine Wp.goto (n := 14) dX1_findSpan_150 (by decide) ?_
                    rw [nI_add1]
                    have hr1 : hiN S R c_ (i + 1) = if 0 < R c_ - R i ∧ ((hiN S R c_ i).2 = 0 ∨ (S i - S c_) * (hiN S R c_ i).2 < (hiN S R c_ i).1 * (R c_ - R i)) then (S i - S c_, R c_ - R i) else hiN S R c_ i := rfl
                    have hr2 : loN S R c_ (i + 1) = if R c_ - R i < 0 ∧ ((loN S R c_ i).2 = 0 ∨ (S i - S c_) * (loN S R c_ i).2 < (loN S R c_ i).1 * (R c_ - R i)) then (-(S i - S c_), -(R c_ - R i)) else loN S R c_ i := rfl
                    have hr3 : isN S R c_ (i + 1) = true := by
                      show (isN S R c_ i && decide (R c_ - R i ≠ 0 ∨ 0 ≤ S i - S c_)) = true
                      rw [his, Bool.true_and]; exact decide_eq_true (by omega)
                    have ihh := ih hr3
                    first
                      | (exfalso; omega)
                      | (rw [if_pos (by omega)] at hr1; rw [hr1] at ihh; first | (rw [if_pos (by omega)] at hr2; rw [hr2] at ihh; exact ihh _ _ _ _) | (rw [if_neg (by omega)] at hr2; rw [hr2] at ihh; exact ihh _ _ _ _))
                      | (rw [if_neg (by omega)] at hr1; rw [hr1] at ihh; first | (rw [if_pos (by omega)] at hr2; rw [hr2] at ihh; exact ihh _ _ _ _) | (rw [if_neg (by omega)] at hr2; rw [hr2] at ihh; exact ihh _ _ _ _))
                  · try simp only [decide_eq_true_eq, decide_eq_false_iff_not, Bool.and_eq_true, bI_0, bI_n0] at c_135
                    refine Wp.lload dX1_findSpan_138 rfl rfl ?_
                    refine Wp.lneg dX1_findSpan_140 rfl ?_
                    rw [lI_neg]
                    refine Wp.lstore_n dX1_findSpan_141 (Nat.le_of_ble_eq_true rfl) (by dsimp only [ev_st1, ev_st2, ev_cl] <;> rfl) rfl ?_
                    refine Wp.lload dX1_findSpan_142 rfl rfl ?_
                    refine Wp.lneg dX1_findSpan_144 rfl ?_
                    rw [lI_neg]
                    refine Wp.lstore dX1_findSpan_145 (Nat.le_of_ble_eq_true rfl) (by dsimp only [ev_st1, ev_st2, ev_cl] <;> rfl) rfl ?_
                    refine Wp.iinc (v := _ + (nI 1)) dX1_findSpan_147 rfl rfl (Nat.le_of_ble_eq_true rfl) (by dsimp only [ev_st1, ev_cl] <;> rfl) rfl ?_
                    refine Wp.goto (n := 14) dX1_findSpan_150 (by decide) ?_
                    rw [nI_add1]
                    have hr1 : hiN S R c_ (i + 1) = if 0 < R c_ - R i ∧ ((hiN S R c_ i).2 = 0 ∨ (S i - S c_) * (hiN S R c_ i).2 < (hiN S R c_ i).1 * (R c_ - R i)) then (S i - S c_, R c_ - R i) else hiN S R c_ i := rfl
                    have hr2 : loN S R c_ (i + 1) = if R c_ - R i < 0 ∧ ((loN S R c_ i).2 = 0 ∨ (S i - S c_) * (loN S R c_ i).2 < (loN S R c_ i).1 * (R c_ - R i)) then (-(S i - S c_), -(R c_ - R i)) else loN S R c_ i := rfl
                    have hr3 : isN S R c_ (i + 1) = true := by
                      show (isN S R c_ i && decide (R c_ - R i ≠ 0 ∨ 0 ≤ S i - S c_)) = true
                      rw [his, Bool.true_and]; exact decide_eq_true (by omega)
                    have ihh := ih hr3
                    first
                      | (exfalso; omega)
                      | (rw [if_pos (by omega)] at hr1; rw [hr1] at ihh; first | (rw [if_pos (by omega)] at hr2; rw [hr2] at ihh; exact ihh _ _ _ _) | (rw [if_neg (by omega)] at hr2; rw [hr2] at ihh; exact ihh _ _ _ _))
                      | (rw [if_neg (by omega)] at hr1; rw [hr1] at ihh; first | (rw [if_pos (by omega)] at hr2; rw [hr2] at ihh; exact ihh _ _ _ _) | (rw [if_neg (by omega)] at hr2; rw [hr2] at ihh; exact ihh _ _ _ _))
            · try simp (disch := omega) only [nI_bit0, nI_bit1, Bool.not_eq_false, Bool.not_eq_true] at c_83
              try simp (disch := omega) only [i_lt, i_le, i_eq, l_lt, l_le, l_eq, i_0, i_m1, l_0, nI_tI, iI_tI, lI_tI, Int.not_lt, Int.not_le] at c_83
              refine Wp.lload dX1_findSpan_87 rfl rfl ?_
              refine Wp.lload dX1_findSpan_89 rfl rfl ?_
              refine Wp.lload dX1_findSpan_91 rfl rfl ?_
              refine Wp.lload dX1_findSpan_93 rfl rfl ?_
              refine Wp.cSN dX1_findSpan_95 cs_X1_65 rfl (by omega) rfl (Nat.le_of_ble_eq_true rfl) (Nat.le_of_ble_eq_true rfl) rfl (c_X11_isLess (d := d - 1) ⟨by omega, by omega⟩ ⟨by omega, by omega⟩) ?_
              rintro _ h_ ⟨rfl, e_⟩
              rw [e_]
              clear e_ h_
              dsimp only [Option.toList, List.drop, List.cons_append, List.nil_append]
              refine Wp.bif_eq (tgt := 109) (n := 101) dX1_findSpan_98 (by decide) rfl (fun c_98 => ?_) (fun c_98 => ?_)
              · try simp only [decide_eq_true_eq, decide_eq_false_iff_not, Bool.and_eq_true, bI_0, bI_n0] at c_98
                refine Wp.lload dX1_findSpan_109 rfl rfl ?_
                refine Wp.lconst (v := 0) dX1_findSpan_111 (by decide) rfl ?_
                rw [L0]
                refine Wp.lcmp_ge (tgt := 147) (n := 116) dX1_findSpan_112 rfl dX1_findSpan_113 (by decide) rfl (fun c_112 => ?_) (fun c_112 => ?_)
                · try simp (disch := omega) only [nI_bit0, nI_bit1, Bool.not_eq_false, Bool.not_eq_true] at c_112
                  try simp (disch := omega) only [i_lt, i_le, i_eq, l_lt, l_le, l_eq, i_0, i_m1, l_0, nI_tI, iI_tI, lI_tI, Int.not_lt, Int.not_le] at c_112
                  refine Wp.iinc (v := _ + (nI 1)) dX1_findSpan_147 rfl rfl (Nat.le_of_ble_eq_true rfl) (by dsimp only [ev_st1, ev_cl] <;> rfl) rfl ?_
                  refine Wp.goto (n := 14) dX1_findSpan_150 (by decide) ?_
                  rw [nI_add1]
                  have hr1 : hiN S R c_ (i + 1) = if 0 < R c_ - R i ∧ ((hiN S R c_ i).2 = 0 ∨ (S i - S c_) * (hiN S R c_ i).2 < (hiN S R c_ i).1 * (R c_ - R i)) then (S i - S c_, R c_ - R i) else hiN S R c_ i := rfl
                  have hr2 : loN S R c_ (i + 1) = if R c_ - R i < 0 ∧ ((loN S R c_ i).2 = 0 ∨ (S i - S c_) * (loN S R c_ i).2 < (loN S R c_ i).1 * (R c_ - R i)) then (-(S i - S c_), -(R c_ - R i)) else loN S R c_ i := rfl
                  have hr3 : isN S R c_ (i + 1) = true := by
                    show (isN S R c_ i && decide (R c_ - R i ≠ 0 ∨ 0 ≤ S i - S c_)) = true
                    rw [his, Bool.true_and]; exact decide_eq_true (by omega)
                  have ihh := ih hr3
                  first
                    | (exfalso; omega)
                    | (rw [if_pos (by omega)] at hr1; rw [hr1] at ihh; first | (rw [if_pos (by omega)] at hr2; rw [hr2] at ihh; exact ihh _ _ _ _) | (rw [if_neg (by omega)] at hr2; rw [hr2] at ihh; exact ihh _ _ _ _))
                    | (rw [if_neg (by omega)] at hr1; rw [hr1] at ihh; first | (rw [if_pos (by omega)] at hr2; rw [hr2] at ihh; exact ihh _ _ _ _) | (rw [if_neg (by omega)] at hr2; rw [hr2] at ihh; exact ihh _ _ _ _))
                · try simp (disch := omega) only [nI_bit0, nI_bit1, Bool.not_eq_false, Bool.not_eq_true] at c_112
                  try simp (disch := omega) only [i_lt, i_le, i_eq, l_lt, l_le, l_eq, i_0, i_m1, l_0, nI_tI, iI_tI, lI_tI, Int.not_lt, Int.not_le] at c_112
                  refine Wp.lload dX1_findSpan_116 rfl rfl ?_
                  refine Wp.lconst (v := 0) dX1_findSpan_118 (by decide) rfl ?_
                  rw [L0]
                  refine Wp.lcmp_eq (tgt := 138) (n := 123) dX1_findSpan_119 rfl dX1_findSpan_120 (by decide) rfl (fun c_119 => ?_) (fun c_119 => ?_)
                  · try simp (disch := omega) only [nI_bit0, nI_bit1, Bool.not_eq_false, Bool.not_eq_true] at c_119
                    try simp (disch := omega) only [i_lt, i_le, i_eq, l_lt, l_le, l_eq, i_0, i_m1, l_0, nI_tI, iI_tI, lI_tI, Int.not_lt, Int.not_le] at c_119
                    refine Wp.lload dX1_findSpan_138 rfl rfl ?_
                    refine Wp.lneg dX1_findSpan_140 rfl ?_
                    rw [lI_neg]
                    refine Wp.lstore_n dX1_findSpan_141 (Nat.le_of_ble_eq_true rfl) (by dsimp only [ev_st1, ev_st2, ev_cl] <;> rfl) rfl ?_
                    refine Wp.lload dX1_findSpan_142 rfl rfl ?_
                    refine Wp.lneg dX1_findSpan_144 rfl ?_
                    rw [lI_neg]
                    refine Wp.lstore dX1_findSpan_145 (Nat.le_of_ble_eq_true rfl) (by dsimp only [ev_st1, ev_st2, ev_cl] <;> rfl) rfl ?_
                    refine Wp.iinc (v := _ + (nI 1)) dX1_findSpan_147 rfl rfl (Nat.le_of_ble_eq_true rfl) (by dsimp only [ev_st1, ev_cl] <;> rfl) rfl ?_
                    refine Wp.goto (n := 14) dX1_findSpan_150 (by decide) ?_
                    rw [nI_add1]
                    have hr1 : hiN S R c_ (i + 1) = if 0 < R c_ - R i ∧ ((hiN S R c_ i).2 = 0 ∨ (S i - S c_) * (hiN S R c_ i).2 < (hiN S R c_ i).1 * (R c_ - R i)) then (S i - S c_, R c_ - R i) else hiN S R c_ i := rfl
                    have hr2 : loN S R c_ (i + 1) = if R c_ - R i < 0 ∧ ((loN S R c_ i).2 = 0 ∨ (S i - S c_) * (loN S R c_ i).2 < (loN S R c_ i).1 * (R c_ - R i)) then (-(S i - S c_), -(R c_ - R i)) else loN S R c_ i := rfl
                    have hr3 : isN S R c_ (i + 1) = true := by
                      show (isN S R c_ i && decide (R c_ - R i ≠ 0 ∨ 0 ≤ S i - S c_)) = true
                      rw [his, Bool.true_and]; exact decide_eq_true (by omega)
                    have ihh := ih hr3
                    first
                      | (exfalso; omega)
                      | (rw [if_pos (by omega)] at hr1; rw [hr1] at ihh; first | (rw [if_pos (by omega)] at hr2; rw [hr2] at ihh; exact ihh _ _ _ _) | (rw [if_neg (by omega)] at hr2; rw [hr2] at ihh; exact ihh _ _ _ _))
                      | (rw [if_neg (by omega)] at hr1; rw [hr1] at ihh; first | (rw [if_pos (by omega)] at hr2; rw [hr2] at ihh; exact ihh _ _ _ _) | (rw [if_neg (by omega)] at hr2; rw [hr2] at ihh; exact ihh _ _ _ _))
                  · try simp (disch := omega) only [nI_bit0, nI_bit1, Bool.not_eq_false, Bool.not_eq_true] at c_119
                    try simp (disch := omega) only [i_lt, i_le, i_eq, l_lt, l_le, l_eq, i_0, i_m1, l_0, nI_tI, iI_tI, lI_tI, Int.not_lt, Int.not_le] at c_119
                    refine Wp.lload_n dX1_findSpan_123 rfl rfl ?_
                    refine Wp.lload dX1_findSpan_124 rfl rfl ?_
                    refine Wp.lload dX1_findSpan_126 rfl rfl ?_
                    refine Wp.lneg dX1_findSpan_128 rfl ?_
                    rw [lI_neg]
                    refine Wp.lload dX1_findSpan_129 rfl rfl ?_
                    refine Wp.lneg dX1_findSpan_131 rfl ?_
                    rw [lI_neg]
                    refine Wp.cSN dX1_findSpan_132 cs_X1_65 rfl (by omega) rfl (Nat.le_of_ble_eq_true rfl) (Nat.le_of_ble_eq_true rfl) rfl (c_X11_isLess (d := d - 1) ⟨by omega, by omega⟩ ⟨by omega, by omega⟩) ?_
                    rintro _ h_ ⟨rfl, e_⟩
                    rw [e_]
                    clear e_ h_
                    dsimp only [Option.toList, List.drop, List.cons_append, List.nil_append]
                    refine Wp.bif_eq (tgt := 147) (n := 138) dX1_findSpan_135 (by decide) rfl (fun c_135 => ?_) (fun c_135 => ?_)
                    · try simp only [decide_eq_true_eq, decide_eq_false_iff_not, Bool.and_eq_true, bI_0, bI_n0] at c_135
                      refine Wp.iinc (v := _ + (nI 1)) dX1_findSpan_147 rfl rfl (Nat.le_of_ble_eq_true rfl) (by dsimp only [ev_st1, ev_cl] <;> rfl) rfl ?_
                      refine Wp.goto (n := 14) dX1_findSpan_150 (by decide) ?_
                      rw [nI_add1]
                      have hr1 : hiN S R c_ (i + 1) = if 0 < R c_ - R i ∧ ((hiN S R c_ i).2 = 0 ∨ (S i - S c_) * (hiN S R c_ i).2 < (hiN S R c_ i).1 * (R c_ - R i)) then (S i - S c_, R c_ - R i) else hiN S R c_ i := rfl
                      have hr2 : loN S R c_ (i + 1) = if R c_ - R i < 0 ∧ ((loN S R c_ i).2 = 0 ∨ (S i - S c_) * (loN S R c_ i).2 < (loN S R c_ i).1 * (R c_ - R i)) then (-(S i - S c_), -(R c_ - R i)) else loN S R c_ i := rfl
                      have hr3 : isN S R c_ (i + 1) = true := by
                        show (isN S R c_ i && decide (R c_ - R i ≠ 0 ∨ 0 ≤ S i - S c_)) = true
                        rw [his, Bool.true_and]; exact decide_eq_true (by omega)
                      have ihh := ih hr3
                      first
                        | (exfalso; omega)
                        | (rw [if_pos (by omega)] at hr1; rw [hr1] at ihh; first | (rw [if_pos (by omega)] at hr2; rw [hr2] at ihh; exact ihh _ _ _ _) | (rw [if_neg (by omega)] at hr2; rw [hr2] at ihh; exact ihh _ _ _ _))
                        | (rw [if_neg (by omega)] at hr1; rw [hr1] at ihh; first | (rw [if_pos (by omega)] at hr2; rw [hr2] at ihh; exact ihh _ _ _ _) | (rw [if_neg (by omega)] at hr2; rw [hr2] at ihh; exact ihh _ _ _ _))
                    · try simp only [decide_eq_true_eq, decide_eq_false_iff_not, Bool.and_eq_true, bI_0, bI_n0] at c_135
                      refine Wp.lload dX1_findSpan_138 rfl rfl ?_
                      refine Wp.lneg dX1_findSpan_140 rfl ?_
                      rw [lI_neg]
                      refine Wp.lstore_n dX1_findSpan_141 (Nat.le_of_ble_eq_true rfl) (by dsimp only [ev_st1, ev_st2, ev_cl] <;> rfl) rfl ?_
                      refine Wp.lload dX1_findSpan_142 rfl rfl ?_
                      refine Wp.lneg dX1_findSpan_144 rfl ?_
                      rw [lI_neg]
                      refine Wp.lstore dX1_findSpan_145 (Nat.le_of_ble_eq_true rfl) (by dsimp only [ev_st1, ev_st2, ev_cl] <;> rfl) rfl ?_
                      refine Wp.iinc (v := _ + (nI 1)) dX1_findSpan_147 rfl rfl (Nat.le_of_ble_eq_true rfl) (by dsimp only [ev_st1, ev_cl] <;> rfl) rfl ?_
                      refine Wp.goto (n := 14) dX1_findSpan_150 (by decide) ?_
                      rw [nI_add1]
                      have hr1 : hiN S R c_ (i + 1) = if 0 < R c_ - R i ∧ ((hiN S R c_ i).2 = 0 ∨ (S i - S c_) * (hiN S R c_ i).2 < (hiN S R c_ i).1 * (R c_ - R i)) then (S i - S c_, R c_ - R i) else hiN S R c_ i := rfl
                      have hr2 : loN S R c_ (i + 1) = if R c_ - R i < 0 ∧ ((loN S R c_ i).2 = 0 ∨ (S i - S c_) * (loN S R c_ i).2 < (loN S R c_ i).1 * (R c_ - R i)) then (-(S i - S c_), -(R c_ - R i)) else loN S R c_ i := rfl
                      have hr3 : isN S R c_ (i + 1) = true := by
                        show (isN S R c_ i && decide (R c_ - R i ≠ 0 ∨ 0 ≤ S i - S c_)) = true
                        rw [his, Bool.true_and]; exact decide_eq_true (by omega)
                      have ihh := ih hr3
                      first
                        | (exfalso; omega)
                        | (rw [if_pos (by omega)] at hr1; rw [hr1] at ihh; first | (rw [if_pos (by omega)] at hr2; rw [hr2] at ihh; exact ihh _ _ _ _) | (rw [if_neg (by omega)] at hr2; rw [hr2] at ihh; exact ihh _ _ _ _))
                        | (rw [if_neg (by omega)] at hr1; rw [hr1] at ihh; first | (rw [if_pos (by omega)] at hr2; rw [hr2] at ihh; exact ihh _ _ _ _) | (rw [if_neg (by omega)] at hr2; rw [hr2] at ihh; exact ihh _ _ _ _))
              · try simp only [decide_eq_true_eq, decide_eq_false_iff_not, Bool.and_eq_true, bI_0, bI_n0] at c_98
                refine Wp.lload dX1_findSpan_101 rfl rfl ?_
                refine Wp.lstore dX1_findSpan_103 (Nat.le_of_ble_eq_true rfl) (by dsimp only [ev_st1, ev_st2, ev_cl] <;> rfl) rfl ?_
                refine Wp.lload dX1_findSpan_105 rfl rfl ?_
                refine Wp.lstore dX1_findSpan_107 (Nat.le_of_ble_eq_true rfl) (by dsimp only [ev_st1, ev_st2, ev_cl] <;> rfl) rfl ?_
                refine Wp.lload dX1_findSpan_109 rfl rfl ?_
                refine Wp.lconst (v := 0) dX1_findSpan_111 (by decide) rfl ?_
                rw [L0]
                refine Wp.lcmp_ge (tgt := 147) (n := 116) dX1_findSpan_112 rfl dX1_findSpan_113 (by decide) rfl (fun c_112 => ?_) (fun c_112 => ?_)
                · try simp (disch := omega) only [nI_bit0, nI_bit1, Bool.not_eq_false, Bool.not_eq_true] at c_112
                  try simp (disch := omega) only [i_lt, i_le, i_eq, l_lt, l_le, l_eq, i_0, i_m1, l_0, nI_tI, iI_tI, lI_tI, Int.not_lt, Int.not_le] at c_112
                  refine Wp.iinc (v := _ + (nI 1)) dX1_findSpan_147 rfl rfl (Nat.le_of_ble_eq_true rfl) (by dsimp only [ev_st1, ev_cl] <;> rfl) rfl ?_
                  refine Wp.goto (n := 14) dX1_findSpan_150 (by decide) ?_
                  rw [nI_add1]
                  have hr1 : hiN S R c_ (i + 1) = if 0 < R c_ - R i ∧ ((hiN S R c_ i).2 = 0 ∨ (S i - S c_) * (hiN S R c_ i).2 < (hiN S R c_ i).1 * (R c_ - R i)) then (S i - S c_, R c_ - R i) else hiN S R c_ i := rfl
                  have hr2 : loN S R c_ (i + 1) = if R c_ - R i < 0 ∧ ((loN S R c_ i).2 = 0 ∨ (S i - S c_) * (loN S R c_ i).2 < (loN S R c_ i).1 * (R c_ - R i)) then (-(S i - S c_), -(R c_ - R i)) else loN S R c_ i := rfl
                  have hr3 : isN S R c_ (i + 1) = true := by
                    show (isN S R c_ i && decide (R c_ - R i ≠ 0 ∨ 0 ≤ S i - S c_)) = true
                    rw [his, Bool.true_and]; exact decide_eq_true (by omega)
                  have ihh := ih hr3
                  first
                    | (exfalso; omega)
                    | (rw [if_pos (by omega)] at hr1; rw [hr1] at ihh; first | (rw [if_pos (by omega)] at hr2; rw [hr2] at ihh; exact ihh _ _ _ _) | (rw [if_neg (by omega)] at hr2; rw [hr2] at ihh; exact ihh _ _ _ _))
                    | (rw [if_neg (by omega)] at hr1; rw [hr1] at ihh; first | (rw [if_pos (by omega)] at hr2; rw [hr2] at ihh; exact ihh _ _ _ _) | (rw [if_neg (by omega)] at hr2; rw [hr2] at ihh; exact ihh _ _ _ _))
                · try simp (disch := omega) only [nI_bit0, nI_bit1, Bool.not_eq_false, Bool.not_eq_true] at c_112
                  try simp (disch := omega) only [i_lt, i_le, i_eq, l_lt, l_le, l_eq, i_0, i_m1, l_0, nI_tI, iI_tI, lI_tI, Int.not_lt, Int.not_le] at c_112
                  refine Wp.lload dX1_findSpan_116 rfl rfl ?_
                  refine Wp.lconst (v := 0) dX1_findSpan_118 (by decide) rfl ?_
                  rw [L0]
                  refine Wp.lcmp_eq (tgt := 138) (n := 123) dX1_findSpan_119 rfl dX1_findSpan_120 (by decide) rfl (fun c_119 => ?_) (fun c_119 => ?_)
                  · try simp (disch := omega) only [nI_bit0, nI_bit1, Bool.not_eq_false, Bool.not_eq_true] at c_119
                    try simp (disch := omega) only [i_lt, i_le, i_eq, l_lt, l_le, l_eq, i_0, i_m1, l_0, nI_tI, iI_tI, lI_tI, Int.not_lt, Int.not_le] at c_119
                    refine Wp.lload dX1_findSpan_138 rfl rfl ?_
                    refine Wp.lneg dX1_findSpan_140 rfl ?_
                    rw [lI_neg]
                    refine Wp.lstore_n dX1_findSpan_141 (Nat.le_of_ble_eq_true rfl) (by dsimp only [ev_st1, ev_st2, ev_cl] <;> rfl) rfl ?_
                    refine Wp.lload dX1_findSpan_142 rfl rfl ?_
                    refine Wp.lneg dX1_findSpan_144 rfl ?_
                    rw [lI_neg]
                    refine Wp.lstore dX1_findSpan_145 (Nat.le_of_ble_eq_true rfl) (by dsimp only [ev_st1, ev_st2, ev_cl] <;> rfl) rfl ?_
                    refine Wp.iinc (v := _ + (nI 1)) dX1_findSpan_147 rfl rfl (Nat.le_of_ble_eq_true rfl) (by dsimp only [ev_st1, ev_cl] <;> rfl) rfl ?_
                    refine Wp.goto (n := 14) dX1_findSpan_150 (by decide) ?_
                    rw [nI_add1]
                    have hr1 : hiN S R c_ (i + 1) = if 0 < R c_ - R i ∧ ((hiN S R c_ i).2 = 0 ∨ (S i - S c_) * (hiN S R c_ i).2 < (hiN S R c_ i).1 * (R c_ - R i)) then (S i - S c_, R c_ - R i) else hiN S R c_ i := rfl
                    have hr2 : loN S R c_ (i + 1) = if R c_ - R i < 0 ∧ ((loN S R c_ i).2 = 0 ∨ (S i - S c_) * (loN S R c_ i).2 < (loN S R c_ i).1 * (R c_ - R i)) then (-(S i - S c_), -(R c_ - R i)) else loN S R c_ i := rfl
                    have hr3 : isN S R c_ (i + 1) = true := by
                      show (isN S R c_ i && decide (R c_ - R i ≠ 0 ∨ 0 ≤ S i - S c_)) = true
                      rw [his, Bool.true_and]; exact decide_eq_true (by omega)
                    have ihh := ih hr3
                    first
                      | (exfalso; omega)
                      | (rw [if_pos (by omega)] at hr1; rw [hr1] at ihh; first | (rw [if_pos (by omega)] at hr2; rw [hr2] at ihh; exact ihh _ _ _ _) | (rw [if_neg (by omega)] at hr2; rw [hr2] at ihh; exact ihh _ _ _ _))
                      | (rw [if_neg (by omega)] at hr1; rw [hr1] at ihh; first | (rw [if_pos (by omega)] at hr2; rw [hr2] at ihh; exact ihh _ _ _ _) | (rw [if_neg (by omega)] at hr2; rw [hr2] at ihh; exact ihh _ _ _ _))
                  · try simp (disch := omega) only [nI_bit0, nI_bit1, Bool.not_eq_false, Bool.not_eq_true] at c_119
                    try simp (disch := omega) only [i_lt, i_le, i_eq, l_lt, l_le, l_eq, i_0, i_m1, l_0, nI_tI, iI_tI, lI_tI, Int.not_lt, Int.not_le] at c_119
                    refine Wp.lload_n dX1_findSpan_123 rfl rfl ?_
                    refine Wp.lload dX1_findSpan_124 rfl rfl ?_
                    refine Wp.lload dX1_findSpan_126 rfl rfl ?_
                    refine Wp.lneg dX1_findSpan_128 rfl ?_
                    rw [lI_neg]
                    refine Wp.lload dX1_findSpan_129 rfl rfl ?_
                    refine Wp.lneg dX1_findSpan_131 rfl ?_
                    rw [lI_neg]
                    refine Wp.cSN dX1_findSpan_132 cs_X1_65 rfl (by omega) rfl (Nat.le_of_ble_eq_true rfl) (Nat.le_of_ble_eq_true rfl) rfl (c_X11_isLess (d := d - 1) ⟨by omega, by omega⟩ ⟨by omega, by omega⟩) ?_
                    rintro _ h_ ⟨rfl, e_⟩
                    rw [e_]
                    clear e_ h_
                    dsimp only [Option.toList, List.drop, List.cons_append, List.nil_append]
                    refine Wp.bif_eq (tgt := 147) (n := 138) dX1_findSpan_135 (by decide) rfl (fun c_135 => ?_) (fun c_135 => ?_)
                    · try simp only [decide_eq_true_eq, decide_eq_false_iff_not, Bool.and_eq_true, bI_0, bI_n0] at c_135
                      refine Wp.iinc (v := _ + (nI 1)) dX1_findSpan_147 rfl rfl (Nat.le_of_ble_eq_true rfl) (by dsimp only [ev_st1, ev_cl] <;> rfl) rfl ?_
                      refine Wp.goto (n := 14) dX1_findSpan_150 (by decide) ?_
                      rw [nI_add1]
                      have hr1 : hiN S R c_ (i + 1) = if 0 < R c_ - R i ∧ ((hiN S R c_ i).2 = 0 ∨ (S i - S c_) * (hiN S R c_ i).2 < (hiN S R c_ i).1 * (R c_ - R i)) then (S i - S c_, R c_ - R i) else hiN S R c_ i := rfl
                      have hr2 : loN S R c_ (i + 1) = if R c_ - R i < 0 ∧ ((loN S R c_ i).2 = 0 ∨ (S i - S c_) * (loN S R c_ i).2 < (loN S R c_ i).1 * (R c_ - R i)) then (-(S i - S c_), -(R c_ - R i)) else loN S R c_ i := rfl
                      have hr3 : isN S R c_ (i + 1) = true := by
                        show (isN S R c_ i && decide (R c_ - R i ≠ 0 ∨ 0 ≤ S i - S c_)) = true
                        rw [his, Bool.true_and]; exact decide_eq_true (by omega)
                      have ihh := ih hr3
                      first
                        | (exfalso; omega)
                        | (rw [if_pos (by omega)] at hr1; rw [hr1] at ihh; first | (rw [if_pos (by omega)] at hr2; rw [hr2] at ihh; exact ihh _ _ _ _) | (rw [if_neg (by omega)] at hr2; rw [hr2] at ihh; exact ihh _ _ _ _))
                        | (rw [if_neg (by omega)] at hr1; rw [hr1] at ihh; first | (rw [if_pos (by omega)] at hr2; rw [hr2] at ihh; exact ihh _ _ _ _) | (rw [if_neg (by omega)] at hr2; rw [hr2] at ihh; exact ihh _ _ _ _))
                    · try simp only [decide_eq_true_eq, decide_eq_false_iff_not, Bool.and_eq_true, bI_0, bI_n0] at c_135
                      refine Wp.lload dX1_findSpan_138 rfl rfl ?_
                      refine Wp.lneg dX1_findSpan_140 rfl ?_
                      rw [lI_neg]
                      refine Wp.lstore_n dX1_findSpan_141 (Nat.le_of_ble_eq_true rfl) (by dsimp only [ev_st1, ev_st2, ev_cl] <;> rfl) rfl ?_
                      refine Wp.lload dX1_findSpan_142 rfl rfl ?_
                      refine Wp.lneg dX1_findSpan_144 rfl ?_
                      rw [lI_neg]
                      refine Wp.lstore dX1_findSpan_145 (Nat.le_of_ble_eq_true rfl) (by dsimp only [ev_st1, ev_st2, ev_cl] <;> rfl) rfl ?_
                      refine Wp.iinc (v := _ + (nI 1)) dX1_findSpan_147 rfl rfl (Nat.le_of_ble_eq_true rfl) (by dsimp only [ev_st1, ev_cl] <;> rfl) rfl ?_
                      refine Wp.goto (n := 14) dX1_findSpan_150 (by decide) ?_
                      rw [nI_add1]
                      have hr1 : hiN S R c_ (i + 1) = if 0 < R c_ - R i ∧ ((hiN S R c_ i).2 = 0 ∨ (S i - S c_) * (hiN S R c_ i).2 < (hiN S R c_ i).1 * (R c_ - R i)) then (S i - S c_, R c_ - R i) else hiN S R c_ i := rfl
                      have hr2 : loN S R c_ (i + 1) = if R c_ - R i < 0 ∧ ((loN S R c_ i).2 = 0 ∨ (S i - S c_) * (loN S R c_ i).2 < (loN S R c_ i).1 * (R c_ - R i)) then (-(S i - S c_), -(R c_ - R i)) else loN S R c_ i := rfl
                      have hr3 : isN S R c_ (i + 1) = true := by
                        show (isN S R c_ i && decide (R c_ - R i ≠ 0 ∨ 0 ≤ S i - S c_)) = true
                        rw [his, Bool.true_and]; exact decide_eq_true (by omega)
                      have ihh := ih hr3
                      first
                        | (exfalso; omega)
                        | (rw [if_pos (by omega)] at hr1; rw [hr1] at ihh; first | (rw [if_pos (by omega)] at hr2; rw [hr2] at ihh; exact ihh _ _ _ _) | (rw [if_neg (by omega)] at hr2; rw [hr2] at ihh; exact ihh _ _ _ _))
                        | (rw [if_neg (by omega)] at hr1; rw [hr1] at ihh; first | (rw [if_pos (by omega)] at hr2; rw [hr2] at ihh; exact ihh _ _ _ _) | (rw [if_neg (by omega)] at hr2; rw [hr2] at ihh; exact ihh _ _ _ _))
        · try simp (disch := omega) only [nI_bit0, nI_bit1, Bool.not_eq_false, Bool.not_eq_true] at c_60
          try simp (disch := omega) only [i_lt, i_le, i_eq, l_lt, l_le, l_eq, i_0, i_m1, l_0, nI_tI, iI_tI, lI_tI, Int.not_lt, Int.not_le] at c_60
          refine Wp.lload dX1_findSpan_64 rfl rfl ?_
          refine Wp.lconst (v := 0) dX1_findSpan_66 (by decide) rfl ?_
          rw [L0]
          refine Wp.lcmp_ge (tgt := 73) (n := 71) dX1_findSpan_67 rfl dX1_findSpan_68 (by decide) rfl (fun c_67 => ?_) (fun c_67 => ?_)
          · try simp (disch := omega) only [nI_bit0, nI_bit1, Bool.not_eq_false, Bool.not_eq_true] at c_67
            try simp (disch := omega) only [i_lt, i_le, i_eq, l_lt, l_le, l_eq, i_0, i_m1, l_0, nI_tI, iI_tI, lI_tI, Int.not_lt, Int.not_le] at c_67
            refine Wp.lload dX1_findSpan_73 rfl rfl ?_
            refine Wp.lconst (v := 0) dX1_findSpan_75 (by decide) rfl ?_
            rw [L0]
            refine Wp.lcmp_le (tgt := 109) (n := 80) dX1_findSpan_76 rfl dX1_findSpan_77 (by decide) rfl (fun c_76 => ?_) (fun c_76 => ?_)
            · try simp (disch := omega) only [nI_bit0, nI_bit1, Bool.not_eq_false, Bool.not_eq_true] at c_76
              try simp (disch := omega) only [i_lt, i_le, i_eq, l_lt, l_le, l_eq, i_0, i_m1, l_0, nI_tI, iI_tI, lI_tI, Int.not_lt, Int.not_le] at c_76
              refine Wp.lload dX1_findSpan_109 rfl rfl ?_
              refine Wp.lconst (v := 0) dX1_findSpan_111 (by decide) rfl ?_
              rw [L0]
              refine Wp.lcmp_ge (tgt := 147) (n := 116) dX1_findSpan_112 rfl dX1_findSpan_113 (by decide) rfl (fun c_112 => ?_) (fun c_112 => ?_)
              · try simp (disch := omega) only [nI_bit0, nI_bit1, Bool.not_eq_false, Bool.not_eq_true] at c_112
                try simp (disch := omega) only [i_lt, i_le, i_eq, l_lt, l_le, l_eq, i_0, i_m1, l_0, nI_tI, iI_tI, lI_tI, Int.not_lt, Int.not_le] at c_112
                refine Wp.iinc (v := _ + (nI 1)) dX1_findSpan_147 rfl rfl (Nat.le_of_ble_eq_true rfl) (by dsimp only [ev_st1, ev_cl] <;> rfl) rfl ?_
                refine Wp.goto (n := 14) dX1_findSpan_150 (by decide) ?_
                rw [nI_add1]
                have hr1 : hiN S R c_ (i + 1) = if 0 < R c_ - R i ∧ ((hiN S R c_ i).2 = 0 ∨ (S i - S c_) * (hiN S R c_ i).2 < (hiN S R c_ i).1 * (R c_ - R i)) then (S i - S c_, R c_ - R i) else hiN S R c_ i := rfl
                have hr2 : loN S R c_ (i + 1) = if R c_ - R i < 0 ∧ ((loN S R c_ i).2 = 0 ∨ (S i - S c_) * (loN S R c_ i).2 < (loN S R c_ i).1 * (R c_ - R i)) then (-(S i - S c_), -(R c_ - R i)) else loN S R c_ i := rfl
                have hr3 : isN S R c_ (i + 1) = true := by
                  show (isN S R c_ i && decide (R c_ - R i ≠ 0 ∨ 0 ≤ S i - S c_)) = true
                  rw [his, Bool.true_and]; exact decide_eq_true (by omega)
                have ihh := ih hr3
                first
                  | (exfalso; omega)
                  | (rw [if_pos (by omega)] at hr1; rw [hr1] at ihh; first | (rw [if_pos (by omega)] at hr2; rw [hr2] at ihh; exact ihh _ _ _ _) | (rw [if_neg (by omega)] at hr2; rw [hr2] at ihh; exact ihh _ _ _ _))
                  | (rw [if_neg (by omega)] at hr1; rw [hr1] at ihh; first | (rw [if_pos (by omega)] at hr2; rw [hr2] at ihh; exact ihh _ _ _ _) | (rw [if_neg (by omega)] at hr2; rw [hr2] at ihh; exact ihh _ _ _ _))
              · try simp (disch := omega) only [nI_bit0, nI_bit1, Bool.not_eq_false, Bool.not_eq_true] at c_112
                try simp (disch := omega) only [i_lt, i_le, i_eq, l_lt, l_le, l_eq, i_0, i_m1, l_0, nI_tI, iI_tI, lI_tI, Int.not_lt, Int.not_le] at c_112
                refine Wp.lload dX1_findSpan_116 rfl rfl ?_
                refine Wp.lconst (v := 0) dX1_findSpan_118 (by decide) rfl ?_
                rw [L0]
                refine Wp.lcmp_eq (tgt := 138) (n := 123) dX1_findSpan_119 rfl dX1_findSpan_120 (by decide) rfl (fun c_119 => ?_) (fun c_119 => ?_)
                · try simp (disch := omega) only [nI_bit0, nI_bit1, Bool.not_eq_false, Bool.not_eq_true] at c_119
                  try simp (disch := omega) only [i_lt, i_le, i_eq, l_lt, l_le, l_eq, i_0, i_m1, l_0, nI_tI, iI_tI, lI_tI, Int.not_lt, Int.not_le] at c_119
                  refine Wp.lload dX1_findSpan_138 rfl rfl ?_
                  refine Wp.lneg dX1_findSpan_140 rfl ?_
                  rw [lI_neg]
                  refine Wp.lstore_n dX1_findSpan_141 (Nat.le_of_ble_eq_true rfl) (by dsimp only [ev_st1, ev_st2, ev_cl] <;> rfl) rfl ?_
                  refine Wp.lload dX1_findSpan_142 rfl rfl ?_
                  refine Wp.lneg dX1_findSpan_144 rfl ?_
                  rw [lI_neg]
                  refine Wp.lstore dX1_findSpan_145 (Nat.le_of_ble_eq_true rfl) (by dsimp only [ev_st1, ev_st2, ev_cl] <;> rfl) rfl ?_
                  refine Wp.iinc (v := _ + (nI 1)) dX1_findSpan_147 rfl rfl (Nat.le_of_ble_eq_true rfl) (by dsimp only [ev_st1, ev_cl] <;> rfl) rfl ?_
                  refine Wp.goto (n := 14) dX1_findSpan_150 (by decide) ?_
                  rw [nI_add1]
                  have hr1 : hiN S R c_ (i + 1) = if 0 < R c_ - R i ∧ ((hiN S R c_ i).2 = 0 ∨ (S i - S c_) * (hiN S R c_ i).2 < (hiN S R c_ i).1 * (R c_ - R i)) then (S i - S c_, R c_ - R i) else hiN S R c_ i := rfl
                  have hr2 : loN S R c_ (i + 1) = if R c_ - R i < 0 ∧ ((loN S R c_ i).2 = 0 ∨ (S i - S c_) * (loN S R c_ i).2 < (loN S R c_ i).1 * (R c_ - R i)) then (-(S i - S c_), -(R c_ - R i)) else loN S R c_ i := rfl
                  have hr3 : isN S R c_ (i + 1) = true := by
                    show (isN S R c_ i && decide (R c_ - R i ≠ 0 ∨ 0 ≤ S i - S c_)) = true
                    rw [his, Bool.true_and]; exact decide_eq_true (by omega)
                  have ihh := ih hr3
                  first
                    | (exfalso; omega)
                    | (rw [if_pos (by omega)] at hr1; rw [hr1] at ihh; first | (rw [if_pos (by omega)] at hr2; rw [hr2] at ihh; exact ihh _ _ _ _) | (rw [if_neg (by omega)] at hr2; rw [hr2] at ihh; exact ihh _ _ _ _))
                    | (rw [if_neg (by omega)] at hr1; rw [hr1] at ihh; first | (rw [if_pos (by omega)] at hr2; rw [hr2] at ihh; exact ihh _ _ _ _) | (rw [if_neg (by omega)] at hr2; rw [hr2] at ihh; exact ihh _ _ _ _))
                · try simp (disch := omega) only [nI_bit0, nI_bit1, Bool.not_eq_false, Bool.not_eq_true] at c_119
                  try simp (disch := omega) only [i_lt, i_le, i_eq, l_lt, l_le, l_eq, i_0, i_m1, l_0, nI_tI, iI_tI, lI_tI, Int.not_lt, Int.not_le] at c_119
                  refine Wp.lload_n dX1_findSpan_123 rfl rfl ?_
                  refine Wp.lload dX1_findSpan_124 rfl rfl ?_
                  refine Wp.lload dX1_findSpan_126 rfl rfl ?_
                  refine Wp.lneg dX1_findSpan_128 rfl ?_
                  rw [lI_neg]
                  refine Wp.lload dX1_findSpan_129 rfl rfl ?_
                  refine Wp.lneg dX1_findSpan_131 rfl ?_
                  rw [lI_neg]
                  refine Wp.cSN dX1_findSpan_132 cs_X1_65 rfl (by omega) rfl (Nat.le_of_ble_eq_true rfl) (Nat.le_of_ble_eq_true rfl) rfl (c_X11_isLess (d := d - 1) ⟨by omega, by omega⟩ ⟨by omega, by omega⟩) ?_
                  rintro _ h_ ⟨rfl, e_⟩
                  rw [e_]
                  clear e_ h_
                  dsimp only [Option.toList, List.drop, List.cons_append, List.nil_append]
                  refine Wp.bif_eq (tgt := 147) (n := 138) dX1_findSpan_135 (by decide) rfl (fun c_135 => ?_) (fun c_135 => ?_)
                  · try simp only [decide_eq_true_eq, decide_eq_false_iff_not, Bool.and_eq_true, bI_0, bI_n0] at c_135
                    refine Wp.iinc (v := _ + (nI 1)) dX1_findSpan_147 rfl rfl (Nat.le_of_ble_eq_true rfl) (by dsimp only [ev_st1, ev_cl] <;> rfl) rfl ?_
                    refine Wp.goto (n := 14) dX1_findSpan_150 (by decide) ?_
                    rw [nI_add1]
                    have hr1 : hiN S R c_ (i + 1) = if 0 < R c_ - R i ∧ ((hiN S R c_ i).2 = 0 ∨ (S i - S c_) * (hiN S R c_ i).2 < (hiN S R c_ i).1 * (R c_ - R i)) then (S i - S c_, R c_ - R i) else hiN S R c_ i := rfl
                    have hr2 : loN S R c_ (i + 1) = if R c_ - R i < 0 ∧ ((loN S R c_ i).2 = 0 ∨ (S i - S c_) * (loN S R c_ i).2 < (loN S R c_ i).1 * (R c_ - R i)) then (-(S i - S c_), -(R c_ - R i)) else loN S R c_ i := rfl
                    have hr3 : isN S R c_ (i + 1) = true := by
                      show (isN S R c_ i && decide (R c_ - R i ≠ 0 ∨ 0 ≤ S i - S c_)) = true
                      rw [his, Bool.true_and]; exact decide_eq_true (by omega)
                    have ihh := ih hr3
                    first
                      | (exfalso; omega)
                      | (rw [if_pos (by omega)] at hr1; rw [hr1] at ihh; first | (rw [if_pos (by omega)] at hr2; rw [hr2] at ihh; exact ihh _ _ _ _) | (rw [if_neg (by omega)] at hr2; rw [hr2] at ihh; exact ihh _ _ _ _))
                      | (rw [if_neg (by omega)] at hr1; rw [hr1] at ihh; first | (rw [if_pos (by omega)] at hr2; rw [hr2] at ihh; exact ihh _ _ _ _) | (rw [if_neg (by omega)] at hr2; rw [hr2] at ihh; exact ihh _ _ _ _))
                  · try simp only [decide_eq_true_eq, decide_eq_false_iff_not, Bool.and_eq_true, bI_0, bI_n0] at c_135
                    refine Wp.lload dX1_findSpan_138 rfl rfl ?_
                    refine Wp.lneg dX1_findSpan_140 rfl ?_
                    rw [lI_neg]
                    refine Wp.lstore_n dX1_findSpan_141 (Nat.le_of_ble_eq_true rfl) (by dsimp only [ev_st1, ev_st2, ev_cl] <;> rfl) rfl ?_
                    refine Wp.lload dX1_findSpan_142 rfl rfl ?_
                    refine Wp.lneg dX1_findSpan_144 rfl ?_
                    rw [lI_neg]
                    refine Wp.lstore dX1_findSpan_145 (Nat.le_of_ble_eq_true rfl) (by dsimp only [ev_st1, ev_st2, ev_cl] <;> rfl) rfl ?_
                    refine Wp.iinc (v := _ + (nI 1)) dX1_findSpan_147 rfl rfl (Nat.le_of_ble_eq_true rfl) (by dsimp only [ev_st1, ev_cl] <;> rfl) rfl ?_
                    refine Wp.goto (n := 14) dX1_findSpan_150 (by decide) ?_
                    rw [nI_add1]
                    have hr1 : hiN S R c_ (i + 1) = if 0 < R c_ - R i ∧ ((hiN S R c_ i).2 = 0 ∨ (S i - S c_) * (hiN S R c_ i).2 < (hiN S R c_ i).1 * (R c_ - R i)) then (S i - S c_, R c_ - R i) else hiN S R c_ i := rfl
                    have hr2 : loN S R c_ (i + 1) = if R c_ - R i < 0 ∧ ((loN S R c_ i).2 = 0 ∨ (S i - S c_) * (loN S R c_ i).2 < (loN S R c_ i).1 * (R c_ - R i)) then (-(S i - S c_), -(R c_ - R i)) else loN S R c_ i := rfl
                    have hr3 : isN S R c_ (i + 1) = true := by
                      show (isN S R c_ i && decide (R c_ - R i ≠ 0 ∨ 0 ≤ S i - S c_)) = true
                      rw [his, Bool.true_and]; exact decide_eq_true (by omega)
                    have ihh := ih hr3
                    first
                      | (exfalso; omega)
                      | (rw [if_pos (by omega)] at hr1; rw [hr1] at ihh; first | (rw [if_pos (by omega)] at hr2; rw [hr2] at ihh; exact ihh _ _ _ _) | (rw [if_neg (by omega)] at hr2; rw [hr2] at ihh; exact ihh _ _ _ _))
                      | (rw [if_neg (by omega)] at hr1; rw [hr1] at ihh; first | (rw [if_pos (by omega)] at hr2; rw [hr2] at ihh; exact ihh _ _ _ _) | (rw [if_neg (by omega)] at hr2; rw [hr2] at ihh; exact ihh _ _ _ _))
            · try simp (disch := omega) only [nI_bit0, nI_bit1, Bool.not_eq_false, Bool.not_eq_true] at c_76
              try simp (disch := omega) only [i_lt, i_le, i_eq, l_lt, l_le, l_eq, i_0, i_m1, l_0, nI_tI, iI_tI, lI_tI, Int.not_lt, Int.not_le] at c_76
              refine Wp.lload dX1_findSpan_80 rfl rfl ?_
              refine Wp.lconst (v := 0) dX1_findSpan_82 (by decide) rfl ?_
              rw [L0]
              refine Wp.lcmp_eq (tgt := 101) (n := 87) dX1_findSpan_83 rfl dX1_findSpan_84 (by decide) rfl (fun c_83 => ?_) (fun c_83 => ?_)
              · try simp (disch := omega) only [nI_bit0, nI_bit1, Bool.not_eq_false, Bool.not_eq_true] at c_83
                try simp (disch := omega) only [i_lt, i_le, i_eq, l_lt, l_le, l_eq, i_0, i_m1, l_0, nI_tI, iI_tI, lI_tI, Int.not_lt, Int.not_le] at c_83
                refine Wp.lload dX1_findSpan_101 rfl rfl ?_
                refine Wp.lstore dX1_findSpan_103 (Nat.le_of_ble_eq_true rfl) (by dsimp only [ev_st1, ev_st2, ev_cl] <;> rfl) rfl ?_
                refine Wp.lload dX1_findSpan_105 rfl rfl ?_
                refine Wp.lstore dX1_findSpan_107 (Nat.le_of_ble_eq_true rfl) (by dsimp only [ev_st1, ev_st2, ev_cl] <;> rfl) rfl ?_
                refine Wp.lload dX1_findSpan_109 rfl rfl ?_
                refine Wp.lconst (v := 0) dX1_findSpan_111 (by decide) rfl ?_
                rw [L0]
                refine Wp.lcmp_ge (tgt := 147) (n := 116) dX1_findSpan_112 rfl dX1_findSpan_113 (by decide) rfl (fun c_112 => ?_) (fun c_112 => ?_)
                · try simp (disch := omega) only [nI_bit0, nI_bit1, Bool.not_eq_false, Bool.not_eq_true] at c_112
                  try simp (disch := omega) only [i_lt, i_le, i_eq, l_lt, l_le, l_eq, i_0, i_m1, l_0, nI_tI, iI_tI, lI_tI, Int.not_lt, Int.not_le] at c_112
                  refine Wp.iinc (v := _ + (nI 1)) dX1_findSpan_147 rfl rfl (Nat.le_of_ble_eq_true rfl) (by dsimp only [ev_st1, ev_cl] <;> rfl) rfl ?_
                  refine Wp.goto (n := 14) dX1_findSpan_150 (by decide) ?_
                  rw [nI_add1]
                  have hr1 : hiN S R c_ (i + 1) = if 0 < R c_ - R i ∧ ((hiN S R c_ i).2 = 0 ∨ (S i - S c_) * (hiN S R c_ i).2 < (hiN S R c_ i).1 * (R c_ - R i)) then (S i - S c_, R c_ - R i) else hiN S R c_ i := rfl
                  have hr2 : loN S R c_ (i + 1) = if R c_ - R i < 0 ∧ ((loN S R c_ i).2 = 0 ∨ (S i - S c_) * (loN S R c_ i).2 < (loN S R c_ i).1 * (R c_ - R i)) then (-(S i - S c_), -(R c_ - R i)) else loN S R c_ i := rfl
                  have hr3 : isN S R c_ (i + 1) = true := by
                    show (isN S R c_ i && decide (R c_ - R i ≠ 0 ∨ 0 ≤ S i - S c_)) = true
                    rw [his, Bool.true_and]; exact decide_eq_true (by omega)
                  have ihh := ih hr3
                  first
                    | (exfalso; omega)
                    | (rw [if_pos (by omega)] at hr1; rw [hr1] at ihh; first | (rw [if_pos (by omega)] at hr2; rw [hr2] at ihh; exact ihh _ _ _ _) | (rw [if_neg (by omega)] at hr2; rw [hr2] at ihh; exact ihh _ _ _ _))
                    | (rw [if_neg (by omega)] at hr1; rw [hr1] at ihh; first | (rw [if_pos (by omega)] at hr2; rw [hr2] at ihh; exact ihh _ _ _ _) | (rw [if_neg (by omega)] at hr2; rw [hr2] at ihh; exact ihh _ _ _ _))
                · try simp (disch := omega) only [nI_bit0, nI_bit1, Bool.not_eq_false, Bool.not_eq_true] at c_112
                  try simp (disch := omega) only [i_lt, i_le, i_eq, l_lt, l_le, l_eq, i_0, i_m1, l_0, nI_tI, iI_tI, lI_tI, Int.not_lt, Int.not_le] at c_112
                  refine Wp.lload dX1_findSpan_116 rfl rfl ?_
                  refine Wp.lconst (v := 0) dX1_findSpan_118 (by decide) rfl ?_
                  rw [L0]
                  refine Wp.lcmp_eq (tgt := 138) (n := 123) dX1_findSpan_119 rfl dX1_findSpan_120 (by decide) rfl (fun c_119 => ?_) (fun c_119 => ?_)
                  · try simp (disch := omega) only [nI_bit0, nI_bit1, Bool.not_eq_false, Bool.not_eq_true] at c_119
                    try simp (disch := omega) only [i_lt, i_le, i_eq, l_lt, l_le, l_eq, i_0, i_m1, l_0, nI_tI, iI_tI, lI_tI, Int.not_lt, Int.not_le] at c_119
                    refine Wp.lload dX1_findSpan_138 rfl rfl ?_
                    refine Wp.lneg dX1_findSpan_140 rfl ?_
                    rw [lI_neg]
                    refine Wp.lstore_n dX1_findSpan_141 (Nat.le_of_ble_eq_true rfl) (by dsimp only [ev_st1, ev_st2, ev_cl] <;> rfl) rfl ?_
                    refine Wp.lload dX1_findSpan_142 rfl rfl ?_
                    refine Wp.lneg dX1_findSpan_144 rfl ?_
                    rw [lI_neg]
                    refine Wp.lstore dX1_findSpan_145 (Nat.le_of_ble_eq_true rfl) (by dsimp only [ev_st1, ev_st2, ev_cl] <;> rfl) rfl ?_
                    refine Wp.iinc (v := _ + (nI 1)) dX1_findSpan_147 rfl rfl (Nat.le_of_ble_eq_true rfl) (by dsimp only [ev_st1, ev_cl] <;> rfl) rfl ?_
                    refine Wp.goto (n := 14) dX1_findSpan_150 (by decide) ?_
                    rw [nI_add1]
                    have hr1 : hiN S R c_ (i + 1) = if 0 < R c_ - R i ∧ ((hiN S R c_ i).2 = 0 ∨ (S i - S c_) * (hiN S R c_ i).2 < (hiN S R c_ i).1 * (R c_ - R i)) then (S i - S c_, R c_ - R i) else hiN S R c_ i := rfl
                    have hr2 : loN S R c_ (i + 1) = if R c_ - R i < 0 ∧ ((loN S R c_ i).2 = 0 ∨ (S i - S c_) * (loN S R c_ i).2 < (loN S R c_ i).1 * (R c_ - R i)) then (-(S i - S c_), -(R c_ - R i)) else loN S R c_ i := rfl
                    have hr3 : isN S R c_ (i + 1) = true := by
                      show (isN S R c_ i && decide (R c_ - R i ≠ 0 ∨ 0 ≤ S i - S c_)) = true
                      rw [his, Bool.true_and]; exact decide_eq_true (by omega)
                    have ihh := ih hr3
                    first
                      | (exfalso; omega)
                      | (rw [if_pos (by omega)] at hr1; rw [hr1] at ihh; first | (rw [if_pos (by omega)] at hr2; rw [hr2] at ihh; exact ihh _ _ _ _) | (rw [if_neg (by omega)] at hr2; rw [hr2] at ihh; exact ihh _ _ _ _))
                      | (rw [if_neg (by omega)] at hr1; rw [hr1] at ihh; first | (rw [if_pos (by omega)] at hr2; rw [hr2] at ihh; exact ihh _ _ _ _) | (rw [if_neg (by omega)] at hr2; rw [hr2] at ihh; exact ihh _ _ _ _))
                  · try simp (disch := omega) only [nI_bit0, nI_bit1, Bool.not_eq_false, Bool.not_eq_true] at c_119
                    try simp (disch := omega) only [i_lt, i_le, i_eq, l_lt, l_le, l_eq, i_0, i_m1, l_0, nI_tI, iI_tI, lI_tI, Int.not_lt, Int.not_le] at c_119
                    refine Wp.lload_n dX1_findSpan_123 rfl rfl ?_
                    refine Wp.lload dX1_findSpan_124 rfl rfl ?_
                    refine Wp.lload dX1_findSpan_126 rfl rfl ?_
                    refine Wp.lneg dX1_findSpan_128 rfl ?_
                    rw [lI_neg]
                    refine Wp.lload dX1_findSpan_129 rfl rfl ?_
                    refine Wp.lneg dX1_findSpan_131 rfl ?_
                    rw [lI_neg]
                    refine Wp.cSN dX1_findSpan_132 cs_X1_65 rfl (by omega) rfl (Nat.le_of_ble_eq_true rfl) (Nat.le_of_ble_eq_true rfl) rfl (c_X11_isLess (d := d - 1) ⟨by omega, by omega⟩ ⟨by omega, by omega⟩) ?_
                    rintro _ h_ ⟨rfl, e_⟩
                    rw [e_]
                    clear e_ h_
                    dsimp only [Option.toList, List.drop, List.cons_append, List.nil_append]
                    refine Wp.bif_eq (tgt := 147) (n := 138) dX1_findSpan_135 (by decide) rfl (fun c_135 => ?_) (fun c_135 => ?_)
                    · try simp only [decide_eq_true_eq, decide_eq_false_iff_not, Bool.and_eq_true, bI_0, bI_n0] at c_135
                      refine Wp.iinc (v := _ + (nI 1)) dX1_findSpan_147 rfl rfl (Nat.le_of_ble_eq_true rfl) (by dsimp only [ev_st1, ev_cl] <;> rfl) rfl ?_
                      refine Wp.goto (n := 14) dX1_findSpan_150 (by decide) ?_
                      rw [nI_add1]
                      have hr1 : hiN S R c_ (i + 1) = if 0 < R c_ - R i ∧ ((hiN S R c_ i).2 = 0 ∨ (S i - S c_) * (hiN S R c_ i).2 < (hiN S R c_ i).1 * (R c_ - R i)) then (S i - S c_, R c_ - R i) else hiN S R c_ i := rfl
                      have hr2 : loN S R c_ (i + 1) = if R c_ - R i < 0 ∧ ((loN S R c_ i).2 = 0 ∨ (S i - S c_) * (loN S R c_ i).2 < (loN S R c_ i).1 * (R c_ - R i)) then (-(S i - S c_), -(R c_ - R i)) else loN S R c_ i := rfl
                      have hr3 : isN S R c_ (i + 1) = true := by
                        show (isN S R c_ i && decide (R c_ - R i ≠ 0 ∨ 0 ≤ S i - S c_)) = true
                        rw [his, Bool.true_and]; exact decide_eq_true (by omega)
                      have ihh := ih hr3
                      first
                        | (exfalso; omega)
                        | (rw [if_pos (by omega)] at hr1; rw [hr1] at ihh; first | (rw [if_pos (by omega)] at hr2; rw [hr2] at ihh; exact ihh _ _ _ _) | (rw [if_neg (by omega)] at hr2; rw [hr2] at ihh; exact ihh _ _ _ _))
                        | (rw [if_neg (by omega)] at hr1; rw [hr1] at ihh; first | (rw [if_pos (by omega)] at hr2; rw [hr2] at ihh; exact ihh _ _ _ _) | (rw [if_neg (by omega)] at hr2; rw [hr2] at ihh; exact ihh _ _ _ _))
                    · try simp only [decide_eq_true_eq, decide_eq_false_iff_not, Bool.and_eq_true, bI_0, bI_n0] at c_135
                      refine Wp.lload dX1_findSpan_138 rfl rfl ?_
                      refine Wp.lneg dX1_findSpan_140 rfl ?_
                      rw [lI_neg]
                      refine Wp.lstore_n dX1_findSpan_141 (Nat.le_of_ble_eq_true rfl) (by dsimp only [ev_st1, ev_st2, ev_cl] <;> rfl) rfl ?_
                      refine Wp.lload dX1_findSpan_142 rfl rfl ?_
                      refine Wp.lneg dX1_findSpan_144 rfl ?_
                      rw [lI_neg]
                      refine Wp.lstore dX1_findSpan_145 (Nat.le_of_ble_eq_true rfl) (by dsimp only [ev_st1, ev_st2, ev_cl] <;> rfl) rfl ?_
                      refine Wp.iinc (v := _ + (nI 1)) dX1_findSpan_147 rfl rfl (Nat.le_of_ble_eq_true rfl) (by dsimp only [ev_st1, ev_cl] <;> rfl) rfl ?_
                      refine Wp.goto (n := 14) dX1_findSpan_150 (by decide) ?_
                      rw [nI_add1]
                      have hr1 : hiN S R c_ (i + 1) = if 0 < R c_ - R i ∧ ((hiN S R c_ i).2 = 0 ∨ (S i - S c_) * (hiN S R c_ i).2 < (hiN S R c_ i).1 * (R c_ - R i)) then (S i - S c_, R c_ - R i) else hiN S R c_ i := rfl
                      have hr2 : loN S R c_ (i + 1) = if R c_ - R i < 0 ∧ ((loN S R c_ i).2 = 0 ∨ (S i - S c_) * (loN S R c_ i).2 < (loN S R c_ i).1 * (R c_ - R i)) then (-(S i - S c_), -(R c_ - R i)) else loN S R c_ i := rfl
                      have hr3 : isN S R c_ (i + 1) = true := by
                        show (isN S R c_ i && decide (R c_ - R i ≠ 0 ∨ 0 ≤ S i - S c_)) = true
                        rw [his, Bool.true_and]; exact decide_eq_true (by omega)
                      have ihh := ih hr3
                      first
                        | (exfalso; omega)
                        | (rw [if_pos (by omega)] at hr1; rw [hr1] at ihh; first | (rw [if_pos (by omega)] at hr2; rw [hr2] at ihh; exact ihh _ _ _ _) | (rw [if_neg (by omega)] at hr2; rw [hr2] at ihh; exact ihh _ _ _ _))
                        | (rw [if_neg (by omega)] at hr1; rw [hr1] at ihh; first | (rw [if_pos (by omega)] at hr2; rw [hr2] at ihh; exact ihh _ _ _ _) | (rw [if_neg (by omega)] at hr2; rw [hr2] at ihh; exact ihh _ _ _ _))
              · try simp (disch := omega) only [nI_bit0, nI_bit1, Bool.not_eq_false, Bool.not_eq_true] at c_83
                try simp (disch := omega) only [i_lt, i_le, i_eq, l_lt, l_le, l_eq, i_0, i_m1, l_0, nI_tI, iI_tI, lI_tI, Int.not_lt, Int.not_le] at c_83
                refine Wp.lload dX1_findSpan_87 rfl rfl ?_
                refine Wp.lload dX1_findSpan_89 rfl rfl ?_
                refine Wp.lload dX1_findSpan_91 rfl rfl ?_
                refine Wp.lload dX1_findSpan_93 rfl rfl ?_
                refine Wp.cSN dX1_findSpan_95 cs_X1_65 rfl (by omega) rfl (Nat.le_of_ble_eq_true rfl) (Nat.le_of_ble_eq_true rfl) rfl (c_X11_isLess (d := d - 1) ⟨by omega, by omega⟩ ⟨by omega, by omega⟩) ?_
                rintro _ h_ ⟨rfl, e_⟩
                rw [e_]
                clear e_ h_
                dsimp only [Option.toList, List.drop, List.cons_append, List.nil_append]
                refine Wp.bif_eq (tgt := 109) (n := 101) dX1_findSpan_98 (by decide) rfl (fun c_98 => ?_) (fun c_98 => ?_)
                · try simp only [decide_eq_true_eq, decide_eq_false_iff_not, Bool.and_eq_true, bI_0, bI_n0] at c_98
                  refine Wp.lload dX1_findSpan_109 rfl rfl ?_
                  refine Wp.lconst (v := 0) dX1_findSpan_111 (by decide) rfl ?_
                  rw [L0]
                  refine Wp.lcmp_ge (tgt := 147) (n := 116) dX1_findSpan_112 rfl dX1_findSpan_113 (by decide) rfl (fun c_112 => ?_) (fun c_112 => ?_)
                  · try simp (disch := omega) only [nI_bit0, nI_bit1, Bool.not_eq_false, Bool.not_eq_true] at c_112
                    try simp (disch := omega) only [i_lt, i_le, i_eq, l_lt, l_le, l_eq, i_0, i_m1, l_0, nI_tI, iI_tI, lI_tI, Int.not_lt, Int.not_le] at c_112
                    refine Wp.iinc (v := _ + (nI 1)) dX1_findSpan_147 rfl rfl (Nat.le_of_ble_eq_true rfl) (by dsimp only [ev_st1, ev_cl] <;> rfl) rfl ?_
                    refine Wp.goto (n := 14) dX1_findSpan_150 (by decide) ?_
                    rw [nI_add1]
                    have hr1 : hiN S R c_ (i + 1) = if 0 < R c_ - R i ∧ ((hiN S R c_ i).2 = 0 ∨ (S i - S c_) * (hiN S R c_ i).2 < (hiN S R c_ i).1 * (R c_ - R i)) then (S i - S c_, R c_ - R i) else hiN S R c_ i := rfl
                    have hr2 : loN S R c_ (i + 1) = if R c_ - R i < 0 ∧ ((loN S R c_ i).2 = 0 ∨ (S i - S c_) * (loN S R c_ i).2 < (loN S R c_ i).1 * (R c_ - R i)) then (-(S i - S c_), -(R c_ - R i)) else loN S R c_ i := rfl
                    have hr3 : isN S R c_ (i + 1) = true := by
                      show (isN S R c_ i && decide (R c_ - R i ≠ 0 ∨ 0 ≤ S i - S c_)) = true
                      rw [his, Bool.true_and]; exact decide_eq_true (by omega)
                    have ihh := ih hr3
                    first
                      | (exfalso; omega)
                      | (rw [if_pos (by omega)] at hr1; rw [hr1] at ihh; first | (rw [if_pos (by omega)] at hr2; rw [hr2] at ihh; exact ihh _ _ _ _) | (rw [if_neg (by omega)] at hr2; rw [hr2] at ihh; exact ihh _ _ _ _))
                      | (rw [if_neg (by omega)] at hr1; rw [hr1] at ihh; first | (rw [if_pos (by omega)] at hr2; rw [hr2] at ihh; exact ihh _ _ _ _) | (rw [if_neg (by omega)] at hr2; rw [hr2] at ihh; exact ihh _ _ _ _))
                  · try simp (disch := omega) only [nI_bit0, nI_bit1, Bool.not_eq_false, Bool.not_eq_true] at c_112
                    try simp (disch := omega) only [i_lt, i_le, i_eq, l_lt, l_le, l_eq, i_0, i_m1, l_0, nI_tI, iI_tI, lI_tI, Int.not_lt, Int.not_le] at c_112
                    refine Wp.lload dX1_findSpan_116 rfl rfl ?_
                    refine Wp.lconst (v := 0) dX1_findSpan_118 (by decide) rfl ?_
                    rw [L0]
                    refine Wp.lcmp_eq (tgt := 138) (n := 123) dX1_findSpan_119 rfl dX1_findSpan_120 (by decide) rfl (fun c_119 => ?_) (fun c_119 => ?_)
                    · try simp (disch := omega) only [nI_bit0, nI_bit1, Bool.not_eq_false, Bool.not_eq_true] at c_119
                      try simp (disch := omega) only [i_lt, i_le, i_eq, l_lt, l_le, l_eq, i_0, i_m1, l_0, nI_tI, iI_tI, lI_tI, Int.not_lt, Int.not_le] at c_119
                      refine Wp.lload dX1_findSpan_138 rfl rfl ?_
                      refine Wp.lneg dX1_findSpan_140 rfl ?_
                      rw [lI_neg]
                      refine Wp.lstore_n dX1_findSpan_141 (Nat.le_of_ble_eq_true rfl) (by dsimp only [ev_st1, ev_st2, ev_cl] <;> rfl) rfl ?_
                      refine Wp.lload dX1_findSpan_142 rfl rfl ?_
                      refine Wp.lneg dX1_findSpan_144 rfl ?_
                      rw [lI_neg]
                      refine Wp.lstore dX1_findSpan_145 (Nat.le_of_ble_eq_true rfl) (by dsimp only [ev_st1, ev_st2, ev_cl] <;> rfl) rfl ?_
                      refine Wp.iinc (v := _ + (nI 1)) dX1_findSpan_147 rfl rfl (Nat.le_of_ble_eq_true rfl) (by dsimp only [ev_st1, ev_cl] <;> rfl) rfl ?_
                      refine Wp.goto (n := 14) dX1_findSpan_150 (by decide) ?_
                      rw [nI_add1]
                      have hr1 : hiN S R c_ (i + 1) = if 0 < R c_ - R i ∧ ((hiN S R c_ i).2 = 0 ∨ (S i - S c_) * (hiN S R c_ i).2 < (hiN S R c_ i).1 * (R c_ - R i)) then (S i - S c_, R c_ - R i) else hiN S R c_ i := rfl
                      have hr2 : loN S R c_ (i + 1) = if R c_ - R i < 0 ∧ ((loN S R c_ i).2 = 0 ∨ (S i - S c_) * (loN S R c_ i).2 < (loN S R c_ i).1 * (R c_ - R i)) then (-(S i - S c_), -(R c_ - R i)) else loN S R c_ i := rfl
                      have hr3 : isN S R c_ (i + 1) = true := by
                        show (isN S R c_ i && decide (R c_ - R i ≠ 0 ∨ 0 ≤ S i - S c_)) = true
                        rw [his, Bool.true_and]; exact decide_eq_true (by omega)
                      have ihh := ih hr3
                      first
                        | (exfalso; omega)
                        | (rw [if_pos (by omega)] at hr1; rw [hr1] at ihh; first | (rw [if_pos (by omega)] at hr2; rw [hr2] at ihh; exact ihh _ _ _ _) | (rw [if_neg (by omega)] at hr2; rw [hr2] at ihh; exact ihh _ _ _ _))
                        | (rw [if_neg (by omega)] at hr1; rw [hr1] at ihh; first | (rw [if_pos (by omega)] at hr2; rw [hr2] at ihh; exact ihh _ _ _ _) | (rw [if_neg (by omega)] at hr2; rw [hr2] at ihh; exact ihh _ _ _ _))
                    · try simp (disch := omega) only [nI_bit0, nI_bit1, Bool.not_eq_false, Bool.not_eq_true] at c_119
                      try simp (disch := omega) only [i_lt, i_le, i_eq, l_lt, l_le, l_eq, i_0, i_m1, l_0, nI_tI, iI_tI, lI_tI, Int.not_lt, Int.not_le] at c_119
                      refine Wp.lload_n dX1_findSpan_123 rfl rfl ?_
                      refine Wp.lload dX1_findSpan_124 rfl rfl ?_
                      refine Wp.lload dX1_findSpan_126 rfl rfl ?_
                      refine Wp.lneg dX1_findSpan_128 rfl ?_
                      rw [lI_neg]
                      refine Wp.lload dX1_findSpan_129 rfl rfl ?_
                      refine Wp.lneg dX1_findSpan_131 rfl ?_
                      rw [lI_neg]
                      refine Wp.cSN dX1_findSpan_132 cs_X1_65 rfl (by omega) rfl (Nat.le_of_ble_eq_true rfl) (Nat.le_of_ble_eq_true rfl) rfl (c_X11_isLess (d := d - 1) ⟨by omega, by omega⟩ ⟨by omega, by omega⟩) ?_
                      rintro _ h_ ⟨rfl, e_⟩
                      rw [e_]
                      clear e_ h_
                      dsimp only [Option.toList, List.drop, List.cons_append, List.nil_append]
                      refine Wp.bif_eq (tgt := 147) (n := 138) dX1_findSpan_135 (by decide) rfl (fun c_135 => ?_) (fun c_135 => ?_)
                      · try simp only [decide_eq_true_eq, decide_eq_false_iff_not, Bool.and_eq_true, bI_0, bI_n0] at c_135
                        refine Wp.iinc (v := _ + (nI 1)) dX1_findSpan_147 rfl rfl (Nat.le_of_ble_eq_true rfl) (by dsimp only [ev_st1, ev_cl] <;> rfl) rfl ?_
                        refine Wp.goto (n := 14) dX1_findSpan_150 (by decide) ?_
                        rw [nI_add1]
                        have hr1 : hiN S R c_ (i + 1) = if 0 < R c_ - R i ∧ ((hiN S R c_ i).2 = 0 ∨ (S i - S c_) * (hiN S R c_ i).2 < (hiN S R c_ i).1 * (R c_ - R i)) then (S i - S c_, R c_ - R i) else hiN S R c_ i := rfl
                        have hr2 : loN S R c_ (i + 1) = if R c_ - R i < 0 ∧ ((loN S R c_ i).2 = 0 ∨ (S i - S c_) * (loN S R c_ i).2 < (loN S R c_ i).1 * (R c_ - R i)) then (-(S i - S c_), -(R c_ - R i)) else loN S R c_ i := rfl
                        have hr3 : isN S R c_ (i + 1) = true := by
                          show (isN S R c_ i && decide (R c_ - R i ≠ 0 ∨ 0 ≤ S i - S c_)) = true
                          rw [his, Bool.true_and]; exact decide_eq_true (by omega)
                        have ihh := ih hr3
                        first
                          | (exfalso; omega)
                          | (rw [if_pos (by omega)] at hr1; rw [hr1] at ihh; first | (rw [if_pos (by omega)] at hr2; rw [hr2] at ihh; exact ihh _ _ _ _) | (rw [if_neg (by omega)] at hr2; rw [hr2] at ihh; exact ihh _ _ _ _))
                          | (rw [if_neg (by omega)] at hr1; rw [hr1] at ihh; first | (rw [if_pos (by omega)] at hr2; rw [hr2] at ihh; exact ihh _ _ _ _) | (rw [if_neg (by omega)] at hr2; rw [hr2] at ihh; exact ihh _ _ _ _))
                      · try simp only [decide_eq_true_eq, decide_eq_false_iff_not, Bool.and_eq_true, bI_0, bI_n0] at c_135
                        refine Wp.lload dX1_findSpan_138 rfl rfl ?_
                        refine Wp.lneg dX1_findSpan_140 rfl ?_
                        rw [lI_neg]
                        refine Wp.lstore_n dX1_findSpan_141 (Nat.le_of_ble_eq_true rfl) (by dsimp only [ev_st1, ev_st2, ev_cl] <;> rfl) rfl ?_
                        refine Wp.lload dX1_findSpan_142 rfl rfl ?_
                        refine Wp.lneg dX1_findSpan_144 rfl ?_
                        rw [lI_neg]
                        refine Wp.lstore dX1_findSpan_145 (Nat.le_of_ble_eq_true rfl) (by dsimp only [ev_st1, ev_st2, ev_cl] <;> rfl) rfl ?_
                        refine Wp.iinc (v := _ + (nI 1)) dX1_findSpan_147 rfl rfl (Nat.le_of_ble_eq_true rfl) (by dsimp only [ev_st1, ev_cl] <;> rfl) rfl ?_
                        refine Wp.goto (n := 14) dX1_findSpan_150 (by decide) ?_
                        rw [nI_add1]
                        have hr1 : hiN S R c_ (i + 1) = if 0 < R c_ - R i ∧ ((hiN S R c_ i).2 = 0 ∨ (S i - S c_) * (hiN S R c_ i).2 < (hiN S R c_ i).1 * (R c_ - R i)) then (S i - S c_, R c_ - R i) else hiN S R c_ i := rfl
                        have hr2 : loN S R c_ (i + 1) = if R c_ - R i < 0 ∧ ((loN S R c_ i).2 = 0 ∨ (S i - S c_) * (loN S R c_ i).2 < (loN S R c_ i).1 * (R c_ - R i)) then (-(S i - S c_), -(R c_ - R i)) else loN S R c_ i := rfl
                        have hr3 : isN S R c_ (i + 1) = true := by
                          show (isN S R c_ i && decide (R c_ - R i ≠ 0 ∨ 0 ≤ S i - S c_)) = true
                          rw [his, Bool.true_and]; exact decide_eq_true (by omega)
                        have ihh := ih hr3
                        first
                          | (exfalso; omega)
                          | (rw [if_pos (by omega)] at hr1; rw [hr1] at ihh; first | (rw [if_pos (by omega)] at hr2; rw [hr2] at ihh; exact ihh _ _ _ _) | (rw [if_neg (by omega)] at hr2; rw [hr2] at ihh; exact ihh _ _ _ _))
                          | (rw [if_neg (by omega)] at hr1; rw [hr1] at ihh; first | (rw [if_pos (by omega)] at hr2; rw [hr2] at ihh; exact ihh _ _ _ _) | (rw [if_neg (by omega)] at hr2; rw [hr2] at ihh; exact ihh _ _ _ _))
                · try simp only [decide_eq_true_eq, decide_eq_false_iff_not, Bool.and_eq_true, bI_0, bI_n0] at c_98
                  refine Wp.lload dX1_findSpan_101 rfl rfl ?_
                  refine Wp.lstore dX1_findSpan_103 (Nat.le_of_ble_eq_true rfl) (by dsimp only [ev_st1, ev_st2, ev_cl] <;> rfl) rfl ?_
                  refine Wp.lload dX1_findSpan_105 rfl rfl ?_
                  refine Wp.lstore dX1_findSpan_107 (Nat.le_of_ble_eq_true rfl) (by dsimp only [ev_st1, ev_st2, ev_cl] <;> rfl) rfl ?_
                  refine Wp.lload dX1_findSpan_109 rfl rfl ?_
                  refine Wp.lconst (v := 0) dX1_findSpan_111 (by decide) rfl ?_
                  rw [L0]
                  refine Wp.lcmp_ge (tgt := 147) (n := 116) dX1_findSpan_112 rfl dX1_findSpan_113 (by decide) rfl (fun c_112 => ?_) (fun c_112 => ?_)
                  · try simp (disch := omega) only [nI_bit0, nI_bit1, Bool.not_eq_false, Bool.not_eq_true] at c_112
                    try simp (disch := omega) only [i_lt, i_le, i_eq, l_lt, l_le, l_eq, i_0, i_m1, l_0, nI_tI, iI_tI, lI_tI, Int.not_lt, Int.not_le] at c_112
                    refine Wp.iinc (v := _ + (nI 1)) dX1_findSpan_147 rfl rfl (Nat.le_of_ble_eq_true rfl) (by dsimp only [ev_st1, ev_cl] <;> rfl) rfl ?_
                    refine Wp.goto (n := 14) dX1_findSpan_150 (by decide) ?_
                    rw [nI_add1]
                    have hr1 : hiN S R c_ (i + 1) = if 0 < R c_ - R i ∧ ((hiN S R c_ i).2 = 0 ∨ (S i - S c_) * (hiN S R c_ i).2 < (hiN S R c_ i).1 * (R c_ - R i)) then (S i - S c_, R c_ - R i) else hiN S R c_ i := rfl
                    have hr2 : loN S R c_ (i + 1) = if R c_ - R i < 0 ∧ ((loN S R c_ i).2 = 0 ∨ (S i - S c_) * (loN S R c_ i).2 < (loN S R c_ i).1 * (R c_ - R i)) then (-(S i - S c_), -(R c_ - R i)) else loN S R c_ i := rfl
                    have hr3 : isN S R c_ (i + 1) = true := by
                      show (isN S R c_ i && decide (R c_ - R i ≠ 0 ∨ 0 ≤ S i - S c_)) = true
                      rw [his, Bool.true_and]; exact decide_eq_true (by omega)
                    have ihh := ih hr3
                    first
                      | (exfalso; omega)
                      | (rw [if_pos (by omega)] at hr1; rw [hr1] at ihh; first | (rw [if_pos (by omega)] at hr2; rw [hr2] at ihh; exact ihh _ _ _ _) | (rw [if_neg (by omega)] at hr2; rw [hr2] at ihh; exact ihh _ _ _ _))
                      | (rw [if_neg (by omega)] at hr1; rw [hr1] at ihh; first | (rw [if_pos (by omega)] at hr2; rw [hr2] at ihh; exact ihh _ _ _ _) | (rw [if_neg (by omega)] at hr2; rw [hr2] at ihh; exact ihh _ _ _ _))
                  · try simp (disch := omega) only [nI_bit0, nI_bit1, Bool.not_eq_false, Bool.not_eq_true] at c_112
                    try simp (disch := omega) only [i_lt, i_le, i_eq, l_lt, l_le, l_eq, i_0, i_m1, l_0, nI_tI, iI_tI, lI_tI, Int.not_lt, Int.not_le] at c_112
                    refine Wp.lload dX1_findSpan_116 rfl rfl ?_
                    refine Wp.lconst (v := 0) dX1_findSpan_118 (by decide) rfl ?_
                    rw [L0]
                    refine Wp.lcmp_eq (tgt := 138) (n := 123) dX1_findSpan_119 rfl dX1_findSpan_120 (by decide) rfl (fun c_119 => ?_) (fun c_119 => ?_)
                    · try simp (disch := omega) only [nI_bit0, nI_bit1, Bool.not_eq_false, Bool.not_eq_true] at c_119
                      try simp (disch := omega) only [i_lt, i_le, i_eq, l_lt, l_le, l_eq, i_0, i_m1, l_0, nI_tI, iI_tI, lI_tI, Int.not_lt, Int.not_le] at c_119
                      refine Wp.lload dX1_findSpan_138 rfl rfl ?_
                      refine Wp.lneg dX1_findSpan_140 rfl ?_
                      rw [lI_neg]
                      refine Wp.lstore_n dX1_findSpan_141 (Nat.le_of_ble_eq_true rfl) (by dsimp only [ev_st1, ev_st2, ev_cl] <;> rfl) rfl ?_
                      refine Wp.lload dX1_findSpan_142 rfl rfl ?_
                      refine Wp.lneg dX1_findSpan_144 rfl ?_
                      rw [lI_neg]
                      refine Wp.lstore dX1_findSpan_145 (Nat.le_of_ble_eq_true rfl) (by dsimp only [ev_st1, ev_st2, ev_cl] <;> rfl) rfl ?_
                      refine Wp.iinc (v := _ + (nI 1)) dX1_findSpan_147 rfl rfl (Nat.le_of_ble_eq_true rfl) (by dsimp only [ev_st1, ev_cl] <;> rfl) rfl ?_
                      refine Wp.goto (n := 14) dX1_findSpan_150 (by decide) ?_
                      rw [nI_add1]
                      have hr1 : hiN S R c_ (i + 1) = if 0 < R c_ - R i ∧ ((hiN S R c_ i).2 = 0 ∨ (S i - S c_) * (hiN S R c_ i).2 < (hiN S R c_ i).1 * (R c_ - R i)) then (S i - S c_, R c_ - R i) else hiN S R c_ i := rfl
                      have hr2 : loN S R c_ (i + 1) = if R c_ - R i < 0 ∧ ((loN S R c_ i).2 = 0 ∨ (S i - S c_) * (loN S R c_ i).2 < (loN S R c_ i).1 * (R c_ - R i)) then (-(S i - S c_), -(R c_ - R i)) else loN S R c_ i := rfl
                      have hr3 : isN S R c_ (i + 1) = true := by
                        show (isN S R c_ i && decide (R c_ - R i ≠ 0 ∨ 0 ≤ S i - S c_)) = true
                        rw [his, Bool.true_and]; exact decide_eq_true (by omega)
                      have ihh := ih hr3
                      first
                        | (exfalso; omega)
                        | (rw [if_pos (by omega)] at hr1; rw [hr1] at ihh; first | (rw [if_pos (by omega)] at hr2; rw [hr2] at ihh; exact ihh _ _ _ _) | (rw [if_neg (by omega)] at hr2; rw [hr2] at ihh; exact ihh _ _ _ _))
                        | (rw [if_neg (by omega)] at hr1; rw [hr1] at ihh; first | (rw [if_pos (by omega)] at hr2; rw [hr2] at ihh; exact ihh _ _ _ _) | (rw [if_neg (by omega)] at hr2; rw [hr2] at ihh; exact ihh _ _ _ _))
                    · try simp (disch := omega) only [nI_bit0, nI_bit1, Bool.not_eq_false, Bool.not_eq_true] at c_119
                      try simp (disch := omega) only [i_lt, i_le, i_eq, l_lt, l_le, l_eq, i_0, i_m1, l_0, nI_tI, iI_tI, lI_tI, Int.not_lt, Int.not_le] at c_119
                      refine Wp.lload_n dX1_findSpan_123 rfl rfl ?_
                      refine Wp.lload dX1_findSpan_124 rfl rfl ?_
                      refine Wp.lload dX1_findSpan_126 rfl rfl ?_
                      refine Wp.lneg dX1_findSpan_128 rfl ?_
                      rw [lI_neg]
                      refine Wp.lload dX1_findSpan_129 rfl rfl ?_
                      refine Wp.lneg dX1_findSpan_131 rfl ?_
                      rw [lI_neg]
                      refine Wp.cSN dX1_findSpan_132 cs_X1_65 rfl (by omega) rfl (Nat.le_of_ble_eq_true rfl) (Nat.le_of_ble_eq_true rfl) rfl (c_X11_isLess (d := d - 1) ⟨by omega, by omega⟩ ⟨by omega, by omega⟩) ?_
                      rintro _ h_ ⟨rfl, e_⟩
                      rw [e_]
                      clear e_ h_
                      dsimp only [Option.toList, List.drop, List.cons_append, List.nil_append]
                      refine Wp.bif_eq (tgt := 147) (n := 138) dX1_findSpan_135 (by decide) rfl (fun c_135 => ?_) (fun c_135 => ?_)
                      · try simp only [decide_eq_true_eq, decide_eq_false_iff_not, Bool.and_eq_true, bI_0, bI_n0] at c_135
                        refine Wp.iinc (v := _ + (nI 1)) dX1_findSpan_147 rfl rfl (Nat.le_of_ble_eq_true rfl) (by dsimp only [ev_st1, ev_cl] <;> rfl) rfl ?_
                        refine Wp.goto (n := 14) dX1_findSpan_150 (by decide) ?_
                        rw [nI_add1]
                        have hr1 : hiN S R c_ (i + 1) = if 0 < R c_ - R i ∧ ((hiN S R c_ i).2 = 0 ∨ (S i - S c_) * (hiN S R c_ i).2 < (hiN S R c_ i).1 * (R c_ - R i)) then (S i - S c_, R c_ - R i) else hiN S R c_ i := rfl
                        have hr2 : loN S R c_ (i + 1) = if R c_ - R i < 0 ∧ ((loN S R c_ i).2 = 0 ∨ (S i - S c_) * (loN S R c_ i).2 < (loN S R c_ i).1 * (R c_ - R i)) then (-(S i - S c_), -(R c_ - R i)) else loN S R c_ i := rfl
                        have hr3 : isN S R c_ (i + 1) = true := by
                          show (isN S R c_ i && decide (R c_ - R i ≠ 0 ∨ 0 ≤ S i - S c_)) = true
                          rw [his, Bool.true_and]; exact decide_eq_true (by omega)
                        have ihh := ih hr3
                        first
                          | (exfalso; omega)
                          | (rw [if_pos (by omega)] at hr1; rw [hr1] at ihh; first | (rw [if_pos (by omega)] at hr2; rw [hr2] at ihh; exact ihh _ _ _ _) | (rw [if_neg (by omega)] at hr2; rw [hr2] at ihh; exact ihh _ _ _ _))
                          | (rw [if_neg (by omega)] at hr1; rw [hr1] at ihh; first | (rw [if_pos (by omega)] at hr2; rw [hr2] at ihh; exact ihh _ _ _ _) | (rw [if_neg (by omega)] at hr2; rw [hr2] at ihh; exact ihh _ _ _ _))
                      · try simp only [decide_eq_true_eq, decide_eq_false_iff_not, Bool.and_eq_true, bI_0, bI_n0] at c_135
                        refine Wp.lload dX1_findSpan_138 rfl rfl ?_
                        refine Wp.lneg dX1_findSpan_140 rfl ?_
                        rw [lI_neg]
                        refine Wp.lstore_n dX1_findSpan_141 (Nat.le_of_ble_eq_true rfl) (by dsimp only [ev_st1, ev_st2, ev_cl] <;> rfl) rfl ?_
                        refine Wp.lload dX1_findSpan_142 rfl rfl ?_
                        refine Wp.lneg dX1_findSpan_144 rfl ?_
                        rw [lI_neg]
                        refine Wp.lstore dX1_findSpan_145 (Nat.le_of_ble_eq_true rfl) (by dsimp only [ev_st1, ev_st2, ev_cl] <;> rfl) rfl ?_
                        refine Wp.iinc (v := _ + (nI 1)) dX1_findSpan_147 rfl rfl (Nat.le_of_ble_eq_true rfl) (by dsimp only [ev_st1, ev_cl] <;> rfl) rfl ?_
                        refine Wp.goto (n := 14) dX1_findSpan_150 (by decide) ?_
                        rw [nI_add1]
                        have hr1 : hiN S R c_ (i + 1) = if 0 < R c_ - R i ∧ ((hiN S R c_ i).2 = 0 ∨ (S i - S c_) * (hiN S R c_ i).2 < (hiN S R c_ i).1 * (R c_ - R i)) then (S i - S c_, R c_ - R i) else hiN S R c_ i := rfl
                        have hr2 : loN S R c_ (i + 1) = if R c_ - R i < 0 ∧ ((loN S R c_ i).2 = 0 ∨ (S i - S c_) * (loN S R c_ i).2 < (loN S R c_ i).1 * (R c_ - R i)) then (-(S i - S c_), -(R c_ - R i)) else loN S R c_ i := rfl
                        have hr3 : isN S R c_ (i + 1) = true := by
                          show (isN S R c_ i && decide (R c_ - R i ≠ 0 ∨ 0 ≤ S i - S c_)) = true
                          rw [his, Bool.true_and]; exact decide_eq_true (by omega)
                        have ihh := ih hr3
                        first
                          | (exfalso; omega)
                          | (rw [if_pos (by omega)] at hr1; rw [hr1] at ihh; first | (rw [if_pos (by omega)] at hr2; rw [hr2] at ihh; exact ihh _ _ _ _) | (rw [if_neg (by omega)] at hr2; rw [hr2] at ihh; exact ihh _ _ _ _))
                          | (rw [if_neg (by omega)] at hr1; rw [hr1] at ihh; first | (rw [if_pos (by omega)] at hr2; rw [hr2] at ihh; exact ihh _ _ _ _) | (rw [if_neg (by omega)] at hr2; rw [hr2] at ihh; exact ihh _ _ _ _))
          · try simp (disch := omega) only [nI_bit0, nI_bit1, Bool.not_eq_false, Bool.not_eq_true] at c_67
            try simp (disch := omega) only [i_lt, i_le, i_eq, l_lt, l_le, l_eq, i_0, i_m1, l_0, nI_tI, iI_tI, lI_tI, Int.not_lt, Int.not_le] at c_67
            refine Wp.iconst (v := (nI 0)) dX1_findSpan_71 (by decide) rfl ?_
            exact Wp.zret dX1_findSpan_72 rfl (by decide) (by
              have hno : spB S R c_ n = false := by
                have h1 : isN S R c_ n = false := isN_no (i := i) n hi (by omega) (by omega)
                simp [spB, h1]
              rw [hno]; exact ⟨rfl, _, (ev_up_same hf).symm, fun z => Bool.noConfusion z⟩)
    · intro his j12 j13 j14 j15
      have hlo := loN_b hB hc n (Nat.le_refl _)
      have hhi := hiN_b hB hc n (Nat.le_refl _)
      have m1 := mulb (a := (hiN S R c_ n).1) (b := (loN S R c_ n).2) (A := 2400) (C := 480) (by omega) (by omega)
      have m2 := mulb (a := (loN S R c_ n).1) (b := (hiN S R c_ n).2) (A := 2400) (C := 480) (by omega) (by omega)
      refine Wp.iload dX1_findSpan_14 rfl rfl ?_
      refine Wp.aload_n dX1_findSpan_16 rfl (by first | exact Or.inr ⟨_, rfl⟩ | exact Or.inl rfl) rfl ?_
      refine Wp.get dX1_findSpan_17 fl_X1_21 hV v3 rfl ?_
      refine Wp.icmp_ge (tgt := 153) (n := 23) dX1_findSpan_20 (by decide) rfl (fun c_20 => ?_) (fun c_20 => ?_)
      · try simp (disch := omega) only [nI_bit0, nI_bit1, Bool.not_eq_false, Bool.not_eq_true] at c_20
        try simp (disch := omega) only [i_lt, i_le, i_eq, l_lt, l_le, l_eq, i_0, i_m1, l_0, nI_tI, iI_tI, lI_tI, Int.not_lt, Int.not_le] at c_20
        refine Wp.lload dX1_findSpan_153 rfl rfl ?_
        refine Wp.lconst (v := 0) dX1_findSpan_155 (by decide) rfl ?_
        rw [L0]
        refine Wp.lcmp_le (tgt := 182) (n := 160) dX1_findSpan_156 rfl dX1_findSpan_157 (by decide) rfl (fun c_156 => ?_) (fun c_156 => ?_)
        · try simp (disch := omega) only [nI_bit0, nI_bit1, Bool.not_eq_false, Bool.not_eq_true] at c_156
          try simp (disch := omega) only [i_lt, i_le, i_eq, l_lt, l_le, l_eq, i_0, i_m1, l_0, nI_tI, iI_tI, lI_tI, Int.not_lt, Int.not_le] at c_156
          refine Wp.aload_n dX1_findSpan_182 rfl (by first | exact Or.inr ⟨_, rfl⟩ | exact Or.inl rfl) rfl ?_
          refine Wp.iconst (v := (nI 1)) dX1_findSpan_183 (by decide) rfl ?_
          refine Wp.lload_n dX1_findSpan_184 rfl rfl ?_
          refine Wp.lload dX1_findSpan_185 rfl rfl ?_
          refine Wp.iconst (v := (nI 0)) dX1_findSpan_187 (by decide) rfl ?_
          refine Wp.cSN dX1_findSpan_188 cs_X1_69 rfl (by omega) rfl (Nat.le_of_ble_eq_true rfl) (Nat.le_of_ble_eq_true rfl) rfl (c_X11_lowest (d := d - 1) (sm_b (by omega) (by omega)) (sm_b (by omega) (by omega)) (by omega) (by omega)) ?_
          rintro _ h_ ⟨rfl, e_⟩
          rw [e_]
          clear e_ h_
          dsimp only [Option.toList, List.drop, List.cons_append, List.nil_append]
          rw [show decide ((nI 0 : Int32) = 0) = true from by decide]
          refine Wp.lastore dX1_findSpan_191 hf (j := 1) (by decide) (by omega) rfl ?_
          refine Wp.aload_n dX1_findSpan_192 rfl (by first | exact Or.inr ⟨_, rfl⟩ | exact Or.inl rfl) rfl ?_
          refine Wp.iconst (v := (nI 2)) dX1_findSpan_193 (by decide) rfl ?_
          refine Wp.lload_n dX1_findSpan_194 rfl rfl ?_
          refine Wp.lload dX1_findSpan_195 rfl rfl ?_
          refine Wp.iconst (v := (nI 1)) dX1_findSpan_197 (by decide) rfl ?_
          refine Wp.cSN dX1_findSpan_198 cs_X1_69 rfl (by omega) rfl (Nat.le_of_ble_eq_true rfl) (Nat.le_of_ble_eq_true rfl) rfl (c_X11_lowest (d := d - 1) (sm_b (by omega) (by omega)) (sm_b (by omega) (by omega)) (by omega) (by omega)) ?_
          rintro _ h_ ⟨rfl, e_⟩
          rw [e_]
          clear e_ h_
          dsimp only [Option.toList, List.drop, List.cons_append, List.nil_append]
          rw [show decide ((nI 1 : Int32) = 0) = false from by decide]
          refine Wp.lastore dX1_findSpan_201 ev_up_s (j := 2) (by decide) (by omega) rfl ?_
          rw [ev_up_up]
          refine Wp.aload_n dX1_findSpan_202 rfl (by first | exact Or.inr ⟨_, rfl⟩ | exact Or.inl rfl) rfl ?_
          refine Wp.iconst (v := (nI 3)) dX1_findSpan_203 (by decide) rfl ?_
          refine Wp.lload dX1_findSpan_204 rfl rfl ?_
          refine Wp.lload dX1_findSpan_206 rfl rfl ?_
          refine Wp.iconst (v := (nI 0)) dX1_findSpan_208 (by decide) rfl ?_
          refine Wp.cSN dX1_findSpan_209 cs_X1_69 rfl (by omega) rfl (Nat.le_of_ble_eq_true rfl) (Nat.le_of_ble_eq_true rfl) rfl (c_X11_lowest (d := d - 1) (sm_b (by omega) (by omega)) (sm_b (by omega) (by omega)) (by omega) (by omega)) ?_
          rintro _ h_ ⟨rfl, e_⟩
          rw [e_]
          clear e_ h_
          dsimp only [Option.toList, List.drop, List.cons_append, List.nil_append]
          rw [show decide ((nI 0 : Int32) = 0) = true from by decide]
          refine Wp.lastore dX1_findSpan_212 ev_up_s (j := 3) (by decide) (by omega) rfl ?_
          rw [ev_up_up]
          refine Wp.aload_n dX1_findSpan_213 rfl (by first | exact Or.inr ⟨_, rfl⟩ | exact Or.inl rfl) rfl ?_
          refine Wp.iconst (v := (nI 4)) dX1_findSpan_214 (by decide) rfl ?_
          refine Wp.lload dX1_findSpan_215 rfl rfl ?_
          refine Wp.lload dX1_findSpan_217 rfl rfl ?_
          refine Wp.iconst (v := (nI 1)) dX1_findSpan_219 (by decide) rfl ?_
          refine Wp.cSN dX1_findSpan_220 cs_X1_69 rfl (by omega) rfl (Nat.le_of_ble_eq_true rfl) (Nat.le_of_ble_eq_true rfl) rfl (c_X11_lowest (d := d - 1) (sm_b (by omega) (by omega)) (sm_b (by omega) (by omega)) (by omega) (by omega)) ?_
          rintro _ h_ ⟨rfl, e_⟩
          rw [e_]
          clear e_ h_
          dsimp only [Option.toList, List.drop, List.cons_append, List.nil_append]
          rw [show decide ((nI 1 : Int32) = 0) = false from by decide]
          refine Wp.lastore dX1_findSpan_223 ev_up_s (j := 4) (by decide) (by omega) rfl ?_
          rw [ev_up_up]
          refine Wp.iconst (v := (nI 1)) dX1_findSpan_224 (by decide) rfl ?_
          exact Wp.zret dX1_findSpan_225 rfl (by decide) (by
            have hyes : spB S R c_ n = true := by simp only [spB, his, Bool.true_and]; exact decide_eq_true (by omega)
            rw [hyes]
            refine ⟨rfl, _, rfl, fun _ => ⟨?_, ?_, ?_, ?_⟩⟩ <;> simp [vp_updL])
        · try simp (disch := omega) only [nI_bit0, nI_bit1, Bool.not_eq_false, Bool.not_eq_true] at c_156
          try simp (disch := omega) only [i_lt, i_le, i_eq, l_lt, l_le, l_eq, i_0, i_m1, l_0, nI_tI, iI_tI, lI_tI, Int.not_lt, Int.not_le] at c_156
          refine Wp.lload dX1_findSpan_160 rfl rfl ?_
          refine Wp.lconst (v := 0) dX1_findSpan_162 (by decide) rfl ?_
          rw [L0]
          refine Wp.lcmp_le (tgt := 182) (n := 167) dX1_findSpan_163 rfl dX1_findSpan_164 (by decide) rfl (fun c_163 => ?_) (fun c_163 => ?_)
          · try simp (disch := omega) only [nI_bit0, nI_bit1, Bool.not_eq_false, Bool.not_eq_true] at c_163
            try simp (disch := omega) only [i_lt, i_le, i_eq, l_lt, l_le, l_eq, i_0, i_m1, l_0, nI_tI, iI_tI, lI_tI, Int.not_lt, Int.not_le] at c_163
            refine Wp.aload_n dX1_findSpan_182 rfl (by first | exact Or.inr ⟨_, rfl⟩ | exact Or.inl rfl) rfl ?_
            refine Wp.iconst (v := (nI 1)) dX1_findSpan_183 (by decide) rfl ?_
            refine Wp.lload_n dX1_findSpan_184 rfl rfl ?_
            refine Wp.lload dX1_findSpan_185 rfl rfl ?_
            refine Wp.iconst (v := (nI 0)) dX1_findSpan_187 (by decide) rfl ?_
            refine Wp.cSN dX1_findSpan_188 cs_X1_69 rfl (by omega) rfl (Nat.le_of_ble_eq_true rfl) (Nat.le_of_ble_eq_true rfl) rfl (c_X11_lowest (d := d - 1) (sm_b (by omega) (by omega)) (sm_b (by omega) (by omega)) (by omega) (by omega)) ?_
            rintro _ h_ ⟨rfl, e_⟩
            rw [e_]
            clear e_ h_
            dsimp only [Option.toList, List.drop, List.cons_append, List.nil_append]
            rw [show decide ((nI 0 : Int32) = 0) = true from by decide]
            refine Wp.lastore dX1_findSpan_191 hf (j := 1) (by decide) (by omega) rfl ?_
            refine Wp.aload_n dX1_findSpan_192 rfl (by first | exact Or.inr ⟨_, rfl⟩ | exact Or.inl rfl) rfl ?_
            refine Wp.iconst (v := (nI 2)) dX1_findSpan_193 (by decide) rfl ?_
            refine Wp.lload_n dX1_findSpan_194 rfl rfl ?_
            refine Wp.lload dX1_findSpan_195 rfl rfl ?_
            refine Wp.iconst (v := (nI 1)) dX1_findSpan_197 (by decide) rfl ?_
            refine Wp.cSN dX1_findSpan_198 cs_X1_69 rfl (by omega) rfl (Nat.le_of_ble_eq_true rfl) (Nat.le_of_ble_eq_true rfl) rfl (c_X11_lowest (d := d - 1) (sm_b (by omega) (by omega)) (sm_b (by omega) (by omega)) (by omega) (by omega)) ?_
            rintro _ h_ ⟨rfl, e_⟩
            rw [e_]
            clear e_ h_
            dsimp only [Option.toList, List.drop, List.cons_append, List.nil_append]
            rw [show decide ((nI 1 : Int32) = 0) = false from by decide]
            refine Wp.lastore dX1_findSpan_201 ev_up_s (j := 2) (by decide) (by omega) rfl ?_
            rw [ev_up_up]
            refine Wp.aload_n dX1_findSpan_202 rfl (by first | exact Or.inr ⟨_, rfl⟩ | exact Or.inl rfl) rfl ?_
            refine Wp.iconst (v := (nI 3)) dX1_findSpan_203 (by decide) rfl ?_
            refine Wp.lload dX1_findSpan_204 rfl rfl ?_
            refine Wp.lload dX1_findSpan_206 rfl rfl ?_
            refine Wp.iconst (v := (nI 0)) dX1_findSpan_208 (by decide) rfl ?_
            refine Wp.cSN dX1_findSpan_209 cs_X1_69 rfl (by omega) rfl (Nat.le_of_ble_eq_true rfl) (Nat.le_of_ble_eq_true rfl) rfl (c_X11_lowest (d := d - 1) (sm_b (by omega) (by omega)) (sm_b (by omega) (by omega)) (by omega) (by omega)) ?_
            rintro _ h_ ⟨rfl, e_⟩
            rw [e_]
            clear e_ h_
            dsimp only [Option.toList, List.drop, List.cons_append, List.nil_append]
            rw [show decide ((nI 0 : Int32) = 0) = true from by decide]
            refine Wp.lastore dX1_findSpan_212 ev_up_s (j := 3) (by decide) (by omega) rfl ?_
            rw [ev_up_up]
            refine Wp.aload_n dX1_findSpan_213 rfl (by first | exact Or.inr ⟨_, rfl⟩ | exact Or.inl rfl) rfl ?_
            refine Wp.iconst (v := (nI 4)) dX1_findSpan_214 (by decide) rfl ?_
            refine Wp.lload dX1_findSpan_215 rfl rfl ?_
            refine Wp.lload dX1_findSpan_217 rfl rfl ?_
            refine Wp.iconst (v := (nI 1)) dX1_findSpan_219 (by decide) rfl ?_
            refine Wp.cSN dX1_findSpan_220 cs_X1_69 rfl (by omega) rfl (Nat.le_of_ble_eq_true rfl) (Nat.le_of_ble_eq_true rfl) rfl (c_X11_lowest (d := d - 1) (sm_b (by omega) (by omega)) (sm_b (by omega) (by omega)) (by omega) (by omega)) ?_
            rintro _ h_ ⟨rfl, e_⟩
            rw [e_]
            clear e_ h_
            dsimp only [Option.toList, List.drop, List.cons_append, List.nil_append]
            rw [show decide ((nI 1 : Int32) = 0) = false from by decide]
            refine Wp.lastore dX1_findSpan_223 ev_up_s (j := 4) (by decide) (by omega) rfl ?_
            rw [ev_up_up]
            refine Wp.iconst (v := (nI 1)) dX1_findSpan_224 (by decide) rfl ?_
            exact Wp.zret dX1_findSpan_225 rfl (by decide) (by
              have hyes : spB S R c_ n = true := by simp only [spB, his, Bool.true_and]; exact decide_eq_true (by omega)
              rw [hyes]
              refine ⟨rfl, _, rfl, fun _ => ⟨?_, ?_, ?_, ?_⟩⟩ <;> simp [vp_updL])
          · try simp (disch := omega) only [nI_bit0, nI_bit1, Bool.not_eq_false, Bool.not_eq_true] at c_163
            try simp (disch := omega) only [i_lt, i_le, i_eq, l_lt, l_le, l_eq, i_0, i_m1, l_0, nI_tI, iI_tI, lI_tI, Int.not_lt, Int.not_le] at c_163
            refine Wp.lload dX1_findSpan_167 rfl rfl ?_
            refine Wp.lload dX1_findSpan_169 rfl rfl ?_
            refine Wp.lload_n dX1_findSpan_171 rfl rfl ?_
            refine Wp.lload dX1_findSpan_172 rfl rfl ?_
            refine Wp.cSN dX1_findSpan_174 cs_X1_65 rfl (by omega) rfl (Nat.le_of_ble_eq_true rfl) (Nat.le_of_ble_eq_true rfl) rfl (c_X11_isLess (d := d - 1) ⟨by omega, by omega⟩ ⟨by omega, by omega⟩) ?_
            rintro _ h_ ⟨rfl, e_⟩
            rw [e_]
            clear e_ h_
            dsimp only [Option.toList, List.drop, List.cons_append, List.nil_append]
            refine Wp.bif_eq (tgt := 182) (n := 180) dX1_findSpan_177 (by decide) rfl (fun c_177 => ?_) (fun c_177 => ?_)
            · try simp only [decide_eq_true_eq, decide_eq_false_iff_not, Bool.and_eq_true, bI_0, bI_n0] at c_177
              refine Wp.aload_n dX1_findSpan_182 rfl (by first | exact Or.inr ⟨_, rfl⟩ | exact Or.inl rfl) rfl ?_
              refine Wp.iconst (v := (nI 1)) dX1_findSpan_183 (by decide) rfl ?_
              refine Wp.lload_n dX1_findSpan_184 rfl rfl ?_
              refine Wp.lload dX1_findSpan_185 rfl rfl ?_
              refine Wp.iconst (v := (nI 0)) dX1_findSpan_187 (by decide) rfl ?_
              refine Wp.cSN dX1_findSpan_188 cs_X1_69 rfl (by omega) rfl (Nat.le_of_ble_eq_true rfl) (Nat.le_of_ble_eq_true rfl) rfl (c_X11_lowest (d := d - 1) (sm_b (by omega) (by omega)) (sm_b (by omega) (by omega)) (by omega) (by omega)) ?_
              rintro _ h_ ⟨rfl, e_⟩
              rw [e_]
              clear e_ h_
              dsimp only [Option.toList, List.drop, List.cons_append, List.nil_append]
              rw [show decide ((nI 0 : Int32) = 0) = true from by decide]
              refine Wp.lastore dX1_findSpan_191 hf (j := 1) (by decide) (by omega) rfl ?_
              refine Wp.aload_n dX1_findSpan_192 rfl (by first | exact Or.inr ⟨_, rfl⟩ | exact Or.inl rfl) rfl ?_
              refine Wp.iconst (v := (nI 2)) dX1_findSpan_193 (by decide) rfl ?_
              refine Wp.lload_n dX1_findSpan_194 rfl rfl ?_
              refine Wp.lload dX1_findSpan_195 rfl rfl ?_
              refine Wp.iconst (v := (nI 1)) dX1_findSpan_197 (by decide) rfl ?_
              refine Wp.cSN dX1_findSpan_198 cs_X1_69 rfl (by omega) rfl (Nat.le_of_ble_eq_true rfl) (Nat.le_of_ble_eq_true rfl) rfl (c_X11_lowest (d := d - 1) (sm_b (by omega) (by omega)) (sm_b (by omega) (by omega)) (by omega) (by omega)) ?_
              rintro _ h_ ⟨rfl, e_⟩
              rw [e_]
              clear e_ h_
              dsimp only [Option.toList, List.drop, List.cons_append, List.nil_append]
              rw [show decide ((nI 1 : Int32) = 0) = false from by decide]
              refine Wp.lastore dX1_findSpan_201 ev_up_s (j := 2) (by decide) (by omega) rfl ?_
              rw [ev_up_up]
              refine Wp.aload_n dX1_findSpan_202 rfl (by first | exact Or.inr ⟨_, rfl⟩ | exact Or.inl rfl) rfl ?_
              refine Wp.iconst (v := (nI 3)) dX1_findSpan_203 (by decide) rfl ?_
              refine Wp.lload dX1_findSpan_204 rfl rfl ?_
              refine Wp.lload dX1_findSpan_206 rfl rfl ?_
              refine Wp.iconst (v := (nI 0)) dX1_findSpan_208 (by decide) rfl ?_
              refine Wp.cSN dX1_findSpan_209 cs_X1_69 rfl (by omega) rfl (Nat.le_of_ble_eq_true rfl) (Nat.le_of_ble_eq_true rfl) rfl (c_X11_lowest (d := d - 1) (sm_b (by omega) (by omega)) (sm_b (by omega) (by omega)) (by omega) (by omega)) ?_
              rintro _ h_ ⟨rfl, e_⟩
              rw [e_]
              clear e_ h_
              dsimp only [Option.toList, List.drop, List.cons_append, List.nil_append]
              rw [show decide ((nI 0 : Int32) = 0) = true from by decide]
              refine Wp.lastore dX1_findSpan_212 ev_up_s (j := 3) (by decide) (by omega) rfl ?_
              rw [ev_up_up]
              refine Wp.aload_n dX1_findSpan_213 rfl (by first | exact Or.inr ⟨_, rfl⟩ | exact Or.inl rfl) rfl ?_
              refine Wp.iconst (v := (nI 4)) dX1_findSpan_214 (by decide) rfl ?_
              refine Wp.lload dX1_findSpan_215 rfl rfl ?_
              refine Wp.lload dX1_findSpan_217 rfl rfl ?_
              refine Wp.iconst (v := (nI 1)) dX1_findSpan_219 (by decide) rfl ?_
              refine Wp.cSN dX1_findSpan_220 cs_X1_69 rfl (by omega) rfl (Nat.le_of_ble_eq_true rfl) (Nat.le_of_ble_eq_true rfl) rfl (c_X11_lowest (d := d - 1) (sm_b (by omega) (by omega)) (sm_b (by omega) (by omega)) (by omega) (by omega)) ?_
              rintro _ h_ ⟨rfl, e_⟩
              rw [e_]
              clear e_ h_
              dsimp only [Option.toList, List.drop, List.cons_append, List.nil_append]
              rw [show decide ((nI 1 : Int32) = 0) = false from by decide]
              refine Wp.lastore dX1_findSpan_223 ev_up_s (j := 4) (by decide) (by omega) rfl ?_
              rw [ev_up_up]
              refine Wp.iconst (v := (nI 1)) dX1_findSpan_224 (by decide) rfl ?_
              exact Wp.zret dX1_findSpan_225 rfl (by decide) (by
                have hyes : spB S R c_ n = true := by simp only [spB, his, Bool.true_and]; exact decide_eq_true (by omega)
                rw [hyes]
                refine ⟨rfl, _, rfl, fun _ => ⟨?_, ?_, ?_, ?_⟩⟩ <;> simp [vp_updL])
            · try simp only [decide_eq_true_eq, decide_eq_false_iff_not, Bool.and_eq_true, bI_0, bI_n0] at c_177
              refine Wp.iconst (v := (nI 0)) dX1_findSpan_180 (by decide) rfl ?_
              exact Wp.zret dX1_findSpan_181 rfl (by decide) (by
                have hno : spB S R c_ n = false := by simp only [spB, his, Bool.true_and]; exact decide_eq_false (by omega)
                rw [hno]; exact ⟨rfl, _, (ev_up_same hf).symm, fun z => Bool.noConfusion z⟩)
      · try simp (disch := omega) only [nI_bit0, nI_bit1, Bool.not_eq_false, Bool.not_eq_true] at c_20
        try simp (disch := omega) only [i_lt, i_le, i_eq, l_lt, l_le, l_eq, i_0, i_m1, l_0, nI_tI, iI_tI, lI_tI, Int.not_lt, Int.not_le] at c_20
        omega
  refine Wp.lconst (v := 0) dX1_findSpan_0 (by decide) rfl ?_
  refine Wp.lstore_n dX1_findSpan_1 (Nat.le_of_ble_eq_true rfl) (by dsimp only [ev_st1, ev_st2, ev_cl] <;> rfl) rfl ?_
  refine Wp.lconst (v := 0) dX1_findSpan_2 (by decide) rfl ?_
  refine Wp.lstore dX1_findSpan_3 (Nat.le_of_ble_eq_true rfl) (by dsimp only [ev_st1, ev_st2, ev_cl] <;> rfl) rfl ?_
  refine Wp.lconst (v := 0) dX1_findSpan_5 (by decide) rfl ?_
  refine Wp.lstore dX1_findSpan_6 (Nat.le_of_ble_eq_true rfl) (by dsimp only [ev_st1, ev_st2, ev_cl] <;> rfl) rfl ?_
  refine Wp.lconst (v := 0) dX1_findSpan_8 (by decide) rfl ?_
  refine Wp.lstore dX1_findSpan_9 (Nat.le_of_ble_eq_true rfl) (by dsimp only [ev_st1, ev_st2, ev_cl] <;> rfl) rfl ?_
  refine Wp.iconst (v := (nI 0)) dX1_findSpan_11 (by decide) rfl ?_
  refine Wp.istore dX1_findSpan_12 (Nat.le_of_ble_eq_true rfl) (by dsimp only [ev_st1, ev_st2, ev_cl] <;> rfl) rfl ?_
  exact loop 0 (by omega) rfl _ _ _ _
/-- the regret by both ends of a window -/
def rg2 (S R : Nat → Int) (n c : Nat) (p q p2 q2 : Int) : Int × Int := if (cst S R p q c - mnN (cst S R p q) n) * q2 < (cst S R p2 q2 c - mnN (cst S R p2 q2) n) * q then (cst S R p2 q2 c - mnN (cst S R p2 q2) n, q2) else (cst S R p q c - mnN (cst S R p q) n, q)
theorem rg_b {n : Nat} {S R : Nat → Int} {p q : Int} {c : Nat} (hB : PrB n S R) (hc : c < n) (hp : isP p q) : 0 ≤ cst S R p q c - mnN (cst S R p q) n ∧ cst S R p q c - mnN (cst S R p q) n ≤ 28800000 := by
  have h1 := cst_b2 (p := p) (q := q) hB hc hp.1.1 hp.1.2 (by have := hp.2.1; omega) (by have := hp.2.2; omega)
  have h2 := mnN_b2 (p := p) (q := q) hB (by omega : 0 < n) hp.1.1 hp.1.2 (by have := hp.2.1; omega) (by have := hp.2.2; omega)
  have h3 := mnN_le (cst S R p q) n c hc
  omega
theorem rg2_b {n : Nat} {S R : Nat → Int} {p q p2 q2 : Int} {c : Nat} (hB : PrB n S R) (hc : c < n) (hp : isP p q) (hp2 : isP p2 q2) : 0 ≤ (rg2 S R n c p q p2 q2).1 ∧ (rg2 S R n c p q p2 q2).1 ≤ 28800000 ∧ 0 < (rg2 S R n c p q p2 q2).2 ∧ (rg2 S R n c p q p2 q2).2 ≤ 1000 := by
  have h1 := rg_b hB hc hp
  have h2 := rg_b hB hc hp2
  unfold rg2
  split
  · dsimp only; omega
  · dsimp only; omega
set_option maxHeartbeats 1000000 in
theorem c_X1_findRegret {B : ev_B} {d a n f c_ w_ : Nat} {h : ev_H} {c : Nat → Nat} {S R : Nat → Int} {z : Nat → Int64} {p q p2 q2 : Int} (hC : ChoH h a n c S R) (hB : PrB n S R) (hw : WinH h w_ p q p2 q2) (hw1 : isP p q) (hw2 : isP p2 q2) (hf : h.1 f = some (ev_la 5 z)) (hwf : w_ ≠ f) (hc : c_ < n) (hd : 3 ≤ d) :
    Wp B d M_X1_findRegret 0 [some (.ref a), some (.int (nI c_)), some (.ref w_), some (.ref f), none, none, none, none, none] [] h (fun v h' => v = none ∧ ∃ z', h' = ev_up h f (ev_la 5 z') ∧ z' 0 = lI (rg2 S R n c_ p q p2 q2).1 ∧ z' 1 = lI (rg2 S R n c_ p q p2 q2).2) := by
  obtain ⟨V, a0, a1, a2, cap, g0, g1, g2, hV, v0, v1, v2, v3, k0, k1, k2, hcap, hg⟩ := id hC
  have hn4 := hB.1
  have hbb := hB.2
  obtain ⟨Vw, hVw, u0, u1, u2, u3⟩ := id hw
  have hpq1 : pqB p q := ⟨by omega, by omega, by omega, by omega⟩
  have hpq2 : pqB p2 q2 := ⟨by omega, by omega, by omega, by omega⟩
  have h0 : 0 < n := by omega
  have r1 := rg_b hB hc hw1
  have r2 := rg_b hB hc hw2
  have m1 := mulb (a := cst S R p q c_ - mnN (cst S R p q) n) (b := q2) (A := 28800000) (C := 1000) (by omega) (by omega)
  have m2 := mulb (a := cst S R p2 q2 c_ - mnN (cst S R p2 q2) n) (b := q) (A := 28800000) (C := 1000) (by omega) (by omega)
  refine Wp.aload_n dX1_findRegret_0 rfl (by first | exact Or.inr ⟨_, rfl⟩ | exact Or.inl rfl) rfl ?_
  refine Wp.iload_n dX1_findRegret_1 rfl rfl ?_
  refine Wp.aload_n dX1_findRegret_2 rfl (by first | exact Or.inr ⟨_, rfl⟩ | exact Or.inl rfl) rfl ?_
  refine Wp.get dX1_findRegret_3 fl_X1_73 hVw u0 rfl ?_
  refine Wp.aload_n dX1_findRegret_6 rfl (by first | exact Or.inr ⟨_, rfl⟩ | exact Or.inl rfl) rfl ?_
  refine Wp.get dX1_findRegret_7 fl_X1_78 hVw u1 rfl ?_
  refine Wp.cV dX1_findRegret_10 cv_X1_50 rfl (by omega) rfl (Nat.le_of_ble_eq_true rfl) (Nat.le_of_ble_eq_true rfl) hV rfl (c_X1_costAt (d := d - 1) (j := c_) hC hB (iI_tI (by omega) (by omega)) (iI_tI (by omega) (by omega)) hpq1 hc) ?_
  rintro _ h_ ⟨rfl, e_⟩
  rw [e_]
  clear e_ h_
  dsimp only [Option.toList, List.drop, List.cons_append, List.nil_append]
  refine Wp.aload_n dX1_findRegret_13 rfl (by first | exact Or.inr ⟨_, rfl⟩ | exact Or.inl rfl) rfl ?_
  refine Wp.aload_n dX1_findRegret_14 rfl (by first | exact Or.inr ⟨_, rfl⟩ | exact Or.inl rfl) rfl ?_
  refine Wp.get dX1_findRegret_15 fl_X1_73 hVw u0 rfl ?_
  refine Wp.aload_n dX1_findRegret_18 rfl (by first | exact Or.inr ⟨_, rfl⟩ | exact Or.inl rfl) rfl ?_
  refine Wp.get dX1_findRegret_19 fl_X1_78 hVw u1 rfl ?_
  refine Wp.cV dX1_findRegret_22 cv_X1_81 rfl (by omega) rfl (Nat.le_of_ble_eq_true rfl) (Nat.le_of_ble_eq_true rfl) hV rfl (c_X1_leastAt (d := d - 1) hC hB (iI_tI (by omega) (by omega)) (iI_tI (by omega) (by omega)) hpq1 (by omega)) ?_
  rintro _ h_ ⟨rfl, e_⟩
  rw [e_]
  clear e_ h_
  dsimp only [Option.toList, List.drop, List.cons_append, List.nil_append]
  rw [mnI_s h0]
  refine Wp.lsub dX1_findRegret_25 rfl ?_
  rw [lI_sub]
  refine Wp.lstore dX1_findRegret_26 (Nat.le_of_ble_eq_true rfl) (by dsimp only [ev_st1, ev_st2, ev_cl] <;> rfl) rfl ?_
  refine Wp.aload_n dX1_findRegret_28 rfl (by first | exact Or.inr ⟨_, rfl⟩ | exact Or.inl rfl) rfl ?_
  refine Wp.iload_n dX1_findRegret_29 rfl rfl ?_
  refine Wp.aload_n dX1_findRegret_30 rfl (by first | exact Or.inr ⟨_, rfl⟩ | exact Or.inl rfl) rfl ?_
  refine Wp.get dX1_findRegret_31 fl_X1_85 hVw u2 rfl ?_
  refine Wp.aload_n dX1_findRegret_34 rfl (by first | exact Or.inr ⟨_, rfl⟩ | exact Or.inl rfl) rfl ?_
  refine Wp.get dX1_findRegret_35 fl_X1_88 hVw u3 rfl ?_
  refine Wp.cV dX1_findRegret_38 cv_X1_50 rfl (by omega) rfl (Nat.le_of_ble_eq_true rfl) (Nat.le_of_ble_eq_true rfl) hV rfl (c_X1_costAt (d := d - 1) (j := c_) hC hB (iI_tI (by omega) (by omega)) (iI_tI (by omega) (by omega)) hpq2 hc) ?_
  rintro _ h_ ⟨rfl, e_⟩
  rw [e_]
  clear e_ h_
  dsimp only [Option.toList, List.drop, List.cons_append, List.nil_append]
  refine Wp.aload_n dX1_findRegret_41 rfl (by first | exact Or.inr ⟨_, rfl⟩ | exact Or.inl rfl) rfl ?_
  refine Wp.aload_n dX1_findRegret_42 rfl (by first | exact Or.inr ⟨_, rfl⟩ | exact Or.inl rfl) rfl ?_
  refine Wp.get dX1_findRegret_43 fl_X1_85 hVw u2 rfl ?_
  refine Wp.aload_n dX1_findRegret_46 rfl (by first | exact Or.inr ⟨_, rfl⟩ | exact Or.inl rfl) rfl ?_
  refine Wp.get dX1_findRegret_47 fl_X1_88 hVw u3 rfl ?_
  refine Wp.cV dX1_findRegret_50 cv_X1_81 rfl (by omega) rfl (Nat.le_of_ble_eq_true rfl) (Nat.le_of_ble_eq_true rfl) hV rfl (c_X1_leastAt (d := d - 1) hC hB (iI_tI (by omega) (by omega)) (iI_tI (by omega) (by omega)) hpq2 (by omega)) ?_
  rintro _ h_ ⟨rfl, e_⟩
  rw [e_]
  clear e_ h_
  dsimp only [Option.toList, List.drop, List.cons_append, List.nil_append]
  rw [mnI_s h0]
  refine Wp.lsub dX1_findRegret_53 rfl ?_
  rw [lI_sub]
  refine Wp.lstore dX1_findRegret_54 (Nat.le_of_ble_eq_true rfl) (by dsimp only [ev_st1, ev_st2, ev_cl] <;> rfl) rfl ?_
  refine Wp.lload dX1_findRegret_56 rfl rfl ?_
  refine Wp.aload_n dX1_findRegret_58 rfl (by first | exact Or.inr ⟨_, rfl⟩ | exact Or.inl rfl) rfl ?_
  refine Wp.get dX1_findRegret_59 fl_X1_78 hVw u1 rfl ?_
  refine Wp.i2l dX1_findRegret_62 rfl ?_
  rw [iI_l (by omega) (by omega)]
  refine Wp.lload dX1_findRegret_63 rfl rfl ?_
  refine Wp.aload_n dX1_findRegret_65 rfl (by first | exact Or.inr ⟨_, rfl⟩ | exact Or.inl rfl) rfl ?_
  refine Wp.get dX1_findRegret_66 fl_X1_88 hVw u3 rfl ?_
  refine Wp.i2l dX1_findRegret_69 rfl ?_
  rw [iI_l (by omega) (by omega)]
  refine Wp.cSN dX1_findRegret_70 cs_X1_65 rfl (by omega) rfl (Nat.le_of_ble_eq_true rfl) (Nat.le_of_ble_eq_true rfl) rfl (c_X11_isLess (d := d - 1) ⟨by omega, by omega⟩ ⟨by omega, by omega⟩) ?_
  rintro _ h_ ⟨rfl, e_⟩
  rw [e_]
  clear e_ h_
  dsimp only [Option.toList, List.drop, List.cons_append, List.nil_append]
  rcases hlt : decide ((cst S R p q c_ - mnN (cst S R p q) n) * q2 < (cst S R p2 q2 c_ - mnN (cst S R p2 q2) n) * q) with _ | _
  · refine Wp.istore dX1_findRegret_73 (Nat.le_of_ble_eq_true rfl) (by dsimp only [ev_st1, ev_st2, ev_cl] <;> rfl) rfl ?_
    refine Wp.aload_n dX1_findRegret_75 rfl (by first | exact Or.inr ⟨_, rfl⟩ | exact Or.inl rfl) rfl ?_
    refine Wp.iconst (v := (nI 0)) dX1_findRegret_76 (by decide) rfl ?_
    refine Wp.iload dX1_findRegret_77 rfl rfl ?_
    refine Wp.bif_eq (tgt := 87) (n := 82) dX1_findRegret_79 (by decide) rfl (fun _ => ?_) (fun c_ => Bool.noConfusion c_)
    refine Wp.lload dX1_findRegret_87 rfl rfl ?_
    refine Wp.lastore dX1_findRegret_89 hf (j := 0) (by decide) (by omega) rfl ?_
    refine Wp.aload_n dX1_findRegret_90 rfl (by first | exact Or.inr ⟨_, rfl⟩ | exact Or.inl rfl) rfl ?_
    refine Wp.iconst (v := (nI 1)) dX1_findRegret_91 (by decide) rfl ?_
    refine Wp.iload dX1_findRegret_92 rfl rfl ?_
    refine Wp.bif_eq (tgt := 105) (n := 97) dX1_findRegret_94 (by decide) rfl (fun _ => ?_) (fun c_ => Bool.noConfusion c_)
    refine Wp.aload_n dX1_findRegret_105 rfl (by first | exact Or.inr ⟨_, rfl⟩ | exact Or.inl rfl) rfl ?_
    refine Wp.get dX1_findRegret_106 fl_X1_78 ((ev_up_o hwf).trans hVw) u1 rfl ?_
    refine Wp.i2l dX1_findRegret_109 rfl ?_
    rw [iI_l (by omega) (by omega)]
    refine Wp.lastore dX1_findRegret_110 ev_up_s (j := 1) (by decide) (by omega) rfl ?_
    rw [ev_up_up]
    exact Wp.vret dX1_findRegret_111 rfl (by have hlt := of_decide_eq_false hlt; refine ⟨rfl, _, rfl, ?_, ?_⟩ <;> rw [rg2, if_neg hlt] <;> simp [vp_updL])
  · refine Wp.istore dX1_findRegret_73 (Nat.le_of_ble_eq_true rfl) (by dsimp only [ev_st1, ev_st2, ev_cl] <;> rfl) rfl ?_
    refine Wp.aload_n dX1_findRegret_75 rfl (by first | exact Or.inr ⟨_, rfl⟩ | exact Or.inl rfl) rfl ?_
    refine Wp.iconst (v := (nI 0)) dX1_findRegret_76 (by decide) rfl ?_
    refine Wp.iload dX1_findRegret_77 rfl rfl ?_
    refine Wp.bif_eq (tgt := 87) (n := 82) dX1_findRegret_79 (by decide) rfl (fun c_ => Bool.noConfusion c_) (fun _ => ?_)
    refine Wp.lload dX1_findRegret_82 rfl rfl ?_
    refine Wp.goto (n := 89) dX1_findRegret_84 (by decide) ?_
    refine Wp.lastore dX1_findRegret_89 hf (j := 0) (by decide) (by omega) rfl ?_
    refine Wp.aload_n dX1_findRegret_90 rfl (by first | exact Or.inr ⟨_, rfl⟩ | exact Or.inl rfl) rfl ?_
    refine Wp.iconst (v := (nI 1)) dX1_findRegret_91 (by decide) rfl ?_
    refine Wp.iload dX1_findRegret_92 rfl rfl ?_
    refine Wp.bif_eq (tgt := 105) (n := 97) dX1_findRegret_94 (by decide) rfl (fun c_ => Bool.noConfusion c_) (fun _ => ?_)
    refine Wp.aload_n dX1_findRegret_97 rfl (by first | exact Or.inr ⟨_, rfl⟩ | exact Or.inl rfl) rfl ?_
    refine Wp.get dX1_findRegret_98 fl_X1_88 ((ev_up_o hwf).trans hVw) u3 rfl ?_
    refine Wp.i2l dX1_findRegret_101 rfl ?_
    rw [iI_l (by omega) (by omega)]
    refine Wp.goto (n := 110) dX1_findRegret_102 (by decide) ?_
    refine Wp.lastore dX1_findRegret_110 ev_up_s (j := 1) (by decide) (by omega) rfl ?_
    rw [ev_up_up]
    exact Wp.vret dX1_findRegret_111 rfl (by have hlt := of_decide_eq_true hlt; refine ⟨rfl, _, rfl, ?_, ?_⟩ <;> rw [rg2, if_pos hlt] <;> simp [vp_updL])
