/-! the class: choices, reads -/
def ChoH (h : ev_H) (a n : Nat) (c : Nat → Nat) (S R : Nat → Int) : Prop := ∃ (V : Nat → Value) (a0 a1 a2 cap : Nat) (g0 g1 g2 : Nat → Int32), h.1 a = some (ev_ob 1 V) ∧ V 0 = .ref a0 ∧ V 1 = .ref a1 ∧ V 2 = .ref a2 ∧ V 3 = .int (nI n) ∧ h.1 a0 = some (ev_ia cap g0) ∧ h.1 a1 = some (ev_ia cap g1) ∧ h.1 a2 = some (ev_ia cap g2) ∧ n ≤ cap ∧ ∀ j, j < n → g0 j = nI (c j) ∧ g1 j = iI (S j) ∧ g2 j = iI (R j)
def WinH (h : ev_H) (w : Nat) (p q p2 q2 : Int) : Prop := ∃ V : Nat → Value, h.1 w = some (ev_ob 9 V) ∧ V 0 = .int (iI p) ∧ V 1 = .int (iI q) ∧ V 2 = .int (iI p2) ∧ V 3 = .int (iI q2)
def bsI (C K : Nat → Int) (n : Nat) : Int := if n = 0 then -1 else bst C K n
theorem bsI_s {C K : Nat → Int} {n : Nat} (h : 0 < n) : bsI C K n = (bst C K n : Nat) := by rw [bsI, if_neg (by omega)]
theorem bst_1 (C K : Nat → Int) : bst C K 1 = 0 := by simp [bst]
def mnI (C : Nat → Int) (n : Nat) : Int := if n = 0 then 0 else mnN C n
theorem ev_up_same {h : ev_H} {a : Nat} {e : ev_E} (he : h.1 a = some e) : ev_up h a e = h := by
  have : (fun q => if q = a then some e else h.1 q) = h.1 := by
    funext q
    by_cases hq : q = a
    · rw [if_pos hq, hq, he]
    · rw [if_neg hq]
  show ((fun q => if q = a then some e else h.1 q), h.2) = h
  rw [this]
theorem ev_up_up {h : ev_H} {a : Nat} {e e' : ev_E} : ev_up (ev_up h a e) a e' = ev_up h a e' := by
  show ((fun q => if q = a then some e' else (if q = a then some e else h.1 q)), h.2) = ((fun q => if q = a then some e' else h.1 q), h.2)
  congr 1
  funext q
  by_cases hq : q = a
  · rw [if_pos hq, if_pos hq]
  · rw [if_neg hq, if_neg hq, if_neg hq]
/-- the place of a set, as a call tells it -/
def plG (c : Nat → Nat) (n : Nat) (s : Int32) : Int := if 0 ≤ s.toInt ∧ s.toInt < 4096 then plN c n s.toInt.toNat n else -1
theorem plc_G (σ : Sg) (o : Nat) (s : Int32) : plc σ o s = plG (chC σ o) (chn σ o) s := rfl
theorem plG_in (c : Nat → Nat) (n : Nat) (s : Int32) : -1 ≤ plG c n s ∧ plG c n s < n := by
  unfold plG
  split
  · exact plN_in _ _ _ _ (Nat.le_refl _)
  · omega
theorem plG_pos {c : Nat → Nat} {n i : Nat} {s : Int32} (hc : c i < 4096) (hi : i < n) (h : nI (c i) = s) (hf : ∀ j, j < i → nI (c j) ≠ s) : plG c n s = i := by
  have hs : s.toInt = (c i : Int) := by rw [← h]; exact nI_toInt (by omega)
  have hr : 0 ≤ s.toInt ∧ s.toInt < 4096 := by omega
  unfold plG
  rw [if_pos hr]
  rcases plN_at (c := c) (s := s.toInt.toNat) n (Nat.le_refl _) with ⟨-, h2⟩ | ⟨j, h1, -, h3, h4, h5⟩
  · exact absurd (by omega) (h2 i (by omega) hi)
  · rw [h1]
    rcases Nat.lt_trichotomy i j with g | g | g
    · exact absurd (by omega) (h5 i (by omega) g)
    · rw [g]
    · exact absurd (by rw [h4, ← nI_of_r hr]) (hf j g)
theorem plG_none {c : Nat → Nat} {n : Nat} {s : Int32} (hf : ∀ j, j < n → nI (c j) ≠ s) : plG c n s = -1 := by
  unfold plG
  split
  · next hr =>
    refine plN_no _ (fun i hi e => hf i hi ?_) (Nat.le_refl _)
    rw [e, ← nI_of_r hr]
  · rfl
/-- the lowest unlike line is of the first set -/
def ahB (s t : Nat) : Int32 := (nI s &&& (nI s ^^^ nI t)) &&& (-(nI s ^^^ nI t))
theorem Kw_1 {R : Nat → Int} (j : Nat) : Kw 1 R j = R j := rfl
theorem Kw_2 {R : Nat → Int} (j : Nat) : Kw 2 R j = -R j := rfl
theorem Kw_0 {R : Nat → Int} {w : Nat} (h1 : w ≠ 1) (h2 : w ≠ 2) (j : Nat) : Kw w R j = 0 := by simp [Kw, h1, h2]
theorem c_X1_costAt {B : ev_B} {d a n : Nat} {h : ev_H} {c : Nat → Nat} {S R : Nat → Int} {p q : Int32} {P_ Q_ : Int} {j : Nat} (hC : ChoH h a n c S R) (hB : PrB n S R) (hp : p.toInt = P_) (hq : q.toInt = Q_) (hpq : pqB P_ Q_) (hj : j < n) :
    Wp B d M_X1_costAt 0 [some (.ref a), some (.int (nI j)), some (.int (p)), some (.int (q))] [] h (fun v h' => v = some (.long (lI (cst S R P_ Q_ j))) ∧ h' = h) := by
  obtain ⟨V, a0, a1, a2, cap, g0, g1, g2, hV, v0, v1, v2, v3, k0, k1, k2, hcap, hg⟩ := id hC
  have hn4 := hB.1
  have hbb := hB.2
  have hgj := hg j hj
  have hbj := hbb j hj
  refine Wp.aload_n dX1_costAt_0 rfl (by first | exact Or.inr ⟨_, rfl⟩ | exact Or.inl rfl) rfl ?_
  refine Wp.get dX1_costAt_1 fl_X1_15 hV v1 rfl ?_
  refine Wp.iload_n dX1_costAt_4 rfl rfl ?_
  refine Wp.iaload dX1_costAt_5 k1 (nI_toInt (by omega)) (by omega) rfl ?_
  rw [hgj.2.1]
  refine Wp.i2l dX1_costAt_6 rfl ?_
  rw [iI_l (by omega) (by omega)]
  refine Wp.iload_n dX1_costAt_7 rfl rfl ?_
  refine Wp.i2l dX1_costAt_8 rfl ?_
  rw [i2l_lI, hq]
  refine Wp.lmul dX1_costAt_9 rfl ?_
  rw [lI_mul]
  refine Wp.aload_n dX1_costAt_10 rfl (by first | exact Or.inr ⟨_, rfl⟩ | exact Or.inl rfl) rfl ?_
  refine Wp.get dX1_costAt_11 fl_X1_18 hV v2 rfl ?_
  refine Wp.iload_n dX1_costAt_14 rfl rfl ?_
  refine Wp.iaload dX1_costAt_15 k2 (nI_toInt (by omega)) (by omega) rfl ?_
  rw [hgj.2.2]
  refine Wp.i2l dX1_costAt_16 rfl ?_
  rw [iI_l (by omega) (by omega)]
  refine Wp.iload_n dX1_costAt_17 rfl rfl ?_
  refine Wp.i2l dX1_costAt_18 rfl ?_
  rw [i2l_lI, hp]
  refine Wp.lmul dX1_costAt_19 rfl ?_
  rw [lI_mul]
  refine Wp.ladd dX1_costAt_20 rfl ?_
  rw [lI_add]
  exact Wp.lret dX1_costAt_21 rfl (by exact ⟨rfl, rfl⟩)
theorem c_X1_leadsAmongLike {B : ev_B} {d a n : Nat} {h : ev_H} {c : Nat → Nat} {S R : Nat → Int} {i b w : Nat} (hC : ChoH h a n c S R) (hB : PrB n S R) (hi : i < n) (hb : b < n) (hw : w ≤ 2) :
    Wp B d M_X1_leadsAmongLike 0 [some (.ref a), some (.int (nI i)), some (.int (nI b)), some (.int (nI w))] [] h (fun v h' => v = some (.int (bI (decide (Kw w R i < Kw w R b)))) ∧ h' = h) := by
  obtain ⟨V, a0, a1, a2, cap, g0, g1, g2, hV, v0, v1, v2, v3, k0, k1, k2, hcap, hg⟩ := id hC
  have hn4 := hB.1
  have hbb := hB.2
  have hgi := hg i hi
  have hgb := hg b hb
  have hbi := hbb i hi
  have hb_ := hbb b hb
  have hww : w = 0 ∨ w = 1 ∨ w = 2 := by omega
  rcases hww with rfl | rfl | rfl
  · refine Wp.iload_n dX1_leadsAmongLike_0 rfl rfl ?_
    refine Wp.iconst (v := (nI 1)) dX1_leadsAmongLike_1 (by decide) rfl ?_
    refine Wp.icmp_ne (tgt := 20) (n := 5) dX1_leadsAmongLike_2 (by decide) rfl (fun _ => ?_) (fun c_ => absurd c_ (by decide))
    refine Wp.iload_n dX1_leadsAmongLike_20 rfl rfl ?_
    refine Wp.iconst (v := (nI 2)) dX1_leadsAmongLike_21 (by decide) rfl ?_
    refine Wp.icmp_ne (tgt := 44) (n := 25) dX1_leadsAmongLike_22 (by decide) rfl (fun _ => ?_) (fun c_ => absurd c_ (by decide))
    refine Wp.iconst (v := (nI 0)) dX1_leadsAmongLike_44 (by decide) rfl ?_
    exact Wp.zret dX1_leadsAmongLike_45 rfl (by decide) (q_ret (bI_f (decide_eq_false (by first | (rw [Kw_1, Kw_1]; omega) | (rw [Kw_2, Kw_2]; omega) | (rw [Kw_0 (by decide) (by decide), Kw_0 (by decide) (by decide)]; omega)))))
  · refine Wp.iload_n dX1_leadsAmongLike_0 rfl rfl ?_
    refine Wp.iconst (v := (nI 1)) dX1_leadsAmongLike_1 (by decide) rfl ?_
    refine Wp.icmp_ne (tgt := 20) (n := 5) dX1_leadsAmongLike_2 (by decide) rfl (fun c_ => absurd (by decide) c_) (fun _ => ?_)
    refine Wp.aload_n dX1_leadsAmongLike_5 rfl (by first | exact Or.inr ⟨_, rfl⟩ | exact Or.inl rfl) rfl ?_
    refine Wp.get dX1_leadsAmongLike_6 fl_X1_18 hV v2 rfl ?_
    refine Wp.iload_n dX1_leadsAmongLike_9 rfl rfl ?_
    refine Wp.iaload dX1_leadsAmongLike_10 k2 (nI_toInt (by omega)) (by omega) rfl ?_
    rw [hgi.2.2]
    refine Wp.aload_n dX1_leadsAmongLike_11 rfl (by first | exact Or.inr ⟨_, rfl⟩ | exact Or.inl rfl) rfl ?_
    refine Wp.get dX1_leadsAmongLike_12 fl_X1_18 hV v2 rfl ?_
    refine Wp.iload_n dX1_leadsAmongLike_15 rfl rfl ?_
    refine Wp.iaload dX1_leadsAmongLike_16 k2 (nI_toInt (by omega)) (by omega) rfl ?_
    rw [hgb.2.2]
    refine Wp.icmp_lt (tgt := 40) (n := 20) dX1_leadsAmongLike_17 (by decide) rfl (fun c_17 => ?_) (fun c_17 => ?_)
    · try simp (disch := omega) only [nI_bit0, nI_bit1, Bool.not_eq_false, Bool.not_eq_true] at c_17
      try simp (disch := omega) only [i_lt, i_le, i_eq, l_lt, l_le, l_eq, i_0, i_m1, l_0, nI_tI, iI_tI, lI_tI, Int.not_lt, Int.not_le] at c_17
      refine Wp.iconst (v := (nI 1)) dX1_leadsAmongLike_40 (by decide) rfl ?_
      refine Wp.goto (n := 45) dX1_leadsAmongLike_41 (by decide) ?_
      exact Wp.zret dX1_leadsAmongLike_45 rfl (by decide) (q_ret (bI_t (decide_eq_true (by first | omega | (rw [Kw_1, Kw_1]; omega) | (rw [Kw_2, Kw_2]; omega)))))
    · try simp (disch := omega) only [nI_bit0, nI_bit1, Bool.not_eq_false, Bool.not_eq_true] at c_17
      try simp (disch := omega) only [i_lt, i_le, i_eq, l_lt, l_le, l_eq, i_0, i_m1, l_0, nI_tI, iI_tI, lI_tI, Int.not_lt, Int.not_le] at c_17
      refine Wp.iload_n dX1_leadsAmongLike_20 rfl rfl ?_
      refine Wp.iconst (v := (nI 2)) dX1_leadsAmongLike_21 (by decide) rfl ?_
      refine Wp.icmp_ne (tgt := 44) (n := 25) dX1_leadsAmongLike_22 (by decide) rfl (fun _ => ?_) (fun c_ => absurd c_ (by decide))
      refine Wp.iconst (v := (nI 0)) dX1_leadsAmongLike_44 (by decide) rfl ?_
      exact Wp.zret dX1_leadsAmongLike_45 rfl (by decide) (q_ret (bI_f (decide_eq_false (by first | (rw [Kw_1, Kw_1]; omega) | (rw [Kw_2, Kw_2]; omega) | (rw [Kw_0 (by decide) (by decide), Kw_0 (by decide) (by decide)]; omega)))))
  · refine Wp.iload_n dX1_leadsAmongLike_0 rfl rfl ?_
    refine Wp.iconst (v := (nI 1)) dX1_leadsAmongLike_1 (by decide) rfl ?_
    refine Wp.icmp_ne (tgt := 20) (n := 5) dX1_leadsAmongLike_2 (by decide) rfl (fun _ => ?_) (fun c_ => absurd c_ (by decide))
    refine Wp.iload_n dX1_leadsAmongLike_20 rfl rfl ?_
    refine Wp.iconst (v := (nI 2)) dX1_leadsAmongLike_21 (by decide) rfl ?_
    refine Wp.icmp_ne (tgt := 44) (n := 25) dX1_leadsAmongLike_22 (by decide) rfl (fun c_ => absurd (by decide) c_) (fun _ => ?_)
    refine Wp.aload_n dX1_leadsAmongLike_25 rfl (by first | exact Or.inr ⟨_, rfl⟩ | exact Or.inl rfl) rfl ?_
    refine Wp.get dX1_leadsAmongLike_26 fl_X1_18 hV v2 rfl ?_
    refine Wp.iload_n dX1_leadsAmongLike_29 rfl rfl ?_
    refine Wp.iaload dX1_leadsAmongLike_30 k2 (nI_toInt (by omega)) (by omega) rfl ?_
    rw [hgi.2.2]
    refine Wp.aload_n dX1_leadsAmongLike_31 rfl (by first | exact Or.inr ⟨_, rfl⟩ | exact Or.inl rfl) rfl ?_
    refine Wp.get dX1_leadsAmongLike_32 fl_X1_18 hV v2 rfl ?_
    refine Wp.iload_n dX1_leadsAmongLike_35 rfl rfl ?_
    refine Wp.iaload dX1_leadsAmongLike_36 k2 (nI_toInt (by omega)) (by omega) rfl ?_
    rw [hgb.2.2]
    refine Wp.icmp_le (tgt := 44) (n := 40) dX1_leadsAmongLike_37 (by decide) rfl (fun c_37 => ?_) (fun c_37 => ?_)
    · try simp (disch := omega) only [nI_bit0, nI_bit1, Bool.not_eq_false, Bool.not_eq_true] at c_37
      try simp (disch := omega) only [i_lt, i_le, i_eq, l_lt, l_le, l_eq, i_0, i_m1, l_0, nI_tI, iI_tI, lI_tI, Int.not_lt, Int.not_le] at c_37
      refine Wp.iconst (v := (nI 0)) dX1_leadsAmongLike_44 (by decide) rfl ?_
      exact Wp.zret dX1_leadsAmongLike_45 rfl (by decide) (q_ret (bI_f (decide_eq_false (by first | (rw [Kw_1, Kw_1]; omega) | (rw [Kw_2, Kw_2]; omega) | (rw [Kw_0 (by decide) (by decide), Kw_0 (by decide) (by decide)]; omega)))))
    · try simp (disch := omega) only [nI_bit0, nI_bit1, Bool.not_eq_false, Bool.not_eq_true] at c_37
      try simp (disch := omega) only [i_lt, i_le, i_eq, l_lt, l_le, l_eq, i_0, i_m1, l_0, nI_tI, iI_tI, lI_tI, Int.not_lt, Int.not_le] at c_37
      refine Wp.iconst (v := (nI 1)) dX1_leadsAmongLike_40 (by decide) rfl ?_
      refine Wp.goto (n := 45) dX1_leadsAmongLike_41 (by decide) ?_
      exact Wp.zret dX1_leadsAmongLike_45 rfl (by decide) (q_ret (bI_t (decide_eq_true (by first | omega | (rw [Kw_1, Kw_1]; omega) | (rw [Kw_2, Kw_2]; omega)))))
theorem c_X1_cheapestAt {B : ev_B} {d a n : Nat} {h : ev_H} {c : Nat → Nat} {S R : Nat → Int} {p q : Int32} {P_ Q_ : Int} {w : Nat} (hC : ChoH h a n c S R) (hB : PrB n S R) (hp : p.toInt = P_) (hq : q.toInt = Q_) (hpq : pqB P_ Q_) (hw : w ≤ 2) (hd : 1 ≤ d) :
    Wp B d M_X1_cheapestAt 0 [some (.ref a), some (.int (p)), some (.int (q)), some (.int (nI w)), none, none, none, none, none, none] [] h (fun v h' => v = some (.int (iI (bsI (cst S R P_ Q_) (Kw w R) n))) ∧ h' = h) := by
  obtain ⟨V, a0, a1, a2, cap, g0, g1, g2, hV, v0, v1, v2, v3, k0, k1, k2, hcap, hg⟩ := id hC
  have hn4 := hB.1
  have hbb := hB.2
  have loop : ∀ i, i ≤ n → 0 < i → ∀ j8 : Option Value, Wp B d M_X1_cheapestAt 9 [some (.ref a), some (.int (p)), some (.int (q)), some (.int (nI w)), some (.int (nI (bst (cst S R P_ Q_) (Kw w R) i))), some (.long (lI (cst S R P_ Q_ (bst (cst S R P_ Q_) (Kw w R) i)))), none, some (.int (nI i)), j8, none] [] h (fun v h' => v = some (.int (iI (bsI (cst S R P_ Q_) (Kw w R) n))) ∧ h' = h) := by
    refine ev_upl n (fun i hi ih => ?_) ?_
    · intro h0 j8
      have hbl := bst_lt (cst S R P_ Q_) (Kw w R) i h0
      have hbn : (bst (cst S R P_ Q_) (Kw w R) i) < n := by omega
      have hci := cst_b hB hi hpq
      have hcb := cst_b hB hbn hpq
      refine Wp.iload dX1_cheapestAt_9 rfl rfl ?_
      refine Wp.aload_n dX1_cheapestAt_11 rfl (by first | exact Or.inr ⟨_, rfl⟩ | exact Or.inl rfl) rfl ?_
      refine Wp.get dX1_cheapestAt_12 fl_X1_21 hV v3 rfl ?_
      refine Wp.icmp_ge (tgt := 75) (n := 18) dX1_cheapestAt_15 (by decide) rfl (fun c_15 => ?_) (fun c_15 => ?_)
      · try simp (disch := omega) only [nI_bit0, nI_bit1, Bool.not_eq_false, Bool.not_eq_true] at c_15
        try simp (disch := omega) only [i_lt, i_le, i_eq, l_lt, l_le, l_eq, i_0, i_m1, l_0, nI_tI, iI_tI, lI_tI, Int.not_lt, Int.not_le] at c_15
        omega
      · try simp (disch := omega) only [nI_bit0, nI_bit1, Bool.not_eq_false, Bool.not_eq_true] at c_15
        try simp (disch := omega) only [i_lt, i_le, i_eq, l_lt, l_le, l_eq, i_0, i_m1, l_0, nI_tI, iI_tI, lI_tI, Int.not_lt, Int.not_le] at c_15
        refine Wp.aload_n dX1_cheapestAt_18 rfl (by first | exact Or.inr ⟨_, rfl⟩ | exact Or.inl rfl) rfl ?_
        refine Wp.iload dX1_cheapestAt_19 rfl rfl ?_
        refine Wp.iload_n dX1_cheapestAt_21 rfl rfl ?_
        refine Wp.iload_n dX1_cheapestAt_22 rfl rfl ?_
        refine Wp.cV dX1_cheapestAt_23 cv_X1_50 rfl (by omega) rfl (Nat.le_of_ble_eq_true rfl) (Nat.le_of_ble_eq_true rfl) hV rfl (c_X1_costAt (d := d - 1) (j := i) hC hB hp hq hpq hi) ?_
        rintro _ h_ ⟨rfl, e_⟩
        rw [e_]
        clear e_ h_
        dsimp only [Option.toList, List.drop, List.cons_append, List.nil_append]
        refine Wp.lstore dX1_cheapestAt_26 (Nat.le_of_ble_eq_true rfl) (by dsimp only [ev_st1, ev_st2, ev_cl] <;> rfl) rfl ?_
        refine Wp.iload dX1_cheapestAt_28 rfl rfl ?_
        refine Wp.if_lt (tgt := 61) (n := 33) dX1_cheapestAt_30 (by decide) rfl (fun c_30 => ?_) (fun c_30 => ?_)
        · try simp (disch := omega) only [nI_bit0, nI_bit1, Bool.not_eq_false, Bool.not_eq_true] at c_30
          try simp (disch := omega) only [i_lt, i_le, i_eq, l_lt, l_le, l_eq, i_0, i_m1, l_0, nI_tI, iI_tI, lI_tI, Int.not_lt, Int.not_le] at c_30
          omega
        · try simp (disch := omega) only [nI_bit0, nI_bit1, Bool.not_eq_false, Bool.not_eq_true] at c_30
          try simp (disch := omega) only [i_lt, i_le, i_eq, l_lt, l_le, l_eq, i_0, i_m1, l_0, nI_tI, iI_tI, lI_tI, Int.not_lt, Int.not_le] at c_30
          refine Wp.lload dX1_cheapestAt_33 rfl rfl ?_
          refine Wp.lload dX1_cheapestAt_35 rfl rfl ?_
          refine Wp.lcmp_lt (tgt := 61) (n := 41) dX1_cheapestAt_37 rfl dX1_cheapestAt_38 (by decide) rfl (fun c_37 => ?_) (fun c_37 => ?_)
          · try simp (disch := omega) only [nI_bit0, nI_bit1, Bool.not_eq_false, Bool.not_eq_true] at c_37
            try simp (disch := omega) only [i_lt, i_le, i_eq, l_lt, l_le, l_eq, i_0, i_m1, l_0, nI_tI, iI_tI, lI_tI, Int.not_lt, Int.not_le] at c_37
            refine Wp.iload dX1_cheapestAt_61 rfl rfl ?_
            refine Wp.istore dX1_cheapestAt_63 (Nat.le_of_ble_eq_true rfl) (by dsimp only [ev_st1, ev_st2, ev_cl] <;> rfl) rfl ?_
            refine Wp.lload dX1_cheapestAt_65 rfl rfl ?_
            refine Wp.lstore dX1_cheapestAt_67 (Nat.le_of_ble_eq_true rfl) (by dsimp only [ev_st1, ev_st2, ev_cl] <;> rfl) rfl ?_
            refine Wp.iinc (v := _ + (nI 1)) dX1_cheapestAt_69 rfl rfl (Nat.le_of_ble_eq_true rfl) (by dsimp only [ev_st1, ev_cl] <;> rfl) rfl ?_
            refine Wp.goto (n := 9) dX1_cheapestAt_72 (by decide) ?_
            rw [nI_add1]
            have hr : bst (cst S R P_ Q_) (Kw w R) (i + 1) = if cst S R P_ Q_ i < cst S R P_ Q_ (bst (cst S R P_ Q_) (Kw w R) i) ∨ (cst S R P_ Q_ i = cst S R P_ Q_ (bst (cst S R P_ Q_) (Kw w R) i) ∧ (Kw w R) i < (Kw w R) (bst (cst S R P_ Q_) (Kw w R) i)) then i else (bst (cst S R P_ Q_) (Kw w R) i) := rfl
            first
              | (rw [if_pos (by omega)] at hr; rw [hr] at ih; exact ih (by omega) _)
              | (rw [if_neg (by omega)] at hr; rw [hr] at ih; exact ih (by omega) _)
          · try simp (disch := omega) only [nI_bit0, nI_bit1, Bool.not_eq_false, Bool.not_eq_true] at c_37
            try simp (disch := omega) only [i_lt, i_le, i_eq, l_lt, l_le, l_eq, i_0, i_m1, l_0, nI_tI, iI_tI, lI_tI, Int.not_lt, Int.not_le] at c_37
            refine Wp.lload dX1_cheapestAt_41 rfl rfl ?_
            refine Wp.lload dX1_cheapestAt_43 rfl rfl ?_
            refine Wp.lcmp_ne (tgt := 69) (n := 49) dX1_cheapestAt_45 rfl dX1_cheapestAt_46 (by decide) rfl (fun c_45 => ?_) (fun c_45 => ?_)
            · try simp (disch := omega) only [nI_bit0, nI_bit1, Bool.not_eq_false, Bool.not_eq_true] at c_45
              try simp (disch := omega) only [i_lt, i_le, i_eq, l_lt, l_le, l_eq, i_0, i_m1, l_0, nI_tI, iI_tI, lI_tI, Int.not_lt, Int.not_le] at c_45
              refine Wp.iinc (v := _ + (nI 1)) dX1_cheapestAt_69 rfl rfl (Nat.le_of_ble_eq_true rfl) (by dsimp only [ev_st1, ev_cl] <;> rfl) rfl ?_
              refine Wp.goto (n := 9) dX1_cheapestAt_72 (by decide) ?_
              rw [nI_add1]
              have hr : bst (cst S R P_ Q_) (Kw w R) (i + 1) = if cst S R P_ Q_ i < cst S R P_ Q_ (bst (cst S R P_ Q_) (Kw w R) i) ∨ (cst S R P_ Q_ i = cst S R P_ Q_ (bst (cst S R P_ Q_) (Kw w R) i) ∧ (Kw w R) i < (Kw w R) (bst (cst S R P_ Q_) (Kw w R) i)) then i else (bst (cst S R P_ Q_) (Kw w R) i) := rfl
              first
                | (rw [if_pos (by omega)] at hr; rw [hr] at ih; exact ih (by omega) _)
                | (rw [if_neg (by omega)] at hr; rw [hr] at ih; exact ih (by omega) _)
            · try simp (disch := omega) only [nI_bit0, nI_bit1, Bool.not_eq_false, Bool.not_eq_true] at c_45
              try simp (disch := omega) only [i_lt, i_le, i_eq, l_lt, l_le, l_eq, i_0, i_m1, l_0, nI_tI, iI_tI, lI_tI, Int.not_lt, Int.not_le] at c_45
              refine Wp.aload_n dX1_cheapestAt_49 rfl (by first | exact Or.inr ⟨_, rfl⟩ | exact Or.inl rfl) rfl ?_
              refine Wp.iload dX1_cheapestAt_50 rfl rfl ?_
              refine Wp.iload dX1_cheapestAt_52 rfl rfl ?_
              refine Wp.iload_n dX1_cheapestAt_54 rfl rfl ?_
              refine Wp.cV dX1_cheapestAt_55 cv_X1_54 rfl (by omega) rfl (Nat.le_of_ble_eq_true rfl) (Nat.le_of_ble_eq_true rfl) hV rfl (c_X1_leadsAmongLike (d := d - 1) hC hB hi hbn hw) ?_
              rintro _ h_ ⟨rfl, e_⟩
              rw [e_]
              clear e_ h_
              dsimp only [Option.toList, List.drop, List.cons_append, List.nil_append]
              refine Wp.bif_eq (tgt := 69) (n := 61) dX1_cheapestAt_58 (by decide) rfl (fun c_58 => ?_) (fun c_58 => ?_)
              · try simp only [decide_eq_true_eq, decide_eq_false_iff_not, Bool.and_eq_true, bI_0, bI_n0] at c_58
                refine Wp.iinc (v := _ + (nI 1)) dX1_cheapestAt_69 rfl rfl (Nat.le_of_ble_eq_true rfl) (by dsimp only [ev_st1, ev_cl] <;> rfl) rfl ?_
                refine Wp.goto (n := 9) dX1_cheapestAt_72 (by decide) ?_
                rw [nI_add1]
                have hr : bst (cst S R P_ Q_) (Kw w R) (i + 1) = if cst S R P_ Q_ i < cst S R P_ Q_ (bst (cst S R P_ Q_) (Kw w R) i) ∨ (cst S R P_ Q_ i = cst S R P_ Q_ (bst (cst S R P_ Q_) (Kw w R) i) ∧ (Kw w R) i < (Kw w R) (bst (cst S R P_ Q_) (Kw w R) i)) then i else (bst (cst S R P_ Q_) (Kw w R) i) := rfl
                first
                  | (rw [if_pos (by omega)] at hr; rw [hr] at ih; exact ih (by omega) _)
                  | (rw [if_neg (by omega)] at hr; rw [hr] at ih; exact ih (by omega) _)
              · try simp only [decide_eq_true_eq, decide_eq_false_iff_not, Bool.and_eq_true, bI_0, bI_n0] at c_58
                refine Wp.iload dX1_cheapestAt_61 rfl rfl ?_
                refine Wp.istore dX1_cheapestAt_63 (Nat.le_of_ble_eq_true rfl) (by dsimp only [ev_st1, ev_st2, ev_cl] <;> rfl) rfl ?_
                refine Wp.lload dX1_cheapestAt_65 rfl rfl ?_
                refine Wp.lstore dX1_cheapestAt_67 (Nat.le_of_ble_eq_true rfl) (by dsimp only [ev_st1, ev_st2, ev_cl] <;> rfl) rfl ?_
                refine Wp.iinc (v := _ + (nI 1)) dX1_cheapestAt_69 rfl rfl (Nat.le_of_ble_eq_true rfl) (by dsimp only [ev_st1, ev_cl] <;> rfl) rfl ?_
                refine Wp.goto (n := 9) dX1_cheapestAt_72 (by decide) ?_
                rw [nI_add1]
                have hr : bst (cst S R P_ Q_) (Kw w R) (i + 1) = if cst S R P_ Q_ i < cst S R P_ Q_ (bst (cst S R P_ Q_) (Kw w R) i) ∨ (cst S R P_ Q_ i = cst S R P_ Q_ (bst (cst S R P_ Q_) (Kw w R) i) ∧ (Kw w R) i < (Kw w R) (bst (cst S R P_ Q_) (Kw w R) i)) then i else (bst (cst S R P_ Q_) (Kw w R) i) := rfl
                first
                  | (rw [if_pos (by omega)] at hr; rw [hr] at ih; exact ih (by omega) _)
                  | (rw [if_neg (by omega)] at hr; rw [hr] at ih; exact ih (by omega) _)
    · intro h0 j8
      refine Wp.iload dX1_cheapestAt_9 rfl rfl ?_
      refine Wp.aload_n dX1_cheapestAt_11 rfl (by first | exact Or.inr ⟨_, rfl⟩ | exact Or.inl rfl) rfl ?_
      refine Wp.get dX1_cheapestAt_12 fl_X1_21 hV v3 rfl ?_
      refine Wp.icmp_ge (tgt := 75) (n := 18) dX1_cheapestAt_15 (by decide) rfl (fun c_15 => ?_) (fun c_15 => ?_)
      · try simp (disch := omega) only [nI_bit0, nI_bit1, Bool.not_eq_false, Bool.not_eq_true] at c_15
        try simp (disch := omega) only [i_lt, i_le, i_eq, l_lt, l_le, l_eq, i_0, i_m1, l_0, nI_tI, iI_tI, lI_tI, Int.not_lt, Int.not_le] at c_15
        refine Wp.iload dX1_cheapestAt_75 rfl rfl ?_
        exact Wp.iret dX1_cheapestAt_77 rfl (by rw [bsI_s h0, ← nI_iI]; exact ⟨rfl, rfl⟩)
      · try simp (disch := omega) only [nI_bit0, nI_bit1, Bool.not_eq_false, Bool.not_eq_true] at c_15
        try simp (disch := omega) only [i_lt, i_le, i_eq, l_lt, l_le, l_eq, i_0, i_m1, l_0, nI_tI, iI_tI, lI_tI, Int.not_lt, Int.not_le] at c_15
        omega
  refine Wp.iconst (v := (-1)) dX1_cheapestAt_0 (by decide) rfl ?_
  refine Wp.istore dX1_cheapestAt_1 (Nat.le_of_ble_eq_true rfl) (by dsimp only [ev_st1, ev_st2, ev_cl] <;> rfl) rfl ?_
  refine Wp.lconst (v := 0) dX1_cheapestAt_3 (by decide) rfl ?_
  refine Wp.lstore dX1_cheapestAt_4 (Nat.le_of_ble_eq_true rfl) (by dsimp only [ev_st1, ev_st2, ev_cl] <;> rfl) rfl ?_
  refine Wp.iconst (v := (nI 0)) dX1_cheapestAt_6 (by decide) rfl ?_
  refine Wp.istore dX1_cheapestAt_7 (Nat.le_of_ble_eq_true rfl) (by dsimp only [ev_st1, ev_st2, ev_cl] <;> rfl) rfl ?_
  refine Wp.iload dX1_cheapestAt_9 rfl rfl ?_
  refine Wp.aload_n dX1_cheapestAt_11 rfl (by first | exact Or.inr ⟨_, rfl⟩ | exact Or.inl rfl) rfl ?_
  refine Wp.get dX1_cheapestAt_12 fl_X1_21 hV v3 rfl ?_
  refine Wp.icmp_ge (tgt := 75) (n := 18) dX1_cheapestAt_15 (by decide) rfl (fun c_15 => ?_) (fun c_15 => ?_)
  · try simp (disch := omega) only [i_le, nI_tI] at c_15
    have hz : n = 0 := by omega
    refine Wp.iload dX1_cheapestAt_75 rfl rfl ?_
    exact Wp.iret dX1_cheapestAt_77 rfl (by rw [bsI, if_pos hz]; exact ⟨rfl, rfl⟩)
  · try simp (disch := omega) only [i_le, nI_tI] at c_15
    refine Wp.aload_n dX1_cheapestAt_18 rfl (by first | exact Or.inr ⟨_, rfl⟩ | exact Or.inl rfl) rfl ?_
    refine Wp.iload dX1_cheapestAt_19 rfl rfl ?_
    refine Wp.iload_n dX1_cheapestAt_21 rfl rfl ?_
    refine Wp.iload_n dX1_cheapestAt_22 rfl rfl ?_
    refine Wp.cV dX1_cheapestAt_23 cv_X1_50 rfl (by omega) rfl (Nat.le_of_ble_eq_true rfl) (Nat.le_of_ble_eq_true rfl) hV rfl (c_X1_costAt (d := d - 1) (j := 0) hC hB hp hq hpq (by omega)) ?_
    rintro _ h_ ⟨rfl, e_⟩
    rw [e_]
    clear e_ h_
    dsimp only [Option.toList, List.drop, List.cons_append, List.nil_append]
    refine Wp.lstore dX1_cheapestAt_26 (Nat.le_of_ble_eq_true rfl) (by dsimp only [ev_st1, ev_st2, ev_cl] <;> rfl) rfl ?_
    refine Wp.iload dX1_cheapestAt_28 rfl rfl ?_
    refine Wp.if_lt (tgt := 61) (n := 33) dX1_cheapestAt_30 (by decide) rfl (fun _ => ?_) (fun c_ => absurd c_ (by decide))
    refine Wp.iload dX1_cheapestAt_61 rfl rfl ?_
    refine Wp.istore dX1_cheapestAt_63 (Nat.le_of_ble_eq_true rfl) (by dsimp only [ev_st1, ev_st2, ev_cl] <;> rfl) rfl ?_
    refine Wp.lload dX1_cheapestAt_65 rfl rfl ?_
    refine Wp.lstore dX1_cheapestAt_67 (Nat.le_of_ble_eq_true rfl) (by dsimp only [ev_st1, ev_st2, ev_cl] <;> rfl) rfl ?_
    refine Wp.iinc (v := _ + (nI 1)) dX1_cheapestAt_69 rfl rfl (Nat.le_of_ble_eq_true rfl) (by dsimp only [ev_st1, ev_cl] <;> rfl) rfl ?_
    refine Wp.goto (n := 9) dX1_cheapestAt_72 (by decide) ?_
    have l1 := loop 1 (by omega) (by decide)
    rw [bst_1] at l1
    exact l1 _
theorem mnI_s {C : Nat → Int} {n : Nat} (h : 0 < n) : mnI C n = mnN C n := by rw [mnI, if_neg (by omega)]
theorem c_X1_leastAt {B : ev_B} {d a n : Nat} {h : ev_H} {c : Nat → Nat} {S R : Nat → Int} {p q : Int32} {P_ Q_ : Int} (hC : ChoH h a n c S R) (hB : PrB n S R) (hp : p.toInt = P_) (hq : q.toInt = Q_) (hpq : pqB P_ Q_) (hd : 2 ≤ d) :
    Wp B d M_X1_leastAt 0 [some (.ref a), some (.int (p)), some (.int (q)), none] [] h (fun v h' => v = some (.long (lI (mnI (cst S R P_ Q_) n))) ∧ h' = h) := by
  obtain ⟨V, a0, a1, a2, cap, g0, g1, g2, hV, v0, v1, v2, v3, k0, k1, k2, hcap, hg⟩ := id hC
  have hn4 := hB.1
  have hbb := hB.2
  refine Wp.aload_n dX1_leastAt_0 rfl (by first | exact Or.inr ⟨_, rfl⟩ | exact Or.inl rfl) rfl ?_
  refine Wp.iload_n dX1_leastAt_1 rfl rfl ?_
  refine Wp.iload_n dX1_leastAt_2 rfl rfl ?_
  refine Wp.iconst (v := (nI 0)) dX1_leastAt_3 (by decide) rfl ?_
  refine Wp.cV dX1_leastAt_4 cv_X1_58 rfl (by omega) rfl (Nat.le_of_ble_eq_true rfl) (Nat.le_of_ble_eq_true rfl) hV rfl (c_X1_cheapestAt (d := d - 1) (w := 0) hC hB hp hq hpq (by decide) (by omega)) ?_
  rintro _ h_ ⟨rfl, e_⟩
  rw [e_]
  clear e_ h_
  dsimp only [Option.toList, List.drop, List.cons_append, List.nil_append]
  rcases Nat.eq_zero_or_pos n with hz | hz
  · rw [bsI, if_pos hz]
    refine Wp.istore_n dX1_leastAt_7 (Nat.le_of_ble_eq_true rfl) (by dsimp only [ev_st1, ev_st2, ev_cl] <;> rfl) rfl ?_
    refine Wp.iload_n dX1_leastAt_8 rfl rfl ?_
    refine Wp.if_ge (tgt := 16) (n := 12) dX1_leastAt_9 (by decide) rfl (fun c_9 => ?_) (fun c_9 => ?_)
    · try simp (disch := omega) only [nI_bit0, nI_bit1, Bool.not_eq_false, Bool.not_eq_true] at c_9
      try simp (disch := omega) only [i_lt, i_le, i_eq, l_lt, l_le, l_eq, i_0, i_m1, l_0, nI_tI, iI_tI, lI_tI, Int.not_lt, Int.not_le] at c_9
      exact absurd c_9 (by decide)
    · try simp (disch := omega) only [nI_bit0, nI_bit1, Bool.not_eq_false, Bool.not_eq_true] at c_9
      try simp (disch := omega) only [i_lt, i_le, i_eq, l_lt, l_le, l_eq, i_0, i_m1, l_0, nI_tI, iI_tI, lI_tI, Int.not_lt, Int.not_le] at c_9
      refine Wp.lconst (v := 0) dX1_leastAt_12 (by decide) rfl ?_
      refine Wp.goto (n := 23) dX1_leastAt_13 (by decide) ?_
      exact Wp.lret dX1_leastAt_23 rfl (by rw [mnI, if_pos hz]; exact ⟨rfl, rfl⟩)
  · rw [bsI_s hz, ← nI_iI]
    have hbl := bst_lt (cst S R P_ Q_) (Kw 0 R) n hz
    refine Wp.istore_n dX1_leastAt_7 (Nat.le_of_ble_eq_true rfl) (by dsimp only [ev_st1, ev_st2, ev_cl] <;> rfl) rfl ?_
    refine Wp.iload_n dX1_leastAt_8 rfl rfl ?_
    refine Wp.if_ge (tgt := 16) (n := 12) dX1_leastAt_9 (by decide) rfl (fun c_9 => ?_) (fun c_9 => ?_)
    · try simp (disch := omega) only [nI_bit0, nI_bit1, Bool.not_eq_false, Bool.not_eq_true] at c_9
      try simp (disch := omega) only [i_lt, i_le, i_eq, l_lt, l_le, l_eq, i_0, i_m1, l_0, nI_tI, iI_tI, lI_tI, Int.not_lt, Int.not_le] at c_9
      refine Wp.aload_n dX1_leastAt_16 rfl (by first | exact Or.inr ⟨_, rfl⟩ | exact Or.inl rfl) rfl ?_
      refine Wp.iload_n dX1_leastAt_17 rfl rfl ?_
      refine Wp.iload_n dX1_leastAt_18 rfl rfl ?_
      refine Wp.iload_n dX1_leastAt_19 rfl rfl ?_
      refine Wp.cV dX1_leastAt_20 cv_X1_50 rfl (by omega) rfl (Nat.le_of_ble_eq_true rfl) (Nat.le_of_ble_eq_true rfl) hV rfl (c_X1_costAt (d := d - 1) (j := bst (cst S R P_ Q_) (Kw 0 R) n) hC hB hp hq hpq hbl) ?_
      rintro _ h_ ⟨rfl, e_⟩
      rw [e_]
      clear e_ h_
      dsimp only [Option.toList, List.drop, List.cons_append, List.nil_append]
      exact Wp.lret dX1_leastAt_23 rfl (by rw [mnI_s hz, ← mnN_bst (cst S R P_ Q_) (Kw 0 R) hz]; exact ⟨rfl, rfl⟩)
    · try simp (disch := omega) only [nI_bit0, nI_bit1, Bool.not_eq_false, Bool.not_eq_true] at c_9
      try simp (disch := omega) only [i_lt, i_le, i_eq, l_lt, l_le, l_eq, i_0, i_m1, l_0, nI_tI, iI_tI, lI_tI, Int.not_lt, Int.not_le] at c_9
      omega
theorem c_X1_meetsSooner {B : ev_B} {d a n : Nat} {h : ev_H} {c : Nat → Nat} {S R : Nat → Int} {b i e : Nat} (hC : ChoH h a n c S R) (hB : PrB n S R) (hb : b < n) (hi : i < n) (he : e < n) :
    Wp B d M_X1_meetsSooner 0 [some (.ref a), some (.int (nI b)), some (.int (nI i)), some (.int (nI e)), none, none, none, none] [] h (fun v h' => v = some (.int (bI (decide (mts S R b i e)))) ∧ h' = h) := by
  obtain ⟨V, a0, a1, a2, cap, g0, g1, g2, hV, v0, v1, v2, v3, k0, k1, k2, hcap, hg⟩ := id hC
  have hn4 := hB.1
  have hbb := hB.2
  have hgb := hg b hb
  have hgi := hg i hi
  have hge := hg e he
  have hxb := hbb b hb
  have hxi := hbb i hi
  have hxe := hbb e he
  have m1 := mulb (a := S i - S b) (b := R b - R e) (A := 2400) (C := 480) (by omega) (by omega)
  have m2 := mulb (a := S e - S b) (b := R b - R i) (A := 2400) (C := 480) (by omega) (by omega)
  refine Wp.aload_n dX1_meetsSooner_0 rfl (by first | exact Or.inr ⟨_, rfl⟩ | exact Or.inl rfl) rfl ?_
  refine Wp.get dX1_meetsSooner_1 fl_X1_15 hV v1 rfl ?_
  refine Wp.iload_n dX1_meetsSooner_4 rfl rfl ?_
  refine Wp.iaload dX1_meetsSooner_5 k1 (nI_toInt (by omega)) (by omega) rfl ?_
  rw [hgi.2.1]
  refine Wp.aload_n dX1_meetsSooner_6 rfl (by first | exact Or.inr ⟨_, rfl⟩ | exact Or.inl rfl) rfl ?_
  refine Wp.get dX1_meetsSooner_7 fl_X1_15 hV v1 rfl ?_
  refine Wp.iload_n dX1_meetsSooner_10 rfl rfl ?_
  refine Wp.iaload dX1_meetsSooner_11 k1 (nI_toInt (by omega)) (by omega) rfl ?_
  rw [hgb.2.1]
  refine Wp.isub dX1_meetsSooner_12 rfl ?_
  rw [iI_sub]
  refine Wp.i2l dX1_meetsSooner_13 rfl ?_
  rw [iI_l (by omega) (by omega)]
  refine Wp.aload_n dX1_meetsSooner_14 rfl (by first | exact Or.inr ⟨_, rfl⟩ | exact Or.inl rfl) rfl ?_
  refine Wp.get dX1_meetsSooner_15 fl_X1_18 hV v2 rfl ?_
  refine Wp.iload_n dX1_meetsSooner_18 rfl rfl ?_
  refine Wp.iaload dX1_meetsSooner_19 k2 (nI_toInt (by omega)) (by omega) rfl ?_
  rw [hgb.2.2]
  refine Wp.aload_n dX1_meetsSooner_20 rfl (by first | exact Or.inr ⟨_, rfl⟩ | exact Or.inl rfl) rfl ?_
  refine Wp.get dX1_meetsSooner_21 fl_X1_18 hV v2 rfl ?_
  refine Wp.iload_n dX1_meetsSooner_24 rfl rfl ?_
  refine Wp.iaload dX1_meetsSooner_25 k2 (nI_toInt (by omega)) (by omega) rfl ?_
  rw [hge.2.2]
  refine Wp.isub dX1_meetsSooner_26 rfl ?_
  rw [iI_sub]
  refine Wp.i2l dX1_meetsSooner_27 rfl ?_
  rw [iI_l (by omega) (by omega)]
  refine Wp.lmul dX1_meetsSooner_28 rfl ?_
  rw [lI_mul]
  refine Wp.lstore dX1_meetsSooner_29 (Nat.le_of_ble_eq_true rfl) (by dsimp only [ev_st1, ev_st2, ev_cl] <;> rfl) rfl ?_
  refine Wp.aload_n dX1_meetsSooner_31 rfl (by first | exact Or.inr ⟨_, rfl⟩ | exact Or.inl rfl) rfl ?_
  refine Wp.get dX1_meetsSooner_32 fl_X1_15 hV v1 rfl ?_
  refine Wp.iload_n dX1_meetsSooner_35 rfl rfl ?_
  refine Wp.iaload dX1_meetsSooner_36 k1 (nI_toInt (by omega)) (by omega) rfl ?_
  rw [hge.2.1]
  refine Wp.aload_n dX1_meetsSooner_37 rfl (by first | exact Or.inr ⟨_, rfl⟩ | exact Or.inl rfl) rfl ?_
  refine Wp.get dX1_meetsSooner_38 fl_X1_15 hV v1 rfl ?_
  refine Wp.iload_n dX1_meetsSooner_41 rfl rfl ?_
  refine Wp.iaload dX1_meetsSooner_42 k1 (nI_toInt (by omega)) (by omega) rfl ?_
  rw [hgb.2.1]
  refine Wp.isub dX1_meetsSooner_43 rfl ?_
  rw [iI_sub]
  refine Wp.i2l dX1_meetsSooner_44 rfl ?_
  rw [iI_l (by omega) (by omega)]
  refine Wp.aload_n dX1_meetsSooner_45 rfl (by first | exact Or.inr ⟨_, rfl⟩ | exact Or.inl rfl) rfl ?_
  refine Wp.get dX1_meetsSooner_46 fl_X1_18 hV v2 rfl ?_
  refine Wp.iload_n dX1_meetsSooner_49 rfl rfl ?_
  refine Wp.iaload dX1_meetsSooner_50 k2 (nI_toInt (by omega)) (by omega) rfl ?_
  rw [hgb.2.2]
  refine Wp.aload_n dX1_meetsSooner_51 rfl (by first | exact Or.inr ⟨_, rfl⟩ | exact Or.inl rfl) rfl ?_
  refine Wp.get dX1_meetsSooner_52 fl_X1_18 hV v2 rfl ?_
  refine Wp.iload_n dX1_meetsSooner_55 rfl rfl ?_
  refine Wp.iaload dX1_meetsSooner_56 k2 (nI_toInt (by omega)) (by omega) rfl ?_
  rw [hgi.2.2]
  refine Wp.isub dX1_meetsSooner_57 rfl ?_
  rw [iI_sub]
  refine Wp.i2l dX1_meetsSooner_58 rfl ?_
  rw [iI_l (by omega) (by omega)]
  refine Wp.lmul dX1_meetsSooner_59 rfl ?_
  rw [lI_mul]
  refine Wp.lstore dX1_meetsSooner_60 (Nat.le_of_ble_eq_true rfl) (by dsimp only [ev_st1, ev_st2, ev_cl] <;> rfl) rfl ?_
  refine Wp.lload dX1_meetsSooner_62 rfl rfl ?_
  refine Wp.lload dX1_meetsSooner_64 rfl rfl ?_
  refine Wp.lcmp_lt (tgt := 93) (n := 70) dX1_meetsSooner_66 rfl dX1_meetsSooner_67 (by decide) rfl (fun c_66 => ?_) (fun c_66 => ?_)
  · try simp (disch := omega) only [nI_bit0, nI_bit1, Bool.not_eq_false, Bool.not_eq_true] at c_66
    try simp (disch := omega) only [i_lt, i_le, i_eq, l_lt, l_le, l_eq, i_0, i_m1, l_0, nI_tI, iI_tI, lI_tI, Int.not_lt, Int.not_le] at c_66
    refine Wp.iconst (v := (nI 1)) dX1_meetsSooner_93 (by decide) rfl ?_
    refine Wp.goto (n := 98) dX1_meetsSooner_94 (by decide) ?_
    exact Wp.zret dX1_meetsSooner_98 rfl (by decide) (q_ret (bI_t (decide_eq_true (by omega))))
  · try simp (disch := omega) only [nI_bit0, nI_bit1, Bool.not_eq_false, Bool.not_eq_true] at c_66
    try simp (disch := omega) only [i_lt, i_le, i_eq, l_lt, l_le, l_eq, i_0, i_m1, l_0, nI_tI, iI_tI, lI_tI, Int.not_lt, Int.not_le] at c_66
    refine Wp.lload dX1_meetsSooner_70 rfl rfl ?_
    refine Wp.lload dX1_meetsSooner_72 rfl rfl ?_
    refine Wp.lcmp_ne (tgt := 97) (n := 78) dX1_meetsSooner_74 rfl dX1_meetsSooner_75 (by decide) rfl (fun c_74 => ?_) (fun c_74 => ?_)
    · try simp (disch := omega) only [nI_bit0, nI_bit1, Bool.not_eq_false, Bool.not_eq_true] at c_74
      try simp (disch := omega) only [i_lt, i_le, i_eq, l_lt, l_le, l_eq, i_0, i_m1, l_0, nI_tI, iI_tI, lI_tI, Int.not_lt, Int.not_le] at c_74
      refine Wp.iconst (v := (nI 0)) dX1_meetsSooner_97 (by decide) rfl ?_
      exact Wp.zret dX1_meetsSooner_98 rfl (by decide) (q_ret (bI_f (decide_eq_false (by omega))))
    · try simp (disch := omega) only [nI_bit0, nI_bit1, Bool.not_eq_false, Bool.not_eq_true] at c_74
      try simp (disch := omega) only [i_lt, i_le, i_eq, l_lt, l_le, l_eq, i_0, i_m1, l_0, nI_tI, iI_tI, lI_tI, Int.not_lt, Int.not_le] at c_74
      refine Wp.aload_n dX1_meetsSooner_78 rfl (by first | exact Or.inr ⟨_, rfl⟩ | exact Or.inl rfl) rfl ?_
      refine Wp.get dX1_meetsSooner_79 fl_X1_18 hV v2 rfl ?_
      refine Wp.iload_n dX1_meetsSooner_82 rfl rfl ?_
      refine Wp.iaload dX1_meetsSooner_83 k2 (nI_toInt (by omega)) (by omega) rfl ?_
      rw [hgi.2.2]
      refine Wp.aload_n dX1_meetsSooner_84 rfl (by first | exact Or.inr ⟨_, rfl⟩ | exact Or.inl rfl) rfl ?_
      refine Wp.get dX1_meetsSooner_85 fl_X1_18 hV v2 rfl ?_
      refine Wp.iload_n dX1_meetsSooner_88 rfl rfl ?_
      refine Wp.iaload dX1_meetsSooner_89 k2 (nI_toInt (by omega)) (by omega) rfl ?_
      rw [hge.2.2]
      refine Wp.icmp_ge (tgt := 97) (n := 93) dX1_meetsSooner_90 (by decide) rfl (fun c_90 => ?_) (fun c_90 => ?_)
      · try simp (disch := omega) only [nI_bit0, nI_bit1, Bool.not_eq_false, Bool.not_eq_true] at c_90
        try simp (disch := omega) only [i_lt, i_le, i_eq, l_lt, l_le, l_eq, i_0, i_m1, l_0, nI_tI, iI_tI, lI_tI, Int.not_lt, Int.not_le] at c_90
        refine Wp.iconst (v := (nI 0)) dX1_meetsSooner_97 (by decide) rfl ?_
        exact Wp.zret dX1_meetsSooner_98 rfl (by decide) (q_ret (bI_f (decide_eq_false (by omega))))
      · try simp (disch := omega) only [nI_bit0, nI_bit1, Bool.not_eq_false, Bool.not_eq_true] at c_90
        try simp (disch := omega) only [i_lt, i_le, i_eq, l_lt, l_le, l_eq, i_0, i_m1, l_0, nI_tI, iI_tI, lI_tI, Int.not_lt, Int.not_le] at c_90
        refine Wp.iconst (v := (nI 1)) dX1_meetsSooner_93 (by decide) rfl ?_
        refine Wp.goto (n := 98) dX1_meetsSooner_94 (by decide) ?_
        exact Wp.zret dX1_meetsSooner_98 rfl (by decide) (q_ret (bI_t (decide_eq_true (by omega))))
theorem c_X1_nextAbove {B : ev_B} {d a n : Nat} {h : ev_H} {c : Nat → Nat} {S R : Nat → Int} {b : Nat} (hC : ChoH h a n c S R) (hB : PrB n S R) (hb : b < n) (hd : 1 ≤ d) :
    Wp B d M_X1_nextAbove 0 [some (.ref a), some (.int (nI b)), none, none] [] h (fun v h' => v = some (.int (iI (nxN S R b n))) ∧ h' = h) := by
  obtain ⟨V, a0, a1, a2, cap, g0, g1, g2, hV, v0, v1, v2, v3, k0, k1, k2, hcap, hg⟩ := id hC
  have hn4 := hB.1
  have hbb := hB.2
  have hgb := hg b hb
  have hb_ := hbb b hb
  have loop : ∀ i, i ≤ n → Wp B d M_X1_nextAbove 4 [some (.ref a), some (.int (nI b)), some (.int (iI (nxN S R b i))), some (.int (nI i))] [] h (fun v h' => v = some (.int (iI (nxN S R b n))) ∧ h' = h) := by
    refine ev_upl n (fun i hi ih => ?_) ?_
    · have hgi := hg i hi
      have hbi := hbb i hi
      have hnx := nxN_in S R b i
      refine Wp.iload_n dX1_nextAbove_4 rfl rfl ?_
      refine Wp.aload_n dX1_nextAbove_5 rfl (by first | exact Or.inr ⟨_, rfl⟩ | exact Or.inl rfl) rfl ?_
      refine Wp.get dX1_nextAbove_6 fl_X1_21 hV v3 rfl ?_
      refine Wp.icmp_ge (tgt := 49) (n := 12) dX1_nextAbove_9 (by decide) rfl (fun c_9 => ?_) (fun c_9 => ?_)
      · try simp (disch := omega) only [nI_bit0, nI_bit1, Bool.not_eq_false, Bool.not_eq_true] at c_9
        try simp (disch := omega) only [i_lt, i_le, i_eq, l_lt, l_le, l_eq, i_0, i_m1, l_0, nI_tI, iI_tI, lI_tI, Int.not_lt, Int.not_le] at c_9
        omega
      · try simp (disch := omega) only [nI_bit0, nI_bit1, Bool.not_eq_false, Bool.not_eq_true] at c_9
        try simp (disch := omega) only [i_lt, i_le, i_eq, l_lt, l_le, l_eq, i_0, i_m1, l_0, nI_tI, iI_tI, lI_tI, Int.not_lt, Int.not_le] at c_9
        refine Wp.aload_n dX1_nextAbove_12 rfl (by first | exact Or.inr ⟨_, rfl⟩ | exact Or.inl rfl) rfl ?_
        refine Wp.get dX1_nextAbove_13 fl_X1_18 hV v2 rfl ?_
        refine Wp.iload_n dX1_nextAbove_16 rfl rfl ?_
        refine Wp.iaload dX1_nextAbove_17 k2 (nI_toInt (by omega)) (by omega) rfl ?_
        rw [hgi.2.2]
        refine Wp.aload_n dX1_nextAbove_18 rfl (by first | exact Or.inr ⟨_, rfl⟩ | exact Or.inl rfl) rfl ?_
        refine Wp.get dX1_nextAbove_19 fl_X1_18 hV v2 rfl ?_
        refine Wp.iload_n dX1_nextAbove_22 rfl rfl ?_
        refine Wp.iaload dX1_nextAbove_23 k2 (nI_toInt (by omega)) (by omega) rfl ?_
        rw [hgb.2.2]
        refine Wp.icmp_ge (tgt := 43) (n := 27) dX1_nextAbove_24 (by decide) rfl (fun c_24 => ?_) (fun c_24 => ?_)
        · try simp (disch := omega) only [nI_bit0, nI_bit1, Bool.not_eq_false, Bool.not_eq_true] at c_24
          try simp (disch := omega) only [i_lt, i_le, i_eq, l_lt, l_le, l_eq, i_0, i_m1, l_0, nI_tI, iI_tI, lI_tI, Int.not_lt, Int.not_le] at c_24
          refine Wp.iinc (v := _ + (nI 1)) dX1_nextAbove_43 rfl rfl (Nat.le_of_ble_eq_true rfl) (by dsimp only [ev_st1, ev_cl] <;> rfl) rfl ?_
          refine Wp.goto (n := 4) dX1_nextAbove_46 (by decide) ?_
          rw [nI_add1]
          have hr : nxN S R b (i + 1) = if R i < R b ∧ ((nxN S R b i) < 0 ∨ mts S R b i (nxN S R b i).toNat) then (i : Int) else (nxN S R b i) := rfl
          first
            | (rw [if_pos (by first | omega | exact ⟨by omega, Or.inr (by rw [he, Int.toNat_natCast]; assumption)⟩)] at hr; rw [hr, ← nI_iI] at ih; exact ih)
            | (rw [if_neg (by first | omega | (rw [he, Int.toNat_natCast]; intro z; rcases z.2 with z2 | z2; omega; exact absurd z2 (by assumption)))] at hr; rw [hr] at ih; first | exact ih | (rw [he, ← nI_iI] at ih; exact ih))
        · try simp (disch := omega) only [nI_bit0, nI_bit1, Bool.not_eq_false, Bool.not_eq_true] at c_24
          try simp (disch := omega) only [i_lt, i_le, i_eq, l_lt, l_le, l_eq, i_0, i_m1, l_0, nI_tI, iI_tI, lI_tI, Int.not_lt, Int.not_le] at c_24
          refine Wp.iload_n dX1_nextAbove_27 rfl rfl ?_
          refine Wp.if_lt (tgt := 41) (n := 31) dX1_nextAbove_28 (by decide) rfl (fun c_28 => ?_) (fun c_28 => ?_)
          · try simp (disch := omega) only [nI_bit0, nI_bit1, Bool.not_eq_false, Bool.not_eq_true] at c_28
            try simp (disch := omega) only [i_lt, i_le, i_eq, l_lt, l_le, l_eq, i_0, i_m1, l_0, nI_tI, iI_tI, lI_tI, Int.not_lt, Int.not_le] at c_28
            refine Wp.iload_n dX1_nextAbove_41 rfl rfl ?_
            refine Wp.istore_n dX1_nextAbove_42 (Nat.le_of_ble_eq_true rfl) (by dsimp only [ev_st1, ev_st2, ev_cl] <;> rfl) rfl ?_
            refine Wp.iinc (v := _ + (nI 1)) dX1_nextAbove_43 rfl rfl (Nat.le_of_ble_eq_true rfl) (by dsimp only [ev_st1, ev_cl] <;> rfl) rfl ?_
            refine Wp.goto (n := 4) dX1_nextAbove_46 (by decide) ?_
            rw [nI_add1]
            have hr : nxN S R b (i + 1) = if R i < R b ∧ ((nxN S R b i) < 0 ∨ mts S R b i (nxN S R b i).toNat) then (i : Int) else (nxN S R b i) := rfl
            first
              | (rw [if_pos (by first | omega | exact ⟨by omega, Or.inr (by rw [he, Int.toNat_natCast]; assumption)⟩)] at hr; rw [hr, ← nI_iI] at ih; exact ih)
              | (rw [if_neg (by first | omega | (rw [he, Int.toNat_natCast]; intro z; rcases z.2 with z2 | z2; omega; exact absurd z2 (by assumption)))] at hr; rw [hr] at ih; first | exact ih | (rw [he, ← nI_iI] at ih; exact ih))
          · try simp (disch := omega) only [nI_bit0, nI_bit1, Bool.not_eq_false, Bool.not_eq_true] at c_28
            try simp (disch := omega) only [i_lt, i_le, i_eq, l_lt, l_le, l_eq, i_0, i_m1, l_0, nI_tI, iI_tI, lI_tI, Int.not_lt, Int.not_le] at c_28
            obtain ⟨e, he⟩ : ∃ e : Nat, (nxN S R b i) = e := ⟨_, (Int.toNat_of_nonneg (by omega)).symm⟩
            rw [he, ← nI_iI]
            have hen : e < n := by omega
            refine Wp.aload_n dX1_nextAbove_31 rfl (by first | exact Or.inr ⟨_, rfl⟩ | exact Or.inl rfl) rfl ?_
            refine Wp.iload_n dX1_nextAbove_32 rfl rfl ?_
            refine Wp.iload_n dX1_nextAbove_33 rfl rfl ?_
            refine Wp.iload_n dX1_nextAbove_34 rfl rfl ?_
            refine Wp.cV dX1_nextAbove_35 cv_X1_62 rfl (by omega) rfl (Nat.le_of_ble_eq_true rfl) (Nat.le_of_ble_eq_true rfl) hV rfl (c_X1_meetsSooner (d := d - 1) hC hB hb hi hen) ?_
            rintro _ h_ ⟨rfl, e_⟩
            rw [e_]
            clear e_ h_
            dsimp only [Option.toList, List.drop, List.cons_append, List.nil_append]
            refine Wp.bif_eq (tgt := 43) (n := 41) dX1_nextAbove_38 (by decide) rfl (fun c_38 => ?_) (fun c_38 => ?_)
            · try simp only [decide_eq_true_eq, decide_eq_false_iff_not, Bool.and_eq_true, bI_0, bI_n0] at c_38
              refine Wp.iinc (v := _ + (nI 1)) dX1_nextAbove_43 rfl rfl (Nat.le_of_ble_eq_true rfl) (by dsimp only [ev_st1, ev_cl] <;> rfl) rfl ?_
              refine Wp.goto (n := 4) dX1_nextAbove_46 (by decide) ?_
              rw [nI_add1]
              have hr : nxN S R b (i + 1) = if R i < R b ∧ ((nxN S R b i) < 0 ∨ mts S R b i (nxN S R b i).toNat) then (i : Int) else (nxN S R b i) := rfl
              first
                | (rw [if_pos (by first | omega | exact ⟨by omega, Or.inr (by rw [he, Int.toNat_natCast]; assumption)⟩)] at hr; rw [hr, ← nI_iI] at ih; exact ih)
                | (rw [if_neg (by first | omega | (rw [he, Int.toNat_natCast]; intro z; rcases z.2 with z2 | z2; omega; exact absurd z2 (by assumption)))] at hr; rw [hr] at ih; first | exact ih | (rw [he, ← nI_iI] at ih; exact ih))
            · try simp only [decide_eq_true_eq, decide_eq_false_iff_not, Bool.and_eq_true, bI_0, bI_n0] at c_38
              refine Wp.iload_n dX1_nextAbove_41 rfl rfl ?_
              refine Wp.istore_n dX1_nextAbove_42 (Nat.le_of_ble_eq_true rfl) (by dsimp only [ev_st1, ev_st2, ev_cl] <;> rfl) rfl ?_
              refine Wp.iinc (v := _ + (nI 1)) dX1_nextAbove_43 rfl rfl (Nat.le_of_ble_eq_true rfl) (by dsimp only [ev_st1, ev_cl] <;> rfl) rfl ?_
              refine Wp.goto (n := 4) dX1_nextAbove_46 (by decide) ?_
              rw [nI_add1]
              have hr : nxN S R b (i + 1) = if R i < R b ∧ ((nxN S R b i) < 0 ∨ mts S R b i (nxN S R b i).toNat) then (i : Int) else (nxN S R b i) := rfl
              first
                | (rw [if_pos (by first | omega | exact ⟨by omega, Or.inr (by rw [he, Int.toNat_natCast]; assumption)⟩)] at hr; rw [hr, ← nI_iI] at ih; exact ih)
                | (rw [if_neg (by first | omega | (rw [he, Int.toNat_natCast]; intro z; rcases z.2 with z2 | z2; omega; exact absurd z2 (by assumption)))] at hr; rw [hr] at ih; first | exact ih | (rw [he, ← nI_iI] at ih; exact ih))
    · refine Wp.iload_n dX1_nextAbove_4 rfl rfl ?_
      refine Wp.aload_n dX1_nextAbove_5 rfl (by first | exact Or.inr ⟨_, rfl⟩ | exact Or.inl rfl) rfl ?_
      refine Wp.get dX1_nextAbove_6 fl_X1_21 hV v3 rfl ?_
      refine Wp.icmp_ge (tgt := 49) (n := 12) dX1_nextAbove_9 (by decide) rfl (fun c_9 => ?_) (fun c_9 => ?_)
      · try simp (disch := omega) only [nI_bit0, nI_bit1, Bool.not_eq_false, Bool.not_eq_true] at c_9
        try simp (disch := omega) only [i_lt, i_le, i_eq, l_lt, l_le, l_eq, i_0, i_m1, l_0, nI_tI, iI_tI, lI_tI, Int.not_lt, Int.not_le] at c_9
        refine Wp.iload_n dX1_nextAbove_49 rfl rfl ?_
        exact Wp.iret dX1_nextAbove_50 rfl (by exact ⟨rfl, rfl⟩)
      · try simp (disch := omega) only [nI_bit0, nI_bit1, Bool.not_eq_false, Bool.not_eq_true] at c_9
        try simp (disch := omega) only [i_lt, i_le, i_eq, l_lt, l_le, l_eq, i_0, i_m1, l_0, nI_tI, iI_tI, lI_tI, Int.not_lt, Int.not_le] at c_9
        omega
  refine Wp.iconst (v := (-1)) dX1_nextAbove_0 (by decide) rfl ?_
  refine Wp.istore_n dX1_nextAbove_1 (Nat.le_of_ble_eq_true rfl) (by dsimp only [ev_st1, ev_st2, ev_cl] <;> rfl) rfl ?_
  refine Wp.iconst (v := (nI 0)) dX1_nextAbove_2 (by decide) rfl ?_
  refine Wp.istore_n dX1_nextAbove_3 (Nat.le_of_ble_eq_true rfl) (by dsimp only [ev_st1, ev_st2, ev_cl] <;> rfl) rfl ?_
  exact loop 0 (by omega)
theorem c_X1_placeOf {B : ev_B} {d a n : Nat} {h : ev_H} {c : Nat → Nat} {S R : Nat → Int} {s : Int32} (hC : ChoH h a n c S R) (hB : PrB n S R) (hc : ∀ j, j < n → c j < 4096) :
    Wp B d M_X1_placeOf 0 [some (.ref a), some (.int (s)), none] [] h (fun v h' => v = some (.int (iI (plG c n s))) ∧ h' = h) := by
  obtain ⟨V, a0, a1, a2, cap, g0, g1, g2, hV, v0, v1, v2, v3, k0, k1, k2, hcap, hg⟩ := id hC
  have hn4 := hB.1
  have hbb := hB.2
  have loop : ∀ i, i ≤ n → (∀ j, j < i → nI (c j) ≠ s) → Wp B d M_X1_placeOf 2 [some (.ref a), some (.int (s)), some (.int (nI i))] [] h (fun v h' => v = some (.int (iI (plG c n s))) ∧ h' = h) := by
    refine ev_upl n (fun i hi ih => ?_) ?_
    · intro hf
      refine Wp.iload_n dX1_placeOf_2 rfl rfl ?_
      refine Wp.aload_n dX1_placeOf_3 rfl (by first | exact Or.inr ⟨_, rfl⟩ | exact Or.inl rfl) rfl ?_
      refine Wp.get dX1_placeOf_4 fl_X1_21 hV v3 rfl ?_
      refine Wp.icmp_ge (tgt := 28) (n := 10) dX1_placeOf_7 (by decide) rfl (fun c_7 => ?_) (fun c_7 => ?_)
      · try simp (disch := omega) only [nI_bit0, nI_bit1, Bool.not_eq_false, Bool.not_eq_true] at c_7
        try simp (disch := omega) only [i_lt, i_le, i_eq, l_lt, l_le, l_eq, i_0, i_m1, l_0, nI_tI, iI_tI, lI_tI, Int.not_lt, Int.not_le] at c_7
        omega
      · try simp (disch := omega) only [nI_bit0, nI_bit1, Bool.not_eq_false, Bool.not_eq_true] at c_7
        try simp (disch := omega) only [i_lt, i_le, i_eq, l_lt, l_le, l_eq, i_0, i_m1, l_0, nI_tI, iI_tI, lI_tI, Int.not_lt, Int.not_le] at c_7
        refine Wp.aload_n dX1_placeOf_10 rfl (by first | exact Or.inr ⟨_, rfl⟩ | exact Or.inl rfl) rfl ?_
        refine Wp.get dX1_placeOf_11 fl_X1_9 hV v0 rfl ?_
        refine Wp.iload_n dX1_placeOf_14 rfl rfl ?_
        refine Wp.iaload dX1_placeOf_15 k0 (nI_toInt (by omega)) (by omega) rfl ?_
        rw [(hg i hi).1]
        refine Wp.iload_n dX1_placeOf_16 rfl rfl ?_
        refine Wp.icmp_ne (tgt := 22) (n := 20) dX1_placeOf_17 (by decide) rfl (fun c_17 => ?_) (fun c_17 => ?_)
        · skip
          refine Wp.iinc (v := _ + (nI 1)) dX1_placeOf_22 rfl rfl (Nat.le_of_ble_eq_true rfl) (by dsimp only [ev_st1, ev_cl] <;> rfl) rfl ?_
          refine Wp.goto (n := 2) dX1_placeOf_25 (by decide) ?_
          rw [nI_add1]
          exact ih (fun j hj => by
            by_cases e : j = i
            · subst e; exact c_17
            · exact hf j (by omega))
        · skip
          refine Wp.iload_n dX1_placeOf_20 rfl rfl ?_
          exact Wp.iret dX1_placeOf_21 rfl (by rw [plG_pos (hc i hi) hi c_17 hf, ← nI_iI]; exact ⟨rfl, rfl⟩)
    · intro hf
      refine Wp.iload_n dX1_placeOf_2 rfl rfl ?_
      refine Wp.aload_n dX1_placeOf_3 rfl (by first | exact Or.inr ⟨_, rfl⟩ | exact Or.inl rfl) rfl ?_
      refine Wp.get dX1_placeOf_4 fl_X1_21 hV v3 rfl ?_
      refine Wp.icmp_ge (tgt := 28) (n := 10) dX1_placeOf_7 (by decide) rfl (fun c_7 => ?_) (fun c_7 => ?_)
      · try simp (disch := omega) only [nI_bit0, nI_bit1, Bool.not_eq_false, Bool.not_eq_true] at c_7
        try simp (disch := omega) only [i_lt, i_le, i_eq, l_lt, l_le, l_eq, i_0, i_m1, l_0, nI_tI, iI_tI, lI_tI, Int.not_lt, Int.not_le] at c_7
        refine Wp.iconst (v := (-1)) dX1_placeOf_28 (by decide) rfl ?_
        exact Wp.iret dX1_placeOf_29 rfl (by rw [plG_none hf]; exact ⟨rfl, rfl⟩)
      · try simp (disch := omega) only [nI_bit0, nI_bit1, Bool.not_eq_false, Bool.not_eq_true] at c_7
        try simp (disch := omega) only [i_lt, i_le, i_eq, l_lt, l_le, l_eq, i_0, i_m1, l_0, nI_tI, iI_tI, lI_tI, Int.not_lt, Int.not_le] at c_7
        omega
  refine Wp.iconst (v := (nI 0)) dX1_placeOf_0 (by decide) rfl ?_
  refine Wp.istore_n dX1_placeOf_1 (Nat.le_of_ble_eq_true rfl) (by dsimp only [ev_st1, ev_st2, ev_cl] <;> rfl) rfl ?_
  exact loop 0 (by omega) (fun j hj => absurd hj (Nat.not_lt_zero j))
theorem c_X1_comesAhead {B : ev_B} {d s t : Nat} {h : ev_H} :
    Wp B d M_X1_comesAhead 0 [some (.int (nI s)), some (.int (nI t)), none] [] h (fun v h' => v = some (.int (bI (decide (¬ ahB s t = 0)))) ∧ h' = h) := by
  refine Wp.iload_n dX1_comesAhead_0 rfl rfl ?_
  refine Wp.iload_n dX1_comesAhead_1 rfl rfl ?_
  refine Wp.ixor dX1_comesAhead_2 rfl ?_
  refine Wp.istore_n dX1_comesAhead_3 (Nat.le_of_ble_eq_true rfl) (by dsimp only [ev_st1, ev_st2, ev_cl] <;> rfl) rfl ?_
  refine Wp.iload_n dX1_comesAhead_4 rfl rfl ?_
  refine Wp.iload_n dX1_comesAhead_5 rfl rfl ?_
  refine Wp.iand dX1_comesAhead_6 rfl ?_
  refine Wp.iload_n dX1_comesAhead_7 rfl rfl ?_
  refine Wp.ineg dX1_comesAhead_8 rfl ?_
  refine Wp.iand dX1_comesAhead_9 rfl ?_
  refine Wp.if_eq (tgt := 17) (n := 13) dX1_comesAhead_10 (by decide) rfl (fun c_10 => ?_) (fun c_10 => ?_)
  · skip
    refine Wp.iconst (v := (nI 0)) dX1_comesAhead_17 (by decide) rfl ?_
    exact Wp.zret dX1_comesAhead_18 rfl (by decide) (q_ret (bI_f (decide_eq_false (fun z => z c_10))))
  · skip
    refine Wp.iconst (v := (nI 1)) dX1_comesAhead_13 (by decide) rfl ?_
    refine Wp.goto (n := 18) dX1_comesAhead_14 (by decide) ?_
    exact Wp.zret dX1_comesAhead_18 rfl (by decide) (q_ret (bI_t (decide_eq_true c_10)))
theorem goB_of {R : Nat → Int} {n : Nat} : ∀ k, 0 < n → (∀ j, j < k → 0 < R j) → goB R n k = true
  | 0, h, _ => decide_eq_true h
  | k + 1, h, hp => by simp only [goB, Bool.and_eq_true, decide_eq_true_eq]; exact ⟨goB_of k h (fun j hj => hp j (by omega)), hp k (by omega)⟩
theorem goB_no {R : Nat → Int} {n j : Nat} (h : R j ≤ 0) : ∀ k, j < k → goB R n k = false := by
  intro k hk
  cases e : goB R n k with
  | false => rfl
  | true => have := (goB_all k e).2 j hk; omega
def lrI (S R : Nat → Int) (n : Nat) : Int := if goB R n n = true then (rtN S R n : Nat) else -1
theorem rtN_1 (S R : Nat → Int) : rtN S R 1 = 0 := by simp [rtN]
theorem c_X1_leastRatio {B : ev_B} {d a n : Nat} {h : ev_H} {c : Nat → Nat} {S R : Nat → Int} (hC : ChoH h a n c S R) (hB : PrB n S R) (hd : 1 ≤ d) :
    Wp B d M_X1_leastRatio 0 [some (.ref a), none, none] [] h (fun v h' => v = some (.int (iI (lrI S R n))) ∧ h' = h) := by
  obtain ⟨V, a0, a1, a2, cap, g0, g1, g2, hV, v0, v1, v2, v3, k0, k1, k2, hcap, hg⟩ := id hC
  have hn4 := hB.1
  have hbb := hB.2
  have loop : ∀ i, i ≤ n → 0 < i → (∀ j, j < i → 0 < R j) → Wp B d M_X1_leastRatio 4 [some (.ref a), some (.int (nI (rtN S R i))), some (.int (nI i))] [] h (fun v h' => v = some (.int (iI (lrI S R n))) ∧ h' = h) := by
    refine ev_upl n (fun i hi ih => ?_) ?_
    · intro h0 hp
      have hrl := (rtN_le S R i).2 h0
      have hrn : (rtN S R i) < n := by omega
      have hgi := hg i hi
      have hgr := hg _ hrn
      have hbi := hbb i hi
      have hbr := hbb _ hrn
      have m1 := mulb (a := S i) (b := R (rtN S R i)) (A := 1200) (C := 240) (by omega) (by omega)
      have m2 := mulb (a := S (rtN S R i)) (b := R i) (A := 1200) (C := 240) (by omega) (by omega)
      refine Wp.iload_n dX1_leastRatio_4 rfl rfl ?_
      refine Wp.aload_n dX1_leastRatio_5 rfl (by first | exact Or.inr ⟨_, rfl⟩ | exact Or.inl rfl) rfl ?_
      refine Wp.get dX1_leastRatio_6 fl_X1_21 hV v3 rfl ?_
      refine Wp.icmp_ge (tgt := 69) (n := 12) dX1_leastRatio_9 (by decide) rfl (fun c_9 => ?_) (fun c_9 => ?_)
      · try simp (disch := omega) only [nI_bit0, nI_bit1, Bool.not_eq_false, Bool.not_eq_true] at c_9
        try simp (disch := omega) only [i_lt, i_le, i_eq, l_lt, l_le, l_eq, i_0, i_m1, l_0, nI_tI, iI_tI, lI_tI, Int.not_lt, Int.not_le] at c_9
        omega
      · try simp (disch := omega) only [nI_bit0, nI_bit1, Bool.not_eq_false, Bool.not_eq_true] at c_9
        try simp (disch := omega) only [i_lt, i_le, i_eq, l_lt, l_le, l_eq, i_0, i_m1, l_0, nI_tI, iI_tI, lI_tI, Int.not_lt, Int.not_le] at c_9
        refine Wp.aload_n dX1_leastRatio_12 rfl (by first | exact Or.inr ⟨_, rfl⟩ | exact Or.inl rfl) rfl ?_
        refine Wp.get dX1_leastRatio_13 fl_X1_18 hV v2 rfl ?_
        refine Wp.iload_n dX1_leastRatio_16 rfl rfl ?_
        refine Wp.iaload dX1_leastRatio_17 k2 (nI_toInt (by omega)) (by omega) rfl ?_
        rw [hgi.2.2]
        refine Wp.if_gt (tgt := 23) (n := 21) dX1_leastRatio_18 (by decide) rfl (fun c_18 => ?_) (fun c_18 => ?_)
        · try simp (disch := omega) only [nI_bit0, nI_bit1, Bool.not_eq_false, Bool.not_eq_true] at c_18
          try simp (disch := omega) only [i_lt, i_le, i_eq, l_lt, l_le, l_eq, i_0, i_m1, l_0, nI_tI, iI_tI, lI_tI, Int.not_lt, Int.not_le] at c_18
          refine Wp.iload_n dX1_leastRatio_23 rfl rfl ?_
          refine Wp.if_lt (tgt := 61) (n := 27) dX1_leastRatio_24 (by decide) rfl (fun c_24 => ?_) (fun c_24 => ?_)
          · try simp (disch := omega) only [nI_bit0, nI_bit1, Bool.not_eq_false, Bool.not_eq_true] at c_24
            try simp (disch := omega) only [i_lt, i_le, i_eq, l_lt, l_le, l_eq, i_0, i_m1, l_0, nI_tI, iI_tI, lI_tI, Int.not_lt, Int.not_le] at c_24
            omega
          · try simp (disch := omega) only [nI_bit0, nI_bit1, Bool.not_eq_false, Bool.not_eq_true] at c_24
            try simp (disch := omega) only [i_lt, i_le, i_eq, l_lt, l_le, l_eq, i_0, i_m1, l_0, nI_tI, iI_tI, lI_tI, Int.not_lt, Int.not_le] at c_24
            refine Wp.aload_n dX1_leastRatio_27 rfl (by first | exact Or.inr ⟨_, rfl⟩ | exact Or.inl rfl) rfl ?_
            refine Wp.get dX1_leastRatio_28 fl_X1_15 hV v1 rfl ?_
            refine Wp.iload_n dX1_leastRatio_31 rfl rfl ?_
            refine Wp.iaload dX1_leastRatio_32 k1 (nI_toInt (by omega)) (by omega) rfl ?_
            rw [hgi.2.1]
            refine Wp.i2l dX1_leastRatio_33 rfl ?_
            rw [iI_l (by omega) (by omega)]
            refine Wp.aload_n dX1_leastRatio_34 rfl (by first | exact Or.inr ⟨_, rfl⟩ | exact Or.inl rfl) rfl ?_
            refine Wp.get dX1_leastRatio_35 fl_X1_18 hV v2 rfl ?_
            refine Wp.iload_n dX1_leastRatio_38 rfl rfl ?_
            refine Wp.iaload dX1_leastRatio_39 k2 (nI_toInt (by omega)) (by omega) rfl ?_
            rw [hgi.2.2]
            refine Wp.i2l dX1_leastRatio_40 rfl ?_
            rw [iI_l (by omega) (by omega)]
            refine Wp.aload_n dX1_leastRatio_41 rfl (by first | exact Or.inr ⟨_, rfl⟩ | exact Or.inl rfl) rfl ?_
            refine Wp.get dX1_leastRatio_42 fl_X1_15 hV v1 rfl ?_
            refine Wp.iload_n dX1_leastRatio_45 rfl rfl ?_
            refine Wp.iaload dX1_leastRatio_46 k1 (nI_toInt (by omega)) (by omega) rfl ?_
            rw [hgr.2.1]
            refine Wp.i2l dX1_leastRatio_47 rfl ?_
            rw [iI_l (by omega) (by omega)]
            refine Wp.aload_n dX1_leastRatio_48 rfl (by first | exact Or.inr ⟨_, rfl⟩ | exact Or.inl rfl) rfl ?_
            refine Wp.get dX1_leastRatio_49 fl_X1_18 hV v2 rfl ?_
            refine Wp.iload_n dX1_leastRatio_52 rfl rfl ?_
            refine Wp.iaload dX1_leastRatio_53 k2 (nI_toInt (by omega)) (by omega) rfl ?_
            rw [hgr.2.2]
            refine Wp.i2l dX1_leastRatio_54 rfl ?_
            rw [iI_l (by omega) (by omega)]
            refine Wp.cSN dX1_leastRatio_55 cs_X1_65 rfl (by omega) rfl (Nat.le_of_ble_eq_true rfl) (Nat.le_of_ble_eq_true rfl) rfl (c_X11_isLess (d := d - 1) ⟨by omega, by omega⟩ ⟨by omega, by omega⟩) ?_
            rintro _ h_ ⟨rfl, e_⟩
            rw [e_]
            clear e_ h_
            dsimp only [Option.toList, List.drop, List.cons_append, List.nil_append]
            refine Wp.bif_eq (tgt := 63) (n := 61) dX1_leastRatio_58 (by decide) rfl (fun c_58 => ?_) (fun c_58 => ?_)
            · try simp only [decide_eq_true_eq, decide_eq_false_iff_not, Bool.and_eq_true, bI_0, bI_n0] at c_58
              refine Wp.iinc (v := _ + (nI 1)) dX1_leastRatio_63 rfl rfl (Nat.le_of_ble_eq_true rfl) (by dsimp only [ev_st1, ev_cl] <;> rfl) rfl ?_
              refine Wp.goto (n := 4) dX1_leastRatio_66 (by decide) ?_
              rw [nI_add1]
              have hr : rtN S R (i + 1) = if S i * R (rtN S R i) < S (rtN S R i) * R i then i else (rtN S R i) := rfl
              have hp1 : ∀ j, j < i + 1 → 0 < R j := fun j hj => by
                rcases Nat.lt_or_ge j i with g | g
                · exact hp j g
                · have e : j = i := by omega
                  rw [e]; omega
              first
                | (rw [if_pos (by omega)] at hr; rw [hr] at ih; exact ih (by omega) hp1)
                | (rw [if_neg (by omega)] at hr; rw [hr] at ih; exact ih (by omega) hp1)
            · try simp only [decide_eq_true_eq, decide_eq_false_iff_not, Bool.and_eq_true, bI_0, bI_n0] at c_58
              refine Wp.iload_n dX1_leastRatio_61 rfl rfl ?_
              refine Wp.istore_n dX1_leastRatio_62 (Nat.le_of_ble_eq_true rfl) (by dsimp only [ev_st1, ev_st2, ev_cl] <;> rfl) rfl ?_
              refine Wp.iinc (v := _ + (nI 1)) dX1_leastRatio_63 rfl rfl (Nat.le_of_ble_eq_true rfl) (by dsimp only [ev_st1, ev_cl] <;> rfl) rfl ?_
              refine Wp.goto (n := 4) dX1_leastRatio_66 (by decide) ?_
              rw [nI_add1]
              have hr : rtN S R (i + 1) = if S i * R (rtN S R i) < S (rtN S R i) * R i then i else (rtN S R i) := rfl
              have hp1 : ∀ j, j < i + 1 → 0 < R j := fun j hj => by
                rcases Nat.lt_or_ge j i with g | g
                · exact hp j g
                · have e : j = i := by omega
                  rw [e]; omega
              first
                | (rw [if_pos (by omega)] at hr; rw [hr] at ih; exact ih (by omega) hp1)
                | (rw [if_neg (by omega)] at hr; rw [hr] at ih; exact ih (by omega) hp1)
        · try simp (disch := omega) only [nI_bit0, nI_bit1, Bool.not_eq_false, Bool.not_eq_true] at c_18
          try simp (disch := omega) only [i_lt, i_le, i_eq, l_lt, l_le, l_eq, i_0, i_m1, l_0, nI_tI, iI_tI, lI_tI, Int.not_lt, Int.not_le] at c_18
          refine Wp.iconst (v := (-1)) dX1_leastRatio_21 (by decide) rfl ?_
          exact Wp.iret dX1_leastRatio_22 rfl (by rw [lrI, goB_no (j := i) (by omega) n (by omega)]; exact ⟨rfl, rfl⟩)
    · intro h0 hp
      refine Wp.iload_n dX1_leastRatio_4 rfl rfl ?_
      refine Wp.aload_n dX1_leastRatio_5 rfl (by first | exact Or.inr ⟨_, rfl⟩ | exact Or.inl rfl) rfl ?_
      refine Wp.get dX1_leastRatio_6 fl_X1_21 hV v3 rfl ?_
      refine Wp.icmp_ge (tgt := 69) (n := 12) dX1_leastRatio_9 (by decide) rfl (fun c_9 => ?_) (fun c_9 => ?_)
      · try simp (disch := omega) only [nI_bit0, nI_bit1, Bool.not_eq_false, Bool.not_eq_true] at c_9
        try simp (disch := omega) only [i_lt, i_le, i_eq, l_lt, l_le, l_eq, i_0, i_m1, l_0, nI_tI, iI_tI, lI_tI, Int.not_lt, Int.not_le] at c_9
        refine Wp.iload_n dX1_leastRatio_69 rfl rfl ?_
        exact Wp.iret dX1_leastRatio_70 rfl (by rw [lrI, if_pos (goB_of n h0 hp), ← nI_iI]; exact ⟨rfl, rfl⟩)
      · try simp (disch := omega) only [nI_bit0, nI_bit1, Bool.not_eq_false, Bool.not_eq_true] at c_9
        try simp (disch := omega) only [i_lt, i_le, i_eq, l_lt, l_le, l_eq, i_0, i_m1, l_0, nI_tI, iI_tI, lI_tI, Int.not_lt, Int.not_le] at c_9
        omega
  refine Wp.iconst (v := (-1)) dX1_leastRatio_0 (by decide) rfl ?_
  refine Wp.istore_n dX1_leastRatio_1 (Nat.le_of_ble_eq_true rfl) (by dsimp only [ev_st1, ev_st2, ev_cl] <;> rfl) rfl ?_
  refine Wp.iconst (v := (nI 0)) dX1_leastRatio_2 (by decide) rfl ?_
  refine Wp.istore_n dX1_leastRatio_3 (Nat.le_of_ble_eq_true rfl) (by dsimp only [ev_st1, ev_st2, ev_cl] <;> rfl) rfl ?_
  refine Wp.iload_n dX1_leastRatio_4 rfl rfl ?_
  refine Wp.aload_n dX1_leastRatio_5 rfl (by first | exact Or.inr ⟨_, rfl⟩ | exact Or.inl rfl) rfl ?_
  refine Wp.get dX1_leastRatio_6 fl_X1_21 hV v3 rfl ?_
  refine Wp.icmp_ge (tgt := 69) (n := 12) dX1_leastRatio_9 (by decide) rfl (fun c_9 => ?_) (fun c_9 => ?_)
  · try simp (disch := omega) only [i_le, nI_tI] at c_9
    have hz : n = 0 := by omega
    refine Wp.iload_n dX1_leastRatio_69 rfl rfl ?_
    exact Wp.iret dX1_leastRatio_70 rfl (by rw [lrI, if_neg (fun z => by have := (goB_all _ z).1; omega)]; exact ⟨rfl, rfl⟩)
  · try simp (disch := omega) only [i_le, nI_tI] at c_9
    have hg0 := hg 0 (by omega)
    have hb0 := hbb 0 (by omega)
    refine Wp.aload_n dX1_leastRatio_12 rfl (by first | exact Or.inr ⟨_, rfl⟩ | exact Or.inl rfl) rfl ?_
    refine Wp.get dX1_leastRatio_13 fl_X1_18 hV v2 rfl ?_
    refine Wp.iload_n dX1_leastRatio_16 rfl rfl ?_
    refine Wp.iaload dX1_leastRatio_17 k2 (nI_toInt (by omega)) (by omega) rfl ?_
    rw [hg0.2.2]
    refine Wp.if_gt (tgt := 23) (n := 21) dX1_leastRatio_18 (by decide) rfl (fun c_18 => ?_) (fun c_18 => ?_)
    · try simp (disch := omega) only [nI_bit0, nI_bit1, Bool.not_eq_false, Bool.not_eq_true] at c_18
      try simp (disch := omega) only [i_lt, i_le, i_eq, l_lt, l_le, l_eq, i_0, i_m1, l_0, nI_tI, iI_tI, lI_tI, Int.not_lt, Int.not_le] at c_18
      refine Wp.iload_n dX1_leastRatio_23 rfl rfl ?_
      refine Wp.if_lt (tgt := 61) (n := 27) dX1_leastRatio_24 (by decide) rfl (fun _ => ?_) (fun c_ => absurd c_ (by decide))
      refine Wp.iload_n dX1_leastRatio_61 rfl rfl ?_
      refine Wp.istore_n dX1_leastRatio_62 (Nat.le_of_ble_eq_true rfl) (by dsimp only [ev_st1, ev_st2, ev_cl] <;> rfl) rfl ?_
      refine Wp.iinc (v := _ + (nI 1)) dX1_leastRatio_63 rfl rfl (Nat.le_of_ble_eq_true rfl) (by dsimp only [ev_st1, ev_cl] <;> rfl) rfl ?_
      refine Wp.goto (n := 4) dX1_leastRatio_66 (by decide) ?_
      have l1 := loop 1 (by omega) (by decide) (fun j hj => by
        have e : j = 0 := by omega
        rw [e]; omega)
      rw [rtN_1] at l1
      exact l1
    · try simp (disch := omega) only [nI_bit0, nI_bit1, Bool.not_eq_false, Bool.not_eq_true] at c_18
      try simp (disch := omega) only [i_lt, i_le, i_eq, l_lt, l_le, l_eq, i_0, i_m1, l_0, nI_tI, iI_tI, lI_tI, Int.not_lt, Int.not_le] at c_18
      refine Wp.iconst (v := (-1)) dX1_leastRatio_21 (by decide) rfl ?_
      exact Wp.iret dX1_leastRatio_22 rfl (by rw [lrI, goB_no (j := 0) (by omega) n (by omega)]; exact ⟨rfl, rfl⟩)
