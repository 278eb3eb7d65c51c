/-! the net of the class: reads -/
theorem c_X2_isThing {B : ev_B} {d a : Nat} {h : ev_H} {V : Nat → Value} {T : Nat} {x : Int32} (h1 : h.1 a = some (ev_ob 2 V)) (h2 : V 4 = .int (nI T)) (hT : T < 1000) :
    Wp B d M_X2_isThing 0 [some (.ref a), some (.int x)] [] h (fun v h' => v = some (.int (bI (decide (0 ≤ x.toInt ∧ x.toInt < T)))) ∧ h' = h) := by
  refine Wp.iload_n dX2_isThing_0 rfl rfl ?_
  refine Wp.if_lt (tgt := 16) (n := 4) dX2_isThing_1 (by decide) rfl (fun c_1 => ?_) (fun c_1 => ?_)
  · try simp (disch := omega) only [i_lt, i_le, i_eq, l_lt, l_le, l_eq, i_0, i_m1, l_0, nI_tI, iI_tI, lI_tI, Int.not_lt, Int.not_le] at c_1
    refine Wp.iconst (v := nI 0) dX2_isThing_16 (by decide) rfl ?_
    exact Wp.zret dX2_isThing_17 rfl (by decide) (q_ret (bI_f (by simp; omega)))
  · try simp (disch := omega) only [i_lt, i_le, i_eq, l_lt, l_le, l_eq, i_0, i_m1, l_0, nI_tI, iI_tI, lI_tI, Int.not_lt, Int.not_le] at c_1
    refine Wp.iload_n dX2_isThing_4 rfl rfl ?_
    refine Wp.aload_n dX2_isThing_5 rfl (by first | exact Or.inr ⟨_, rfl⟩ | exact Or.inl rfl) rfl ?_
    refine Wp.get dX2_isThing_6 fl_X2_28 (by assumption) (by first | assumption | rfl) rfl ?_
    refine Wp.icmp_ge (tgt := 16) (n := 12) dX2_isThing_9 (by decide) rfl (fun c_9 => ?_) (fun c_9 => ?_)
    · try simp (disch := omega) only [i_lt, i_le, i_eq, l_lt, l_le, l_eq, i_0, i_m1, l_0, nI_tI, iI_tI, lI_tI, Int.not_lt, Int.not_le] at c_9
      refine Wp.iconst (v := nI 0) dX2_isThing_16 (by decide) rfl ?_
      exact Wp.zret dX2_isThing_17 rfl (by decide) (q_ret (bI_f (by simp; omega)))
    · try simp (disch := omega) only [i_lt, i_le, i_eq, l_lt, l_le, l_eq, i_0, i_m1, l_0, nI_tI, iI_tI, lI_tI, Int.not_lt, Int.not_le] at c_9
      refine Wp.iconst (v := (nI 1)) dX2_isThing_12 (by decide) rfl ?_
      refine Wp.goto (n := 17) dX2_isThing_13 (by decide) ?_
      exact Wp.zret dX2_isThing_17 rfl (by decide) (q_ret (bI_t (by simp; omega)))
def sumS (f : Nat → Int) (s : Nat) : Nat → Int
  | 0 => 0
  | n + 1 => sumS f s n + (if s.testBit n then f n else 0)
set_option maxHeartbeats 1000000 in
theorem c_X2_sumOver {B : ev_B} {d a b : Nat} {h : ev_H} {V : Nat → Value} {L N s : Nat} {g : Nat → Int32} {f : Nat → Int} (h1 : h.1 a = some (ev_ob 2 V)) (h2 : V 5 = .int (nI L)) (h3 : h.1 b = some (ev_ia N g)) (hL : L ≤ 12) (hN : 12 ≤ N) (hg : ∀ i, i < L → g i = iI (f i)) (hs : s < 4096) :
    Wp B d M_X2_sumOver 0 [some (.ref a), some (.ref b), some (.int (nI s)), none, none] [] h (fun v h' => v = some (.int (iI (sumS f s L))) ∧ h' = h) := by
  have loop : ∀ k i, i + k = L → Wp B d M_X2_sumOver 5 [some (.ref a), some (.ref b), some (.int (nI s)), some (.int (iI (sumS f s i))), some (.int (nI i))] [] h (fun v h' => v = some (.int (iI (sumS f s L))) ∧ h' = h) := by
    intro k
    induction k with
    | zero =>
      intro i hi
      have hi' : i = L := by omega
      subst hi'
      refine Wp.iload dX2_sumOver_5 rfl rfl ?_
      refine Wp.aload_n dX2_sumOver_7 rfl (by first | exact Or.inr ⟨_, rfl⟩ | exact Or.inl rfl) rfl ?_
      refine Wp.get dX2_sumOver_8 fl_X2_31 (by assumption) (by first | assumption | rfl) rfl ?_
      refine Wp.icmp_ge (tgt := 36) (n := 14) dX2_sumOver_11 (by decide) rfl (fun c_11 => ?_) (fun c_11 => ?_)
      · refine Wp.iload_n dX2_sumOver_36 rfl rfl ?_
        exact Wp.iret dX2_sumOver_37 rfl (by exact ⟨rfl, rfl⟩)
      · try simp (disch := omega) only [i_lt, i_le, i_eq, l_lt, l_le, l_eq, i_0, i_m1, l_0, nI_tI, iI_tI, lI_tI, Int.not_lt, Int.not_le] at c_11
        omega
    | succ k ih =>
      intro i hi
      refine Wp.iload dX2_sumOver_5 rfl rfl ?_
      refine Wp.aload_n dX2_sumOver_7 rfl (by first | exact Or.inr ⟨_, rfl⟩ | exact Or.inl rfl) rfl ?_
      refine Wp.get dX2_sumOver_8 fl_X2_31 (by assumption) (by first | assumption | rfl) rfl ?_
      refine Wp.icmp_ge (tgt := 36) (n := 14) dX2_sumOver_11 (by decide) rfl (fun c_11 => ?_) (fun c_11 => ?_)
      · try simp (disch := omega) only [i_lt, i_le, i_eq, l_lt, l_le, l_eq, i_0, i_m1, l_0, nI_tI, iI_tI, lI_tI, Int.not_lt, Int.not_le] at c_11
        omega
      · try simp (disch := omega) only [i_lt, i_le, i_eq, l_lt, l_le, l_eq, i_0, i_m1, l_0, nI_tI, iI_tI, lI_tI, Int.not_lt, Int.not_le] at c_11
        refine Wp.iload_n dX2_sumOver_14 rfl rfl ?_
        refine Wp.iload dX2_sumOver_15 rfl rfl ?_
        refine Wp.ishr dX2_sumOver_17 rfl ?_
        refine Wp.iconst (v := (nI 1)) dX2_sumOver_18 (by decide) rfl ?_
        refine Wp.iand dX2_sumOver_19 rfl ?_
        refine Wp.if_eq (tgt := 30) (n := 23) dX2_sumOver_20 (by decide) rfl (fun c_20 => ?_) (fun c_20 => ?_)
        · rw [nI_bit0 (by omega) (by omega)] at c_20
          refine Wp.iinc (v := _ + (nI 1)) dX2_sumOver_30 rfl rfl (Nat.le_of_ble_eq_true rfl) (by dsimp only [ev_st1, ev_cl] <;> rfl) rfl ?_
          refine Wp.goto (n := 5) dX2_sumOver_33 (by decide) ?_
          refine (ih (i + 1) (by omega)).eqs rfl ?_ rfl rfl
          rw [nI_add1]
          simp [sumS, c_20]
        · rw [nI_bitn0 (by omega) (by omega)] at c_20
          refine Wp.iload_n dX2_sumOver_23 rfl rfl ?_
          refine Wp.aload_n dX2_sumOver_24 rfl (by first | exact Or.inr ⟨_, rfl⟩ | exact Or.inl rfl) rfl ?_
          refine Wp.iload dX2_sumOver_25 rfl rfl ?_
          refine Wp.iaload dX2_sumOver_27 (by assumption) (nI_toInt (by omega)) (by omega) rfl ?_
          refine Wp.iadd dX2_sumOver_28 rfl ?_
          rw [hg i (by omega), iI_add]
          refine Wp.istore_n dX2_sumOver_29 (Nat.le_of_ble_eq_true rfl) (by dsimp only [ev_st1, ev_st2, ev_cl] <;> rfl) rfl ?_
          refine Wp.iinc (v := _ + (nI 1)) dX2_sumOver_30 rfl rfl (Nat.le_of_ble_eq_true rfl) (by dsimp only [ev_st1, ev_cl] <;> rfl) rfl ?_
          refine Wp.goto (n := 5) dX2_sumOver_33 (by decide) ?_
          refine (ih (i + 1) (by omega)).eqs rfl ?_ rfl rfl
          rw [nI_add1]
          simp [sumS, c_20]
  refine Wp.iconst (v := (nI 0)) dX2_sumOver_0 (by decide) rfl ?_
  refine Wp.istore_n dX2_sumOver_1 (Nat.le_of_ble_eq_true rfl) (by dsimp only [ev_st1, ev_st2, ev_cl] <;> rfl) rfl ?_
  refine Wp.iconst (v := (nI 0)) dX2_sumOver_2 (by decide) rfl ?_
  refine Wp.istore dX2_sumOver_3 (Nat.le_of_ble_eq_true rfl) (by dsimp only [ev_st1, ev_st2, ev_cl] <;> rfl) rfl ?_
  exact loop L 0 (by omega)
