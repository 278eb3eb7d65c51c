/-! fractions in lowest terms: both sides -/
theorem lI_div {a : Int} {g : Nat} (ha : sm a) (h0 : 0 < g) (hg : g < 4611686018427387904) : lI a / lN g = lI (a.tdiv g) := by
  have hb := sm_lI ha
  have hq : (lN g).toInt = (g : Int) := by rw [lN_lI]; exact lI_toInt (by omega) (by omega)
  have hn : (a.tdiv g).natAbs ≤ a.natAbs := by rw [Int.natAbs_tdiv]; exact Nat.div_le_self _ _
  have h1 := ha.1
  have h2 := ha.2
  rw [l_eq, Int64.toInt_div, hb, hq, lI_toInt (by omega) (by omega)]
  exact Int.bmod_eq_of_le (by omega) (by omega)
theorem lN_eq0 {w : Nat} (hw : w < 4611686018427387904) : lN w = 0 ↔ w = 0 := by
  constructor
  · intro h
    rcases Nat.eq_zero_or_pos w with e | e
    · exact e
    · exact absurd h ((lN_ne0 hw).mpr e)
  · intro h; rw [h]; rfl
/-- a fraction's number above (true) or below the line, in lowest terms -/
def low (w : Bool) (a b : Int) : Int := (if w then a else b).tdiv (Int.gcd a b : Nat)
theorem gcd_sm {a b : Int} (ha : sm a) (hb : sm b) : Int.gcd a b < 4611686018427387904 := by
  rcases Nat.eq_zero_or_pos (Int.gcd a b) with h | h
  · omega
  · have h1 := ha.1
    have h2 := ha.2
    have h3 := hb.1
    have h4 := hb.2
    by_cases z : a = 0
    · subst z
      rw [Int.gcd_zero_left]; omega
    · have := Int.gcd_le_natAbs_left b (a := a) (by omega)
      omega
theorem prod_step {u w k : Nat} (h : w ≤ u) (hp : u * w < 2 ^ (k + 1)) (h0 : 0 < w) : w * (u % w) < 2 ^ k := by
  have hr := Nat.mod_lt u h0
  have hd := Nat.mod_add_div u w
  have hq : 1 ≤ u / w := (Nat.one_le_div_iff h0).mpr h
  have hw : w ≤ w * (u / w) := Nat.le_mul_of_pos_right w hq
  have h2 : 2 * (u % w) < u := by omega
  have h3 : w * (2 * (u % w)) < w * u := Nat.mul_lt_mul_of_pos_left h2 h0
  have h4 : w * (2 * (u % w)) = 2 * (w * (u % w)) := by rw [← Nat.mul_assoc, Nat.mul_comm w 2, Nat.mul_assoc]
  rw [Nat.mul_comm] at hp
  rw [Nat.pow_succ] at hp
  omega
theorem c_X12_lowest {B : ev_B} {d : Nat} {h : ev_H} {a b : Int} {w : Int32} (ha : sm a) (hb : sm b) (h0 : 0 < Int.gcd a b) (hd : 1 ≤ d) :
    Wp B d M_X12_lowest 0 [some (.long (lI a)), none, some (.long (lI b)), none, some (.int w), none, none] [] h (fun v h' => v = some (.long (lI (low (decide (w = 0)) a b))) ∧ h' = h) := by
  have hg := gcd_sm ha hb
  have hne := (lN_ne0 hg).mpr h0
  refine Wp.lload_n dX12_lowest_0 rfl rfl ?_
  refine Wp.lload_n dX12_lowest_1 rfl rfl ?_
  refine Wp.cS dX12_lowest_2 cs_X12_92 rfl (by omega) rfl (Nat.le_of_ble_eq_true rfl) (Nat.le_of_ble_eq_true rfl) rfl (c_X12_common (d := d - 1) ha hb) ?_
  rintro _ h_ ⟨rfl, e_⟩
  rw [e_]
  clear e_ h_
  dsimp only [Option.toList, List.drop, List.cons_append, List.nil_append]
  refine Wp.lstore dX12_lowest_5 (Nat.le_of_ble_eq_true rfl) (by dsimp only [ev_st1, ev_st2, ev_cl] <;> rfl) rfl ?_
  refine Wp.iload dX12_lowest_7 rfl rfl ?_
  refine Wp.if_ne (tgt := 19) (n := 12) dX12_lowest_9 (by decide) rfl (fun c_9 => ?_) (fun c_9 => ?_)
  · skip
    refine Wp.lload_n dX12_lowest_19 rfl rfl ?_
    refine Wp.lload dX12_lowest_20 rfl rfl ?_
    refine Wp.ldiv dX12_lowest_22 hne rfl ?_
    rw [lI_div hb h0 hg]
    exact Wp.lret dX12_lowest_23 rfl (by simp [low, c_9])
  · skip
    refine Wp.lload_n dX12_lowest_12 rfl rfl ?_
    refine Wp.lload dX12_lowest_13 rfl rfl ?_
    refine Wp.ldiv dX12_lowest_15 hne rfl ?_
    rw [lI_div ha h0 hg]
    refine Wp.goto (n := 23) dX12_lowest_16 (by decide) ?_
    exact Wp.lret dX12_lowest_23 rfl (by simp [low, c_9])
set_option maxHeartbeats 1000000 in
theorem c_X11_commonOf {B : ev_B} {d : Nat} {h : ev_H} {u w : Nat} (hu : u < 4611686018427387904) (hw : w < 4611686018427387904) :
    Wp B d M_X11_commonOf 0 [some (.long (lN u)), none, some (.long (lN w)), none, none, none, none] [] h (fun v h' => v = some (.long (lN (if Nat.gcd u w = 0 then 1 else Nat.gcd u w))) ∧ h' = h) := by
  have loop : ∀ k u w st, w ≤ u → u * w < 2 ^ k → st + k + 1 ≤ 1000 → u < 4611686018427387904 → w < 4611686018427387904 → ∀ (j5 j6 : Option Value), Wp B d M_X11_commonOf 3 [some (.long (lN u)), none, some (.long (lN w)), none, some (.int (nI st)), j5, j6] [] h (fun v h' => v = some (.long (lN (if Nat.gcd u w = 0 then 1 else Nat.gcd u w))) ∧ h' = h) := by
    intro k
    induction k with
    | zero =>
      intro u w st h1 h2 h3 hu hw j5 j6
      have e : w = 0 := by
        have h2' : u * w = 0 := by omega
        rcases Nat.mul_eq_zero.mp h2' with z | z <;> omega
      subst e
      have hz := lN_eq0 (w := u) hu
      refine Wp.iload dX11_commonOf_3 rfl rfl ?_
      refine Wp.sipush (v := (nI 1000)) dX11_commonOf_5 (by decide) rfl ?_
      refine Wp.icmp_ge (tgt := 33) (n := 11) dX11_commonOf_8 (by decide) rfl (fun c_8 => ?_) (fun c_8 => ?_)
      · try simp (disch := omega) only [nI_bit0, nI_bit1, Bool.not_eq_false, Bool.not_eq_true] at c_8
        try simp (disch := omega) only [i_lt, i_le, i_eq, l_lt, l_le, l_eq, i_0, i_m1, l_0, nI_tI, iI_tI, lI_tI, Int.not_lt, Int.not_le] at c_8
        omega
      · try simp (disch := omega) only [nI_bit0, nI_bit1, Bool.not_eq_false, Bool.not_eq_true] at c_8
        try simp (disch := omega) only [i_lt, i_le, i_eq, l_lt, l_le, l_eq, i_0, i_m1, l_0, nI_tI, iI_tI, lI_tI, Int.not_lt, Int.not_le] at c_8
        refine Wp.lload_n dX11_commonOf_11 rfl rfl ?_
        refine Wp.lconst (v := 0) dX11_commonOf_12 (by decide) rfl ?_
        refine Wp.lcmp_eq (tgt := 33) (n := 17) dX11_commonOf_13 rfl dX11_commonOf_14 (by decide) rfl (fun c_13 => ?_) (fun c_13 => ?_)
        · skip
          refine Wp.lload_n dX11_commonOf_33 rfl rfl ?_
          refine Wp.lconst (v := 0) dX11_commonOf_34 (by decide) rfl ?_
          refine Wp.lcmp_ne (tgt := 43) (n := 39) dX11_commonOf_35 rfl dX11_commonOf_36 (by decide) rfl (fun c_35 => ?_) (fun c_35 => ?_)
          · skip
            refine Wp.lload_n dX11_commonOf_43 rfl rfl ?_
            exact Wp.lret dX11_commonOf_44 rfl (by first | (rw [if_neg (by rw [Nat.gcd_zero_right]; exact fun z => c_35 (hz.mpr z)), Nat.gcd_zero_right]; exact ⟨rfl, rfl⟩) | (rw [if_pos (by rw [Nat.gcd_zero_right]; exact hz.mp c_35)]; exact ⟨rfl, rfl⟩))
          · skip
            refine Wp.lconst (v := 1) dX11_commonOf_39 (by decide) rfl ?_
            refine Wp.goto (n := 44) dX11_commonOf_40 (by decide) ?_
            exact Wp.lret dX11_commonOf_44 rfl (by first | (rw [if_neg (by rw [Nat.gcd_zero_right]; exact fun z => c_35 (hz.mpr z)), Nat.gcd_zero_right]; exact ⟨rfl, rfl⟩) | (rw [if_pos (by rw [Nat.gcd_zero_right]; exact hz.mp c_35)]; exact ⟨rfl, rfl⟩))
        · skip
          exact absurd rfl c_13
    | succ k ih =>
      intro u w st h1 h2 h3 hu hw j5 j6
      rcases Nat.eq_zero_or_pos w with e | e
      · subst e
        have hz := lN_eq0 (w := u) hu
        refine Wp.iload dX11_commonOf_3 rfl rfl ?_
        refine Wp.sipush (v := (nI 1000)) dX11_commonOf_5 (by decide) rfl ?_
        refine Wp.icmp_ge (tgt := 33) (n := 11) dX11_commonOf_8 (by decide) rfl (fun c_8 => ?_) (fun c_8 => ?_)
        · try simp (disch := omega) only [nI_bit0, nI_bit1, Bool.not_eq_false, Bool.not_eq_true] at c_8
          try simp (disch := omega) only [i_lt, i_le, i_eq, l_lt, l_le, l_eq, i_0, i_m1, l_0, nI_tI, iI_tI, lI_tI, Int.not_lt, Int.not_le] at c_8
          omega
        · try simp (disch := omega) only [nI_bit0, nI_bit1, Bool.not_eq_false, Bool.not_eq_true] at c_8
          try simp (disch := omega) only [i_lt, i_le, i_eq, l_lt, l_le, l_eq, i_0, i_m1, l_0, nI_tI, iI_tI, lI_tI, Int.not_lt, Int.not_le] at c_8
          refine Wp.lload_n dX11_commonOf_11 rfl rfl ?_
          refine Wp.lconst (v := 0) dX11_commonOf_12 (by decide) rfl ?_
          refine Wp.lcmp_eq (tgt := 33) (n := 17) dX11_commonOf_13 rfl dX11_commonOf_14 (by decide) rfl (fun c_13 => ?_) (fun c_13 => ?_)
          · skip
            refine Wp.lload_n dX11_commonOf_33 rfl rfl ?_
            refine Wp.lconst (v := 0) dX11_commonOf_34 (by decide) rfl ?_
            refine Wp.lcmp_ne (tgt := 43) (n := 39) dX11_commonOf_35 rfl dX11_commonOf_36 (by decide) rfl (fun c_35 => ?_) (fun c_35 => ?_)
            · skip
              refine Wp.lload_n dX11_commonOf_43 rfl rfl ?_
              exact Wp.lret dX11_commonOf_44 rfl (by first | (rw [if_neg (by rw [Nat.gcd_zero_right]; exact fun z => c_35 (hz.mpr z)), Nat.gcd_zero_right]; exact ⟨rfl, rfl⟩) | (rw [if_pos (by rw [Nat.gcd_zero_right]; exact hz.mp c_35)]; exact ⟨rfl, rfl⟩))
            · skip
              refine Wp.lconst (v := 1) dX11_commonOf_39 (by decide) rfl ?_
              refine Wp.goto (n := 44) dX11_commonOf_40 (by decide) ?_
              exact Wp.lret dX11_commonOf_44 rfl (by first | (rw [if_neg (by rw [Nat.gcd_zero_right]; exact fun z => c_35 (hz.mpr z)), Nat.gcd_zero_right]; exact ⟨rfl, rfl⟩) | (rw [if_pos (by rw [Nat.gcd_zero_right]; exact hz.mp c_35)]; exact ⟨rfl, rfl⟩))
          · skip
            exact absurd rfl c_13
      · have hlt := Nat.mod_lt u e
        have hne := (lN_ne0 hw).mpr e
        refine Wp.iload dX11_commonOf_3 rfl rfl ?_
        refine Wp.sipush (v := (nI 1000)) dX11_commonOf_5 (by decide) rfl ?_
        refine Wp.icmp_ge (tgt := 33) (n := 11) dX11_commonOf_8 (by decide) rfl (fun c_8 => ?_) (fun c_8 => ?_)
        · try simp (disch := omega) only [nI_bit0, nI_bit1, Bool.not_eq_false, Bool.not_eq_true] at c_8
          try simp (disch := omega) only [i_lt, i_le, i_eq, l_lt, l_le, l_eq, i_0, i_m1, l_0, nI_tI, iI_tI, lI_tI, Int.not_lt, Int.not_le] at c_8
          omega
        · try simp (disch := omega) only [nI_bit0, nI_bit1, Bool.not_eq_false, Bool.not_eq_true] at c_8
          try simp (disch := omega) only [i_lt, i_le, i_eq, l_lt, l_le, l_eq, i_0, i_m1, l_0, nI_tI, iI_tI, lI_tI, Int.not_lt, Int.not_le] at c_8
          refine Wp.lload_n dX11_commonOf_11 rfl rfl ?_
          refine Wp.lconst (v := 0) dX11_commonOf_12 (by decide) rfl ?_
          refine Wp.lcmp_eq (tgt := 33) (n := 17) dX11_commonOf_13 rfl dX11_commonOf_14 (by decide) rfl (fun c_13 => ?_) (fun c_13 => ?_)
          · skip
            exact absurd c_13 hne
          · skip
            refine Wp.lload_n dX11_commonOf_17 rfl rfl ?_
            refine Wp.lload_n dX11_commonOf_18 rfl rfl ?_
            refine Wp.lrem dX11_commonOf_19 hne rfl ?_
            rw [rem_lN hu hw e]
            refine Wp.lstore dX11_commonOf_20 (Nat.le_of_ble_eq_true rfl) (by dsimp only [ev_st1, ev_st2, ev_cl] <;> rfl) rfl ?_
            refine Wp.lload_n dX11_commonOf_22 rfl rfl ?_
            refine Wp.lstore_n dX11_commonOf_23 (Nat.le_of_ble_eq_true rfl) (by dsimp only [ev_st1, ev_st2, ev_cl] <;> rfl) rfl ?_
            refine Wp.lload dX11_commonOf_24 rfl rfl ?_
            refine Wp.lstore_n dX11_commonOf_26 (Nat.le_of_ble_eq_true rfl) (by dsimp only [ev_st1, ev_st2, ev_cl] <;> rfl) rfl ?_
            refine Wp.iinc (v := _ + (nI 1)) dX11_commonOf_27 rfl rfl (Nat.le_of_ble_eq_true rfl) (by dsimp only [ev_st1, ev_cl] <;> rfl) rfl ?_
            refine Wp.goto (n := 3) dX11_commonOf_30 (by decide) ?_
            rw [← gcd_step u w e, nI_add1]
            exact ih w (u % w) (st + 1) (by omega) (prod_step h1 h2 e) (by omega) hw (by omega) _ _
  have start : ∀ (st : Nat) (j5 j6 : Option Value), st = 0 → Wp B d M_X11_commonOf 3 [some (.long (lN u)), none, some (.long (lN w)), none, some (.int (nI st)), j5, j6] [] h (fun v h' => v = some (.long (lN (if Nat.gcd u w = 0 then 1 else Nat.gcd u w))) ∧ h' = h) := by
    intro st j5 j6 hst
    rcases Nat.eq_zero_or_pos w with e | e
    · subst e
      have hz := lN_eq0 (w := u) hu
      refine Wp.iload dX11_commonOf_3 rfl rfl ?_
      refine Wp.sipush (v := (nI 1000)) dX11_commonOf_5 (by decide) rfl ?_
      refine Wp.icmp_ge (tgt := 33) (n := 11) dX11_commonOf_8 (by decide) rfl (fun c_8 => ?_) (fun c_8 => ?_)
      · try simp (disch := omega) only [nI_bit0, nI_bit1, Bool.not_eq_false, Bool.not_eq_true] at c_8
        try simp (disch := omega) only [i_lt, i_le, i_eq, l_lt, l_le, l_eq, i_0, i_m1, l_0, nI_tI, iI_tI, lI_tI, Int.not_lt, Int.not_le] at c_8
        omega
      · try simp (disch := omega) only [nI_bit0, nI_bit1, Bool.not_eq_false, Bool.not_eq_true] at c_8
        try simp (disch := omega) only [i_lt, i_le, i_eq, l_lt, l_le, l_eq, i_0, i_m1, l_0, nI_tI, iI_tI, lI_tI, Int.not_lt, Int.not_le] at c_8
        refine Wp.lload_n dX11_commonOf_11 rfl rfl ?_
        refine Wp.lconst (v := 0) dX11_commonOf_12 (by decide) rfl ?_
        refine Wp.lcmp_eq (tgt := 33) (n := 17) dX11_commonOf_13 rfl dX11_commonOf_14 (by decide) rfl (fun c_13 => ?_) (fun c_13 => ?_)
        · skip
          refine Wp.lload_n dX11_commonOf_33 rfl rfl ?_
          refine Wp.lconst (v := 0) dX11_commonOf_34 (by decide) rfl ?_
          refine Wp.lcmp_ne (tgt := 43) (n := 39) dX11_commonOf_35 rfl dX11_commonOf_36 (by decide) rfl (fun c_35 => ?_) (fun c_35 => ?_)
          · skip
            refine Wp.lload_n dX11_commonOf_43 rfl rfl ?_
            exact Wp.lret dX11_commonOf_44 rfl (by first | (rw [if_neg (by rw [Nat.gcd_zero_right]; exact fun z => c_35 (hz.mpr z)), Nat.gcd_zero_right]; exact ⟨rfl, rfl⟩) | (rw [if_pos (by rw [Nat.gcd_zero_right]; exact hz.mp c_35)]; exact ⟨rfl, rfl⟩))
          · skip
            refine Wp.lconst (v := 1) dX11_commonOf_39 (by decide) rfl ?_
            refine Wp.goto (n := 44) dX11_commonOf_40 (by decide) ?_
            exact Wp.lret dX11_commonOf_44 rfl (by first | (rw [if_neg (by rw [Nat.gcd_zero_right]; exact fun z => c_35 (hz.mpr z)), Nat.gcd_zero_right]; exact ⟨rfl, rfl⟩) | (rw [if_pos (by rw [Nat.gcd_zero_right]; exact hz.mp c_35)]; exact ⟨rfl, rfl⟩))
        · skip
          exact absurd rfl c_13
    · have hlt := Nat.mod_lt u e
      have hne := (lN_ne0 hw).mpr e
      have hpr : w * (u % w) < 2 ^ 124 := by
        have h1 : w * (u % w) < 4611686018427387904 * 4611686018427387904 := Nat.mul_lt_mul_of_lt_of_lt hw (by omega)
        have h2 : 4611686018427387904 * 4611686018427387904 = 2 ^ 124 := by decide +kernel
        omega
      refine Wp.iload dX11_commonOf_3 rfl rfl ?_
      refine Wp.sipush (v := (nI 1000)) dX11_commonOf_5 (by decide) rfl ?_
      refine Wp.icmp_ge (tgt := 33) (n := 11) dX11_commonOf_8 (by decide) rfl (fun c_8 => ?_) (fun c_8 => ?_)
      · try simp (disch := omega) only [nI_bit0, nI_bit1, Bool.not_eq_false, Bool.not_eq_true] at c_8
        try simp (disch := omega) only [i_lt, i_le, i_eq, l_lt, l_le, l_eq, i_0, i_m1, l_0, nI_tI, iI_tI, lI_tI, Int.not_lt, Int.not_le] at c_8
        omega
      · try simp (disch := omega) only [nI_bit0, nI_bit1, Bool.not_eq_false, Bool.not_eq_true] at c_8
        try simp (disch := omega) only [i_lt, i_le, i_eq, l_lt, l_le, l_eq, i_0, i_m1, l_0, nI_tI, iI_tI, lI_tI, Int.not_lt, Int.not_le] at c_8
        refine Wp.lload_n dX11_commonOf_11 rfl rfl ?_
        refine Wp.lconst (v := 0) dX11_commonOf_12 (by decide) rfl ?_
        refine Wp.lcmp_eq (tgt := 33) (n := 17) dX11_commonOf_13 rfl dX11_commonOf_14 (by decide) rfl (fun c_13 => ?_) (fun c_13 => ?_)
        · skip
          exact absurd c_13 hne
        · skip
          refine Wp.lload_n dX11_commonOf_17 rfl rfl ?_
          refine Wp.lload_n dX11_commonOf_18 rfl rfl ?_
          refine Wp.lrem dX11_commonOf_19 hne rfl ?_
          rw [rem_lN hu hw e]
          refine Wp.lstore dX11_commonOf_20 (Nat.le_of_ble_eq_true rfl) (by dsimp only [ev_st1, ev_st2, ev_cl] <;> rfl) rfl ?_
          refine Wp.lload_n dX11_commonOf_22 rfl rfl ?_
          refine Wp.lstore_n dX11_commonOf_23 (Nat.le_of_ble_eq_true rfl) (by dsimp only [ev_st1, ev_st2, ev_cl] <;> rfl) rfl ?_
          refine Wp.lload dX11_commonOf_24 rfl rfl ?_
          refine Wp.lstore_n dX11_commonOf_26 (Nat.le_of_ble_eq_true rfl) (by dsimp only [ev_st1, ev_st2, ev_cl] <;> rfl) rfl ?_
          refine Wp.iinc (v := _ + (nI 1)) dX11_commonOf_27 rfl rfl (Nat.le_of_ble_eq_true rfl) (by dsimp only [ev_st1, ev_cl] <;> rfl) rfl ?_
          refine Wp.goto (n := 3) dX11_commonOf_30 (by decide) ?_
          rw [← gcd_step u w e, nI_add1]
          exact loop 124 w (u % w) (st + 1) (by omega) hpr (by omega) hw (by omega) _ _
  refine Wp.iconst (v := (nI 0)) dX11_commonOf_0 (by decide) rfl ?_
  refine Wp.istore dX11_commonOf_1 (Nat.le_of_ble_eq_true rfl) (by dsimp only [ev_st1, ev_st2, ev_cl] <;> rfl) rfl ?_
  exact start 0 _ _ rfl
set_option maxHeartbeats 1000000 in
theorem c_X11_lowest {B : ev_B} {d : Nat} {h : ev_H} {a b : Int} {w : Int32} (ha : sm a) (hb : sm b) (h0 : 0 ≤ b) (hd : 1 ≤ d) :
    Wp B d M_X11_lowest 0 [some (.long (lI a)), none, some (.long (lI b)), none, some (.int w), none, none] [] h (fun v h' => v = some (.long (lI (low (decide (w = 0)) a b))) ∧ h' = h) := by
  have h1 := ha.1
  have h2 := ha.2
  have h3 := hb.1
  have h4 := hb.2
  have eb : lI b = lN b.natAbs := by rw [lN_lI]; congr 1; omega
  have ea : (if (0 : Int64) < lI a then lI a else -lI a) = lN a.natAbs := by
    by_cases hp : (0 : Int64) < lI a
    · rw [if_pos hp, lN_lI]
      rw [l_lt, l_0, sm_lI ha] at hp
      congr 1; omega
    · rw [if_neg hp, lI_neg, lN_lI]
      rw [l_lt, l_0, sm_lI ha] at hp
      congr 1; omega
  obtain ⟨G, hG⟩ : ∃ G : Nat, G = if Nat.gcd a.natAbs b.natAbs = 0 then 1 else Nat.gcd a.natAbs b.natAbs := ⟨_, rfl⟩
  have hgs := gcd_sm ha hb
  have hgd : Int.gcd a b = Nat.gcd a.natAbs b.natAbs := rfl
  have hG0 : 0 < G := by rw [hG]; split <;> omega
  have hG1 : G < 4611686018427387904 := by rw [hG]; split <;> omega
  have hne := (lN_ne0 hG1).mpr hG0
  have key : ∀ z : Int, (z = a ∨ z = b) → z.tdiv (G : Nat) = z.tdiv (Int.gcd a b : Nat) := by
    intro z hz
    rw [hG]
    split
    · next hh =>
      have hh' : Int.gcd a b = 0 := by rw [hgd]; exact hh
      obtain ⟨e1, e2⟩ := Int.gcd_eq_zero_iff.mp hh'
      have : z = 0 := by rcases hz with rfl | rfl <;> assumption
      rw [this]; simp
    · rw [hgd]
  refine Wp.lload_n dX11_lowest_0 rfl rfl ?_
  refine Wp.mabsl dX11_lowest_1 jl_X11_268 (by omega) (by decide) rfl ?_
  rw [ea]
  refine Wp.lload_n dX11_lowest_4 rfl rfl ?_
  rw [show Value.long (lI b) = Value.long (lN b.natAbs) from congrArg _ eb]
  refine Wp.cS dX11_lowest_5 cs_X11_274 rfl (by omega) rfl (Nat.le_of_ble_eq_true rfl) (Nat.le_of_ble_eq_true rfl) rfl (c_X11_commonOf (d := d - 1) (u := a.natAbs) (w := b.natAbs) (by omega) (by omega)) ?_
  rintro _ h_ ⟨rfl, e_⟩
  rw [e_]
  clear e_ h_
  dsimp only [Option.toList, List.drop, List.cons_append, List.nil_append]
  rw [← hG]
  refine Wp.lstore dX11_lowest_8 (Nat.le_of_ble_eq_true rfl) (by dsimp only [ev_st1, ev_st2, ev_cl] <;> rfl) rfl ?_
  refine Wp.iload dX11_lowest_10 rfl rfl ?_
  refine Wp.if_ne (tgt := 19) (n := 15) dX11_lowest_12 (by decide) rfl (fun c_12 => ?_) (fun c_12 => ?_)
  · skip
    refine Wp.lload_n dX11_lowest_19 rfl rfl ?_
    rw [← eb]
    refine Wp.lload dX11_lowest_20 rfl rfl ?_
    refine Wp.ldiv dX11_lowest_22 hne rfl ?_
    first | rw [lI_div ha hG0 hG1] | rw [lI_div hb hG0 hG1]
    exact Wp.lret dX11_lowest_23 rfl (by first | (rw [key a (Or.inl rfl)]; simp [low, c_12]; done) | (rw [key b (Or.inr rfl)]; simp [low, c_12]; done))
  · skip
    refine Wp.lload_n dX11_lowest_15 rfl rfl ?_
    refine Wp.goto (n := 20) dX11_lowest_16 (by decide) ?_
    refine Wp.lload dX11_lowest_20 rfl rfl ?_
    refine Wp.ldiv dX11_lowest_22 hne rfl ?_
    first | rw [lI_div ha hG0 hG1] | rw [lI_div hb hG0 hG1]
    exact Wp.lret dX11_lowest_23 rfl (by first | (rw [key a (Or.inl rfl)]; simp [low, c_12]; done) | (rw [key b (Or.inr rfl)]; simp [low, c_12]; done))
