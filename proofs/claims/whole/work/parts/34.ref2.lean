/-! the reference's public methods: offers -/
def Sg.ofs (σ : Sg) (n : Nat) (O : Nat → Of) : Sg := Sg.mk σ.N σ.U σ.al σ.sb σ.rb n O σ.p1 σ.q1 σ.p2 σ.q2 σ.nR σ.rv σ.nT σ.tr σ.so σ.sz σ.ce
theorem PM.cho {σ : Sg} {V V' : Nat → Value} {G G' : Nat → Nat → Int32} {Z : Nat → Nat → Int64} {n : Nat} {O : Nat → Of} (a : PM σ V G Z) (v : ∀ k, k ≠ 3 → V' k = V k) (g : ∀ k, k < 4 ∨ 8 < k → G' k = G k) (h0 : V' 3 = .int (nI n)) (h1 : ∀ i, i < n → OfG G' i (O i)) : PM (σ.ofs n O) V' G' Z := by
  refine ⟨?_, ?_, ?_, h0, h1, ?_, ?_, ?_, ?_, ?_, ?_, ?_, ?_, ?_, ?_, ?_⟩
  · rw [g 0 (by decide)]; exact a.net
  · rw [g 1 (by decide)]; exact a.bef
  · rw [v 2 (by decide)]; exact a.may
  · rw [v 9 (by decide)]; exact a.w1
  · rw [v 10 (by decide)]; exact a.w2
  · rw [v 11 (by decide)]; exact a.w3
  · rw [v 12 (by decide)]; exact a.w4
  · rw [v 13 (by decide)]; exact a.nR
  · exact a.rv
  · rw [v 16 (by decide)]; exact a.nT
  · rw [g 15 (by decide)]; exact a.tr
  · rw [g 17 (by decide)]; exact a.so
  · rw [g 18 (by decide)]; exact a.sz
  · exact a.ce
def Of.new (k a b : Nat) : Of := Of.mk k a b 0 (fun _ => 0)
def a_made (σ : Sg) : Int32 := if σ.n = 10 then -4 else nI σ.n
def t_made (σ : Sg) (k a b : Nat) : Sg := if σ.n = 10 then σ else σ.ofs (σ.n + 1) (fun i => if i = σ.n then Of.new k a b else σ.O i)
abbrev okWy (σ : Sg) (a b : Int32) : Prop := (0 ≤ a.toInt ∧ a.toInt < σ.N.T) ∧ (0 ≤ b.toInt ∧ b.toInt < σ.N.T) ∧ a.toInt ≠ b.toInt
def a_way (σ : Sg) (a b : Int32) : Int32 := if okWy σ a b then a_made σ else -2
def t_way (σ : Sg) (a b : Int32) : Sg := if okWy σ a b then t_made σ 2 (tn a) (tn b) else σ
abbrev okPr (σ : Sg) (s : Int32) : Prop := 0 ≤ s.toInt ∧ s.toInt < ((2 ^ σ.N.T : Nat) : Int)
def a_pairing (σ : Sg) (s : Int32) : Int32 := if okPr σ s then a_made σ else -2
def t_pairing (σ : Sg) (s : Int32) : Sg := if okPr σ s then t_made σ 3 (tn s) 0 else σ
abbrev isO (σ : Sg) (o : Int32) : Prop := 0 ≤ o.toInt ∧ o.toInt < σ.n
abbrev okTl (σ : Sg) (o s : Int32) : Prop := isO σ o ∧ (σ.O (tn o)).k = 0 ∧ 0 ≤ s.toInt ∧ s.toInt ≤ 4095
def a_tell (σ : Sg) (o s : Int32) : Int32 := if okTl σ o s then (if tldB (σ.O (tn o)).su (tn s) (σ.O (tn o)).m = true then -3 else if (σ.O (tn o)).m = 8 then -4 else nI ((σ.O (tn o)).m + 1)) else -2
def t_tell (σ : Sg) (o s : Int32) : Sg := if okTl σ o s ∧ tldB (σ.O (tn o)).su (tn s) (σ.O (tn o)).m = false ∧ (σ.O (tn o)).m ≠ 8 then σ.ofs σ.n (fun i => if i = tn o then Of.mk 0 (σ.O (tn o)).f (σ.O (tn o)).s ((σ.O (tn o)).m + 1) (updN (σ.O (tn o)).su (σ.O (tn o)).m (tn s)) else σ.O i) else σ
/-- the first number of which P holds, among the last k up to sd -/
def brF (P : Nat → Bool) (sd : Nat) : Nat → Nat
  | 0 => 0
  | k + 1 => if P (sd - k) = true then sd - k else brF P sd k
def otS (T sd : Nat) : Nat := (2 ^ T - 1) ^^^ ((2 ^ T - 1) &&& sd)
def brP (N : Nt) (sd s : Nat) : Bool := decide (s ^^^ (s &&& sd) = 0) && decide (cntB (besM N.fr N.to s N.L &&& otS N.T sd) 31 < cntB s 31)
def barM (σ : Sg) (i : Nat) : Nat := if (σ.O i).k = 1 then (if σ.N.T = 0 then 0 else reaM σ.N.fr σ.N.to (2 ^ σ.N.L - 1) true σ.N.L 1 7)
  else if (σ.O i).k = 2 then reaM σ.N.fr σ.N.to (2 ^ σ.N.L - 1) false σ.N.L (2 ^ (σ.O i).f) 7
  else if (σ.O i).k = 0 then 0
  else if cntB (σ.O i).f 31 ≠ cntB (otS σ.N.T (σ.O i).f) 31 then (if cntB (otS σ.N.T (σ.O i).f) 31 < cntB (σ.O i).f 31 then (σ.O i).f else otS σ.N.T (σ.O i).f)
  else brF (brP σ.N (σ.O i).f) (σ.O i).f (σ.O i).f
def a_offerTold (σ : Sg) (o w : Int32) : Int32 := if isO σ o ∧ 0 ≤ w.toInt ∧ w.toInt ≤ 4 then
  (if w.toInt = 0 then nI (σ.O (tn o)).k else if w.toInt = 1 then nI (chn σ (tn o)) else if w.toInt = 2 then (if 0 < chn σ (tn o) then 0 else nI (barM σ (tn o))) else if w.toInt = 3 then (if (σ.O (tn o)).k = 0 then nI (σ.O (tn o)).m else nI (σ.O (tn o)).f) else nI (σ.O (tn o)).s) else -2
def a_choice (σ : Sg) (o i : Int32) : Int32 := if isO σ o then (if 0 ≤ i.toInt ∧ i.toInt < chn σ (tn o) then nI (chC σ (tn o) (tn i)) else -1) else -2
def a_taken (σ : Sg) (o k : Int32) : Int32 := if 0 ≤ k.toInt ∧ k.toInt ≤ 3 then (if isO σ o then (if k.toInt = 0 ∨ (σ.O (tn o)).k = tn k ∨ (σ.O (tn o)).k = 3 ∧ k.toInt = 1 then nI (chn σ (tn o)) else -13) else -11) else -2
theorem nI_andn {a b : Nat} (ha : a < 2147483648) : nI a &&& (nI b ^^^ (-1)) = nI (a ^^^ (a &&& b)) := by
  have e : ((-1) : Int32) = nI 4294967295 := by decide
  rw [e, nI_xor, nI_and]
  congr 1
  apply Nat.eq_of_testBit_eq
  intro j
  simp only [Nat.testBit_and, Nat.testBit_xor]
  have hb : Nat.testBit 4294967295 j = decide (j < 32) := by
    rw [show 4294967295 = 2 ^ 32 - 1 by decide, Nat.testBit_two_pow_sub_one]
  rw [hb]
  by_cases hj : j < 32
  · simp only [hj, decide_true]
    cases a.testBit j <;> cases b.testBit j <;> rfl
  · have haj : a.testBit j = false := Nat.testBit_lt_two_pow (Nat.lt_of_lt_of_le ha (Nat.le_trans (by decide : 2147483648 ≤ 2 ^ 31) (Nat.pow_le_pow_right (by decide) (by omega))))
    rw [haj]; rfl
theorem tldB_f {su : Nat → Nat} {s : Nat} : ∀ m, tldB su s m = false ↔ ∀ i, i < m → su i ≠ s
  | 0 => by simp [tldB]
  | m + 1 => by
    simp only [tldB, Bool.or_eq_false_iff, tldB_f m, decide_eq_false_iff_not]
    constructor
    · rintro ⟨h1, h2⟩ i hi
      rcases Nat.lt_or_ge i m with h | h
      · exact h1 i h
      · have : i = m := by omega
        rw [this]; exact h2
    · exact fun h => ⟨fun i hi => h i (by omega), h m (by omega)⟩
theorem tldB_t {su : Nat → Nat} {s m i : Nat} (hi : i < m) (e : su i = s) : tldB su s m = true := by
  cases h : tldB su s m with
  | true => rfl
  | false => exact absurd e ((tldB_f m).mp h i hi)
theorem otS_lt {T sd : Nat} (h : T ≤ 7) : otS T sd < 128 := by
  have h1 := pow_T h
  have h2 := Nat.two_pow_pos T
  exact Nat.xor_lt_two_pow (n := 7) (by omega) (Nat.lt_of_le_of_lt Nat.and_le_left (by omega))
set_option maxHeartbeats 1000000 in
theorem c_X12_made {B : ev_B} {d x : Nat} {h : ev_H} {V : Nat → Value} {G : Nat → Nat → Int32} {Z : Nat → Nat → Int64} {σ : Sg} {k a b : Nat} (hM : MH h x V G Z) (hP : PM σ V G Z) (hW : Wf σ)  :
    Wp B d M_X12_made 0 [some (.ref x), some (.int (nI k)), some (.int (nI a)), some (.int (nI b))] [] h (RQ x h (t_made σ k a b) (.int (a_made σ))) := by
  have hn := hW.n
  refine Wp.aload_n dX12_made_0 rfl (by first | exact Or.inr ⟨_, rfl⟩ | exact Or.inl rfl) rfl ?_
  refine Wp.get dX12_made_1 fl_X12_89 hM.ob hP.nn rfl ?_
  refine Wp.bipush (v := (nI 10)) dX12_made_4 (by decide) rfl ?_
  refine Wp.icmp_ne (tgt := 12) (n := 9) dX12_made_6 (by decide) rfl (fun c_6 => ?_) (fun c_6 => ?_)
  · try simp (disch := omega) only [nI_bit0, nI_bit1, Bool.not_eq_false, Bool.not_eq_true] at c_6
    try simp (disch := omega) only [i_lt, i_le, i_eq, l_lt, l_le, l_eq, i_0, i_m1, l_0, nI_tI, iI_tI, lI_tI, Int.not_lt, Int.not_le] at c_6
    refine Wp.aload_n dX12_made_12 rfl (by first | exact Or.inr ⟨_, rfl⟩ | exact Or.inl rfl) rfl ?_
    refine Wp.get dX12_made_13 fl_X12_16 hM.ob (hM.rf 4 (by decide)) rfl ?_
    refine Wp.aload_n dX12_made_16 rfl (by first | exact Or.inr ⟨_, rfl⟩ | exact Or.inl rfl) rfl ?_
    refine Wp.get dX12_made_17 fl_X12_89 hM.ob hP.nn rfl ?_
    have c_6 : σ.n ≠ 10 := by omega
    refine Wp.iload_n dX12_made_20 rfl rfl ?_
    refine Wp.iastore dX12_made_21 (hM.ia 4 (by decide)) (nI_toInt (by omega)) (by show _ < 10; omega) rfl ?_
    refine hM.sti (k := 4) (by decide) ?_
    intro h21 G21 hM21 o21 e21 f21
    have out21 := (Out.rfl (x := x) (h := h)).trans o21
    refine Wp.aload_n dX12_made_22 rfl (by first | exact Or.inr ⟨_, rfl⟩ | exact Or.inl rfl) rfl ?_
    refine Wp.get dX12_made_23 fl_X12_19 hM21.ob (hM21.rf 5 (by decide)) rfl ?_
    refine Wp.aload_n dX12_made_26 rfl (by first | exact Or.inr ⟨_, rfl⟩ | exact Or.inl rfl) rfl ?_
    refine Wp.get dX12_made_27 fl_X12_89 hM21.ob hP.nn rfl ?_
    refine Wp.iload_n dX12_made_30 rfl rfl ?_
    refine Wp.iastore dX12_made_31 (hM21.ia 5 (by decide)) (nI_toInt (by omega)) (by show _ < 10; omega) rfl ?_
    refine hM21.sti (k := 5) (by decide) ?_
    intro h31 G31 hM31 o31 e31 f31
    have out31 := out21.trans o31
    refine Wp.aload_n dX12_made_32 rfl (by first | exact Or.inr ⟨_, rfl⟩ | exact Or.inl rfl) rfl ?_
    refine Wp.get dX12_made_33 fl_X12_22 hM31.ob (hM31.rf 6 (by decide)) rfl ?_
    refine Wp.aload_n dX12_made_36 rfl (by first | exact Or.inr ⟨_, rfl⟩ | exact Or.inl rfl) rfl ?_
    refine Wp.get dX12_made_37 fl_X12_89 hM31.ob hP.nn rfl ?_
    refine Wp.iload_n dX12_made_40 rfl rfl ?_
    refine Wp.iastore dX12_made_41 (hM31.ia 6 (by decide)) (nI_toInt (by omega)) (by show _ < 10; omega) rfl ?_
    refine hM31.sti (k := 6) (by decide) ?_
    intro h41 G41 hM41 o41 e41 f41
    have out41 := out31.trans o41
    refine Wp.aload_n dX12_made_42 rfl (by first | exact Or.inr ⟨_, rfl⟩ | exact Or.inl rfl) rfl ?_
    refine Wp.get dX12_made_43 fl_X12_25 hM41.ob (hM41.rf 7 (by decide)) rfl ?_
    refine Wp.aload_n dX12_made_46 rfl (by first | exact Or.inr ⟨_, rfl⟩ | exact Or.inl rfl) rfl ?_
    refine Wp.get dX12_made_47 fl_X12_89 hM41.ob hP.nn rfl ?_
    refine Wp.iconst (v := (nI 0)) dX12_made_50 (by decide) rfl ?_
    refine Wp.iastore dX12_made_51 (hM41.ia 7 (by decide)) (nI_toInt (by omega)) (by show _ < 10; omega) rfl ?_
    refine hM41.sti (k := 7) (by decide) ?_
    intro h51 G51 hM51 o51 e51 f51
    have out51 := out41.trans o51
    refine Wp.aload_n dX12_made_52 rfl (by first | exact Or.inr ⟨_, rfl⟩ | exact Or.inl rfl) rfl ?_
    refine Wp.dup dX12_made_53 rfl rfl ?_
    refine Wp.get dX12_made_54 fl_X12_89 hM51.ob hP.nn rfl ?_
    refine Wp.iconst (v := (nI 1)) dX12_made_57 (by decide) rfl ?_
    refine Wp.iadd dX12_made_58 rfl ?_
    rw [nI_add1]
    refine Wp.put dX12_made_59 fp_X12_89 hM51.ob rfl rfl rfl ?_
    refine hM51.put (k := 3) (by decide) ?_
    intro h59 V59 hM59 o59 e59 f59
    have out59 := out51.trans o59
    refine Wp.aload_n dX12_made_62 rfl (by first | exact Or.inr ⟨_, rfl⟩ | exact Or.inl rfl) rfl ?_
    refine Wp.get dX12_made_63 fl_X12_89 hM59.ob e59 rfl ?_
    refine Wp.iconst (v := (nI 1)) dX12_made_66 (by decide) rfl ?_
    refine Wp.isub dX12_made_67 rfl ?_
    rw [pk_sub (by omega)]
    exact Wp.iret dX12_made_68 rfl (RQ.i (by rw [a_made, if_neg (by omega)]; rfl) hM59 (by
        rw [t_made, if_neg (by omega)]
        refine hP.cho f59 (fun k hk => (f51 k (by omega)).trans ((f41 k (by omega)).trans ((f31 k (by omega)).trans (f21 k (by omega))))) e59 (fun i hi => ?_)
        have g4 : G51 4 = upd (G 4) σ.n (nI k) := by rw [f51 4 (by decide), f41 4 (by decide), f31 4 (by decide), e21]
        have g5 : G51 5 = upd (G 5) σ.n (nI a) := by rw [f51 5 (by decide), f41 5 (by decide), e31, f21 5 (by decide)]
        have g6 : G51 6 = upd (G 6) σ.n (nI b) := by rw [f51 6 (by decide), e41, f31 6 (by decide), f21 6 (by decide)]
        have g7 : G51 7 = upd (G 7) σ.n (nI 0) := by rw [e51, f41 7 (by decide), f31 7 (by decide), f21 7 (by decide)]
        have g8 : G51 8 = G 8 := by rw [f51 8 (by decide), f41 8 (by decide), f31 8 (by decide), f21 8 (by decide)]
        by_cases hi2 : i = σ.n
        · simp only [hi2, if_true]
          exact ⟨by rw [g4]; simp [upd, Of.new, Of.k, Of.mk], by rw [g5]; simp [upd, Of.new, Of.f, Of.mk], by rw [g6]; simp [upd, Of.new, Of.s, Of.mk], by rw [g7]; simp [upd, Of.new, Of.m, Of.mk], fun j hj => by have hj' : j < 0 := hj; omega⟩
        · simp only [if_neg hi2]
          have q := hP.of i (by omega)
          exact ⟨by rw [g4]; simp only [upd, if_neg hi2]; exact q.k, by rw [g5]; simp only [upd, if_neg hi2]; exact q.f, by rw [g6]; simp only [upd, if_neg hi2]; exact q.s, by rw [g7]; simp only [upd, if_neg hi2]; exact q.m, by rw [g8]; exact q.su⟩) out59)
  · try simp (disch := omega) only [nI_bit0, nI_bit1, Bool.not_eq_false, Bool.not_eq_true] at c_6
    try simp (disch := omega) only [i_lt, i_le, i_eq, l_lt, l_le, l_eq, i_0, i_m1, l_0, nI_tI, iI_tI, lI_tI, Int.not_lt, Int.not_le] at c_6
    refine Wp.bipush (v := (-4)) dX12_made_9 (by decide) rfl ?_
    exact Wp.iret dX12_made_11 rfl (RQ.i (by simp (disch := omega) only [a_made, okL, okA, okWy, okPr, isO, okTl, nI_tI, iI_tI, tn_nI, nI_m1]; (repeat' split) <;> first | (exfalso; omega) | rfl) hM (by unfold t_made; (repeat' split) <;> first | exact hP | (exfalso; (try simp (disch := omega) only [okL, okA, okWy, okPr, isO, okTl, nI_tI, tn_nI] at *); omega)) (Out.rfl (x := x) (h := h)))
theorem c_X12_told {B : ev_B} {d x : Nat} {h : ev_H} {V : Nat → Value} {G : Nat → Nat → Int32} {Z : Nat → Nat → Int64} {σ : Sg} (hM : MH h x V G Z) (hP : PM σ V G Z) (hW : Wf σ) (hd : 2 ≤ d) :
    Wp B d M_X12_told 0 [some (.ref x)] [] h (RQ x h (t_made σ 0 0 0) (.int (a_made σ))) := by
  have hn := hW.n
  have hT := hW.net.1
  have hL := hW.net.2.1
  refine Wp.aload_n dX12_told_0 rfl (by first | exact Or.inr ⟨_, rfl⟩ | exact Or.inl rfl) rfl ?_
  refine Wp.iconst (v := (nI 0)) dX12_told_1 (by decide) rfl ?_
  refine Wp.iconst (v := (nI 0)) dX12_told_2 (by decide) rfl ?_
  refine Wp.iconst (v := (nI 0)) dX12_told_3 (by decide) rfl ?_
  refine Wp.cV dX12_told_4 cv_X12_111 rfl (by omega) rfl (Nat.le_of_ble_eq_true rfl) (Nat.le_of_ble_eq_true rfl) hM.ob rfl (c_X12_made (d := d - 1) (k := 0) (a := 0) (b := 0) hM hP hW) ?_
  rintro _ h1 ⟨rfl, V1, G1, Z1, hM1, hP1, o1⟩
  dsimp only [Option.toList, List.drop, List.cons_append, List.nil_append]
  exact Wp.iret dX12_told_7 rfl (by exact ⟨rfl, V1, G1, Z1, hM1, hP1, o1⟩)
theorem c_X12_tree {B : ev_B} {d x : Nat} {h : ev_H} {V : Nat → Value} {G : Nat → Nat → Int32} {Z : Nat → Nat → Int64} {σ : Sg} (hM : MH h x V G Z) (hP : PM σ V G Z) (hW : Wf σ) (hd : 2 ≤ d) :
    Wp B d M_X12_tree 0 [some (.ref x)] [] h (RQ x h (t_made σ 1 0 0) (.int (a_made σ))) := by
  have hn := hW.n
  have hT := hW.net.1
  have hL := hW.net.2.1
  refine Wp.aload_n dX12_tree_0 rfl (by first | exact Or.inr ⟨_, rfl⟩ | exact Or.inl rfl) rfl ?_
  refine Wp.iconst (v := (nI 1)) dX12_tree_1 (by decide) rfl ?_
  refine Wp.iconst (v := (nI 0)) dX12_tree_2 (by decide) rfl ?_
  refine Wp.iconst (v := (nI 0)) dX12_tree_3 (by decide) rfl ?_
  refine Wp.cV dX12_tree_4 cv_X12_111 rfl (by omega) rfl (Nat.le_of_ble_eq_true rfl) (Nat.le_of_ble_eq_true rfl) hM.ob rfl (c_X12_made (d := d - 1) (k := 1) (a := 0) (b := 0) hM hP hW) ?_
  rintro _ h1 ⟨rfl, V1, G1, Z1, hM1, hP1, o1⟩
  dsimp only [Option.toList, List.drop, List.cons_append, List.nil_append]
  exact Wp.iret dX12_tree_7 rfl (by exact ⟨rfl, V1, G1, Z1, hM1, hP1, o1⟩)
set_option maxHeartbeats 1000000 in
theorem c_X12_way {B : ev_B} {d x : Nat} {h : ev_H} {V : Nat → Value} {G : Nat → Nat → Int32} {Z : Nat → Nat → Int64} {σ : Sg} {a b : Int32} (hM : MH h x V G Z) (hP : PM σ V G Z) (hW : Wf σ) (hd : 2 ≤ d) :
    Wp B d M_X12_way 0 [some (.ref x), some (.int (a)), some (.int (b))] [] h (RQ x h (t_way σ a b) (.int (a_way σ a b))) := by
  have hn := hW.n
  have hT := hW.net.1
  have hL := hW.net.2.1
  refine Wp.aload_n dX12_way_0 rfl (by first | exact Or.inr ⟨_, rfl⟩ | exact Or.inl rfl) rfl ?_
  refine Wp.iload_n dX12_way_1 rfl rfl ?_
  refine Wp.cV dX12_way_2 cv_X12_103 rfl (by omega) rfl (Nat.le_of_ble_eq_true rfl) (Nat.le_of_ble_eq_true rfl) hM.ob rfl (c_X12_isThing (d := d - 1) (hM.net hP.net) hW.net (by omega)) ?_
  rintro _ h_ ⟨rfl, e_⟩
  rw [e_]
  clear e_ h_
  dsimp only [Option.toList, List.drop, List.cons_append, List.nil_append]
  refine Wp.bif_eq (tgt := 31) (n := 8) dX12_way_5 (by decide) rfl (fun c_5 => ?_) (fun c_5 => ?_)
  · try simp only [decide_eq_true_eq, decide_eq_false_iff_not, Bool.and_eq_true, bI_0, bI_n0] at c_5
    refine Wp.bipush (v := (-2)) dX12_way_31 (by decide) rfl ?_
    exact Wp.iret dX12_way_33 rfl (RQ.i (by simp (disch := omega) only [a_way, okL, okA, okWy, okPr, isO, okTl, nI_tI, iI_tI, tn_nI, nI_m1]; (repeat' split) <;> first | (exfalso; omega) | rfl) hM (by unfold t_way; (repeat' split) <;> first | exact hP | (exfalso; (try simp (disch := omega) only [okL, okA, okWy, okPr, isO, okTl, nI_tI, tn_nI] at *); omega)) (Out.rfl (x := x) (h := h)))
  · try simp only [decide_eq_true_eq, decide_eq_false_iff_not, Bool.and_eq_true, bI_0, bI_n0] at c_5
    refine Wp.aload_n dX12_way_8 rfl (by first | exact Or.inr ⟨_, rfl⟩ | exact Or.inl rfl) rfl ?_
    refine Wp.iload_n dX12_way_9 rfl rfl ?_
    refine Wp.cV dX12_way_10 cv_X12_103 rfl (by omega) rfl (Nat.le_of_ble_eq_true rfl) (Nat.le_of_ble_eq_true rfl) hM.ob rfl (c_X12_isThing (d := d - 1) (hM.net hP.net) hW.net (by omega)) ?_
    rintro _ h_ ⟨rfl, e_⟩
    rw [e_]
    clear e_ h_
    dsimp only [Option.toList, List.drop, List.cons_append, List.nil_append]
    refine Wp.bif_eq (tgt := 31) (n := 16) dX12_way_13 (by decide) rfl (fun c_13 => ?_) (fun c_13 => ?_)
    · try simp only [decide_eq_true_eq, decide_eq_false_iff_not, Bool.and_eq_true, bI_0, bI_n0] at c_13
      refine Wp.bipush (v := (-2)) dX12_way_31 (by decide) rfl ?_
      exact Wp.iret dX12_way_33 rfl (RQ.i (by simp (disch := omega) only [a_way, okL, okA, okWy, okPr, isO, okTl, nI_tI, iI_tI, tn_nI, nI_m1]; (repeat' split) <;> first | (exfalso; omega) | rfl) hM (by unfold t_way; (repeat' split) <;> first | exact hP | (exfalso; (try simp (disch := omega) only [okL, okA, okWy, okPr, isO, okTl, nI_tI, tn_nI] at *); omega)) (Out.rfl (x := x) (h := h)))
    · try simp only [decide_eq_true_eq, decide_eq_false_iff_not, Bool.and_eq_true, bI_0, bI_n0] at c_13
      refine Wp.iload_n dX12_way_16 rfl rfl ?_
      refine Wp.iload_n dX12_way_17 rfl rfl ?_
      refine Wp.icmp_eq (tgt := 31) (n := 21) dX12_way_18 (by decide) rfl (fun c_18 => ?_) (fun c_18 => ?_)
      · try simp (disch := omega) only [nI_bit0, nI_bit1, Bool.not_eq_false, Bool.not_eq_true] at c_18
        try simp (disch := omega) only [i_lt, i_le, i_eq, l_lt, l_le, l_eq, i_0, i_m1, l_0, nI_tI, iI_tI, lI_tI, Int.not_lt, Int.not_le] at c_18
        refine Wp.bipush (v := (-2)) dX12_way_31 (by decide) rfl ?_
        exact Wp.iret dX12_way_33 rfl (RQ.i (by simp (disch := omega) only [a_way, okL, okA, okWy, okPr, isO, okTl, nI_tI, iI_tI, tn_nI, nI_m1]; (repeat' split) <;> first | (exfalso; omega) | rfl) hM (by unfold t_way; (repeat' split) <;> first | exact hP | (exfalso; (try simp (disch := omega) only [okL, okA, okWy, okPr, isO, okTl, nI_tI, tn_nI] at *); omega)) (Out.rfl (x := x) (h := h)))
      · try simp (disch := omega) only [nI_bit0, nI_bit1, Bool.not_eq_false, Bool.not_eq_true] at c_18
        try simp (disch := omega) only [i_lt, i_le, i_eq, l_lt, l_le, l_eq, i_0, i_m1, l_0, nI_tI, iI_tI, lI_tI, Int.not_lt, Int.not_le] at c_18
        obtain ⟨i, rfl, hi, hi2⟩ := as_nI (show 0 ≤ a.toInt ∧ a.toInt < σ.N.T by omega)
        obtain ⟨j, rfl, hj, hj2⟩ := as_nI (show 0 ≤ b.toInt ∧ b.toInt < σ.N.T by omega)
        refine Wp.aload_n dX12_way_21 rfl (by first | exact Or.inr ⟨_, rfl⟩ | exact Or.inl rfl) rfl ?_
        refine Wp.iconst (v := (nI 2)) dX12_way_22 (by decide) rfl ?_
        refine Wp.iload_n dX12_way_23 rfl rfl ?_
        refine Wp.iload_n dX12_way_24 rfl rfl ?_
        refine Wp.cV dX12_way_25 cv_X12_111 rfl (by omega) rfl (Nat.le_of_ble_eq_true rfl) (Nat.le_of_ble_eq_true rfl) hM.ob rfl (c_X12_made (d := d - 1) (k := 2) (a := i) (b := j) hM hP hW) ?_
        rintro _ h1 ⟨rfl, V1, G1, Z1, hM1, hP1, o1⟩
        dsimp only [Option.toList, List.drop, List.cons_append, List.nil_append]
        refine Wp.goto (n := 33) dX12_way_28 (by decide) ?_
        exact Wp.iret dX12_way_33 rfl (by rw [a_way, t_way, if_pos (by have e_ := nI_tI hi2; have e2_ := nI_tI hj2; omega), if_pos (by have e_ := nI_tI hi2; have e2_ := nI_tI hj2; omega), tn_nI hi2, tn_nI hj2]; exact ⟨rfl, V1, G1, Z1, hM1, hP1, o1⟩)
set_option maxHeartbeats 1000000 in
theorem c_X12_pairing {B : ev_B} {d x : Nat} {h : ev_H} {V : Nat → Value} {G : Nat → Nat → Int32} {Z : Nat → Nat → Int64} {σ : Sg} {s : Int32} (hM : MH h x V G Z) (hP : PM σ V G Z) (hW : Wf σ) (hd : 2 ≤ d) :
    Wp B d M_X12_pairing 0 [some (.ref x), some (.int (s))] [] h (RQ x h (t_pairing σ s) (.int (a_pairing σ s))) := by
  have hn := hW.n
  have hT := hW.net.1
  have hL := hW.net.2.1
  have hp7 := pow_T hT
  have hp0 := Nat.two_pow_pos σ.N.T
  refine Wp.iload_n dX12_pairing_0 rfl rfl ?_
  refine Wp.iconst (v := (nI 0)) dX12_pairing_1 (by decide) rfl ?_
  refine Wp.iconst (v := (nI 1)) dX12_pairing_2 (by decide) rfl ?_
  refine Wp.aload_n dX12_pairing_3 rfl (by first | exact Or.inr ⟨_, rfl⟩ | exact Or.inl rfl) rfl ?_
  refine Wp.cV dX12_pairing_4 cv_X12_82 rfl (by omega) rfl (Nat.le_of_ble_eq_true rfl) (Nat.le_of_ble_eq_true rfl) hM.ob rfl (c_X12_things (d := d - 1) (hM.net hP.net) hW.net) ?_
  rintro _ h_ ⟨rfl, e_⟩
  rw [e_]
  clear e_ h_
  dsimp only [Option.toList, List.drop, List.cons_append, List.nil_append]
  refine Wp.ishl dX12_pairing_7 rfl ?_
  rw [nI_one_shl (by omega)]
  refine Wp.iconst (v := (nI 1)) dX12_pairing_8 (by decide) rfl ?_
  refine Wp.isub dX12_pairing_9 rfl ?_
  refine Wp.cS dX12_pairing_10 cs_X12_85 rfl (by omega) rfl (Nat.le_of_ble_eq_true rfl) (Nat.le_of_ble_eq_true rfl) rfl (c_X12_in (d := d - 1)) ?_
  rintro _ h_ ⟨rfl, e_⟩
  rw [e_]
  clear e_ h_
  dsimp only [Option.toList, List.drop, List.cons_append, List.nil_append]
  try simp (disch := omega) only [nI_m1, nI_tI, i_0]
  refine Wp.bif_eq (tgt := 26) (n := 16) dX12_pairing_13 (by decide) rfl (fun c_13 => ?_) (fun c_13 => ?_)
  · try simp only [decide_eq_true_eq, decide_eq_false_iff_not, Bool.and_eq_true, bI_0, bI_n0] at c_13
    refine Wp.bipush (v := (-2)) dX12_pairing_26 (by decide) rfl ?_
    exact Wp.iret dX12_pairing_28 rfl (RQ.i (by simp (disch := omega) only [a_pairing, okL, okA, okWy, okPr, isO, okTl, nI_tI, iI_tI, tn_nI, nI_m1]; (repeat' split) <;> first | (exfalso; omega) | rfl) hM (by unfold t_pairing; (repeat' split) <;> first | exact hP | (exfalso; (try simp (disch := omega) only [okL, okA, okWy, okPr, isO, okTl, nI_tI, tn_nI] at *); omega)) (Out.rfl (x := x) (h := h)))
  · try simp only [decide_eq_true_eq, decide_eq_false_iff_not, Bool.and_eq_true, bI_0, bI_n0] at c_13
    obtain ⟨i, rfl, hi, hi2⟩ := as_nI (show 0 ≤ s.toInt ∧ s.toInt < (2 ^ σ.N.T : Nat) by omega)
    refine Wp.aload_n dX12_pairing_16 rfl (by first | exact Or.inr ⟨_, rfl⟩ | exact Or.inl rfl) rfl ?_
    refine Wp.iconst (v := (nI 3)) dX12_pairing_17 (by decide) rfl ?_
    refine Wp.iload_n dX12_pairing_18 rfl rfl ?_
    refine Wp.iconst (v := (nI 0)) dX12_pairing_19 (by decide) rfl ?_
    refine Wp.cV dX12_pairing_20 cv_X12_111 rfl (by omega) rfl (Nat.le_of_ble_eq_true rfl) (Nat.le_of_ble_eq_true rfl) hM.ob rfl (c_X12_made (d := d - 1) (k := 3) (a := i) (b := 0) hM hP hW) ?_
    rintro _ h1 ⟨rfl, V1, G1, Z1, hM1, hP1, o1⟩
    dsimp only [Option.toList, List.drop, List.cons_append, List.nil_append]
    refine Wp.goto (n := 28) dX12_pairing_23 (by decide) ?_
    exact Wp.iret dX12_pairing_28 rfl (by rw [a_pairing, t_pairing, if_pos (by have e_ := nI_tI hi2; omega), if_pos (by have e_ := nI_tI hi2; omega), tn_nI hi2]; exact ⟨rfl, V1, G1, Z1, hM1, hP1, o1⟩)
set_option maxHeartbeats 2000000 in
theorem c_X12_tell {B : ev_B} {d x : Nat} {h : ev_H} {V : Nat → Value} {G : Nat → Nat → Int32} {Z : Nat → Nat → Int64} {σ : Sg} {o s : Int32} (hM : MH h x V G Z) (hP : PM σ V G Z) (hW : Wf σ) (hd : 2 ≤ d) :
    Wp B d M_X12_tell 0 [some (.ref x), some (.int (o)), some (.int (s)), none] [] h (RQ x h (t_tell σ o s) (.int (a_tell σ o s))) := by
  have hn := hW.n
  have hT := hW.net.1
  have hL := hW.net.2.1
  refine Wp.aload_n dX12_tell_0 rfl (by first | exact Or.inr ⟨_, rfl⟩ | exact Or.inl rfl) rfl ?_
  refine Wp.iload_n dX12_tell_1 rfl rfl ?_
  refine Wp.cV dX12_tell_2 cv_X12_115 rfl (by omega) rfl (Nat.le_of_ble_eq_true rfl) (Nat.le_of_ble_eq_true rfl) hM.ob rfl (c_X12_isOffer (d := d - 1) hM hP hW (by omega)) ?_
  rintro _ h_ ⟨rfl, e_⟩
  rw [e_]
  clear e_ h_
  dsimp only [Option.toList, List.drop, List.cons_append, List.nil_append]
  refine Wp.bif_eq (tgt := 28) (n := 8) dX12_tell_5 (by decide) rfl (fun c_5 => ?_) (fun c_5 => ?_)
  · try simp only [decide_eq_true_eq, decide_eq_false_iff_not, Bool.and_eq_true, bI_0, bI_n0] at c_5
    refine Wp.bipush (v := (-2)) dX12_tell_28 (by decide) rfl ?_
    exact Wp.iret dX12_tell_30 rfl (RQ.i (by simp (disch := omega) only [a_tell, okL, okA, okWy, okPr, isO, okTl, nI_tI, iI_tI, tn_nI, nI_m1]; (repeat' split) <;> first | (exfalso; omega) | rfl) hM (by unfold t_tell; (repeat' split) <;> first | exact hP | (exfalso; (try simp (disch := omega) only [okL, okA, okWy, okPr, isO, okTl, nI_tI, tn_nI] at *); omega)) (Out.rfl (x := x) (h := h)))
  · try simp only [decide_eq_true_eq, decide_eq_false_iff_not, Bool.and_eq_true, bI_0, bI_n0] at c_5
    obtain ⟨i, rfl, ho, ho2⟩ := as_nI (show 0 ≤ o.toInt ∧ o.toInt < σ.n by omega)
    have hO := hP.of i ho
    have hOw := hW.of i ho
    have hm := hOw.m
    refine Wp.aload_n dX12_tell_8 rfl (by first | exact Or.inr ⟨_, rfl⟩ | exact Or.inl rfl) rfl ?_
    refine Wp.get dX12_tell_9 fl_X12_16 hM.ob (hM.rf 4 (by decide)) rfl ?_
    refine Wp.iload_n dX12_tell_12 rfl rfl ?_
    refine Wp.iaload dX12_tell_13 (hM.ia 4 (by decide)) (nI_toInt (by omega)) (by show _ < 10; omega) rfl ?_
    rw [hO.k]
    refine Wp.if_ne (tgt := 28) (n := 17) dX12_tell_14 (by decide) rfl (fun c_14 => ?_) (fun c_14 => ?_)
    · have hk0 : (σ.O i).k ≠ 0 := fun z => c_14 (by rw [z]; rfl)
      refine Wp.bipush (v := (-2)) dX12_tell_28 (by decide) rfl ?_
      exact Wp.iret dX12_tell_30 rfl (RQ.i (by simp (disch := omega) only [a_tell, okL, okA, okWy, okPr, isO, okTl, nI_tI, iI_tI, tn_nI, nI_m1]; (repeat' split) <;> first | (exfalso; omega) | rfl) hM (by unfold t_tell; (repeat' split) <;> first | exact hP | (exfalso; (try simp (disch := omega) only [okL, okA, okWy, okPr, isO, okTl, nI_tI, tn_nI] at *); omega)) (Out.rfl (x := x) (h := h)))
    · have hk0 : (σ.O i).k = 0 := (nI_eq0 (by have := hOw.k; omega)).mp c_14
      refine Wp.iload_n dX12_tell_17 rfl rfl ?_
      refine Wp.iconst (v := (nI 0)) dX12_tell_18 (by decide) rfl ?_
      refine Wp.sipush (v := (nI 4095)) dX12_tell_19 (by decide) rfl ?_
      refine Wp.cS dX12_tell_22 cs_X12_85 rfl (by omega) rfl (Nat.le_of_ble_eq_true rfl) (Nat.le_of_ble_eq_true rfl) rfl (c_X12_in (d := d - 1)) ?_
      rintro _ h_ ⟨rfl, e_⟩
      rw [e_]
      clear e_ h_
      dsimp only [Option.toList, List.drop, List.cons_append, List.nil_append]
      try simp (disch := omega) only [nI_m1, nI_tI, i_0]
      refine Wp.bif_ne (tgt := 31) (n := 28) dX12_tell_25 (by decide) rfl (fun c_25 => ?_) (fun c_25 => ?_)
      · try simp only [decide_eq_true_eq, decide_eq_false_iff_not, Bool.and_eq_true, bI_0, bI_n0] at c_25
        refine Wp.iconst (v := (nI 0)) dX12_tell_31 (by decide) rfl ?_
        refine Wp.istore_n dX12_tell_32 (Nat.le_of_ble_eq_true rfl) (by dsimp only [ev_st1, ev_st2, ev_cl] <;> rfl) rfl ?_
        obtain ⟨j, rfl, hj, hj2⟩ := as_nI (o := s) (n := 4096) (by omega)
        have loop : ∀ u, u ≤ (σ.O i).m → (∀ t, t < u → (σ.O i).su t ≠ j) → Wp B d M_X12_tell 33 [some (.ref x), some (.int (nI i)), some (.int (nI j)), some (.int (nI u))] [] h (RQ x h (t_tell σ (nI i) (nI j)) (.int (a_tell σ (nI i) (nI j)))) := by
          refine ev_upl (σ.O i).m (fun u hi ih => ?_) ?_
          · intro hno
            refine Wp.iload_n dX12_tell_33 rfl rfl ?_
            refine Wp.aload_n dX12_tell_34 rfl (by first | exact Or.inr ⟨_, rfl⟩ | exact Or.inl rfl) rfl ?_
            refine Wp.get dX12_tell_35 fl_X12_25 hM.ob (hM.rf 7 (by decide)) rfl ?_
            refine Wp.iload_n dX12_tell_38 rfl rfl ?_
            refine Wp.iaload dX12_tell_39 (hM.ia 7 (by decide)) (nI_toInt (by omega)) (by show _ < 10; omega) rfl ?_
            rw [hO.m]
            refine Wp.icmp_ge (tgt := 67) (n := 43) dX12_tell_40 (by decide) rfl (fun c_40 => ?_) (fun c_40 => ?_)
            · try simp (disch := omega) only [nI_bit0, nI_bit1, Bool.not_eq_false, Bool.not_eq_true] at c_40
              try simp (disch := omega) only [i_lt, i_le, i_eq, l_lt, l_le, l_eq, i_0, i_m1, l_0, nI_tI, iI_tI, lI_tI, Int.not_lt, Int.not_le] at c_40
              omega
            · try simp (disch := omega) only [nI_bit0, nI_bit1, Bool.not_eq_false, Bool.not_eq_true] at c_40
              try simp (disch := omega) only [i_lt, i_le, i_eq, l_lt, l_le, l_eq, i_0, i_m1, l_0, nI_tI, iI_tI, lI_tI, Int.not_lt, Int.not_le] at c_40
              refine Wp.aload_n dX12_tell_43 rfl (by first | exact Or.inr ⟨_, rfl⟩ | exact Or.inl rfl) rfl ?_
              refine Wp.get dX12_tell_44 fl_X12_28 hM.ob (hM.rf 8 (by decide)) rfl ?_
              refine Wp.bipush (v := (nI 8)) dX12_tell_47 (by decide) rfl ?_
              refine Wp.iload_n dX12_tell_49 rfl rfl ?_
              refine Wp.imul dX12_tell_50 rfl ?_
              refine Wp.iload_n dX12_tell_51 rfl rfl ?_
              refine Wp.iadd dX12_tell_52 rfl ?_
              refine Wp.iaload dX12_tell_53 (hM.ia 8 (by decide)) (nI_8 (by omega) (by omega)) (by show _ < 80; omega) rfl ?_
              rw [hO.su u hi]
              refine Wp.iload_n dX12_tell_54 rfl rfl ?_
              refine Wp.icmp_ne (tgt := 61) (n := 58) dX12_tell_55 (by decide) rfl (fun c_55 => ?_) (fun c_55 => ?_)
              · rw [nI_eq (by have := hOw.su u hi; omega) (by omega)] at c_55
                refine Wp.iinc (v := _ + (nI 1)) dX12_tell_61 rfl rfl (Nat.le_of_ble_eq_true rfl) (by dsimp only [ev_st1, ev_cl] <;> rfl) rfl ?_
                refine Wp.goto (n := 33) dX12_tell_64 (by decide) ?_
                rw [nI_add1]
                exact ih (fun t ht => by
                  rcases Nat.lt_or_ge t u with h1 | h1
                  · exact hno t h1
                  · have : t = u := by omega
                    rw [this]; exact c_55)
              · rw [nI_eq (by have := hOw.su u hi; omega) (by omega)] at c_55
                refine Wp.bipush (v := (-3)) dX12_tell_58 (by decide) rfl ?_
                exact Wp.iret dX12_tell_60 rfl (by have htl := tldB_t hi c_55; exact RQ.i (by rw [a_tell, if_pos (by simp (disch := omega) only [okTl, isO, nI_tI, tn_nI]; omega), tn_nI ho2, tn_nI hj2, if_pos htl]) hM (by rw [t_tell, if_neg (fun z => by have z1 := z.2.1; rw [tn_nI ho2, tn_nI hj2, htl] at z1; cases z1)]; exact hP) (Out.rfl (x := x) (h := h)))
          · intro hno
            refine Wp.iload_n dX12_tell_33 rfl rfl ?_
            refine Wp.aload_n dX12_tell_34 rfl (by first | exact Or.inr ⟨_, rfl⟩ | exact Or.inl rfl) rfl ?_
            refine Wp.get dX12_tell_35 fl_X12_25 hM.ob (hM.rf 7 (by decide)) rfl ?_
            refine Wp.iload_n dX12_tell_38 rfl rfl ?_
            refine Wp.iaload dX12_tell_39 (hM.ia 7 (by decide)) (nI_toInt (by omega)) (by show _ < 10; omega) rfl ?_
            rw [hO.m]
            refine Wp.icmp_ge (tgt := 67) (n := 43) dX12_tell_40 (by decide) rfl (fun c_40 => ?_) (fun c_40 => ?_)
            · try simp (disch := omega) only [nI_bit0, nI_bit1, Bool.not_eq_false, Bool.not_eq_true] at c_40
              try simp (disch := omega) only [i_lt, i_le, i_eq, l_lt, l_le, l_eq, i_0, i_m1, l_0, nI_tI, iI_tI, lI_tI, Int.not_lt, Int.not_le] at c_40
              have htl : tldB (σ.O i).su j (σ.O i).m = false := (tldB_f _).mpr hno
              refine Wp.aload_n dX12_tell_67 rfl (by first | exact Or.inr ⟨_, rfl⟩ | exact Or.inl rfl) rfl ?_
              refine Wp.get dX12_tell_68 fl_X12_25 hM.ob (hM.rf 7 (by decide)) rfl ?_
              refine Wp.iload_n dX12_tell_71 rfl rfl ?_
              refine Wp.iaload dX12_tell_72 (hM.ia 7 (by decide)) (nI_toInt (by omega)) (by show _ < 10; omega) rfl ?_
              rw [hO.m]
              refine Wp.bipush (v := (nI 8)) dX12_tell_73 (by decide) rfl ?_
              refine Wp.icmp_ne (tgt := 81) (n := 78) dX12_tell_75 (by decide) rfl (fun c_75 => ?_) (fun c_75 => ?_)
              · try simp (disch := omega) only [nI_bit0, nI_bit1, Bool.not_eq_false, Bool.not_eq_true] at c_75
                try simp (disch := omega) only [i_lt, i_le, i_eq, l_lt, l_le, l_eq, i_0, i_m1, l_0, nI_tI, iI_tI, lI_tI, Int.not_lt, Int.not_le] at c_75
                refine Wp.aload_n dX12_tell_81 rfl (by first | exact Or.inr ⟨_, rfl⟩ | exact Or.inl rfl) rfl ?_
                refine Wp.get dX12_tell_82 fl_X12_28 hM.ob (hM.rf 8 (by decide)) rfl ?_
                refine Wp.bipush (v := (nI 8)) dX12_tell_85 (by decide) rfl ?_
                refine Wp.iload_n dX12_tell_87 rfl rfl ?_
                refine Wp.imul dX12_tell_88 rfl ?_
                refine Wp.aload_n dX12_tell_89 rfl (by first | exact Or.inr ⟨_, rfl⟩ | exact Or.inl rfl) rfl ?_
                refine Wp.get dX12_tell_90 fl_X12_25 hM.ob (hM.rf 7 (by decide)) rfl ?_
                refine Wp.iload_n dX12_tell_93 rfl rfl ?_
                refine Wp.iaload dX12_tell_94 (hM.ia 7 (by decide)) (nI_toInt (by omega)) (by show _ < 10; omega) rfl ?_
                rw [hO.m]
                refine Wp.iadd dX12_tell_95 rfl ?_
                refine Wp.iload_n dX12_tell_96 rfl rfl ?_
                refine Wp.iastore dX12_tell_97 (hM.ia 8 (by decide)) (nI_8 (by omega) (by omega)) (by show _ < 80; omega) rfl ?_
                refine hM.sti (k := 8) (by decide) ?_
                intro h97 G97 hM97 o97 e97 f97
                have out97 := (Out.rfl (x := x) (h := h)).trans o97
                refine Wp.aload_n dX12_tell_98 rfl (by first | exact Or.inr ⟨_, rfl⟩ | exact Or.inl rfl) rfl ?_
                refine Wp.get dX12_tell_99 fl_X12_25 hM97.ob (hM97.rf 7 (by decide)) rfl ?_
                refine Wp.iload_n dX12_tell_102 rfl rfl ?_
                refine Wp.dup2 dX12_tell_103 rfl rfl rfl ?_
                refine Wp.iaload dX12_tell_104 (hM97.ia 7 (by decide)) (nI_toInt (by omega)) (by show _ < 10; omega) rfl ?_
                rw [f97 7 (by decide), hO.m]
                refine Wp.iconst (v := (nI 1)) dX12_tell_105 (by decide) rfl ?_
                refine Wp.iadd dX12_tell_106 rfl ?_
                rw [nI_add1]
                refine Wp.iastore dX12_tell_107 (hM97.ia 7 (by decide)) (nI_toInt (by omega)) (by show _ < 10; omega) rfl ?_
                refine hM97.sti (k := 7) (by decide) ?_
                intro h107 G107 hM107 o107 e107 f107
                have out107 := out97.trans o107
                refine Wp.aload_n dX12_tell_108 rfl (by first | exact Or.inr ⟨_, rfl⟩ | exact Or.inl rfl) rfl ?_
                refine Wp.get dX12_tell_109 fl_X12_25 hM107.ob (hM107.rf 7 (by decide)) rfl ?_
                refine Wp.iload_n dX12_tell_112 rfl rfl ?_
                refine Wp.iaload dX12_tell_113 (hM107.ia 7 (by decide)) (nI_toInt (by omega)) (by show _ < 10; omega) rfl ?_
                rw [e107]
                simp only [upd, if_true]
                exact Wp.iret dX12_tell_114 rfl (by
                    refine RQ.i (by rw [a_tell, if_pos (by simp (disch := omega) only [okTl, isO, nI_tI, tn_nI]; omega), tn_nI ho2, tn_nI hj2, htl, if_neg (by decide), if_neg (by omega)]) hM107 ?_ out107
                    rw [t_tell, if_pos ⟨(by simp (disch := omega) only [okTl, isO, nI_tI, tn_nI]; omega), by rw [tn_nI ho2, tn_nI hj2]; exact htl, by rw [tn_nI ho2]; omega⟩, tn_nI ho2, tn_nI hj2]
                    have g7 : G107 7 = upd (G 7) i (nI ((σ.O i).m + 1)) := by rw [e107, f97 7 (by decide)]
                    have g8 : G107 8 = upd (G 8) (8 * i + (σ.O i).m) (nI j) := by rw [f107 8 (by decide), e97]
                    have gg : ∀ k, k ≠ 7 → k ≠ 8 → G107 k = G k := fun k h1 h2 => (f107 k h1).trans (f97 k h2)
                    refine hP.cho (fun _ _ => rfl) (fun k hk => gg k (by omega) (by omega)) hP.nn (fun t ht => ?_)
                    by_cases e : t = i
                    · subst e
                      simp only [if_true]
                      refine ⟨?_, ?_, ?_, ?_, fun u hu => ?_⟩
                      · rw [gg 4 (by decide) (by decide), hO.k, hk0]; rfl
                      · rw [gg 5 (by decide) (by decide)]; exact hO.f
                      · rw [gg 6 (by decide) (by decide)]; exact hO.s
                      · rw [g7]; simp only [upd, if_true]; rfl
                      · have hu' : u < (σ.O t).m + 1 := hu
                        show _ = nI (updN (σ.O t).su (σ.O t).m j u)
                        rw [g8]
                        by_cases eu : u = (σ.O t).m
                        · subst eu; simp only [upd, updN, if_true]
                        · simp only [upd, updN, if_neg eu]; rw [if_neg (by omega)]; exact hO.su u (by omega)
                    · simp only [if_neg e]
                      have q := hP.of t ht
                      have qw := (hW.of t ht).m
                      refine ⟨?_, ?_, ?_, ?_, fun u hu => ?_⟩
                      · rw [gg 4 (by decide) (by decide)]; exact q.k
                      · rw [gg 5 (by decide) (by decide)]; exact q.f
                      · rw [gg 6 (by decide) (by decide)]; exact q.s
                      · rw [g7]; simp only [upd, if_neg e]; exact q.m
                      · rw [g8]; simp only [upd]; rw [if_neg (by omega)]; exact q.su u hu)
              · try simp (disch := omega) only [nI_bit0, nI_bit1, Bool.not_eq_false, Bool.not_eq_true] at c_75
                try simp (disch := omega) only [i_lt, i_le, i_eq, l_lt, l_le, l_eq, i_0, i_m1, l_0, nI_tI, iI_tI, lI_tI, Int.not_lt, Int.not_le] at c_75
                refine Wp.bipush (v := (-4)) dX12_tell_78 (by decide) rfl ?_
                exact Wp.iret dX12_tell_80 rfl (by exact RQ.i (by rw [a_tell, if_pos (by simp (disch := omega) only [okTl, isO, nI_tI, tn_nI]; omega), tn_nI ho2, tn_nI hj2, htl, if_neg (by decide), if_pos (by omega)]) hM (by rw [t_tell, if_neg (fun z => by have z1 := z.2.2; rw [tn_nI ho2] at z1; omega)]; exact hP) (Out.rfl (x := x) (h := h)))
            · try simp (disch := omega) only [nI_bit0, nI_bit1, Bool.not_eq_false, Bool.not_eq_true] at c_40
              try simp (disch := omega) only [i_lt, i_le, i_eq, l_lt, l_le, l_eq, i_0, i_m1, l_0, nI_tI, iI_tI, lI_tI, Int.not_lt, Int.not_le] at c_40
              omega
        exact loop 0 (by omega) (fun t ht => absurd ht (Nat.not_lt_zero t))
      · try simp only [decide_eq_true_eq, decide_eq_false_iff_not, Bool.and_eq_true, bI_0, bI_n0] at c_25
        refine Wp.bipush (v := (-2)) dX12_tell_28 (by decide) rfl ?_
        exact Wp.iret dX12_tell_30 rfl (RQ.i (by simp (disch := omega) only [a_tell, okL, okA, okWy, okPr, isO, okTl, nI_tI, iI_tI, tn_nI, nI_m1]; (repeat' split) <;> first | (exfalso; omega) | rfl) hM (by unfold t_tell; (repeat' split) <;> first | exact hP | (exfalso; (try simp (disch := omega) only [okL, okA, okWy, okPr, isO, okTl, nI_tI, tn_nI] at *); omega)) (Out.rfl (x := x) (h := h)))
theorem lt_2pow {L : Nat} (h : L ≤ 12) : 2 ^ L ≤ 4096 := Nat.pow_le_pow_right (n := 2) (by decide) h
set_option maxHeartbeats 2000000 in
theorem c_X12_barsOf {B : ev_B} {d x : Nat} {h : ev_H} {V : Nat → Value} {G : Nat → Nat → Int32} {Z : Nat → Nat → Int64} {σ : Sg} {i : Nat} (hM : MH h x V G Z) (hP : PM σ V G Z) (hW : Wf σ) (ho : i < σ.n) (hd : 2 ≤ d) :
    Wp B d M_X12_barsOf 0 [some (.ref x), some (.int (nI i)), none, none, none] [] h (fun v h' => v = some (.int (nI (barM σ i))) ∧ h' = h) := by
  have hn := hW.n
  have hT := hW.net.1
  have hL := hW.net.2.1
  have hO := hP.of i ho
  have hOw := hW.of i ho
  have hw7 : ∀ l, l < σ.N.L → σ.N.fr l < 7 ∧ σ.N.to l < 7 := fun l hl => by have := hW.net.2.2 l hl; omega
  have hp7 := pow_T hT
  have hp12 := lt_2pow hL
  have hkk := hOw.k
  refine Wp.aload_n dX12_barsOf_0 rfl (by first | exact Or.inr ⟨_, rfl⟩ | exact Or.inl rfl) rfl ?_
  refine Wp.get dX12_barsOf_1 fl_X12_16 hM.ob (hM.rf 4 (by decide)) rfl ?_
  refine Wp.iload_n dX12_barsOf_4 rfl rfl ?_
  refine Wp.iaload dX12_barsOf_5 (hM.ia 4 (by decide)) (nI_toInt (by omega)) (by show _ < 10; omega) rfl ?_
  rw [hO.k]
  refine Wp.iconst (v := (nI 1)) dX12_barsOf_6 (by decide) rfl ?_
  refine Wp.icmp_ne (tgt := 32) (n := 10) dX12_barsOf_7 (by decide) rfl (fun c_7 => ?_) (fun c_7 => ?_)
  · try simp (disch := omega) only [nI_bit0, nI_bit1, Bool.not_eq_false, Bool.not_eq_true] at c_7
    try simp (disch := omega) only [i_lt, i_le, i_eq, l_lt, l_le, l_eq, i_0, i_m1, l_0, nI_tI, iI_tI, lI_tI, Int.not_lt, Int.not_le] at c_7
    refine Wp.aload_n dX12_barsOf_32 rfl (by first | exact Or.inr ⟨_, rfl⟩ | exact Or.inl rfl) rfl ?_
    refine Wp.get dX12_barsOf_33 fl_X12_16 hM.ob (hM.rf 4 (by decide)) rfl ?_
    refine Wp.iload_n dX12_barsOf_36 rfl rfl ?_
    refine Wp.iaload dX12_barsOf_37 (hM.ia 4 (by decide)) (nI_toInt (by omega)) (by show _ < 10; omega) rfl ?_
    rw [hO.k]
    refine Wp.iconst (v := (nI 2)) dX12_barsOf_38 (by decide) rfl ?_
    refine Wp.icmp_ne (tgt := 60) (n := 42) dX12_barsOf_39 (by decide) rfl (fun c_39 => ?_) (fun c_39 => ?_)
    · try simp (disch := omega) only [nI_bit0, nI_bit1, Bool.not_eq_false, Bool.not_eq_true] at c_39
      try simp (disch := omega) only [i_lt, i_le, i_eq, l_lt, l_le, l_eq, i_0, i_m1, l_0, nI_tI, iI_tI, lI_tI, Int.not_lt, Int.not_le] at c_39
      refine Wp.aload_n dX12_barsOf_60 rfl (by first | exact Or.inr ⟨_, rfl⟩ | exact Or.inl rfl) rfl ?_
      refine Wp.get dX12_barsOf_61 fl_X12_16 hM.ob (hM.rf 4 (by decide)) rfl ?_
      refine Wp.iload_n dX12_barsOf_64 rfl rfl ?_
      refine Wp.iaload dX12_barsOf_65 (hM.ia 4 (by decide)) (nI_toInt (by omega)) (by show _ < 10; omega) rfl ?_
      rw [hO.k]
      refine Wp.if_ne (tgt := 71) (n := 69) dX12_barsOf_66 (by decide) rfl (fun c_66 => ?_) (fun c_66 => ?_)
      · have c_66 : (σ.O i).k ≠ 0 := fun z => c_66 (by rw [z]; rfl)
        have hk3 : (σ.O i).k = 3 := by omega
        have hsd := hOw.pr hk3
        have hot := otS_lt (sd := (σ.O i).f) hT
        have hb1 := cntB_le (σ.O i).f 31
        have hb2 := cntB_le (otS σ.N.T (σ.O i).f) 31
        refine Wp.aload_n dX12_barsOf_71 rfl (by first | exact Or.inr ⟨_, rfl⟩ | exact Or.inl rfl) rfl ?_
        refine Wp.get dX12_barsOf_72 fl_X12_19 hM.ob (hM.rf 5 (by decide)) rfl ?_
        refine Wp.iload_n dX12_barsOf_75 rfl rfl ?_
        refine Wp.iaload dX12_barsOf_76 (hM.ia 5 (by decide)) (nI_toInt (by omega)) (by show _ < 10; omega) rfl ?_
        rw [hO.f]
        refine Wp.istore_n dX12_barsOf_77 (Nat.le_of_ble_eq_true rfl) (by dsimp only [ev_st1, ev_st2, ev_cl] <;> rfl) rfl ?_
        refine Wp.aload_n dX12_barsOf_78 rfl (by first | exact Or.inr ⟨_, rfl⟩ | exact Or.inl rfl) rfl ?_
        refine Wp.cV dX12_barsOf_79 cv_X12_132 rfl (by omega) rfl (Nat.le_of_ble_eq_true rfl) (Nat.le_of_ble_eq_true rfl) hM.ob rfl (c_X12_allThings (d := d - 1) (hM.net hP.net) hW.net (by omega)) ?_
        rintro _ h_ ⟨rfl, e_⟩
        rw [e_]
        clear e_ h_
        dsimp only [Option.toList, List.drop, List.cons_append, List.nil_append]
        refine Wp.iload_n dX12_barsOf_82 rfl rfl ?_
        refine Wp.iconst (v := (-1)) dX12_barsOf_83 (by decide) rfl ?_
        refine Wp.ixor dX12_barsOf_84 rfl ?_
        refine Wp.iand dX12_barsOf_85 rfl ?_
        rw [nI_andn (by omega), show (2 ^ σ.N.T - 1) ^^^ ((2 ^ σ.N.T - 1) &&& (σ.O i).f) = otS σ.N.T (σ.O i).f from rfl]
        refine Wp.istore_n dX12_barsOf_86 (Nat.le_of_ble_eq_true rfl) (by dsimp only [ev_st1, ev_st2, ev_cl] <;> rfl) rfl ?_
        refine Wp.iload_n dX12_barsOf_87 rfl rfl ?_
        refine Wp.cS dX12_barsOf_88 cs_X12_125 rfl (by omega) rfl (Nat.le_of_ble_eq_true rfl) (Nat.le_of_ble_eq_true rfl) rfl (c_X12_bits (d := d - 1) (by omega)) ?_
        rintro _ h_ ⟨rfl, e_⟩
        rw [e_]
        clear e_ h_
        dsimp only [Option.toList, List.drop, List.cons_append, List.nil_append]
        refine Wp.iload_n dX12_barsOf_91 rfl rfl ?_
        refine Wp.cS dX12_barsOf_92 cs_X12_125 rfl (by omega) rfl (Nat.le_of_ble_eq_true rfl) (Nat.le_of_ble_eq_true rfl) rfl (c_X12_bits (d := d - 1) (by omega)) ?_
        rintro _ h_ ⟨rfl, e_⟩
        rw [e_]
        clear e_ h_
        dsimp only [Option.toList, List.drop, List.cons_append, List.nil_append]
        refine Wp.icmp_eq (tgt := 115) (n := 98) dX12_barsOf_95 (by decide) rfl (fun c_95 => ?_) (fun c_95 => ?_)
        · try simp (disch := omega) only [nI_bit0, nI_bit1, Bool.not_eq_false, Bool.not_eq_true] at c_95
          try simp (disch := omega) only [i_lt, i_le, i_eq, l_lt, l_le, l_eq, i_0, i_m1, l_0, nI_tI, iI_tI, lI_tI, Int.not_lt, Int.not_le] at c_95
          refine Wp.iconst (v := (nI 1)) dX12_barsOf_115 (by decide) rfl ?_
          refine Wp.istore dX12_barsOf_116 (Nat.le_of_ble_eq_true rfl) (by dsimp only [ev_st1, ev_st2, ev_cl] <;> rfl) rfl ?_
          have hbar : barM σ i = brF (brP σ.N (σ.O i).f) (σ.O i).f (σ.O i).f := by rw [barM, if_neg (by omega), if_neg (by omega), if_neg (by omega), if_neg (by omega)]
          have loop : ∀ s, s ≤ ((σ.O i).f + 1) → brF (brP σ.N (σ.O i).f) (σ.O i).f ((σ.O i).f + 1 - s) = barM σ i → Wp B d M_X12_barsOf 118 [some (.ref x), some (.int (nI i)), some (.int (nI (σ.O i).f)), some (.int (nI (otS σ.N.T (σ.O i).f))), some (.int (nI s))] [] h (fun v h' => v = some (.int (nI (barM σ i))) ∧ h' = h) := by
            refine ev_upl ((σ.O i).f + 1) (fun s hi ih => ?_) ?_
            · intro hbr
              have hs1 : s < 128 := by omega
              have hbe := besM_lt (s := s) hw7 σ.N.L (Nat.le_refl _)
              rw [show (σ.O i).f + 1 - s = ((σ.O i).f - s) + 1 by omega, brF, show (σ.O i).f - ((σ.O i).f - s) = s by omega] at hbr
              have hxs : s ^^^ (s &&& (σ.O i).f) < 128 := Nat.xor_lt_two_pow (n := 7) hs1 (Nat.lt_of_le_of_lt Nat.and_le_left hs1)
              have hbo : besM σ.N.fr σ.N.to s σ.N.L &&& otS σ.N.T (σ.O i).f < 128 := Nat.lt_of_le_of_lt Nat.and_le_left hbe
              have hc1 := cntB_le (besM σ.N.fr σ.N.to s σ.N.L &&& otS σ.N.T (σ.O i).f) 31
              have hc2 := cntB_le s 31
              refine Wp.iload dX12_barsOf_118 rfl rfl ?_
              refine Wp.iload_n dX12_barsOf_120 rfl rfl ?_
              refine Wp.icmp_gt (tgt := 161) (n := 124) dX12_barsOf_121 (by decide) rfl (fun c_121 => ?_) (fun c_121 => ?_)
              · try simp (disch := omega) only [nI_bit0, nI_bit1, Bool.not_eq_false, Bool.not_eq_true] at c_121
                try simp (disch := omega) only [i_lt, i_le, i_eq, l_lt, l_le, l_eq, i_0, i_m1, l_0, nI_tI, iI_tI, lI_tI, Int.not_lt, Int.not_le] at c_121
                omega
              · try simp (disch := omega) only [nI_bit0, nI_bit1, Bool.not_eq_false, Bool.not_eq_true] at c_121
                try simp (disch := omega) only [i_lt, i_le, i_eq, l_lt, l_le, l_eq, i_0, i_m1, l_0, nI_tI, iI_tI, lI_tI, Int.not_lt, Int.not_le] at c_121
                refine Wp.iload dX12_barsOf_124 rfl rfl ?_
                refine Wp.iload_n dX12_barsOf_126 rfl rfl ?_
                refine Wp.iconst (v := (-1)) dX12_barsOf_127 (by decide) rfl ?_
                refine Wp.ixor dX12_barsOf_128 rfl ?_
                refine Wp.iand dX12_barsOf_129 rfl ?_
                rw [nI_andn (by omega)]
                refine Wp.if_ne (tgt := 155) (n := 133) dX12_barsOf_130 (by decide) rfl (fun c_130 => ?_) (fun c_130 => ?_)
                · have c_130 : s ^^^ (s &&& (σ.O i).f) ≠ 0 := fun z => c_130 (by rw [z]; rfl)
                  rw [if_neg (by simp [brP, c_130])] at hbr
                  refine Wp.iinc (v := _ + (nI 1)) dX12_barsOf_155 rfl rfl (Nat.le_of_ble_eq_true rfl) (by dsimp only [ev_st1, ev_cl] <;> rfl) rfl ?_
                  refine Wp.goto (n := 118) dX12_barsOf_158 (by decide) ?_
                  rw [nI_add1]
                  exact ih (by rw [show (σ.O i).f + 1 - (s + 1) = (σ.O i).f - s by omega]; exact hbr)
                · have c_130 : s ^^^ (s &&& (σ.O i).f) = 0 := (nI_eq0 (by omega)).mp c_130
                  refine Wp.aload_n dX12_barsOf_133 rfl (by first | exact Or.inr ⟨_, rfl⟩ | exact Or.inl rfl) rfl ?_
                  refine Wp.iload dX12_barsOf_134 rfl rfl ?_
                  refine Wp.cV dX12_barsOf_136 cv_X12_165 rfl (by omega) rfl (Nat.le_of_ble_eq_true rfl) (Nat.le_of_ble_eq_true rfl) hM.ob rfl (c_X12_beside (d := d - 1) (hM.net hP.net) hW.net hs1 (by omega)) ?_
                  rintro _ h_ ⟨rfl, e_⟩
                  rw [e_]
                  clear e_ h_
                  dsimp only [Option.toList, List.drop, List.cons_append, List.nil_append]
                  refine Wp.iload_n dX12_barsOf_139 rfl rfl ?_
                  refine Wp.iand dX12_barsOf_140 rfl ?_
                  rw [nI_and]
                  refine Wp.cS dX12_barsOf_141 cs_X12_125 rfl (by omega) rfl (Nat.le_of_ble_eq_true rfl) (Nat.le_of_ble_eq_true rfl) rfl (c_X12_bits (d := d - 1) (by omega)) ?_
                  rintro _ h_ ⟨rfl, e_⟩
                  rw [e_]
                  clear e_ h_
                  dsimp only [Option.toList, List.drop, List.cons_append, List.nil_append]
                  refine Wp.iload dX12_barsOf_144 rfl rfl ?_
                  refine Wp.cS dX12_barsOf_146 cs_X12_125 rfl (by omega) rfl (Nat.le_of_ble_eq_true rfl) (Nat.le_of_ble_eq_true rfl) rfl (c_X12_bits (d := d - 1) (by omega)) ?_
                  rintro _ h_ ⟨rfl, e_⟩
                  rw [e_]
                  clear e_ h_
                  dsimp only [Option.toList, List.drop, List.cons_append, List.nil_append]
                  refine Wp.icmp_ge (tgt := 155) (n := 152) dX12_barsOf_149 (by decide) rfl (fun c_149 => ?_) (fun c_149 => ?_)
                  · try simp (disch := omega) only [nI_bit0, nI_bit1, Bool.not_eq_false, Bool.not_eq_true] at c_149
                    try simp (disch := omega) only [i_lt, i_le, i_eq, l_lt, l_le, l_eq, i_0, i_m1, l_0, nI_tI, iI_tI, lI_tI, Int.not_lt, Int.not_le] at c_149
                    have hcc : ¬ cntB (besM σ.N.fr σ.N.to s σ.N.L &&& otS σ.N.T (σ.O i).f) 31 < cntB s 31 := by omega
                    rw [if_neg (by simp [brP, hcc])] at hbr
                    refine Wp.iinc (v := _ + (nI 1)) dX12_barsOf_155 rfl rfl (Nat.le_of_ble_eq_true rfl) (by dsimp only [ev_st1, ev_cl] <;> rfl) rfl ?_
                    refine Wp.goto (n := 118) dX12_barsOf_158 (by decide) ?_
                    rw [nI_add1]
                    exact ih (by rw [show (σ.O i).f + 1 - (s + 1) = (σ.O i).f - s by omega]; exact hbr)
                  · try simp (disch := omega) only [nI_bit0, nI_bit1, Bool.not_eq_false, Bool.not_eq_true] at c_149
                    try simp (disch := omega) only [i_lt, i_le, i_eq, l_lt, l_le, l_eq, i_0, i_m1, l_0, nI_tI, iI_tI, lI_tI, Int.not_lt, Int.not_le] at c_149
                    have hcc : cntB (besM σ.N.fr σ.N.to s σ.N.L &&& otS σ.N.T (σ.O i).f) 31 < cntB s 31 := by omega
                    rw [if_pos (by simp [brP, hcc, c_130])] at hbr
                    refine Wp.iload dX12_barsOf_152 rfl rfl ?_
                    exact Wp.iret dX12_barsOf_154 rfl (by rw [hbr]; exact ⟨rfl, rfl⟩)
            · intro hbr
              rw [show (σ.O i).f + 1 - ((σ.O i).f + 1) = 0 by omega, brF] at hbr
              refine Wp.iload dX12_barsOf_118 rfl rfl ?_
              refine Wp.iload_n dX12_barsOf_120 rfl rfl ?_
              refine Wp.icmp_gt (tgt := 161) (n := 124) dX12_barsOf_121 (by decide) rfl (fun c_121 => ?_) (fun c_121 => ?_)
              · try simp (disch := omega) only [nI_bit0, nI_bit1, Bool.not_eq_false, Bool.not_eq_true] at c_121
                try simp (disch := omega) only [i_lt, i_le, i_eq, l_lt, l_le, l_eq, i_0, i_m1, l_0, nI_tI, iI_tI, lI_tI, Int.not_lt, Int.not_le] at c_121
                refine Wp.iconst (v := (nI 0)) dX12_barsOf_161 (by decide) rfl ?_
                exact Wp.iret dX12_barsOf_162 rfl (by rw [← hbr]; exact ⟨rfl, rfl⟩)
              · try simp (disch := omega) only [nI_bit0, nI_bit1, Bool.not_eq_false, Bool.not_eq_true] at c_121
                try simp (disch := omega) only [i_lt, i_le, i_eq, l_lt, l_le, l_eq, i_0, i_m1, l_0, nI_tI, iI_tI, lI_tI, Int.not_lt, Int.not_le] at c_121
                omega
          exact loop 1 (by omega) (by rw [show (σ.O i).f + 1 - 1 = (σ.O i).f by omega]; exact hbar.symm)
        · try simp (disch := omega) only [nI_bit0, nI_bit1, Bool.not_eq_false, Bool.not_eq_true] at c_95
          try simp (disch := omega) only [i_lt, i_le, i_eq, l_lt, l_le, l_eq, i_0, i_m1, l_0, nI_tI, iI_tI, lI_tI, Int.not_lt, Int.not_le] at c_95
          refine Wp.iload_n dX12_barsOf_98 rfl rfl ?_
          refine Wp.cS dX12_barsOf_99 cs_X12_125 rfl (by omega) rfl (Nat.le_of_ble_eq_true rfl) (Nat.le_of_ble_eq_true rfl) rfl (c_X12_bits (d := d - 1) (by omega)) ?_
          rintro _ h_ ⟨rfl, e_⟩
          rw [e_]
          clear e_ h_
          dsimp only [Option.toList, List.drop, List.cons_append, List.nil_append]
          refine Wp.iload_n dX12_barsOf_102 rfl rfl ?_
          refine Wp.cS dX12_barsOf_103 cs_X12_125 rfl (by omega) rfl (Nat.le_of_ble_eq_true rfl) (Nat.le_of_ble_eq_true rfl) rfl (c_X12_bits (d := d - 1) (by omega)) ?_
          rintro _ h_ ⟨rfl, e_⟩
          rw [e_]
          clear e_ h_
          dsimp only [Option.toList, List.drop, List.cons_append, List.nil_append]
          refine Wp.icmp_le (tgt := 113) (n := 109) dX12_barsOf_106 (by decide) rfl (fun c_106 => ?_) (fun c_106 => ?_)
          · try simp (disch := omega) only [nI_bit0, nI_bit1, Bool.not_eq_false, Bool.not_eq_true] at c_106
            try simp (disch := omega) only [i_lt, i_le, i_eq, l_lt, l_le, l_eq, i_0, i_m1, l_0, nI_tI, iI_tI, lI_tI, Int.not_lt, Int.not_le] at c_106
            refine Wp.iload_n dX12_barsOf_113 rfl rfl ?_
            exact Wp.iret dX12_barsOf_114 rfl (by rw [barM, if_neg (by omega), if_neg (by omega), if_neg (by omega), if_pos (by omega)]; first | (rw [if_pos (by omega)]; exact ⟨rfl, rfl⟩) | (rw [if_neg (by omega)]; exact ⟨rfl, rfl⟩))
          · try simp (disch := omega) only [nI_bit0, nI_bit1, Bool.not_eq_false, Bool.not_eq_true] at c_106
            try simp (disch := omega) only [i_lt, i_le, i_eq, l_lt, l_le, l_eq, i_0, i_m1, l_0, nI_tI, iI_tI, lI_tI, Int.not_lt, Int.not_le] at c_106
            refine Wp.iload_n dX12_barsOf_109 rfl rfl ?_
            refine Wp.goto (n := 114) dX12_barsOf_110 (by decide) ?_
            exact Wp.iret dX12_barsOf_114 rfl (by rw [barM, if_neg (by omega), if_neg (by omega), if_neg (by omega), if_pos (by omega)]; first | (rw [if_pos (by omega)]; exact ⟨rfl, rfl⟩) | (rw [if_neg (by omega)]; exact ⟨rfl, rfl⟩))
      · have c_66 : (σ.O i).k = 0 := (nI_eq0 (by omega)).mp c_66
        refine Wp.iconst (v := (nI 0)) dX12_barsOf_69 (by decide) rfl ?_
        exact Wp.iret dX12_barsOf_70 rfl (by rw [barM, if_neg (by omega), if_neg (by omega), if_pos (by omega)]; exact ⟨rfl, rfl⟩)
    · try simp (disch := omega) only [nI_bit0, nI_bit1, Bool.not_eq_false, Bool.not_eq_true] at c_39
      try simp (disch := omega) only [i_lt, i_le, i_eq, l_lt, l_le, l_eq, i_0, i_m1, l_0, nI_tI, iI_tI, lI_tI, Int.not_lt, Int.not_le] at c_39
      refine Wp.aload_n dX12_barsOf_42 rfl (by first | exact Or.inr ⟨_, rfl⟩ | exact Or.inl rfl) rfl ?_
      refine Wp.aload_n dX12_barsOf_43 rfl (by first | exact Or.inr ⟨_, rfl⟩ | exact Or.inl rfl) rfl ?_
      refine Wp.cV dX12_barsOf_44 cv_X12_135 rfl (by omega) rfl (Nat.le_of_ble_eq_true rfl) (Nat.le_of_ble_eq_true rfl) hM.ob rfl (c_X12_allLines (d := d - 1) (hM.net hP.net) hW.net (by omega)) ?_
      rintro _ h_ ⟨rfl, e_⟩
      rw [e_]
      clear e_ h_
      dsimp only [Option.toList, List.drop, List.cons_append, List.nil_append]
      refine Wp.iconst (v := (nI 1)) dX12_barsOf_47 (by decide) rfl ?_
      refine Wp.aload_n dX12_barsOf_48 rfl (by first | exact Or.inr ⟨_, rfl⟩ | exact Or.inl rfl) rfl ?_
      refine Wp.get dX12_barsOf_49 fl_X12_19 hM.ob (hM.rf 5 (by decide)) rfl ?_
      refine Wp.iload_n dX12_barsOf_52 rfl rfl ?_
      refine Wp.iaload dX12_barsOf_53 (hM.ia 5 (by decide)) (nI_toInt (by omega)) (by show _ < 10; omega) rfl ?_
      rw [hO.f]
      refine Wp.ishl dX12_barsOf_54 rfl ?_
      rw [nI_one_shl (by have := hOw.wy (by omega); omega)]
      refine Wp.iconst (v := (nI 0)) dX12_barsOf_55 (by decide) rfl ?_
      refine Wp.cV dX12_barsOf_56 cv_X12_128 rfl (by omega) rfl (Nat.le_of_ble_eq_true rfl) (Nat.le_of_ble_eq_true rfl) hM.ob rfl (c_X12_reached (d := d - 1) (hM.net hP.net) hW.net (s := 2 ^ σ.N.L - 1) (r := 2 ^ (σ.O i).f) (bo := false) (by omega) (pow_lt7 (by have := hOw.wy (by omega); omega)) (by omega)) ?_
      rintro _ h_ ⟨rfl, e_⟩
      rw [e_]
      clear e_ h_
      dsimp only [Option.toList, List.drop, List.cons_append, List.nil_append]
      exact Wp.iret dX12_barsOf_59 rfl (by rw [barM, if_neg (by omega), if_pos (by omega)]; exact ⟨rfl, rfl⟩)
  · try simp (disch := omega) only [nI_bit0, nI_bit1, Bool.not_eq_false, Bool.not_eq_true] at c_7
    try simp (disch := omega) only [i_lt, i_le, i_eq, l_lt, l_le, l_eq, i_0, i_m1, l_0, nI_tI, iI_tI, lI_tI, Int.not_lt, Int.not_le] at c_7
    refine Wp.aload_n dX12_barsOf_10 rfl (by first | exact Or.inr ⟨_, rfl⟩ | exact Or.inl rfl) rfl ?_
    refine Wp.cV dX12_barsOf_11 cv_X12_82 rfl (by omega) rfl (Nat.le_of_ble_eq_true rfl) (Nat.le_of_ble_eq_true rfl) hM.ob rfl (c_X12_things (d := d - 1) (hM.net hP.net) hW.net) ?_
    rintro _ h_ ⟨rfl, e_⟩
    rw [e_]
    clear e_ h_
    dsimp only [Option.toList, List.drop, List.cons_append, List.nil_append]
    refine Wp.if_ne (tgt := 21) (n := 17) dX12_barsOf_14 (by decide) rfl (fun c_14 => ?_) (fun c_14 => ?_)
    · have c_14 : σ.N.T ≠ 0 := fun z => c_14 (by rw [z]; rfl)
      refine Wp.aload_n dX12_barsOf_21 rfl (by first | exact Or.inr ⟨_, rfl⟩ | exact Or.inl rfl) rfl ?_
      refine Wp.aload_n dX12_barsOf_22 rfl (by first | exact Or.inr ⟨_, rfl⟩ | exact Or.inl rfl) rfl ?_
      refine Wp.cV dX12_barsOf_23 cv_X12_135 rfl (by omega) rfl (Nat.le_of_ble_eq_true rfl) (Nat.le_of_ble_eq_true rfl) hM.ob rfl (c_X12_allLines (d := d - 1) (hM.net hP.net) hW.net (by omega)) ?_
      rintro _ h_ ⟨rfl, e_⟩
      rw [e_]
      clear e_ h_
      dsimp only [Option.toList, List.drop, List.cons_append, List.nil_append]
      refine Wp.iconst (v := (nI 1)) dX12_barsOf_26 (by decide) rfl ?_
      refine Wp.iconst (v := (nI 1)) dX12_barsOf_27 (by decide) rfl ?_
      refine Wp.cV dX12_barsOf_28 cv_X12_128 rfl (by omega) rfl (Nat.le_of_ble_eq_true rfl) (Nat.le_of_ble_eq_true rfl) hM.ob rfl (c_X12_reached (d := d - 1) (hM.net hP.net) hW.net (s := 2 ^ σ.N.L - 1) (r := 1) (bo := true) (by omega) (by omega) (by omega)) ?_
      rintro _ h_ ⟨rfl, e_⟩
      rw [e_]
      clear e_ h_
      dsimp only [Option.toList, List.drop, List.cons_append, List.nil_append]
      exact Wp.iret dX12_barsOf_31 rfl (by rw [barM, if_pos (by omega)]; first | (rw [if_pos (by omega)]; exact ⟨rfl, rfl⟩) | (rw [if_neg (by omega)]; exact ⟨rfl, rfl⟩))
    · have c_14 : σ.N.T = 0 := (nI_eq0 (by omega)).mp c_14
      refine Wp.iconst (v := (nI 0)) dX12_barsOf_17 (by decide) rfl ?_
      refine Wp.goto (n := 31) dX12_barsOf_18 (by decide) ?_
      exact Wp.iret dX12_barsOf_31 rfl (by rw [barM, if_pos (by omega)]; first | (rw [if_pos (by omega)]; exact ⟨rfl, rfl⟩) | (rw [if_neg (by omega)]; exact ⟨rfl, rfl⟩))
set_option maxHeartbeats 2000000 in
theorem c_X12_offerTold {B : ev_B} {d x : Nat} {h : ev_H} {V : Nat → Value} {G : Nat → Nat → Int32} {Z : Nat → Nat → Int64} {σ : Sg} {o w : Int32} (hM : MH h x V G Z) (hP : PM σ V G Z) (hW : Wf σ) (hd : 5 ≤ d) :
    Wp B d M_X12_offerTold 0 [some (.ref x), some (.int (o)), some (.int (w))] [] h (RQ x h (σ) (.int (a_offerTold σ o w))) := by
  have hn := hW.n
  have hT := hW.net.1
  have hL := hW.net.2.1
  refine Wp.aload_n dX12_offerTold_0 rfl (by first | exact Or.inr ⟨_, rfl⟩ | exact Or.inl rfl) rfl ?_
  refine Wp.iload_n dX12_offerTold_1 rfl rfl ?_
  refine Wp.cV dX12_offerTold_2 cv_X12_115 rfl (by omega) rfl (Nat.le_of_ble_eq_true rfl) (Nat.le_of_ble_eq_true rfl) hM.ob rfl (c_X12_isOffer (d := d - 1) hM hP hW (by omega)) ?_
  rintro _ h_ ⟨rfl, e_⟩
  rw [e_]
  clear e_ h_
  dsimp only [Option.toList, List.drop, List.cons_append, List.nil_append]
  refine Wp.bif_eq (tgt := 17) (n := 8) dX12_offerTold_5 (by decide) rfl (fun c_5 => ?_) (fun c_5 => ?_)
  · try simp only [decide_eq_true_eq, decide_eq_false_iff_not, Bool.and_eq_true, bI_0, bI_n0] at c_5
    refine Wp.bipush (v := (-2)) dX12_offerTold_17 (by decide) rfl ?_
    exact Wp.iret dX12_offerTold_19 rfl (RQ.i (by simp (disch := omega) only [a_offerTold, okL, okA, okWy, okPr, isO, okTl, nI_tI, iI_tI, tn_nI, nI_m1]; (repeat' split) <;> first | (exfalso; omega) | rfl) hM hP (Out.rfl (x := x) (h := h)))
  · try simp only [decide_eq_true_eq, decide_eq_false_iff_not, Bool.and_eq_true, bI_0, bI_n0] at c_5
    refine Wp.iload_n dX12_offerTold_8 rfl rfl ?_
    refine Wp.iconst (v := (nI 0)) dX12_offerTold_9 (by decide) rfl ?_
    refine Wp.iconst (v := (nI 4)) dX12_offerTold_10 (by decide) rfl ?_
    refine Wp.cS dX12_offerTold_11 cs_X12_85 rfl (by omega) rfl (Nat.le_of_ble_eq_true rfl) (Nat.le_of_ble_eq_true rfl) rfl (c_X12_in (d := d - 1)) ?_
    rintro _ h_ ⟨rfl, e_⟩
    rw [e_]
    clear e_ h_
    dsimp only [Option.toList, List.drop, List.cons_append, List.nil_append]
    try simp (disch := omega) only [nI_m1, nI_tI, i_0]
    refine Wp.bif_ne (tgt := 20) (n := 17) dX12_offerTold_14 (by decide) rfl (fun c_14 => ?_) (fun c_14 => ?_)
    · try simp only [decide_eq_true_eq, decide_eq_false_iff_not, Bool.and_eq_true, bI_0, bI_n0] at c_14
      obtain ⟨i, rfl, ho, ho2⟩ := as_nI (show 0 ≤ o.toInt ∧ o.toInt < σ.n by omega)
      have hO := hP.of i ho
      have hOw := hW.of i ho
      obtain ⟨j, rfl, hj, hj2⟩ := as_nI (o := w) (n := 5) (by omega)
      have hjj : j = 0 ∨ j = 1 ∨ j = 2 ∨ j = 3 ∨ j = 4 := by omega
      rcases hjj with rfl | rfl | rfl | rfl | rfl
      · refine Wp.iload_n dX12_offerTold_20 rfl rfl ?_
        refine Wp.tswIn (off := 31) (n := 52) dX12_offerTold_21 (by decide) (by decide) (by decide) (by decide) ?_
        refine Wp.aload_n dX12_offerTold_52 rfl (by first | exact Or.inr ⟨_, rfl⟩ | exact Or.inl rfl) rfl ?_
        refine Wp.get dX12_offerTold_53 fl_X12_16 hM.ob (hM.rf 4 (by decide)) rfl ?_
        refine Wp.iload_n dX12_offerTold_56 rfl rfl ?_
        refine Wp.iaload dX12_offerTold_57 (hM.ia 4 (by decide)) (nI_toInt (by omega)) (by show _ < 10; omega) rfl ?_
        rw [hO.k]
        exact Wp.iret dX12_offerTold_58 rfl (RQ.i (by simp (disch := omega) only [a_offerTold, isO, nI_tI, tn_nI]; (repeat' split) <;> first | (exfalso; omega) | rfl) hM hP (Out.rfl (x := x) (h := h)))
      · refine Wp.iload_n dX12_offerTold_20 rfl rfl ?_
        refine Wp.tswIn (off := 38) (n := 59) dX12_offerTold_21 (by decide) (by decide) (by decide) (by decide) ?_
        refine Wp.aload_n dX12_offerTold_59 rfl (by first | exact Or.inr ⟨_, rfl⟩ | exact Or.inl rfl) rfl ?_
        refine Wp.iload_n dX12_offerTold_60 rfl rfl ?_
        refine Wp.cV dX12_offerTold_61 cv_X12_168 rfl (by omega) rfl (Nat.le_of_ble_eq_true rfl) (Nat.le_of_ble_eq_true rfl) hM.ob rfl (c_X12_gathers (d := d - 1) hM hP hW ho (by omega)) ?_
        rintro _ h2 ⟨rfl, V2, G2, hM2, o2, k2, l1, l2⟩
        have hC2 := ChA.of l1 l2
        have hP2 := hP.kp k2
        dsimp only [Option.toList, List.drop, List.cons_append, List.nil_append]
        refine Wp.aload_n dX12_offerTold_64 rfl (by first | exact Or.inr ⟨_, rfl⟩ | exact Or.inl rfl) rfl ?_
        refine Wp.get dX12_offerTold_65 fl_X12_150 hM2.ob hC2.1.1 rfl ?_
        exact Wp.iret dX12_offerTold_68 rfl (RQ.i (by simp (disch := omega) only [a_offerTold, okL, okA, okWy, okPr, isO, okTl, nI_tI, iI_tI, tn_nI, nI_m1]; (repeat' split) <;> first | (exfalso; omega) | rfl) hM2 hP2 o2)
      · refine Wp.iload_n dX12_offerTold_20 rfl rfl ?_
        refine Wp.tswIn (off := 48) (n := 69) dX12_offerTold_21 (by decide) (by decide) (by decide) (by decide) ?_
        refine Wp.aload_n dX12_offerTold_69 rfl (by first | exact Or.inr ⟨_, rfl⟩ | exact Or.inl rfl) rfl ?_
        refine Wp.iload_n dX12_offerTold_70 rfl rfl ?_
        refine Wp.cV dX12_offerTold_71 cv_X12_168 rfl (by omega) rfl (Nat.le_of_ble_eq_true rfl) (Nat.le_of_ble_eq_true rfl) hM.ob rfl (c_X12_gathers (d := d - 1) hM hP hW ho (by omega)) ?_
        rintro _ h2 ⟨rfl, V2, G2, hM2, o2, k2, l1, l2⟩
        have hC2 := ChA.of l1 l2
        have hP2 := hP.kp k2
        dsimp only [Option.toList, List.drop, List.cons_append, List.nil_append]
        have hcn := chn_le σ i
        refine Wp.aload_n dX12_offerTold_74 rfl (by first | exact Or.inr ⟨_, rfl⟩ | exact Or.inl rfl) rfl ?_
        refine Wp.get dX12_offerTold_75 fl_X12_150 hM2.ob hC2.1.1 rfl ?_
        refine Wp.if_le (tgt := 85) (n := 81) dX12_offerTold_78 (by decide) rfl (fun c_78 => ?_) (fun c_78 => ?_)
        · try simp (disch := omega) only [nI_bit0, nI_bit1, Bool.not_eq_false, Bool.not_eq_true] at c_78
          try simp (disch := omega) only [i_lt, i_le, i_eq, l_lt, l_le, l_eq, i_0, i_m1, l_0, nI_tI, iI_tI, lI_tI, Int.not_lt, Int.not_le] at c_78
          refine Wp.aload_n dX12_offerTold_85 rfl (by first | exact Or.inr ⟨_, rfl⟩ | exact Or.inl rfl) rfl ?_
          refine Wp.iload_n dX12_offerTold_86 rfl rfl ?_
          refine Wp.cV dX12_offerTold_87 cv_X12_172 rfl (by omega) rfl (Nat.le_of_ble_eq_true rfl) (Nat.le_of_ble_eq_true rfl) hM2.ob rfl (c_X12_barsOf (d := d - 1) hM2 hP2 hW ho (by omega)) ?_
          rintro _ h_ ⟨rfl, e_⟩
          rw [e_]
          clear e_ h_
          dsimp only [Option.toList, List.drop, List.cons_append, List.nil_append]
          exact Wp.iret dX12_offerTold_90 rfl (RQ.i (by simp (disch := omega) only [a_offerTold, okL, okA, okWy, okPr, isO, okTl, nI_tI, iI_tI, tn_nI, nI_m1]; (repeat' split) <;> first | (exfalso; omega) | rfl) hM2 hP2 o2)
        · try simp (disch := omega) only [nI_bit0, nI_bit1, Bool.not_eq_false, Bool.not_eq_true] at c_78
          try simp (disch := omega) only [i_lt, i_le, i_eq, l_lt, l_le, l_eq, i_0, i_m1, l_0, nI_tI, iI_tI, lI_tI, Int.not_lt, Int.not_le] at c_78
          refine Wp.iconst (v := (nI 0)) dX12_offerTold_81 (by decide) rfl ?_
          refine Wp.goto (n := 90) dX12_offerTold_82 (by decide) ?_
          exact Wp.iret dX12_offerTold_90 rfl (RQ.i (by simp (disch := omega) only [a_offerTold, okL, okA, okWy, okPr, isO, okTl, nI_tI, iI_tI, tn_nI, nI_m1]; (repeat' split) <;> first | (exfalso; omega) | rfl) hM2 hP2 o2)
      · refine Wp.iload_n dX12_offerTold_20 rfl rfl ?_
        refine Wp.tswIn (off := 70) (n := 91) dX12_offerTold_21 (by decide) (by decide) (by decide) (by decide) ?_
        refine Wp.aload_n dX12_offerTold_91 rfl (by first | exact Or.inr ⟨_, rfl⟩ | exact Or.inl rfl) rfl ?_
        refine Wp.get dX12_offerTold_92 fl_X12_16 hM.ob (hM.rf 4 (by decide)) rfl ?_
        refine Wp.iload_n dX12_offerTold_95 rfl rfl ?_
        refine Wp.iaload dX12_offerTold_96 (hM.ia 4 (by decide)) (nI_toInt (by omega)) (by show _ < 10; omega) rfl ?_
        rw [hO.k]
        refine Wp.if_ne (tgt := 109) (n := 100) dX12_offerTold_97 (by decide) rfl (fun c_97 => ?_) (fun c_97 => ?_)
        · have c_97 : (σ.O i).k ≠ 0 := fun z => c_97 (by rw [z]; rfl)
          refine Wp.aload_n dX12_offerTold_109 rfl (by first | exact Or.inr ⟨_, rfl⟩ | exact Or.inl rfl) rfl ?_
          refine Wp.get dX12_offerTold_110 fl_X12_19 hM.ob (hM.rf 5 (by decide)) rfl ?_
          refine Wp.iload_n dX12_offerTold_113 rfl rfl ?_
          refine Wp.iaload dX12_offerTold_114 (hM.ia 5 (by decide)) (nI_toInt (by omega)) (by show _ < 10; omega) rfl ?_
          rw [hO.f]
          exact Wp.iret dX12_offerTold_115 rfl (RQ.i (by simp (disch := omega) only [a_offerTold, okL, okA, okWy, okPr, isO, okTl, nI_tI, iI_tI, tn_nI, nI_m1]; (repeat' split) <;> first | (exfalso; omega) | rfl) hM hP (Out.rfl (x := x) (h := h)))
        · have c_97 : (σ.O i).k = 0 := (nI_eq0 (by have := hOw.k; omega)).mp c_97
          refine Wp.aload_n dX12_offerTold_100 rfl (by first | exact Or.inr ⟨_, rfl⟩ | exact Or.inl rfl) rfl ?_
          refine Wp.get dX12_offerTold_101 fl_X12_25 hM.ob (hM.rf 7 (by decide)) rfl ?_
          refine Wp.iload_n dX12_offerTold_104 rfl rfl ?_
          refine Wp.iaload dX12_offerTold_105 (hM.ia 7 (by decide)) (nI_toInt (by omega)) (by show _ < 10; omega) rfl ?_
          rw [hO.m]
          refine Wp.goto (n := 115) dX12_offerTold_106 (by decide) ?_
          exact Wp.iret dX12_offerTold_115 rfl (RQ.i (by simp (disch := omega) only [a_offerTold, okL, okA, okWy, okPr, isO, okTl, nI_tI, iI_tI, tn_nI, nI_m1]; (repeat' split) <;> first | (exfalso; omega) | rfl) hM hP (Out.rfl (x := x) (h := h)))
      · refine Wp.iload_n dX12_offerTold_20 rfl rfl ?_
        refine Wp.tswOut (n := 116) dX12_offerTold_21 (by decide) (by decide) ?_
        refine Wp.aload_n dX12_offerTold_116 rfl (by first | exact Or.inr ⟨_, rfl⟩ | exact Or.inl rfl) rfl ?_
        refine Wp.get dX12_offerTold_117 fl_X12_22 hM.ob (hM.rf 6 (by decide)) rfl ?_
        refine Wp.iload_n dX12_offerTold_120 rfl rfl ?_
        refine Wp.iaload dX12_offerTold_121 (hM.ia 6 (by decide)) (nI_toInt (by omega)) (by show _ < 10; omega) rfl ?_
        rw [hO.s]
        exact Wp.iret dX12_offerTold_122 rfl (RQ.i (by simp (disch := omega) only [a_offerTold, okL, okA, okWy, okPr, isO, okTl, nI_tI, iI_tI, tn_nI, nI_m1]; (repeat' split) <;> first | (exfalso; omega) | rfl) hM hP (Out.rfl (x := x) (h := h)))
    · try simp only [decide_eq_true_eq, decide_eq_false_iff_not, Bool.and_eq_true, bI_0, bI_n0] at c_14
      refine Wp.bipush (v := (-2)) dX12_offerTold_17 (by decide) rfl ?_
      exact Wp.iret dX12_offerTold_19 rfl (RQ.i (by simp (disch := omega) only [a_offerTold, okL, okA, okWy, okPr, isO, okTl, nI_tI, iI_tI, tn_nI, nI_m1]; (repeat' split) <;> first | (exfalso; omega) | rfl) hM hP (Out.rfl (x := x) (h := h)))
set_option maxHeartbeats 1000000 in
theorem c_X12_choice {B : ev_B} {d x : Nat} {h : ev_H} {V : Nat → Value} {G : Nat → Nat → Int32} {Z : Nat → Nat → Int64} {σ : Sg} {o u : Int32} (hM : MH h x V G Z) (hP : PM σ V G Z) (hW : Wf σ) (hd : 5 ≤ d) :
    Wp B d M_X12_choice 0 [some (.ref x), some (.int (o)), some (.int (u))] [] h (RQ x h (σ) (.int (a_choice σ o u))) := by
  have hn := hW.n
  have hT := hW.net.1
  have hL := hW.net.2.1
  refine Wp.aload_n dX12_choice_0 rfl (by first | exact Or.inr ⟨_, rfl⟩ | exact Or.inl rfl) rfl ?_
  refine Wp.iload_n dX12_choice_1 rfl rfl ?_
  refine Wp.cV dX12_choice_2 cv_X12_115 rfl (by omega) rfl (Nat.le_of_ble_eq_true rfl) (Nat.le_of_ble_eq_true rfl) hM.ob rfl (c_X12_isOffer (d := d - 1) hM hP hW (by omega)) ?_
  rintro _ h_ ⟨rfl, e_⟩
  rw [e_]
  clear e_ h_
  dsimp only [Option.toList, List.drop, List.cons_append, List.nil_append]
  refine Wp.bif_ne (tgt := 11) (n := 8) dX12_choice_5 (by decide) rfl (fun c_5 => ?_) (fun c_5 => ?_)
  · try simp only [decide_eq_true_eq, decide_eq_false_iff_not, Bool.and_eq_true, bI_0, bI_n0] at c_5
    obtain ⟨i, rfl, ho, ho2⟩ := as_nI (show 0 ≤ o.toInt ∧ o.toInt < σ.n by omega)
    have hO := hP.of i ho
    have hOw := hW.of i ho
    refine Wp.aload_n dX12_choice_11 rfl (by first | exact Or.inr ⟨_, rfl⟩ | exact Or.inl rfl) rfl ?_
    refine Wp.iload_n dX12_choice_12 rfl rfl ?_
    refine Wp.cV dX12_choice_13 cv_X12_168 rfl (by omega) rfl (Nat.le_of_ble_eq_true rfl) (Nat.le_of_ble_eq_true rfl) hM.ob rfl (c_X12_gathers (d := d - 1) hM hP hW ho (by omega)) ?_
    rintro _ h2 ⟨rfl, V2, G2, hM2, o2, k2, l1, l2⟩
    have hC2 := ChA.of l1 l2
    have hP2 := hP.kp k2
    dsimp only [Option.toList, List.drop, List.cons_append, List.nil_append]
    have hcn := chn_le σ i
    refine Wp.iload_n dX12_choice_16 rfl rfl ?_
    refine Wp.iconst (v := (nI 0)) dX12_choice_17 (by decide) rfl ?_
    refine Wp.aload_n dX12_choice_18 rfl (by first | exact Or.inr ⟨_, rfl⟩ | exact Or.inl rfl) rfl ?_
    refine Wp.get dX12_choice_19 fl_X12_150 hM2.ob hC2.1.1 rfl ?_
    refine Wp.iconst (v := (nI 1)) dX12_choice_22 (by decide) rfl ?_
    refine Wp.isub dX12_choice_23 rfl ?_
    refine Wp.cS dX12_choice_24 cs_X12_85 rfl (by omega) rfl (Nat.le_of_ble_eq_true rfl) (Nat.le_of_ble_eq_true rfl) rfl (c_X12_in (d := d - 1)) ?_
    rintro _ h_ ⟨rfl, e_⟩
    rw [e_]
    clear e_ h_
    dsimp only [Option.toList, List.drop, List.cons_append, List.nil_append]
    try simp (disch := omega) only [nI_m1, nI_tI, i_0]
    refine Wp.bif_eq (tgt := 39) (n := 30) dX12_choice_27 (by decide) rfl (fun c_27 => ?_) (fun c_27 => ?_)
    · try simp only [decide_eq_true_eq, decide_eq_false_iff_not, Bool.and_eq_true, bI_0, bI_n0] at c_27
      refine Wp.iconst (v := (-1)) dX12_choice_39 (by decide) rfl ?_
      exact Wp.iret dX12_choice_40 rfl (RQ.i (by simp (disch := omega) only [a_choice, okL, okA, okWy, okPr, isO, okTl, nI_tI, iI_tI, tn_nI, nI_m1]; (repeat' split) <;> first | (exfalso; omega) | rfl) hM2 hP2 o2)
    · try simp only [decide_eq_true_eq, decide_eq_false_iff_not, Bool.and_eq_true, bI_0, bI_n0] at c_27
      obtain ⟨j, rfl, hj, hj2⟩ := as_nI (show 0 ≤ u.toInt ∧ u.toInt < chn σ i by omega)
      refine Wp.aload_n dX12_choice_30 rfl (by first | exact Or.inr ⟨_, rfl⟩ | exact Or.inl rfl) rfl ?_
      refine Wp.get dX12_choice_31 fl_X12_57 hM2.ob (hM2.rf 21 (by decide)) rfl ?_
      refine Wp.iload_n dX12_choice_34 rfl rfl ?_
      refine Wp.iaload dX12_choice_35 (hM2.ia 21 (by decide)) (nI_toInt (by omega)) (by show _ < 4096; omega) rfl ?_
      rw [hC2.2 j hj]
      refine Wp.goto (n := 40) dX12_choice_36 (by decide) ?_
      exact Wp.iret dX12_choice_40 rfl (RQ.i (by simp (disch := omega) only [a_choice, okL, okA, okWy, okPr, isO, okTl, nI_tI, iI_tI, tn_nI, nI_m1]; (repeat' split) <;> first | (exfalso; omega) | rfl) hM2 hP2 o2)
  · try simp only [decide_eq_true_eq, decide_eq_false_iff_not, Bool.and_eq_true, bI_0, bI_n0] at c_5
    refine Wp.bipush (v := (-2)) dX12_choice_8 (by decide) rfl ?_
    exact Wp.iret dX12_choice_10 rfl (RQ.i (by simp (disch := omega) only [a_choice, okL, okA, okWy, okPr, isO, okTl, nI_tI, iI_tI, tn_nI, nI_m1]; (repeat' split) <;> first | (exfalso; omega) | rfl) hM hP (Out.rfl (x := x) (h := h)))
set_option maxHeartbeats 2000000 in
theorem c_X12_taken {B : ev_B} {d x : Nat} {h : ev_H} {V : Nat → Value} {G : Nat → Nat → Int32} {Z : Nat → Nat → Int64} {σ : Sg} {o k : Int32} (hM : MH h x V G Z) (hP : PM σ V G Z) (hW : Wf σ) (hd : 5 ≤ d) :
    Wp B d M_X12_taken 0 [some (.ref x), some (.int (o)), some (.int (k)), none] [] h (RQ x h (σ) (.int (a_taken σ o k))) := by
  have hn := hW.n
  have hT := hW.net.1
  have hL := hW.net.2.1
  refine Wp.iload_n dX12_taken_0 rfl rfl ?_
  refine Wp.iconst (v := (nI 0)) dX12_taken_1 (by decide) rfl ?_
  refine Wp.iconst (v := (nI 3)) dX12_taken_2 (by decide) rfl ?_
  refine Wp.cS dX12_taken_3 cs_X12_85 rfl (by omega) rfl (Nat.le_of_ble_eq_true rfl) (Nat.le_of_ble_eq_true rfl) rfl (c_X12_in (d := d - 1)) ?_
  rintro _ h_ ⟨rfl, e_⟩
  rw [e_]
  clear e_ h_
  dsimp only [Option.toList, List.drop, List.cons_append, List.nil_append]
  try simp (disch := omega) only [nI_m1, nI_tI, i_0]
  refine Wp.bif_ne (tgt := 12) (n := 9) dX12_taken_6 (by decide) rfl (fun c_6 => ?_) (fun c_6 => ?_)
  · try simp only [decide_eq_true_eq, decide_eq_false_iff_not, Bool.and_eq_true, bI_0, bI_n0] at c_6
    refine Wp.aload_n dX12_taken_12 rfl (by first | exact Or.inr ⟨_, rfl⟩ | exact Or.inl rfl) rfl ?_
    refine Wp.iload_n dX12_taken_13 rfl rfl ?_
    refine Wp.cV dX12_taken_14 cv_X12_115 rfl (by omega) rfl (Nat.le_of_ble_eq_true rfl) (Nat.le_of_ble_eq_true rfl) hM.ob rfl (c_X12_isOffer (d := d - 1) hM hP hW (by omega)) ?_
    rintro _ h_ ⟨rfl, e_⟩
    rw [e_]
    clear e_ h_
    dsimp only [Option.toList, List.drop, List.cons_append, List.nil_append]
    refine Wp.bif_ne (tgt := 23) (n := 20) dX12_taken_17 (by decide) rfl (fun c_17 => ?_) (fun c_17 => ?_)
    · try simp only [decide_eq_true_eq, decide_eq_false_iff_not, Bool.and_eq_true, bI_0, bI_n0] at c_17
      obtain ⟨i, rfl, ho, ho2⟩ := as_nI (show 0 ≤ o.toInt ∧ o.toInt < σ.n by omega)
      have hO := hP.of i ho
      have hOw := hW.of i ho
      obtain ⟨j, rfl, hj, hj2⟩ := as_nI (o := k) (n := 4) (by omega)
      have hkk := hOw.k
      refine Wp.iload_n dX12_taken_23 rfl rfl ?_
      refine Wp.if_eq (tgt := 52) (n := 27) dX12_taken_24 (by decide) rfl (fun c_24 => ?_) (fun c_24 => ?_)
      · try simp (disch := omega) only [nI_bit0, nI_bit1, Bool.not_eq_false, Bool.not_eq_true] at c_24
        try simp (disch := omega) only [i_lt, i_le, i_eq, l_lt, l_le, l_eq, i_0, i_m1, l_0, nI_tI, iI_tI, lI_tI, Int.not_lt, Int.not_le] at c_24
        refine Wp.iconst (v := (nI 1)) dX12_taken_52 (by decide) rfl ?_
        refine Wp.goto (n := 57) dX12_taken_53 (by decide) ?_
        refine Wp.istore_n dX12_taken_57 (Nat.le_of_ble_eq_true rfl) (by dsimp only [ev_st1, ev_st2, ev_cl] <;> rfl) rfl ?_
        refine Wp.iload_n dX12_taken_58 rfl rfl ?_
        refine Wp.if_ne (tgt := 65) (n := 62) dX12_taken_59 (by decide) rfl (fun _ => ?_) (fun c_ => absurd c_ (by decide))
        refine Wp.aload_n dX12_taken_65 rfl (by first | exact Or.inr ⟨_, rfl⟩ | exact Or.inl rfl) rfl ?_
        refine Wp.iload_n dX12_taken_66 rfl rfl ?_
        refine Wp.cV dX12_taken_67 cv_X12_168 rfl (by omega) rfl (Nat.le_of_ble_eq_true rfl) (Nat.le_of_ble_eq_true rfl) hM.ob rfl (c_X12_gathers (d := d - 1) hM hP hW ho (by omega)) ?_
        rintro _ h2 ⟨rfl, V2, G2, hM2, o2, k2, l1, l2⟩
        have hC2 := ChA.of l1 l2
        have hP2 := hP.kp k2
        dsimp only [Option.toList, List.drop, List.cons_append, List.nil_append]
        refine Wp.aload_n dX12_taken_70 rfl (by first | exact Or.inr ⟨_, rfl⟩ | exact Or.inl rfl) rfl ?_
        refine Wp.get dX12_taken_71 fl_X12_150 hM2.ob hC2.1.1 rfl ?_
        exact Wp.iret dX12_taken_74 rfl (RQ.i (by simp (disch := omega) only [a_taken, okL, okA, okWy, okPr, isO, okTl, nI_tI, iI_tI, tn_nI, nI_m1]; (repeat' split) <;> first | (exfalso; omega) | rfl) hM2 hP2 o2)
      · try simp (disch := omega) only [nI_bit0, nI_bit1, Bool.not_eq_false, Bool.not_eq_true] at c_24
        try simp (disch := omega) only [i_lt, i_le, i_eq, l_lt, l_le, l_eq, i_0, i_m1, l_0, nI_tI, iI_tI, lI_tI, Int.not_lt, Int.not_le] at c_24
        refine Wp.aload_n dX12_taken_27 rfl (by first | exact Or.inr ⟨_, rfl⟩ | exact Or.inl rfl) rfl ?_
        refine Wp.get dX12_taken_28 fl_X12_16 hM.ob (hM.rf 4 (by decide)) rfl ?_
        refine Wp.iload_n dX12_taken_31 rfl rfl ?_
        refine Wp.iaload dX12_taken_32 (hM.ia 4 (by decide)) (nI_toInt (by omega)) (by show _ < 10; omega) rfl ?_
        rw [hO.k]
        refine Wp.iload_n dX12_taken_33 rfl rfl ?_
        refine Wp.icmp_eq (tgt := 52) (n := 37) dX12_taken_34 (by decide) rfl (fun c_34 => ?_) (fun c_34 => ?_)
        · try simp (disch := omega) only [nI_bit0, nI_bit1, Bool.not_eq_false, Bool.not_eq_true] at c_34
          try simp (disch := omega) only [i_lt, i_le, i_eq, l_lt, l_le, l_eq, i_0, i_m1, l_0, nI_tI, iI_tI, lI_tI, Int.not_lt, Int.not_le] at c_34
          refine Wp.iconst (v := (nI 1)) dX12_taken_52 (by decide) rfl ?_
          refine Wp.goto (n := 57) dX12_taken_53 (by decide) ?_
          refine Wp.istore_n dX12_taken_57 (Nat.le_of_ble_eq_true rfl) (by dsimp only [ev_st1, ev_st2, ev_cl] <;> rfl) rfl ?_
          refine Wp.iload_n dX12_taken_58 rfl rfl ?_
          refine Wp.if_ne (tgt := 65) (n := 62) dX12_taken_59 (by decide) rfl (fun _ => ?_) (fun c_ => absurd c_ (by decide))
          refine Wp.aload_n dX12_taken_65 rfl (by first | exact Or.inr ⟨_, rfl⟩ | exact Or.inl rfl) rfl ?_
          refine Wp.iload_n dX12_taken_66 rfl rfl ?_
          refine Wp.cV dX12_taken_67 cv_X12_168 rfl (by omega) rfl (Nat.le_of_ble_eq_true rfl) (Nat.le_of_ble_eq_true rfl) hM.ob rfl (c_X12_gathers (d := d - 1) hM hP hW ho (by omega)) ?_
          rintro _ h2 ⟨rfl, V2, G2, hM2, o2, k2, l1, l2⟩
          have hC2 := ChA.of l1 l2
          have hP2 := hP.kp k2
          dsimp only [Option.toList, List.drop, List.cons_append, List.nil_append]
          refine Wp.aload_n dX12_taken_70 rfl (by first | exact Or.inr ⟨_, rfl⟩ | exact Or.inl rfl) rfl ?_
          refine Wp.get dX12_taken_71 fl_X12_150 hM2.ob hC2.1.1 rfl ?_
          exact Wp.iret dX12_taken_74 rfl (RQ.i (by simp (disch := omega) only [a_taken, okL, okA, okWy, okPr, isO, okTl, nI_tI, iI_tI, tn_nI, nI_m1]; (repeat' split) <;> first | (exfalso; omega) | rfl) hM2 hP2 o2)
        · try simp (disch := omega) only [nI_bit0, nI_bit1, Bool.not_eq_false, Bool.not_eq_true] at c_34
          try simp (disch := omega) only [i_lt, i_le, i_eq, l_lt, l_le, l_eq, i_0, i_m1, l_0, nI_tI, iI_tI, lI_tI, Int.not_lt, Int.not_le] at c_34
          refine Wp.aload_n dX12_taken_37 rfl (by first | exact Or.inr ⟨_, rfl⟩ | exact Or.inl rfl) rfl ?_
          refine Wp.get dX12_taken_38 fl_X12_16 hM.ob (hM.rf 4 (by decide)) rfl ?_
          refine Wp.iload_n dX12_taken_41 rfl rfl ?_
          refine Wp.iaload dX12_taken_42 (hM.ia 4 (by decide)) (nI_toInt (by omega)) (by show _ < 10; omega) rfl ?_
          rw [hO.k]
          refine Wp.iconst (v := (nI 3)) dX12_taken_43 (by decide) rfl ?_
          refine Wp.icmp_ne (tgt := 56) (n := 47) dX12_taken_44 (by decide) rfl (fun c_44 => ?_) (fun c_44 => ?_)
          · try simp (disch := omega) only [nI_bit0, nI_bit1, Bool.not_eq_false, Bool.not_eq_true] at c_44
            try simp (disch := omega) only [i_lt, i_le, i_eq, l_lt, l_le, l_eq, i_0, i_m1, l_0, nI_tI, iI_tI, lI_tI, Int.not_lt, Int.not_le] at c_44
            refine Wp.iconst (v := (nI 0)) dX12_taken_56 (by decide) rfl ?_
            refine Wp.istore_n dX12_taken_57 (Nat.le_of_ble_eq_true rfl) (by dsimp only [ev_st1, ev_st2, ev_cl] <;> rfl) rfl ?_
            refine Wp.iload_n dX12_taken_58 rfl rfl ?_
            refine Wp.if_ne (tgt := 65) (n := 62) dX12_taken_59 (by decide) rfl (fun c_ => absurd c_ (by decide)) (fun _ => ?_)
            refine Wp.bipush (v := (-13)) dX12_taken_62 (by decide) rfl ?_
            exact Wp.iret dX12_taken_64 rfl (RQ.i (by simp (disch := omega) only [a_taken, okL, okA, okWy, okPr, isO, okTl, nI_tI, iI_tI, tn_nI, nI_m1]; (repeat' split) <;> first | (exfalso; omega) | rfl) hM hP (Out.rfl (x := x) (h := h)))
          · try simp (disch := omega) only [nI_bit0, nI_bit1, Bool.not_eq_false, Bool.not_eq_true] at c_44
            try simp (disch := omega) only [i_lt, i_le, i_eq, l_lt, l_le, l_eq, i_0, i_m1, l_0, nI_tI, iI_tI, lI_tI, Int.not_lt, Int.not_le] at c_44
            refine Wp.iload_n dX12_taken_47 rfl rfl ?_
            refine Wp.iconst (v := (nI 1)) dX12_taken_48 (by decide) rfl ?_
            refine Wp.icmp_ne (tgt := 56) (n := 52) dX12_taken_49 (by decide) rfl (fun c_49 => ?_) (fun c_49 => ?_)
            · try simp (disch := omega) only [nI_bit0, nI_bit1, Bool.not_eq_false, Bool.not_eq_true] at c_49
              try simp (disch := omega) only [i_lt, i_le, i_eq, l_lt, l_le, l_eq, i_0, i_m1, l_0, nI_tI, iI_tI, lI_tI, Int.not_lt, Int.not_le] at c_49
              refine Wp.iconst (v := (nI 0)) dX12_taken_56 (by decide) rfl ?_
              refine Wp.istore_n dX12_taken_57 (Nat.le_of_ble_eq_true rfl) (by dsimp only [ev_st1, ev_st2, ev_cl] <;> rfl) rfl ?_
              refine Wp.iload_n dX12_taken_58 rfl rfl ?_
              refine Wp.if_ne (tgt := 65) (n := 62) dX12_taken_59 (by decide) rfl (fun c_ => absurd c_ (by decide)) (fun _ => ?_)
              refine Wp.bipush (v := (-13)) dX12_taken_62 (by decide) rfl ?_
              exact Wp.iret dX12_taken_64 rfl (RQ.i (by simp (disch := omega) only [a_taken, okL, okA, okWy, okPr, isO, okTl, nI_tI, iI_tI, tn_nI, nI_m1]; (repeat' split) <;> first | (exfalso; omega) | rfl) hM hP (Out.rfl (x := x) (h := h)))
            · try simp (disch := omega) only [nI_bit0, nI_bit1, Bool.not_eq_false, Bool.not_eq_true] at c_49
              try simp (disch := omega) only [i_lt, i_le, i_eq, l_lt, l_le, l_eq, i_0, i_m1, l_0, nI_tI, iI_tI, lI_tI, Int.not_lt, Int.not_le] at c_49
              refine Wp.iconst (v := (nI 1)) dX12_taken_52 (by decide) rfl ?_
              refine Wp.goto (n := 57) dX12_taken_53 (by decide) ?_
              refine Wp.istore_n dX12_taken_57 (Nat.le_of_ble_eq_true rfl) (by dsimp only [ev_st1, ev_st2, ev_cl] <;> rfl) rfl ?_
              refine Wp.iload_n dX12_taken_58 rfl rfl ?_
              refine Wp.if_ne (tgt := 65) (n := 62) dX12_taken_59 (by decide) rfl (fun _ => ?_) (fun c_ => absurd c_ (by decide))
              refine Wp.aload_n dX12_taken_65 rfl (by first | exact Or.inr ⟨_, rfl⟩ | exact Or.inl rfl) rfl ?_
              refine Wp.iload_n dX12_taken_66 rfl rfl ?_
              refine Wp.cV dX12_taken_67 cv_X12_168 rfl (by omega) rfl (Nat.le_of_ble_eq_true rfl) (Nat.le_of_ble_eq_true rfl) hM.ob rfl (c_X12_gathers (d := d - 1) hM hP hW ho (by omega)) ?_
              rintro _ h2 ⟨rfl, V2, G2, hM2, o2, k2, l1, l2⟩
              have hC2 := ChA.of l1 l2
              have hP2 := hP.kp k2
              dsimp only [Option.toList, List.drop, List.cons_append, List.nil_append]
              refine Wp.aload_n dX12_taken_70 rfl (by first | exact Or.inr ⟨_, rfl⟩ | exact Or.inl rfl) rfl ?_
              refine Wp.get dX12_taken_71 fl_X12_150 hM2.ob hC2.1.1 rfl ?_
              exact Wp.iret dX12_taken_74 rfl (RQ.i (by simp (disch := omega) only [a_taken, okL, okA, okWy, okPr, isO, okTl, nI_tI, iI_tI, tn_nI, nI_m1]; (repeat' split) <;> first | (exfalso; omega) | rfl) hM2 hP2 o2)
    · try simp only [decide_eq_true_eq, decide_eq_false_iff_not, Bool.and_eq_true, bI_0, bI_n0] at c_17
      refine Wp.bipush (v := (-11)) dX12_taken_20 (by decide) rfl ?_
      exact Wp.iret dX12_taken_22 rfl (RQ.i (by simp (disch := omega) only [a_taken, okL, okA, okWy, okPr, isO, okTl, nI_tI, iI_tI, tn_nI, nI_m1]; (repeat' split) <;> first | (exfalso; omega) | rfl) hM hP (Out.rfl (x := x) (h := h)))
  · try simp only [decide_eq_true_eq, decide_eq_false_iff_not, Bool.and_eq_true, bI_0, bI_n0] at c_6
    refine Wp.bipush (v := (-2)) dX12_taken_9 (by decide) rfl ?_
    exact Wp.iret dX12_taken_11 rfl (RQ.i (by simp (disch := omega) only [a_taken, okL, okA, okWy, okPr, isO, okTl, nI_tI, iI_tI, tn_nI, nI_m1]; (repeat' split) <;> first | (exfalso; omega) | rfl) hM hP (Out.rfl (x := x) (h := h)))
