/-! the reference's public methods: its net -/
/-- a public method of the reference has ended: its answer, its state -/
def RQ (x : Nat) (h : ev_H) (σ' : Sg) (a : Value) (v : Option Value) (h' : ev_H) : Prop := v = some a ∧ ∃ (V' : Nat → Value) (G' : Nat → Nat → Int32) (Z' : Nat → Nat → Int64), MH h' x V' G' Z' ∧ PM σ' V' G' Z' ∧ Out x h h'
theorem RQ.i {x : Nat} {h h' : ev_H} {σ : Sg} {a b : Int32} {V : Nat → Value} {G : Nat → Nat → Int32} {Z : Nat → Nat → Int64} (e : b = a) (hM : MH h' x V G Z) (hP : PM σ V G Z) (hO : Out x h h') : RQ x h σ (.int a) (some (.int b)) h' := ⟨by rw [e], V, G, Z, hM, hP, hO⟩
theorem RQ.l {x : Nat} {h h' : ev_H} {σ : Sg} {a b : Int64} {V : Nat → Value} {G : Nat → Nat → Int32} {Z : Nat → Nat → Int64} (e : b = a) (hM : MH h' x V G Z) (hP : PM σ V G Z) (hO : Out x h h') : RQ x h σ (.long a) (some (.long b)) h' := ⟨by rw [e], V, G, Z, hM, hP, hO⟩
def tn (x : Int32) : Nat := x.toInt.toNat
theorem tn_nI {n : Nat} (h : n < 2147483648) : tn (nI n) = n := by rw [tn, nI_tI h]; omega
theorem tn_at {x : Int32} (h : 0 ≤ x.toInt) : x = nI (tn x) := by
  rw [nI_iI, tn, Int.toNat_of_nonneg h]; exact iI_of x
theorem NetG.copy {g g' : Nat → Int32} {N : Nt} (h : NetG g N) (hL : N.L ≤ 12) (e : ∀ i, i < 50 → g' i = g i) : NetG g' N :=
  ⟨(e 0 (by omega)).trans h.T, (e 1 (by omega)).trans h.L, fun l hl => (e _ (by omega)).trans (h.fr l hl), fun l hl => (e _ (by omega)).trans (h.to l hl), fun l hl => (e _ (by omega)).trans (h.sa l hl), fun l hl => (e _ (by omega)).trans (h.ri l hl)⟩
/-- another net, another change that can be undone -/
def Sg.net (σ : Sg) (N : Nt) (U al : Nat) (sb rb : Int) : Sg := Sg.mk N U al sb rb σ.n σ.O σ.p1 σ.q1 σ.p2 σ.q2 σ.nR σ.rv σ.nT σ.tr σ.so σ.sz σ.ce
theorem PM.chg {σ : Sg} {V V' : Nat → Value} {G G' : Nat → Nat → Int32} {Z : Nat → Nat → Int64} {N : Nt} {U al : Nat} {sb rb : Int} (a : PM σ V G Z) (v : ∀ k, k ≠ 2 → V' k = V k) (g : ∀ k, 2 ≤ k → G' k = G k) (h0 : NetG (G' 0) N) (h1 : U ≠ 0 → NetG (G' 1) (σ.net N U al sb rb).B) (h2 : V' 2 = .int (bI (decide (U ≠ 0)))) : PM (σ.net N U al sb rb) V' G' Z := by
  refine ⟨h0, h1, h2, ?_, ?_, ?_, ?_, ?_, ?_, ?_, ?_, ?_, ?_, ?_, ?_, ?_⟩
  · rw [v 3 (by decide)]; exact a.nn
  · intro i hi
    have q := a.of i hi
    refine ⟨?_, ?_, ?_, ?_, ?_⟩
    · rw [g 4 (by decide)]; exact q.k
    · rw [g 5 (by decide)]; exact q.f
    · rw [g 6 (by decide)]; exact q.s
    · rw [g 7 (by decide)]; exact q.m
    · rw [g 8 (by decide)]; exact q.su
  · rw [v 9 (by decide)]; exact a.w1
  · rw [v 10 (by decide)]; exact a.w2
  · rw [v 11 (by decide)]; exact a.w3
  · rw [v 12 (by decide)]; exact a.w4
  · rw [v 13 (by decide)]; exact a.nR
  · exact a.rv
  · rw [v 16 (by decide)]; exact a.nT
  · rw [g 15 (by decide)]; exact a.tr
  · rw [g 17 (by decide)]; exact a.so
  · rw [g 18 (by decide)]; exact a.sz
  · exact a.ce
theorem nI_4k {l k : Nat} (hl : l < 12) (hk : k < 100) : (nI k + nI 4 * nI l).toInt = ((k + 4 * l : Nat) : Int) := nI_46 k hl hk
theorem nI_24 {l k : Nat} (hl : l < 12) (hk : k < 4) : (nI (2 + 4 * l) + nI k).toInt = ((2 + 4 * l + k : Nat) : Int) := by rw [nI_add]; exact nI_toInt (by omega)
theorem nI_24s {l : Nat} : nI 2 + nI 4 * nI l = nI (2 + 4 * l) := by rw [pk_mul, nI_add]
/-- a net with one thing more; with one line more; with a line's numbers altered -/
def Nt.pT (N : Nt) : Nt := Nt.mk (N.T + 1) N.L N.fr N.to N.sa N.ri
def Nt.pL (N : Nt) (a b : Nat) (s r : Int) : Nt := Nt.mk N.T (N.L + 1) (updN N.fr N.L a) (updN N.to N.L b) (updZ N.sa N.L s) (updZ N.ri N.L r)
def Nt.al (N : Nt) (l : Nat) (s r : Int) : Nt := Nt.mk N.T N.L N.fr N.to (updZ N.sa l s) (updZ N.ri l r)
def Nt.mL (N : Nt) : Nt := Nt.mk N.T (N.L - 1) N.fr N.to N.sa N.ri
abbrev okL (σ : Sg) (a b s r : Int32) : Prop := (0 ≤ a.toInt ∧ a.toInt < σ.N.T) ∧ (0 ≤ b.toInt ∧ b.toInt < σ.N.T) ∧ a.toInt ≠ b.toInt ∧ (-100 ≤ s.toInt ∧ s.toInt ≤ 100) ∧ -20 ≤ r.toInt ∧ r.toInt ≤ 20
abbrev okA (σ : Sg) (l s r : Int32) : Prop := (0 ≤ l.toInt ∧ l.toInt < σ.N.L) ∧ (-100 ≤ s.toInt ∧ s.toInt ≤ 100) ∧ -20 ≤ r.toInt ∧ r.toInt ≤ 20
def a_thing (σ : Sg) : Int32 := if σ.N.T = 7 then -4 else nI σ.N.T
def t_thing (σ : Sg) : Sg := if σ.N.T = 7 then σ else σ.net σ.N.pT 1 σ.al σ.sb σ.rb
def a_line (σ : Sg) (a b s r : Int32) : Int32 := if okL σ a b s r then (if σ.N.L = 12 then -4 else nI σ.N.L) else -2
def t_line (σ : Sg) (a b s r : Int32) : Sg := if okL σ a b s r ∧ σ.N.L ≠ 12 then σ.net (σ.N.pL (tn a) (tn b) s.toInt r.toInt) 2 σ.al σ.sb σ.rb else σ
def a_alter (σ : Sg) (l s r : Int32) : Int32 := if okA σ l s r then 1 else -2
def t_alter (σ : Sg) (l s r : Int32) : Sg := if okA σ l s r then σ.net (σ.N.al (tn l) s.toInt r.toInt) 3 (tn l) (σ.N.sa (tn l)) (σ.N.ri (tn l)) else σ
def a_close (σ : Sg) : Int32 := if σ.N.L = 0 then -3 else nI (σ.N.L - 1)
def t_close (σ : Sg) : Sg := if σ.N.L = 0 then σ else σ.net σ.N.mL 4 σ.al σ.sb σ.rb
/-- an offer keeps its things in a net of T things -/
def okO (T : Nat) (o : Of) : Bool := decide ((o.k = 2 → o.f < T ∧ o.s < T) ∧ (o.k = 3 → o.f < 2 ^ T))
def okU (σ : Sg) : Nat → Bool
  | 0 => true
  | i + 1 => okU σ i && okO σ.B.T (σ.O i)
def a_undo (σ : Sg) : Int32 := if σ.U ≠ 0 ∧ okU σ σ.n = true then 1 else -3
def t_undo (σ : Sg) : Sg := if σ.U ≠ 0 ∧ okU σ σ.n = true then σ.net σ.B 0 σ.al σ.sb σ.rb else σ
def lnN (N : Nt) (l w : Nat) : Int := if w = 0 then N.fr l else if w = 1 then N.to l else if w = 2 then N.sa l else N.ri l
def a_lineTold (σ : Sg) (l w : Int32) : Int32 := if 0 ≤ w.toInt ∧ w.toInt ≤ 3 then (if 0 ≤ l.toInt ∧ l.toInt < σ.N.L then iI (lnN σ.N (tn l) (tn w)) else -1) else -2
theorem NetG.pT {g : Nat → Int32} {N : Nt} (h : NetG g N) : NetG (upd g 0 (nI (N.T + 1))) N.pT :=
  ⟨by simp [upd, Nt.pT, Nt.T, Nt.mk], by simp only [upd]; exact h.L, fun l hl => by simp only [upd]; rw [if_neg (by omega)]; exact h.fr l hl, fun l hl => by simp only [upd]; rw [if_neg (by omega)]; exact h.to l hl, fun l hl => by simp only [upd]; rw [if_neg (by omega)]; exact h.sa l hl, fun l hl => by simp only [upd]; rw [if_neg (by omega)]; exact h.ri l hl⟩
theorem c_X12_keeps {B : ev_B} {d x : Nat} {h : ev_H} {V : Nat → Value} {G : Nat → Nat → Int32} {Z : Nat → Nat → Int64} (hM : MH h x V G Z) :
    Wp B d M_X12_keeps 0 [some (.ref x), none] [] h (fun v h' => v = none ∧ ∃ V' G', MH h' x V' G' Z ∧ Out x h h' ∧ (∀ i, i < 50 → G' 1 i = G 0 i) ∧ (∀ k, k ≠ 1 → G' k = G k) ∧ V' 2 = .int (nI 1) ∧ ∀ k, k ≠ 2 → V' k = V k) := by
  have loop : ∀ i, i ≤ 50 → ∀ (hh : ev_H) (Gi : Nat → Nat → Int32), MH hh x V Gi Z → Out x h hh → (∀ k, k ≠ 1 → Gi k = G k) → (∀ j, j < i → Gi 1 j = G 0 j) → Wp B d M_X12_keeps 2 [some (.ref x), some (.int (nI i))] [] hh (fun v h' => v = none ∧ ∃ V' G', MH h' x V' G' Z ∧ Out x h h' ∧ (∀ i, i < 50 → G' 1 i = G 0 i) ∧ (∀ k, k ≠ 1 → G' k = G k) ∧ V' 2 = .int (nI 1) ∧ ∀ k, k ≠ 2 → V' k = V k) := by
    refine ev_upl 50 (fun i hi ih => ?_) ?_
    · intro hh Gi hMi hOi hg hc
      refine Wp.iload_n dX12_keeps_2 rfl rfl ?_
      refine Wp.bipush (v := (nI 50)) dX12_keeps_3 (by decide) rfl ?_
      refine Wp.icmp_ge (tgt := 26) (n := 8) dX12_keeps_5 (by decide) rfl (fun c_5 => ?_) (fun c_5 => ?_)
      · try simp (disch := omega) only [nI_bit0, nI_bit1, Bool.not_eq_false, Bool.not_eq_true] at c_5
        try simp (disch := omega) only [i_lt, i_le, i_eq, l_lt, l_le, l_eq, i_0, i_m1, l_0, nI_tI, iI_tI, lI_tI, Int.not_lt, Int.not_le] at c_5
        omega
      · try simp (disch := omega) only [nI_bit0, nI_bit1, Bool.not_eq_false, Bool.not_eq_true] at c_5
        try simp (disch := omega) only [i_lt, i_le, i_eq, l_lt, l_le, l_eq, i_0, i_m1, l_0, nI_tI, iI_tI, lI_tI, Int.not_lt, Int.not_le] at c_5
        refine Wp.aload_n dX12_keeps_8 rfl (by first | exact Or.inr ⟨_, rfl⟩ | exact Or.inl rfl) rfl ?_
        refine Wp.get dX12_keeps_9 fl_X12_13 hMi.ob (hMi.rf 1 (by decide)) rfl ?_
        refine Wp.iload_n dX12_keeps_12 rfl rfl ?_
        refine Wp.aload_n dX12_keeps_13 rfl (by first | exact Or.inr ⟨_, rfl⟩ | exact Or.inl rfl) rfl ?_
        refine Wp.get dX12_keeps_14 fl_X12_7 hMi.ob (hMi.rf 0 (by decide)) rfl ?_
        refine Wp.iload_n dX12_keeps_17 rfl rfl ?_
        refine Wp.iaload dX12_keeps_18 (hMi.ia 0 (by decide)) (nI_toInt (by omega)) (by show _ < 50; omega) rfl ?_
        refine Wp.iastore dX12_keeps_19 (hMi.ia 1 (by decide)) (nI_toInt (by omega)) (by show _ < 50; omega) rfl ?_
        refine hMi.sti (k := 1) (by decide) ?_
        intro h19 G19 hM19 o19 e19 f19
        have out19 := hOi.trans o19
        refine Wp.iinc (v := _ + (nI 1)) dX12_keeps_20 rfl rfl (Nat.le_of_ble_eq_true rfl) (by dsimp only [ev_st1, ev_cl] <;> rfl) rfl ?_
        refine Wp.goto (n := 2) dX12_keeps_23 (by decide) ?_
        rw [nI_add1]
        refine ih _ _ hM19 out19 (fun k hk => (f19 k hk).trans (hg k hk)) (fun j hj => ?_)
        rw [e19]
        simp only [upd]
        split
        · next e => rw [e, hg 0 (by decide)]
        · exact hc j (by omega)
    · intro hh Gi hMi hOi hg hc
      refine Wp.iload_n dX12_keeps_2 rfl rfl ?_
      refine Wp.bipush (v := (nI 50)) dX12_keeps_3 (by decide) rfl ?_
      refine Wp.icmp_ge (tgt := 26) (n := 8) dX12_keeps_5 (by decide) rfl (fun c_5 => ?_) (fun c_5 => ?_)
      · try simp (disch := omega) only [nI_bit0, nI_bit1, Bool.not_eq_false, Bool.not_eq_true] at c_5
        try simp (disch := omega) only [i_lt, i_le, i_eq, l_lt, l_le, l_eq, i_0, i_m1, l_0, nI_tI, iI_tI, lI_tI, Int.not_lt, Int.not_le] at c_5
        refine Wp.aload_n dX12_keeps_26 rfl (by first | exact Or.inr ⟨_, rfl⟩ | exact Or.inl rfl) rfl ?_
        refine Wp.iconst (v := (nI 1)) dX12_keeps_27 (by decide) rfl ?_
        refine Wp.put dX12_keeps_28 fp_X12_96 hMi.ob rfl rfl rfl ?_
        refine hMi.put (k := 2) (by decide) ?_
        intro h28 V28 hM28 o28 e28 f28
        have out28 := hOi.trans o28
        exact Wp.vret dX12_keeps_31 rfl (by exact ⟨rfl, _, _, hM28, out28, hc, hg, e28, f28⟩)
      · try simp (disch := omega) only [nI_bit0, nI_bit1, Bool.not_eq_false, Bool.not_eq_true] at c_5
        try simp (disch := omega) only [i_lt, i_le, i_eq, l_lt, l_le, l_eq, i_0, i_m1, l_0, nI_tI, iI_tI, lI_tI, Int.not_lt, Int.not_le] at c_5
        omega
  refine Wp.iconst (v := (nI 0)) dX12_keeps_0 (by decide) rfl ?_
  refine Wp.istore_n dX12_keeps_1 (Nat.le_of_ble_eq_true rfl) (by dsimp only [ev_st1, ev_st2, ev_cl] <;> rfl) rfl ?_
  exact loop 0 (by omega) h G hM Out.rfl (fun _ _ => rfl) (fun j hj => absurd hj (Nat.not_lt_zero j))
theorem c_X12_thing {B : ev_B} {d x : Nat} {h : ev_H} {V : Nat → Value} {G : Nat → Nat → Int32} {Z : Nat → Nat → Int64} {σ : Sg} (hM : MH h x V G Z) (hP : PM σ V G Z) (hW : Wf σ) (hd : 2 ≤ d) :
    Wp B d M_X12_thing 0 [some (.ref x)] [] h (RQ x h (t_thing σ) (.int (a_thing σ))) := by
  have hn := hW.n
  have hT := hW.net.1
  have hL := hW.net.2.1
  refine Wp.aload_n dX12_thing_0 rfl (by first | exact Or.inr ⟨_, rfl⟩ | exact Or.inl rfl) rfl ?_
  refine Wp.cV dX12_thing_1 cv_X12_82 rfl (by omega) rfl (Nat.le_of_ble_eq_true rfl) (Nat.le_of_ble_eq_true rfl) hM.ob rfl (c_X12_things (d := d - 1) (hM.net hP.net) hW.net) ?_
  rintro _ h_ ⟨rfl, e_⟩
  rw [e_]
  clear e_ h_
  dsimp only [Option.toList, List.drop, List.cons_append, List.nil_append]
  refine Wp.bipush (v := (nI 7)) dX12_thing_4 (by decide) rfl ?_
  refine Wp.icmp_ne (tgt := 12) (n := 9) dX12_thing_6 (by decide) rfl (fun c_6 => ?_) (fun c_6 => ?_)
  · try simp (disch := omega) only [nI_bit0, nI_bit1, Bool.not_eq_false, Bool.not_eq_true] at c_6
    try simp (disch := omega) only [i_lt, i_le, i_eq, l_lt, l_le, l_eq, i_0, i_m1, l_0, nI_tI, iI_tI, lI_tI, Int.not_lt, Int.not_le] at c_6
    refine Wp.aload_n dX12_thing_12 rfl (by first | exact Or.inr ⟨_, rfl⟩ | exact Or.inl rfl) rfl ?_
    refine Wp.cV dX12_thing_13 cv_X12_100 rfl (by omega) rfl (Nat.le_of_ble_eq_true rfl) (Nat.le_of_ble_eq_true rfl) hM.ob rfl (c_X12_keeps (d := d - 1) hM) ?_
    rintro _ h1 ⟨rfl, V1, G1, hM1, o1, g1, g2, v2, v3⟩
    dsimp only [Option.toList, List.drop, List.cons_append, List.nil_append]
    have hb1 : NetG (G1 1) σ.N := hP.net.copy hL g1
    have hg0 : NetG (G1 0) σ.N := by rw [g2 0 (by decide)]; exact hP.net
    refine Wp.aload_n dX12_thing_16 rfl (by first | exact Or.inr ⟨_, rfl⟩ | exact Or.inl rfl) rfl ?_
    refine Wp.get dX12_thing_17 fl_X12_7 hM1.ob (hM1.rf 0 (by decide)) rfl ?_
    refine Wp.iconst (v := (nI 0)) dX12_thing_20 (by decide) rfl ?_
    refine Wp.dup2 dX12_thing_21 rfl rfl rfl ?_
    refine Wp.iaload dX12_thing_22 (hM1.ia 0 (by decide)) (j := 0) (by decide) (by show _ < 50; omega) rfl ?_
    rw [hg0.T]
    refine Wp.iconst (v := (nI 1)) dX12_thing_23 (by decide) rfl ?_
    refine Wp.iadd dX12_thing_24 rfl ?_
    rw [nI_add1]
    refine Wp.iastore dX12_thing_25 (hM1.ia 0 (by decide)) (j := 0) (by decide) (by show _ < 50; omega) rfl ?_
    refine hM1.sti (k := 0) (by decide) ?_
    intro h25 G25 hM25 o25 e25 f25
    have out25 := o1.trans o25
    refine Wp.aload_n dX12_thing_26 rfl (by first | exact Or.inr ⟨_, rfl⟩ | exact Or.inl rfl) rfl ?_
    refine Wp.get dX12_thing_27 fl_X12_7 hM25.ob (hM25.rf 0 (by decide)) rfl ?_
    refine Wp.iconst (v := (nI 0)) dX12_thing_30 (by decide) rfl ?_
    refine Wp.iaload dX12_thing_31 (hM25.ia 0 (by decide)) (j := 0) (by decide) (by show _ < 50; omega) rfl ?_
    rw [e25]
    simp only [upd, if_true]
    refine Wp.iconst (v := (nI 1)) dX12_thing_32 (by decide) rfl ?_
    refine Wp.isub dX12_thing_33 rfl ?_
    exact Wp.iret dX12_thing_34 rfl (RQ.i (by rw [a_thing, if_neg (by omega), pk_sub (by omega)]; rfl) hM25 (by rw [t_thing, if_neg (by omega)]; exact hP.chg v3 (fun k hk => (f25 k (by omega)).trans (g2 k (by omega))) (by rw [e25]; exact hg0.pT) (fun _ => by rw [f25 1 (by decide)]; exact hb1) v2) out25)
  · try simp (disch := omega) only [nI_bit0, nI_bit1, Bool.not_eq_false, Bool.not_eq_true] at c_6
    try simp (disch := omega) only [i_lt, i_le, i_eq, l_lt, l_le, l_eq, i_0, i_m1, l_0, nI_tI, iI_tI, lI_tI, Int.not_lt, Int.not_le] at c_6
    refine Wp.bipush (v := (-4)) dX12_thing_9 (by decide) rfl ?_
    exact Wp.iret dX12_thing_11 rfl (RQ.i (by simp (disch := omega) only [a_thing, okL, okA, nI_tI, iI_tI, tn_nI, nI_m1]; (repeat' split) <;> first | rfl | (exfalso; omega)) hM (by unfold t_thing; (repeat' split) <;> first | exact hP | (exfalso; (try simp (disch := omega) only [okL, okA, nI_tI, tn_nI] at *); omega)) (Out.rfl (x := x) (h := h)))
theorem NetG.pL {g g' : Nat → Int32} {N : Nt} {a b : Nat} {s r : Int} (h : NetG g N) (e0 : g' 0 = g 0) (e1 : g' 1 = nI (N.L + 1)) (e2 : g' (2 + 4 * N.L) = nI a) (e3 : g' (3 + 4 * N.L) = nI b) (e4 : g' (4 + 4 * N.L) = iI s) (e5 : g' (5 + 4 * N.L) = iI r) (e : ∀ i, 2 ≤ i → i < 2 + 4 * N.L → g' i = g i) : NetG g' (N.pL a b s r) := by
  refine ⟨e0.trans h.T, e1, fun l hl => ?_, fun l hl => ?_, fun l hl => ?_, fun l hl => ?_⟩
  · show g' (2 + 4 * l) = nI (updN N.fr N.L a l)
    have hl' : l < N.L + 1 := hl
    unfold updN
    split
    · next h => rw [h]; exact e2
    · rw [e _ (by omega) (by omega)]; exact h.fr l (by omega)
  · show g' (3 + 4 * l) = nI (updN N.to N.L b l)
    have hl' : l < N.L + 1 := hl
    unfold updN
    split
    · next h => rw [h]; exact e3
    · rw [e _ (by omega) (by omega)]; exact h.to l (by omega)
  · show g' (4 + 4 * l) = iI (updZ N.sa N.L s l)
    have hl' : l < N.L + 1 := hl
    unfold updZ
    split
    · next h => rw [h]; exact e4
    · rw [e _ (by omega) (by omega)]; exact h.sa l (by omega)
  · show g' (5 + 4 * l) = iI (updZ N.ri N.L r l)
    have hl' : l < N.L + 1 := hl
    unfold updZ
    split
    · next h => rw [h]; exact e5
    · rw [e _ (by omega) (by omega)]; exact h.ri l (by omega)
theorem NetG.al {g g' : Nat → Int32} {N : Nt} {l : Nat} {s r : Int} (h : NetG g N) (e4 : g' (4 + 4 * l) = iI s) (e5 : g' (5 + 4 * l) = iI r) (e : ∀ i, i ≠ 4 + 4 * l → i ≠ 5 + 4 * l → g' i = g i) : NetG g' (N.al l s r) := by
  refine ⟨(e 0 (by omega) (by omega)).trans h.T, (e 1 (by omega) (by omega)).trans h.L, fun k hk => (e _ (by omega) (by omega)).trans (h.fr k hk), fun k hk => (e _ (by omega) (by omega)).trans (h.to k hk), fun k hk => ?_, fun k hk => ?_⟩
  · show g' (4 + 4 * k) = iI (updZ N.sa l s k)
    unfold updZ
    split
    · next h => rw [h]; exact e4
    · rw [e _ (by omega) (by omega)]; exact h.sa k hk
  · show g' (5 + 4 * k) = iI (updZ N.ri l r k)
    unfold updZ
    split
    · next h => rw [h]; exact e5
    · rw [e _ (by omega) (by omega)]; exact h.ri k hk
theorem NetG.mL {g : Nat → Int32} {N : Nt} (h : NetG g N) : NetG (upd g 1 (nI (N.L - 1))) N.mL :=
  ⟨by simp only [upd]; exact h.T, by simp [upd, Nt.mL, Nt.L, Nt.mk], fun l hl => by have hl' : l < N.L - 1 := hl; simp only [upd]; rw [if_neg (by omega)]; exact h.fr l (by omega), fun l hl => by have hl' : l < N.L - 1 := hl; simp only [upd]; rw [if_neg (by omega)]; exact h.to l (by omega), fun l hl => by have hl' : l < N.L - 1 := hl; simp only [upd]; rw [if_neg (by omega)]; exact h.sa l (by omega), fun l hl => by have hl' : l < N.L - 1 := hl; simp only [upd]; rw [if_neg (by omega)]; exact h.ri l (by omega)⟩
/-- a net whose first L lines are as another one's -/
def NtE (N N' : Nt) : Prop := N'.T = N.T ∧ N'.L = N.L ∧ ∀ l, l < N.L → N'.fr l = N.fr l ∧ N'.to l = N.to l ∧ N'.sa l = N.sa l ∧ N'.ri l = N.ri l
theorem NetG.E {g : Nat → Int32} {N N' : Nt} (h : NetG g N) (e : NtE N N') : NetG g N' := by
  obtain ⟨e1, e2, e3⟩ := e
  refine ⟨by rw [e1]; exact h.T, by rw [e2]; exact h.L, fun l hl => ?_, fun l hl => ?_, fun l hl => ?_, fun l hl => ?_⟩ <;> rw [e2] at hl
  · rw [(e3 l hl).1]; exact h.fr l hl
  · rw [(e3 l hl).2.1]; exact h.to l hl
  · rw [(e3 l hl).2.2.1]; exact h.sa l hl
  · rw [(e3 l hl).2.2.2]; exact h.ri l hl
theorem B_pL {σ : Sg} {a b al : Nat} {s r sb rb : Int} : NtE σ.N (σ.net (σ.N.pL a b s r) 2 al sb rb).B := by
  refine ⟨rfl, rfl, fun l hl => ?_⟩
  have hne : l ≠ σ.N.L := by omega
  refine ⟨?_, ?_, ?_, ?_⟩
  · show updN σ.N.fr σ.N.L a l = _; simp [updN, hne]
  · show updN σ.N.to σ.N.L b l = _; simp [updN, hne]
  · show updZ σ.N.sa σ.N.L s l = _; simp [updZ, hne]
  · show updZ σ.N.ri σ.N.L r l = _; simp [updZ, hne]
theorem B_al {σ : Sg} {l : Nat} {s r : Int} : NtE σ.N (σ.net (σ.N.al l s r) 3 l (σ.N.sa l) (σ.N.ri l)).B := by
  refine ⟨rfl, rfl, fun k hk => ⟨rfl, rfl, ?_, ?_⟩⟩
  · show updZ (updZ σ.N.sa l s) l (σ.N.sa l) k = _
    by_cases h : k = l <;> simp [updZ, h]
  · show updZ (updZ σ.N.ri l r) l (σ.N.ri l) k = _
    by_cases h : k = l <;> simp [updZ, h]
theorem B_mL {σ : Sg} {al : Nat} {sb rb : Int} (h : σ.N.L ≠ 0) : NtE σ.N (σ.net σ.N.mL 4 al sb rb).B := by
  refine ⟨rfl, ?_, fun l hl => ⟨rfl, rfl, rfl, rfl⟩⟩
  show σ.N.L - 1 + 1 = σ.N.L
  omega
set_option maxHeartbeats 2000000 in
theorem c_X12_line {B : ev_B} {d x : Nat} {h : ev_H} {V : Nat → Value} {G : Nat → Nat → Int32} {Z : Nat → Nat → Int64} {σ : Sg} {a b s r : Int32} (hM : MH h x V G Z) (hP : PM σ V G Z) (hW : Wf σ) (hd : 2 ≤ d) :
    Wp B d M_X12_line 0 [some (.ref x), some (.int (a)), some (.int (b)), some (.int (s)), some (.int (r)), none] [] h (RQ x h (t_line σ a b s r) (.int (a_line σ a b s r))) := by
  have hn := hW.n
  have hT := hW.net.1
  have hL := hW.net.2.1
  refine Wp.aload_n dX12_line_0 rfl (by first | exact Or.inr ⟨_, rfl⟩ | exact Or.inl rfl) rfl ?_
  refine Wp.iload_n dX12_line_1 rfl rfl ?_
  refine Wp.cV dX12_line_2 cv_X12_103 rfl (by omega) rfl (Nat.le_of_ble_eq_true rfl) (Nat.le_of_ble_eq_true rfl) hM.ob rfl (c_X12_isThing (d := d - 1) (hM.net hP.net) hW.net (by omega)) ?_
  rintro _ h_ ⟨rfl, e_⟩
  rw [e_]
  clear e_ h_
  dsimp only [Option.toList, List.drop, List.cons_append, List.nil_append]
  refine Wp.bif_eq (tgt := 30) (n := 8) dX12_line_5 (by decide) rfl (fun c_5 => ?_) (fun c_5 => ?_)
  · try simp only [decide_eq_true_eq, decide_eq_false_iff_not, Bool.and_eq_true, bI_0, bI_n0] at c_5
    refine Wp.bipush (v := (-2)) dX12_line_30 (by decide) rfl ?_
    exact Wp.iret dX12_line_32 rfl (RQ.i (by simp (disch := omega) only [a_line, okL, okA, nI_tI, iI_tI, tn_nI, nI_m1]; (repeat' split) <;> first | rfl | (exfalso; omega)) hM (by unfold t_line; (repeat' split) <;> first | exact hP | (exfalso; (try simp (disch := omega) only [okL, okA, nI_tI, tn_nI] at *); omega)) (Out.rfl (x := x) (h := h)))
  · try simp only [decide_eq_true_eq, decide_eq_false_iff_not, Bool.and_eq_true, bI_0, bI_n0] at c_5
    refine Wp.aload_n dX12_line_8 rfl (by first | exact Or.inr ⟨_, rfl⟩ | exact Or.inl rfl) rfl ?_
    refine Wp.iload_n dX12_line_9 rfl rfl ?_
    refine Wp.cV dX12_line_10 cv_X12_103 rfl (by omega) rfl (Nat.le_of_ble_eq_true rfl) (Nat.le_of_ble_eq_true rfl) hM.ob rfl (c_X12_isThing (d := d - 1) (hM.net hP.net) hW.net (by omega)) ?_
    rintro _ h_ ⟨rfl, e_⟩
    rw [e_]
    clear e_ h_
    dsimp only [Option.toList, List.drop, List.cons_append, List.nil_append]
    refine Wp.bif_eq (tgt := 30) (n := 16) dX12_line_13 (by decide) rfl (fun c_13 => ?_) (fun c_13 => ?_)
    · try simp only [decide_eq_true_eq, decide_eq_false_iff_not, Bool.and_eq_true, bI_0, bI_n0] at c_13
      refine Wp.bipush (v := (-2)) dX12_line_30 (by decide) rfl ?_
      exact Wp.iret dX12_line_32 rfl (RQ.i (by simp (disch := omega) only [a_line, okL, okA, nI_tI, iI_tI, tn_nI, nI_m1]; (repeat' split) <;> first | rfl | (exfalso; omega)) hM (by unfold t_line; (repeat' split) <;> first | exact hP | (exfalso; (try simp (disch := omega) only [okL, okA, nI_tI, tn_nI] at *); omega)) (Out.rfl (x := x) (h := h)))
    · try simp only [decide_eq_true_eq, decide_eq_false_iff_not, Bool.and_eq_true, bI_0, bI_n0] at c_13
      refine Wp.iload_n dX12_line_16 rfl rfl ?_
      refine Wp.iload_n dX12_line_17 rfl rfl ?_
      refine Wp.icmp_eq (tgt := 30) (n := 21) dX12_line_18 (by decide) rfl (fun c_18 => ?_) (fun c_18 => ?_)
      · try simp (disch := omega) only [nI_bit0, nI_bit1, Bool.not_eq_false, Bool.not_eq_true] at c_18
        try simp (disch := omega) only [i_lt, i_le, i_eq, l_lt, l_le, l_eq, i_0, i_m1, l_0, nI_tI, iI_tI, lI_tI, Int.not_lt, Int.not_le] at c_18
        refine Wp.bipush (v := (-2)) dX12_line_30 (by decide) rfl ?_
        exact Wp.iret dX12_line_32 rfl (RQ.i (by simp (disch := omega) only [a_line, okL, okA, nI_tI, iI_tI, tn_nI, nI_m1]; (repeat' split) <;> first | rfl | (exfalso; omega)) hM (by unfold t_line; (repeat' split) <;> first | exact hP | (exfalso; (try simp (disch := omega) only [okL, okA, nI_tI, tn_nI] at *); omega)) (Out.rfl (x := x) (h := h)))
      · try simp (disch := omega) only [nI_bit0, nI_bit1, Bool.not_eq_false, Bool.not_eq_true] at c_18
        try simp (disch := omega) only [i_lt, i_le, i_eq, l_lt, l_le, l_eq, i_0, i_m1, l_0, nI_tI, iI_tI, lI_tI, Int.not_lt, Int.not_le] at c_18
        refine Wp.iload_n dX12_line_21 rfl rfl ?_
        refine Wp.iload dX12_line_22 rfl rfl ?_
        refine Wp.cS dX12_line_24 cs_X12_107 rfl (by omega) rfl (Nat.le_of_ble_eq_true rfl) (Nat.le_of_ble_eq_true rfl) rfl (c_X12_areTold (d := d - 1) (by omega)) ?_
        rintro _ h_ ⟨rfl, e_⟩
        rw [e_]
        clear e_ h_
        dsimp only [Option.toList, List.drop, List.cons_append, List.nil_append]
        refine Wp.bif_ne (tgt := 33) (n := 30) dX12_line_27 (by decide) rfl (fun c_27 => ?_) (fun c_27 => ?_)
        · try simp only [decide_eq_true_eq, decide_eq_false_iff_not, Bool.and_eq_true, bI_0, bI_n0] at c_27
          refine Wp.aload_n dX12_line_33 rfl (by first | exact Or.inr ⟨_, rfl⟩ | exact Or.inl rfl) rfl ?_
          refine Wp.cV dX12_line_34 cv_X12_78 rfl (by omega) rfl (Nat.le_of_ble_eq_true rfl) (Nat.le_of_ble_eq_true rfl) hM.ob rfl (c_X12_lines (d := d - 1) (hM.net hP.net) hW.net) ?_
          rintro _ h_ ⟨rfl, e_⟩
          rw [e_]
          clear e_ h_
          dsimp only [Option.toList, List.drop, List.cons_append, List.nil_append]
          refine Wp.bipush (v := (nI 12)) dX12_line_37 (by decide) rfl ?_
          refine Wp.icmp_ne (tgt := 45) (n := 42) dX12_line_39 (by decide) rfl (fun c_39 => ?_) (fun c_39 => ?_)
          · try simp (disch := omega) only [nI_bit0, nI_bit1, Bool.not_eq_false, Bool.not_eq_true] at c_39
            try simp (disch := omega) only [i_lt, i_le, i_eq, l_lt, l_le, l_eq, i_0, i_m1, l_0, nI_tI, iI_tI, lI_tI, Int.not_lt, Int.not_le] at c_39
            obtain ⟨i, rfl, hi, hi2⟩ := as_nI (show 0 ≤ a.toInt ∧ a.toInt < σ.N.T by omega)
            obtain ⟨j, rfl, hj, hj2⟩ := as_nI (show 0 ≤ b.toInt ∧ b.toInt < σ.N.T by omega)
            refine Wp.aload_n dX12_line_45 rfl (by first | exact Or.inr ⟨_, rfl⟩ | exact Or.inl rfl) rfl ?_
            refine Wp.cV dX12_line_46 cv_X12_100 rfl (by omega) rfl (Nat.le_of_ble_eq_true rfl) (Nat.le_of_ble_eq_true rfl) hM.ob rfl (c_X12_keeps (d := d - 1) hM) ?_
            rintro _ h1 ⟨rfl, V1, G1, hM1, o1, g1, g2, v2, v3⟩
            dsimp only [Option.toList, List.drop, List.cons_append, List.nil_append]
            have hb1 : NetG (G1 1) σ.N := hP.net.copy hL g1
            have hg0 : NetG (G1 0) σ.N := by rw [g2 0 (by decide)]; exact hP.net
            refine Wp.iconst (v := (nI 2)) dX12_line_49 (by decide) rfl ?_
            refine Wp.iconst (v := (nI 4)) dX12_line_50 (by decide) rfl ?_
            refine Wp.aload_n dX12_line_51 rfl (by first | exact Or.inr ⟨_, rfl⟩ | exact Or.inl rfl) rfl ?_
            refine Wp.cV dX12_line_52 cv_X12_78 rfl (by omega) rfl (Nat.le_of_ble_eq_true rfl) (Nat.le_of_ble_eq_true rfl) hM1.ob rfl (c_X12_lines (d := d - 1) (hM1.net hg0) hW.net) ?_
            rintro _ h_ ⟨rfl, e_⟩
            rw [e_]
            clear e_ h_
            dsimp only [Option.toList, List.drop, List.cons_append, List.nil_append]
            refine Wp.imul dX12_line_55 rfl ?_
            refine Wp.iadd dX12_line_56 rfl ?_
            rw [nI_24s]
            refine Wp.istore dX12_line_57 (Nat.le_of_ble_eq_true rfl) (by dsimp only [ev_st1, ev_st2, ev_cl] <;> rfl) rfl ?_
            refine Wp.aload_n dX12_line_59 rfl (by first | exact Or.inr ⟨_, rfl⟩ | exact Or.inl rfl) rfl ?_
            refine Wp.get dX12_line_60 fl_X12_7 hM1.ob (hM1.rf 0 (by decide)) rfl ?_
            refine Wp.iload dX12_line_63 rfl rfl ?_
            refine Wp.iload_n dX12_line_65 rfl rfl ?_
            refine Wp.iastore dX12_line_66 (hM1.ia 0 (by decide)) (nI_toInt (n := 2 + 4 * σ.N.L) (by omega)) (by show _ < 50; omega) rfl ?_
            refine hM1.sti (k := 0) (by decide) ?_
            intro h66 G66 hM66 o66 e66 f66
            have out66 := o1.trans o66
            refine Wp.aload_n dX12_line_67 rfl (by first | exact Or.inr ⟨_, rfl⟩ | exact Or.inl rfl) rfl ?_
            refine Wp.get dX12_line_68 fl_X12_7 hM66.ob (hM66.rf 0 (by decide)) rfl ?_
            refine Wp.iload dX12_line_71 rfl rfl ?_
            refine Wp.iconst (v := (nI 1)) dX12_line_73 (by decide) rfl ?_
            refine Wp.iadd dX12_line_74 rfl ?_
            refine Wp.iload_n dX12_line_75 rfl rfl ?_
            refine Wp.iastore dX12_line_76 (hM66.ia 0 (by decide)) (nI_24 (k := 1) (by omega) (by decide)) (by show _ < 50; omega) rfl ?_
            refine hM66.sti (k := 0) (by decide) ?_
            intro h76 G76 hM76 o76 e76 f76
            have out76 := out66.trans o76
            refine Wp.aload_n dX12_line_77 rfl (by first | exact Or.inr ⟨_, rfl⟩ | exact Or.inl rfl) rfl ?_
            refine Wp.get dX12_line_78 fl_X12_7 hM76.ob (hM76.rf 0 (by decide)) rfl ?_
            refine Wp.iload dX12_line_81 rfl rfl ?_
            refine Wp.iconst (v := (nI 2)) dX12_line_83 (by decide) rfl ?_
            refine Wp.iadd dX12_line_84 rfl ?_
            refine Wp.iload_n dX12_line_85 rfl rfl ?_
            refine Wp.iastore dX12_line_86 (hM76.ia 0 (by decide)) (nI_24 (k := 2) (by omega) (by decide)) (by show _ < 50; omega) rfl ?_
            refine hM76.sti (k := 0) (by decide) ?_
            intro h86 G86 hM86 o86 e86 f86
            have out86 := out76.trans o86
            refine Wp.aload_n dX12_line_87 rfl (by first | exact Or.inr ⟨_, rfl⟩ | exact Or.inl rfl) rfl ?_
            refine Wp.get dX12_line_88 fl_X12_7 hM86.ob (hM86.rf 0 (by decide)) rfl ?_
            refine Wp.iload dX12_line_91 rfl rfl ?_
            refine Wp.iconst (v := (nI 3)) dX12_line_93 (by decide) rfl ?_
            refine Wp.iadd dX12_line_94 rfl ?_
            refine Wp.iload dX12_line_95 rfl rfl ?_
            refine Wp.iastore dX12_line_97 (hM86.ia 0 (by decide)) (nI_24 (k := 3) (by omega) (by decide)) (by show _ < 50; omega) rfl ?_
            refine hM86.sti (k := 0) (by decide) ?_
            intro h97 G97 hM97 o97 e97 f97
            have out97 := out86.trans o97
            refine Wp.aload_n dX12_line_98 rfl (by first | exact Or.inr ⟨_, rfl⟩ | exact Or.inl rfl) rfl ?_
            refine Wp.get dX12_line_99 fl_X12_7 hM97.ob (hM97.rf 0 (by decide)) rfl ?_
            refine Wp.iconst (v := (nI 1)) dX12_line_102 (by decide) rfl ?_
            refine Wp.dup2 dX12_line_103 rfl rfl rfl ?_
            refine Wp.iaload dX12_line_104 (hM97.ia 0 (by decide)) (j := 1) (by decide) (by show _ < 50; omega) rfl ?_
            rw [show G97 0 1 = nI σ.N.L by rw [e97, e86, e76, e66]; simp only [upd]; rw [if_neg (by omega), if_neg (by omega), if_neg (by omega), if_neg (by omega)]; exact hg0.L]
            refine Wp.iconst (v := (nI 1)) dX12_line_105 (by decide) rfl ?_
            refine Wp.iadd dX12_line_106 rfl ?_
            rw [nI_add1]
            refine Wp.iastore dX12_line_107 (hM97.ia 0 (by decide)) (j := 1) (by decide) (by show _ < 50; omega) rfl ?_
            refine hM97.sti (k := 0) (by decide) ?_
            intro h107 G107 hM107 o107 e107 f107
            have out107 := out97.trans o107
            refine Wp.aload_n dX12_line_108 rfl (by first | exact Or.inr ⟨_, rfl⟩ | exact Or.inl rfl) rfl ?_
            refine Wp.get dX12_line_109 fl_X12_7 hM107.ob (hM107.rf 0 (by decide)) rfl ?_
            refine Wp.iconst (v := (nI 1)) dX12_line_112 (by decide) rfl ?_
            refine Wp.iaload dX12_line_113 (hM107.ia 0 (by decide)) (j := 1) (by decide) (by show _ < 50; omega) rfl ?_
            rw [e107]
            simp only [upd, if_true]
            refine Wp.iconst (v := (nI 1)) dX12_line_114 (by decide) rfl ?_
            refine Wp.isub dX12_line_115 rfl ?_
            exact Wp.iret dX12_line_116 rfl (RQ.i (by rw [a_line, if_pos (by have e_ := nI_tI hi2; have e2_ := nI_tI hj2; omega), if_neg (by omega), pk_sub (by omega)]; rfl) hM107 (by
                rw [t_line, if_pos ⟨by have e_ := nI_tI hi2; have e2_ := nI_tI hj2; omega, by omega⟩, tn_nI hi2, tn_nI hj2]
                exact hP.chg v3 (fun k hk => (f107 k (by omega)).trans ((f97 k (by omega)).trans ((f86 k (by omega)).trans ((f76 k (by omega)).trans ((f66 k (by omega)).trans (g2 k (by omega))))))) (hg0.pL (by rw [e107, e97, e86, e76, e66]; simp only [upd]; (repeat' split) <;> first | rfl | (exfalso; first | omega | simp_all)) (by rw [e107]; simp only [upd]; (repeat' split) <;> first | rfl | (exfalso; first | omega | simp_all)) (by rw [e107, e97, e86, e76, e66]; simp only [upd]; (repeat' split) <;> first | rfl | (exfalso; first | omega | simp_all))
                  (by rw [e107, e97, e86, e76, e66]; simp only [upd]; (repeat' split) <;> first | rfl | (exfalso; first | omega | simp_all)) (by rw [e107, e97, e86, e76, e66]; simp only [upd]; (repeat' split) <;> first | exact iI_of s | (exfalso; first | omega | simp_all)) (by rw [e107, e97, e86, e76, e66]; simp only [upd]; (repeat' split) <;> first | exact iI_of r | (exfalso; first | omega | simp_all))
                  (fun u h1 h2 => (by rw [e107, e97, e86, e76, e66]; simp only [upd]; (repeat' split) <;> first | rfl | (exfalso; first | omega | simp_all)))) (fun _ => (show NetG (G107 1) σ.N by rw [f107 1 (by decide), f97 1 (by decide), f86 1 (by decide), f76 1 (by decide), f66 1 (by decide)]; exact hb1).E B_pL) v2) out107)
          · try simp (disch := omega) only [nI_bit0, nI_bit1, Bool.not_eq_false, Bool.not_eq_true] at c_39
            try simp (disch := omega) only [i_lt, i_le, i_eq, l_lt, l_le, l_eq, i_0, i_m1, l_0, nI_tI, iI_tI, lI_tI, Int.not_lt, Int.not_le] at c_39
            refine Wp.bipush (v := (-4)) dX12_line_42 (by decide) rfl ?_
            exact Wp.iret dX12_line_44 rfl (RQ.i (by simp (disch := omega) only [a_line, okL, okA, nI_tI, iI_tI, tn_nI, nI_m1]; (repeat' split) <;> first | rfl | (exfalso; omega)) hM (by unfold t_line; (repeat' split) <;> first | exact hP | (exfalso; (try simp (disch := omega) only [okL, okA, nI_tI, tn_nI] at *); omega)) (Out.rfl (x := x) (h := h)))
        · try simp only [decide_eq_true_eq, decide_eq_false_iff_not, Bool.and_eq_true, bI_0, bI_n0] at c_27
          refine Wp.bipush (v := (-2)) dX12_line_30 (by decide) rfl ?_
          exact Wp.iret dX12_line_32 rfl (RQ.i (by simp (disch := omega) only [a_line, okL, okA, nI_tI, iI_tI, tn_nI, nI_m1]; (repeat' split) <;> first | rfl | (exfalso; omega)) hM (by unfold t_line; (repeat' split) <;> first | exact hP | (exfalso; (try simp (disch := omega) only [okL, okA, nI_tI, tn_nI] at *); omega)) (Out.rfl (x := x) (h := h)))
set_option maxHeartbeats 1000000 in
theorem c_X12_alter {B : ev_B} {d x : Nat} {h : ev_H} {V : Nat → Value} {G : Nat → Nat → Int32} {Z : Nat → Nat → Int64} {σ : Sg} {l s r : Int32} (hM : MH h x V G Z) (hP : PM σ V G Z) (hW : Wf σ) (hd : 2 ≤ d) :
    Wp B d M_X12_alter 0 [some (.ref x), some (.int (l)), some (.int (s)), some (.int (r))] [] h (RQ x h (t_alter σ l s r) (.int (a_alter σ l s r))) := by
  have hn := hW.n
  have hT := hW.net.1
  have hL := hW.net.2.1
  refine Wp.iload_n dX12_alter_0 rfl rfl ?_
  refine Wp.iconst (v := (nI 0)) dX12_alter_1 (by decide) rfl ?_
  refine Wp.aload_n dX12_alter_2 rfl (by first | exact Or.inr ⟨_, rfl⟩ | exact Or.inl rfl) rfl ?_
  refine Wp.cV dX12_alter_3 cv_X12_78 rfl (by omega) rfl (Nat.le_of_ble_eq_true rfl) (Nat.le_of_ble_eq_true rfl) hM.ob rfl (c_X12_lines (d := d - 1) (hM.net hP.net) hW.net) ?_
  rintro _ h_ ⟨rfl, e_⟩
  rw [e_]
  clear e_ h_
  dsimp only [Option.toList, List.drop, List.cons_append, List.nil_append]
  refine Wp.iconst (v := (nI 1)) dX12_alter_6 (by decide) rfl ?_
  refine Wp.isub dX12_alter_7 rfl ?_
  refine Wp.cS dX12_alter_8 cs_X12_85 rfl (by omega) rfl (Nat.le_of_ble_eq_true rfl) (Nat.le_of_ble_eq_true rfl) rfl (c_X12_in (d := d - 1)) ?_
  rintro _ h_ ⟨rfl, e_⟩
  rw [e_]
  clear e_ h_
  dsimp only [Option.toList, List.drop, List.cons_append, List.nil_append]
  try simp (disch := omega) only [nI_m1, nI_tI, i_0]
  refine Wp.bif_eq (tgt := 22) (n := 14) dX12_alter_11 (by decide) rfl (fun c_11 => ?_) (fun c_11 => ?_)
  · try simp only [decide_eq_true_eq, decide_eq_false_iff_not, Bool.and_eq_true, bI_0, bI_n0] at c_11
    refine Wp.bipush (v := (-2)) dX12_alter_22 (by decide) rfl ?_
    exact Wp.iret dX12_alter_24 rfl (RQ.i (by simp (disch := omega) only [a_alter, okL, okA, nI_tI, iI_tI, tn_nI, nI_m1]; (repeat' split) <;> first | rfl | (exfalso; omega)) hM (by unfold t_alter; (repeat' split) <;> first | exact hP | (exfalso; (try simp (disch := omega) only [okL, okA, nI_tI, tn_nI] at *); omega)) (Out.rfl (x := x) (h := h)))
  · try simp only [decide_eq_true_eq, decide_eq_false_iff_not, Bool.and_eq_true, bI_0, bI_n0] at c_11
    refine Wp.iload_n dX12_alter_14 rfl rfl ?_
    refine Wp.iload_n dX12_alter_15 rfl rfl ?_
    refine Wp.cS dX12_alter_16 cs_X12_107 rfl (by omega) rfl (Nat.le_of_ble_eq_true rfl) (Nat.le_of_ble_eq_true rfl) rfl (c_X12_areTold (d := d - 1) (by omega)) ?_
    rintro _ h_ ⟨rfl, e_⟩
    rw [e_]
    clear e_ h_
    dsimp only [Option.toList, List.drop, List.cons_append, List.nil_append]
    refine Wp.bif_ne (tgt := 25) (n := 22) dX12_alter_19 (by decide) rfl (fun c_19 => ?_) (fun c_19 => ?_)
    · try simp only [decide_eq_true_eq, decide_eq_false_iff_not, Bool.and_eq_true, bI_0, bI_n0] at c_19
      obtain ⟨i, rfl, hi, hi2⟩ := as_nI (show 0 ≤ l.toInt ∧ l.toInt < σ.N.L by omega)
      refine Wp.aload_n dX12_alter_25 rfl (by first | exact Or.inr ⟨_, rfl⟩ | exact Or.inl rfl) rfl ?_
      refine Wp.cV dX12_alter_26 cv_X12_100 rfl (by omega) rfl (Nat.le_of_ble_eq_true rfl) (Nat.le_of_ble_eq_true rfl) hM.ob rfl (c_X12_keeps (d := d - 1) hM) ?_
      rintro _ h1 ⟨rfl, V1, G1, hM1, o1, g1, g2, v2, v3⟩
      dsimp only [Option.toList, List.drop, List.cons_append, List.nil_append]
      have hb1 : NetG (G1 1) σ.N := hP.net.copy hL g1
      have hg0 : NetG (G1 0) σ.N := by rw [g2 0 (by decide)]; exact hP.net
      refine Wp.aload_n dX12_alter_29 rfl (by first | exact Or.inr ⟨_, rfl⟩ | exact Or.inl rfl) rfl ?_
      refine Wp.get dX12_alter_30 fl_X12_7 hM1.ob (hM1.rf 0 (by decide)) rfl ?_
      refine Wp.iconst (v := (nI 4)) dX12_alter_33 (by decide) rfl ?_
      refine Wp.iconst (v := (nI 4)) dX12_alter_34 (by decide) rfl ?_
      refine Wp.iload_n dX12_alter_35 rfl rfl ?_
      refine Wp.imul dX12_alter_36 rfl ?_
      refine Wp.iadd dX12_alter_37 rfl ?_
      refine Wp.iload_n dX12_alter_38 rfl rfl ?_
      refine Wp.iastore dX12_alter_39 (hM1.ia 0 (by decide)) (nI_4k (k := 4) (by omega) (by decide)) (by show _ < 50; omega) rfl ?_
      refine hM1.sti (k := 0) (by decide) ?_
      intro h39 G39 hM39 o39 e39 f39
      have out39 := o1.trans o39
      refine Wp.aload_n dX12_alter_40 rfl (by first | exact Or.inr ⟨_, rfl⟩ | exact Or.inl rfl) rfl ?_
      refine Wp.get dX12_alter_41 fl_X12_7 hM39.ob (hM39.rf 0 (by decide)) rfl ?_
      refine Wp.iconst (v := (nI 5)) dX12_alter_44 (by decide) rfl ?_
      refine Wp.iconst (v := (nI 4)) dX12_alter_45 (by decide) rfl ?_
      refine Wp.iload_n dX12_alter_46 rfl rfl ?_
      refine Wp.imul dX12_alter_47 rfl ?_
      refine Wp.iadd dX12_alter_48 rfl ?_
      refine Wp.iload_n dX12_alter_49 rfl rfl ?_
      refine Wp.iastore dX12_alter_50 (hM39.ia 0 (by decide)) (nI_4k (k := 5) (by omega) (by decide)) (by show _ < 50; omega) rfl ?_
      refine hM39.sti (k := 0) (by decide) ?_
      intro h50 G50 hM50 o50 e50 f50
      have out50 := out39.trans o50
      refine Wp.iconst (v := (nI 1)) dX12_alter_51 (by decide) rfl ?_
      exact Wp.iret dX12_alter_52 rfl (RQ.i (by rw [a_alter, if_pos (by have e_ := nI_tI hi2; omega)]; rfl) hM50 (by
          rw [t_alter, if_pos (by have e_ := nI_tI hi2; omega), tn_nI hi2]
          exact hP.chg v3 (fun k hk => (f50 k (by omega)).trans ((f39 k (by omega)).trans (g2 k (by omega)))) (hg0.al (by rw [e50, e39]; simp only [upd]; (repeat' split) <;> first | exact iI_of s | (exfalso; first | omega | simp_all)) (by rw [e50]; simp only [upd]; (repeat' split) <;> first | exact iI_of r | (exfalso; first | omega | simp_all)) (fun u h1 h2 => (by rw [e50, e39]; simp only [upd]; (repeat' split) <;> first | rfl | (exfalso; first | omega | simp_all)))) (fun _ => (show NetG (G50 1) σ.N by rw [f50 1 (by decide), f39 1 (by decide)]; exact hb1).E B_al) v2) out50)
    · try simp only [decide_eq_true_eq, decide_eq_false_iff_not, Bool.and_eq_true, bI_0, bI_n0] at c_19
      refine Wp.bipush (v := (-2)) dX12_alter_22 (by decide) rfl ?_
      exact Wp.iret dX12_alter_24 rfl (RQ.i (by simp (disch := omega) only [a_alter, okL, okA, nI_tI, iI_tI, tn_nI, nI_m1]; (repeat' split) <;> first | rfl | (exfalso; omega)) hM (by unfold t_alter; (repeat' split) <;> first | exact hP | (exfalso; (try simp (disch := omega) only [okL, okA, nI_tI, tn_nI] at *); omega)) (Out.rfl (x := x) (h := h)))
theorem c_X12_close {B : ev_B} {d x : Nat} {h : ev_H} {V : Nat → Value} {G : Nat → Nat → Int32} {Z : Nat → Nat → Int64} {σ : Sg} (hM : MH h x V G Z) (hP : PM σ V G Z) (hW : Wf σ) (hd : 2 ≤ d) :
    Wp B d M_X12_close 0 [some (.ref x)] [] h (RQ x h (t_close σ) (.int (a_close σ))) := by
  have hn := hW.n
  have hT := hW.net.1
  have hL := hW.net.2.1
  refine Wp.aload_n dX12_close_0 rfl (by first | exact Or.inr ⟨_, rfl⟩ | exact Or.inl rfl) rfl ?_
  refine Wp.cV dX12_close_1 cv_X12_78 rfl (by omega) rfl (Nat.le_of_ble_eq_true rfl) (Nat.le_of_ble_eq_true rfl) hM.ob rfl (c_X12_lines (d := d - 1) (hM.net hP.net) hW.net) ?_
  rintro _ h_ ⟨rfl, e_⟩
  rw [e_]
  clear e_ h_
  dsimp only [Option.toList, List.drop, List.cons_append, List.nil_append]
  refine Wp.if_ne (tgt := 10) (n := 7) dX12_close_4 (by decide) rfl (fun c_4 => ?_) (fun c_4 => ?_)
  · have c_4 : σ.N.L ≠ 0 := fun z => c_4 (by rw [z]; rfl)
    refine Wp.aload_n dX12_close_10 rfl (by first | exact Or.inr ⟨_, rfl⟩ | exact Or.inl rfl) rfl ?_
    refine Wp.cV dX12_close_11 cv_X12_100 rfl (by omega) rfl (Nat.le_of_ble_eq_true rfl) (Nat.le_of_ble_eq_true rfl) hM.ob rfl (c_X12_keeps (d := d - 1) hM) ?_
    rintro _ h1 ⟨rfl, V1, G1, hM1, o1, g1, g2, v2, v3⟩
    dsimp only [Option.toList, List.drop, List.cons_append, List.nil_append]
    have hb1 : NetG (G1 1) σ.N := hP.net.copy hL g1
    have hg0 : NetG (G1 0) σ.N := by rw [g2 0 (by decide)]; exact hP.net
    refine Wp.aload_n dX12_close_14 rfl (by first | exact Or.inr ⟨_, rfl⟩ | exact Or.inl rfl) rfl ?_
    refine Wp.get dX12_close_15 fl_X12_7 hM1.ob (hM1.rf 0 (by decide)) rfl ?_
    refine Wp.iconst (v := (nI 1)) dX12_close_18 (by decide) rfl ?_
    refine Wp.dup2 dX12_close_19 rfl rfl rfl ?_
    refine Wp.iaload dX12_close_20 (hM1.ia 0 (by decide)) (j := 1) (by decide) (by show _ < 50; omega) rfl ?_
    rw [hg0.L]
    refine Wp.iconst (v := (nI 1)) dX12_close_21 (by decide) rfl ?_
    refine Wp.isub dX12_close_22 rfl ?_
    rw [pk_sub (by omega)]
    refine Wp.iastore dX12_close_23 (hM1.ia 0 (by decide)) (j := 1) (by decide) (by show _ < 50; omega) rfl ?_
    refine hM1.sti (k := 0) (by decide) ?_
    intro h23 G23 hM23 o23 e23 f23
    have out23 := o1.trans o23
    refine Wp.aload_n dX12_close_24 rfl (by first | exact Or.inr ⟨_, rfl⟩ | exact Or.inl rfl) rfl ?_
    refine Wp.get dX12_close_25 fl_X12_7 hM23.ob (hM23.rf 0 (by decide)) rfl ?_
    refine Wp.iconst (v := (nI 1)) dX12_close_28 (by decide) rfl ?_
    refine Wp.iaload dX12_close_29 (hM23.ia 0 (by decide)) (j := 1) (by decide) (by show _ < 50; omega) rfl ?_
    rw [e23]
    simp only [upd, if_true]
    exact Wp.iret dX12_close_30 rfl (RQ.i (by rw [a_close, if_neg c_4]) hM23 (by rw [t_close, if_neg c_4]; exact hP.chg v3 (fun k hk => (f23 k (by omega)).trans (g2 k (by omega))) (by rw [e23]; exact hg0.mL) (fun _ => (show NetG (G23 1) σ.N by rw [f23 1 (by decide)]; exact hb1).E (B_mL c_4)) v2) out23)
  · have c_4 : σ.N.L = 0 := (nI_eq0 (by omega)).mp c_4
    refine Wp.bipush (v := (-3)) dX12_close_7 (by decide) rfl ?_
    exact Wp.iret dX12_close_9 rfl (RQ.i (by simp (disch := omega) only [a_close, okL, okA, nI_tI, iI_tI, tn_nI, nI_m1]; (repeat' split) <;> first | rfl | (exfalso; omega)) hM (by unfold t_close; (repeat' split) <;> first | exact hP | (exfalso; (try simp (disch := omega) only [okL, okA, nI_tI, tn_nI] at *); omega)) (Out.rfl (x := x) (h := h)))
theorem nI_24w {l w : Nat} (hl : l < 12) (hw : w < 4) : (nI 2 + nI 4 * nI l + nI w).toInt = ((2 + 4 * l + w : Nat) : Int) := by rw [nI_24s]; exact nI_24 hl hw
theorem NetG.ln {g : Nat → Int32} {N : Nt} {l w : Nat} (h : NetG g N) (hl : l < N.L) (hw : w < 4) : g (2 + 4 * l + w) = iI (lnN N l w) := by
  have hk : w = 0 ∨ w = 1 ∨ w = 2 ∨ w = 3 := by omega
  rcases hk with rfl | rfl | rfl | rfl
  · rw [lnN, if_pos rfl, ← nI_iI]; exact h.fr l hl
  · rw [lnN, if_neg (by decide), if_pos rfl, ← nI_iI, show 2 + 4 * l + 1 = 3 + 4 * l by omega]; exact h.to l hl
  · rw [lnN, if_neg (by decide), if_neg (by decide), if_pos rfl, show 2 + 4 * l + 2 = 4 + 4 * l by omega]; exact h.sa l hl
  · rw [lnN, if_neg (by decide), if_neg (by decide), if_neg (by decide), show 2 + 4 * l + 3 = 5 + 4 * l by omega]; exact h.ri l hl
theorem c_X12_lineTold {B : ev_B} {d x : Nat} {h : ev_H} {V : Nat → Value} {G : Nat → Nat → Int32} {Z : Nat → Nat → Int64} {σ : Sg} {l w : Int32} (hM : MH h x V G Z) (hP : PM σ V G Z) (hW : Wf σ) (hd : 1 ≤ d) :
    Wp B d M_X12_lineTold 0 [some (.ref x), some (.int (l)), some (.int (w))] [] h (RQ x h (σ) (.int (a_lineTold σ l w))) := by
  have hn := hW.n
  have hT := hW.net.1
  have hL := hW.net.2.1
  refine Wp.iload_n dX12_lineTold_0 rfl rfl ?_
  refine Wp.iconst (v := (nI 0)) dX12_lineTold_1 (by decide) rfl ?_
  refine Wp.iconst (v := (nI 3)) dX12_lineTold_2 (by decide) rfl ?_
  refine Wp.cS dX12_lineTold_3 cs_X12_85 rfl (by omega) rfl (Nat.le_of_ble_eq_true rfl) (Nat.le_of_ble_eq_true rfl) rfl (c_X12_in (d := d - 1)) ?_
  rintro _ h_ ⟨rfl, e_⟩
  rw [e_]
  clear e_ h_
  dsimp only [Option.toList, List.drop, List.cons_append, List.nil_append]
  try simp (disch := omega) only [nI_m1, nI_tI, i_0]
  refine Wp.bif_ne (tgt := 12) (n := 9) dX12_lineTold_6 (by decide) rfl (fun c_6 => ?_) (fun c_6 => ?_)
  · try simp only [decide_eq_true_eq, decide_eq_false_iff_not, Bool.and_eq_true, bI_0, bI_n0] at c_6
    refine Wp.iload_n dX12_lineTold_12 rfl rfl ?_
    refine Wp.iconst (v := (nI 0)) dX12_lineTold_13 (by decide) rfl ?_
    refine Wp.aload_n dX12_lineTold_14 rfl (by first | exact Or.inr ⟨_, rfl⟩ | exact Or.inl rfl) rfl ?_
    refine Wp.cV dX12_lineTold_15 cv_X12_78 rfl (by omega) rfl (Nat.le_of_ble_eq_true rfl) (Nat.le_of_ble_eq_true rfl) hM.ob rfl (c_X12_lines (d := d - 1) (hM.net hP.net) hW.net) ?_
    rintro _ h_ ⟨rfl, e_⟩
    rw [e_]
    clear e_ h_
    dsimp only [Option.toList, List.drop, List.cons_append, List.nil_append]
    refine Wp.iconst (v := (nI 1)) dX12_lineTold_18 (by decide) rfl ?_
    refine Wp.isub dX12_lineTold_19 rfl ?_
    refine Wp.cS dX12_lineTold_20 cs_X12_85 rfl (by omega) rfl (Nat.le_of_ble_eq_true rfl) (Nat.le_of_ble_eq_true rfl) rfl (c_X12_in (d := d - 1)) ?_
    rintro _ h_ ⟨rfl, e_⟩
    rw [e_]
    clear e_ h_
    dsimp only [Option.toList, List.drop, List.cons_append, List.nil_append]
    try simp (disch := omega) only [nI_m1, nI_tI, i_0]
    refine Wp.bif_eq (tgt := 41) (n := 26) dX12_lineTold_23 (by decide) rfl (fun c_23 => ?_) (fun c_23 => ?_)
    · try simp only [decide_eq_true_eq, decide_eq_false_iff_not, Bool.and_eq_true, bI_0, bI_n0] at c_23
      refine Wp.iconst (v := (-1)) dX12_lineTold_41 (by decide) rfl ?_
      exact Wp.iret dX12_lineTold_42 rfl (RQ.i (by simp (disch := omega) only [a_lineTold, okL, okA, nI_tI, iI_tI, tn_nI, nI_m1]; (repeat' split) <;> first | rfl | (exfalso; omega)) hM hP (Out.rfl (x := x) (h := h)))
    · try simp only [decide_eq_true_eq, decide_eq_false_iff_not, Bool.and_eq_true, bI_0, bI_n0] at c_23
      obtain ⟨i, rfl, hi, hi2⟩ := as_nI (show 0 ≤ l.toInt ∧ l.toInt < σ.N.L by omega)
      obtain ⟨j, rfl, hj, hj2⟩ := as_nI (o := w) (n := 4) (by omega)
      refine Wp.aload_n dX12_lineTold_26 rfl (by first | exact Or.inr ⟨_, rfl⟩ | exact Or.inl rfl) rfl ?_
      refine Wp.get dX12_lineTold_27 fl_X12_7 hM.ob (hM.rf 0 (by decide)) rfl ?_
      refine Wp.iconst (v := (nI 2)) dX12_lineTold_30 (by decide) rfl ?_
      refine Wp.iconst (v := (nI 4)) dX12_lineTold_31 (by decide) rfl ?_
      refine Wp.iload_n dX12_lineTold_32 rfl rfl ?_
      refine Wp.imul dX12_lineTold_33 rfl ?_
      refine Wp.iadd dX12_lineTold_34 rfl ?_
      refine Wp.iload_n dX12_lineTold_35 rfl rfl ?_
      refine Wp.iadd dX12_lineTold_36 rfl ?_
      refine Wp.iaload dX12_lineTold_37 (hM.ia 0 (by decide)) (nI_24w (by omega) (by omega)) (by show _ < 50; omega) rfl ?_
      rw [hP.net.ln hi (by omega)]
      refine Wp.goto (n := 42) dX12_lineTold_38 (by decide) ?_
      exact Wp.iret dX12_lineTold_42 rfl (RQ.i (by simp (disch := omega) only [a_lineTold, okL, okA, nI_tI, iI_tI, tn_nI, nI_m1]; (repeat' split) <;> first | rfl | (exfalso; omega)) hM hP (Out.rfl (x := x) (h := h)))
  · try simp only [decide_eq_true_eq, decide_eq_false_iff_not, Bool.and_eq_true, bI_0, bI_n0] at c_6
    refine Wp.bipush (v := (-2)) dX12_lineTold_9 (by decide) rfl ?_
    exact Wp.iret dX12_lineTold_11 rfl (RQ.i (by simp (disch := omega) only [a_lineTold, okL, okA, nI_tI, iI_tI, tn_nI, nI_m1]; (repeat' split) <;> first | rfl | (exfalso; omega)) hM hP (Out.rfl (x := x) (h := h)))
theorem okU_le {σ : Sg} : ∀ n i, i ≤ n → okU σ n = true → okU σ i = true
  | 0, i, h, e => by have : i = 0 := by omega
                     rw [this]; exact e
  | n + 1, i, h, e => by
    simp only [okU, Bool.and_eq_true] at e
    rcases Nat.lt_or_ge i (n + 1) with h1 | h1
    · exact okU_le n i (by omega) e.1
    · have : i = n + 1 := by omega
      rw [this]; simp only [okU, Bool.and_eq_true]; exact e
theorem shr_0 {f T : Nat} : f >>> T = 0 ↔ f < 2 ^ T := by
  rw [Nat.shiftRight_eq_div_pow]
  constructor
  · intro h
    have h2 : 0 < 2 ^ T := Nat.two_pow_pos T
    rcases Nat.lt_or_ge f (2 ^ T) with h1 | h1
    · exact h1
    · have := Nat.div_pos h1 h2
      omega
  · exact fun h => Nat.div_eq_of_lt h
set_option maxHeartbeats 2000000 in
theorem c_X12_undo {B : ev_B} {d x : Nat} {h : ev_H} {V : Nat → Value} {G : Nat → Nat → Int32} {Z : Nat → Nat → Int64} {σ : Sg} (hM : MH h x V G Z) (hP : PM σ V G Z) (hW : Wf σ)  :
    Wp B d M_X12_undo 0 [some (.ref x), none, none, none] [] h (RQ x h (t_undo σ) (.int (a_undo σ))) := by
  have hn := hW.n
  have hT := hW.net.1
  have hL := hW.net.2.1
  have s119 : σ.U ≠ 0 → okU σ σ.n = true → ∀ j2 j3 : Option Value, Wp B d M_X12_undo 119 [some (.ref x), some (.int (bI true)), j2, j3] [] h (RQ x h (t_undo σ) (.int (a_undo σ))) := by
    intro hU hok j2 j3
    have hbf := hP.bef hU
    have hbw := hW.bef hU
    have loop : ∀ i, i ≤ 50 → ∀ (hh : ev_H) (Gi : Nat → Nat → Int32), MH hh x V Gi Z → Out x h hh → (∀ k, k ≠ 0 → Gi k = G k) → (∀ j, j < i → Gi 0 j = G 1 j) → Wp B d M_X12_undo 121 [some (.ref x), some (.int (bI true)), some (.int (nI i)), j3] [] hh (RQ x h (t_undo σ) (.int (a_undo σ))) := by
      refine ev_upl 50 (fun i hi ih => ?_) ?_
      · intro hh Gi hMi hOi hg hc
        refine Wp.iload_n dX12_undo_121 rfl rfl ?_
        refine Wp.bipush (v := (nI 50)) dX12_undo_122 (by decide) rfl ?_
        refine Wp.icmp_ge (tgt := 145) (n := 127) dX12_undo_124 (by decide) rfl (fun c_124 => ?_) (fun c_124 => ?_)
        · try simp (disch := omega) only [nI_bit0, nI_bit1, Bool.not_eq_false, Bool.not_eq_true] at c_124
          try simp (disch := omega) only [i_lt, i_le, i_eq, l_lt, l_le, l_eq, i_0, i_m1, l_0, nI_tI, iI_tI, lI_tI, Int.not_lt, Int.not_le] at c_124
          omega
        · try simp (disch := omega) only [nI_bit0, nI_bit1, Bool.not_eq_false, Bool.not_eq_true] at c_124
          try simp (disch := omega) only [i_lt, i_le, i_eq, l_lt, l_le, l_eq, i_0, i_m1, l_0, nI_tI, iI_tI, lI_tI, Int.not_lt, Int.not_le] at c_124
          refine Wp.aload_n dX12_undo_127 rfl (by first | exact Or.inr ⟨_, rfl⟩ | exact Or.inl rfl) rfl ?_
          refine Wp.get dX12_undo_128 fl_X12_7 hMi.ob (hMi.rf 0 (by decide)) rfl ?_
          refine Wp.iload_n dX12_undo_131 rfl rfl ?_
          refine Wp.aload_n dX12_undo_132 rfl (by first | exact Or.inr ⟨_, rfl⟩ | exact Or.inl rfl) rfl ?_
          refine Wp.get dX12_undo_133 fl_X12_13 hMi.ob (hMi.rf 1 (by decide)) rfl ?_
          refine Wp.iload_n dX12_undo_136 rfl rfl ?_
          refine Wp.iaload dX12_undo_137 (hMi.ia 1 (by decide)) (nI_toInt (by omega)) (by show _ < 50; omega) rfl ?_
          refine Wp.iastore dX12_undo_138 (hMi.ia 0 (by decide)) (nI_toInt (by omega)) (by show _ < 50; omega) rfl ?_
          refine hMi.sti (k := 0) (by decide) ?_
          intro h138 G138 hM138 o138 e138 f138
          have out138 := hOi.trans o138
          refine Wp.iinc (v := _ + (nI 1)) dX12_undo_139 rfl rfl (Nat.le_of_ble_eq_true rfl) (by dsimp only [ev_st1, ev_cl] <;> rfl) rfl ?_
          refine Wp.goto (n := 121) dX12_undo_142 (by decide) ?_
          rw [nI_add1]
          refine ih _ _ hM138 out138 (fun k hk => (f138 k hk).trans (hg k hk)) (fun j hj => ?_)
          rw [e138]
          simp only [upd]
          split
          · next e => rw [e, hg 1 (by decide)]
          · exact hc j (by omega)
      · intro hh Gi hMi hOi hg hc
        refine Wp.iload_n dX12_undo_121 rfl rfl ?_
        refine Wp.bipush (v := (nI 50)) dX12_undo_122 (by decide) rfl ?_
        refine Wp.icmp_ge (tgt := 145) (n := 127) dX12_undo_124 (by decide) rfl (fun c_124 => ?_) (fun c_124 => ?_)
        · try simp (disch := omega) only [nI_bit0, nI_bit1, Bool.not_eq_false, Bool.not_eq_true] at c_124
          try simp (disch := omega) only [i_lt, i_le, i_eq, l_lt, l_le, l_eq, i_0, i_m1, l_0, nI_tI, iI_tI, lI_tI, Int.not_lt, Int.not_le] at c_124
          refine Wp.aload_n dX12_undo_145 rfl (by first | exact Or.inr ⟨_, rfl⟩ | exact Or.inl rfl) rfl ?_
          refine Wp.iconst (v := (nI 0)) dX12_undo_146 (by decide) rfl ?_
          refine Wp.put dX12_undo_147 fp_X12_96 hMi.ob rfl rfl rfl ?_
          refine hMi.put (k := 2) (by decide) ?_
          intro h147 V147 hM147 o147 e147 f147
          have out147 := hOi.trans o147
          refine Wp.iconst (v := (nI 1)) dX12_undo_150 (by decide) rfl ?_
          exact Wp.iret dX12_undo_151 rfl (RQ.i (by rw [a_undo, if_pos ⟨hU, hok⟩]; rfl) hM147 (by
              rw [t_undo, if_pos ⟨hU, hok⟩]
              exact hP.chg f147 (fun k hk => hg k (by omega)) (hbf.copy hbw.2.1 hc) (fun z => absurd rfl z) e147) out147)
        · try simp (disch := omega) only [nI_bit0, nI_bit1, Bool.not_eq_false, Bool.not_eq_true] at c_124
          try simp (disch := omega) only [i_lt, i_le, i_eq, l_lt, l_le, l_eq, i_0, i_m1, l_0, nI_tI, iI_tI, lI_tI, Int.not_lt, Int.not_le] at c_124
          omega
    refine Wp.iconst (v := (nI 0)) dX12_undo_119 (by decide) rfl ?_
    refine Wp.istore_n dX12_undo_120 (Nat.le_of_ble_eq_true rfl) (by dsimp only [ev_st1, ev_st2, ev_cl] <;> rfl) rfl ?_
    exact loop 0 (by omega) h G hM Out.rfl (fun _ _ => rfl) (fun j hj => absurd hj (Nat.not_lt_zero j))
  by_cases hU : σ.U ≠ 0
  · have hbf := hP.bef hU
    have hbw := hW.bef hU
    have hBT := hbw.1
    have loop : ∀ i, i ≤ σ.n → ∀ j3 : Option Value, Wp B d M_X12_undo 7 [some (.ref x), some (.int (bI (okU σ i))), some (.int (nI i)), j3] [] h (RQ x h (t_undo σ) (.int (a_undo σ))) := by
      refine ev_upl σ.n (fun i hi ih => ?_) ?_
      · intro j3
        refine Wp.iload_n dX12_undo_7 rfl rfl ?_
        refine Wp.aload_n dX12_undo_8 rfl (by first | exact Or.inr ⟨_, rfl⟩ | exact Or.inl rfl) rfl ?_
        refine Wp.get dX12_undo_9 fl_X12_89 hM.ob hP.nn rfl ?_
        refine Wp.icmp_ge (tgt := 112) (n := 15) dX12_undo_12 (by decide) rfl (fun c_12 => ?_) (fun c_12 => ?_)
        · try simp (disch := omega) only [nI_bit0, nI_bit1, Bool.not_eq_false, Bool.not_eq_true] at c_12
          try simp (disch := omega) only [i_lt, i_le, i_eq, l_lt, l_le, l_eq, i_0, i_m1, l_0, nI_tI, iI_tI, lI_tI, Int.not_lt, Int.not_le] at c_12
          omega
        · try simp (disch := omega) only [nI_bit0, nI_bit1, Bool.not_eq_false, Bool.not_eq_true] at c_12
          try simp (disch := omega) only [i_lt, i_le, i_eq, l_lt, l_le, l_eq, i_0, i_m1, l_0, nI_tI, iI_tI, lI_tI, Int.not_lt, Int.not_le] at c_12
          refine Wp.iload_n dX12_undo_15 rfl rfl ?_
          refine Wp.bif_eq (tgt := 112) (n := 19) dX12_undo_16 (by decide) rfl (fun c_16 => ?_) (fun c_16 => ?_)
          · rw [c_16]
            have hno : ¬ (σ.U ≠ 0 ∧ okU σ σ.n = true) := fun z => by have := okU_le σ.n i (Nat.le_of_lt hi) z.2; rw [c_16] at this; cases this
            refine Wp.iload_n dX12_undo_112 rfl rfl ?_
            refine Wp.bif_ne (tgt := 119) (n := 116) dX12_undo_113 (by decide) rfl (fun c_ => Bool.noConfusion c_) (fun _ => ?_)
            refine Wp.bipush (v := (-3)) dX12_undo_116 (by decide) rfl ?_
            exact Wp.iret dX12_undo_118 rfl (RQ.i (by rw [a_undo, if_neg (hno)]) hM (by rw [t_undo, if_neg (hno)]; exact hP) (Out.rfl (x := x) (h := h)))
          · have hO := hP.of i hi
            have hOw := hW.of i hi
            have hkk := hOw.k
            have hwy := hOw.wy
            have hpr := hOw.pr
            have hp7 := pow_T hT
            
            refine Wp.aload_n dX12_undo_19 rfl (by first | exact Or.inr ⟨_, rfl⟩ | exact Or.inl rfl) rfl ?_
            refine Wp.get dX12_undo_20 fl_X12_16 hM.ob (hM.rf 4 (by decide)) rfl ?_
            refine Wp.iload_n dX12_undo_23 rfl rfl ?_
            refine Wp.iaload dX12_undo_24 (hM.ia 4 (by decide)) (nI_toInt (by omega)) (by show _ < 10; omega) rfl ?_
            rw [hO.k]
            refine Wp.iconst (v := (nI 2)) dX12_undo_25 (by decide) rfl ?_
            refine Wp.icmp_ne (tgt := 62) (n := 29) dX12_undo_26 (by decide) rfl (fun c_26 => ?_) (fun c_26 => ?_)
            · try simp (disch := omega) only [nI_bit0, nI_bit1, Bool.not_eq_false, Bool.not_eq_true] at c_26
              try simp (disch := omega) only [i_lt, i_le, i_eq, l_lt, l_le, l_eq, i_0, i_m1, l_0, nI_tI, iI_tI, lI_tI, Int.not_lt, Int.not_le] at c_26
              refine Wp.iconst (v := (-1)) dX12_undo_62 (by decide) rfl ?_
              refine Wp.istore_n dX12_undo_63 (Nat.le_of_ble_eq_true rfl) (by dsimp only [ev_st1, ev_st2, ev_cl] <;> rfl) rfl ?_
              refine Wp.iload_n dX12_undo_64 rfl rfl ?_
              refine Wp.aload_n dX12_undo_65 rfl (by first | exact Or.inr ⟨_, rfl⟩ | exact Or.inl rfl) rfl ?_
              refine Wp.get dX12_undo_66 fl_X12_13 hM.ob (hM.rf 1 (by decide)) rfl ?_
              refine Wp.iconst (v := (nI 0)) dX12_undo_69 (by decide) rfl ?_
              refine Wp.iaload dX12_undo_70 (hM.ia 1 (by decide)) (j := 0) (by decide) (by show _ < 50; omega) rfl ?_
              rw [hbf.T]
              refine Wp.icmp_ge (tgt := 104) (n := 74) dX12_undo_71 (by decide) rfl (fun c_71 => ?_) (fun c_71 => ?_)
              · try simp (disch := omega) only [nI_bit0, nI_bit1, Bool.not_eq_false, Bool.not_eq_true] at c_71
                try simp (disch := omega) only [i_lt, i_le, i_eq, l_lt, l_le, l_eq, i_0, i_m1, l_0, nI_tI, iI_tI, lI_tI, Int.not_lt, Int.not_le] at c_71
                refine Wp.iconst (v := (nI 0)) dX12_undo_104 (by decide) rfl ?_
                refine Wp.istore_n dX12_undo_105 (Nat.le_of_ble_eq_true rfl) (by dsimp only [ev_st1, ev_st2, ev_cl] <;> rfl) rfl ?_
                refine Wp.iinc (v := _ + (nI 1)) dX12_undo_106 rfl rfl (Nat.le_of_ble_eq_true rfl) (by dsimp only [ev_st1, ev_cl] <;> rfl) rfl ?_
                refine Wp.goto (n := 7) dX12_undo_109 (by decide) ?_
                rw [nI_add1, bI_f (b := okU σ (i + 1)) (by show (okU σ i && okO σ.B.T (σ.O i)) = false; rw [c_16, Bool.true_and]; exact decide_eq_false (fun z => by first | (have z1 := z.1 (by omega); omega) | (have z2 := z.2 (by omega); omega)))]
                exact ih _
              · try simp (disch := omega) only [nI_bit0, nI_bit1, Bool.not_eq_false, Bool.not_eq_true] at c_71
                try simp (disch := omega) only [i_lt, i_le, i_eq, l_lt, l_le, l_eq, i_0, i_m1, l_0, nI_tI, iI_tI, lI_tI, Int.not_lt, Int.not_le] at c_71
                refine Wp.aload_n dX12_undo_74 rfl (by first | exact Or.inr ⟨_, rfl⟩ | exact Or.inl rfl) rfl ?_
                refine Wp.get dX12_undo_75 fl_X12_16 hM.ob (hM.rf 4 (by decide)) rfl ?_
                refine Wp.iload_n dX12_undo_78 rfl rfl ?_
                refine Wp.iaload dX12_undo_79 (hM.ia 4 (by decide)) (nI_toInt (by omega)) (by show _ < 10; omega) rfl ?_
                rw [hO.k]
                refine Wp.iconst (v := (nI 3)) dX12_undo_80 (by decide) rfl ?_
                refine Wp.icmp_ne (tgt := 100) (n := 84) dX12_undo_81 (by decide) rfl (fun c_81 => ?_) (fun c_81 => ?_)
                · try simp (disch := omega) only [nI_bit0, nI_bit1, Bool.not_eq_false, Bool.not_eq_true] at c_81
                  try simp (disch := omega) only [i_lt, i_le, i_eq, l_lt, l_le, l_eq, i_0, i_m1, l_0, nI_tI, iI_tI, lI_tI, Int.not_lt, Int.not_le] at c_81
                  refine Wp.iconst (v := (nI 1)) dX12_undo_100 (by decide) rfl ?_
                  refine Wp.goto (n := 105) dX12_undo_101 (by decide) ?_
                  refine Wp.istore_n dX12_undo_105 (Nat.le_of_ble_eq_true rfl) (by dsimp only [ev_st1, ev_st2, ev_cl] <;> rfl) rfl ?_
                  refine Wp.iinc (v := _ + (nI 1)) dX12_undo_106 rfl rfl (Nat.le_of_ble_eq_true rfl) (by dsimp only [ev_st1, ev_cl] <;> rfl) rfl ?_
                  refine Wp.goto (n := 7) dX12_undo_109 (by decide) ?_
                  rw [nI_add1, bI_t (b := okU σ (i + 1)) (by show (okU σ i && okO σ.B.T (σ.O i)) = true; rw [c_16, Bool.true_and]; exact decide_eq_true ⟨fun z => by omega, fun z => by first | omega | exact c_97⟩)]
                  exact ih _
                · try simp (disch := omega) only [nI_bit0, nI_bit1, Bool.not_eq_false, Bool.not_eq_true] at c_81
                  try simp (disch := omega) only [i_lt, i_le, i_eq, l_lt, l_le, l_eq, i_0, i_m1, l_0, nI_tI, iI_tI, lI_tI, Int.not_lt, Int.not_le] at c_81
                  refine Wp.aload_n dX12_undo_84 rfl (by first | exact Or.inr ⟨_, rfl⟩ | exact Or.inl rfl) rfl ?_
                  refine Wp.get dX12_undo_85 fl_X12_19 hM.ob (hM.rf 5 (by decide)) rfl ?_
                  refine Wp.iload_n dX12_undo_88 rfl rfl ?_
                  refine Wp.iaload dX12_undo_89 (hM.ia 5 (by decide)) (nI_toInt (by omega)) (by show _ < 10; omega) rfl ?_
                  rw [hO.f]
                  refine Wp.aload_n dX12_undo_90 rfl (by first | exact Or.inr ⟨_, rfl⟩ | exact Or.inl rfl) rfl ?_
                  refine Wp.get dX12_undo_91 fl_X12_13 hM.ob (hM.rf 1 (by decide)) rfl ?_
                  refine Wp.iconst (v := (nI 0)) dX12_undo_94 (by decide) rfl ?_
                  refine Wp.iaload dX12_undo_95 (hM.ia 1 (by decide)) (j := 0) (by decide) (by show _ < 50; omega) rfl ?_
                  rw [hbf.T]
                  refine Wp.ishr dX12_undo_96 rfl ?_
                  rw [nI_shr (by have := hpr (by omega); omega) (by omega)]
                  refine Wp.if_ne (tgt := 104) (n := 100) dX12_undo_97 (by decide) rfl (fun c_97 => ?_) (fun c_97 => ?_)
                  · have c_97 : ¬ (σ.O i).f < 2 ^ σ.B.T := fun z => c_97 (by rw [shr_0.mpr z]; rfl)
                    refine Wp.iconst (v := (nI 0)) dX12_undo_104 (by decide) rfl ?_
                    refine Wp.istore_n dX12_undo_105 (Nat.le_of_ble_eq_true rfl) (by dsimp only [ev_st1, ev_st2, ev_cl] <;> rfl) rfl ?_
                    refine Wp.iinc (v := _ + (nI 1)) dX12_undo_106 rfl rfl (Nat.le_of_ble_eq_true rfl) (by dsimp only [ev_st1, ev_cl] <;> rfl) rfl ?_
                    refine Wp.goto (n := 7) dX12_undo_109 (by decide) ?_
                    rw [nI_add1, bI_f (b := okU σ (i + 1)) (by show (okU σ i && okO σ.B.T (σ.O i)) = false; rw [c_16, Bool.true_and]; exact decide_eq_false (fun z => by first | (have z1 := z.1 (by omega); omega) | (have z2 := z.2 (by omega); omega)))]
                    exact ih _
                  · have c_97 : (σ.O i).f < 2 ^ σ.B.T := by
                      refine shr_0.mp ((nI_eq0 ?_).mp c_97)
                      have := hpr (by omega)
                      exact Nat.lt_of_le_of_lt (Nat.shiftRight_le _ _) (by omega)
                    refine Wp.iconst (v := (nI 1)) dX12_undo_100 (by decide) rfl ?_
                    refine Wp.goto (n := 105) dX12_undo_101 (by decide) ?_
                    refine Wp.istore_n dX12_undo_105 (Nat.le_of_ble_eq_true rfl) (by dsimp only [ev_st1, ev_st2, ev_cl] <;> rfl) rfl ?_
                    refine Wp.iinc (v := _ + (nI 1)) dX12_undo_106 rfl rfl (Nat.le_of_ble_eq_true rfl) (by dsimp only [ev_st1, ev_cl] <;> rfl) rfl ?_
                    refine Wp.goto (n := 7) dX12_undo_109 (by decide) ?_
                    rw [nI_add1, bI_t (b := okU σ (i + 1)) (by show (okU σ i && okO σ.B.T (σ.O i)) = true; rw [c_16, Bool.true_and]; exact decide_eq_true ⟨fun z => by omega, fun z => by first | omega | exact c_97⟩)]
                    exact ih _
            · try simp (disch := omega) only [nI_bit0, nI_bit1, Bool.not_eq_false, Bool.not_eq_true] at c_26
              try simp (disch := omega) only [i_lt, i_le, i_eq, l_lt, l_le, l_eq, i_0, i_m1, l_0, nI_tI, iI_tI, lI_tI, Int.not_lt, Int.not_le] at c_26
              refine Wp.aload_n dX12_undo_29 rfl (by first | exact Or.inr ⟨_, rfl⟩ | exact Or.inl rfl) rfl ?_
              refine Wp.get dX12_undo_30 fl_X12_19 hM.ob (hM.rf 5 (by decide)) rfl ?_
              refine Wp.iload_n dX12_undo_33 rfl rfl ?_
              refine Wp.iaload dX12_undo_34 (hM.ia 5 (by decide)) (nI_toInt (by omega)) (by show _ < 10; omega) rfl ?_
              rw [hO.f]
              refine Wp.aload_n dX12_undo_35 rfl (by first | exact Or.inr ⟨_, rfl⟩ | exact Or.inl rfl) rfl ?_
              refine Wp.get dX12_undo_36 fl_X12_22 hM.ob (hM.rf 6 (by decide)) rfl ?_
              refine Wp.iload_n dX12_undo_39 rfl rfl ?_
              refine Wp.iaload dX12_undo_40 (hM.ia 6 (by decide)) (nI_toInt (by omega)) (by show _ < 10; omega) rfl ?_
              rw [hO.s]
              refine Wp.icmp_le (tgt := 53) (n := 44) dX12_undo_41 (by decide) rfl (fun c_41 => ?_) (fun c_41 => ?_)
              · try simp (disch := omega) only [nI_bit0, nI_bit1, Bool.not_eq_false, Bool.not_eq_true] at c_41
                try simp (disch := omega) only [i_lt, i_le, i_eq, l_lt, l_le, l_eq, i_0, i_m1, l_0, nI_tI, iI_tI, lI_tI, Int.not_lt, Int.not_le] at c_41
                refine Wp.aload_n dX12_undo_53 rfl (by first | exact Or.inr ⟨_, rfl⟩ | exact Or.inl rfl) rfl ?_
                refine Wp.get dX12_undo_54 fl_X12_22 hM.ob (hM.rf 6 (by decide)) rfl ?_
                refine Wp.iload_n dX12_undo_57 rfl rfl ?_
                refine Wp.iaload dX12_undo_58 (hM.ia 6 (by decide)) (nI_toInt (by omega)) (by show _ < 10; omega) rfl ?_
                rw [hO.s]
                refine Wp.goto (n := 63) dX12_undo_59 (by decide) ?_
                refine Wp.istore_n dX12_undo_63 (Nat.le_of_ble_eq_true rfl) (by dsimp only [ev_st1, ev_st2, ev_cl] <;> rfl) rfl ?_
                refine Wp.iload_n dX12_undo_64 rfl rfl ?_
                refine Wp.aload_n dX12_undo_65 rfl (by first | exact Or.inr ⟨_, rfl⟩ | exact Or.inl rfl) rfl ?_
                refine Wp.get dX12_undo_66 fl_X12_13 hM.ob (hM.rf 1 (by decide)) rfl ?_
                refine Wp.iconst (v := (nI 0)) dX12_undo_69 (by decide) rfl ?_
                refine Wp.iaload dX12_undo_70 (hM.ia 1 (by decide)) (j := 0) (by decide) (by show _ < 50; omega) rfl ?_
                rw [hbf.T]
                refine Wp.icmp_ge (tgt := 104) (n := 74) dX12_undo_71 (by decide) rfl (fun c_71 => ?_) (fun c_71 => ?_)
                · try simp (disch := omega) only [nI_bit0, nI_bit1, Bool.not_eq_false, Bool.not_eq_true] at c_71
                  try simp (disch := omega) only [i_lt, i_le, i_eq, l_lt, l_le, l_eq, i_0, i_m1, l_0, nI_tI, iI_tI, lI_tI, Int.not_lt, Int.not_le] at c_71
                  refine Wp.iconst (v := (nI 0)) dX12_undo_104 (by decide) rfl ?_
                  refine Wp.istore_n dX12_undo_105 (Nat.le_of_ble_eq_true rfl) (by dsimp only [ev_st1, ev_st2, ev_cl] <;> rfl) rfl ?_
                  refine Wp.iinc (v := _ + (nI 1)) dX12_undo_106 rfl rfl (Nat.le_of_ble_eq_true rfl) (by dsimp only [ev_st1, ev_cl] <;> rfl) rfl ?_
                  refine Wp.goto (n := 7) dX12_undo_109 (by decide) ?_
                  rw [nI_add1, bI_f (b := okU σ (i + 1)) (by show (okU σ i && okO σ.B.T (σ.O i)) = false; rw [c_16, Bool.true_and]; exact decide_eq_false (fun z => by first | (have z1 := z.1 (by omega); omega) | (have z2 := z.2 (by omega); omega)))]
                  exact ih _
                · try simp (disch := omega) only [nI_bit0, nI_bit1, Bool.not_eq_false, Bool.not_eq_true] at c_71
                  try simp (disch := omega) only [i_lt, i_le, i_eq, l_lt, l_le, l_eq, i_0, i_m1, l_0, nI_tI, iI_tI, lI_tI, Int.not_lt, Int.not_le] at c_71
                  refine Wp.aload_n dX12_undo_74 rfl (by first | exact Or.inr ⟨_, rfl⟩ | exact Or.inl rfl) rfl ?_
                  refine Wp.get dX12_undo_75 fl_X12_16 hM.ob (hM.rf 4 (by decide)) rfl ?_
                  refine Wp.iload_n dX12_undo_78 rfl rfl ?_
                  refine Wp.iaload dX12_undo_79 (hM.ia 4 (by decide)) (nI_toInt (by omega)) (by show _ < 10; omega) rfl ?_
                  rw [hO.k]
                  refine Wp.iconst (v := (nI 3)) dX12_undo_80 (by decide) rfl ?_
                  refine Wp.icmp_ne (tgt := 100) (n := 84) dX12_undo_81 (by decide) rfl (fun c_81 => ?_) (fun c_81 => ?_)
                  · try simp (disch := omega) only [nI_bit0, nI_bit1, Bool.not_eq_false, Bool.not_eq_true] at c_81
                    try simp (disch := omega) only [i_lt, i_le, i_eq, l_lt, l_le, l_eq, i_0, i_m1, l_0, nI_tI, iI_tI, lI_tI, Int.not_lt, Int.not_le] at c_81
                    refine Wp.iconst (v := (nI 1)) dX12_undo_100 (by decide) rfl ?_
                    refine Wp.goto (n := 105) dX12_undo_101 (by decide) ?_
                    refine Wp.istore_n dX12_undo_105 (Nat.le_of_ble_eq_true rfl) (by dsimp only [ev_st1, ev_st2, ev_cl] <;> rfl) rfl ?_
                    refine Wp.iinc (v := _ + (nI 1)) dX12_undo_106 rfl rfl (Nat.le_of_ble_eq_true rfl) (by dsimp only [ev_st1, ev_cl] <;> rfl) rfl ?_
                    refine Wp.goto (n := 7) dX12_undo_109 (by decide) ?_
                    rw [nI_add1, bI_t (b := okU σ (i + 1)) (by show (okU σ i && okO σ.B.T (σ.O i)) = true; rw [c_16, Bool.true_and]; exact decide_eq_true ⟨fun z => by omega, fun z => by first | omega | exact c_97⟩)]
                    exact ih _
                  · try simp (disch := omega) only [nI_bit0, nI_bit1, Bool.not_eq_false, Bool.not_eq_true] at c_81
                    try simp (disch := omega) only [i_lt, i_le, i_eq, l_lt, l_le, l_eq, i_0, i_m1, l_0, nI_tI, iI_tI, lI_tI, Int.not_lt, Int.not_le] at c_81
                    refine Wp.aload_n dX12_undo_84 rfl (by first | exact Or.inr ⟨_, rfl⟩ | exact Or.inl rfl) rfl ?_
                    refine Wp.get dX12_undo_85 fl_X12_19 hM.ob (hM.rf 5 (by decide)) rfl ?_
                    refine Wp.iload_n dX12_undo_88 rfl rfl ?_
                    refine Wp.iaload dX12_undo_89 (hM.ia 5 (by decide)) (nI_toInt (by omega)) (by show _ < 10; omega) rfl ?_
                    rw [hO.f]
                    refine Wp.aload_n dX12_undo_90 rfl (by first | exact Or.inr ⟨_, rfl⟩ | exact Or.inl rfl) rfl ?_
                    refine Wp.get dX12_undo_91 fl_X12_13 hM.ob (hM.rf 1 (by decide)) rfl ?_
                    refine Wp.iconst (v := (nI 0)) dX12_undo_94 (by decide) rfl ?_
                    refine Wp.iaload dX12_undo_95 (hM.ia 1 (by decide)) (j := 0) (by decide) (by show _ < 50; omega) rfl ?_
                    rw [hbf.T]
                    refine Wp.ishr dX12_undo_96 rfl ?_
                    rw [nI_shr (by have := hpr (by omega); omega) (by omega)]
                    refine Wp.if_ne (tgt := 104) (n := 100) dX12_undo_97 (by decide) rfl (fun c_97 => ?_) (fun c_97 => ?_)
                    · have c_97 : ¬ (σ.O i).f < 2 ^ σ.B.T := fun z => c_97 (by rw [shr_0.mpr z]; rfl)
                      refine Wp.iconst (v := (nI 0)) dX12_undo_104 (by decide) rfl ?_
                      refine Wp.istore_n dX12_undo_105 (Nat.le_of_ble_eq_true rfl) (by dsimp only [ev_st1, ev_st2, ev_cl] <;> rfl) rfl ?_
                      refine Wp.iinc (v := _ + (nI 1)) dX12_undo_106 rfl rfl (Nat.le_of_ble_eq_true rfl) (by dsimp only [ev_st1, ev_cl] <;> rfl) rfl ?_
                      refine Wp.goto (n := 7) dX12_undo_109 (by decide) ?_
                      rw [nI_add1, bI_f (b := okU σ (i + 1)) (by show (okU σ i && okO σ.B.T (σ.O i)) = false; rw [c_16, Bool.true_and]; exact decide_eq_false (fun z => by first | (have z1 := z.1 (by omega); omega) | (have z2 := z.2 (by omega); omega)))]
                      exact ih _
                    · have c_97 : (σ.O i).f < 2 ^ σ.B.T := by
                        refine shr_0.mp ((nI_eq0 ?_).mp c_97)
                        have := hpr (by omega)
                        exact Nat.lt_of_le_of_lt (Nat.shiftRight_le _ _) (by omega)
                      refine Wp.iconst (v := (nI 1)) dX12_undo_100 (by decide) rfl ?_
                      refine Wp.goto (n := 105) dX12_undo_101 (by decide) ?_
                      refine Wp.istore_n dX12_undo_105 (Nat.le_of_ble_eq_true rfl) (by dsimp only [ev_st1, ev_st2, ev_cl] <;> rfl) rfl ?_
                      refine Wp.iinc (v := _ + (nI 1)) dX12_undo_106 rfl rfl (Nat.le_of_ble_eq_true rfl) (by dsimp only [ev_st1, ev_cl] <;> rfl) rfl ?_
                      refine Wp.goto (n := 7) dX12_undo_109 (by decide) ?_
                      rw [nI_add1, bI_t (b := okU σ (i + 1)) (by show (okU σ i && okO σ.B.T (σ.O i)) = true; rw [c_16, Bool.true_and]; exact decide_eq_true ⟨fun z => by omega, fun z => by first | omega | exact c_97⟩)]
                      exact ih _
              · try simp (disch := omega) only [nI_bit0, nI_bit1, Bool.not_eq_false, Bool.not_eq_true] at c_41
                try simp (disch := omega) only [i_lt, i_le, i_eq, l_lt, l_le, l_eq, i_0, i_m1, l_0, nI_tI, iI_tI, lI_tI, Int.not_lt, Int.not_le] at c_41
                refine Wp.aload_n dX12_undo_44 rfl (by first | exact Or.inr ⟨_, rfl⟩ | exact Or.inl rfl) rfl ?_
                refine Wp.get dX12_undo_45 fl_X12_19 hM.ob (hM.rf 5 (by decide)) rfl ?_
                refine Wp.iload_n dX12_undo_48 rfl rfl ?_
                refine Wp.iaload dX12_undo_49 (hM.ia 5 (by decide)) (nI_toInt (by omega)) (by show _ < 10; omega) rfl ?_
                rw [hO.f]
                refine Wp.goto (n := 63) dX12_undo_50 (by decide) ?_
                refine Wp.istore_n dX12_undo_63 (Nat.le_of_ble_eq_true rfl) (by dsimp only [ev_st1, ev_st2, ev_cl] <;> rfl) rfl ?_
                refine Wp.iload_n dX12_undo_64 rfl rfl ?_
                refine Wp.aload_n dX12_undo_65 rfl (by first | exact Or.inr ⟨_, rfl⟩ | exact Or.inl rfl) rfl ?_
                refine Wp.get dX12_undo_66 fl_X12_13 hM.ob (hM.rf 1 (by decide)) rfl ?_
                refine Wp.iconst (v := (nI 0)) dX12_undo_69 (by decide) rfl ?_
                refine Wp.iaload dX12_undo_70 (hM.ia 1 (by decide)) (j := 0) (by decide) (by show _ < 50; omega) rfl ?_
                rw [hbf.T]
                refine Wp.icmp_ge (tgt := 104) (n := 74) dX12_undo_71 (by decide) rfl (fun c_71 => ?_) (fun c_71 => ?_)
                · try simp (disch := omega) only [nI_bit0, nI_bit1, Bool.not_eq_false, Bool.not_eq_true] at c_71
                  try simp (disch := omega) only [i_lt, i_le, i_eq, l_lt, l_le, l_eq, i_0, i_m1, l_0, nI_tI, iI_tI, lI_tI, Int.not_lt, Int.not_le] at c_71
                  refine Wp.iconst (v := (nI 0)) dX12_undo_104 (by decide) rfl ?_
                  refine Wp.istore_n dX12_undo_105 (Nat.le_of_ble_eq_true rfl) (by dsimp only [ev_st1, ev_st2, ev_cl] <;> rfl) rfl ?_
                  refine Wp.iinc (v := _ + (nI 1)) dX12_undo_106 rfl rfl (Nat.le_of_ble_eq_true rfl) (by dsimp only [ev_st1, ev_cl] <;> rfl) rfl ?_
                  refine Wp.goto (n := 7) dX12_undo_109 (by decide) ?_
                  rw [nI_add1, bI_f (b := okU σ (i + 1)) (by show (okU σ i && okO σ.B.T (σ.O i)) = false; rw [c_16, Bool.true_and]; exact decide_eq_false (fun z => by first | (have z1 := z.1 (by omega); omega) | (have z2 := z.2 (by omega); omega)))]
                  exact ih _
                · try simp (disch := omega) only [nI_bit0, nI_bit1, Bool.not_eq_false, Bool.not_eq_true] at c_71
                  try simp (disch := omega) only [i_lt, i_le, i_eq, l_lt, l_le, l_eq, i_0, i_m1, l_0, nI_tI, iI_tI, lI_tI, Int.not_lt, Int.not_le] at c_71
                  refine Wp.aload_n dX12_undo_74 rfl (by first | exact Or.inr ⟨_, rfl⟩ | exact Or.inl rfl) rfl ?_
                  refine Wp.get dX12_undo_75 fl_X12_16 hM.ob (hM.rf 4 (by decide)) rfl ?_
                  refine Wp.iload_n dX12_undo_78 rfl rfl ?_
                  refine Wp.iaload dX12_undo_79 (hM.ia 4 (by decide)) (nI_toInt (by omega)) (by show _ < 10; omega) rfl ?_
                  rw [hO.k]
                  refine Wp.iconst (v := (nI 3)) dX12_undo_80 (by decide) rfl ?_
                  refine Wp.icmp_ne (tgt := 100) (n := 84) dX12_undo_81 (by decide) rfl (fun c_81 => ?_) (fun c_81 => ?_)
                  · try simp (disch := omega) only [nI_bit0, nI_bit1, Bool.not_eq_false, Bool.not_eq_true] at c_81
                    try simp (disch := omega) only [i_lt, i_le, i_eq, l_lt, l_le, l_eq, i_0, i_m1, l_0, nI_tI, iI_tI, lI_tI, Int.not_lt, Int.not_le] at c_81
                    refine Wp.iconst (v := (nI 1)) dX12_undo_100 (by decide) rfl ?_
                    refine Wp.goto (n := 105) dX12_undo_101 (by decide) ?_
                    refine Wp.istore_n dX12_undo_105 (Nat.le_of_ble_eq_true rfl) (by dsimp only [ev_st1, ev_st2, ev_cl] <;> rfl) rfl ?_
                    refine Wp.iinc (v := _ + (nI 1)) dX12_undo_106 rfl rfl (Nat.le_of_ble_eq_true rfl) (by dsimp only [ev_st1, ev_cl] <;> rfl) rfl ?_
                    refine Wp.goto (n := 7) dX12_undo_109 (by decide) ?_
                    rw [nI_add1, bI_t (b := okU σ (i + 1)) (by show (okU σ i && okO σ.B.T (σ.O i)) = true; rw [c_16, Bool.true_and]; exact decide_eq_true ⟨fun z => by omega, fun z => by first | omega | exact c_97⟩)]
                    exact ih _
                  · try simp (disch := omega) only [nI_bit0, nI_bit1, Bool.not_eq_false, Bool.not_eq_true] at c_81
                    try simp (disch := omega) only [i_lt, i_le, i_eq, l_lt, l_le, l_eq, i_0, i_m1, l_0, nI_tI, iI_tI, lI_tI, Int.not_lt, Int.not_le] at c_81
                    refine Wp.aload_n dX12_undo_84 rfl (by first | exact Or.inr ⟨_, rfl⟩ | exact Or.inl rfl) rfl ?_
                    refine Wp.get dX12_undo_85 fl_X12_19 hM.ob (hM.rf 5 (by decide)) rfl ?_
                    refine Wp.iload_n dX12_undo_88 rfl rfl ?_
                    refine Wp.iaload dX12_undo_89 (hM.ia 5 (by decide)) (nI_toInt (by omega)) (by show _ < 10; omega) rfl ?_
                    rw [hO.f]
                    refine Wp.aload_n dX12_undo_90 rfl (by first | exact Or.inr ⟨_, rfl⟩ | exact Or.inl rfl) rfl ?_
                    refine Wp.get dX12_undo_91 fl_X12_13 hM.ob (hM.rf 1 (by decide)) rfl ?_
                    refine Wp.iconst (v := (nI 0)) dX12_undo_94 (by decide) rfl ?_
                    refine Wp.iaload dX12_undo_95 (hM.ia 1 (by decide)) (j := 0) (by decide) (by show _ < 50; omega) rfl ?_
                    rw [hbf.T]
                    refine Wp.ishr dX12_undo_96 rfl ?_
                    rw [nI_shr (by have := hpr (by omega); omega) (by omega)]
                    refine Wp.if_ne (tgt := 104) (n := 100) dX12_undo_97 (by decide) rfl (fun c_97 => ?_) (fun c_97 => ?_)
                    · have c_97 : ¬ (σ.O i).f < 2 ^ σ.B.T := fun z => c_97 (by rw [shr_0.mpr z]; rfl)
                      refine Wp.iconst (v := (nI 0)) dX12_undo_104 (by decide) rfl ?_
                      refine Wp.istore_n dX12_undo_105 (Nat.le_of_ble_eq_true rfl) (by dsimp only [ev_st1, ev_st2, ev_cl] <;> rfl) rfl ?_
                      refine Wp.iinc (v := _ + (nI 1)) dX12_undo_106 rfl rfl (Nat.le_of_ble_eq_true rfl) (by dsimp only [ev_st1, ev_cl] <;> rfl) rfl ?_
                      refine Wp.goto (n := 7) dX12_undo_109 (by decide) ?_
                      rw [nI_add1, bI_f (b := okU σ (i + 1)) (by show (okU σ i && okO σ.B.T (σ.O i)) = false; rw [c_16, Bool.true_and]; exact decide_eq_false (fun z => by first | (have z1 := z.1 (by omega); omega) | (have z2 := z.2 (by omega); omega)))]
                      exact ih _
                    · have c_97 : (σ.O i).f < 2 ^ σ.B.T := by
                        refine shr_0.mp ((nI_eq0 ?_).mp c_97)
                        have := hpr (by omega)
                        exact Nat.lt_of_le_of_lt (Nat.shiftRight_le _ _) (by omega)
                      refine Wp.iconst (v := (nI 1)) dX12_undo_100 (by decide) rfl ?_
                      refine Wp.goto (n := 105) dX12_undo_101 (by decide) ?_
                      refine Wp.istore_n dX12_undo_105 (Nat.le_of_ble_eq_true rfl) (by dsimp only [ev_st1, ev_st2, ev_cl] <;> rfl) rfl ?_
                      refine Wp.iinc (v := _ + (nI 1)) dX12_undo_106 rfl rfl (Nat.le_of_ble_eq_true rfl) (by dsimp only [ev_st1, ev_cl] <;> rfl) rfl ?_
                      refine Wp.goto (n := 7) dX12_undo_109 (by decide) ?_
                      rw [nI_add1, bI_t (b := okU σ (i + 1)) (by show (okU σ i && okO σ.B.T (σ.O i)) = true; rw [c_16, Bool.true_and]; exact decide_eq_true ⟨fun z => by omega, fun z => by first | omega | exact c_97⟩)]
                      exact ih _
      · intro j3
        refine Wp.iload_n dX12_undo_7 rfl rfl ?_
        refine Wp.aload_n dX12_undo_8 rfl (by first | exact Or.inr ⟨_, rfl⟩ | exact Or.inl rfl) rfl ?_
        refine Wp.get dX12_undo_9 fl_X12_89 hM.ob hP.nn rfl ?_
        refine Wp.icmp_ge (tgt := 112) (n := 15) dX12_undo_12 (by decide) rfl (fun c_12 => ?_) (fun c_12 => ?_)
        · try simp (disch := omega) only [nI_bit0, nI_bit1, Bool.not_eq_false, Bool.not_eq_true] at c_12
          try simp (disch := omega) only [i_lt, i_le, i_eq, l_lt, l_le, l_eq, i_0, i_m1, l_0, nI_tI, iI_tI, lI_tI, Int.not_lt, Int.not_le] at c_12
          rcases hc : okU σ σ.n with _ | _
          · refine Wp.iload_n dX12_undo_112 rfl rfl ?_
            refine Wp.bif_ne (tgt := 119) (n := 116) dX12_undo_113 (by decide) rfl (fun c_ => Bool.noConfusion c_) (fun _ => ?_)
            refine Wp.bipush (v := (-3)) dX12_undo_116 (by decide) rfl ?_
            exact Wp.iret dX12_undo_118 rfl (RQ.i (by rw [a_undo, if_neg (fun z => by have := z.2; rw [hc] at this; cases this)]) hM (by rw [t_undo, if_neg (fun z => by have := z.2; rw [hc] at this; cases this)]; exact hP) (Out.rfl (x := x) (h := h)))
          · refine Wp.iload_n dX12_undo_112 rfl rfl ?_
            refine Wp.bif_ne (tgt := 119) (n := 116) dX12_undo_113 (by decide) rfl (fun _ => s119 hU hc _ _) (fun c_ => Bool.noConfusion c_)
        · try simp (disch := omega) only [nI_bit0, nI_bit1, Bool.not_eq_false, Bool.not_eq_true] at c_12
          try simp (disch := omega) only [i_lt, i_le, i_eq, l_lt, l_le, l_eq, i_0, i_m1, l_0, nI_tI, iI_tI, lI_tI, Int.not_lt, Int.not_le] at c_12
          omega
    refine Wp.aload_n dX12_undo_0 rfl (by first | exact Or.inr ⟨_, rfl⟩ | exact Or.inl rfl) rfl ?_
    refine Wp.get dX12_undo_1 fl_X12_96 hM.ob hP.may rfl ?_
    rw [show (bI (decide (σ.U ≠ 0))) = bI (okU σ 0) from by rw [decide_eq_true hU]; rfl]
    refine Wp.istore_n dX12_undo_4 (Nat.le_of_ble_eq_true rfl) (by dsimp only [ev_st1, ev_st2, ev_cl] <;> rfl) rfl ?_
    refine Wp.iconst (v := (nI 0)) dX12_undo_5 (by decide) rfl ?_
    refine Wp.istore_n dX12_undo_6 (Nat.le_of_ble_eq_true rfl) (by dsimp only [ev_st1, ev_st2, ev_cl] <;> rfl) rfl ?_
    exact loop 0 (by omega) _
  · have hno : ¬ (σ.U ≠ 0 ∧ okU σ σ.n = true) := fun z => hU z.1
    refine Wp.aload_n dX12_undo_0 rfl (by first | exact Or.inr ⟨_, rfl⟩ | exact Or.inl rfl) rfl ?_
    refine Wp.get dX12_undo_1 fl_X12_96 hM.ob hP.may rfl ?_
    rw [show (bI (decide (σ.U ≠ 0))) = bI false from by rw [decide_eq_false hU]]
    refine Wp.istore_n dX12_undo_4 (Nat.le_of_ble_eq_true rfl) (by dsimp only [ev_st1, ev_st2, ev_cl] <;> rfl) rfl ?_
    refine Wp.iconst (v := (nI 0)) dX12_undo_5 (by decide) rfl ?_
    refine Wp.istore_n dX12_undo_6 (Nat.le_of_ble_eq_true rfl) (by dsimp only [ev_st1, ev_st2, ev_cl] <;> rfl) rfl ?_
    refine Wp.iload_n dX12_undo_7 rfl rfl ?_
    refine Wp.aload_n dX12_undo_8 rfl (by first | exact Or.inr ⟨_, rfl⟩ | exact Or.inl rfl) rfl ?_
    refine Wp.get dX12_undo_9 fl_X12_89 hM.ob hP.nn rfl ?_
    refine Wp.icmp_ge (tgt := 112) (n := 15) dX12_undo_12 (by decide) rfl (fun c_12 => ?_) (fun c_12 => ?_)
    · try simp (disch := omega) only [nI_bit0, nI_bit1, Bool.not_eq_false, Bool.not_eq_true] at c_12
      try simp (disch := omega) only [i_lt, i_le, i_eq, l_lt, l_le, l_eq, i_0, i_m1, l_0, nI_tI, iI_tI, lI_tI, Int.not_lt, Int.not_le] at c_12
      refine Wp.iload_n dX12_undo_112 rfl rfl ?_
      refine Wp.bif_ne (tgt := 119) (n := 116) dX12_undo_113 (by decide) rfl (fun c_ => Bool.noConfusion c_) (fun _ => ?_)
      refine Wp.bipush (v := (-3)) dX12_undo_116 (by decide) rfl ?_
      exact Wp.iret dX12_undo_118 rfl (RQ.i (by rw [a_undo, if_neg (hno)]) hM (by rw [t_undo, if_neg (hno)]; exact hP) (Out.rfl (x := x) (h := h)))
    · try simp (disch := omega) only [nI_bit0, nI_bit1, Bool.not_eq_false, Bool.not_eq_true] at c_12
      try simp (disch := omega) only [i_lt, i_le, i_eq, l_lt, l_le, l_eq, i_0, i_m1, l_0, nI_tI, iI_tI, lI_tI, Int.not_lt, Int.not_le] at c_12
      refine Wp.iload_n dX12_undo_15 rfl rfl ?_
      refine Wp.bif_eq (tgt := 112) (n := 19) dX12_undo_16 (by decide) rfl (fun _ => ?_) (fun c_ => Bool.noConfusion c_)
      refine Wp.iload_n dX12_undo_112 rfl rfl ?_
      refine Wp.bif_ne (tgt := 119) (n := 116) dX12_undo_113 (by decide) rfl (fun c_ => Bool.noConfusion c_) (fun _ => ?_)
      refine Wp.bipush (v := (-3)) dX12_undo_116 (by decide) rfl ?_
      exact Wp.iret dX12_undo_118 rfl (RQ.i (by rw [a_undo, if_neg (hno)]) hM (by rw [t_undo, if_neg (hno)]; exact hP) (Out.rfl (x := x) (h := h)))
