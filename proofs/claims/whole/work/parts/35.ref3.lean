/-! the reference's public methods: prices -/
theorem nI_mk {n k : Nat} (h : n < 2147483648) (hk : k < 2147483648) : (nI n - nI k).toInt = (n : Int) - k := by
  rw [nI_iI, nI_iI, iI_sub, iI_tI (by omega) (by omega)]
def Sg.win (σ : Sg) (p q p2 q2 : Int) : Sg := Sg.mk σ.N σ.U σ.al σ.sb σ.rb σ.n σ.O p q p2 q2 σ.nR σ.rv σ.nT σ.tr σ.so σ.sz σ.ce
theorem PM.chw {σ : Sg} {V V' : Nat → Value} {G : Nat → Nat → Int32} {Z : Nat → Nat → Int64} {p q p2 q2 : Int} (a : PM σ V G Z) (v : ∀ k, k < 9 ∨ 12 < k → V' k = V k) (h1 : V' 9 = .int (iI p)) (h2 : V' 10 = .int (iI q)) (h3 : V' 11 = .int (iI p2)) (h4 : V' 12 = .int (iI q2)) : PM (σ.win p q p2 q2) V' G Z := by
  refine ⟨a.net, a.bef, ?_, ?_, a.of, h1, h2, h3, h4, ?_, a.rv, ?_, a.tr, a.so, a.sz, a.ce⟩
  · rw [v 2 (by decide)]; exact a.may
  · rw [v 3 (by decide)]; exact a.nn
  · rw [v 13 (by decide)]; exact a.nR
  · rw [v 16 (by decide)]; exact a.nT
abbrev okS (σ : Sg) (s : Int32) : Prop := 0 ≤ s.toInt ∧ s.toInt < ((2 ^ σ.N.L : Nat) : Int)
abbrev w01 (w : Int32) (n : Int) : Prop := 0 ≤ w.toInt ∧ w.toInt ≤ n
def a_cost (σ : Sg) (s p q w : Int32) : Int64 := if okS σ s ∧ isP p.toInt q.toInt ∧ w01 w 1 then lI (low (decide (w = 0)) (sumS σ.N.sa (tn s) σ.N.L * q.toInt + sumS σ.N.ri (tn s) σ.N.L * p.toInt) q.toInt) else -4611686018427387904
def a_best (σ : Sg) (o p q w : Int32) : Int32 := if isO σ o ∧ isP p.toInt q.toInt ∧ w01 w 2 then (if 0 < chn σ (tn o) then nI (chC σ (tn o) (bst (cst (chS σ (tn o)) (chR σ (tn o)) p.toInt q.toInt) (Kw (tn w) (chR σ (tn o))) (chn σ (tn o)))) else -1) else -2
def a_least (σ : Sg) (o p q w : Int32) : Int64 := if (isO σ o ∧ isP p.toInt q.toInt ∧ w01 w 1) ∧ 0 < chn σ (tn o) then lI (low (decide (w = 0)) (mnN (cst (chS σ (tn o)) (chR σ (tn o)) p.toInt q.toInt) (chn σ (tn o))) q.toInt) else -4611686018427387904
abbrev okWn (p q p2 q2 : Int32) : Prop := isP p.toInt q.toInt ∧ isP p2.toInt q2.toInt ∧ p.toInt * q2.toInt ≤ p2.toInt * q.toInt
def a_window (p q p2 q2 : Int32) : Int32 := if okWn p q p2 q2 then 1 else -2
def t_window (σ : Sg) (p q p2 q2 : Int32) : Sg := if okWn p q p2 q2 then σ.win p.toInt q.toInt p2.toInt q2.toInt else σ
def a_bends (σ : Sg) (o : Int32) : Int32 := if isO σ o then nI (npt σ (tn o) - 2) else -2
def a_bend (σ : Sg) (o i w : Int32) : Int64 := if isO σ o ∧ w01 w 3 ∧ 0 ≤ i.toInt ∧ i.toInt + 2 < npt σ (tn o) then lI (bndV σ (tn o) (tn i) (tn w)) else -4611686018427387904
def spV (S R : Nat → Int) (n c : Nat) (w : Int) : Int64 := if w = 0 then (if spB S R c n = true then 1 else 0) else if spB S R c n = true then
  (if w < 3 then (if (loN S R c n).2 = 0 then 0 else lI (low (decide (w = 1)) (loN S R c n).1 (loN S R c n).2)) else (if (hiN S R c n).2 = 0 then 0 else lI (low (decide (w = 3)) (hiN S R c n).1 (hiN S R c n).2))) else -4611686018427387904
def a_span (σ : Sg) (o s w : Int32) : Int64 := if isO σ o ∧ w01 w 4 ∧ 0 ≤ plc σ (tn o) s then spV (chS σ (tn o)) (chR σ (tn o)) (chn σ (tn o)) (plc σ (tn o) s).toNat w.toInt else -4611686018427387904
def tpN (v q : Nat → Int) : Nat → Nat
  | 0 => 0
  | k + 1 => if v (tpN v q k) * q k < v k * q (tpN v q k) then k else tpN v q k
theorem tpN_le (v q : Nat → Int) : ∀ k, tpN v q k ≤ k ∧ (0 < k → tpN v q k < k)
  | 0 => by simp [tpN]
  | k + 1 => by
    have := tpN_le v q k
    simp only [tpN]
    split <;> omega
theorem tpN_1 (v q : Nat → Int) : tpN v q 1 = 0 := by simp [tpN]
def ptL_ (σ : Sg) (o k : Nat) : Int := mnN (cst (chS σ o) (chR σ o) (ptP σ o k) (ptQ σ o k)) (chn σ o)
def a_top (σ : Sg) (o w : Int32) : Int64 := if isO σ o ∧ w01 w 3 ∧ 0 < chn σ (tn o) then
  (if w.toInt = 0 then lI (ptP σ (tn o) (tpN (ptL_ σ (tn o)) (ptQ σ (tn o)) (npt σ (tn o)))) else if w.toInt = 1 then lI (ptQ σ (tn o) (tpN (ptL_ σ (tn o)) (ptQ σ (tn o)) (npt σ (tn o))))
   else lI (low (decide (w.toInt = 2)) (ptL_ σ (tn o) (tpN (ptL_ σ (tn o)) (ptQ σ (tn o)) (npt σ (tn o)))) (ptQ σ (tn o) (tpN (ptL_ σ (tn o)) (ptQ σ (tn o)) (npt σ (tn o)))))) else -4611686018427387904
def rtN (S R : Nat → Int) : Nat → Nat
  | 0 => 0
  | k + 1 => if S k * R (rtN S R k) < S (rtN S R k) * R k then k else rtN S R k
theorem rtN_le (S R : Nat → Int) : ∀ k, rtN S R k ≤ k ∧ (0 < k → rtN S R k < k)
  | 0 => by simp [rtN]
  | k + 1 => by
    have := rtN_le S R k
    simp only [rtN]
    split <;> omega
def goB (R : Nat → Int) (n : Nat) : Nat → Bool
  | 0 => decide (0 < n)
  | k + 1 => goB R n k && decide (0 < R k)
def a_ratio (σ : Sg) (o w : Int32) : Int64 := if isO σ o ∧ w01 w 2 ∧ goB (chR σ (tn o)) (chn σ (tn o)) (chn σ (tn o)) = true then
  (if w.toInt = 2 then lI (chC σ (tn o) (rtN (chS σ (tn o)) (chR σ (tn o)) (chn σ (tn o)))) else lI (low (decide (w = 0)) (chS σ (tn o) (rtN (chS σ (tn o)) (chR σ (tn o)) (chn σ (tn o)))) (chR σ (tn o) (rtN (chS σ (tn o)) (chR σ (tn o)) (chn σ (tn o)))))) else -4611686018427387904
abbrev rgT (σ : Sg) (o c : Nat) : Int × Int := rgN (rgV σ o c) (ptQ σ o) (pts σ o).length
def a_regret (σ : Sg) (o s w : Int32) : Int64 := if isO σ o ∧ w01 w 1 ∧ 0 ≤ plc σ (tn o) s then lI (low (decide (w = 0)) (rgT σ (tn o) (plc σ (tn o) s).toNat).1 (rgT σ (tn o) (plc σ (tn o) s).toNat).2) else -4611686018427387904
def abP (σ : Sg) (o k : Nat) : Nat := bst (cst (chS σ o) (chR σ o) (ptP σ o k) (ptQ σ o k)) (Kw 1 (chR σ o)) (chn σ o)
def cmN (σ : Sg) (o : Nat) : Nat → Int × Int × Int
  | 0 => (-1, 0, 1)
  | k + 1 => if (cmN σ o k).1 = -1 ∨ (rgT σ o (abP σ o k)).1 * (cmN σ o k).2.2 - (cmN σ o k).2.1 * (rgT σ o (abP σ o k)).2 < 0 ∨ ((rgT σ o (abP σ o k)).1 * (cmN σ o k).2.2 - (cmN σ o k).2.1 * (rgT σ o (abP σ o k)).2 = 0 ∧ (abP σ o k : Int) < (cmN σ o k).1)
    then ((abP σ o k : Int), (rgT σ o (abP σ o k)).1, (rgT σ o (abP σ o k)).2) else cmN σ o k
def a_calm (σ : Sg) (o : Int32) : Int32 := if isO σ o then (if 0 < chn σ (tn o) then nI (chC σ (tn o) (cmN σ (tn o) (npt σ (tn o) - 1)).1.toNat) else -1) else -2
def lcN (N : Nt) (p q : Int) (l : Nat) : Int := N.sa l * q + N.ri l * p
def drM (N : Nt) (s : Nat) (p q : Int) (l : Nat) : Int := drS (fun o => s.testBit o && btwM N.fr N.to N.L s o l) (lcN N p q) N.L
def whP (N : Nt) (s : Nat) (p q : Int) (l : Nat) : Bool := !s.testBit l && decide (0 ≤ drM N s p q l ∧ lcN N p q l < lcN N p q (drM N s p q l).toNat)
def whF (Pr : Nat → Bool) (v : Nat → Int) (L : Nat) : Nat → Int
  | 0 => -1
  | k + 1 => if Pr (L - (k + 1)) = true then v (L - (k + 1)) else whF Pr v L k
def whV (N : Nt) (s : Nat) (p q : Int) : Int := whF (whP N s p q) (fun l => 12 * (l : Int) + drM N s p q l) N.L N.L
abbrev okWh (σ : Sg) (o s p q : Int32) : Prop := isO σ o ∧ (σ.O (tn o)).k = 1 ∧ ((0 ≤ s.toInt ∧ s.toInt < 4096) ∧ chB σ.N (σ.O (tn o)) (tn s) = true) ∧ isP p.toInt q.toInt
def a_why (σ : Sg) (o s p q : Int32) : Int32 := if okWh σ o s p q then iI (whV σ.N (tn s) p.toInt q.toInt) else -2
/-- in a tree some line lies between the things of any line that is not of it -/
def TrP (N : Nt) : Prop := ∀ s l, s < 4096 → l < N.L → trB N.fr N.to N.T N.L s = true → s.testBit l = false → ∃ o, o < N.L ∧ s.testBit o = true ∧ btwM N.fr N.to N.L s o l = true
theorem drS_pos {on : Nat → Bool} {c : Nat → Int} {o : Nat} : ∀ n, o < n → on o = true → 0 ≤ drS on c n
  | 0, h, _ => by omega
  | n + 1, h, e => by
    simp only [drS]
    split
    · omega
    · next hn =>
      rcases Nat.lt_or_ge o n with h1 | h1
      · exact drS_pos n h1 e
      · have h2 : o = n := by omega
        subst h2
        by_cases h3 : drS on c o < 0
        · exact absurd ⟨e, Or.inl h3⟩ hn
        · omega
theorem sm_b {z : Int} (h1 : -1000000000000000000 ≤ z) (h2 : z ≤ 1000000000000000000) : sm z := ⟨by omega, by omega⟩
theorem gcd_posr {a b : Int} (h : 0 < b) : 0 < Int.gcd a b := Int.gcd_pos_of_ne_zero_right _ (by omega)
theorem c_X12_isChoice_no {B : ev_B} {d x : Nat} {h : ev_H} {V : Nat → Value} {G : Nat → Nat → Int32} {Z : Nat → Nat → Int64} {σ : Sg} {i : Nat} {s : Int32} (hM : MH h x V G Z) (hP : PM σ V G Z) (hW : Wf σ) (hns : ¬ okS σ s) (hd : 3 ≤ d) :
    Wp B d M_X12_isChoice 0 [some (.ref x), some (.int (nI i)), some (.int (s))] [] h (fun v h' => v = some (.int (bI false)) ∧ h' = h) := by
  have hn := hW.n
  have hT := hW.net.1
  have hL := hW.net.2.1
  have hp12 := lt_2pow hL
  have hp0 := Nat.two_pow_pos σ.N.L
  refine Wp.iload_n dX12_isChoice_0 rfl rfl ?_
  refine Wp.iconst (v := (nI 0)) dX12_isChoice_1 (by decide) rfl ?_
  refine Wp.aload_n dX12_isChoice_2 rfl (by first | exact Or.inr ⟨_, rfl⟩ | exact Or.inl rfl) rfl ?_
  refine Wp.cV dX12_isChoice_3 cv_X12_135 rfl (by omega) rfl (Nat.le_of_ble_eq_true rfl) (Nat.le_of_ble_eq_true rfl) hM.ob rfl (c_X12_allLines (d := d - 1) (hM.net hP.net) hW.net (by omega)) ?_
  rintro _ h_ ⟨rfl, e_⟩
  rw [e_]
  clear e_ h_
  dsimp only [Option.toList, List.drop, List.cons_append, List.nil_append]
  refine Wp.cS dX12_isChoice_6 cs_X12_85 rfl (by omega) rfl (Nat.le_of_ble_eq_true rfl) (Nat.le_of_ble_eq_true rfl) rfl (c_X12_in (d := d - 1)) ?_
  rintro _ h_ ⟨rfl, e_⟩
  rw [e_]
  clear e_ h_
  dsimp only [Option.toList, List.drop, List.cons_append, List.nil_append]
  try simp (disch := omega) only [nI_tI, i_0]
  refine Wp.bif_ne (tgt := 14) (n := 12) dX12_isChoice_9 (by decide) rfl (fun c_9 => ?_) (fun c_9 => ?_)
  · try simp only [decide_eq_true_eq, decide_eq_false_iff_not, Bool.and_eq_true, bI_0, bI_n0] at c_9
    try simp only [decide_eq_true_eq] at c_9
    exact absurd (show okS σ s from ⟨by omega, by omega⟩) hns
  · skip
    refine Wp.iconst (v := (nI 0)) dX12_isChoice_12 (by decide) rfl ?_
    exact Wp.zret dX12_isChoice_13 rfl (by decide) (by exact ⟨rfl, rfl⟩)
set_option maxHeartbeats 1000000 in
theorem c_X12_cost {B : ev_B} {d x : Nat} {h : ev_H} {V : Nat → Value} {G : Nat → Nat → Int32} {Z : Nat → Nat → Int64} {σ : Sg} {s p q w : Int32} (hM : MH h x V G Z) (hP : PM σ V G Z) (hW : Wf σ) (hd : 2 ≤ d) :
    Wp B d M_X12_cost 0 [some (.ref x), some (.int (s)), some (.int (p)), some (.int (q)), some (.int (w))] [] h (RQ x h (σ) (.long (a_cost σ s p q w))) := by
  have hn := hW.n
  have hT := hW.net.1
  have hL := hW.net.2.1
  have hp12 := lt_2pow hL
  have hp0 := Nat.two_pow_pos σ.N.L
  refine Wp.iload_n dX12_cost_0 rfl rfl ?_
  refine Wp.iconst (v := (nI 0)) dX12_cost_1 (by decide) rfl ?_
  refine Wp.aload_n dX12_cost_2 rfl (by first | exact Or.inr ⟨_, rfl⟩ | exact Or.inl rfl) rfl ?_
  refine Wp.cV dX12_cost_3 cv_X12_135 rfl (by omega) rfl (Nat.le_of_ble_eq_true rfl) (Nat.le_of_ble_eq_true rfl) hM.ob rfl (c_X12_allLines (d := d - 1) (hM.net hP.net) hW.net (by omega)) ?_
  rintro _ h_ ⟨rfl, e_⟩
  rw [e_]
  clear e_ h_
  dsimp only [Option.toList, List.drop, List.cons_append, List.nil_append]
  refine Wp.cS dX12_cost_6 cs_X12_85 rfl (by omega) rfl (Nat.le_of_ble_eq_true rfl) (Nat.le_of_ble_eq_true rfl) rfl (c_X12_in (d := d - 1)) ?_
  rintro _ h_ ⟨rfl, e_⟩
  rw [e_]
  clear e_ h_
  dsimp only [Option.toList, List.drop, List.cons_append, List.nil_append]
  try simp (disch := omega) only [nI_tI, i_0]
  refine Wp.bif_eq (tgt := 30) (n := 12) dX12_cost_9 (by decide) rfl (fun c_9 => ?_) (fun c_9 => ?_)
  · try simp only [decide_eq_true_eq, decide_eq_false_iff_not, Bool.and_eq_true, bI_0, bI_n0] at c_9
    refine Wp.ldc2 kc_X12_178 dX12_cost_30 rfl ?_
    exact Wp.lret dX12_cost_33 rfl (RQ.l (by simp (disch := omega) only [a_cost, okL, okA, okWy, okPr, isO, okTl, okS, w01, okWn, okWh, nI_tI, iI_tI, tn_nI, nI_m1]; (repeat' split) <;> first | (exfalso; omega) | rfl) hM hP (Out.rfl (x := x) (h := h)))
  · try simp only [decide_eq_true_eq, decide_eq_false_iff_not, Bool.and_eq_true, bI_0, bI_n0] at c_9
    refine Wp.iload_n dX12_cost_12 rfl rfl ?_
    refine Wp.iload_n dX12_cost_13 rfl rfl ?_
    refine Wp.cS dX12_cost_14 cs_X12_175 rfl (by omega) rfl (Nat.le_of_ble_eq_true rfl) (Nat.le_of_ble_eq_true rfl) rfl (c_X12_isPrice (d := d - 1) (by omega)) ?_
    rintro _ h_ ⟨rfl, e_⟩
    rw [e_]
    clear e_ h_
    dsimp only [Option.toList, List.drop, List.cons_append, List.nil_append]
    refine Wp.bif_eq (tgt := 30) (n := 20) dX12_cost_17 (by decide) rfl (fun c_17 => ?_) (fun c_17 => ?_)
    · try simp only [decide_eq_true_eq, decide_eq_false_iff_not, Bool.and_eq_true, bI_0, bI_n0] at c_17
      refine Wp.ldc2 kc_X12_178 dX12_cost_30 rfl ?_
      exact Wp.lret dX12_cost_33 rfl (RQ.l (by simp (disch := omega) only [a_cost, okL, okA, okWy, okPr, isO, okTl, okS, w01, okWn, okWh, nI_tI, iI_tI, tn_nI, nI_m1]; (repeat' split) <;> first | (exfalso; omega) | rfl) hM hP (Out.rfl (x := x) (h := h)))
    · try simp only [decide_eq_true_eq, decide_eq_false_iff_not, Bool.and_eq_true, bI_0, bI_n0] at c_17
      refine Wp.iload dX12_cost_20 rfl rfl ?_
      refine Wp.iconst (v := (nI 0)) dX12_cost_22 (by decide) rfl ?_
      refine Wp.iconst (v := (nI 1)) dX12_cost_23 (by decide) rfl ?_
      refine Wp.cS dX12_cost_24 cs_X12_85 rfl (by omega) rfl (Nat.le_of_ble_eq_true rfl) (Nat.le_of_ble_eq_true rfl) rfl (c_X12_in (d := d - 1)) ?_
      rintro _ h_ ⟨rfl, e_⟩
      rw [e_]
      clear e_ h_
      dsimp only [Option.toList, List.drop, List.cons_append, List.nil_append]
      try simp (disch := omega) only [nI_m1, nI_tI, i_0]
      refine Wp.bif_ne (tgt := 34) (n := 30) dX12_cost_27 (by decide) rfl (fun c_27 => ?_) (fun c_27 => ?_)
      · try simp only [decide_eq_true_eq, decide_eq_false_iff_not, Bool.and_eq_true, bI_0, bI_n0] at c_27
        obtain ⟨i, rfl, hi, hi2⟩ := as_nI (o := s) (n := 2 ^ σ.N.L) (by omega)
        have hNw := hW.net.2.2
        have b1 := sumS_12 (f := σ.N.sa) (s := i) (M := 100) (by decide) hL (fun l hl => by have := hNw l hl; omega)
        have b2 := sumS_12 (f := σ.N.ri) (s := i) (M := 20) (by decide) hL (fun l hl => by have := hNw l hl; omega)
        have m1 := mulb (a := sumS σ.N.sa i σ.N.L) (b := q.toInt) (A := 1200) (C := 1000) (by omega) (by omega)
        have m2 := mulb (a := sumS σ.N.ri i σ.N.L) (b := p.toInt) (A := 240) (C := 10000) (by omega) (by omega)
        refine Wp.aload_n dX12_cost_34 rfl (by first | exact Or.inr ⟨_, rfl⟩ | exact Or.inl rfl) rfl ?_
        refine Wp.iload_n dX12_cost_35 rfl rfl ?_
        refine Wp.cV dX12_cost_36 cv_X12_159 rfl (by omega) rfl (Nat.le_of_ble_eq_true rfl) (Nat.le_of_ble_eq_true rfl) hM.ob rfl (c_X12_startOf (d := d - 1) (hM.net hP.net) hW.net (by omega) (by omega)) ?_
        rintro _ h_ ⟨rfl, e_⟩
        rw [e_]
        clear e_ h_
        dsimp only [Option.toList, List.drop, List.cons_append, List.nil_append]
        refine Wp.i2l dX12_cost_39 rfl ?_
        rw [iI_l (by omega) (by omega)]
        refine Wp.iload_n dX12_cost_40 rfl rfl ?_
        refine Wp.i2l dX12_cost_41 rfl ?_
        rw [i2l_lI]
        refine Wp.lmul dX12_cost_42 rfl ?_
        rw [lI_mul]
        refine Wp.aload_n dX12_cost_43 rfl (by first | exact Or.inr ⟨_, rfl⟩ | exact Or.inl rfl) rfl ?_
        refine Wp.iload_n dX12_cost_44 rfl rfl ?_
        refine Wp.cV dX12_cost_45 cv_X12_162 rfl (by omega) rfl (Nat.le_of_ble_eq_true rfl) (Nat.le_of_ble_eq_true rfl) hM.ob rfl (c_X12_riseOf (d := d - 1) (hM.net hP.net) hW.net (by omega) (by omega)) ?_
        rintro _ h_ ⟨rfl, e_⟩
        rw [e_]
        clear e_ h_
        dsimp only [Option.toList, List.drop, List.cons_append, List.nil_append]
        refine Wp.i2l dX12_cost_48 rfl ?_
        rw [iI_l (by omega) (by omega)]
        refine Wp.iload_n dX12_cost_49 rfl rfl ?_
        refine Wp.i2l dX12_cost_50 rfl ?_
        rw [i2l_lI]
        refine Wp.lmul dX12_cost_51 rfl ?_
        rw [lI_mul]
        refine Wp.ladd dX12_cost_52 rfl ?_
        rw [lI_add]
        refine Wp.iload_n dX12_cost_53 rfl rfl ?_
        refine Wp.i2l dX12_cost_54 rfl ?_
        rw [i2l_lI]
        refine Wp.iload dX12_cost_55 rfl rfl ?_
        refine Wp.cS dX12_cost_57 cs_X12_180 rfl (by omega) rfl (Nat.le_of_ble_eq_true rfl) (Nat.le_of_ble_eq_true rfl) rfl (c_X12_lowest (d := d - 1) (sm_b (by omega) (by omega)) (sm_b (by omega) (by omega)) (gcd_posr (by omega)) (by omega)) ?_
        rintro _ h_ ⟨rfl, e_⟩
        rw [e_]
        clear e_ h_
        dsimp only [Option.toList, List.drop, List.cons_append, List.nil_append]
        exact Wp.lret dX12_cost_60 rfl (RQ.l (by rw [a_cost, if_pos (by simp (disch := omega) only [okS, w01, nI_tI]; omega), tn_nI hi2]) hM hP (Out.rfl (x := x) (h := h)))
      · try simp only [decide_eq_true_eq, decide_eq_false_iff_not, Bool.and_eq_true, bI_0, bI_n0] at c_27
        refine Wp.ldc2 kc_X12_178 dX12_cost_30 rfl ?_
        exact Wp.lret dX12_cost_33 rfl (RQ.l (by simp (disch := omega) only [a_cost, okL, okA, okWy, okPr, isO, okTl, okS, w01, okWn, okWh, nI_tI, iI_tI, tn_nI, nI_m1]; (repeat' split) <;> first | (exfalso; omega) | rfl) hM hP (Out.rfl (x := x) (h := h)))
set_option maxHeartbeats 1000000 in
theorem c_X12_best {B : ev_B} {d x : Nat} {h : ev_H} {V : Nat → Value} {G : Nat → Nat → Int32} {Z : Nat → Nat → Int64} {σ : Sg} {o p q w : Int32} (hM : MH h x V G Z) (hP : PM σ V G Z) (hW : Wf σ) (hd : 5 ≤ d) :
    Wp B d M_X12_best 0 [some (.ref x), some (.int (o)), some (.int (p)), some (.int (q)), some (.int (w))] [] h (RQ x h (σ) (.int (a_best σ o p q w))) := by
  have hn := hW.n
  have hT := hW.net.1
  have hL := hW.net.2.1
  refine Wp.aload_n dX12_best_0 rfl (by first | exact Or.inr ⟨_, rfl⟩ | exact Or.inl rfl) rfl ?_
  refine Wp.iload_n dX12_best_1 rfl rfl ?_
  refine Wp.cV dX12_best_2 cv_X12_115 rfl (by omega) rfl (Nat.le_of_ble_eq_true rfl) (Nat.le_of_ble_eq_true rfl) hM.ob rfl (c_X12_isOffer (d := d - 1) hM hP hW (by omega)) ?_
  rintro _ h_ ⟨rfl, e_⟩
  rw [e_]
  clear e_ h_
  dsimp only [Option.toList, List.drop, List.cons_append, List.nil_append]
  refine Wp.bif_eq (tgt := 26) (n := 8) dX12_best_5 (by decide) rfl (fun c_5 => ?_) (fun c_5 => ?_)
  · try simp only [decide_eq_true_eq, decide_eq_false_iff_not, Bool.and_eq_true, bI_0, bI_n0] at c_5
    refine Wp.bipush (v := (-2)) dX12_best_26 (by decide) rfl ?_
    exact Wp.iret dX12_best_28 rfl (RQ.i (by simp (disch := omega) only [a_best, okL, okA, okWy, okPr, isO, okTl, okS, w01, okWn, okWh, nI_tI, iI_tI, tn_nI, nI_m1]; (repeat' split) <;> first | (exfalso; omega) | rfl) hM hP (Out.rfl (x := x) (h := h)))
  · try simp only [decide_eq_true_eq, decide_eq_false_iff_not, Bool.and_eq_true, bI_0, bI_n0] at c_5
    refine Wp.iload_n dX12_best_8 rfl rfl ?_
    refine Wp.iload_n dX12_best_9 rfl rfl ?_
    refine Wp.cS dX12_best_10 cs_X12_175 rfl (by omega) rfl (Nat.le_of_ble_eq_true rfl) (Nat.le_of_ble_eq_true rfl) rfl (c_X12_isPrice (d := d - 1) (by omega)) ?_
    rintro _ h_ ⟨rfl, e_⟩
    rw [e_]
    clear e_ h_
    dsimp only [Option.toList, List.drop, List.cons_append, List.nil_append]
    refine Wp.bif_eq (tgt := 26) (n := 16) dX12_best_13 (by decide) rfl (fun c_13 => ?_) (fun c_13 => ?_)
    · try simp only [decide_eq_true_eq, decide_eq_false_iff_not, Bool.and_eq_true, bI_0, bI_n0] at c_13
      refine Wp.bipush (v := (-2)) dX12_best_26 (by decide) rfl ?_
      exact Wp.iret dX12_best_28 rfl (RQ.i (by simp (disch := omega) only [a_best, okL, okA, okWy, okPr, isO, okTl, okS, w01, okWn, okWh, nI_tI, iI_tI, tn_nI, nI_m1]; (repeat' split) <;> first | (exfalso; omega) | rfl) hM hP (Out.rfl (x := x) (h := h)))
    · try simp only [decide_eq_true_eq, decide_eq_false_iff_not, Bool.and_eq_true, bI_0, bI_n0] at c_13
      refine Wp.iload dX12_best_16 rfl rfl ?_
      refine Wp.iconst (v := (nI 0)) dX12_best_18 (by decide) rfl ?_
      refine Wp.iconst (v := (nI 2)) dX12_best_19 (by decide) rfl ?_
      refine Wp.cS dX12_best_20 cs_X12_85 rfl (by omega) rfl (Nat.le_of_ble_eq_true rfl) (Nat.le_of_ble_eq_true rfl) rfl (c_X12_in (d := d - 1)) ?_
      rintro _ h_ ⟨rfl, e_⟩
      rw [e_]
      clear e_ h_
      dsimp only [Option.toList, List.drop, List.cons_append, List.nil_append]
      try simp (disch := omega) only [nI_m1, nI_tI, i_0]
      refine Wp.bif_ne (tgt := 29) (n := 26) dX12_best_23 (by decide) rfl (fun c_23 => ?_) (fun c_23 => ?_)
      · try simp only [decide_eq_true_eq, decide_eq_false_iff_not, Bool.and_eq_true, bI_0, bI_n0] at c_23
        obtain ⟨i, rfl, ho, ho2⟩ := as_nI (show 0 ≤ o.toInt ∧ o.toInt < σ.n by omega)
        have hO := hP.of i ho
        have hOw := hW.of i ho
        obtain ⟨j, rfl, hj, hj2⟩ := as_nI (o := w) (n := 3) (by omega)
        refine Wp.aload_n dX12_best_29 rfl (by first | exact Or.inr ⟨_, rfl⟩ | exact Or.inl rfl) rfl ?_
        refine Wp.iload_n dX12_best_30 rfl rfl ?_
        refine Wp.cV dX12_best_31 cv_X12_168 rfl (by omega) rfl (Nat.le_of_ble_eq_true rfl) (Nat.le_of_ble_eq_true rfl) hM.ob rfl (c_X12_gathers (d := d - 1) hM hP hW ho (by omega)) ?_
        rintro _ h2 ⟨rfl, V2, G2, hM2, o2, k2, l1, l2⟩
        have hC2 := ChA.of l1 l2
        have hP2 := hP.kp k2
        dsimp only [Option.toList, List.drop, List.cons_append, List.nil_append]
        have hcn := chn_le σ i
        have hB := PrB_ch hW i
        refine Wp.aload_n dX12_best_34 rfl (by first | exact Or.inr ⟨_, rfl⟩ | exact Or.inl rfl) rfl ?_
        refine Wp.get dX12_best_35 fl_X12_150 hM2.ob hC2.1.1 rfl ?_
        refine Wp.if_ne (tgt := 45) (n := 41) dX12_best_38 (by decide) rfl (fun c_38 => ?_) (fun c_38 => ?_)
        · have c_38 : 0 < chn σ i := by
            rcases Nat.eq_zero_or_pos (chn σ i) with z | z
            · exact absurd (by rw [z]; rfl) c_38
            · exact z
          have hbl := bst_lt (cst (chS σ i) (chR σ i) p.toInt q.toInt) (Kw j (chR σ i)) (chn σ i) c_38
          refine Wp.aload_n dX12_best_45 rfl (by first | exact Or.inr ⟨_, rfl⟩ | exact Or.inl rfl) rfl ?_
          refine Wp.get dX12_best_46 fl_X12_57 hM2.ob (hM2.rf 21 (by decide)) rfl ?_
          refine Wp.aload_n dX12_best_49 rfl (by first | exact Or.inr ⟨_, rfl⟩ | exact Or.inl rfl) rfl ?_
          refine Wp.iload_n dX12_best_50 rfl rfl ?_
          refine Wp.i2l dX12_best_51 rfl ?_
          rw [i2l_lI]
          refine Wp.iload_n dX12_best_52 rfl rfl ?_
          refine Wp.i2l dX12_best_53 rfl ?_
          rw [i2l_lI]
          refine Wp.iload dX12_best_54 rfl rfl ?_
          refine Wp.cV dX12_best_56 cv_X12_191 rfl (by omega) rfl (Nat.le_of_ble_eq_true rfl) (Nat.le_of_ble_eq_true rfl) hM2.ob rfl (c_X12_bestAt (d := d - 1) hM2 hC2.1 hB c_38 ⟨by omega, by omega, by omega, by omega⟩ (by omega) (by omega)) ?_
          rintro _ h_ ⟨rfl, e_⟩
          rw [e_]
          clear e_ h_
          dsimp only [Option.toList, List.drop, List.cons_append, List.nil_append]
          refine Wp.iaload dX12_best_59 (hM2.ia 21 (by decide)) (nI_toInt (by omega)) (by show _ < 4096; omega) rfl ?_
          rw [hC2.2 _ hbl]
          exact Wp.iret dX12_best_60 rfl (RQ.i (by simp (disch := omega) only [a_best, okL, okA, okWy, okPr, isO, okTl, okS, w01, okWn, okWh, nI_tI, iI_tI, tn_nI, nI_m1]; (repeat' split) <;> first | (exfalso; omega) | rfl) hM2 hP2 o2)
        · have c_38 : ¬ 0 < chn σ i := by have := (nI_eq0 (by omega)).mp c_38; omega
          refine Wp.iconst (v := (-1)) dX12_best_41 (by decide) rfl ?_
          refine Wp.goto (n := 60) dX12_best_42 (by decide) ?_
          exact Wp.iret dX12_best_60 rfl (RQ.i (by simp (disch := omega) only [a_best, okL, okA, okWy, okPr, isO, okTl, okS, w01, okWn, okWh, nI_tI, iI_tI, tn_nI, nI_m1]; (repeat' split) <;> first | (exfalso; omega) | rfl) hM2 hP2 o2)
      · try simp only [decide_eq_true_eq, decide_eq_false_iff_not, Bool.and_eq_true, bI_0, bI_n0] at c_23
        refine Wp.bipush (v := (-2)) dX12_best_26 (by decide) rfl ?_
        exact Wp.iret dX12_best_28 rfl (RQ.i (by simp (disch := omega) only [a_best, okL, okA, okWy, okPr, isO, okTl, okS, w01, okWn, okWh, nI_tI, iI_tI, tn_nI, nI_m1]; (repeat' split) <;> first | (exfalso; omega) | rfl) hM hP (Out.rfl (x := x) (h := h)))
set_option maxHeartbeats 1000000 in
theorem c_X12_least {B : ev_B} {d x : Nat} {h : ev_H} {V : Nat → Value} {G : Nat → Nat → Int32} {Z : Nat → Nat → Int64} {σ : Sg} {o p q w : Int32} (hM : MH h x V G Z) (hP : PM σ V G Z) (hW : Wf σ) (hd : 5 ≤ d) :
    Wp B d M_X12_least 0 [some (.ref x), some (.int (o)), some (.int (p)), some (.int (q)), some (.int (w))] [] h (RQ x h (σ) (.long (a_least σ o p q w))) := by
  have hn := hW.n
  have hT := hW.net.1
  have hL := hW.net.2.1
  refine Wp.aload_n dX12_least_0 rfl (by first | exact Or.inr ⟨_, rfl⟩ | exact Or.inl rfl) rfl ?_
  refine Wp.iload_n dX12_least_1 rfl rfl ?_
  refine Wp.cV dX12_least_2 cv_X12_115 rfl (by omega) rfl (Nat.le_of_ble_eq_true rfl) (Nat.le_of_ble_eq_true rfl) hM.ob rfl (c_X12_isOffer (d := d - 1) hM hP hW (by omega)) ?_
  rintro _ h_ ⟨rfl, e_⟩
  rw [e_]
  clear e_ h_
  dsimp only [Option.toList, List.drop, List.cons_append, List.nil_append]
  refine Wp.bif_eq (tgt := 26) (n := 8) dX12_least_5 (by decide) rfl (fun c_5 => ?_) (fun c_5 => ?_)
  · try simp only [decide_eq_true_eq, decide_eq_false_iff_not, Bool.and_eq_true, bI_0, bI_n0] at c_5
    refine Wp.ldc2 kc_X12_178 dX12_least_26 rfl ?_
    exact Wp.lret dX12_least_29 rfl (RQ.l (by simp (disch := omega) only [a_least, okL, okA, okWy, okPr, isO, okTl, okS, w01, okWn, okWh, nI_tI, iI_tI, tn_nI, nI_m1]; (repeat' split) <;> first | (exfalso; omega) | rfl) hM hP (Out.rfl (x := x) (h := h)))
  · try simp only [decide_eq_true_eq, decide_eq_false_iff_not, Bool.and_eq_true, bI_0, bI_n0] at c_5
    refine Wp.iload_n dX12_least_8 rfl rfl ?_
    refine Wp.iload_n dX12_least_9 rfl rfl ?_
    refine Wp.cS dX12_least_10 cs_X12_175 rfl (by omega) rfl (Nat.le_of_ble_eq_true rfl) (Nat.le_of_ble_eq_true rfl) rfl (c_X12_isPrice (d := d - 1) (by omega)) ?_
    rintro _ h_ ⟨rfl, e_⟩
    rw [e_]
    clear e_ h_
    dsimp only [Option.toList, List.drop, List.cons_append, List.nil_append]
    refine Wp.bif_eq (tgt := 26) (n := 16) dX12_least_13 (by decide) rfl (fun c_13 => ?_) (fun c_13 => ?_)
    · try simp only [decide_eq_true_eq, decide_eq_false_iff_not, Bool.and_eq_true, bI_0, bI_n0] at c_13
      refine Wp.ldc2 kc_X12_178 dX12_least_26 rfl ?_
      exact Wp.lret dX12_least_29 rfl (RQ.l (by simp (disch := omega) only [a_least, okL, okA, okWy, okPr, isO, okTl, okS, w01, okWn, okWh, nI_tI, iI_tI, tn_nI, nI_m1]; (repeat' split) <;> first | (exfalso; omega) | rfl) hM hP (Out.rfl (x := x) (h := h)))
    · try simp only [decide_eq_true_eq, decide_eq_false_iff_not, Bool.and_eq_true, bI_0, bI_n0] at c_13
      refine Wp.iload dX12_least_16 rfl rfl ?_
      refine Wp.iconst (v := (nI 0)) dX12_least_18 (by decide) rfl ?_
      refine Wp.iconst (v := (nI 1)) dX12_least_19 (by decide) rfl ?_
      refine Wp.cS dX12_least_20 cs_X12_85 rfl (by omega) rfl (Nat.le_of_ble_eq_true rfl) (Nat.le_of_ble_eq_true rfl) rfl (c_X12_in (d := d - 1)) ?_
      rintro _ h_ ⟨rfl, e_⟩
      rw [e_]
      clear e_ h_
      dsimp only [Option.toList, List.drop, List.cons_append, List.nil_append]
      try simp (disch := omega) only [nI_m1, nI_tI, i_0]
      refine Wp.bif_ne (tgt := 30) (n := 26) dX12_least_23 (by decide) rfl (fun c_23 => ?_) (fun c_23 => ?_)
      · try simp only [decide_eq_true_eq, decide_eq_false_iff_not, Bool.and_eq_true, bI_0, bI_n0] at c_23
        obtain ⟨i, rfl, ho, ho2⟩ := as_nI (show 0 ≤ o.toInt ∧ o.toInt < σ.n by omega)
        have hO := hP.of i ho
        have hOw := hW.of i ho
        refine Wp.aload_n dX12_least_30 rfl (by first | exact Or.inr ⟨_, rfl⟩ | exact Or.inl rfl) rfl ?_
        refine Wp.iload_n dX12_least_31 rfl rfl ?_
        refine Wp.cV dX12_least_32 cv_X12_168 rfl (by omega) rfl (Nat.le_of_ble_eq_true rfl) (Nat.le_of_ble_eq_true rfl) hM.ob rfl (c_X12_gathers (d := d - 1) hM hP hW ho (by omega)) ?_
        rintro _ h2 ⟨rfl, V2, G2, hM2, o2, k2, l1, l2⟩
        have hC2 := ChA.of l1 l2
        have hP2 := hP.kp k2
        dsimp only [Option.toList, List.drop, List.cons_append, List.nil_append]
        have hcn := chn_le σ i
        have hB := PrB_ch hW i
        refine Wp.aload_n dX12_least_35 rfl (by first | exact Or.inr ⟨_, rfl⟩ | exact Or.inl rfl) rfl ?_
        refine Wp.get dX12_least_36 fl_X12_150 hM2.ob hC2.1.1 rfl ?_
        refine Wp.if_ne (tgt := 48) (n := 42) dX12_least_39 (by decide) rfl (fun c_39 => ?_) (fun c_39 => ?_)
        · have c_39 : 0 < chn σ i := by
            rcases Nat.eq_zero_or_pos (chn σ i) with z | z
            · exact absurd (by rw [z]; rfl) c_39
            · exact z
          have hpq : pqB p.toInt q.toInt := ⟨by omega, by omega, by omega, by omega⟩
          refine Wp.aload_n dX12_least_48 rfl (by first | exact Or.inr ⟨_, rfl⟩ | exact Or.inl rfl) rfl ?_
          refine Wp.iload_n dX12_least_49 rfl rfl ?_
          refine Wp.i2l dX12_least_50 rfl ?_
          rw [i2l_lI]
          refine Wp.iload_n dX12_least_51 rfl rfl ?_
          refine Wp.i2l dX12_least_52 rfl ?_
          rw [i2l_lI]
          refine Wp.cV dX12_least_53 cv_X12_188 rfl (by omega) rfl (Nat.le_of_ble_eq_true rfl) (Nat.le_of_ble_eq_true rfl) hM2.ob rfl (c_X12_leastAt (d := d - 1) hM2 hC2.1 hB c_39 hpq (by omega)) ?_
          rintro _ h_ ⟨rfl, e_⟩
          rw [e_]
          clear e_ h_
          dsimp only [Option.toList, List.drop, List.cons_append, List.nil_append]
          have hmb := mnN_b hB (Nat.le_refl _) c_39 hpq
          refine Wp.iload_n dX12_least_56 rfl rfl ?_
          refine Wp.i2l dX12_least_57 rfl ?_
          rw [i2l_lI]
          refine Wp.iload dX12_least_58 rfl rfl ?_
          refine Wp.cS dX12_least_60 cs_X12_180 rfl (by omega) rfl (Nat.le_of_ble_eq_true rfl) (Nat.le_of_ble_eq_true rfl) rfl (c_X12_lowest (d := d - 1) (sm_b (by omega) (by omega)) (sm_b (by omega) (by omega)) (gcd_posr (by omega)) (by omega)) ?_
          rintro _ h_ ⟨rfl, e_⟩
          rw [e_]
          clear e_ h_
          dsimp only [Option.toList, List.drop, List.cons_append, List.nil_append]
          exact Wp.lret dX12_least_63 rfl (RQ.l (by simp (disch := omega) only [a_least, okL, okA, okWy, okPr, isO, okTl, okS, w01, okWn, okWh, nI_tI, iI_tI, tn_nI, nI_m1]; (repeat' split) <;> first | (exfalso; omega) | rfl) hM2 hP2 o2)
        · have c_39 : ¬ 0 < chn σ i := by have := (nI_eq0 (by omega)).mp c_39; omega
          refine Wp.ldc2 kc_X12_178 dX12_least_42 rfl ?_
          refine Wp.goto (n := 63) dX12_least_45 (by decide) ?_
          exact Wp.lret dX12_least_63 rfl (RQ.l (by simp (disch := omega) only [a_least, okL, okA, okWy, okPr, isO, okTl, okS, w01, okWn, okWh, nI_tI, iI_tI, tn_nI, nI_m1]; (repeat' split) <;> first | (exfalso; omega) | rfl) hM2 hP2 o2)
      · try simp only [decide_eq_true_eq, decide_eq_false_iff_not, Bool.and_eq_true, bI_0, bI_n0] at c_23
        refine Wp.ldc2 kc_X12_178 dX12_least_26 rfl ?_
        exact Wp.lret dX12_least_29 rfl (RQ.l (by simp (disch := omega) only [a_least, okL, okA, okWy, okPr, isO, okTl, okS, w01, okWn, okWh, nI_tI, iI_tI, tn_nI, nI_m1]; (repeat' split) <;> first | (exfalso; omega) | rfl) hM hP (Out.rfl (x := x) (h := h)))
set_option maxHeartbeats 1000000 in
theorem c_X12_window {B : ev_B} {d x : Nat} {h : ev_H} {V : Nat → Value} {G : Nat → Nat → Int32} {Z : Nat → Nat → Int64} {σ : Sg} {p q p2 q2 : Int32} (hM : MH h x V G Z) (hP : PM σ V G Z) (hW : Wf σ) (hd : 2 ≤ d) :
    Wp B d M_X12_window 0 [some (.ref x), some (.int (p)), some (.int (q)), some (.int (p2)), some (.int (q2))] [] h (RQ x h (t_window σ p q p2 q2) (.int (a_window p q p2 q2))) := by
  have hn := hW.n
  have hT := hW.net.1
  have hL := hW.net.2.1
  refine Wp.iload_n dX12_window_0 rfl rfl ?_
  refine Wp.iload_n dX12_window_1 rfl rfl ?_
  refine Wp.cS dX12_window_2 cs_X12_175 rfl (by omega) rfl (Nat.le_of_ble_eq_true rfl) (Nat.le_of_ble_eq_true rfl) rfl (c_X12_isPrice (d := d - 1) (by omega)) ?_
  rintro _ h_ ⟨rfl, e_⟩
  rw [e_]
  clear e_ h_
  dsimp only [Option.toList, List.drop, List.cons_append, List.nil_append]
  refine Wp.bif_eq (tgt := 32) (n := 8) dX12_window_5 (by decide) rfl (fun c_5 => ?_) (fun c_5 => ?_)
  · try simp only [decide_eq_true_eq, decide_eq_false_iff_not, Bool.and_eq_true, bI_0, bI_n0] at c_5
    refine Wp.bipush (v := (-2)) dX12_window_32 (by decide) rfl ?_
    exact Wp.iret dX12_window_34 rfl (RQ.i (by simp (disch := omega) only [a_window, okL, okA, okWy, okPr, isO, okTl, okS, w01, okWn, okWh, nI_tI, iI_tI, tn_nI, nI_m1]; (repeat' split) <;> first | (exfalso; omega) | rfl) hM (by unfold t_window; (repeat' split) <;> first | exact hP | (exfalso; (try simp (disch := omega) only [okL, okA, okWy, okPr, isO, okTl, okS, w01, okWn, okWh, nI_tI, tn_nI] at *); omega)) (Out.rfl (x := x) (h := h)))
  · try simp only [decide_eq_true_eq, decide_eq_false_iff_not, Bool.and_eq_true, bI_0, bI_n0] at c_5
    refine Wp.iload_n dX12_window_8 rfl rfl ?_
    refine Wp.iload dX12_window_9 rfl rfl ?_
    refine Wp.cS dX12_window_11 cs_X12_175 rfl (by omega) rfl (Nat.le_of_ble_eq_true rfl) (Nat.le_of_ble_eq_true rfl) rfl (c_X12_isPrice (d := d - 1) (by omega)) ?_
    rintro _ h_ ⟨rfl, e_⟩
    rw [e_]
    clear e_ h_
    dsimp only [Option.toList, List.drop, List.cons_append, List.nil_append]
    refine Wp.bif_eq (tgt := 32) (n := 17) dX12_window_14 (by decide) rfl (fun c_14 => ?_) (fun c_14 => ?_)
    · try simp only [decide_eq_true_eq, decide_eq_false_iff_not, Bool.and_eq_true, bI_0, bI_n0] at c_14
      refine Wp.bipush (v := (-2)) dX12_window_32 (by decide) rfl ?_
      exact Wp.iret dX12_window_34 rfl (RQ.i (by simp (disch := omega) only [a_window, okL, okA, okWy, okPr, isO, okTl, okS, w01, okWn, okWh, nI_tI, iI_tI, tn_nI, nI_m1]; (repeat' split) <;> first | (exfalso; omega) | rfl) hM (by unfold t_window; (repeat' split) <;> first | exact hP | (exfalso; (try simp (disch := omega) only [okL, okA, okWy, okPr, isO, okTl, okS, w01, okWn, okWh, nI_tI, tn_nI] at *); omega)) (Out.rfl (x := x) (h := h)))
    · try simp only [decide_eq_true_eq, decide_eq_false_iff_not, Bool.and_eq_true, bI_0, bI_n0] at c_14
      refine Wp.iload_n dX12_window_17 rfl rfl ?_
      refine Wp.i2l dX12_window_18 rfl ?_
      rw [i2l_lI]
      refine Wp.iload_n dX12_window_19 rfl rfl ?_
      refine Wp.i2l dX12_window_20 rfl ?_
      rw [i2l_lI]
      refine Wp.lmul dX12_window_21 rfl ?_
      rw [lI_mul]
      refine Wp.iload_n dX12_window_22 rfl rfl ?_
      refine Wp.i2l dX12_window_23 rfl ?_
      rw [i2l_lI]
      refine Wp.iload dX12_window_24 rfl rfl ?_
      refine Wp.i2l dX12_window_26 rfl ?_
      rw [i2l_lI]
      refine Wp.lmul dX12_window_27 rfl ?_
      rw [lI_mul]
      have m1 := mulb (a := p2.toInt) (b := q.toInt) (A := 10000) (C := 1000) (by omega) (by omega)
      have m2 := mulb (a := p.toInt) (b := q2.toInt) (A := 10000) (C := 1000) (by omega) (by omega)
      refine Wp.lcmp_ge (tgt := 35) (n := 32) dX12_window_28 rfl dX12_window_29 (by decide) rfl (fun c_28 => ?_) (fun c_28 => ?_)
      · try simp (disch := omega) only [nI_bit0, nI_bit1, Bool.not_eq_false, Bool.not_eq_true] at c_28
        try simp (disch := omega) only [i_lt, i_le, i_eq, l_lt, l_le, l_eq, i_0, i_m1, l_0, nI_tI, iI_tI, lI_tI, Int.not_lt, Int.not_le] at c_28
        refine Wp.aload_n dX12_window_35 rfl (by first | exact Or.inr ⟨_, rfl⟩ | exact Or.inl rfl) rfl ?_
        refine Wp.iload_n dX12_window_36 rfl rfl ?_
        refine Wp.put dX12_window_37 fp_X12_195 hM.ob rfl rfl rfl ?_
        refine hM.put (k := 9) (by decide) ?_
        intro h37 V37 hM37 o37 e37 f37
        have out37 := (Out.rfl (x := x) (h := h)).trans o37
        refine Wp.aload_n dX12_window_40 rfl (by first | exact Or.inr ⟨_, rfl⟩ | exact Or.inl rfl) rfl ?_
        refine Wp.iload_n dX12_window_41 rfl rfl ?_
        refine Wp.put dX12_window_42 fp_X12_31 hM37.ob rfl rfl rfl ?_
        refine hM37.put (k := 10) (by decide) ?_
        intro h42 V42 hM42 o42 e42 f42
        have out42 := out37.trans o42
        refine Wp.aload_n dX12_window_45 rfl (by first | exact Or.inr ⟨_, rfl⟩ | exact Or.inl rfl) rfl ?_
        refine Wp.iload_n dX12_window_46 rfl rfl ?_
        refine Wp.put dX12_window_47 fp_X12_35 hM42.ob rfl rfl rfl ?_
        refine hM42.put (k := 11) (by decide) ?_
        intro h47 V47 hM47 o47 e47 f47
        have out47 := out42.trans o47
        refine Wp.aload_n dX12_window_50 rfl (by first | exact Or.inr ⟨_, rfl⟩ | exact Or.inl rfl) rfl ?_
        refine Wp.iload dX12_window_51 rfl rfl ?_
        refine Wp.put dX12_window_53 fp_X12_38 hM47.ob rfl rfl rfl ?_
        refine hM47.put (k := 12) (by decide) ?_
        intro h53 V53 hM53 o53 e53 f53
        have out53 := out47.trans o53
        refine Wp.iconst (v := (nI 1)) dX12_window_56 (by decide) rfl ?_
        exact Wp.iret dX12_window_57 rfl (RQ.i (by rw [a_window, if_pos (by omega)]; rfl) hM53 (by
            rw [t_window, if_pos (by omega)]
            exact hP.chw (fun k hk => (f53 k (by omega)).trans ((f47 k (by omega)).trans ((f42 k (by omega)).trans (f37 k (by omega))))) (by rw [f53 9 (by decide), f47 9 (by decide), f42 9 (by decide), e37, ← iI_of]) (by rw [f53 10 (by decide), f47 10 (by decide), e42, ← iI_of]) (by rw [f53 11 (by decide), e47, ← iI_of]) (by rw [e53, ← iI_of])) out53)
      · try simp (disch := omega) only [nI_bit0, nI_bit1, Bool.not_eq_false, Bool.not_eq_true] at c_28
        try simp (disch := omega) only [i_lt, i_le, i_eq, l_lt, l_le, l_eq, i_0, i_m1, l_0, nI_tI, iI_tI, lI_tI, Int.not_lt, Int.not_le] at c_28
        refine Wp.bipush (v := (-2)) dX12_window_32 (by decide) rfl ?_
        exact Wp.iret dX12_window_34 rfl (RQ.i (by simp (disch := omega) only [a_window, okL, okA, okWy, okPr, isO, okTl, okS, w01, okWn, okWh, nI_tI, iI_tI, tn_nI, nI_m1]; (repeat' split) <;> first | (exfalso; omega) | rfl) hM (by unfold t_window; (repeat' split) <;> first | exact hP | (exfalso; (try simp (disch := omega) only [okL, okA, okWy, okPr, isO, okTl, okS, w01, okWn, okWh, nI_tI, tn_nI] at *); omega)) (Out.rfl (x := x) (h := h)))
set_option maxHeartbeats 1000000 in
theorem c_X12_bends {B : ev_B} {d x : Nat} {h : ev_H} {V : Nat → Value} {G : Nat → Nat → Int32} {Z : Nat → Nat → Int64} {σ : Sg} {o : Int32} (hM : MH h x V G Z) (hP : PM σ V G Z) (hW : Wf σ) (hd : 6 ≤ d) :
    Wp B d M_X12_bends 0 [some (.ref x), some (.int (o))] [] h (RQ x h (σ) (.int (a_bends σ o))) := by
  have hn := hW.n
  have hT := hW.net.1
  have hL := hW.net.2.1
  refine Wp.aload_n dX12_bends_0 rfl (by first | exact Or.inr ⟨_, rfl⟩ | exact Or.inl rfl) rfl ?_
  refine Wp.iload_n dX12_bends_1 rfl rfl ?_
  refine Wp.cV dX12_bends_2 cv_X12_115 rfl (by omega) rfl (Nat.le_of_ble_eq_true rfl) (Nat.le_of_ble_eq_true rfl) hM.ob rfl (c_X12_isOffer (d := d - 1) hM hP hW (by omega)) ?_
  rintro _ h_ ⟨rfl, e_⟩
  rw [e_]
  clear e_ h_
  dsimp only [Option.toList, List.drop, List.cons_append, List.nil_append]
  refine Wp.bif_ne (tgt := 11) (n := 8) dX12_bends_5 (by decide) rfl (fun c_5 => ?_) (fun c_5 => ?_)
  · try simp only [decide_eq_true_eq, decide_eq_false_iff_not, Bool.and_eq_true, bI_0, bI_n0] at c_5
    obtain ⟨i, rfl, ho, ho2⟩ := as_nI (show 0 ≤ o.toInt ∧ o.toInt < σ.n by omega)
    have hO := hP.of i ho
    have hOw := hW.of i ho
    refine Wp.aload_n dX12_bends_11 rfl (by first | exact Or.inr ⟨_, rfl⟩ | exact Or.inl rfl) rfl ?_
    refine Wp.iload_n dX12_bends_12 rfl rfl ?_
    refine Wp.cV dX12_bends_13 cv_X12_208 rfl (by omega) rfl (Nat.le_of_ble_eq_true rfl) (Nat.le_of_ble_eq_true rfl) hM.ob rfl (c_X12_prepares (d := d - 1) hM hP hW ho (by omega)) ?_
    rintro _ h2 ⟨rfl, V2, G2, Z2, hM2, o2, k2, hC2, hT2⟩
    have hP2 := hP.kp k2
    dsimp only [Option.toList, List.drop, List.cons_append, List.nil_append]
    have hnb := npt_b hW i
    refine Wp.bif_eq (tgt := 28) (n := 19) dX12_bends_16 (by decide) rfl (fun c_16 => ?_) (fun c_16 => ?_)
    · try simp only [decide_eq_false_iff_not] at c_16
      have hn2 : npt σ i = 2 := by rw [npt, if_neg c_16]
      refine Wp.iconst (v := (nI 0)) dX12_bends_28 (by decide) rfl ?_
      exact Wp.iret dX12_bends_29 rfl (RQ.i (by rw [a_bends, if_pos (show isO σ (nI i) by have e_ := nI_tI ho2; omega), tn_nI ho2, hn2]) hM2 hP2 o2)
    · skip
      refine Wp.aload_n dX12_bends_19 rfl (by first | exact Or.inr ⟨_, rfl⟩ | exact Or.inl rfl) rfl ?_
      refine Wp.get dX12_bends_20 fl_X12_198 hM2.ob hT2.1 rfl ?_
      refine Wp.iconst (v := (nI 2)) dX12_bends_23 (by decide) rfl ?_
      refine Wp.isub dX12_bends_24 rfl ?_
      rw [pk_sub (by omega)]
      refine Wp.goto (n := 29) dX12_bends_25 (by decide) ?_
      exact Wp.iret dX12_bends_29 rfl (RQ.i (by rw [a_bends, if_pos (show isO σ (nI i) by have e_ := nI_tI ho2; omega), tn_nI ho2]) hM2 hP2 o2)
  · try simp only [decide_eq_true_eq, decide_eq_false_iff_not, Bool.and_eq_true, bI_0, bI_n0] at c_5
    refine Wp.bipush (v := (-2)) dX12_bends_8 (by decide) rfl ?_
    exact Wp.iret dX12_bends_10 rfl (RQ.i (by simp (disch := omega) only [a_bends, okL, okA, okWy, okPr, isO, okTl, okS, w01, okWn, okWh, nI_tI, iI_tI, tn_nI, nI_m1]; (repeat' split) <;> first | (exfalso; omega) | rfl) hM hP (Out.rfl (x := x) (h := h)))
set_option maxHeartbeats 1000000 in
theorem c_X12_bend {B : ev_B} {d x : Nat} {h : ev_H} {V : Nat → Value} {G : Nat → Nat → Int32} {Z : Nat → Nat → Int64} {σ : Sg} {o u w : Int32} (hM : MH h x V G Z) (hP : PM σ V G Z) (hW : Wf σ) (hd : 6 ≤ d) :
    Wp B d M_X12_bend 0 [some (.ref x), some (.int (o)), some (.int (u)), some (.int (w))] [] h (RQ x h (σ) (.long (a_bend σ o u w))) := by
  have hn := hW.n
  have hT := hW.net.1
  have hL := hW.net.2.1
  refine Wp.aload_n dX12_bend_0 rfl (by first | exact Or.inr ⟨_, rfl⟩ | exact Or.inl rfl) rfl ?_
  refine Wp.iload_n dX12_bend_1 rfl rfl ?_
  refine Wp.cV dX12_bend_2 cv_X12_115 rfl (by omega) rfl (Nat.le_of_ble_eq_true rfl) (Nat.le_of_ble_eq_true rfl) hM.ob rfl (c_X12_isOffer (d := d - 1) hM hP hW (by omega)) ?_
  rintro _ h_ ⟨rfl, e_⟩
  rw [e_]
  clear e_ h_
  dsimp only [Option.toList, List.drop, List.cons_append, List.nil_append]
  refine Wp.bif_eq (tgt := 39) (n := 8) dX12_bend_5 (by decide) rfl (fun c_5 => ?_) (fun c_5 => ?_)
  · try simp only [decide_eq_true_eq, decide_eq_false_iff_not, Bool.and_eq_true, bI_0, bI_n0] at c_5
    refine Wp.ldc2 kc_X12_178 dX12_bend_39 rfl ?_
    exact Wp.lret dX12_bend_42 rfl (RQ.l (by simp (disch := omega) only [a_bend, okL, okA, okWy, okPr, isO, okTl, okS, w01, okWn, okWh, nI_tI, iI_tI, tn_nI, nI_m1]; (repeat' split) <;> first | (exfalso; omega) | rfl) hM hP (Out.rfl (x := x) (h := h)))
  · try simp only [decide_eq_true_eq, decide_eq_false_iff_not, Bool.and_eq_true, bI_0, bI_n0] at c_5
    refine Wp.iload_n dX12_bend_8 rfl rfl ?_
    refine Wp.iconst (v := (nI 0)) dX12_bend_9 (by decide) rfl ?_
    refine Wp.iconst (v := (nI 3)) dX12_bend_10 (by decide) rfl ?_
    refine Wp.cS dX12_bend_11 cs_X12_85 rfl (by omega) rfl (Nat.le_of_ble_eq_true rfl) (Nat.le_of_ble_eq_true rfl) rfl (c_X12_in (d := d - 1)) ?_
    rintro _ h_ ⟨rfl, e_⟩
    rw [e_]
    clear e_ h_
    dsimp only [Option.toList, List.drop, List.cons_append, List.nil_append]
    try simp (disch := omega) only [nI_m1, nI_tI, i_0]
    refine Wp.bif_eq (tgt := 39) (n := 17) dX12_bend_14 (by decide) rfl (fun c_14 => ?_) (fun c_14 => ?_)
    · try simp only [decide_eq_true_eq, decide_eq_false_iff_not, Bool.and_eq_true, bI_0, bI_n0] at c_14
      refine Wp.ldc2 kc_X12_178 dX12_bend_39 rfl ?_
      exact Wp.lret dX12_bend_42 rfl (RQ.l (by simp (disch := omega) only [a_bend, okL, okA, okWy, okPr, isO, okTl, okS, w01, okWn, okWh, nI_tI, iI_tI, tn_nI, nI_m1]; (repeat' split) <;> first | (exfalso; omega) | rfl) hM hP (Out.rfl (x := x) (h := h)))
    · try simp only [decide_eq_true_eq, decide_eq_false_iff_not, Bool.and_eq_true, bI_0, bI_n0] at c_14
      obtain ⟨i, rfl, ho, ho2⟩ := as_nI (show 0 ≤ o.toInt ∧ o.toInt < σ.n by omega)
      have hO := hP.of i ho
      have hOw := hW.of i ho
      refine Wp.aload_n dX12_bend_17 rfl (by first | exact Or.inr ⟨_, rfl⟩ | exact Or.inl rfl) rfl ?_
      refine Wp.iload_n dX12_bend_18 rfl rfl ?_
      refine Wp.cV dX12_bend_19 cv_X12_208 rfl (by omega) rfl (Nat.le_of_ble_eq_true rfl) (Nat.le_of_ble_eq_true rfl) hM.ob rfl (c_X12_prepares (d := d - 1) hM hP hW ho (by omega)) ?_
      rintro _ h2 ⟨rfl, V2, G2, Z2, hM2, o2, k2, hC2, hT2⟩
      have hP2 := hP.kp k2
      dsimp only [Option.toList, List.drop, List.cons_append, List.nil_append]
      have hnb := npt_b hW i
      refine Wp.bif_eq (tgt := 39) (n := 25) dX12_bend_22 (by decide) rfl (fun c_22 => ?_) (fun c_22 => ?_)
      · try simp only [decide_eq_false_iff_not] at c_22
        have hn2 : npt σ i = 2 := by rw [npt, if_neg c_22]
        refine Wp.ldc2 kc_X12_178 dX12_bend_39 rfl ?_
        exact Wp.lret dX12_bend_42 rfl (RQ.l (by simp (disch := omega) only [a_bend, okL, okA, okWy, okPr, isO, okTl, okS, w01, okWn, okWh, nI_tI, iI_tI, tn_nI, nI_m1]; (repeat' split) <;> first | (exfalso; omega) | rfl) hM2 hP2 o2)
      · try simp only [decide_eq_true_eq] at c_22
        refine Wp.iload_n dX12_bend_25 rfl rfl ?_
        refine Wp.iconst (v := (nI 0)) dX12_bend_26 (by decide) rfl ?_
        refine Wp.aload_n dX12_bend_27 rfl (by first | exact Or.inr ⟨_, rfl⟩ | exact Or.inl rfl) rfl ?_
        refine Wp.get dX12_bend_28 fl_X12_198 hM2.ob hT2.1 rfl ?_
        refine Wp.iconst (v := (nI 3)) dX12_bend_31 (by decide) rfl ?_
        refine Wp.isub dX12_bend_32 rfl ?_
        refine Wp.cS dX12_bend_33 cs_X12_85 rfl (by omega) rfl (Nat.le_of_ble_eq_true rfl) (Nat.le_of_ble_eq_true rfl) rfl (c_X12_in (d := d - 1)) ?_
        rintro _ h_ ⟨rfl, e_⟩
        rw [e_]
        clear e_ h_
        dsimp only [Option.toList, List.drop, List.cons_append, List.nil_append]
        try simp (disch := omega) only [nI_mk, nI_tI, i_0]
        refine Wp.bif_ne (tgt := 43) (n := 39) dX12_bend_36 (by decide) rfl (fun c_36 => ?_) (fun c_36 => ?_)
        · try simp only [decide_eq_true_eq, decide_eq_false_iff_not, Bool.and_eq_true, bI_0, bI_n0] at c_36
          obtain ⟨j, rfl, hj, hj2⟩ := as_nI (o := u) (n := npt σ i - 2) (by omega)
          obtain ⟨k, rfl, hk, hk2⟩ := as_nI (o := w) (n := 4) (by omega)
          refine Wp.aload_n dX12_bend_43 rfl (by first | exact Or.inr ⟨_, rfl⟩ | exact Or.inl rfl) rfl ?_
          refine Wp.iload_n dX12_bend_44 rfl rfl ?_
          refine Wp.iload_n dX12_bend_45 rfl rfl ?_
          refine Wp.cV dX12_bend_46 cv_X12_211 rfl (by omega) rfl (Nat.le_of_ble_eq_true rfl) (Nat.le_of_ble_eq_true rfl) hM2.ob rfl (c_X12_bendOf (d := d - 1) hM2 hW hC2 hT2 c_22 (by omega) (by omega) (by omega)) ?_
          rintro _ h_ ⟨rfl, e_⟩
          rw [e_]
          clear e_ h_
          dsimp only [Option.toList, List.drop, List.cons_append, List.nil_append]
          exact Wp.lret dX12_bend_49 rfl (RQ.l (by simp (disch := omega) only [a_bend, okL, okA, okWy, okPr, isO, okTl, okS, w01, okWn, okWh, nI_tI, iI_tI, tn_nI, nI_m1]; (repeat' split) <;> first | (exfalso; omega) | rfl) hM2 hP2 o2)
        · try simp only [decide_eq_true_eq, decide_eq_false_iff_not, Bool.and_eq_true, bI_0, bI_n0] at c_36
          refine Wp.ldc2 kc_X12_178 dX12_bend_39 rfl ?_
          exact Wp.lret dX12_bend_42 rfl (RQ.l (by simp (disch := omega) only [a_bend, okL, okA, okWy, okPr, isO, okTl, okS, w01, okWn, okWh, nI_tI, iI_tI, tn_nI, nI_m1]; (repeat' split) <;> first | (exfalso; omega) | rfl) hM2 hP2 o2)
set_option maxHeartbeats 2000000 in
theorem c_X12_span {B : ev_B} {d x : Nat} {h : ev_H} {V : Nat → Value} {G : Nat → Nat → Int32} {Z : Nat → Nat → Int64} {σ : Sg} {o s w : Int32} (hM : MH h x V G Z) (hP : PM σ V G Z) (hW : Wf σ) (hd : 5 ≤ d) :
    Wp B d M_X12_span 0 [some (.ref x), some (.int (o)), some (.int (s)), some (.int (w)), none, none, none, none, none, none] [] h (RQ x h (σ) (.long (a_span σ o s w))) := by
  have hn := hW.n
  have hT := hW.net.1
  have hL := hW.net.2.1
  refine Wp.aload_n dX12_span_0 rfl (by first | exact Or.inr ⟨_, rfl⟩ | exact Or.inl rfl) rfl ?_
  refine Wp.iload_n dX12_span_1 rfl rfl ?_
  refine Wp.cV dX12_span_2 cv_X12_115 rfl (by omega) rfl (Nat.le_of_ble_eq_true rfl) (Nat.le_of_ble_eq_true rfl) hM.ob rfl (c_X12_isOffer (d := d - 1) hM hP hW (by omega)) ?_
  rintro _ h_ ⟨rfl, e_⟩
  rw [e_]
  clear e_ h_
  dsimp only [Option.toList, List.drop, List.cons_append, List.nil_append]
  refine Wp.bif_eq (tgt := 17) (n := 8) dX12_span_5 (by decide) rfl (fun c_5 => ?_) (fun c_5 => ?_)
  · try simp only [decide_eq_true_eq, decide_eq_false_iff_not, Bool.and_eq_true, bI_0, bI_n0] at c_5
    refine Wp.ldc2 kc_X12_178 dX12_span_17 rfl ?_
    exact Wp.lret dX12_span_20 rfl (RQ.l (by simp (disch := omega) only [a_span, okL, okA, okWy, okPr, isO, okTl, okS, w01, okWn, okWh, nI_tI, iI_tI, tn_nI, nI_m1]; (repeat' split) <;> first | (exfalso; omega) | rfl) hM hP (Out.rfl (x := x) (h := h)))
  · try simp only [decide_eq_true_eq, decide_eq_false_iff_not, Bool.and_eq_true, bI_0, bI_n0] at c_5
    refine Wp.iload_n dX12_span_8 rfl rfl ?_
    refine Wp.iconst (v := (nI 0)) dX12_span_9 (by decide) rfl ?_
    refine Wp.iconst (v := (nI 4)) dX12_span_10 (by decide) rfl ?_
    refine Wp.cS dX12_span_11 cs_X12_85 rfl (by omega) rfl (Nat.le_of_ble_eq_true rfl) (Nat.le_of_ble_eq_true rfl) rfl (c_X12_in (d := d - 1)) ?_
    rintro _ h_ ⟨rfl, e_⟩
    rw [e_]
    clear e_ h_
    dsimp only [Option.toList, List.drop, List.cons_append, List.nil_append]
    try simp (disch := omega) only [nI_m1, nI_tI, i_0]
    refine Wp.bif_ne (tgt := 21) (n := 17) dX12_span_14 (by decide) rfl (fun c_14 => ?_) (fun c_14 => ?_)
    · try simp only [decide_eq_true_eq, decide_eq_false_iff_not, Bool.and_eq_true, bI_0, bI_n0] at c_14
      obtain ⟨i, rfl, ho, ho2⟩ := as_nI (show 0 ≤ o.toInt ∧ o.toInt < σ.n by omega)
      have hO := hP.of i ho
      have hOw := hW.of i ho
      refine Wp.aload_n dX12_span_21 rfl (by first | exact Or.inr ⟨_, rfl⟩ | exact Or.inl rfl) rfl ?_
      refine Wp.iload_n dX12_span_22 rfl rfl ?_
      refine Wp.cV dX12_span_23 cv_X12_168 rfl (by omega) rfl (Nat.le_of_ble_eq_true rfl) (Nat.le_of_ble_eq_true rfl) hM.ob rfl (c_X12_gathers (d := d - 1) hM hP hW ho (by omega)) ?_
      rintro _ h2 ⟨rfl, V2, G2, hM2, o2, k2, l1, l2⟩
      have hC2 := ChA.of l1 l2
      have hP2 := hP.kp k2
      dsimp only [Option.toList, List.drop, List.cons_append, List.nil_append]
      have hcn := chn_le σ i
      have hB := PrB_ch hW i
      refine Wp.aload_n dX12_span_26 rfl (by first | exact Or.inr ⟨_, rfl⟩ | exact Or.inl rfl) rfl ?_
      refine Wp.iload_n dX12_span_27 rfl rfl ?_
      refine Wp.cV dX12_span_28 cv_X12_228 rfl (by omega) rfl (Nat.le_of_ble_eq_true rfl) (Nat.le_of_ble_eq_true rfl) hM2.ob rfl (c_X12_placeOf (d := d - 1) (o := i) hM2 hC2) ?_
      rintro _ h_ ⟨rfl, e_⟩
      rw [e_]
      clear e_ h_
      dsimp only [Option.toList, List.drop, List.cons_append, List.nil_append]
      have hpl := plc_in σ i s
      refine Wp.istore dX12_span_31 (Nat.le_of_ble_eq_true rfl) (by dsimp only [ev_st1, ev_st2, ev_cl] <;> rfl) rfl ?_
      refine Wp.iload dX12_span_33 rfl rfl ?_
      refine Wp.iconst (v := (-1)) dX12_span_35 (by decide) rfl ?_
      rw [show (-1 : Int32) = iI (-1) from rfl]
      refine Wp.icmp_ne (tgt := 43) (n := 39) dX12_span_36 (by decide) rfl (fun c_36 => ?_) (fun c_36 => ?_)
      · have c_36 : plc σ i s ≠ -1 := fun z => c_36 (by rw [z])
        obtain ⟨c, hc⟩ : ∃ c : Nat, plc σ i s = c := ⟨_, (Int.toNat_of_nonneg (by omega)).symm⟩
        rw [hc, ← nI_iI]
        have hcl : c < chn σ i := by omega
        have hb1 := loN_b hB hcl (chn σ i) (Nat.le_refl _)
        have hb2 := hiN_b hB hcl (chn σ i) (Nat.le_refl _)
        refine Wp.aload_n dX12_span_43 rfl (by first | exact Or.inr ⟨_, rfl⟩ | exact Or.inl rfl) rfl ?_
        refine Wp.iload dX12_span_44 rfl rfl ?_
        refine Wp.cV dX12_span_46 cv_X12_231 rfl (by omega) rfl (Nat.le_of_ble_eq_true rfl) (Nat.le_of_ble_eq_true rfl) hM2.ob rfl (c_X12_spans (d := d - 1) hM2 hC2.1 hB hcl) ?_
        rintro _ h3 ⟨rfl, V3, hM3, o3, f3, l1_, l2_, l3_, l4_⟩
        have k3 : Kp V2 G2 Z V3 G2 Z := fun j hj => ⟨f3 j (by omega), rfl, rfl⟩
        have hP3 := hP2.kp k3
        have o3 := o2.trans o3
        dsimp only [Option.toList, List.drop, List.cons_append, List.nil_append]
        refine Wp.istore dX12_span_49 (Nat.le_of_ble_eq_true rfl) (by dsimp only [ev_st1, ev_st2, ev_cl] <;> rfl) rfl ?_
        obtain ⟨j, rfl, hj, hj2⟩ := as_nI (o := w) (n := 5) (by omega)
        have hjj : j = 0 ∨ j = 1 ∨ j = 2 ∨ j = 3 ∨ j = 4 := by omega
        rcases hjj with rfl | rfl | rfl | rfl | rfl
        · refine Wp.iload_n dX12_span_51 rfl rfl ?_
          refine Wp.if_ne (tgt := 66) (n := 55) dX12_span_52 (by decide) rfl (fun c_ => absurd (by decide) c_) (fun _ => ?_)
          refine Wp.iload dX12_span_55 rfl rfl ?_
          refine Wp.bif_eq (tgt := 64) (n := 60) dX12_span_57 (by decide) rfl (fun c_57 => ?_) (fun c_57 => ?_)
          · try simp only [decide_eq_true_eq, decide_eq_false_iff_not, Bool.and_eq_true, bI_0, bI_n0] at c_57
            refine Wp.lconst (v := 0) dX12_span_64 (by decide) rfl ?_
            exact Wp.lret dX12_span_65 rfl (RQ.l (by rw [a_span, if_pos (by simp (disch := omega) only [isO, w01, nI_tI, tn_nI]; omega), tn_nI ho2, hc, Int.toNat_natCast, nI_tI (by decide), spV]; rw [if_pos (by decide), c_57] <;> rfl) hM3 hP3 o3)
          · try simp only [decide_eq_true_eq, decide_eq_false_iff_not, Bool.and_eq_true, bI_0, bI_n0] at c_57
            refine Wp.lconst (v := 1) dX12_span_60 (by decide) rfl ?_
            refine Wp.goto (n := 65) dX12_span_61 (by decide) ?_
            exact Wp.lret dX12_span_65 rfl (RQ.l (by rw [a_span, if_pos (by simp (disch := omega) only [isO, w01, nI_tI, tn_nI]; omega), tn_nI ho2, hc, Int.toNat_natCast, nI_tI (by decide), spV]; rw [if_pos (by decide), c_57] <;> rfl) hM3 hP3 o3)
        · refine Wp.iload_n dX12_span_51 rfl rfl ?_
          refine Wp.if_ne (tgt := 66) (n := 55) dX12_span_52 (by decide) rfl (fun _ => ?_) (fun c_ => absurd c_ (by decide))
          refine Wp.iload dX12_span_66 rfl rfl ?_
          refine Wp.bif_ne (tgt := 75) (n := 71) dX12_span_68 (by decide) rfl (fun c_68 => ?_) (fun c_68 => ?_)
          · try simp only [decide_eq_true_eq, decide_eq_false_iff_not, Bool.and_eq_true, bI_0, bI_n0] at c_68
            refine Wp.iload_n dX12_span_75 rfl rfl ?_
            refine Wp.iconst (v := (nI 3)) dX12_span_76 (by decide) rfl ?_
            refine Wp.icmp_ge (tgt := 87) (n := 80) dX12_span_77 (by decide) rfl (fun c_ => absurd c_ (by decide)) (fun _ => ?_)
            refine Wp.aload_n dX12_span_80 rfl (by first | exact Or.inr ⟨_, rfl⟩ | exact Or.inl rfl) rfl ?_
            refine Wp.get dX12_span_81 fl_X12_215 hM3.ob l1_ rfl ?_
            refine Wp.goto (n := 91) dX12_span_84 (by decide) ?_
            refine Wp.lstore dX12_span_91 (Nat.le_of_ble_eq_true rfl) (by dsimp only [ev_st1, ev_st2, ev_cl] <;> rfl) rfl ?_
            refine Wp.iload_n dX12_span_93 rfl rfl ?_
            refine Wp.iconst (v := (nI 3)) dX12_span_94 (by decide) rfl ?_
            refine Wp.icmp_ge (tgt := 105) (n := 98) dX12_span_95 (by decide) rfl (fun c_ => absurd c_ (by decide)) (fun _ => ?_)
            refine Wp.aload_n dX12_span_98 rfl (by first | exact Or.inr ⟨_, rfl⟩ | exact Or.inl rfl) rfl ?_
            refine Wp.get dX12_span_99 fl_X12_219 hM3.ob l2_ rfl ?_
            refine Wp.goto (n := 109) dX12_span_102 (by decide) ?_
            refine Wp.lstore dX12_span_109 (Nat.le_of_ble_eq_true rfl) (by dsimp only [ev_st1, ev_st2, ev_cl] <;> rfl) rfl ?_
            refine Wp.lload dX12_span_111 rfl rfl ?_
            refine Wp.lconst (v := 0) dX12_span_113 (by decide) rfl ?_
            refine Wp.lcmp_ne (tgt := 122) (n := 118) dX12_span_114 rfl dX12_span_115 (by decide) rfl (fun c_114 => ?_) (fun c_114 => ?_)
            · have c_112 : ¬ (loN (chS σ i) (chR σ i) c (chn σ i)).2 = 0 := fun z => c_114 (by rw [z]; rfl)
              refine Wp.lload dX12_span_122 rfl rfl ?_
              refine Wp.lload dX12_span_124 rfl rfl ?_
              refine Wp.iload_n dX12_span_126 rfl rfl ?_
              refine Wp.iconst (v := (nI 2)) dX12_span_127 (by decide) rfl ?_
              refine Wp.irem dX12_span_128 (by decide) rfl ?_
              refine Wp.iconst (v := (nI 1)) dX12_span_129 (by decide) rfl ?_
              refine Wp.icmp_ne (tgt := 137) (n := 133) dX12_span_130 (by decide) rfl (fun c_ => absurd (by decide) c_) (fun _ => ?_)
              refine Wp.iconst (v := (nI 0)) dX12_span_133 (by decide) rfl ?_
              refine Wp.goto (n := 138) dX12_span_134 (by decide) ?_
              refine Wp.cS dX12_span_138 cs_X12_180 rfl (by omega) rfl (Nat.le_of_ble_eq_true rfl) (Nat.le_of_ble_eq_true rfl) rfl (c_X12_lowest (d := d - 1) (sm_b (by omega) (by omega)) (sm_b (by omega) (by omega)) (gcd_posr (by omega)) (by omega)) ?_
              rintro _ h_ ⟨rfl, e_⟩
              rw [e_]
              clear e_ h_
              dsimp only [Option.toList, List.drop, List.cons_append, List.nil_append]
              exact Wp.lret dX12_span_141 rfl (RQ.l (by rw [a_span, if_pos (by simp (disch := omega) only [isO, w01, nI_tI, tn_nI]; omega), tn_nI ho2, hc, Int.toNat_natCast, nI_tI (by decide), spV]; rw [if_neg (by decide), if_pos c_68, if_pos (by decide)]; first | (rw [if_pos c_112] <;> rfl) | (rw [if_neg c_112] <;> rfl)) hM3 hP3 o3)
            · have c_112 := (lI_0 (by omega) (by omega)).mp c_114
              refine Wp.lconst (v := 0) dX12_span_118 (by decide) rfl ?_
              refine Wp.goto (n := 141) dX12_span_119 (by decide) ?_
              exact Wp.lret dX12_span_141 rfl (RQ.l (by rw [a_span, if_pos (by simp (disch := omega) only [isO, w01, nI_tI, tn_nI]; omega), tn_nI ho2, hc, Int.toNat_natCast, nI_tI (by decide), spV]; rw [if_neg (by decide), if_pos c_68, if_pos (by decide)]; first | (rw [if_pos c_112] <;> rfl) | (rw [if_neg c_112] <;> rfl)) hM3 hP3 o3)
          · try simp only [decide_eq_true_eq, decide_eq_false_iff_not, Bool.and_eq_true, bI_0, bI_n0] at c_68
            refine Wp.ldc2 kc_X12_178 dX12_span_71 rfl ?_
            exact Wp.lret dX12_span_74 rfl (RQ.l (by rw [a_span, if_pos (by simp (disch := omega) only [isO, w01, nI_tI, tn_nI]; omega), tn_nI ho2, hc, Int.toNat_natCast, nI_tI (by decide), spV]; rw [if_neg (by decide), if_neg (by rw [c_68]; decide)]) hM3 hP3 o3)
        · refine Wp.iload_n dX12_span_51 rfl rfl ?_
          refine Wp.if_ne (tgt := 66) (n := 55) dX12_span_52 (by decide) rfl (fun _ => ?_) (fun c_ => absurd c_ (by decide))
          refine Wp.iload dX12_span_66 rfl rfl ?_
          refine Wp.bif_ne (tgt := 75) (n := 71) dX12_span_68 (by decide) rfl (fun c_68 => ?_) (fun c_68 => ?_)
          · try simp only [decide_eq_true_eq, decide_eq_false_iff_not, Bool.and_eq_true, bI_0, bI_n0] at c_68
            refine Wp.iload_n dX12_span_75 rfl rfl ?_
            refine Wp.iconst (v := (nI 3)) dX12_span_76 (by decide) rfl ?_
            refine Wp.icmp_ge (tgt := 87) (n := 80) dX12_span_77 (by decide) rfl (fun c_ => absurd c_ (by decide)) (fun _ => ?_)
            refine Wp.aload_n dX12_span_80 rfl (by first | exact Or.inr ⟨_, rfl⟩ | exact Or.inl rfl) rfl ?_
            refine Wp.get dX12_span_81 fl_X12_215 hM3.ob l1_ rfl ?_
            refine Wp.goto (n := 91) dX12_span_84 (by decide) ?_
            refine Wp.lstore dX12_span_91 (Nat.le_of_ble_eq_true rfl) (by dsimp only [ev_st1, ev_st2, ev_cl] <;> rfl) rfl ?_
            refine Wp.iload_n dX12_span_93 rfl rfl ?_
            refine Wp.iconst (v := (nI 3)) dX12_span_94 (by decide) rfl ?_
            refine Wp.icmp_ge (tgt := 105) (n := 98) dX12_span_95 (by decide) rfl (fun c_ => absurd c_ (by decide)) (fun _ => ?_)
            refine Wp.aload_n dX12_span_98 rfl (by first | exact Or.inr ⟨_, rfl⟩ | exact Or.inl rfl) rfl ?_
            refine Wp.get dX12_span_99 fl_X12_219 hM3.ob l2_ rfl ?_
            refine Wp.goto (n := 109) dX12_span_102 (by decide) ?_
            refine Wp.lstore dX12_span_109 (Nat.le_of_ble_eq_true rfl) (by dsimp only [ev_st1, ev_st2, ev_cl] <;> rfl) rfl ?_
            refine Wp.lload dX12_span_111 rfl rfl ?_
            refine Wp.lconst (v := 0) dX12_span_113 (by decide) rfl ?_
            refine Wp.lcmp_ne (tgt := 122) (n := 118) dX12_span_114 rfl dX12_span_115 (by decide) rfl (fun c_114 => ?_) (fun c_114 => ?_)
            · have c_112 : ¬ (loN (chS σ i) (chR σ i) c (chn σ i)).2 = 0 := fun z => c_114 (by rw [z]; rfl)
              refine Wp.lload dX12_span_122 rfl rfl ?_
              refine Wp.lload dX12_span_124 rfl rfl ?_
              refine Wp.iload_n dX12_span_126 rfl rfl ?_
              refine Wp.iconst (v := (nI 2)) dX12_span_127 (by decide) rfl ?_
              refine Wp.irem dX12_span_128 (by decide) rfl ?_
              refine Wp.iconst (v := (nI 1)) dX12_span_129 (by decide) rfl ?_
              refine Wp.icmp_ne (tgt := 137) (n := 133) dX12_span_130 (by decide) rfl (fun _ => ?_) (fun c_ => absurd c_ (by decide))
              refine Wp.iconst (v := (nI 1)) dX12_span_137 (by decide) rfl ?_
              refine Wp.cS dX12_span_138 cs_X12_180 rfl (by omega) rfl (Nat.le_of_ble_eq_true rfl) (Nat.le_of_ble_eq_true rfl) rfl (c_X12_lowest (d := d - 1) (sm_b (by omega) (by omega)) (sm_b (by omega) (by omega)) (gcd_posr (by omega)) (by omega)) ?_
              rintro _ h_ ⟨rfl, e_⟩
              rw [e_]
              clear e_ h_
              dsimp only [Option.toList, List.drop, List.cons_append, List.nil_append]
              exact Wp.lret dX12_span_141 rfl (RQ.l (by rw [a_span, if_pos (by simp (disch := omega) only [isO, w01, nI_tI, tn_nI]; omega), tn_nI ho2, hc, Int.toNat_natCast, nI_tI (by decide), spV]; rw [if_neg (by decide), if_pos c_68, if_pos (by decide)]; first | (rw [if_pos c_112] <;> rfl) | (rw [if_neg c_112] <;> rfl)) hM3 hP3 o3)
            · have c_112 := (lI_0 (by omega) (by omega)).mp c_114
              refine Wp.lconst (v := 0) dX12_span_118 (by decide) rfl ?_
              refine Wp.goto (n := 141) dX12_span_119 (by decide) ?_
              exact Wp.lret dX12_span_141 rfl (RQ.l (by rw [a_span, if_pos (by simp (disch := omega) only [isO, w01, nI_tI, tn_nI]; omega), tn_nI ho2, hc, Int.toNat_natCast, nI_tI (by decide), spV]; rw [if_neg (by decide), if_pos c_68, if_pos (by decide)]; first | (rw [if_pos c_112] <;> rfl) | (rw [if_neg c_112] <;> rfl)) hM3 hP3 o3)
          · try simp only [decide_eq_true_eq, decide_eq_false_iff_not, Bool.and_eq_true, bI_0, bI_n0] at c_68
            refine Wp.ldc2 kc_X12_178 dX12_span_71 rfl ?_
            exact Wp.lret dX12_span_74 rfl (RQ.l (by rw [a_span, if_pos (by simp (disch := omega) only [isO, w01, nI_tI, tn_nI]; omega), tn_nI ho2, hc, Int.toNat_natCast, nI_tI (by decide), spV]; rw [if_neg (by decide), if_neg (by rw [c_68]; decide)]) hM3 hP3 o3)
        · refine Wp.iload_n dX12_span_51 rfl rfl ?_
          refine Wp.if_ne (tgt := 66) (n := 55) dX12_span_52 (by decide) rfl (fun _ => ?_) (fun c_ => absurd c_ (by decide))
          refine Wp.iload dX12_span_66 rfl rfl ?_
          refine Wp.bif_ne (tgt := 75) (n := 71) dX12_span_68 (by decide) rfl (fun c_68 => ?_) (fun c_68 => ?_)
          · try simp only [decide_eq_true_eq, decide_eq_false_iff_not, Bool.and_eq_true, bI_0, bI_n0] at c_68
            refine Wp.iload_n dX12_span_75 rfl rfl ?_
            refine Wp.iconst (v := (nI 3)) dX12_span_76 (by decide) rfl ?_
            refine Wp.icmp_ge (tgt := 87) (n := 80) dX12_span_77 (by decide) rfl (fun _ => ?_) (fun c_ => absurd (by decide) c_)
            refine Wp.aload_n dX12_span_87 rfl (by first | exact Or.inr ⟨_, rfl⟩ | exact Or.inl rfl) rfl ?_
            refine Wp.get dX12_span_88 fl_X12_222 hM3.ob l3_ rfl ?_
            refine Wp.lstore dX12_span_91 (Nat.le_of_ble_eq_true rfl) (by dsimp only [ev_st1, ev_st2, ev_cl] <;> rfl) rfl ?_
            refine Wp.iload_n dX12_span_93 rfl rfl ?_
            refine Wp.iconst (v := (nI 3)) dX12_span_94 (by decide) rfl ?_
            refine Wp.icmp_ge (tgt := 105) (n := 98) dX12_span_95 (by decide) rfl (fun _ => ?_) (fun c_ => absurd (by decide) c_)
            refine Wp.aload_n dX12_span_105 rfl (by first | exact Or.inr ⟨_, rfl⟩ | exact Or.inl rfl) rfl ?_
            refine Wp.get dX12_span_106 fl_X12_225 hM3.ob l4_ rfl ?_
            refine Wp.lstore dX12_span_109 (Nat.le_of_ble_eq_true rfl) (by dsimp only [ev_st1, ev_st2, ev_cl] <;> rfl) rfl ?_
            refine Wp.lload dX12_span_111 rfl rfl ?_
            refine Wp.lconst (v := 0) dX12_span_113 (by decide) rfl ?_
            refine Wp.lcmp_ne (tgt := 122) (n := 118) dX12_span_114 rfl dX12_span_115 (by decide) rfl (fun c_114 => ?_) (fun c_114 => ?_)
            · have c_112 : ¬ (hiN (chS σ i) (chR σ i) c (chn σ i)).2 = 0 := fun z => c_114 (by rw [z]; rfl)
              refine Wp.lload dX12_span_122 rfl rfl ?_
              refine Wp.lload dX12_span_124 rfl rfl ?_
              refine Wp.iload_n dX12_span_126 rfl rfl ?_
              refine Wp.iconst (v := (nI 2)) dX12_span_127 (by decide) rfl ?_
              refine Wp.irem dX12_span_128 (by decide) rfl ?_
              refine Wp.iconst (v := (nI 1)) dX12_span_129 (by decide) rfl ?_
              refine Wp.icmp_ne (tgt := 137) (n := 133) dX12_span_130 (by decide) rfl (fun c_ => absurd (by decide) c_) (fun _ => ?_)
              refine Wp.iconst (v := (nI 0)) dX12_span_133 (by decide) rfl ?_
              refine Wp.goto (n := 138) dX12_span_134 (by decide) ?_
              refine Wp.cS dX12_span_138 cs_X12_180 rfl (by omega) rfl (Nat.le_of_ble_eq_true rfl) (Nat.le_of_ble_eq_true rfl) rfl (c_X12_lowest (d := d - 1) (sm_b (by omega) (by omega)) (sm_b (by omega) (by omega)) (gcd_posr (by omega)) (by omega)) ?_
              rintro _ h_ ⟨rfl, e_⟩
              rw [e_]
              clear e_ h_
              dsimp only [Option.toList, List.drop, List.cons_append, List.nil_append]
              exact Wp.lret dX12_span_141 rfl (RQ.l (by rw [a_span, if_pos (by simp (disch := omega) only [isO, w01, nI_tI, tn_nI]; omega), tn_nI ho2, hc, Int.toNat_natCast, nI_tI (by decide), spV]; rw [if_neg (by decide), if_pos c_68, if_neg (by decide)]; first | (rw [if_pos c_112] <;> rfl) | (rw [if_neg c_112] <;> rfl)) hM3 hP3 o3)
            · have c_112 := (lI_0 (by omega) (by omega)).mp c_114
              refine Wp.lconst (v := 0) dX12_span_118 (by decide) rfl ?_
              refine Wp.goto (n := 141) dX12_span_119 (by decide) ?_
              exact Wp.lret dX12_span_141 rfl (RQ.l (by rw [a_span, if_pos (by simp (disch := omega) only [isO, w01, nI_tI, tn_nI]; omega), tn_nI ho2, hc, Int.toNat_natCast, nI_tI (by decide), spV]; rw [if_neg (by decide), if_pos c_68, if_neg (by decide)]; first | (rw [if_pos c_112] <;> rfl) | (rw [if_neg c_112] <;> rfl)) hM3 hP3 o3)
          · try simp only [decide_eq_true_eq, decide_eq_false_iff_not, Bool.and_eq_true, bI_0, bI_n0] at c_68
            refine Wp.ldc2 kc_X12_178 dX12_span_71 rfl ?_
            exact Wp.lret dX12_span_74 rfl (RQ.l (by rw [a_span, if_pos (by simp (disch := omega) only [isO, w01, nI_tI, tn_nI]; omega), tn_nI ho2, hc, Int.toNat_natCast, nI_tI (by decide), spV]; rw [if_neg (by decide), if_neg (by rw [c_68]; decide)]) hM3 hP3 o3)
        · refine Wp.iload_n dX12_span_51 rfl rfl ?_
          refine Wp.if_ne (tgt := 66) (n := 55) dX12_span_52 (by decide) rfl (fun _ => ?_) (fun c_ => absurd c_ (by decide))
          refine Wp.iload dX12_span_66 rfl rfl ?_
          refine Wp.bif_ne (tgt := 75) (n := 71) dX12_span_68 (by decide) rfl (fun c_68 => ?_) (fun c_68 => ?_)
          · try simp only [decide_eq_true_eq, decide_eq_false_iff_not, Bool.and_eq_true, bI_0, bI_n0] at c_68
            refine Wp.iload_n dX12_span_75 rfl rfl ?_
            refine Wp.iconst (v := (nI 3)) dX12_span_76 (by decide) rfl ?_
            refine Wp.icmp_ge (tgt := 87) (n := 80) dX12_span_77 (by decide) rfl (fun _ => ?_) (fun c_ => absurd (by decide) c_)
            refine Wp.aload_n dX12_span_87 rfl (by first | exact Or.inr ⟨_, rfl⟩ | exact Or.inl rfl) rfl ?_
            refine Wp.get dX12_span_88 fl_X12_222 hM3.ob l3_ rfl ?_
            refine Wp.lstore dX12_span_91 (Nat.le_of_ble_eq_true rfl) (by dsimp only [ev_st1, ev_st2, ev_cl] <;> rfl) rfl ?_
            refine Wp.iload_n dX12_span_93 rfl rfl ?_
            refine Wp.iconst (v := (nI 3)) dX12_span_94 (by decide) rfl ?_
            refine Wp.icmp_ge (tgt := 105) (n := 98) dX12_span_95 (by decide) rfl (fun _ => ?_) (fun c_ => absurd (by decide) c_)
            refine Wp.aload_n dX12_span_105 rfl (by first | exact Or.inr ⟨_, rfl⟩ | exact Or.inl rfl) rfl ?_
            refine Wp.get dX12_span_106 fl_X12_225 hM3.ob l4_ rfl ?_
            refine Wp.lstore dX12_span_109 (Nat.le_of_ble_eq_true rfl) (by dsimp only [ev_st1, ev_st2, ev_cl] <;> rfl) rfl ?_
            refine Wp.lload dX12_span_111 rfl rfl ?_
            refine Wp.lconst (v := 0) dX12_span_113 (by decide) rfl ?_
            refine Wp.lcmp_ne (tgt := 122) (n := 118) dX12_span_114 rfl dX12_span_115 (by decide) rfl (fun c_114 => ?_) (fun c_114 => ?_)
            · have c_112 : ¬ (hiN (chS σ i) (chR σ i) c (chn σ i)).2 = 0 := fun z => c_114 (by rw [z]; rfl)
              refine Wp.lload dX12_span_122 rfl rfl ?_
              refine Wp.lload dX12_span_124 rfl rfl ?_
              refine Wp.iload_n dX12_span_126 rfl rfl ?_
              refine Wp.iconst (v := (nI 2)) dX12_span_127 (by decide) rfl ?_
              refine Wp.irem dX12_span_128 (by decide) rfl ?_
              refine Wp.iconst (v := (nI 1)) dX12_span_129 (by decide) rfl ?_
              refine Wp.icmp_ne (tgt := 137) (n := 133) dX12_span_130 (by decide) rfl (fun _ => ?_) (fun c_ => absurd c_ (by decide))
              refine Wp.iconst (v := (nI 1)) dX12_span_137 (by decide) rfl ?_
              refine Wp.cS dX12_span_138 cs_X12_180 rfl (by omega) rfl (Nat.le_of_ble_eq_true rfl) (Nat.le_of_ble_eq_true rfl) rfl (c_X12_lowest (d := d - 1) (sm_b (by omega) (by omega)) (sm_b (by omega) (by omega)) (gcd_posr (by omega)) (by omega)) ?_
              rintro _ h_ ⟨rfl, e_⟩
              rw [e_]
              clear e_ h_
              dsimp only [Option.toList, List.drop, List.cons_append, List.nil_append]
              exact Wp.lret dX12_span_141 rfl (RQ.l (by rw [a_span, if_pos (by simp (disch := omega) only [isO, w01, nI_tI, tn_nI]; omega), tn_nI ho2, hc, Int.toNat_natCast, nI_tI (by decide), spV]; rw [if_neg (by decide), if_pos c_68, if_neg (by decide)]; first | (rw [if_pos c_112] <;> rfl) | (rw [if_neg c_112] <;> rfl)) hM3 hP3 o3)
            · have c_112 := (lI_0 (by omega) (by omega)).mp c_114
              refine Wp.lconst (v := 0) dX12_span_118 (by decide) rfl ?_
              refine Wp.goto (n := 141) dX12_span_119 (by decide) ?_
              exact Wp.lret dX12_span_141 rfl (RQ.l (by rw [a_span, if_pos (by simp (disch := omega) only [isO, w01, nI_tI, tn_nI]; omega), tn_nI ho2, hc, Int.toNat_natCast, nI_tI (by decide), spV]; rw [if_neg (by decide), if_pos c_68, if_neg (by decide)]; first | (rw [if_pos c_112] <;> rfl) | (rw [if_neg c_112] <;> rfl)) hM3 hP3 o3)
          · try simp only [decide_eq_true_eq, decide_eq_false_iff_not, Bool.and_eq_true, bI_0, bI_n0] at c_68
            refine Wp.ldc2 kc_X12_178 dX12_span_71 rfl ?_
            exact Wp.lret dX12_span_74 rfl (RQ.l (by rw [a_span, if_pos (by simp (disch := omega) only [isO, w01, nI_tI, tn_nI]; omega), tn_nI ho2, hc, Int.toNat_natCast, nI_tI (by decide), spV]; rw [if_neg (by decide), if_neg (by rw [c_68]; decide)]) hM3 hP3 o3)
      · have c_36 := (iI_eq (by omega) (by omega) (by omega) (by omega)).mp c_36
        refine Wp.ldc2 kc_X12_178 dX12_span_39 rfl ?_
        exact Wp.lret dX12_span_42 rfl (RQ.l (by simp (disch := omega) only [a_span, okL, okA, okWy, okPr, isO, okTl, okS, w01, okWn, okWh, nI_tI, iI_tI, tn_nI, nI_m1]; (repeat' split) <;> first | (exfalso; omega) | rfl) hM2 hP2 o2)
    · try simp only [decide_eq_true_eq, decide_eq_false_iff_not, Bool.and_eq_true, bI_0, bI_n0] at c_14
      refine Wp.ldc2 kc_X12_178 dX12_span_17 rfl ?_
      exact Wp.lret dX12_span_20 rfl (RQ.l (by simp (disch := omega) only [a_span, okL, okA, okWy, okPr, isO, okTl, okS, w01, okWn, okWh, nI_tI, iI_tI, tn_nI, nI_m1]; (repeat' split) <;> first | (exfalso; omega) | rfl) hM hP (Out.rfl (x := x) (h := h)))
