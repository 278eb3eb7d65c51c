/-! the reference: choices of an offer, its points -/
theorem nI_lI {n : Nat} (h : n < 2147483648) : (nI n).toInt64 = lI n := by rw [nI_iI, iI_l (by omega) (by omega)]
def chn (σ : Sg) (o : Nat) : Nat := (chL σ.N (σ.O o)).length
def chC (σ : Sg) (o j : Nat) : Nat := (chL σ.N (σ.O o)).getD j 0
def chS (σ : Sg) (o j : Nat) : Int := sumS σ.N.sa (chC σ o j) σ.N.L
def chR (σ : Sg) (o j : Nat) : Int := sumS σ.N.ri (chC σ o j) σ.N.L
theorem sumS_b {f : Nat → Int} {s : Nat} {M : Int} (hM : 0 ≤ M) : ∀ n : Nat, (∀ l, l < n → -M ≤ f l ∧ f l ≤ M) → -(n * M) ≤ sumS f s n ∧ sumS f s n ≤ n * M
  | 0, _ => by simp [sumS]
  | n + 1, h => by
    have ih := sumS_b (s := s) hM n (fun l hl => h l (by omega))
    have hn := h n (by omega)
    have e : ((n + 1 : Nat) : Int) * M = n * M + M := by grind
    rw [e]
    simp only [sumS]
    split <;> omega
theorem sumS_12 {f : Nat → Int} {s L : Nat} {M : Int} (hM : 0 ≤ M) (hL : L ≤ 12) (h : ∀ l, l < L → -M ≤ f l ∧ f l ≤ M) : -(12 * M) ≤ sumS f s L ∧ sumS f s L ≤ 12 * M := by
  have h1 := sumS_b (s := s) hM L h
  have h2 : (L : Int) * M ≤ 12 * M := Int.mul_le_mul_of_nonneg_right (by omega) hM
  omega
theorem chn_le (σ : Sg) (o : Nat) : chn σ o ≤ 4096 := gl_len _ _ _
theorem PrB_ch {σ : Sg} (hW : Wf σ) (o : Nat) : PrB (chn σ o) (chS σ o) (chR σ o) := by
  have hN := hW.net
  refine ⟨chn_le σ o, fun j _ => ?_⟩
  have h1 := sumS_12 (f := σ.N.sa) (s := chC σ o j) (M := 100) (by decide) hN.2.1 (fun l hl => by have := hN.2.2 l hl; omega)
  have h2 := sumS_12 (f := σ.N.ri) (s := chC σ o j) (M := 20) (by decide) hN.2.1 (fun l hl => by have := hN.2.2 l hl; omega)
  unfold chS chR
  omega
theorem chC_lt (σ : Sg) (o j : Nat) : chC σ o j < 4096 := by
  unfold chC
  rcases Nat.lt_or_ge j (chL σ.N (σ.O o)).length with h | h
  · have e : (chL σ.N (σ.O o)).getD j 0 = (chL σ.N (σ.O o))[j] := by simp [List.getD, h]
    rw [e]; exact chL_lt (List.getElem_mem h)
  · have e : (chL σ.N (σ.O o)).getD j 0 = 0 := by simp [List.getD, h]
    rw [e]; decide
/-- the reference holds the choices of an offer -/
def ChA (V : Nat → Value) (G : Nat → Nat → Int32) (σ : Sg) (o : Nat) : Prop := PrA V G (chn σ o) (chS σ o) (chR σ o) ∧ ∀ j, j < chn σ o → G 21 j = nI (chC σ o j)
theorem ChA.of {V : Nat → Value} {G : Nat → Nat → Int32} {σ : Sg} {o : Nat} (h1 : V 20 = .int (nI (chL σ.N (σ.O o)).length)) (h2 : AH σ.N (chL σ.N (σ.O o)) (G 21) (G 22) (G 23)) : ChA V G σ o :=
  ⟨⟨h1, fun j hj => ⟨(h2 j hj).2.1, (h2 j hj).2.2⟩⟩, fun j hj => (h2 j hj).1⟩
theorem ChA.V {V V1 : Nat → Value} {G : Nat → Nat → Int32} {σ : Sg} {o k : Nat} (h : ChA V G σ o) (hk : k ≠ 20) (f : ∀ j, j ≠ k → V1 j = V j) : ChA V1 G σ o := ⟨⟨(f 20 (by omega)).trans h.1.1, h.1.2⟩, h.2⟩
/-- the place of a set among the first n -/
def plN (c : Nat → Nat) (n s : Nat) : Nat → Int
  | 0 => -1
  | k + 1 => if c (n - 1 - k) = s then ((n - 1 - k : Nat) : Int) else plN c n s k
theorem plN_in (c : Nat → Nat) (n s : Nat) : ∀ k, k ≤ n → -1 ≤ plN c n s k ∧ plN c n s k < n
  | 0, h => by simp only [plN]; omega
  | k + 1, h => by
    have := plN_in c n s k (by omega)
    simp only [plN]
    split <;> omega
def plc (σ : Sg) (o : Nat) (s : Int32) : Int := if 0 ≤ s.toInt ∧ s.toInt < 4096 then plN (chC σ o) (chn σ o) s.toInt.toNat (chn σ o) else -1
/-- all points of an offer -/
def pts (σ : Sg) (o : Nat) : List (Int × Int) := ptL (chS σ o) (chR σ o) (chn σ o) σ.p1 σ.q1 σ.p2 σ.q2
def npt (σ : Sg) (o : Nat) : Nat := if 0 < chn σ o then (pts σ o).length else 2
def ptP (σ : Sg) (o k : Nat) : Int := low true ((pts σ o).getD k (0, 1)).1 ((pts σ o).getD k (0, 1)).2
def ptQ (σ : Sg) (o k : Nat) : Int := low false ((pts σ o).getD k (0, 1)).1 ((pts σ o).getD k (0, 1)).2
def PtA (V : Nat → Value) (Z : Nat → Nat → Int64) (σ : Sg) (o : Nat) : Prop := V 24 = .int (nI (npt σ o)) ∧ (0 < chn σ o → ∀ k, k < (pts σ o).length → Z 25 k = lI (ptP σ o k) ∧ Z 26 k = lI (ptQ σ o k) ∧ Z 27 k = lI (mnN (cst (chS σ o) (chR σ o) (ptP σ o k) (ptQ σ o k)) (chn σ o)))
theorem PtA.V {V V1 : Nat → Value} {Z : Nat → Nat → Int64} {σ : Sg} {o k : Nat} (h : PtA V Z σ o) (hk : k ≠ 24) (f : ∀ j, j ≠ k → V1 j = V j) : PtA V1 Z σ o := ⟨(f 24 (by omega)).trans h.1, h.2⟩
theorem bl_len {S R : Nat → Int} {n : Nat} {P2 Q2 : Int} (hB : PrB n S R) : ∀ k a, a < n → (bl S R n P2 Q2 k a).length ≤ (R a + 240).toNat
  | 0, a, _ => by simp [bl]
  | k + 1, a, h => by
    simp only [bl]
    split
    · next hc =>
      rcases nxN_is S R a n with ⟨h1, -⟩ | ⟨b, h1, h2⟩
      · omega
      · rw [h1, Int.toNat_natCast]
        have ih := bl_len (P2 := P2) (Q2 := Q2) hB k b h2.1
        have hb := hB.2 b h2.1
        have := h2.2.1
        rw [List.length_cons]
        omega
    · simp
theorem pts_len {σ : Sg} (hW : Wf σ) {o : Nat} (h0 : 0 < chn σ o) : 2 ≤ (pts σ o).length ∧ (pts σ o).length ≤ 482 := by
  have hB := PrB_ch hW o
  have hb := bst_lt (cst (chS σ o) (chR σ o) σ.p1 σ.q1) (chR σ o) (chn σ o) h0
  have hl := bl_len (P2 := σ.p2) (Q2 := σ.q2) hB 500 _ hb
  have hr := hB.2 _ hb
  unfold pts ptL
  simp only [List.length_append, List.length_cons, List.length_map, List.length_nil]
  omega
theorem npt_b {σ : Sg} (hW : Wf σ) (o : Nat) : 2 ≤ npt σ o ∧ npt σ o ≤ 482 := by
  unfold npt
  split
  · next h => exact pts_len hW h
  · omega
/-- every point is a price -/
theorem bl_mem {S R : Nat → Int} {n : Nat} {P2 Q2 : Int} : ∀ k a e, a < n → e ∈ bl S R n P2 Q2 k a → e.1 < n ∧ IsN S R n e.1 e.2 ∧ nxN S R e.1 n = e.2 ∧ (S e.2 - S e.1) * Q2 < P2 * (R e.1 - R e.2)
  | 0, a, e, _, h => by simp [bl] at h
  | k + 1, a, e, ha, h => by
    simp only [bl] at h
    split at h
    · next hc =>
      rcases nxN_is S R a n with ⟨h1, -⟩ | ⟨b, h1, h2⟩
      · omega
      · rw [h1, Int.toNat_natCast] at h hc
        rcases List.mem_cons.mp h with rfl | h'
        · exact ⟨ha, h2, h1, hc.2⟩
        · exact bl_mem k b e h2.1 h'
    · simp at h
theorem pt_cases {σ : Sg} (hW : Wf σ) {o : Nat} (h0 : 0 < chn σ o) {e : Int × Int} (h : e ∈ pts σ o) : e = (σ.p1, σ.q1) ∨ e = (σ.p2, σ.q2) ∨ ∃ a b, a < chn σ o ∧ IsN (chS σ o) (chR σ o) (chn σ o) a b ∧ e = crs (chS σ o) (chR σ o) (a, b) := by
  unfold pts ptL at h
  simp only [List.cons_append, List.mem_cons, List.mem_append, List.mem_map, List.not_mem_nil, or_false] at h
  rcases h with h | ⟨ab, h1, h2⟩ | h
  · exact Or.inl h
  · have hb := bst_lt (cst (chS σ o) (chR σ o) σ.p1 σ.q1) (chR σ o) (chn σ o) h0
    have hm := bl_mem 500 _ ab hb h1
    exact Or.inr (Or.inr ⟨ab.1, ab.2, hm.1, hm.2.1, h2.symm⟩)
  · exact Or.inr (Or.inl h)
theorem pt_b {σ : Sg} (hW : Wf σ) {o : Nat} (h0 : 0 < chn σ o) {e : Int × Int} (h : e ∈ pts σ o) : -10000 ≤ e.1 ∧ e.1 ≤ 10000 ∧ 0 < e.2 ∧ e.2 ≤ 1000 := by
  have w1 := hW.w1
  have w2 := hW.w2
  have hB := PrB_ch hW o
  rcases pt_cases hW h0 h with rfl | rfl | ⟨a, b, h1, h2, rfl⟩
  · dsimp only; omega
  · dsimp only; omega
  · have ha := hB.2 a h1
    have hb := hB.2 b h2.1
    have := h2.2.1
    simp only [crs]; omega
theorem getD_mem {l : List (Int × Int)} {k : Nat} {e : Int × Int} (h : k < l.length) : l.getD k e ∈ l := by
  have e : l.getD k e = l[k] := by simp [List.getD, h]
  rw [e]; exact List.getElem_mem h
theorem ptPQ_b {σ : Sg} (hW : Wf σ) {o : Nat} (h0 : 0 < chn σ o) {k : Nat} (h : k < (pts σ o).length) : -10000 ≤ ptP σ o k ∧ ptP σ o k ≤ 10000 ∧ 0 < ptQ σ o k ∧ ptQ σ o k ≤ 10000 := by
  have hm := pt_b hW h0 (getD_mem (e := (0, 1)) h)
  have a := low_b (w := true) (a := ((pts σ o).getD k (0, 1)).1) (b := ((pts σ o).getD k (0, 1)).2) (A := 10000) (by omega) (by omega)
  have b := low_b (w := false) (a := ((pts σ o).getD k (0, 1)).1) (b := ((pts σ o).getD k (0, 1)).2) (A := 10000) (by omega) (by omega)
  obtain ⟨g, -, -, -, h4⟩ := low_frac (a := ((pts σ o).getD k (0, 1)).1) (b := ((pts σ o).getD k (0, 1)).2) hm.2.2.1
  unfold ptP ptQ
  omega
theorem ptPQ_pq {σ : Sg} (hW : Wf σ) {o : Nat} (h0 : 0 < chn σ o) {k : Nat} (h : k < (pts σ o).length) : pqB (ptP σ o k) (ptQ σ o k) := by
  have := ptPQ_b hW h0 h
  exact ⟨by omega, by omega, by omega, by omega⟩
theorem c_X12_prepares {B : ev_B} {d x : Nat} {h : ev_H} {V : Nat → Value} {G : Nat → Nat → Int32} {Z : Nat → Nat → Int64} {σ : Sg} {o : Nat} (hM : MH h x V G Z) (hP : PM σ V G Z) (hW : Wf σ) (ho : o < σ.n) (hd : 5 ≤ d) :
    Wp B d M_X12_prepares 0 [some (.ref x), some (.int (nI o))] [] h (fun v h' => v = some (.int (bI (decide (0 < chn σ o)))) ∧ ∃ V' G' Z', MH h' x V' G' Z' ∧ Out x h h' ∧ Kp V G Z V' G' Z' ∧ ChA V' G' σ o ∧ PtA V' Z' σ o) := by
  have hn := hW.n
  have hcn := chn_le σ o
  refine Wp.aload_n dX12_prepares_0 rfl (by first | exact Or.inr ⟨_, rfl⟩ | exact Or.inl rfl) rfl ?_
  refine Wp.iload_n dX12_prepares_1 rfl rfl ?_
  refine Wp.cV dX12_prepares_2 cv_X12_168 rfl (by omega) rfl (Nat.le_of_ble_eq_true rfl) (Nat.le_of_ble_eq_true rfl) hM.ob rfl (c_X12_gathers (d := d - 1) hM hP hW ho (by omega)) ?_
  rintro _ h2 ⟨rfl, V2, G2, hM2, o2, k2, l1, l2⟩
  have hC2 := ChA.of l1 l2
  have hP2 := hP.kp k2
  dsimp only [Option.toList, List.drop, List.cons_append, List.nil_append]
  refine Wp.aload_n dX12_prepares_5 rfl (by first | exact Or.inr ⟨_, rfl⟩ | exact Or.inl rfl) rfl ?_
  refine Wp.iconst (v := (nI 2)) dX12_prepares_6 (by decide) rfl ?_
  refine Wp.put dX12_prepares_7 fp_X12_198 hM2.ob rfl rfl rfl ?_
  refine hM2.put (k := 24) (by decide) ?_
  intro h7 V7 hM7 o7 e7 f7
  have out7 := o2.trans o7
  have hP7 := hP2.scV (by decide : 20 ≤ 24) f7
  have kp7 := k2.scV (by decide : 20 ≤ 24) f7
  have hA7 := (hC2.V (by decide : (7 + 17 : Nat) ≠ 20) f7)
  refine Wp.aload_n dX12_prepares_10 rfl (by first | exact Or.inr ⟨_, rfl⟩ | exact Or.inl rfl) rfl ?_
  refine Wp.get dX12_prepares_11 fl_X12_150 hM7.ob ((f7 20 (by decide)).trans hC2.1.1) rfl ?_
  refine Wp.if_le (tgt := 21) (n := 17) dX12_prepares_14 (by decide) rfl (fun c_14 => ?_) (fun c_14 => ?_)
  · try simp (disch := omega) only [nI_bit0, nI_bit1, Bool.not_eq_false, Bool.not_eq_true] at c_14
    try simp (disch := omega) only [i_lt, i_le, i_eq, l_lt, l_le, l_eq, i_0, i_m1, l_0, nI_tI, iI_tI, lI_tI, Int.not_lt, Int.not_le] at c_14
    have hz : ¬ 0 < chn σ o := by omega
    refine Wp.aload_n dX12_prepares_21 rfl (by first | exact Or.inr ⟨_, rfl⟩ | exact Or.inl rfl) rfl ?_
    refine Wp.get dX12_prepares_22 fl_X12_150 hM7.ob ((f7 20 (by decide)).trans hC2.1.1) rfl ?_
    refine Wp.if_le (tgt := 32) (n := 28) dX12_prepares_25 (by decide) rfl (fun c_25 => ?_) (fun c_25 => ?_)
    · try simp (disch := omega) only [nI_bit0, nI_bit1, Bool.not_eq_false, Bool.not_eq_true] at c_25
      try simp (disch := omega) only [i_lt, i_le, i_eq, l_lt, l_le, l_eq, i_0, i_m1, l_0, nI_tI, iI_tI, lI_tI, Int.not_lt, Int.not_le] at c_25
      refine Wp.iconst (v := (nI 0)) dX12_prepares_32 (by decide) rfl ?_
      exact Wp.zret dX12_prepares_33 rfl (by decide) (by refine ⟨?_, V7, G2, Z, hM7, out7, kp7, hA7, ⟨e7.trans (by rw [npt, if_neg hz]), fun w => absurd w hz⟩⟩; first | (rw [decide_eq_false hz]; rfl) | (exfalso; omega))
    · try simp (disch := omega) only [nI_bit0, nI_bit1, Bool.not_eq_false, Bool.not_eq_true] at c_25
      try simp (disch := omega) only [i_lt, i_le, i_eq, l_lt, l_le, l_eq, i_0, i_m1, l_0, nI_tI, iI_tI, lI_tI, Int.not_lt, Int.not_le] at c_25
      refine Wp.iconst (v := (nI 1)) dX12_prepares_28 (by decide) rfl ?_
      refine Wp.goto (n := 33) dX12_prepares_29 (by decide) ?_
      exact Wp.zret dX12_prepares_33 rfl (by decide) (by refine ⟨?_, V7, G2, Z, hM7, out7, kp7, hA7, ⟨e7.trans (by rw [npt, if_neg hz]), fun w => absurd w hz⟩⟩; first | (rw [decide_eq_false hz]; rfl) | (exfalso; omega))
  · try simp (disch := omega) only [nI_bit0, nI_bit1, Bool.not_eq_false, Bool.not_eq_true] at c_14
    try simp (disch := omega) only [i_lt, i_le, i_eq, l_lt, l_le, l_eq, i_0, i_m1, l_0, nI_tI, iI_tI, lI_tI, Int.not_lt, Int.not_le] at c_14
    have hz : 0 < chn σ o := by omega
    refine Wp.aload_n dX12_prepares_17 rfl (by first | exact Or.inr ⟨_, rfl⟩ | exact Or.inl rfl) rfl ?_
    refine Wp.cV dX12_prepares_18 cv_X12_205 rfl (by omega) rfl (Nat.le_of_ble_eq_true rfl) (Nat.le_of_ble_eq_true rfl) hM7.ob rfl (c_X12_walks (d := d - 1) hM7 hP7 hW hA7.1 (PrB_ch hW o) hz (by omega)) ?_
    rintro _ h3 ⟨rfl, V3, Z3, hM3, o3, fV3, fZ3, l3, l4⟩
    have hA3 := (hA7.V (by decide : (24 : Nat) ≠ 20) fV3)
    have k3 : Kp V G Z V3 G2 Z3 := kp7.trans (fun j hj => ⟨fV3 j (by omega), rfl, fZ3 j (by omega) (by omega) (by omega)⟩)
    have hT3 : PtA V3 Z3 σ o := ⟨l3.trans (by rw [npt, if_pos hz]; rfl), fun _ k hk => l4 k hk⟩
    dsimp only [Option.toList, List.drop, List.cons_append, List.nil_append]
    refine Wp.aload_n dX12_prepares_21 rfl (by first | exact Or.inr ⟨_, rfl⟩ | exact Or.inl rfl) rfl ?_
    refine Wp.get dX12_prepares_22 fl_X12_150 hM3.ob hA3.1.1 rfl ?_
    refine Wp.if_le (tgt := 32) (n := 28) dX12_prepares_25 (by decide) rfl (fun c_25 => ?_) (fun c_25 => ?_)
    · try simp (disch := omega) only [nI_bit0, nI_bit1, Bool.not_eq_false, Bool.not_eq_true] at c_25
      try simp (disch := omega) only [i_lt, i_le, i_eq, l_lt, l_le, l_eq, i_0, i_m1, l_0, nI_tI, iI_tI, lI_tI, Int.not_lt, Int.not_le] at c_25
      refine Wp.iconst (v := (nI 0)) dX12_prepares_32 (by decide) rfl ?_
      exact Wp.zret dX12_prepares_33 rfl (by decide) (by refine ⟨?_, V3, G2, Z3, hM3, out7.trans o3, k3, hA3, hT3⟩; first | (rw [decide_eq_true hz]; rfl) | (exfalso; omega))
    · try simp (disch := omega) only [nI_bit0, nI_bit1, Bool.not_eq_false, Bool.not_eq_true] at c_25
      try simp (disch := omega) only [i_lt, i_le, i_eq, l_lt, l_le, l_eq, i_0, i_m1, l_0, nI_tI, iI_tI, lI_tI, Int.not_lt, Int.not_le] at c_25
      refine Wp.iconst (v := (nI 1)) dX12_prepares_28 (by decide) rfl ?_
      refine Wp.goto (n := 33) dX12_prepares_29 (by decide) ?_
      exact Wp.zret dX12_prepares_33 rfl (by decide) (by refine ⟨?_, V3, G2, Z3, hM3, out7.trans o3, k3, hA3, hT3⟩; first | (rw [decide_eq_true hz]; rfl) | (exfalso; omega))
theorem plN_no {c : Nat → Nat} {n s : Nat} : ∀ k, (∀ i, i < n → c i ≠ s) → k ≤ n → plN c n s k = -1
  | 0, _, _ => rfl
  | k + 1, h, hk => by
    simp only [plN]
    rw [if_neg (h _ (by omega))]
    exact plN_no k h (by omega)
theorem plN_at {c : Nat → Nat} {n s : Nat} : ∀ k, k ≤ n → plN c n s k = -1 ∧ (∀ i, n - k ≤ i → i < n → c i ≠ s) ∨ ∃ i : Nat, plN c n s k = i ∧ n - k ≤ i ∧ i < n ∧ c i = s ∧ ∀ j, n - k ≤ j → j < i → c j ≠ s
  | 0, _ => Or.inl ⟨rfl, fun i h1 h2 => by omega⟩
  | k + 1, hk => by
    simp only [plN]
    by_cases e : c (n - 1 - k) = s
    · right
      rw [if_pos e]
      exact ⟨n - 1 - k, rfl, by omega, by omega, e, fun j h1 h2 => by omega⟩
    · rw [if_neg e]
      rcases plN_at (c := c) (n := n) (s := s) k (by omega) with ⟨h1, h2⟩ | ⟨i, h1, h2, h3, h4, h5⟩
      · left
        refine ⟨h1, fun i h3 h4 => ?_⟩
        by_cases ei : i = n - 1 - k
        · rw [ei]; exact e
        · exact h2 i (by omega) h4
      · right
        refine ⟨i, h1, by omega, h3, h4, fun j h6 h7 => ?_⟩
        by_cases ej : j = n - 1 - k
        · rw [ej]; exact e
        · exact h5 j (by omega) h7
theorem plc_in (σ : Sg) (o : Nat) (s : Int32) : -1 ≤ plc σ o s ∧ plc σ o s < chn σ o := by
  unfold plc
  split
  · exact plN_in _ _ _ _ (Nat.le_refl _)
  · omega
theorem nI_of_r {s : Int32} (h : 0 ≤ s.toInt ∧ s.toInt < 4096) : s = nI s.toInt.toNat := by
  rw [nI_iI, Int.toNat_of_nonneg h.1]; exact iI_of s
theorem plc_pos {σ : Sg} {o i : Nat} {s : Int32} (hi : i < chn σ o) (h : nI (chC σ o i) = s) (hf : ∀ j, j < i → nI (chC σ o j) ≠ s) : plc σ o s = i := by
  have hc := chC_lt σ o i
  have hs : s.toInt = (chC σ o i : Int) := by rw [← h]; exact nI_toInt (by omega)
  have hr : 0 ≤ s.toInt ∧ s.toInt < 4096 := by omega
  unfold plc
  rw [if_pos hr]
  rcases plN_at (c := chC σ o) (s := s.toInt.toNat) (chn σ o) (Nat.le_refl _) with ⟨-, h2⟩ | ⟨j, h1, -, h3, h4, h5⟩
  · exact absurd (by omega) (h2 i (by omega) hi)
  · rw [h1]
    rcases Nat.lt_trichotomy i j with g | g | g
    · exact absurd (by omega) (h5 i (by omega) g)
    · rw [g]
    · exact absurd (by rw [h4, ← nI_of_r hr]) (hf j g)
theorem plc_none {σ : Sg} {o : Nat} {s : Int32} (hf : ∀ j, j < chn σ o → nI (chC σ o j) ≠ s) : plc σ o s = -1 := by
  unfold plc
  split
  · next hr =>
    refine plN_no _ (fun i hi e => hf i hi ?_) (Nat.le_refl _)
    rw [e, ← nI_of_r hr]
  · rfl
theorem c_X12_placeOf {B : ev_B} {d x : Nat} {h : ev_H} {V : Nat → Value} {G : Nat → Nat → Int32} {Z : Nat → Nat → Int64} {σ : Sg} {o : Nat} {s : Int32} (hM : MH h x V G Z) (hC : ChA V G σ o) :
    Wp B d M_X12_placeOf 0 [some (.ref x), some (.int (s)), none] [] h (fun v h' => v = some (.int (iI (plc σ o s))) ∧ h' = h) := by
  have hn := chn_le σ o
  have loop : ∀ i, i ≤ (chn σ o) → (∀ j, j < i → nI (chC σ o j) ≠ s) → Wp B d M_X12_placeOf 2 [some (.ref x), some (.int (s)), some (.int (nI i))] [] h (fun v h' => v = some (.int (iI (plc σ o s))) ∧ h' = h) := by
    refine ev_upl (chn σ o) (fun i hi ih => ?_) ?_
    · intro hf
      refine Wp.iload_n dX12_placeOf_2 rfl rfl ?_
      refine Wp.aload_n dX12_placeOf_3 rfl (by first | exact Or.inr ⟨_, rfl⟩ | exact Or.inl rfl) rfl ?_
      refine Wp.get dX12_placeOf_4 fl_X12_150 hM.ob hC.1.1 rfl ?_
      refine Wp.icmp_ge (tgt := 28) (n := 10) dX12_placeOf_7 (by decide) rfl (fun c_7 => ?_) (fun c_7 => ?_)
      · try simp (disch := omega) only [nI_bit0, nI_bit1, Bool.not_eq_false, Bool.not_eq_true] at c_7
        try simp (disch := omega) only [i_lt, i_le, i_eq, l_lt, l_le, l_eq, i_0, i_m1, l_0, nI_tI, iI_tI, lI_tI, Int.not_lt, Int.not_le] at c_7
        omega
      · try simp (disch := omega) only [nI_bit0, nI_bit1, Bool.not_eq_false, Bool.not_eq_true] at c_7
        try simp (disch := omega) only [i_lt, i_le, i_eq, l_lt, l_le, l_eq, i_0, i_m1, l_0, nI_tI, iI_tI, lI_tI, Int.not_lt, Int.not_le] at c_7
        refine Wp.aload_n dX12_placeOf_10 rfl (by first | exact Or.inr ⟨_, rfl⟩ | exact Or.inl rfl) rfl ?_
        refine Wp.get dX12_placeOf_11 fl_X12_57 hM.ob (hM.rf 21 (by decide)) rfl ?_
        refine Wp.iload_n dX12_placeOf_14 rfl rfl ?_
        refine Wp.iaload dX12_placeOf_15 (hM.ia 21 (by decide)) (nI_toInt (by omega)) (by show _ < 4096; omega) rfl ?_
        rw [hC.2 i hi]
        refine Wp.iload_n dX12_placeOf_16 rfl rfl ?_
        refine Wp.icmp_ne (tgt := 22) (n := 20) dX12_placeOf_17 (by decide) rfl (fun c_17 => ?_) (fun c_17 => ?_)
        · skip
          refine Wp.iinc (v := _ + (nI 1)) dX12_placeOf_22 rfl rfl (Nat.le_of_ble_eq_true rfl) (by dsimp only [ev_st1, ev_cl] <;> rfl) rfl ?_
          refine Wp.goto (n := 2) dX12_placeOf_25 (by decide) ?_
          rw [nI_add1]
          exact ih (fun j hj => by
            by_cases e : j = i
            · subst e; exact c_17
            · exact hf j (by omega))
        · skip
          refine Wp.iload_n dX12_placeOf_20 rfl rfl ?_
          exact Wp.iret dX12_placeOf_21 rfl (by rw [plc_pos hi c_17 hf, ← nI_iI]; exact ⟨rfl, rfl⟩)
    · intro hf
      refine Wp.iload_n dX12_placeOf_2 rfl rfl ?_
      refine Wp.aload_n dX12_placeOf_3 rfl (by first | exact Or.inr ⟨_, rfl⟩ | exact Or.inl rfl) rfl ?_
      refine Wp.get dX12_placeOf_4 fl_X12_150 hM.ob hC.1.1 rfl ?_
      refine Wp.icmp_ge (tgt := 28) (n := 10) dX12_placeOf_7 (by decide) rfl (fun c_7 => ?_) (fun c_7 => ?_)
      · try simp (disch := omega) only [nI_bit0, nI_bit1, Bool.not_eq_false, Bool.not_eq_true] at c_7
        try simp (disch := omega) only [i_lt, i_le, i_eq, l_lt, l_le, l_eq, i_0, i_m1, l_0, nI_tI, iI_tI, lI_tI, Int.not_lt, Int.not_le] at c_7
        refine Wp.iconst (v := (-1)) dX12_placeOf_28 (by decide) rfl ?_
        exact Wp.iret dX12_placeOf_29 rfl (by rw [plc_none hf]; exact ⟨rfl, rfl⟩)
      · try simp (disch := omega) only [nI_bit0, nI_bit1, Bool.not_eq_false, Bool.not_eq_true] at c_7
        try simp (disch := omega) only [i_lt, i_le, i_eq, l_lt, l_le, l_eq, i_0, i_m1, l_0, nI_tI, iI_tI, lI_tI, Int.not_lt, Int.not_le] at c_7
        omega
  refine Wp.iconst (v := (nI 0)) dX12_placeOf_0 (by decide) rfl ?_
  refine Wp.istore_n dX12_placeOf_1 (Nat.le_of_ble_eq_true rfl) (by dsimp only [ev_st1, ev_st2, ev_cl] <;> rfl) rfl ?_
  exact loop 0 (by omega) (fun j hj => absurd hj (Nat.not_lt_zero j))
def bndV (σ : Sg) (o i w : Nat) : Int := if w = 0 then ptP σ o (i + 1) else if w = 1 then ptQ σ o (i + 1) else chC σ o (bst (cst (chS σ o) (chR σ o) (ptP σ o (i + 1)) (ptQ σ o (i + 1))) (Kw (if w = 2 then 2 else 1) (chR σ o)) (chn σ o))
theorem bndV_0 {σ : Sg} {o i w : Nat} (h : w = 0) : bndV σ o i w = ptP σ o (i + 1) := by unfold bndV; rw [if_pos h]
theorem bndV_1 {σ : Sg} {o i w : Nat} (h : w = 1) : bndV σ o i w = ptQ σ o (i + 1) := by unfold bndV; rw [if_neg (by omega), if_pos h]
theorem bndV_2 {σ : Sg} {o i w : Nat} (h : 2 ≤ w) : bndV σ o i w = chC σ o (bst (cst (chS σ o) (chR σ o) (ptP σ o (i + 1)) (ptQ σ o (i + 1))) (Kw (if w = 2 then 2 else 1) (chR σ o)) (chn σ o)) := by unfold bndV; rw [if_neg (by omega), if_neg (by omega)]
theorem c_X12_bendOf {B : ev_B} {d x : Nat} {h : ev_H} {V : Nat → Value} {G : Nat → Nat → Int32} {Z : Nat → Nat → Int64} {σ : Sg} {o i w : Nat} (hM : MH h x V G Z) (hW : Wf σ) (hC : ChA V G σ o) (hT : PtA V Z σ o) (h0 : 0 < chn σ o) (hi : i + 2 < npt σ o) (hw : w < 4) (hd : 3 ≤ d) :
    Wp B d M_X12_bendOf 0 [some (.ref x), some (.int (nI i)), some (.int (nI w))] [] h (fun v h' => v = some (.long (lI (bndV σ o i w))) ∧ h' = h) := by
  have hn := chn_le σ o
  have hnp : npt σ o = (pts σ o).length := by rw [npt, if_pos h0]
  have hpl := pts_len hW h0
  have hi1 : i + 1 < (pts σ o).length := by omega
  have hp := hT.2 h0 (i + 1) hi1
  have hpq := ptPQ_pq hW h0 hi1
  have hB := PrB_ch hW o
  have hbl := bst_lt (cst (chS σ o) (chR σ o) (ptP σ o (i + 1)) (ptQ σ o (i + 1))) (Kw (if w = 2 then 2 else 1) (chR σ o)) (chn σ o) h0
  have hcl := chC_lt σ o (bst (cst (chS σ o) (chR σ o) (ptP σ o (i + 1)) (ptQ σ o (i + 1))) (Kw (if w = 2 then 2 else 1) (chR σ o)) (chn σ o))
  refine Wp.iload_n dX12_bendOf_0 rfl rfl ?_
  refine Wp.iconst (v := (nI 2)) dX12_bendOf_1 (by decide) rfl ?_
  refine Wp.icmp_ge (tgt := 29) (n := 5) dX12_bendOf_2 (by decide) rfl (fun c_2 => ?_) (fun c_2 => ?_)
  · try simp (disch := omega) only [nI_bit0, nI_bit1, Bool.not_eq_false, Bool.not_eq_true] at c_2
    try simp (disch := omega) only [i_lt, i_le, i_eq, l_lt, l_le, l_eq, i_0, i_m1, l_0, nI_tI, iI_tI, lI_tI, Int.not_lt, Int.not_le] at c_2
    refine Wp.aload_n dX12_bendOf_29 rfl (by first | exact Or.inr ⟨_, rfl⟩ | exact Or.inl rfl) rfl ?_
    refine Wp.get dX12_bendOf_30 fl_X12_57 hM.ob (hM.rf 21 (by decide)) rfl ?_
    refine Wp.aload_n dX12_bendOf_33 rfl (by first | exact Or.inr ⟨_, rfl⟩ | exact Or.inl rfl) rfl ?_
    refine Wp.aload_n dX12_bendOf_34 rfl (by first | exact Or.inr ⟨_, rfl⟩ | exact Or.inl rfl) rfl ?_
    refine Wp.get dX12_bendOf_35 fl_X12_66 hM.ob (hM.rf 25 (by decide)) rfl ?_
    refine Wp.iload_n dX12_bendOf_38 rfl rfl ?_
    refine Wp.iconst (v := (nI 1)) dX12_bendOf_39 (by decide) rfl ?_
    refine Wp.iadd dX12_bendOf_40 rfl ?_
    rw [nI_add1]
    refine Wp.laload dX12_bendOf_41 (hM.la 25 (by decide)) (nI_toInt (by omega)) (by show _ < 500; omega) rfl ?_
    rw [hp.1]
    refine Wp.aload_n dX12_bendOf_42 rfl (by first | exact Or.inr ⟨_, rfl⟩ | exact Or.inl rfl) rfl ?_
    refine Wp.get dX12_bendOf_43 fl_X12_69 hM.ob (hM.rf 26 (by decide)) rfl ?_
    refine Wp.iload_n dX12_bendOf_46 rfl rfl ?_
    refine Wp.iconst (v := (nI 1)) dX12_bendOf_47 (by decide) rfl ?_
    refine Wp.iadd dX12_bendOf_48 rfl ?_
    rw [nI_add1]
    refine Wp.laload dX12_bendOf_49 (hM.la 26 (by decide)) (nI_toInt (by omega)) (by show _ < 500; omega) rfl ?_
    rw [hp.2.1]
    refine Wp.iload_n dX12_bendOf_50 rfl rfl ?_
    refine Wp.iconst (v := (nI 2)) dX12_bendOf_51 (by decide) rfl ?_
    refine Wp.icmp_ne (tgt := 59) (n := 55) dX12_bendOf_52 (by decide) rfl (fun c_52 => ?_) (fun c_52 => ?_)
    · try simp (disch := omega) only [nI_bit0, nI_bit1, Bool.not_eq_false, Bool.not_eq_true] at c_52
      try simp (disch := omega) only [i_lt, i_le, i_eq, l_lt, l_le, l_eq, i_0, i_m1, l_0, nI_tI, iI_tI, lI_tI, Int.not_lt, Int.not_le] at c_52
      refine Wp.iconst (v := (nI 1)) dX12_bendOf_59 (by decide) rfl ?_
      first | rw [show Value.int (nI 1) :: _ = Value.int (nI (if w = 2 then 2 else 1)) :: _ from by rw [if_neg (by omega)]] | rw [show (nI 2 : Int32) = nI (if w = 2 then 2 else 1) from by rw [if_pos (by omega)]]
      refine Wp.cV dX12_bendOf_60 cv_X12_191 rfl (by omega) rfl (Nat.le_of_ble_eq_true rfl) (Nat.le_of_ble_eq_true rfl) hM.ob rfl (c_X12_bestAt (d := d - 1) (w := (if w = 2 then 2 else 1)) hM hC.1 hB h0 hpq (by split <;> decide) (by omega)) ?_
      rintro _ h_ ⟨rfl, e_⟩
      rw [e_]
      clear e_ h_
      dsimp only [Option.toList, List.drop, List.cons_append, List.nil_append]
      refine Wp.iaload dX12_bendOf_63 (hM.ia 21 (by decide)) (nI_toInt (by omega)) (by show _ < 4096; omega) rfl ?_
      rw [hC.2 _ hbl]
      refine Wp.i2l dX12_bendOf_64 rfl ?_
      rw [nI_lI (by omega)]
      exact Wp.lret dX12_bendOf_65 rfl (by rw [bndV_2 (by omega)]; exact ⟨rfl, rfl⟩)
    · try simp (disch := omega) only [nI_bit0, nI_bit1, Bool.not_eq_false, Bool.not_eq_true] at c_52
      try simp (disch := omega) only [i_lt, i_le, i_eq, l_lt, l_le, l_eq, i_0, i_m1, l_0, nI_tI, iI_tI, lI_tI, Int.not_lt, Int.not_le] at c_52
      refine Wp.iconst (v := (nI 2)) dX12_bendOf_55 (by decide) rfl ?_
      refine Wp.goto (n := 60) dX12_bendOf_56 (by decide) ?_
      first | rw [show Value.int (nI 1) :: _ = Value.int (nI (if w = 2 then 2 else 1)) :: _ from by rw [if_neg (by omega)]] | rw [show (nI 2 : Int32) = nI (if w = 2 then 2 else 1) from by rw [if_pos (by omega)]]
      refine Wp.cV dX12_bendOf_60 cv_X12_191 rfl (by omega) rfl (Nat.le_of_ble_eq_true rfl) (Nat.le_of_ble_eq_true rfl) hM.ob rfl (c_X12_bestAt (d := d - 1) (w := (if w = 2 then 2 else 1)) hM hC.1 hB h0 hpq (by split <;> decide) (by omega)) ?_
      rintro _ h_ ⟨rfl, e_⟩
      rw [e_]
      clear e_ h_
      dsimp only [Option.toList, List.drop, List.cons_append, List.nil_append]
      refine Wp.iaload dX12_bendOf_63 (hM.ia 21 (by decide)) (nI_toInt (by omega)) (by show _ < 4096; omega) rfl ?_
      rw [hC.2 _ hbl]
      refine Wp.i2l dX12_bendOf_64 rfl ?_
      rw [nI_lI (by omega)]
      exact Wp.lret dX12_bendOf_65 rfl (by rw [bndV_2 (by omega)]; exact ⟨rfl, rfl⟩)
  · try simp (disch := omega) only [nI_bit0, nI_bit1, Bool.not_eq_false, Bool.not_eq_true] at c_2
    try simp (disch := omega) only [i_lt, i_le, i_eq, l_lt, l_le, l_eq, i_0, i_m1, l_0, nI_tI, iI_tI, lI_tI, Int.not_lt, Int.not_le] at c_2
    refine Wp.iload_n dX12_bendOf_5 rfl rfl ?_
    refine Wp.if_ne (tgt := 20) (n := 9) dX12_bendOf_6 (by decide) rfl (fun c_6 => ?_) (fun c_6 => ?_)
    · try simp (disch := omega) only [nI_bit0, nI_bit1, Bool.not_eq_false, Bool.not_eq_true] at c_6
      try simp (disch := omega) only [i_lt, i_le, i_eq, l_lt, l_le, l_eq, i_0, i_m1, l_0, nI_tI, iI_tI, lI_tI, Int.not_lt, Int.not_le] at c_6
      refine Wp.aload_n dX12_bendOf_20 rfl (by first | exact Or.inr ⟨_, rfl⟩ | exact Or.inl rfl) rfl ?_
      refine Wp.get dX12_bendOf_21 fl_X12_69 hM.ob (hM.rf 26 (by decide)) rfl ?_
      refine Wp.iload_n dX12_bendOf_24 rfl rfl ?_
      refine Wp.iconst (v := (nI 1)) dX12_bendOf_25 (by decide) rfl ?_
      refine Wp.iadd dX12_bendOf_26 rfl ?_
      rw [nI_add1]
      refine Wp.laload dX12_bendOf_27 (hM.la 26 (by decide)) (nI_toInt (by omega)) (by show _ < 500; omega) rfl ?_
      rw [hp.2.1]
      exact Wp.lret dX12_bendOf_28 rfl (by first | (rw [bndV_0 (by omega)]; exact ⟨rfl, rfl⟩) | (rw [bndV_1 (by omega)]; exact ⟨rfl, rfl⟩))
    · try simp (disch := omega) only [nI_bit0, nI_bit1, Bool.not_eq_false, Bool.not_eq_true] at c_6
      try simp (disch := omega) only [i_lt, i_le, i_eq, l_lt, l_le, l_eq, i_0, i_m1, l_0, nI_tI, iI_tI, lI_tI, Int.not_lt, Int.not_le] at c_6
      refine Wp.aload_n dX12_bendOf_9 rfl (by first | exact Or.inr ⟨_, rfl⟩ | exact Or.inl rfl) rfl ?_
      refine Wp.get dX12_bendOf_10 fl_X12_66 hM.ob (hM.rf 25 (by decide)) rfl ?_
      refine Wp.iload_n dX12_bendOf_13 rfl rfl ?_
      refine Wp.iconst (v := (nI 1)) dX12_bendOf_14 (by decide) rfl ?_
      refine Wp.iadd dX12_bendOf_15 rfl ?_
      rw [nI_add1]
      refine Wp.laload dX12_bendOf_16 (hM.la 25 (by decide)) (nI_toInt (by omega)) (by show _ < 500; omega) rfl ?_
      rw [hp.1]
      refine Wp.goto (n := 28) dX12_bendOf_17 (by decide) ?_
      exact Wp.lret dX12_bendOf_28 rfl (by first | (rw [bndV_0 (by omega)]; exact ⟨rfl, rfl⟩) | (rw [bndV_1 (by omega)]; exact ⟨rfl, rfl⟩))
