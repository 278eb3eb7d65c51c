theorem nI_m1n {n : Nat} (h : n + 1 < 2147483648) : (nI (n + 1) - nI 1).toInt = (n : Int) := by
  rw [nI_m1 h]; omega
/-! the reference: the points of a window -/
def PtO (n : Nat) (S R : Nat → Int) (Z : Nat → Nat → Int64) (l : List (Int × Int)) : Prop := ∀ k, k < l.length → Z 25 k = lI (low true (l.getD k (0, 1)).1 (l.getD k (0, 1)).2) ∧ Z 26 k = lI (low false (l.getD k (0, 1)).1 (l.getD k (0, 1)).2) ∧
  Z 27 k = lI (mnN (cst S R (low true (l.getD k (0, 1)).1 (l.getD k (0, 1)).2) (low false (l.getD k (0, 1)).1 (l.getD k (0, 1)).2)) n)
theorem getD_snoc {l : List (Int × Int)} {y e : Int × Int} {k : Nat} (h : k < l.length) : (l ++ [y]).getD k e = l.getD k e := by simp [List.getD, List.getElem?_append_left h]
theorem getD_last {l : List (Int × Int)} {y e : Int × Int} : (l ++ [y]).getD l.length e = y := by simp
theorem PtO.nil {n : Nat} {S R : Nat → Int} {Z : Nat → Nat → Int64} : PtO n S R Z [] := fun k hk => absurd hk (Nat.not_lt_zero k)
theorem PtO.snoc {n : Nat} {S R : Nat → Int} {Z Z1 : Nat → Nat → Int64} {l : List (Int × Int)} {p q : Int} (h : PtO n S R Z l)
    (e1 : Z1 25 = vp_updL (Z 25) l.length (lI (low true p q))) (e2 : Z1 26 = vp_updL (Z 26) l.length (lI (low false p q))) (e3 : Z1 27 = vp_updL (Z 27) l.length (lI (mnN (cst S R (low true p q) (low false p q)) n))) : PtO n S R Z1 (l ++ [(p, q)]) := by
  intro k hk
  rw [List.length_append, List.length_singleton] at hk
  rw [e1, e2, e3]
  by_cases e : k = l.length
  · subst e
    rw [getD_last]
    simp [vp_updL]
  · rw [getD_snoc (by omega)]
    simp only [vp_updL, e, if_false]
    exact h k (by omega)
theorem low_pq {p q : Int} (hq : 0 < q) (h : pqB p q) : pqB (low true p q) (low false p q) := by
  obtain ⟨h1, h2, h3, h4⟩ := h
  have a := low_b (w := true) (a := p) (b := q) (A := 1000000000) (by omega) (by omega)
  have b := low_b (w := false) (a := p) (b := q) (A := 1000000000) (by omega) (by omega)
  exact ⟨a.1, a.2, b.1, b.2⟩
theorem c_X12_point {B : ev_B} {d x : Nat} {h : ev_H} {V : Nat → Value} {G : Nat → Nat → Int32} {Z : Nat → Nat → Int64} {n : Nat} {S R : Nat → Int} {p q : Int} {l : List (Int × Int)} (hM : MH h x V G Z) (hA : PrA V G n S R) (hB : PrB n S R) (h0 : 0 < n) (hq : 0 < q) (hpq : pqB p q) (hl : V 24 = .int (nI l.length)) (hl5 : l.length < 500) (hZ : PtO n S R Z l) (hd : 2 ≤ d) :
    Wp B d M_X12_point 0 [some (.ref x), some (.long (lI p)), none, some (.long (lI q)), none] [] h (fun v h' => v = none ∧ ∃ V' Z', MH h' x V' G Z' ∧ Out x h h' ∧ (∀ j, j ≠ 24 → V' j = V j) ∧ (∀ j, j ≠ 25 → j ≠ 26 → j ≠ 27 → Z' j = Z j) ∧ V' 24 = .int (nI (l.length + 1)) ∧ PtO n S R Z' (l ++ [(p, q)])) := by
  have hn := hB.1
  have hlp := low_pq hq hpq
  have hg : 0 < Int.gcd p q := Int.gcd_pos_of_ne_zero_right _ (by omega)
  have hs1 : sm p := ⟨by have := hpq.1; omega, by have := hpq.2.1; omega⟩
  have hs2 : sm q := ⟨by have := hpq.2.2.1; omega, by have := hpq.2.2.2; omega⟩
  refine Wp.aload_n dX12_point_0 rfl (by first | exact Or.inr ⟨_, rfl⟩ | exact Or.inl rfl) rfl ?_
  refine Wp.get dX12_point_1 fl_X12_66 hM.ob (hM.rf 25 (by decide)) rfl ?_
  refine Wp.aload_n dX12_point_4 rfl (by first | exact Or.inr ⟨_, rfl⟩ | exact Or.inl rfl) rfl ?_
  refine Wp.get dX12_point_5 fl_X12_198 hM.ob hl rfl ?_
  refine Wp.lload_n dX12_point_8 rfl rfl ?_
  refine Wp.lload_n dX12_point_9 rfl rfl ?_
  refine Wp.iconst (v := (nI 0)) dX12_point_10 (by decide) rfl ?_
  refine Wp.cS dX12_point_11 cs_X12_180 rfl (by omega) rfl (Nat.le_of_ble_eq_true rfl) (Nat.le_of_ble_eq_true rfl) rfl (c_X12_lowest (d := d - 1) (a := p) (b := q) hs1 hs2 hg (by omega)) ?_
  rintro _ h_ ⟨rfl, e_⟩
  rw [e_]
  clear e_ h_
  dsimp only [Option.toList, List.drop, List.cons_append, List.nil_append]
  rw [show (decide (nI 0 = (0 : Int32))) = true by decide]
  refine Wp.lastore dX12_point_14 (hM.la 25 (by decide)) (nI_toInt (by omega)) (by show _ < 500; omega) rfl ?_
  refine hM.stl (k := 25) (by decide) ?_
  intro h14 Z14 hM14 o14 e14 f14
  have out14 := (Out.rfl (x := x) (h := h)).trans o14
  refine Wp.aload_n dX12_point_15 rfl (by first | exact Or.inr ⟨_, rfl⟩ | exact Or.inl rfl) rfl ?_
  refine Wp.get dX12_point_16 fl_X12_69 hM14.ob (hM14.rf 26 (by decide)) rfl ?_
  refine Wp.aload_n dX12_point_19 rfl (by first | exact Or.inr ⟨_, rfl⟩ | exact Or.inl rfl) rfl ?_
  refine Wp.get dX12_point_20 fl_X12_198 hM14.ob hl rfl ?_
  refine Wp.lload_n dX12_point_23 rfl rfl ?_
  refine Wp.lload_n dX12_point_24 rfl rfl ?_
  refine Wp.iconst (v := (nI 1)) dX12_point_25 (by decide) rfl ?_
  refine Wp.cS dX12_point_26 cs_X12_180 rfl (by omega) rfl (Nat.le_of_ble_eq_true rfl) (Nat.le_of_ble_eq_true rfl) rfl (c_X12_lowest (d := d - 1) (a := p) (b := q) hs1 hs2 hg (by omega)) ?_
  rintro _ h_ ⟨rfl, e_⟩
  rw [e_]
  clear e_ h_
  dsimp only [Option.toList, List.drop, List.cons_append, List.nil_append]
  rw [show (decide (nI 1 = (0 : Int32))) = false by decide]
  refine Wp.lastore dX12_point_29 (hM14.la 26 (by decide)) (nI_toInt (by omega)) (by show _ < 500; omega) rfl ?_
  refine hM14.stl (k := 26) (by decide) ?_
  intro h29 Z29 hM29 o29 e29 f29
  have out29 := out14.trans o29
  refine Wp.aload_n dX12_point_30 rfl (by first | exact Or.inr ⟨_, rfl⟩ | exact Or.inl rfl) rfl ?_
  refine Wp.get dX12_point_31 fl_X12_72 hM29.ob (hM29.rf 27 (by decide)) rfl ?_
  refine Wp.aload_n dX12_point_34 rfl (by first | exact Or.inr ⟨_, rfl⟩ | exact Or.inl rfl) rfl ?_
  refine Wp.get dX12_point_35 fl_X12_198 hM29.ob hl rfl ?_
  refine Wp.aload_n dX12_point_38 rfl (by first | exact Or.inr ⟨_, rfl⟩ | exact Or.inl rfl) rfl ?_
  refine Wp.aload_n dX12_point_39 rfl (by first | exact Or.inr ⟨_, rfl⟩ | exact Or.inl rfl) rfl ?_
  refine Wp.get dX12_point_40 fl_X12_66 hM29.ob (hM29.rf 25 (by decide)) rfl ?_
  refine Wp.aload_n dX12_point_43 rfl (by first | exact Or.inr ⟨_, rfl⟩ | exact Or.inl rfl) rfl ?_
  refine Wp.get dX12_point_44 fl_X12_198 hM29.ob hl rfl ?_
  refine Wp.laload dX12_point_47 (hM29.la 25 (by decide)) (nI_toInt (by omega)) (by show _ < 500; omega) rfl ?_
  rw [(f29 25 (by decide)).trans e14, show vp_updL (Z 25) l.length (lI (low true p q)) l.length = lI (low true p q) from by simp [vp_updL]]
  refine Wp.aload_n dX12_point_48 rfl (by first | exact Or.inr ⟨_, rfl⟩ | exact Or.inl rfl) rfl ?_
  refine Wp.get dX12_point_49 fl_X12_69 hM29.ob (hM29.rf 26 (by decide)) rfl ?_
  refine Wp.aload_n dX12_point_52 rfl (by first | exact Or.inr ⟨_, rfl⟩ | exact Or.inl rfl) rfl ?_
  refine Wp.get dX12_point_53 fl_X12_198 hM29.ob hl rfl ?_
  refine Wp.laload dX12_point_56 (hM29.la 26 (by decide)) (nI_toInt (by omega)) (by show _ < 500; omega) rfl ?_
  rw [e29, show vp_updL (Z14 26) l.length (lI (low false p q)) l.length = lI (low false p q) from by simp [vp_updL]]
  refine Wp.cV dX12_point_57 cv_X12_188 rfl (by omega) rfl (Nat.le_of_ble_eq_true rfl) (Nat.le_of_ble_eq_true rfl) hM29.ob rfl (c_X12_leastAt (d := d - 1) hM29 hA hB h0 hlp (by omega)) ?_
  rintro _ h_ ⟨rfl, e_⟩
  rw [e_]
  clear e_ h_
  dsimp only [Option.toList, List.drop, List.cons_append, List.nil_append]
  refine Wp.lastore dX12_point_60 (hM29.la 27 (by decide)) (nI_toInt (by omega)) (by show _ < 500; omega) rfl ?_
  refine hM29.stl (k := 27) (by decide) ?_
  intro h60 Z60 hM60 o60 e60 f60
  have out60 := out29.trans o60
  refine Wp.aload_n dX12_point_61 rfl (by first | exact Or.inr ⟨_, rfl⟩ | exact Or.inl rfl) rfl ?_
  refine Wp.dup dX12_point_62 rfl rfl ?_
  refine Wp.get dX12_point_63 fl_X12_198 hM60.ob hl rfl ?_
  refine Wp.iconst (v := (nI 1)) dX12_point_66 (by decide) rfl ?_
  refine Wp.iadd dX12_point_67 rfl ?_
  rw [nI_add1]
  refine Wp.put dX12_point_68 fp_X12_198 hM60.ob rfl rfl rfl ?_
  refine hM60.put (k := 24) (by decide) ?_
  intro h68 V68 hM68 o68 e68 f68
  have out68 := out60.trans o68
  exact Wp.vret dX12_point_71 rfl (by refine ⟨rfl, _, _, hM68, out68, fun j hj => f68 j hj, fun j h1 h2 h3 => (f60 j h3).trans ((f29 j h2).trans (f14 j h1)), e68, hZ.snoc ((f60 25 (by decide)).trans ((f29 25 (by decide)).trans e14)) (by rw [f60 26 (by decide), e29, f14 26 (by decide)]) (by rw [e60, f29 27 (by decide), f14 27 (by decide)])⟩)
/-- the least meeting with a line, over the first i choices -/
def cwN (S R : Nat → Int) (a : Nat) (P2 Q2 : Int) : Nat → Int × Int × Bool
  | 0 => (P2, Q2, false)
  | i + 1 => if 0 < R a - R i ∧ (S i - S a) * (cwN S R a P2 Q2 i).2.1 < (cwN S R a P2 Q2 i).1 * (R a - R i) then (S i - S a, R a - R i, true) else cwN S R a P2 Q2 i
theorem cwN_is {S R : Nat → Int} {a : Nat} {P2 Q2 : Int} (hQ : 0 < Q2) : ∀ n, (cwN S R a P2 Q2 n = (P2, Q2, false) ∧ ∀ j, j < n → R j < R a → ¬ (S j - S a) * Q2 < P2 * (R a - R j)) ∨
    (∃ j, j < n ∧ R j < R a ∧ cwN S R a P2 Q2 n = (S j - S a, R a - R j, true) ∧ (S j - S a) * Q2 < P2 * (R a - R j) ∧ ∀ i, i < n → R i < R a → ¬ (S i - S a) * (R a - R j) < (S j - S a) * (R a - R i))
  | 0 => Or.inl ⟨rfl, fun j h => absurd h (Nat.not_lt_zero j)⟩
  | n + 1 => by
    rcases cwN_is (S := S) (R := R) (a := a) (P2 := P2) hQ n with ⟨h1, h2⟩ | ⟨j, hj, hr, h1, h3, h2⟩
    · by_cases e : 0 < R a - R n ∧ (S n - S a) * Q2 < P2 * (R a - R n)
      · right
        refine ⟨n, by omega, by omega, by simp only [cwN, h1]; rw [if_pos e], e.2, fun i hi hri => ?_⟩
        by_cases ei : i = n
        · subst ei; omega
        · intro z
          have := h2 i (by omega) hri
          exact this (frac_lt_trans' (by omega) (by omega : 0 < R a - R n) (by omega) z (Int.le_of_lt e.2))
      · left
        refine ⟨by simp only [cwN, h1]; rw [if_neg e], fun j hj hrj => ?_⟩
        by_cases ej : j = n
        · subst ej; intro z; exact e ⟨by omega, z⟩
        · exact h2 j (by omega) hrj
    · right
      by_cases e : 0 < R a - R n ∧ (S n - S a) * (R a - R j) < (S j - S a) * (R a - R n)
      · refine ⟨n, by omega, by omega, by simp only [cwN, h1]; rw [if_pos e], frac_lt_trans' (by omega) (by omega : 0 < R a - R j) (by omega) e.2 (Int.le_of_lt h3), fun i hi hri => ?_⟩
        by_cases ei : i = n
        · subst ei; omega
        · intro z
          exact h2 i (by omega) hri (frac_lt_trans' (by omega) (by omega : 0 < R a - R n) (by omega) z (Int.le_of_lt e.2))
      · refine ⟨j, by omega, hr, by simp only [cwN, h1]; rw [if_neg e], h3, fun i hi hri => ?_⟩
        by_cases ei : i = n
        · subst ei; intro z; exact e ⟨by omega, z⟩
        · exact h2 i (by omega) hri
theorem cwN_b {n : Nat} {S R : Nat → Int} {a : Nat} {P2 Q2 : Int} (hB : PrB n S R) (ha : a < n) (hP : isP P2 Q2) : ∀ i, i ≤ n → -10000 ≤ (cwN S R a P2 Q2 i).1 ∧ (cwN S R a P2 Q2 i).1 ≤ 10000 ∧ 0 < (cwN S R a P2 Q2 i).2.1 ∧ (cwN S R a P2 Q2 i).2.1 ≤ 1000
  | 0, _ => by obtain ⟨h1, h2⟩ := hP; simp [cwN]; omega
  | i + 1, h => by
    have ih := cwN_b hB ha hP i (by omega)
    have h1 := hB.2 a ha
    have h2 := hB.2 i (by omega)
    simp only [cwN]
    split
    · dsimp only; omega
    · exact ih
def crs (S R : Nat → Int) (e : Nat × Nat) : Int × Int := (S e.2 - S e.1, R e.1 - R e.2)
/-- the points of a window: its first price, the bends, its last price -/
def ptL (S R : Nat → Int) (n : Nat) (p1 q1 p2 q2 : Int) : List (Int × Int) := ((p1, q1) :: (bl S R n p2 q2 500 (bst (cst S R p1 q1) R n)).map (crs S R)) ++ [(p2, q2)]
theorem bst_low {S R K : Nat → Int} {n : Nat} {p q : Int} (hq : 0 < q) : bst (cst S R (low true p q) (low false p q)) K n = bst (cst S R p q) K n := by
  obtain ⟨g, hg, h1, h2, h3⟩ := low_frac (a := p) hq
  refine (bst_scale (m := g) hg (fun j => ?_) n).symm
  unfold cst
  grind
theorem bst_of {C K : Nat → Int} {n b : Nat} (h : IsB C K n b) : bst C K n = b := (bst_is C K n (by have := h.1; omega)).uniq h
theorem bst_nx {S R : Nat → Int} {n a b : Nat} {p q : Int} (h0 : 0 < n) (hq : 0 < q) (ha : bst (cst S R p q) R n = a) (hb : IsN S R n a b) : bst (cst S R (S b - S a) (R a - R b)) R n = b :=
  bst_of (next_above hq (by rw [← ha]; exact bst_is _ _ n h0) hb)
theorem cw_nx {S R : Nat → Int} {n a b : Nat} {P2 Q2 : Int} (hQ : 0 < Q2) (hb : IsN S R n a b) (hx : nxN S R a n = b) :
    ((cwN S R a P2 Q2 n).2.2 = false ∧ ¬ (S b - S a) * Q2 < P2 * (R a - R b)) ∨ ((cwN S R a P2 Q2 n).2.2 = true ∧ (S b - S a) * Q2 < P2 * (R a - R b) ∧ (cwN S R a P2 Q2 n).1 * (R a - R b) = (S b - S a) * (cwN S R a P2 Q2 n).2.1) := by
  rcases cwN_is (S := S) (R := R) (a := a) (P2 := P2) hQ n with ⟨h1, h2⟩ | ⟨j, hj, hr, h1, h3, h2⟩
  · left; rw [h1]; exact ⟨rfl, h2 b hb.1 hb.2.1⟩
  · right
    rw [h1]
    have g := hb.2.2 j hj hr
    have g2 := h2 b hb.1 hb.2.1
    have hbr := hb.2.1
    refine ⟨rfl, frac_lt_trans (by omega) (by omega : 0 < R a - R j) hQ (by omega) h3, ?_⟩
    dsimp only
    omega
theorem crs_eta (S R : Nat → Int) (a b : Nat) : crs S R (a, b) = (S b - S a, R a - R b) := rfl
set_option maxHeartbeats 2000000 in
theorem c_X12_walks {B : ev_B} {d x : Nat} {h : ev_H} {V : Nat → Value} {G : Nat → Nat → Int32} {Z : Nat → Nat → Int64} {σ : Sg} {n : Nat} {S R : Nat → Int} (hM : MH h x V G Z) (hP : PM σ V G Z) (hW : Wf σ) (hA : PrA V G n S R) (hB : PrB n S R) (h0 : 0 < n) (hd : 3 ≤ d) :
    Wp B d M_X12_walks 0 [some (.ref x), none, none, none, none, none, none, none, none, none, none, none] [] h (fun v h' => v = none ∧ ∃ V' Z', MH h' x V' G Z' ∧ Out x h h' ∧ (∀ j, j ≠ 24 → V' j = V j) ∧ (∀ j, j ≠ 25 → j ≠ 26 → j ≠ 27 → Z' j = Z j) ∧ V' 24 = .int (nI (ptL S R n σ.p1 σ.q1 σ.p2 σ.q2).length) ∧ PtO n S R Z' (ptL S R n σ.p1 σ.q1 σ.p2 σ.q2)) := by
  have hn := hB.1
  have hw1 := hW.w1
  have hw2' := hW.w2
  have hw1q : 0 < σ.q1 := by omega
  have hw2q : 0 < σ.q2 := by omega
  have hw1b : pqB σ.p1 σ.q1 := ⟨by omega, by omega, by omega, by omega⟩
  have hw2 : pqB σ.p2 σ.q2 := ⟨by omega, by omega, by omega, by omega⟩
  have outer : ∀ (k a : Nat) (l : List (Int × Int)) (P0 Q0 : Int) (hh : ev_H) (Vi : Nat → Value) (Zi : Nat → Nat → Int64) (j2 j3 j4 j5 j6 j7 j8 j9 j10 j11 : Option Value), MH hh x Vi G Zi → Out x h hh → (∀ j, j ≠ 24 → Vi j = V j) → (∀ j, j ≠ 25 → j ≠ 26 → j ≠ 27 → Zi j = Z j) → 0 < Q0 → pqB P0 Q0 → Vi 24 = .int (nI (l ++ [(P0, Q0)]).length) → PtO n S R Zi (l ++ [(P0, Q0)]) → a < n → bst (cst S R P0 Q0) R n = a → R a + 240 < k → (l ++ [(P0, Q0)]).length + (R a + 240).toNat ≤ 490 → (l ++ [(P0, Q0)]) ++ (bl S R n σ.p2 σ.q2 k a).map (crs S R) ++ [(σ.p2, σ.q2)] = ptL S R n σ.p1 σ.q1 σ.p2 σ.q2 → Wp B d M_X12_walks 21 [some (.ref x), some (.int (nI 1)), j2, j3, j4, j5, j6, j7, j8, j9, j10, j11] [] hh (fun v h' => v = none ∧ ∃ V' Z', MH h' x V' G Z' ∧ Out x h h' ∧ (∀ j, j ≠ 24 → V' j = V j) ∧ (∀ j, j ≠ 25 → j ≠ 26 → j ≠ 27 → Z' j = Z j) ∧ V' 24 = .int (nI (ptL S R n σ.p1 σ.q1 σ.p2 σ.q2).length) ∧ PtO n S R Z' (ptL S R n σ.p1 σ.q1 σ.p2 σ.q2)) := by
    intro k
    induction k with
    | zero =>
      intro a l P0 Q0 hh Vi Zi j2 j3 j4 j5 j6 j7 j8 j9 j10 j11 hMi hOi fV fZ hQ0 hpq0 hli hZi han hba hk hlen hfull
      have := hB.2 a han
      omega
    | succ k ih =>
      intro a l P0 Q0 hh Vi Zi j2 j3 j4 j5 j6 j7 j8 j9 j10 j11 hMi hOi fV fZ hQ0 hpq0 hli hZi han hba hk hlen hfull
      have hPi := hP.kp (V := Vi) (G := G) (Z := Zi) (fun j hj => ⟨fV j (by omega), rfl, fZ j (by omega) (by omega) (by omega)⟩)
      have hAi : PrA Vi G n S R := ⟨(fV 20 (by decide)).trans hA.1, hA.2⟩
      have hlp := low_pq hQ0 hpq0
      have hBa := hB.2 a han
      have hll : (l ++ [(P0, Q0)]).length = l.length + 1 := by simp
      have hzl := hZi l.length (by omega)
      rw [getD_last] at hzl
      have loop : ∀ i, i ≤ n → ∀ j8 j9 j10 j11 : Option Value, Wp B d M_X12_walks 71 [some (.ref x), some (.int (bI (cwN S R a σ.p2 σ.q2 i).2.2)), some (.int (nI a)), some (.long (lI (cwN S R a σ.p2 σ.q2 i).1)), none, some (.long (lI (cwN S R a σ.p2 σ.q2 i).2.1)), none, some (.int (nI i)), j8, j9, j10, j11] [] hh (fun v h' => v = none ∧ ∃ V' Z', MH h' x V' G Z' ∧ Out x h h' ∧ (∀ j, j ≠ 24 → V' j = V j) ∧ (∀ j, j ≠ 25 → j ≠ 26 → j ≠ 27 → Z' j = Z j) ∧ V' 24 = .int (nI (ptL S R n σ.p1 σ.q1 σ.p2 σ.q2).length) ∧ PtO n S R Z' (ptL S R n σ.p1 σ.q1 σ.p2 σ.q2)) := by
        refine ev_upl n (fun i hi ih => ?_) ?_
        · intro j8 j9 j10 j11
          have hcb := cwN_b hB han hW.w2 i (Nat.le_of_lt hi)
          have hai := hB.2 a han
          have hii := hB.2 i hi
          have m1 := mulb (a := S i - S a) (b := (cwN S R a σ.p2 σ.q2 i).2.1) (A := 2400) (C := 1000) (by omega) (by omega)
          have m2 := mulb (a := (cwN S R a σ.p2 σ.q2 i).1) (b := R a - R i) (A := 10000) (C := 480) (by omega) (by omega)
          refine Wp.iload dX12_walks_71 rfl rfl ?_
          refine Wp.aload_n dX12_walks_73 rfl (by first | exact Or.inr ⟨_, rfl⟩ | exact Or.inl rfl) rfl ?_
          refine Wp.get dX12_walks_74 fl_X12_150 hMi.ob hAi.1 rfl ?_
          refine Wp.icmp_ge (tgt := 149) (n := 80) dX12_walks_77 (by decide) rfl (fun c_77 => ?_) (fun c_77 => ?_)
          · try simp (disch := omega) only [nI_bit0, nI_bit1, Bool.not_eq_false, Bool.not_eq_true] at c_77
            try simp (disch := omega) only [i_lt, i_le, i_eq, l_lt, l_le, l_eq, i_0, i_m1, l_0, nI_tI, iI_tI, lI_tI, Int.not_lt, Int.not_le] at c_77
            omega
          · try simp (disch := omega) only [nI_bit0, nI_bit1, Bool.not_eq_false, Bool.not_eq_true] at c_77
            try simp (disch := omega) only [i_lt, i_le, i_eq, l_lt, l_le, l_eq, i_0, i_m1, l_0, nI_tI, iI_tI, lI_tI, Int.not_lt, Int.not_le] at c_77
            refine Wp.aload_n dX12_walks_80 rfl (by first | exact Or.inr ⟨_, rfl⟩ | exact Or.inl rfl) rfl ?_
            refine Wp.get dX12_walks_81 fl_X12_63 hMi.ob (hMi.rf 23 (by decide)) rfl ?_
            refine Wp.iload_n dX12_walks_84 rfl rfl ?_
            refine Wp.iaload dX12_walks_85 (hMi.ia 23 (by decide)) (nI_toInt (by omega)) (by show _ < 4096; omega) rfl ?_
            rw [(hA.2 a han).2]
            refine Wp.aload_n dX12_walks_86 rfl (by first | exact Or.inr ⟨_, rfl⟩ | exact Or.inl rfl) rfl ?_
            refine Wp.get dX12_walks_87 fl_X12_63 hMi.ob (hMi.rf 23 (by decide)) rfl ?_
            refine Wp.iload dX12_walks_90 rfl rfl ?_
            refine Wp.iaload dX12_walks_92 (hMi.ia 23 (by decide)) (nI_toInt (by omega)) (by show _ < 4096; omega) rfl ?_
            rw [(hA.2 i hi).2]
            refine Wp.isub dX12_walks_93 rfl ?_
            rw [iI_sub]
            refine Wp.i2l dX12_walks_94 rfl ?_
            rw [iI_l (by omega) (by omega)]
            refine Wp.lstore dX12_walks_95 (Nat.le_of_ble_eq_true rfl) (by dsimp only [ev_st1, ev_st2, ev_cl] <;> rfl) rfl ?_
            refine Wp.aload_n dX12_walks_97 rfl (by first | exact Or.inr ⟨_, rfl⟩ | exact Or.inl rfl) rfl ?_
            refine Wp.get dX12_walks_98 fl_X12_60 hMi.ob (hMi.rf 22 (by decide)) rfl ?_
            refine Wp.iload dX12_walks_101 rfl rfl ?_
            refine Wp.iaload dX12_walks_103 (hMi.ia 22 (by decide)) (nI_toInt (by omega)) (by show _ < 4096; omega) rfl ?_
            rw [(hA.2 i hi).1]
            refine Wp.aload_n dX12_walks_104 rfl (by first | exact Or.inr ⟨_, rfl⟩ | exact Or.inl rfl) rfl ?_
            refine Wp.get dX12_walks_105 fl_X12_60 hMi.ob (hMi.rf 22 (by decide)) rfl ?_
            refine Wp.iload_n dX12_walks_108 rfl rfl ?_
            refine Wp.iaload dX12_walks_109 (hMi.ia 22 (by decide)) (nI_toInt (by omega)) (by show _ < 4096; omega) rfl ?_
            rw [(hA.2 a han).1]
            refine Wp.isub dX12_walks_110 rfl ?_
            rw [iI_sub]
            refine Wp.i2l dX12_walks_111 rfl ?_
            rw [iI_l (by omega) (by omega)]
            refine Wp.lstore dX12_walks_112 (Nat.le_of_ble_eq_true rfl) (by dsimp only [ev_st1, ev_st2, ev_cl] <;> rfl) rfl ?_
            refine Wp.lload dX12_walks_114 rfl rfl ?_
            refine Wp.lconst (v := 0) dX12_walks_116 (by decide) rfl ?_
            refine Wp.lcmp_le (tgt := 143) (n := 121) dX12_walks_117 rfl dX12_walks_118 (by decide) rfl (fun c_117 => ?_) (fun c_117 => ?_)
            · try simp (disch := omega) only [nI_bit0, nI_bit1, Bool.not_eq_false, Bool.not_eq_true] at c_117
              try simp (disch := omega) only [i_lt, i_le, i_eq, l_lt, l_le, l_eq, i_0, i_m1, l_0, nI_tI, iI_tI, lI_tI, Int.not_lt, Int.not_le] at c_117
              refine Wp.iinc (v := _ + (nI 1)) dX12_walks_143 rfl rfl (Nat.le_of_ble_eq_true rfl) (by dsimp only [ev_st1, ev_cl] <;> rfl) rfl ?_
              refine Wp.goto (n := 71) dX12_walks_146 (by decide) ?_
              rw [nI_add1]
              simp only [cwN] at ih
              first
                | (rw [if_pos ⟨by omega, by omega⟩] at ih; exact ih _ _ _ _)
                | (rw [if_neg (by intro z; have z1 := z.1; have z2 := z.2; omega)] at ih; exact ih _ _ _ _)
            · try simp (disch := omega) only [nI_bit0, nI_bit1, Bool.not_eq_false, Bool.not_eq_true] at c_117
              try simp (disch := omega) only [i_lt, i_le, i_eq, l_lt, l_le, l_eq, i_0, i_m1, l_0, nI_tI, iI_tI, lI_tI, Int.not_lt, Int.not_le] at c_117
              refine Wp.lload dX12_walks_121 rfl rfl ?_
              refine Wp.lload dX12_walks_123 rfl rfl ?_
              refine Wp.lmul dX12_walks_125 rfl ?_
              rw [lI_mul]
              refine Wp.lload_n dX12_walks_126 rfl rfl ?_
              refine Wp.lload dX12_walks_127 rfl rfl ?_
              refine Wp.lmul dX12_walks_129 rfl ?_
              rw [lI_mul]
              refine Wp.lcmp_ge (tgt := 143) (n := 134) dX12_walks_130 rfl dX12_walks_131 (by decide) rfl (fun c_130 => ?_) (fun c_130 => ?_)
              · try simp (disch := omega) only [nI_bit0, nI_bit1, Bool.not_eq_false, Bool.not_eq_true] at c_130
                try simp (disch := omega) only [i_lt, i_le, i_eq, l_lt, l_le, l_eq, i_0, i_m1, l_0, nI_tI, iI_tI, lI_tI, Int.not_lt, Int.not_le] at c_130
                refine Wp.iinc (v := _ + (nI 1)) dX12_walks_143 rfl rfl (Nat.le_of_ble_eq_true rfl) (by dsimp only [ev_st1, ev_cl] <;> rfl) rfl ?_
                refine Wp.goto (n := 71) dX12_walks_146 (by decide) ?_
                rw [nI_add1]
                simp only [cwN] at ih
                first
                  | (rw [if_pos ⟨by omega, by omega⟩] at ih; exact ih _ _ _ _)
                  | (rw [if_neg (by intro z; have z1 := z.1; have z2 := z.2; omega)] at ih; exact ih _ _ _ _)
              · try simp (disch := omega) only [nI_bit0, nI_bit1, Bool.not_eq_false, Bool.not_eq_true] at c_130
                try simp (disch := omega) only [i_lt, i_le, i_eq, l_lt, l_le, l_eq, i_0, i_m1, l_0, nI_tI, iI_tI, lI_tI, Int.not_lt, Int.not_le] at c_130
                refine Wp.lload dX12_walks_134 rfl rfl ?_
                refine Wp.lstore_n dX12_walks_136 (Nat.le_of_ble_eq_true rfl) (by dsimp only [ev_st1, ev_st2, ev_cl] <;> rfl) rfl ?_
                refine Wp.lload dX12_walks_137 rfl rfl ?_
                refine Wp.lstore dX12_walks_139 (Nat.le_of_ble_eq_true rfl) (by dsimp only [ev_st1, ev_st2, ev_cl] <;> rfl) rfl ?_
                refine Wp.iconst (v := (nI 1)) dX12_walks_141 (by decide) rfl ?_
                refine Wp.istore_n dX12_walks_142 (Nat.le_of_ble_eq_true rfl) (by dsimp only [ev_st1, ev_st2, ev_cl] <;> rfl) rfl ?_
                refine Wp.iinc (v := _ + (nI 1)) dX12_walks_143 rfl rfl (Nat.le_of_ble_eq_true rfl) (by dsimp only [ev_st1, ev_cl] <;> rfl) rfl ?_
                refine Wp.goto (n := 71) dX12_walks_146 (by decide) ?_
                rw [nI_add1]
                simp only [cwN] at ih
                first
                  | (rw [if_pos ⟨by omega, by omega⟩] at ih; exact ih _ _ _ _)
                  | (rw [if_neg (by intro z; have z1 := z.1; have z2 := z.2; omega)] at ih; exact ih _ _ _ _)
        · intro j8 j9 j10 j11
          refine Wp.iload dX12_walks_71 rfl rfl ?_
          refine Wp.aload_n dX12_walks_73 rfl (by first | exact Or.inr ⟨_, rfl⟩ | exact Or.inl rfl) rfl ?_
          refine Wp.get dX12_walks_74 fl_X12_150 hMi.ob hAi.1 rfl ?_
          refine Wp.icmp_ge (tgt := 149) (n := 80) dX12_walks_77 (by decide) rfl (fun c_77 => ?_) (fun c_77 => ?_)
          · try simp (disch := omega) only [nI_bit0, nI_bit1, Bool.not_eq_false, Bool.not_eq_true] at c_77
            try simp (disch := omega) only [i_lt, i_le, i_eq, l_lt, l_le, l_eq, i_0, i_m1, l_0, nI_tI, iI_tI, lI_tI, Int.not_lt, Int.not_le] at c_77
            refine Wp.iload_n dX12_walks_149 rfl rfl ?_
            refine Wp.bif_eq (tgt := 160) (n := 153) dX12_walks_150 (by decide) rfl (fun c_150 => ?_) (fun c_150 => ?_)
            · have hnil : bl S R n σ.p2 σ.q2 (k + 1) a = [] := by
                rcases nxN_is S R a n with ⟨g1, g2⟩ | ⟨b, g1, g2⟩
                · exact bl_no (by omega)
                · rcases cw_nx hw2q g2 g1 with ⟨g3, g4⟩ | ⟨g3, g4⟩
                  · exact bl_out g1 g4
                  · rw [g3] at c_150; cases c_150
              rw [c_150]
              refine Wp.goto (n := 21) dX12_walks_160 (by decide) ?_
              refine Wp.iload_n dX12_walks_21 rfl rfl ?_
              refine Wp.bif_eq (tgt := 163) (n := 25) dX12_walks_22 (by decide) rfl (fun c_22 => ?_) (fun c_22 => ?_)
              · skip
                refine Wp.aload_n dX12_walks_163 rfl (by first | exact Or.inr ⟨_, rfl⟩ | exact Or.inl rfl) rfl ?_
                refine Wp.aload_n dX12_walks_164 rfl (by first | exact Or.inr ⟨_, rfl⟩ | exact Or.inl rfl) rfl ?_
                refine Wp.get dX12_walks_165 fl_X12_35 hMi.ob hPi.w3 rfl ?_
                refine Wp.i2l dX12_walks_168 rfl ?_
                rw [iI_l (by omega) (by omega)]
                refine Wp.aload_n dX12_walks_169 rfl (by first | exact Or.inr ⟨_, rfl⟩ | exact Or.inl rfl) rfl ?_
                refine Wp.get dX12_walks_170 fl_X12_38 hMi.ob hPi.w4 rfl ?_
                refine Wp.i2l dX12_walks_173 rfl ?_
                rw [iI_l (by omega) (by omega)]
                refine Wp.cV dX12_walks_174 cv_X12_201 rfl (by omega) rfl (Nat.le_of_ble_eq_true rfl) (Nat.le_of_ble_eq_true rfl) hMi.ob rfl (c_X12_point (d := d - 1) (p := σ.p2) (q := σ.q2) (l := l ++ [(P0, Q0)]) hMi hAi hB h0 hw2q hw2 hli (by omega) hZi (by omega)) ?_
                rintro _ h9 ⟨rfl, V9, Z9, m1, m2, m3, m4, m5, m6⟩
                dsimp only [Option.toList, List.drop, List.cons_append, List.nil_append]
                exact Wp.vret dX12_walks_177 rfl (by refine ⟨rfl, V9, Z9, m1, hOi.trans m2, fun j hj => (m3 j hj).trans (fV j hj), fun j x1 x2 x3 => (m4 j x1 x2 x3).trans (fZ j x1 x2 x3), (by rw [m5, ← hfull, hnil]; simp), (by rw [← hfull, hnil]; simpa using m6)⟩)
              · cases c_22
            · obtain ⟨b, g1, g2, g4, g5⟩ : ∃ b : Nat, nxN S R a n = b ∧ IsN S R n a b ∧ (S b - S a) * σ.q2 < σ.p2 * (R a - R b) ∧ (cwN S R a σ.p2 σ.q2 n).1 * (R a - R b) = (S b - S a) * (cwN S R a σ.p2 σ.q2 n).2.1 := by
                rcases nxN_is S R a n with ⟨g1, g2⟩ | ⟨b, g1, g2⟩
                · exfalso
                  rcases cwN_is (S := S) (R := R) (a := a) (P2 := σ.p2) hw2q n with ⟨y1, -⟩ | ⟨j, y2, y3, -⟩
                  · rw [y1] at c_150; cases c_150
                  · exact g2 j y2 y3
                · rcases cw_nx hw2q g2 g1 with ⟨g3, g4⟩ | ⟨g3, g4, g5⟩
                  · rw [g3] at c_150; cases c_150
                  · exact ⟨b, g1, g2, g4, g5⟩
              have hgb := g2.1
              have hgr := g2.2.1
              have hcwb := cwN_b hB han hW.w2 n (Nat.le_refl n)
              have hBb := hB.2 b hgb
              have hlow : ∀ w, low w (cwN S R a σ.p2 σ.q2 n).1 (cwN S R a σ.p2 σ.q2 n).2.1 = low w (S b - S a) (R a - R b) := fun w => low_eq hcwb.2.2.1 (by omega) g5
              have hbb := bst_nx h0 hQ0 hba g2
              rw [c_150]
              refine Wp.aload_n dX12_walks_153 rfl (by first | exact Or.inr ⟨_, rfl⟩ | exact Or.inl rfl) rfl ?_
              refine Wp.lload_n dX12_walks_154 rfl rfl ?_
              refine Wp.lload dX12_walks_155 rfl rfl ?_
              refine Wp.cV dX12_walks_157 cv_X12_201 rfl (by omega) rfl (Nat.le_of_ble_eq_true rfl) (Nat.le_of_ble_eq_true rfl) hMi.ob rfl (c_X12_point (d := d - 1) (p := (cwN S R a σ.p2 σ.q2 n).1) (q := (cwN S R a σ.p2 σ.q2 n).2.1) (l := l ++ [(P0, Q0)]) hMi hAi hB h0 hcwb.2.2.1 ⟨by omega, by omega, by omega, by omega⟩ hli (by omega) hZi (by omega)) ?_
              rintro _ h9 ⟨rfl, V9, Z9, m1, m2, m3, m4, m5, m6⟩
              dsimp only [Option.toList, List.drop, List.cons_append, List.nil_append]
              have m7 : PtO n S R Z9 (l ++ [(P0, Q0)] ++ [(S b - S a, R a - R b)]) := by
                intro i hi
                have hi' : i < (l ++ [(P0, Q0)] ++ [((cwN S R a σ.p2 σ.q2 n).1, (cwN S R a σ.p2 σ.q2 n).2.1)]).length := by simp at hi ⊢; omega
                have m := m6 i hi'
                by_cases e : i = (l ++ [(P0, Q0)]).length
                · subst e
                  rw [getD_last] at m ⊢
                  rw [← hlow true, ← hlow false]; exact m
                · have hi2 : i < (l ++ [(P0, Q0)]).length := by rw [List.length_append, List.length_singleton] at hi; omega
                  rw [getD_snoc hi2] at m ⊢
                  exact m
              refine Wp.goto (n := 21) dX12_walks_160 (by decide) ?_
              refine ih b (l ++ [(P0, Q0)]) (S b - S a) (R a - R b) h9 V9 Z9 _ _ _ _ _ _ _ _ _ _ m1 (hOi.trans m2) (fun j hj => (m3 j hj).trans (fV j hj)) (fun j x1 x2 x3 => (m4 j x1 x2 x3).trans (fZ j x1 x2 x3)) (by omega) ⟨by omega, by omega, by omega, by omega⟩ (by rw [m5]; simp) m7 hgb hbb (by omega) (by simp at hlen ⊢; omega) ?_
              rw [← hfull, bl_in g1 g4]
              simp [crs]
          · try simp (disch := omega) only [nI_bit0, nI_bit1, Bool.not_eq_false, Bool.not_eq_true] at c_77
            try simp (disch := omega) only [i_lt, i_le, i_eq, l_lt, l_le, l_eq, i_0, i_m1, l_0, nI_tI, iI_tI, lI_tI, Int.not_lt, Int.not_le] at c_77
            omega
      refine Wp.iload_n dX12_walks_21 rfl rfl ?_
      refine Wp.if_eq (tgt := 163) (n := 25) dX12_walks_22 (by decide) rfl (fun c_22 => ?_) (fun c_22 => ?_)
      · exact absurd c_22 (by decide)
        skip
      · skip
        refine Wp.aload_n dX12_walks_25 rfl (by first | exact Or.inr ⟨_, rfl⟩ | exact Or.inl rfl) rfl ?_
        refine Wp.aload_n dX12_walks_26 rfl (by first | exact Or.inr ⟨_, rfl⟩ | exact Or.inl rfl) rfl ?_
        refine Wp.get dX12_walks_27 fl_X12_66 hMi.ob (hMi.rf 25 (by decide)) rfl ?_
        refine Wp.aload_n dX12_walks_30 rfl (by first | exact Or.inr ⟨_, rfl⟩ | exact Or.inl rfl) rfl ?_
        refine Wp.get dX12_walks_31 fl_X12_198 hMi.ob hli rfl ?_
        rw [hll]
        refine Wp.iconst (v := (nI 1)) dX12_walks_34 (by decide) rfl ?_
        refine Wp.isub dX12_walks_35 rfl ?_
        refine Wp.laload dX12_walks_36 (hMi.la 25 (by decide)) (nI_m1n (by omega)) (by show _ < 500; omega) rfl ?_
        rw [hzl.1]
        refine Wp.aload_n dX12_walks_37 rfl (by first | exact Or.inr ⟨_, rfl⟩ | exact Or.inl rfl) rfl ?_
        refine Wp.get dX12_walks_38 fl_X12_69 hMi.ob (hMi.rf 26 (by decide)) rfl ?_
        refine Wp.aload_n dX12_walks_41 rfl (by first | exact Or.inr ⟨_, rfl⟩ | exact Or.inl rfl) rfl ?_
        refine Wp.get dX12_walks_42 fl_X12_198 hMi.ob hli rfl ?_
        rw [hll]
        refine Wp.iconst (v := (nI 1)) dX12_walks_45 (by decide) rfl ?_
        refine Wp.isub dX12_walks_46 rfl ?_
        refine Wp.laload dX12_walks_47 (hMi.la 26 (by decide)) (nI_m1n (by omega)) (by show _ < 500; omega) rfl ?_
        rw [hzl.2.1]
        refine Wp.iconst (v := (nI 1)) dX12_walks_48 (by decide) rfl ?_
        refine Wp.cV dX12_walks_49 cv_X12_191 rfl (by omega) rfl (Nat.le_of_ble_eq_true rfl) (Nat.le_of_ble_eq_true rfl) hMi.ob rfl (c_X12_bestAt (d := d - 1) hMi hAi hB h0 (w := 1) hlp (by decide) (by omega)) ?_
        rintro _ h_ ⟨rfl, e_⟩
        rw [e_]
        clear e_ h_
        dsimp only [Option.toList, List.drop, List.cons_append, List.nil_append]
        rw [Kw1, bst_low hQ0, hba]
        refine Wp.istore_n dX12_walks_52 (Nat.le_of_ble_eq_true rfl) (by dsimp only [ev_st1, ev_st2, ev_cl] <;> rfl) rfl ?_
        refine Wp.aload_n dX12_walks_53 rfl (by first | exact Or.inr ⟨_, rfl⟩ | exact Or.inl rfl) rfl ?_
        refine Wp.get dX12_walks_54 fl_X12_35 hMi.ob hPi.w3 rfl ?_
        refine Wp.i2l dX12_walks_57 rfl ?_
        rw [iI_l (by omega) (by omega)]
        refine Wp.lstore_n dX12_walks_58 (Nat.le_of_ble_eq_true rfl) (by dsimp only [ev_st1, ev_st2, ev_cl] <;> rfl) rfl ?_
        refine Wp.aload_n dX12_walks_59 rfl (by first | exact Or.inr ⟨_, rfl⟩ | exact Or.inl rfl) rfl ?_
        refine Wp.get dX12_walks_60 fl_X12_38 hMi.ob hPi.w4 rfl ?_
        refine Wp.i2l dX12_walks_63 rfl ?_
        rw [iI_l (by omega) (by omega)]
        refine Wp.lstore dX12_walks_64 (Nat.le_of_ble_eq_true rfl) (by dsimp only [ev_st1, ev_st2, ev_cl] <;> rfl) rfl ?_
        refine Wp.iconst (v := (nI 0)) dX12_walks_66 (by decide) rfl ?_
        refine Wp.istore_n dX12_walks_67 (Nat.le_of_ble_eq_true rfl) (by dsimp only [ev_st1, ev_st2, ev_cl] <;> rfl) rfl ?_
        refine Wp.iconst (v := (nI 0)) dX12_walks_68 (by decide) rfl ?_
        refine Wp.istore dX12_walks_69 (Nat.le_of_ble_eq_true rfl) (by dsimp only [ev_st1, ev_st2, ev_cl] <;> rfl) rfl ?_
        exact loop 0 (by omega) _ _ _ _
  refine Wp.aload_n dX12_walks_0 rfl (by first | exact Or.inr ⟨_, rfl⟩ | exact Or.inl rfl) rfl ?_
  refine Wp.iconst (v := (nI 0)) dX12_walks_1 (by decide) rfl ?_
  refine Wp.put dX12_walks_2 fp_X12_198 hM.ob rfl rfl rfl ?_
  refine hM.put (k := 24) (by decide) ?_
  intro h2 V2 hM2 o2 e2 f2
  have hP2 := hP.scV (by decide : 20 ≤ 24) f2
  refine Wp.aload_n dX12_walks_5 rfl (by first | exact Or.inr ⟨_, rfl⟩ | exact Or.inl rfl) rfl ?_
  refine Wp.aload_n dX12_walks_6 rfl (by first | exact Or.inr ⟨_, rfl⟩ | exact Or.inl rfl) rfl ?_
  refine Wp.get dX12_walks_7 fl_X12_195 hM2.ob hP2.w1 rfl ?_
  refine Wp.i2l dX12_walks_10 rfl ?_
  rw [iI_l (by omega) (by omega)]
  refine Wp.aload_n dX12_walks_11 rfl (by first | exact Or.inr ⟨_, rfl⟩ | exact Or.inl rfl) rfl ?_
  refine Wp.get dX12_walks_12 fl_X12_31 hM2.ob hP2.w2 rfl ?_
  refine Wp.i2l dX12_walks_15 rfl ?_
  rw [iI_l (by omega) (by omega)]
  refine Wp.cV dX12_walks_16 cv_X12_201 rfl (by omega) rfl (Nat.le_of_ble_eq_true rfl) (Nat.le_of_ble_eq_true rfl) hM2.ob rfl (c_X12_point (d := d - 1) (p := σ.p1) (q := σ.q1) (l := []) hM2 (n := n) (S := S) (R := R) ⟨(f2 20 (by decide)).trans hA.1, hA.2⟩ hB h0 hw1q hw1b e2 (by decide) PtO.nil (by omega)) ?_
  rintro _ h9 ⟨rfl, V9, Z9, m1, m2, m3, m4, m5, m6⟩
  dsimp only [Option.toList, List.drop, List.cons_append, List.nil_append]
  refine Wp.iconst (v := (nI 1)) dX12_walks_19 (by decide) rfl ?_
  refine Wp.istore_n dX12_walks_20 (Nat.le_of_ble_eq_true rfl) (by dsimp only [ev_st1, ev_st2, ev_cl] <;> rfl) rfl ?_
  have hb0 := bst_lt (cst S R σ.p1 σ.q1) R n h0
  have hbb := hB.2 _ hb0
  exact outer 500 (bst (cst S R σ.p1 σ.q1) R n) [] σ.p1 σ.q1 h9 V9 Z9 _ _ _ _ _ _ _ _ _ _ m1 (o2.trans m2) (fun j hj => (m3 j hj).trans (f2 j hj)) m4 hw1q hw1b m5 m6 hb0 rfl (by omega) (by simp; omega) (by simp [ptL])
