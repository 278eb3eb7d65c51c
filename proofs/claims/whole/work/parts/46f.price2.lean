/-! prices: the bends found are the reference's; regrets -/
theorem bl_cut {S R : Nat → Int} {n : Nat} {P2 Q2 : Int} (μ : Nat → Nat) (hμ : ∀ u v : Nat, u < n → nxN S R u n = (v : Int) → v < n ∧ μ v < μ u) : ∀ k m u, u < n → μ u ≤ k → bl S R n P2 Q2 (k + m) u = bl S R n P2 Q2 k u
  | k, m, u, hu, hk => by
    by_cases h0 : 0 ≤ nxN S R u n
    · obtain ⟨v, hv⟩ : ∃ v : Nat, nxN S R u n = v := ⟨_, (Int.toNat_of_nonneg h0).symm⟩
      have q := hμ u v hu hv
      by_cases g : (S v - S u) * Q2 < P2 * (R u - R v)
      · obtain ⟨k2, rfl⟩ : ∃ k2, k = k2 + 1 := ⟨k - 1, by omega⟩
        rw [show k2 + 1 + m = k2 + m + 1 by omega, bl_in hv g, bl_in hv g, bl_cut μ hμ k2 m v q.1 (by omega)]
      · rw [bl_out hv g, bl_out hv g]
    · rw [bl_no (by omega), bl_no (by omega)]
theorem nx_of {S R : Nat → Int} {n u v : Nat} (h : nxN S R u n = (v : Int)) : IsN S R n u v := by
  rcases nxN_is S R u n with ⟨e, -⟩ | ⟨b, e, hb⟩
  · rw [h] at e; omega
  · rw [h] at e
    obtain rfl : v = b := by omega
    exact hb
theorem bl_fuel {S R : Nat → Int} {n : Nat} {P2 Q2 : Int} (hB : PrB n S R) {u : Nat} (hu : u < n) : bl S R n P2 Q2 n u = bl S R n P2 Q2 500 u := by
  have h1 := bl_cut (S := S) (R := R) (n := n) (P2 := P2) (Q2 := Q2) (fun j => cl R (R j) n) (fun x y hx hxy => by
    have q := nx_of hxy
    exact ⟨q.1, cl_lt (Int.le_of_lt q.2.1) (Int.le_refl _) q.2.1 n q.1⟩) n 500 u hu (cl_le ..)
  have h2 := bl_cut (S := S) (R := R) (n := n) (P2 := P2) (Q2 := Q2) (fun j => (R j + 240).toNat) (fun x y hx hxy => by
    have q := nx_of hxy
    have b1 := hB.2 x hx
    have b2 := hB.2 y q.1
    have := q.2.1
    exact ⟨q.1, by omega⟩) 500 n u hu (by have := hB.2 u hu; omega)
  rw [← h1, ← h2, Nat.add_comm]
/-- every bend of the road is where its first choice stops and its second begins -/
theorem bl_path {S R : Nat → Int} {n : Nat} {P2 Q2 : Int} : ∀ k u p q, 0 < q → IsB (cst S R p q) R n u → ∀ e, e ∈ bl S R n P2 Q2 k u → IsB (cst S R (S e.2 - S e.1) (R e.1 - R e.2)) (fun j => -R j) n e.1 ∧ IsB (cst S R (S e.2 - S e.1) (R e.1 - R e.2)) R n e.2 ∧ R e.2 < R e.1 ∧ (S e.2 - S e.1) * Q2 < P2 * (R e.1 - R e.2) ∧ p * (R e.1 - R e.2) < (S e.2 - S e.1) * q
  | 0, _, _, _, _, _, e, h => absurd h (by simp [bl])
  | k + 1, u, p, q, hq, hu, e, h => by
    by_cases h0 : 0 ≤ nxN S R u n
    · obtain ⟨v, hv⟩ : ∃ v : Nat, nxN S R u n = v := ⟨_, (Int.toNat_of_nonneg h0).symm⟩
      by_cases g : (S v - S u) * Q2 < P2 * (R u - R v)
      · have hn := nx_of hv
        have hR := hn.2.1
        rw [bl_in hv g] at h
        have a1 := next_above hq hu hn
        have a2 := next_below hq hu hn
        have a3 := next_after hq hu hn
        rcases List.mem_cons.mp h with rfl | h2
        · exact ⟨a2, a1, hR, g, a3⟩
        · have ih := bl_path k v (S v - S u) (R u - R v) (by omega) a1 e h2
          refine ⟨ih.1, ih.2.1, ih.2.2.1, ih.2.2.2.1, ?_⟩
          have hR2 := ih.2.2.1
          exact frac_lt_trans' (b := q) (d := R u - R v) (f := R e.1 - R e.2) hq (by omega) (by omega) a3 (Int.le_of_lt ih.2.2.2.2)
      · rw [bl_out hv g] at h; exact absurd h (by simp)
    · rw [bl_no (by omega)] at h; exact absurd h (by simp)
theorem blL_500 {σ : Sg} (hW : Wf σ) {o : Nat} (h0 : 0 < chn σ o) : blL σ o = bl (chS σ o) (chR σ o) (chn σ o) σ.p2 σ.q2 500 (bst (cst (chS σ o) (chR σ o) σ.p1 σ.q1) (chR σ o) (chn σ o)) := by
  unfold blL
  rw [if_pos h0, Kw1, bl_fuel (PrB_ch hW o) (bst_lt _ _ _ h0)]
theorem pts_blL {σ : Sg} (hW : Wf σ) {o : Nat} (h0 : 0 < chn σ o) : pts σ o = ((σ.p1, σ.q1) :: (blL σ o).map (crs (chS σ o) (chR σ o))) ++ [(σ.p2, σ.q2)] := by
  rw [blL_500 hW h0]; rfl
theorem npt_blL {σ : Sg} (hW : Wf σ) {o : Nat} (h0 : 0 < chn σ o) : (blL σ o).length + 2 = npt σ o := by
  rw [npt, if_pos h0, pts_blL hW h0]; simp
theorem pts_mid {σ : Sg} (hW : Wf σ) {o i : Nat} (h0 : 0 < chn σ o) (hi : i < (blL σ o).length) : (pts σ o).getD (i + 1) (0, 1) = crs (chS σ o) (chR σ o) ((blL σ o).getD i (0, 0)) ∧ (blL σ o).getD i (0, 0) ∈ bl (chS σ o) (chR σ o) (chn σ o) σ.p2 σ.q2 500 (bst (cst (chS σ o) (chR σ o) σ.p1 σ.q1) (chR σ o) (chn σ o)) := by
  have e : (blL σ o).getD i (0, 0) = (blL σ o)[i] := by simp [List.getD, hi]
  constructor
  · rw [e, pts_blL hW h0]
    simp only [List.getD, List.cons_append, List.getElem?_cons_succ]
    rw [List.getElem?_append_left (by rw [List.length_map]; exact hi), List.getElem?_map, List.getElem?_eq_getElem hi]; rfl
  · rw [e, ← blL_500 hW h0]; exact List.getElem_mem hi
theorem pts_0 {σ : Sg} {o : Nat} : (pts σ o).getD 0 (0, 1) = (σ.p1, σ.q1) := rfl
theorem pts_z {σ : Sg} (hW : Wf σ) {o : Nat} (h0 : 0 < chn σ o) : (pts σ o).getD ((blL σ o).length + 1) (0, 1) = (σ.p2, σ.q2) := by
  rw [pts_blL hW h0]
  simp only [List.getD, List.cons_append, List.getElem?_cons_succ]
  rw [List.getElem?_append_right (by rw [List.length_map]; exact Nat.le_refl _), List.length_map, Nat.sub_self]; rfl
theorem ben_ok' {σ : Sg} (hW : Wf σ) {o : Nat} {rb : Nat → Nat → Int} (h : ∀ i k, i < (blL σ o).length → k < 4 → rb i k = rowV (chS σ o) (chR σ o) (chC σ o) ((blL σ o).getD i (0, 0)) k) : BenOK σ o (blL σ o).length rb := by
  by_cases h0 : 0 < chn σ o
  · refine ⟨npt_blL hW h0, fun i k hi hk => ?_⟩
    rw [h i k hi hk]
    obtain ⟨e1, hm⟩ := pts_mid hW h0 hi
    generalize (blL σ o).getD i (0, 0) = e at *
    have hI := bl_path 500 _ σ.p1 σ.q1 (by have := hW.w1; omega) (bst_is (cst (chS σ o) (chR σ o) σ.p1 σ.q1) (chR σ o) (chn σ o) h0) e hm
    have hR := hI.2.2.1
    have eP : ptP σ o (i + 1) = low true (chS σ o e.2 - chS σ o e.1) (chR σ o e.1 - chR σ o e.2) := by unfold ptP; rw [e1]; rfl
    have eQ : ptQ σ o (i + 1) = low false (chS σ o e.2 - chS σ o e.1) (chR σ o e.1 - chR σ o e.2) := by unfold ptQ; rw [e1]; rfl
    have hk4 : k = 0 ∨ k = 1 ∨ k = 2 ∨ k = 3 := by omega
    rcases hk4 with rfl | rfl | rfl | rfl
    · rw [rowV, if_pos rfl, bndV, if_pos rfl, eP]
    · rw [rowV, if_neg (by decide), if_pos rfl, bndV, if_neg (by decide), if_pos rfl, eQ]
    · rw [rowV, if_neg (by decide), if_neg (by decide), if_pos rfl, bndV, if_neg (by decide), if_neg (by decide), if_pos rfl, eP, eQ, bst_low (by omega), Kw2, bst_of hI.1]
    · rw [rowV, if_neg (by decide), if_neg (by decide), if_neg (by decide), bndV, if_neg (by decide), if_neg (by decide), if_neg (by decide), eP, eQ, bst_low (by omega), Kw1, bst_of hI.2.1]
  · have e : blL σ o = [] := by unfold blL; rw [if_neg h0]
    rw [e]
    refine ⟨?_, fun i k hi _ => absurd hi (Nat.not_lt_zero i)⟩
    rw [npt, if_neg h0]; rfl
theorem bk_b' {σ : Sg} (hW : Wf σ) {o nb : Nat} {rb : Nat → Nat → Int} (h : BenOK σ o nb rb) (i k : Nat) (hi : i < nb) (hk : k < 4) : -1000000 ≤ rb i k ∧ rb i k ≤ 1000000 := by
  rw [h.2 i k hi hk]
  have hn := h.1
  by_cases h0 : 0 < chn σ o
  · have hl : i + 1 < (pts σ o).length := by rw [npt, if_pos h0] at hn; omega
    have b := ptPQ_b hW h0 hl
    have c := chC_lt σ o
    unfold bndV
    split
    · omega
    · split
      · omega
      · have := c (bst (cst (chS σ o) (chR σ o) (ptP σ o (i + 1)) (ptQ σ o (i + 1))) (Kw (if k = 2 then 2 else 1) (chR σ o)) (chn σ o))
        omega
  · rw [npt, if_neg h0] at hn; omega
/-! regrets: greatest at the window's ends -/
theorem cst_sc {S R : Nat → Int} {p q g : Int} (j : Nat) : cst S R (g * p) (g * q) j = g * cst S R p q j := by unfold cst; grind
/-- a point of the window, in lowest terms -/
theorem pt_fr {σ : Sg} (hW : Wf σ) {o k : Nat} (h0 : 0 < chn σ o) (hk : k < npt σ o) : ∃ g : Int, 0 < g ∧ ((pts σ o).getD k (0, 1)).1 = g * ptP σ o k ∧ ((pts σ o).getD k (0, 1)).2 = g * ptQ σ o k ∧ 0 < ptQ σ o k := by
  have hk2 : k < (pts σ o).length := by rw [npt, if_pos h0] at hk; exact hk
  have hm := pt_b hW h0 (getD_mem (e := (0, 1)) hk2)
  exact low_frac hm.2.2.1
theorem reg_sc {S R : Nat → Int} {p q g : Int} {n c : Nat} (hg : 0 < g) : cst S R (g * p) (g * q) c - mnN (cst S R (g * p) (g * q)) n = g * (cst S R p q c - mnN (cst S R p q) n) := by
  rw [cst_sc, mnN_scale hg (fun j => cst_sc j) n]; grind
theorem pt_in {σ : Sg} (hW : Wf σ) {o k : Nat} (h0 : 0 < chn σ o) (hk : k < npt σ o) : σ.p1 * ptQ σ o k ≤ ptP σ o k * σ.q1 ∧ ptP σ o k * σ.q2 ≤ σ.p2 * ptQ σ o k := by
  have w1 := hW.w1
  have w2 := hW.w2
  have w3 := hW.w3
  have hl := npt_blL hW h0
  have key : σ.p1 * ((pts σ o).getD k (0, 1)).2 ≤ ((pts σ o).getD k (0, 1)).1 * σ.q1 ∧ ((pts σ o).getD k (0, 1)).1 * σ.q2 ≤ σ.p2 * ((pts σ o).getD k (0, 1)).2 := by
    cases k with
    | zero => rw [pts_0]; exact ⟨Int.le_refl _, w3⟩
    | succ i =>
      by_cases hi : i < (blL σ o).length
      · obtain ⟨e1, hm⟩ := pts_mid hW h0 hi
        rw [e1]
        generalize (blL σ o).getD i (0, 0) = e at *
        have hI := bl_path 500 _ σ.p1 σ.q1 (by omega) (bst_is (cst (chS σ o) (chR σ o) σ.p1 σ.q1) (chR σ o) (chn σ o) h0) e hm
        exact ⟨Int.le_of_lt hI.2.2.2.2, Int.le_of_lt hI.2.2.2.1⟩
      · rw [show i = (blL σ o).length by omega, pts_z hW h0]
        exact ⟨w3, Int.le_refl _⟩
  obtain ⟨g, hg, e1, e2, -⟩ := pt_fr hW h0 hk
  rw [e1, e2] at key
  have k1 : g * (σ.p1 * ptQ σ o k - ptP σ o k * σ.q1) = σ.p1 * (g * ptQ σ o k) - g * ptP σ o k * σ.q1 := by grind
  have k2 : g * (ptP σ o k * σ.q2 - σ.p2 * ptQ σ o k) = g * ptP σ o k * σ.q2 - σ.p2 * (g * ptQ σ o k) := by grind
  have m1 := mnp hg (X := σ.p1 * ptQ σ o k - ptP σ o k * σ.q1) (by omega)
  have m2 := mnp hg (X := ptP σ o k * σ.q2 - σ.p2 * ptQ σ o k) (by omega)
  omega
theorem reg_le {S R : Nat → Int} {n c : Nat} {p q p1 q1 p2 q2 : Int} (hn : 0 < n) (hq : 0 < q) (hq1 : 0 < q1) (hq2 : 0 < q2) (h1 : p1 * q ≤ p * q1) (h2 : p * q2 ≤ p2 * q) :
    (cst S R p q c - mnN (cst S R p q) n) * q1 ≤ (cst S R p1 q1 c - mnN (cst S R p1 q1) n) * q ∨ (cst S R p q c - mnN (cst S R p q) n) * q2 ≤ (cst S R p2 q2 c - mnN (cst S R p2 q2) n) * q := by
  obtain ⟨j, hj, e⟩ := mnN_at (cst S R p q) n hn
  have a1 := mnN_le (cst S R p1 q1) n j hj
  have a2 := mnN_le (cst S R p2 q2) n j hj
  rw [e]
  by_cases hR : R c ≤ R j
  · left
    have b1 : (cst S R p1 q1 c - cst S R p1 q1 j) * q ≤ (cst S R p1 q1 c - mnN (cst S R p1 q1) n) * q := Int.mul_le_mul_of_nonneg_right (by omega) (by omega)
    have b2 : (cst S R p1 q1 c - cst S R p1 q1 j) * q - (cst S R p q c - cst S R p q j) * q1 = (R j - R c) * (p * q1 - p1 * q) := by unfold cst; grind
    have b3 : 0 ≤ (R j - R c) * (p * q1 - p1 * q) := Int.mul_nonneg (by omega) (by omega)
    omega
  · right
    have b1 : (cst S R p2 q2 c - cst S R p2 q2 j) * q ≤ (cst S R p2 q2 c - mnN (cst S R p2 q2) n) * q := Int.mul_le_mul_of_nonneg_right (by omega) (by omega)
    have b2 : (cst S R p2 q2 c - cst S R p2 q2 j) * q - (cst S R p q c - cst S R p q j) * q2 = (R c - R j) * (p2 * q - p * q2) := by unfold cst; grind
    have b3 : 0 ≤ (R c - R j) * (p2 * q - p * q2) := Int.mul_nonneg (by omega) (by omega)
    omega
theorem rgN_max {v q : Nat → Int} : ∀ m, (∀ k, k < m → 0 < q k) → 0 < (rgN v q m).2 ∧ (∀ k, k < m → v k * (rgN v q m).2 ≤ (rgN v q m).1 * q k) ∧ ((∃ k, k < m ∧ rgN v q m = (v k, q k)) ∨ rgN v q m = (0, 1))
  | 0, _ => ⟨Int.zero_lt_one, fun k hk => absurd hk (Nat.not_lt_zero k), Or.inr rfl⟩
  | m + 1, h => by
    obtain ⟨h1, h2, h3⟩ := rgN_max (v := v) (q := q) m (fun k hk => h k (by omega))
    have hm := h m (by omega)
    by_cases c : (rgN v q m).1 * q m < v m * (rgN v q m).2
    · simp only [rgN, if_pos c]
      refine ⟨hm, fun k hk => ?_, Or.inl ⟨m, by omega, rfl⟩⟩
      by_cases e : k = m
      · rw [e]; exact Int.le_refl _
      · exact Int.le_of_lt (frac_lt_trans (h k (by omega)) h1 hm (h2 k (by omega)) c)
    · simp only [rgN, if_neg c]
      refine ⟨h1, fun k hk => ?_, ?_⟩
      · by_cases e : k = m
        · rw [e]; omega
        · exact h2 k (by omega)
      · rcases h3 with ⟨k, hk, e⟩ | e
        · exact Or.inl ⟨k, by omega, e⟩
        · exact Or.inr e
/-- the class's regret and the reference's are one fraction -/
theorem rg_fr {σ : Sg} (hW : Wf σ) {o c : Nat} (hc : c < chn σ o) : (rg2 (chS σ o) (chR σ o) (chn σ o) c σ.p1 σ.q1 σ.p2 σ.q2).1 * (rgT σ o c).2 = (rgT σ o c).1 * (rg2 (chS σ o) (chR σ o) (chn σ o) c σ.p1 σ.q1 σ.p2 σ.q2).2 := by
  have h0 : 0 < chn σ o := by omega
  have hB := PrB_ch hW o
  have w1 := hW.w1
  have w2 := hW.w2
  have hl := npt_blL hW h0
  have hnp : npt σ o = (pts σ o).length := npt_eq h0
  have hb := rg2_b hB hc w1 w2
  have r1 := rg_b hB hc w1
  have r2 := rg_b hB hc w2
  -- the two ends are not above
  have m1 : (cst (chS σ o) (chR σ o) σ.p1 σ.q1 c - mnN (cst (chS σ o) (chR σ o) σ.p1 σ.q1) (chn σ o)) * (rg2 (chS σ o) (chR σ o) (chn σ o) c σ.p1 σ.q1 σ.p2 σ.q2).2 ≤ (rg2 (chS σ o) (chR σ o) (chn σ o) c σ.p1 σ.q1 σ.p2 σ.q2).1 * σ.q1 := by
    unfold rg2; split
    · dsimp only; omega
    · exact Int.le_refl _
  have m2 : (cst (chS σ o) (chR σ o) σ.p2 σ.q2 c - mnN (cst (chS σ o) (chR σ o) σ.p2 σ.q2) (chn σ o)) * (rg2 (chS σ o) (chR σ o) (chn σ o) c σ.p1 σ.q1 σ.p2 σ.q2).2 ≤ (rg2 (chS σ o) (chR σ o) (chn σ o) c σ.p1 σ.q1 σ.p2 σ.q2).1 * σ.q2 := by
    unfold rg2; split
    · exact Int.le_refl _
    · dsimp only; omega
  have le : ∀ k, k < npt σ o → rgV σ o c k * (rg2 (chS σ o) (chR σ o) (chn σ o) c σ.p1 σ.q1 σ.p2 σ.q2).2 ≤ (rg2 (chS σ o) (chR σ o) (chn σ o) c σ.p1 σ.q1 σ.p2 σ.q2).1 * ptQ σ o k := by
    intro k hk
    obtain ⟨g, -, -, -, hQ⟩ := pt_fr hW h0 hk
    have hi := pt_in hW h0 hk
    rcases reg_le (S := chS σ o) (R := chR σ o) (c := c) h0 hQ (show 0 < σ.q1 by omega) (show 0 < σ.q2 by omega) hi.1 hi.2 with z | z
    · exact frac_le_trans hQ (by omega) hb.2.2.1 z m1
    · exact frac_le_trans hQ (by omega) hb.2.2.1 z m2
  have hq : ∀ k, k < (pts σ o).length → 0 < ptQ σ o k := fun k hk => by
    obtain ⟨g, -, -, -, hQ⟩ := pt_fr hW h0 (k := k) (by omega); exact hQ
  obtain ⟨n1, n2, n3⟩ := rgN_max (v := rgV σ o c) (q := ptQ σ o) (pts σ o).length hq
  -- the reference's is not above
  have up : (rgT σ o c).1 * (rg2 (chS σ o) (chR σ o) (chn σ o) c σ.p1 σ.q1 σ.p2 σ.q2).2 ≤ (rg2 (chS σ o) (chR σ o) (chn σ o) c σ.p1 σ.q1 σ.p2 σ.q2).1 * (rgT σ o c).2 := by
    rcases n3 with ⟨k, hk, e⟩ | e
    · rw [show rgT σ o c = (rgV σ o c k, ptQ σ o k) from e]; exact le k (by omega)
    · rw [show rgT σ o c = (0, 1) from e]; dsimp only; omega
  -- and not below: at an end they are the same
  have dn : ∀ k p q, k < npt σ o → (pts σ o).getD k (0, 1) = (p, q) → (cst (chS σ o) (chR σ o) p q c - mnN (cst (chS σ o) (chR σ o) p q) (chn σ o)) * (rgT σ o c).2 ≤ (rgT σ o c).1 * q := by
    intro k p q hk e
    obtain ⟨g, hg, e1, e2, hQ⟩ := pt_fr hW h0 hk
    rw [e] at e1 e2
    dsimp only at e1 e2
    rw [e1, e2, reg_sc hg]
    have z := n2 k (by omega)
    have z2 : g * (rgV σ o c k * (rgT σ o c).2) ≤ g * ((rgT σ o c).1 * ptQ σ o k) := Int.mul_le_mul_of_nonneg_left z (by omega)
    have z3 : g * (cst (chS σ o) (chR σ o) (ptP σ o k) (ptQ σ o k) c - mnN (cst (chS σ o) (chR σ o) (ptP σ o k) (ptQ σ o k)) (chn σ o)) * (rgT σ o c).2 = g * (rgV σ o c k * (rgT σ o c).2) := by unfold rgV; grind
    have z4 : (rgT σ o c).1 * (g * ptQ σ o k) = g * ((rgT σ o c).1 * ptQ σ o k) := by grind
    omega
  have d1 := dn 0 σ.p1 σ.q1 (by omega) pts_0
  have d2 := dn ((blL σ o).length + 1) σ.p2 σ.q2 (by omega) (pts_z hW h0)
  refine Int.le_antisymm ?_ up
  unfold rg2; split
  · exact d2
  · exact d1
theorem rg_ok' {σ : Sg} (hW : Wf σ) {o c : Nat} (hc : c < chn σ o) (w : Bool) : low w (rg2 (chS σ o) (chR σ o) (chn σ o) c σ.p1 σ.q1 σ.p2 σ.q2).1 (rg2 (chS σ o) (chR σ o) (chn σ o) c σ.p1 σ.q1 σ.p2 σ.q2).2 = low w (rgT σ o c).1 (rgT σ o c).2 :=
  low_eq (rg2_b (PrB_ch hW o) hc hW.w1 hW.w2).2.2.1 (rgT_b hW hc).2.2.1 (rg_fr hW hc)
