/-! the class: check -/
/-- the road meets every price at which two choices that rise unlike are both least -/
theorem bl_hit {S R : Nat → Int} {n : Nat} {P2 Q2 Pp Qq : Int} (hQ : 0 < Qq) (hQ2 : 0 < Q2) (hB : PrB n S R) (hin : Pp * Q2 < P2 * Qq) {x y : Nat} (hx : x < n) (hy : y < n) (lx : ∀ j, j < n → cst S R Pp Qq x ≤ cst S R Pp Qq j) (ly : ∀ j, j < n → cst S R Pp Qq y ≤ cst S R Pp Qq j) (hR : R y < R x) :
    ∀ k u p q, 0 < q → IsB (cst S R p q) R n u → (R u + 240).toNat ≤ k → p * Qq < Pp * q → ∃ e, e ∈ bl S R n P2 Q2 k u ∧ (S e.2 - S e.1) * Qq = Pp * (R e.1 - R e.2)
  | k, u, p, q, hq, hu, hk, hp => by
    have hun := hu.1
    -- every choice least at the price rises no more than u
    have down : ∀ j, j < n → (∀ i, i < n → cst S R Pp Qq j ≤ cst S R Pp Qq i) → R j ≤ R u := by
      intro j hj hl
      refine Classical.byContradiction fun hc => ?_
      have h1 := hu.2 j hj
      have h2 := hl u hun
      have id := cst_id S R p q Pp Qq j u
      have a1 : 0 ≤ Qq * (cst S R p q j - cst S R p q u) := Int.mul_nonneg (by omega) (by omega)
      have a2 : 0 < (R j - R u) * (Pp * q - p * Qq) := Int.mul_pos (by omega) (by omega)
      have a3 := mpos hq (X := cst S R Pp Qq j - cst S R Pp Qq u) (by omega)
      omega
    have hxu := down x hx lx
    have hyu : R y < R u := by omega
    rcases nxN_is S R u n with ⟨-, e⟩ | ⟨v, hv, hn⟩
    · exact absurd hyu (e y hy)
    · have hvn := hn.1
      have hvR := hn.2.1
      have b1 := hB.2 u hun
      have b2 := hB.2 v hvn
      -- u and y meet at or before the price
      have my : (S y - S u) * Qq ≤ Pp * (R u - R y) := by
        have h := ly u hun
        have e : cst S R Pp Qq u - cst S R Pp Qq y = Pp * (R u - R y) - (S y - S u) * Qq := by unfold cst; grind
        omega
      have mv : (S v - S u) * (R u - R y) ≤ (S y - S u) * (R u - R v) := by
        have := hn.2.2 y hy hyu
        omega
      have mq : (S v - S u) * Qq ≤ Pp * (R u - R v) := frac_le_trans (b := R u - R v) (d := R u - R y) (f := Qq) (by omega) (by omega) hQ mv my
      have g : (S v - S u) * Q2 < P2 * (R u - R v) := frac_lt_trans (b := R u - R v) (d := Qq) (f := Q2) (by omega) hQ hQ2 mq hin
      obtain ⟨k2, rfl⟩ : ∃ k2, k = k2 + 1 := ⟨k - 1, by omega⟩
      rw [bl_in hv g]
      by_cases e : (S v - S u) * Qq = Pp * (R u - R v)
      · exact ⟨(u, v), List.mem_cons_self .., e⟩
      · obtain ⟨e2, h1, h2⟩ := bl_hit hQ hQ2 hB hin hx hy lx ly hR k2 v (S v - S u) (R u - R v) (by omega) (next_above hq hu hn) (by omega) (by omega)
        exact ⟨e2, List.mem_cons_of_mem _ h1, h2⟩
/-- the bends of the road grow -/
theorem bl_grow {S R : Nat → Int} {n : Nat} {P2 Q2 : Int} : ∀ k u p q, 0 < q → IsB (cst S R p q) R n u → (bl S R n P2 Q2 k u).Pairwise (fun e f => (S e.2 - S e.1) * (R f.1 - R f.2) < (S f.2 - S f.1) * (R e.1 - R e.2))
  | 0, _, _, _, _, _ => List.Pairwise.nil
  | k + 1, u, p, q, hq, hu => by
    by_cases h0 : 0 ≤ nxN S R u n
    · obtain ⟨v, hv⟩ : ∃ v : Nat, nxN S R u n = v := ⟨_, (Int.toNat_of_nonneg h0).symm⟩
      by_cases g : (S v - S u) * Q2 < P2 * (R u - R v)
      · have hn := nx_of hv
        have hR := hn.2.1
        have a1 := next_above hq hu hn
        rw [bl_in hv g]
        exact List.pairwise_cons.mpr ⟨fun f hf => (bl_path k v (S v - S u) (R u - R v) (by omega) a1 f hf).2.2.2.2, bl_grow k v (S v - S u) (R u - R v) (by omega) a1⟩
      · rw [bl_out hv g]; exact List.Pairwise.nil
    · rw [bl_no (by omega)]; exact List.Pairwise.nil
theorem gdn {l : List (Nat × Nat)} {i : Nat} (h : i < l.length) : l.getD i (0, 0) = l[i] := by simp [List.getD, h]
/-- rows that are right are bends: no more than these -/
theorem ck_le {σ : Sg} (hW : Wf σ) {o : Nat} (h : ∀ u, u < σ.nR → wrM σ o u = 0) : σ.nR ≤ npt σ o - 2 := by
  by_cases hz : σ.nR = 0
  · omega
  -- what a right row says
  have rt : ∀ u, u < σ.nR → (isP (σ.rv u 0) (σ.rv u 1) ∧ σ.p1 * σ.rv u 1 < σ.rv u 0 * σ.q1 ∧ σ.rv u 0 * σ.q2 < σ.p2 * σ.rv u 1) ∧ (0 < u → σ.rv (u - 1) 0 * σ.rv u 1 < σ.rv u 0 * σ.rv (u - 1) 1) ∧ ∃ x y, x < chn σ o ∧ y < chn σ o ∧ cst (chS σ o) (chR σ o) (σ.rv u 0) (σ.rv u 1) x = cst (chS σ o) (chR σ o) (σ.rv u 0) (σ.rv u 1) y ∧ cst (chS σ o) (chR σ o) (σ.rv u 0) (σ.rv u 1) x ≤ mnN (cst (chS σ o) (chR σ o) (σ.rv u 0) (σ.rv u 1)) (chn σ o) ∧ chR σ o y < chR σ o x := by
    intro u hu
    have w := h u hu
    unfold wrM at w
    split at w
    · omega
    · next c1 =>
      split at w
      · omega
      · next c2 =>
        split at w
        · omega
        · next c3 =>
          split at w
          · omega
          · next c4 =>
            split at w
            · omega
            · next c5 =>
              split at w
              · omega
              · next c6 =>
                split at w
                · next c7 =>
                  have p1 := plG_in (chC σ o) (chn σ o) (iI (σ.rv u 2))
                  have p2 := plG_in (chC σ o) (chn σ o) (iI (σ.rv u 3))
                  rw [plc_G] at c3 c4 c5 c6 c7
                  rw [plc_G] at c5 c7
                  refine ⟨⟨Classical.byContradiction fun z => c1 (Or.inl z), Classical.byContradiction fun z => c1 (Or.inr (Or.inr (Or.inl (by omega)))), Classical.byContradiction fun z => c1 (Or.inr (Or.inr (Or.inr (by omega))))⟩, fun h0 => Classical.byContradiction fun z => c2 ⟨h0, by omega⟩, _, _, ?_, ?_, Classical.not_not.mp c5, Int.not_lt.mp c6, c7⟩
                  · omega
                  · omega
                · omega
  have h0 : 0 < chn σ o := by
    obtain ⟨-, -, x, y, hx, -⟩ := rt 0 (by omega)
    omega
  have hl := npt_blL hW h0
  have w1 := hW.w1
  have w2 := hW.w2
  have hB := PrB_ch hW o
  have hI := bst_is (cst (chS σ o) (chR σ o) σ.p1 σ.q1) (chR σ o) (chn σ o) h0
  have hgr := bl_grow (P2 := σ.p2) (Q2 := σ.q2) 500 _ σ.p1 σ.q1 (by omega) hI
  have hpt := bl_path (P2 := σ.p2) (Q2 := σ.q2) 500 _ σ.p1 σ.q1 (by omega) hI
  have hht := fun u (hu : u < σ.nR) x y hx hy lx ly hR => bl_hit (S := chS σ o) (R := chR σ o) (n := chn σ o) (P2 := σ.p2) (Q2 := σ.q2) (Pp := σ.rv u 0) (Qq := σ.rv u 1) (by have := (rt u hu).1.1; omega) (by omega) hB (rt u hu).1.2.2 (x := x) (y := y) hx hy lx ly hR 500 _ σ.p1 σ.q1 (by omega) hI (by have := hB.2 _ hI.1; omega) (rt u hu).1.2.1
  rw [← blL_500 hW h0] at hgr hpt hht
  have at_ : ∀ u, u < σ.nR → ∃ i, i < (blL σ o).length ∧ (chS σ o ((blL σ o).getD i (0, 0)).2 - chS σ o ((blL σ o).getD i (0, 0)).1) * σ.rv u 1 = σ.rv u 0 * (chR σ o ((blL σ o).getD i (0, 0)).1 - chR σ o ((blL σ o).getD i (0, 0)).2) := by
    intro u hu
    obtain ⟨-, -, x, y, hx, hy, e1, e2, e3⟩ := rt u hu
    have lx : ∀ j, j < chn σ o → cst (chS σ o) (chR σ o) (σ.rv u 0) (σ.rv u 1) x ≤ cst (chS σ o) (chR σ o) (σ.rv u 0) (σ.rv u 1) j := fun j hj => Int.le_trans e2 (mnN_le _ _ j hj)
    obtain ⟨e, he, ee⟩ := hht u hu x y hx hy lx (fun j hj => by rw [← e1]; exact lx j hj) e3
    obtain ⟨i, hi, rfl⟩ := List.mem_iff_getElem.mp he
    exact ⟨i, hi, by rw [gdn hi]; exact ee⟩
  have key2 : ∀ u, u < σ.nR → ∃ i, u ≤ i ∧ i < (blL σ o).length ∧ (chS σ o ((blL σ o).getD i (0, 0)).2 - chS σ o ((blL σ o).getD i (0, 0)).1) * σ.rv u 1 = σ.rv u 0 * (chR σ o ((blL σ o).getD i (0, 0)).1 - chR σ o ((blL σ o).getD i (0, 0)).2) := by
    intro u
    induction u with
    | zero =>
      intro hu
      obtain ⟨i, h1, h2⟩ := at_ 0 hu
      exact ⟨i, Nat.zero_le _, h1, h2⟩
    | succ u ih =>
      intro hu
      obtain ⟨i, i1, i2, i3⟩ := ih (by omega)
      obtain ⟨k, k1, k2⟩ := at_ (u + 1) hu
      refine ⟨k, ?_, k1, k2⟩
      have hlt := (rt (u + 1) hu).2.1 (by omega)
      rw [Nat.add_sub_cancel] at hlt
      have q1 := (rt u (by omega)).1.1
      have q2 := (rt (u + 1) hu).1.1
      have r1 := (hpt ((blL σ o).getD i (0, 0)) (by rw [gdn i2]; exact List.getElem_mem i2)).2.2.1
      have r2 := (hpt ((blL σ o).getD k (0, 0)) (by rw [gdn k1]; exact List.getElem_mem k1)).2.2.1
      have gr : (chS σ o ((blL σ o).getD i (0, 0)).2 - chS σ o ((blL σ o).getD i (0, 0)).1) * (chR σ o ((blL σ o).getD k (0, 0)).1 - chR σ o ((blL σ o).getD k (0, 0)).2) < (chS σ o ((blL σ o).getD k (0, 0)).2 - chS σ o ((blL σ o).getD k (0, 0)).1) * (chR σ o ((blL σ o).getD i (0, 0)).1 - chR σ o ((blL σ o).getD i (0, 0)).2) := by
        have s1 := frac_lt_trans (b := chR σ o ((blL σ o).getD i (0, 0)).1 - chR σ o ((blL σ o).getD i (0, 0)).2) (d := σ.rv u 1) (f := σ.rv (u + 1) 1) (by omega) (by omega) (by omega) (Int.le_of_eq i3) hlt
        exact frac_lt_trans' (d := σ.rv (u + 1) 1) (by omega) (by omega) (by omega) s1 (Int.le_of_eq k2.symm)
      refine Classical.byContradiction fun hc => ?_
      rcases Nat.lt_trichotomy k i with z | z | z
      · have g2 := List.pairwise_iff_getElem.mp hgr k i k1 i2 z
        rw [← gdn i2, ← gdn k1] at g2
        omega
      · rw [z] at gr; omega
      · omega
  obtain ⟨i, i1, i2, -⟩ := key2 (σ.nR - 1) (by omega)
  omega
theorem abs_lN {z : Int} (h : -1000000 ≤ z ∧ z ≤ 1000000) : (if 0 ≤ iI z then iI z else 0 - iI z).toInt64 = lN z.natAbs := by
  rw [show (0 : Int32) = iI 0 from rfl]
  by_cases c : 0 ≤ z
  · rw [if_pos ((iI_le (by omega) (by omega) (by omega) (by omega)).mpr c), iI_l (by omega) (by omega), lN_lI]
    congr 1; omega
  · rw [if_neg (fun y => c ((iI_le (by omega) (by omega) (by omega) (by omega)).mp y)), iI_sub, iI_l (by omega) (by omega), lN_lI]
    congr 1; omega
theorem gcd_lI {p q : Int} (hq : 1 ≤ q ∧ q ≤ 1000) : lN (if Nat.gcd p.natAbs q.natAbs = 0 then 1 else Nat.gcd p.natAbs q.natAbs) = lI (Int.gcd p q : Nat) ∧ Int.gcd p q ≤ 1000 := by
  have h1 : 0 < Nat.gcd p.natAbs q.natAbs := Nat.gcd_pos_of_pos_right _ (by omega)
  rw [if_neg (by omega), lN_lI]
  exact ⟨rfl, Nat.le_trans (Nat.gcd_le_right _ (by omega)) (by omega)⟩
set_option maxHeartbeats 2000000 in
theorem c_X11_howWrong {B : ev_B} {d i t a0 w0 j : Nat} {X : Nat → Prop} {h : ev_H} {A : Nat → Nat} {C : Nat → Option ev_E} {σ : Sg} {ns ws : Nat} {cp ln : Nat → Nat} {lr : Nat} (pS : PS X w0 h A C σ ns ws cp ln lr j) (ha : A 0 = a0) (hW : Wf σ) {cap len : Nat} (on : OfN A C σ ns ws i cap len) (ht : t < σ.nR) (hd : 4 ≤ d) :
    Wp B d M_X11_howWrong 0 [some (.ref a0), some (.ref (A (tO i + 1))), some (.int (nI t)), none, none, none, none, none, none] [] h (fun v h' => v = some (.int (nI (wrM σ i t))) ∧ h' = h) := by
  have hB := PrB_ch hW i
  have hH := on.H pS.S
  have hRw := pS.row.1.H pS.S
  have hnR := hW.nR
  have hn4 := chn_le σ i
  have htO : tO i = 30 + 10 * i := rfl
  have w1 := hW.w1
  have w2 := hW.w2
  have v0_ := hW.rv t 0 ht (by decide)
  have v1_ := hW.rv t 1 ht (by decide)
  have t0 : (iI (σ.rv t 0)).toInt = σ.rv t 0 := iI_toInt (by omega) (by omega)
  have t1 : (iI (σ.rv t 1)).toInt = σ.rv t 1 := iI_toInt (by omega) (by omega)
  obtain ⟨Vb, hVb, b0, b1, b2, b3, b4, b5, b6, b7⟩ := id pS.ben
  obtain ⟨Vw, hVw, -⟩ := id pS.win
  obtain ⟨Vq, gq, hVq, rq0, rq1, hgq, rq2, rq3⟩ := id pS.row.1
  obtain ⟨Vo, bso, nbo, rbo, hVo, hOV, vo4, vo5, hch, -⟩ := id on
  obtain ⟨Vc, gc0, gc1, gc2, hVc, vc0, vc1, vc2, vc3, kc0, kc1, kc2, hlc, h8c, hgc⟩ := id hch
  change chn σ i ≤ cap at hlc
  refine Wp.aload_n dX11_howWrong_0 rfl (by first | exact Or.inr ⟨_, rfl⟩ | exact Or.inl rfl) rfl ?_
  refine Wp.get dX11_howWrong_1 fl_X11_32 (pS.S.at' hVb ha) b4 rfl ?_
  refine Wp.iload_n dX11_howWrong_4 rfl rfl ?_
  refine Wp.iconst (v := (nI 0)) dX11_howWrong_5 (by decide) rfl ?_
  refine Wp.cV dX11_howWrong_6 cv_X11_248 rfl (by omega) rfl (Nat.le_of_ble_eq_true rfl) (Nat.le_of_ble_eq_true rfl) (pS.S.at hVq) rfl (c_X5_number (d := d - 1) (i := t) (w := 0) hRw (by omega) (by omega) (by decide) (by omega)) ?_
  rintro _ h_ ⟨rfl, e_⟩
  rw [e_]
  clear e_ h_
  dsimp only [Option.toList, List.drop, List.cons_append, List.nil_append]
  refine Wp.istore_n dX11_howWrong_9 (Nat.le_of_ble_eq_true rfl) (by dsimp only [ev_st1, ev_st2, ev_cl] <;> rfl) rfl ?_
  refine Wp.aload_n dX11_howWrong_10 rfl (by first | exact Or.inr ⟨_, rfl⟩ | exact Or.inl rfl) rfl ?_
  refine Wp.get dX11_howWrong_11 fl_X11_32 (pS.S.at' hVb ha) b4 rfl ?_
  refine Wp.iload_n dX11_howWrong_14 rfl rfl ?_
  refine Wp.iconst (v := (nI 1)) dX11_howWrong_15 (by decide) rfl ?_
  refine Wp.cV dX11_howWrong_16 cv_X11_248 rfl (by omega) rfl (Nat.le_of_ble_eq_true rfl) (Nat.le_of_ble_eq_true rfl) (pS.S.at hVq) rfl (c_X5_number (d := d - 1) (i := t) (w := 1) hRw (by omega) (by omega) (by decide) (by omega)) ?_
  rintro _ h_ ⟨rfl, e_⟩
  rw [e_]
  clear e_ h_
  dsimp only [Option.toList, List.drop, List.cons_append, List.nil_append]
  refine Wp.istore dX11_howWrong_19 (Nat.le_of_ble_eq_true rfl) (by dsimp only [ev_st1, ev_st2, ev_cl] <;> rfl) rfl ?_
  refine Wp.iload_n dX11_howWrong_21 rfl rfl ?_
  refine Wp.iload dX11_howWrong_22 rfl rfl ?_
  refine Wp.cS dX11_howWrong_24 cs_X11_174 rfl (by omega) rfl (Nat.le_of_ble_eq_true rfl) (Nat.le_of_ble_eq_true rfl) rfl (c_X11_isPrice (d := d - 1)) ?_
  rintro _ h_ ⟨rfl, e_⟩
  rw [e_]
  clear e_ h_
  dsimp only [Option.toList, List.drop, List.cons_append, List.nil_append]
  rw [t0, t1]
  refine Wp.bif_eq (tgt := 59) (n := 30) dX11_howWrong_27 (by decide) rfl (fun c_27 => ?_) (fun c_27 => ?_)
  · try simp only [decide_eq_true_eq, decide_eq_false_iff_not, Bool.and_eq_true, bI_0, bI_n0] at c_27
    refine Wp.iconst (v := (nI 1)) dX11_howWrong_59 (by decide) rfl ?_
    exact Wp.iret dX11_howWrong_60 rfl (by rw [wrM, if_pos (by first | (left; omega) | (right; left; omega) | (right; right; omega))]; exact ⟨rfl, rfl⟩)
  · try simp only [decide_eq_true_eq, decide_eq_false_iff_not, Bool.and_eq_true, bI_0, bI_n0] at c_27
    refine Wp.iload_n dX11_howWrong_30 rfl rfl ?_
    refine Wp.mabs dX11_howWrong_31 jl_X11_298 (by omega) (Nat.le_of_ble_eq_true rfl) rfl ?_
    refine Wp.i2l dX11_howWrong_34 rfl ?_
    rw [abs_lN v0_]
    refine Wp.iload dX11_howWrong_35 rfl rfl ?_
    refine Wp.i2l dX11_howWrong_37 rfl ?_
    rw [iI_l (by omega) (by omega), show lI (σ.rv t 1) = lN (σ.rv t 1).natAbs by rw [lN_lI]; congr 1; omega]
    obtain ⟨g1, g2⟩ := gcd_lI (p := σ.rv t 0) (q := σ.rv t 1) (by omega)
    refine Wp.cS dX11_howWrong_38 cs_X11_274 rfl (by omega) rfl (Nat.le_of_ble_eq_true rfl) (Nat.le_of_ble_eq_true rfl) rfl (c_X11_commonOf (d := d - 1) (u := (σ.rv t 0).natAbs) (w := (σ.rv t 1).natAbs) (by omega) (by omega)) ?_
    rintro _ h_ ⟨rfl, e_⟩
    rw [e_]
    clear e_ h_
    dsimp only [Option.toList, List.drop, List.cons_append, List.nil_append]
    rw [g1]
    refine Wp.lconst (v := 1) dX11_howWrong_41 (by decide) rfl ?_
    rw [show (1 : Int64) = lI 1 from rfl]
    refine Wp.lcmp_ne (tgt := 59) (n := 46) dX11_howWrong_42 rfl dX11_howWrong_43 (by decide) rfl (fun c_42 => ?_) (fun c_42 => ?_)
    · try simp (disch := omega) only [nI_bit0, nI_bit1, Bool.not_eq_false, Bool.not_eq_true] at c_42
      try simp (disch := omega) only [i_lt, i_le, i_eq, l_lt, l_le, l_eq, i_0, i_m1, l_0, nI_tI, iI_tI, lI_tI, Int.not_lt, Int.not_le] at c_42
      refine Wp.iconst (v := (nI 1)) dX11_howWrong_59 (by decide) rfl ?_
      exact Wp.iret dX11_howWrong_60 rfl (by rw [wrM, if_pos (by first | (left; omega) | (right; left; omega) | (right; right; omega))]; exact ⟨rfl, rfl⟩)
    · try simp (disch := omega) only [nI_bit0, nI_bit1, Bool.not_eq_false, Bool.not_eq_true] at c_42
      try simp (disch := omega) only [i_lt, i_le, i_eq, l_lt, l_le, l_eq, i_0, i_m1, l_0, nI_tI, iI_tI, lI_tI, Int.not_lt, Int.not_le] at c_42
      refine Wp.aload_n dX11_howWrong_46 rfl (by first | exact Or.inr ⟨_, rfl⟩ | exact Or.inl rfl) rfl ?_
      refine Wp.get dX11_howWrong_47 fl_X11_25 (pS.S.at' hVb ha) b3 rfl ?_
      refine Wp.iload_n dX11_howWrong_50 rfl rfl ?_
      refine Wp.iload dX11_howWrong_51 rfl rfl ?_
      refine Wp.cV dX11_howWrong_53 cv_X11_300 rfl (by omega) rfl (Nat.le_of_ble_eq_true rfl) (Nat.le_of_ble_eq_true rfl) (pS.S.at hVw) rfl (c_X10_holdsInside (d := d - 1) (pS.win.H pS.S) hW.w1 hW.w2 (by omega) (by omega) (by omega)) ?_
      rintro _ h_ ⟨rfl, e_⟩
      rw [e_]
      clear e_ h_
      dsimp only [Option.toList, List.drop, List.cons_append, List.nil_append]
      rw [t0, t1]
      refine Wp.bif_ne (tgt := 61) (n := 59) dX11_howWrong_56 (by decide) rfl (fun c_56 => ?_) (fun c_56 => ?_)
      · try simp only [decide_eq_true_eq, decide_eq_false_iff_not, Bool.and_eq_true, bI_0, bI_n0] at c_56
        have hok : ¬ (¬ isP (σ.rv t 0) (σ.rv t 1) ∨ Int.gcd (σ.rv t 0) (σ.rv t 1) ≠ 1 ∨ σ.rv t 0 * σ.q1 ≤ σ.p1 * σ.rv t 1 ∨ σ.p2 * σ.rv t 1 ≤ σ.rv t 0 * σ.q2) := by omega
        have hpq : pqB (σ.rv t 0) (σ.rv t 1) := ⟨by omega, by omega, by omega, by omega⟩
        refine Wp.iload_n dX11_howWrong_61 rfl rfl ?_
        refine Wp.if_le (tgt := 102) (n := 65) dX11_howWrong_62 (by decide) rfl (fun c_62 => ?_) (fun c_62 => ?_)
        · try simp (disch := omega) only [nI_bit0, nI_bit1, Bool.not_eq_false, Bool.not_eq_true] at c_62
          try simp (disch := omega) only [i_lt, i_le, i_eq, l_lt, l_le, l_eq, i_0, i_m1, l_0, nI_tI, iI_tI, lI_tI, Int.not_lt, Int.not_le] at c_62
          have hc2 : ¬ (0 < t ∧ σ.rv t 0 * σ.rv (t - 1) 1 ≤ σ.rv (t - 1) 0 * σ.rv t 1) := by omega
          refine Wp.aload_n dX11_howWrong_102 rfl (by first | exact Or.inr ⟨_, rfl⟩ | exact Or.inl rfl) rfl ?_
          refine Wp.aload_n dX11_howWrong_103 rfl (by first | exact Or.inr ⟨_, rfl⟩ | exact Or.inl rfl) rfl ?_
          refine Wp.get dX11_howWrong_104 fl_X11_32 (pS.S.at' hVb ha) b4 rfl ?_
          refine Wp.iload_n dX11_howWrong_107 rfl rfl ?_
          refine Wp.iconst (v := (nI 2)) dX11_howWrong_108 (by decide) rfl ?_
          refine Wp.cV dX11_howWrong_109 cv_X11_248 rfl (by omega) rfl (Nat.le_of_ble_eq_true rfl) (Nat.le_of_ble_eq_true rfl) (pS.S.at hVq) rfl (c_X5_number (d := d - 1) (i := t) (w := 2) hRw (by omega) (by omega) (by decide) (by omega)) ?_
          rintro _ h_ ⟨rfl, e_⟩
          rw [e_]
          clear e_ h_
          dsimp only [Option.toList, List.drop, List.cons_append, List.nil_append]
          refine Wp.cV dX11_howWrong_112 cv_X11_168 rfl (by omega) rfl (Nat.le_of_ble_eq_true rfl) (Nat.le_of_ble_eq_true rfl) (pS.S.at hVc) rfl (c_X1_placeOf (d := d - 1) hH hB (fun j _ => chC_lt σ i j)) ?_
          rintro _ h_ ⟨rfl, e_⟩
          rw [e_]
          clear e_ h_
          dsimp only [Option.toList, List.drop, List.cons_append, List.nil_append]
          have hp1 := plG_in (chC σ i) (chn σ i) (iI (σ.rv t 2))
          refine Wp.istore dX11_howWrong_115 (Nat.le_of_ble_eq_true rfl) (by dsimp only [ev_st1, ev_st2, ev_cl] <;> rfl) rfl ?_
          refine Wp.iload dX11_howWrong_117 rfl rfl ?_
          refine Wp.if_ge (tgt := 124) (n := 122) dX11_howWrong_119 (by decide) rfl (fun c_119 => ?_) (fun c_119 => ?_)
          · try simp (disch := omega) only [nI_bit0, nI_bit1, Bool.not_eq_false, Bool.not_eq_true] at c_119
            try simp (disch := omega) only [i_lt, i_le, i_eq, l_lt, l_le, l_eq, i_0, i_m1, l_0, nI_tI, iI_tI, lI_tI, Int.not_lt, Int.not_le] at c_119
            have h3 : ¬ plc σ i (iI (σ.rv t 2)) = -1 := by rw [plc_G]; omega
            obtain ⟨x, hx⟩ : ∃ x : Nat, plG (chC σ i) (chn σ i) (iI (σ.rv t 2)) = x := ⟨_, (Int.toNat_of_nonneg (by omega)).symm⟩
            have e1 : (plc σ i (iI (σ.rv t 2))).toNat = x := by rw [plc_G, hx]; exact Int.toNat_natCast x
            rw [hx, ← nI_iI]
            have hxl : x < chn σ i := by omega
            refine Wp.aload_n dX11_howWrong_124 rfl (by first | exact Or.inr ⟨_, rfl⟩ | exact Or.inl rfl) rfl ?_
            refine Wp.aload_n dX11_howWrong_125 rfl (by first | exact Or.inr ⟨_, rfl⟩ | exact Or.inl rfl) rfl ?_
            refine Wp.get dX11_howWrong_126 fl_X11_32 (pS.S.at' hVb ha) b4 rfl ?_
            refine Wp.iload_n dX11_howWrong_129 rfl rfl ?_
            refine Wp.iconst (v := (nI 3)) dX11_howWrong_130 (by decide) rfl ?_
            refine Wp.cV dX11_howWrong_131 cv_X11_248 rfl (by omega) rfl (Nat.le_of_ble_eq_true rfl) (Nat.le_of_ble_eq_true rfl) (pS.S.at hVq) rfl (c_X5_number (d := d - 1) (i := t) (w := 3) hRw (by omega) (by omega) (by decide) (by omega)) ?_
            rintro _ h_ ⟨rfl, e_⟩
            rw [e_]
            clear e_ h_
            dsimp only [Option.toList, List.drop, List.cons_append, List.nil_append]
            refine Wp.cV dX11_howWrong_134 cv_X11_168 rfl (by omega) rfl (Nat.le_of_ble_eq_true rfl) (Nat.le_of_ble_eq_true rfl) (pS.S.at hVc) rfl (c_X1_placeOf (d := d - 1) hH hB (fun j _ => chC_lt σ i j)) ?_
            rintro _ h_ ⟨rfl, e_⟩
            rw [e_]
            clear e_ h_
            dsimp only [Option.toList, List.drop, List.cons_append, List.nil_append]
            have hp2 := plG_in (chC σ i) (chn σ i) (iI (σ.rv t 3))
            refine Wp.istore dX11_howWrong_137 (Nat.le_of_ble_eq_true rfl) (by dsimp only [ev_st1, ev_st2, ev_cl] <;> rfl) rfl ?_
            refine Wp.iload dX11_howWrong_139 rfl rfl ?_
            refine Wp.if_ge (tgt := 146) (n := 144) dX11_howWrong_141 (by decide) rfl (fun c_141 => ?_) (fun c_141 => ?_)
            · try simp (disch := omega) only [nI_bit0, nI_bit1, Bool.not_eq_false, Bool.not_eq_true] at c_141
              try simp (disch := omega) only [i_lt, i_le, i_eq, l_lt, l_le, l_eq, i_0, i_m1, l_0, nI_tI, iI_tI, lI_tI, Int.not_lt, Int.not_le] at c_141
              have h4 : ¬ plc σ i (iI (σ.rv t 3)) = -1 := by rw [plc_G]; omega
              obtain ⟨y, hy⟩ : ∃ y : Nat, plG (chC σ i) (chn σ i) (iI (σ.rv t 3)) = y := ⟨_, (Int.toNat_of_nonneg (by omega)).symm⟩
              have e2 : (plc σ i (iI (σ.rv t 3))).toNat = y := by rw [plc_G, hy]; exact Int.toNat_natCast y
              rw [hy, ← nI_iI]
              have hyl : y < chn σ i := by omega
              have k1 := cst_b hB hxl hpq
              have k2 := cst_b hB hyl hpq
              have k3 := mnN_b hB (Nat.le_refl _) (by omega) hpq
              refine Wp.aload_n dX11_howWrong_146 rfl (by first | exact Or.inr ⟨_, rfl⟩ | exact Or.inl rfl) rfl ?_
              refine Wp.iload dX11_howWrong_147 rfl rfl ?_
              refine Wp.iload_n dX11_howWrong_149 rfl rfl ?_
              refine Wp.iload dX11_howWrong_150 rfl rfl ?_
              refine Wp.cV dX11_howWrong_152 cv_X11_303 rfl (by omega) rfl (Nat.le_of_ble_eq_true rfl) (Nat.le_of_ble_eq_true rfl) (pS.S.at hVc) rfl (c_X1_costAt (d := d - 1) hH hB t0 t1 hpq hxl) ?_
              rintro _ h_ ⟨rfl, e_⟩
              rw [e_]
              clear e_ h_
              dsimp only [Option.toList, List.drop, List.cons_append, List.nil_append]
              refine Wp.lstore dX11_howWrong_155 (Nat.le_of_ble_eq_true rfl) (by dsimp only [ev_st1, ev_st2, ev_cl] <;> rfl) rfl ?_
              refine Wp.lload dX11_howWrong_157 rfl rfl ?_
              refine Wp.aload_n dX11_howWrong_159 rfl (by first | exact Or.inr ⟨_, rfl⟩ | exact Or.inl rfl) rfl ?_
              refine Wp.iload dX11_howWrong_160 rfl rfl ?_
              refine Wp.iload_n dX11_howWrong_162 rfl rfl ?_
              refine Wp.iload dX11_howWrong_163 rfl rfl ?_
              refine Wp.cV dX11_howWrong_165 cv_X11_303 rfl (by omega) rfl (Nat.le_of_ble_eq_true rfl) (Nat.le_of_ble_eq_true rfl) (pS.S.at hVc) rfl (c_X1_costAt (d := d - 1) hH hB t0 t1 hpq hyl) ?_
              rintro _ h_ ⟨rfl, e_⟩
              rw [e_]
              clear e_ h_
              dsimp only [Option.toList, List.drop, List.cons_append, List.nil_append]
              refine Wp.lcmp_eq (tgt := 174) (n := 172) dX11_howWrong_168 rfl dX11_howWrong_169 (by decide) rfl (fun c_168 => ?_) (fun c_168 => ?_)
              · try simp (disch := omega) only [nI_bit0, nI_bit1, Bool.not_eq_false, Bool.not_eq_true] at c_168
                try simp (disch := omega) only [i_lt, i_le, i_eq, l_lt, l_le, l_eq, i_0, i_m1, l_0, nI_tI, iI_tI, lI_tI, Int.not_lt, Int.not_le] at c_168
                refine Wp.aload_n dX11_howWrong_174 rfl (by first | exact Or.inr ⟨_, rfl⟩ | exact Or.inl rfl) rfl ?_
                refine Wp.iload_n dX11_howWrong_175 rfl rfl ?_
                refine Wp.iload dX11_howWrong_176 rfl rfl ?_
                refine Wp.cV dX11_howWrong_178 cv_X11_200 rfl (by omega) rfl (Nat.le_of_ble_eq_true rfl) (Nat.le_of_ble_eq_true rfl) (pS.S.at hVc) rfl (c_X1_leastAt (d := d - 1) hH hB t0 t1 hpq (by omega)) ?_
                rintro _ h_ ⟨rfl, e_⟩
                rw [e_]
                clear e_ h_
                dsimp only [Option.toList, List.drop, List.cons_append, List.nil_append]
                rw [show mnI (cst (chS σ i) (chR σ i) (σ.rv t 0) (σ.rv t 1)) (chn σ i) = mnN (cst (chS σ i) (chR σ i) (σ.rv t 0) (σ.rv t 1)) (chn σ i) by rw [mnI, if_neg (by omega)]]
                refine Wp.lload dX11_howWrong_181 rfl rfl ?_
                refine Wp.lcmp_ge (tgt := 190) (n := 187) dX11_howWrong_183 rfl dX11_howWrong_184 (by decide) rfl (fun c_183 => ?_) (fun c_183 => ?_)
                · try simp (disch := omega) only [nI_bit0, nI_bit1, Bool.not_eq_false, Bool.not_eq_true] at c_183
                  try simp (disch := omega) only [i_lt, i_le, i_eq, l_lt, l_le, l_eq, i_0, i_m1, l_0, nI_tI, iI_tI, lI_tI, Int.not_lt, Int.not_le] at c_183
                  refine Wp.aload_n dX11_howWrong_190 rfl (by first | exact Or.inr ⟨_, rfl⟩ | exact Or.inl rfl) rfl ?_
                  refine Wp.get dX11_howWrong_191 fl_X11_230 (pS.S.at hVc) vc2 rfl ?_
                  refine Wp.iload dX11_howWrong_194 rfl rfl ?_
                  refine Wp.iaload dX11_howWrong_196 (pS.S.at kc2) (nI_toInt (by omega)) (by omega) rfl ?_
                  rw [(hgc x hxl).2.2]
                  refine Wp.aload_n dX11_howWrong_197 rfl (by first | exact Or.inr ⟨_, rfl⟩ | exact Or.inl rfl) rfl ?_
                  refine Wp.get dX11_howWrong_198 fl_X11_230 (pS.S.at hVc) vc2 rfl ?_
                  refine Wp.iload dX11_howWrong_201 rfl rfl ?_
                  refine Wp.iaload dX11_howWrong_203 (pS.S.at kc2) (nI_toInt (by omega)) (by omega) rfl ?_
                  rw [(hgc y hyl).2.2, show sumS σ.N.ri ((chL σ.N (σ.O i)).getD x 0) σ.N.L = chR σ i x from rfl, show sumS σ.N.ri ((chL σ.N (σ.O i)).getD y 0) σ.N.L = chR σ i y from rfl]
                  have k5 := hB.2 x hxl
                  have k6 := hB.2 y hyl
                  refine Wp.icmp_le (tgt := 211) (n := 207) dX11_howWrong_204 (by decide) rfl (fun c_204 => ?_) (fun c_204 => ?_)
                  · try simp (disch := omega) only [nI_bit0, nI_bit1, Bool.not_eq_false, Bool.not_eq_true] at c_204
                    try simp (disch := omega) only [i_lt, i_le, i_eq, l_lt, l_le, l_eq, i_0, i_m1, l_0, nI_tI, iI_tI, lI_tI, Int.not_lt, Int.not_le] at c_204
                    refine Wp.bipush (v := (nI 7)) dX11_howWrong_211 (by decide) rfl ?_
                    exact Wp.iret dX11_howWrong_213 rfl (by rw [wrM, if_neg hok, if_neg hc2, if_neg h3, if_neg h4, e1, e2, if_neg (by omega), if_neg (by omega), if_neg (by omega)]; exact ⟨rfl, rfl⟩)
                  · try simp (disch := omega) only [nI_bit0, nI_bit1, Bool.not_eq_false, Bool.not_eq_true] at c_204
                    try simp (disch := omega) only [i_lt, i_le, i_eq, l_lt, l_le, l_eq, i_0, i_m1, l_0, nI_tI, iI_tI, lI_tI, Int.not_lt, Int.not_le] at c_204
                    refine Wp.iconst (v := (nI 0)) dX11_howWrong_207 (by decide) rfl ?_
                    refine Wp.goto (n := 213) dX11_howWrong_208 (by decide) ?_
                    exact Wp.iret dX11_howWrong_213 rfl (by rw [wrM, if_neg hok, if_neg hc2, if_neg h3, if_neg h4, e1, e2, if_neg (by omega), if_neg (by omega), if_pos (by omega)]; exact ⟨rfl, rfl⟩)
                · try simp (disch := omega) only [nI_bit0, nI_bit1, Bool.not_eq_false, Bool.not_eq_true] at c_183
                  try simp (disch := omega) only [i_lt, i_le, i_eq, l_lt, l_le, l_eq, i_0, i_m1, l_0, nI_tI, iI_tI, lI_tI, Int.not_lt, Int.not_le] at c_183
                  refine Wp.bipush (v := (nI 6)) dX11_howWrong_187 (by decide) rfl ?_
                  exact Wp.iret dX11_howWrong_189 rfl (by rw [wrM, if_neg hok, if_neg hc2, if_neg h3, if_neg h4, e1, e2, if_neg (by omega), if_pos (by omega)]; exact ⟨rfl, rfl⟩)
              · try simp (disch := omega) only [nI_bit0, nI_bit1, Bool.not_eq_false, Bool.not_eq_true] at c_168
                try simp (disch := omega) only [i_lt, i_le, i_eq, l_lt, l_le, l_eq, i_0, i_m1, l_0, nI_tI, iI_tI, lI_tI, Int.not_lt, Int.not_le] at c_168
                refine Wp.iconst (v := (nI 5)) dX11_howWrong_172 (by decide) rfl ?_
                exact Wp.iret dX11_howWrong_173 rfl (by rw [wrM, if_neg hok, if_neg hc2, if_neg h3, if_neg h4, e1, e2, if_pos (by omega)]; exact ⟨rfl, rfl⟩)
            · try simp (disch := omega) only [nI_bit0, nI_bit1, Bool.not_eq_false, Bool.not_eq_true] at c_141
              try simp (disch := omega) only [i_lt, i_le, i_eq, l_lt, l_le, l_eq, i_0, i_m1, l_0, nI_tI, iI_tI, lI_tI, Int.not_lt, Int.not_le] at c_141
              refine Wp.iconst (v := (nI 4)) dX11_howWrong_144 (by decide) rfl ?_
              exact Wp.iret dX11_howWrong_145 rfl (by rw [wrM, if_neg hok, if_neg hc2, if_neg h3, if_pos (by rw [plc_G]; omega)]; exact ⟨rfl, rfl⟩)
          · try simp (disch := omega) only [nI_bit0, nI_bit1, Bool.not_eq_false, Bool.not_eq_true] at c_119
            try simp (disch := omega) only [i_lt, i_le, i_eq, l_lt, l_le, l_eq, i_0, i_m1, l_0, nI_tI, iI_tI, lI_tI, Int.not_lt, Int.not_le] at c_119
            refine Wp.iconst (v := (nI 3)) dX11_howWrong_122 (by decide) rfl ?_
            exact Wp.iret dX11_howWrong_123 rfl (by rw [wrM, if_neg hok, if_neg hc2, if_pos (by rw [plc_G]; omega)]; exact ⟨rfl, rfl⟩)
        · try simp (disch := omega) only [nI_bit0, nI_bit1, Bool.not_eq_false, Bool.not_eq_true] at c_62
          try simp (disch := omega) only [i_lt, i_le, i_eq, l_lt, l_le, l_eq, i_0, i_m1, l_0, nI_tI, iI_tI, lI_tI, Int.not_lt, Int.not_le] at c_62
          have v4_ := hW.rv (t - 1) 0 (by omega) (by decide)
          have v5_ := hW.rv (t - 1) 1 (by omega) (by decide)
          refine Wp.aload_n dX11_howWrong_65 rfl (by first | exact Or.inr ⟨_, rfl⟩ | exact Or.inl rfl) rfl ?_
          have v4_ := hW.rv (t - 1) 0 (by omega) (by decide)
          have v5_ := hW.rv (t - 1) 1 (by omega) (by decide)
          refine Wp.get dX11_howWrong_66 fl_X11_32 (pS.S.at' hVb ha) b4 rfl ?_
          refine Wp.iload_n dX11_howWrong_69 rfl rfl ?_
          refine Wp.iconst (v := (nI 1)) dX11_howWrong_70 (by decide) rfl ?_
          refine Wp.isub dX11_howWrong_71 rfl ?_
          rw [pk_sub (by omega)]
          refine Wp.iconst (v := (nI 0)) dX11_howWrong_72 (by decide) rfl ?_
          refine Wp.cV dX11_howWrong_73 cv_X11_248 rfl (by omega) rfl (Nat.le_of_ble_eq_true rfl) (Nat.le_of_ble_eq_true rfl) (pS.S.at hVq) rfl (c_X5_number (d := d - 1) (i := t - 1) (w := 0) hRw (by omega) (by omega) (by decide) (by omega)) ?_
          rintro _ h_ ⟨rfl, e_⟩
          rw [e_]
          clear e_ h_
          dsimp only [Option.toList, List.drop, List.cons_append, List.nil_append]
          refine Wp.i2l dX11_howWrong_76 rfl ?_
          rw [iI_l (by omega) (by omega)]
          refine Wp.aload_n dX11_howWrong_77 rfl (by first | exact Or.inr ⟨_, rfl⟩ | exact Or.inl rfl) rfl ?_
          refine Wp.get dX11_howWrong_78 fl_X11_32 (pS.S.at' hVb ha) b4 rfl ?_
          refine Wp.iload_n dX11_howWrong_81 rfl rfl ?_
          refine Wp.iconst (v := (nI 1)) dX11_howWrong_82 (by decide) rfl ?_
          refine Wp.isub dX11_howWrong_83 rfl ?_
          rw [pk_sub (by omega)]
          refine Wp.iconst (v := (nI 1)) dX11_howWrong_84 (by decide) rfl ?_
          refine Wp.cV dX11_howWrong_85 cv_X11_248 rfl (by omega) rfl (Nat.le_of_ble_eq_true rfl) (Nat.le_of_ble_eq_true rfl) (pS.S.at hVq) rfl (c_X5_number (d := d - 1) (i := t - 1) (w := 1) hRw (by omega) (by omega) (by decide) (by omega)) ?_
          rintro _ h_ ⟨rfl, e_⟩
          rw [e_]
          clear e_ h_
          dsimp only [Option.toList, List.drop, List.cons_append, List.nil_append]
          refine Wp.i2l dX11_howWrong_88 rfl ?_
          rw [iI_l (by omega) (by omega)]
          refine Wp.iload_n dX11_howWrong_89 rfl rfl ?_
          refine Wp.i2l dX11_howWrong_90 rfl ?_
          rw [iI_l (by omega) (by omega)]
          refine Wp.iload dX11_howWrong_91 rfl rfl ?_
          refine Wp.i2l dX11_howWrong_93 rfl ?_
          rw [iI_l (by omega) (by omega)]
          have m1 := mulb (a := σ.rv (t - 1) 0) (b := σ.rv t 1) (A := 1000000) (C := 1000000) (by omega) (by omega)
          have m2 := mulb (a := σ.rv t 0) (b := σ.rv (t - 1) 1) (A := 1000000) (C := 1000000) (by omega) (by omega)
          refine Wp.cS dX11_howWrong_94 cs_X11_204 rfl (by omega) rfl (Nat.le_of_ble_eq_true rfl) (Nat.le_of_ble_eq_true rfl) rfl (c_X11_isLess (d := d - 1) (sm_b (by omega) (by omega)) (sm_b (by omega) (by omega))) ?_
          rintro _ h_ ⟨rfl, e_⟩
          rw [e_]
          clear e_ h_
          dsimp only [Option.toList, List.drop, List.cons_append, List.nil_append]
          refine Wp.bif_ne (tgt := 102) (n := 100) dX11_howWrong_97 (by decide) rfl (fun c_97 => ?_) (fun c_97 => ?_)
          · try simp only [decide_eq_true_eq, decide_eq_false_iff_not, Bool.and_eq_true, bI_0, bI_n0] at c_97
            have hc2 : ¬ (0 < t ∧ σ.rv t 0 * σ.rv (t - 1) 1 ≤ σ.rv (t - 1) 0 * σ.rv t 1) := by omega
            refine Wp.aload_n dX11_howWrong_102 rfl (by first | exact Or.inr ⟨_, rfl⟩ | exact Or.inl rfl) rfl ?_
            refine Wp.aload_n dX11_howWrong_103 rfl (by first | exact Or.inr ⟨_, rfl⟩ | exact Or.inl rfl) rfl ?_
            refine Wp.get dX11_howWrong_104 fl_X11_32 (pS.S.at' hVb ha) b4 rfl ?_
            refine Wp.iload_n dX11_howWrong_107 rfl rfl ?_
            refine Wp.iconst (v := (nI 2)) dX11_howWrong_108 (by decide) rfl ?_
            refine Wp.cV dX11_howWrong_109 cv_X11_248 rfl (by omega) rfl (Nat.le_of_ble_eq_true rfl) (Nat.le_of_ble_eq_true rfl) (pS.S.at hVq) rfl (c_X5_number (d := d - 1) (i := t) (w := 2) hRw (by omega) (by omega) (by decide) (by omega)) ?_
            rintro _ h_ ⟨rfl, e_⟩
            rw [e_]
            clear e_ h_
            dsimp only [Option.toList, List.drop, List.cons_append, List.nil_append]
            refine Wp.cV dX11_howWrong_112 cv_X11_168 rfl (by omega) rfl (Nat.le_of_ble_eq_true rfl) (Nat.le_of_ble_eq_true rfl) (pS.S.at hVc) rfl (c_X1_placeOf (d := d - 1) hH hB (fun j _ => chC_lt σ i j)) ?_
            rintro _ h_ ⟨rfl, e_⟩
            rw [e_]
            clear e_ h_
            dsimp only [Option.toList, List.drop, List.cons_append, List.nil_append]
            have hp1 := plG_in (chC σ i) (chn σ i) (iI (σ.rv t 2))
            refine Wp.istore dX11_howWrong_115 (Nat.le_of_ble_eq_true rfl) (by dsimp only [ev_st1, ev_st2, ev_cl] <;> rfl) rfl ?_
            refine Wp.iload dX11_howWrong_117 rfl rfl ?_
            refine Wp.if_ge (tgt := 124) (n := 122) dX11_howWrong_119 (by decide) rfl (fun c_119 => ?_) (fun c_119 => ?_)
            · try simp (disch := omega) only [nI_bit0, nI_bit1, Bool.not_eq_false, Bool.not_eq_true] at c_119
              try simp (disch := omega) only [i_lt, i_le, i_eq, l_lt, l_le, l_eq, i_0, i_m1, l_0, nI_tI, iI_tI, lI_tI, Int.not_lt, Int.not_le] at c_119
              have h3 : ¬ plc σ i (iI (σ.rv t 2)) = -1 := by rw [plc_G]; omega
              obtain ⟨x, hx⟩ : ∃ x : Nat, plG (chC σ i) (chn σ i) (iI (σ.rv t 2)) = x := ⟨_, (Int.toNat_of_nonneg (by omega)).symm⟩
              have e1 : (plc σ i (iI (σ.rv t 2))).toNat = x := by rw [plc_G, hx]; exact Int.toNat_natCast x
              rw [hx, ← nI_iI]
              have hxl : x < chn σ i := by omega
              refine Wp.aload_n dX11_howWrong_124 rfl (by first | exact Or.inr ⟨_, rfl⟩ | exact Or.inl rfl) rfl ?_
              refine Wp.aload_n dX11_howWrong_125 rfl (by first | exact Or.inr ⟨_, rfl⟩ | exact Or.inl rfl) rfl ?_
              refine Wp.get dX11_howWrong_126 fl_X11_32 (pS.S.at' hVb ha) b4 rfl ?_
              refine Wp.iload_n dX11_howWrong_129 rfl rfl ?_
              refine Wp.iconst (v := (nI 3)) dX11_howWrong_130 (by decide) rfl ?_
              refine Wp.cV dX11_howWrong_131 cv_X11_248 rfl (by omega) rfl (Nat.le_of_ble_eq_true rfl) (Nat.le_of_ble_eq_true rfl) (pS.S.at hVq) rfl (c_X5_number (d := d - 1) (i := t) (w := 3) hRw (by omega) (by omega) (by decide) (by omega)) ?_
              rintro _ h_ ⟨rfl, e_⟩
              rw [e_]
              clear e_ h_
              dsimp only [Option.toList, List.drop, List.cons_append, List.nil_append]
              refine Wp.cV dX11_howWrong_134 cv_X11_168 rfl (by omega) rfl (Nat.le_of_ble_eq_true rfl) (Nat.le_of_ble_eq_true rfl) (pS.S.at hVc) rfl (c_X1_placeOf (d := d - 1) hH hB (fun j _ => chC_lt σ i j)) ?_
              rintro _ h_ ⟨rfl, e_⟩
              rw [e_]
              clear e_ h_
              dsimp only [Option.toList, List.drop, List.cons_append, List.nil_append]
              have hp2 := plG_in (chC σ i) (chn σ i) (iI (σ.rv t 3))
              refine Wp.istore dX11_howWrong_137 (Nat.le_of_ble_eq_true rfl) (by dsimp only [ev_st1, ev_st2, ev_cl] <;> rfl) rfl ?_
              refine Wp.iload dX11_howWrong_139 rfl rfl ?_
              refine Wp.if_ge (tgt := 146) (n := 144) dX11_howWrong_141 (by decide) rfl (fun c_141 => ?_) (fun c_141 => ?_)
              · try simp (disch := omega) only [nI_bit0, nI_bit1, Bool.not_eq_false, Bool.not_eq_true] at c_141
                try simp (disch := omega) only [i_lt, i_le, i_eq, l_lt, l_le, l_eq, i_0, i_m1, l_0, nI_tI, iI_tI, lI_tI, Int.not_lt, Int.not_le] at c_141
                have h4 : ¬ plc σ i (iI (σ.rv t 3)) = -1 := by rw [plc_G]; omega
                obtain ⟨y, hy⟩ : ∃ y : Nat, plG (chC σ i) (chn σ i) (iI (σ.rv t 3)) = y := ⟨_, (Int.toNat_of_nonneg (by omega)).symm⟩
                have e2 : (plc σ i (iI (σ.rv t 3))).toNat = y := by rw [plc_G, hy]; exact Int.toNat_natCast y
                rw [hy, ← nI_iI]
                have hyl : y < chn σ i := by omega
                have k1 := cst_b hB hxl hpq
                have k2 := cst_b hB hyl hpq
                have k3 := mnN_b hB (Nat.le_refl _) (by omega) hpq
                refine Wp.aload_n dX11_howWrong_146 rfl (by first | exact Or.inr ⟨_, rfl⟩ | exact Or.inl rfl) rfl ?_
                refine Wp.iload dX11_howWrong_147 rfl rfl ?_
                refine Wp.iload_n dX11_howWrong_149 rfl rfl ?_
                refine Wp.iload dX11_howWrong_150 rfl rfl ?_
                refine Wp.cV dX11_howWrong_152 cv_X11_303 rfl (by omega) rfl (Nat.le_of_ble_eq_true rfl) (Nat.le_of_ble_eq_true rfl) (pS.S.at hVc) rfl (c_X1_costAt (d := d - 1) hH hB t0 t1 hpq hxl) ?_
                rintro _ h_ ⟨rfl, e_⟩
                rw [e_]
                clear e_ h_
                dsimp only [Option.toList, List.drop, List.cons_append, List.nil_append]
                refine Wp.lstore dX11_howWrong_155 (Nat.le_of_ble_eq_true rfl) (by dsimp only [ev_st1, ev_st2, ev_cl] <;> rfl) rfl ?_
                refine Wp.lload dX11_howWrong_157 rfl rfl ?_
                refine Wp.aload_n dX11_howWrong_159 rfl (by first | exact Or.inr ⟨_, rfl⟩ | exact Or.inl rfl) rfl ?_
                refine Wp.iload dX11_howWrong_160 rfl rfl ?_
                refine Wp.iload_n dX11_howWrong_162 rfl rfl ?_
                refine Wp.iload dX11_howWrong_163 rfl rfl ?_
                refine Wp.cV dX11_howWrong_165 cv_X11_303 rfl (by omega) rfl (Nat.le_of_ble_eq_true rfl) (Nat.le_of_ble_eq_true rfl) (pS.S.at hVc) rfl (c_X1_costAt (d := d - 1) hH hB t0 t1 hpq hyl) ?_
                rintro _ h_ ⟨rfl, e_⟩
                rw [e_]
                clear e_ h_
                dsimp only [Option.toList, List.drop, List.cons_append, List.nil_append]
                refine Wp.lcmp_eq (tgt := 174) (n := 172) dX11_howWrong_168 rfl dX11_howWrong_169 (by decide) rfl (fun c_168 => ?_) (fun c_168 => ?_)
                · try simp (disch := omega) only [nI_bit0, nI_bit1, Bool.not_eq_false, Bool.not_eq_true] at c_168
                  try simp (disch := omega) only [i_lt, i_le, i_eq, l_lt, l_le, l_eq, i_0, i_m1, l_0, nI_tI, iI_tI, lI_tI, Int.not_lt, Int.not_le] at c_168
                  refine Wp.aload_n dX11_howWrong_174 rfl (by first | exact Or.inr ⟨_, rfl⟩ | exact Or.inl rfl) rfl ?_
                  refine Wp.iload_n dX11_howWrong_175 rfl rfl ?_
                  refine Wp.iload dX11_howWrong_176 rfl rfl ?_
                  refine Wp.cV dX11_howWrong_178 cv_X11_200 rfl (by omega) rfl (Nat.le_of_ble_eq_true rfl) (Nat.le_of_ble_eq_true rfl) (pS.S.at hVc) rfl (c_X1_leastAt (d := d - 1) hH hB t0 t1 hpq (by omega)) ?_
                  rintro _ h_ ⟨rfl, e_⟩
                  rw [e_]
                  clear e_ h_
                  dsimp only [Option.toList, List.drop, List.cons_append, List.nil_append]
                  rw [show mnI (cst (chS σ i) (chR σ i) (σ.rv t 0) (σ.rv t 1)) (chn σ i) = mnN (cst (chS σ i) (chR σ i) (σ.rv t 0) (σ.rv t 1)) (chn σ i) by rw [mnI, if_neg (by omega)]]
                  refine Wp.lload dX11_howWrong_181 rfl rfl ?_
                  refine Wp.lcmp_ge (tgt := 190) (n := 187) dX11_howWrong_183 rfl dX11_howWrong_184 (by decide) rfl (fun c_183 => ?_) (fun c_183 => ?_)
                  · try simp (disch := omega) only [nI_bit0, nI_bit1, Bool.not_eq_false, Bool.not_eq_true] at c_183
                    try simp (disch := omega) only [i_lt, i_le, i_eq, l_lt, l_le, l_eq, i_0, i_m1, l_0, nI_tI, iI_tI, lI_tI, Int.not_lt, Int.not_le] at c_183
                    refine Wp.aload_n dX11_howWrong_190 rfl (by first | exact Or.inr ⟨_, rfl⟩ | exact Or.inl rfl) rfl ?_
                    refine Wp.get dX11_howWrong_191 fl_X11_230 (pS.S.at hVc) vc2 rfl ?_
                    refine Wp.iload dX11_howWrong_194 rfl rfl ?_
                    refine Wp.iaload dX11_howWrong_196 (pS.S.at kc2) (nI_toInt (by omega)) (by omega) rfl ?_
                    rw [(hgc x hxl).2.2]
                    refine Wp.aload_n dX11_howWrong_197 rfl (by first | exact Or.inr ⟨_, rfl⟩ | exact Or.inl rfl) rfl ?_
                    refine Wp.get dX11_howWrong_198 fl_X11_230 (pS.S.at hVc) vc2 rfl ?_
                    refine Wp.iload dX11_howWrong_201 rfl rfl ?_
                    refine Wp.iaload dX11_howWrong_203 (pS.S.at kc2) (nI_toInt (by omega)) (by omega) rfl ?_
                    rw [(hgc y hyl).2.2, show sumS σ.N.ri ((chL σ.N (σ.O i)).getD x 0) σ.N.L = chR σ i x from rfl, show sumS σ.N.ri ((chL σ.N (σ.O i)).getD y 0) σ.N.L = chR σ i y from rfl]
                    have k5 := hB.2 x hxl
                    have k6 := hB.2 y hyl
                    refine Wp.icmp_le (tgt := 211) (n := 207) dX11_howWrong_204 (by decide) rfl (fun c_204 => ?_) (fun c_204 => ?_)
                    · try simp (disch := omega) only [nI_bit0, nI_bit1, Bool.not_eq_false, Bool.not_eq_true] at c_204
                      try simp (disch := omega) only [i_lt, i_le, i_eq, l_lt, l_le, l_eq, i_0, i_m1, l_0, nI_tI, iI_tI, lI_tI, Int.not_lt, Int.not_le] at c_204
                      refine Wp.bipush (v := (nI 7)) dX11_howWrong_211 (by decide) rfl ?_
                      exact Wp.iret dX11_howWrong_213 rfl (by rw [wrM, if_neg hok, if_neg hc2, if_neg h3, if_neg h4, e1, e2, if_neg (by omega), if_neg (by omega), if_neg (by omega)]; exact ⟨rfl, rfl⟩)
                    · try simp (disch := omega) only [nI_bit0, nI_bit1, Bool.not_eq_false, Bool.not_eq_true] at c_204
                      try simp (disch := omega) only [i_lt, i_le, i_eq, l_lt, l_le, l_eq, i_0, i_m1, l_0, nI_tI, iI_tI, lI_tI, Int.not_lt, Int.not_le] at c_204
                      refine Wp.iconst (v := (nI 0)) dX11_howWrong_207 (by decide) rfl ?_
                      refine Wp.goto (n := 213) dX11_howWrong_208 (by decide) ?_
                      exact Wp.iret dX11_howWrong_213 rfl (by rw [wrM, if_neg hok, if_neg hc2, if_neg h3, if_neg h4, e1, e2, if_neg (by omega), if_neg (by omega), if_pos (by omega)]; exact ⟨rfl, rfl⟩)
                  · try simp (disch := omega) only [nI_bit0, nI_bit1, Bool.not_eq_false, Bool.not_eq_true] at c_183
                    try simp (disch := omega) only [i_lt, i_le, i_eq, l_lt, l_le, l_eq, i_0, i_m1, l_0, nI_tI, iI_tI, lI_tI, Int.not_lt, Int.not_le] at c_183
                    refine Wp.bipush (v := (nI 6)) dX11_howWrong_187 (by decide) rfl ?_
                    exact Wp.iret dX11_howWrong_189 rfl (by rw [wrM, if_neg hok, if_neg hc2, if_neg h3, if_neg h4, e1, e2, if_neg (by omega), if_pos (by omega)]; exact ⟨rfl, rfl⟩)
                · try simp (disch := omega) only [nI_bit0, nI_bit1, Bool.not_eq_false, Bool.not_eq_true] at c_168
                  try simp (disch := omega) only [i_lt, i_le, i_eq, l_lt, l_le, l_eq, i_0, i_m1, l_0, nI_tI, iI_tI, lI_tI, Int.not_lt, Int.not_le] at c_168
                  refine Wp.iconst (v := (nI 5)) dX11_howWrong_172 (by decide) rfl ?_
                  exact Wp.iret dX11_howWrong_173 rfl (by rw [wrM, if_neg hok, if_neg hc2, if_neg h3, if_neg h4, e1, e2, if_pos (by omega)]; exact ⟨rfl, rfl⟩)
              · try simp (disch := omega) only [nI_bit0, nI_bit1, Bool.not_eq_false, Bool.not_eq_true] at c_141
                try simp (disch := omega) only [i_lt, i_le, i_eq, l_lt, l_le, l_eq, i_0, i_m1, l_0, nI_tI, iI_tI, lI_tI, Int.not_lt, Int.not_le] at c_141
                refine Wp.iconst (v := (nI 4)) dX11_howWrong_144 (by decide) rfl ?_
                exact Wp.iret dX11_howWrong_145 rfl (by rw [wrM, if_neg hok, if_neg hc2, if_neg h3, if_pos (by rw [plc_G]; omega)]; exact ⟨rfl, rfl⟩)
            · try simp (disch := omega) only [nI_bit0, nI_bit1, Bool.not_eq_false, Bool.not_eq_true] at c_119
              try simp (disch := omega) only [i_lt, i_le, i_eq, l_lt, l_le, l_eq, i_0, i_m1, l_0, nI_tI, iI_tI, lI_tI, Int.not_lt, Int.not_le] at c_119
              refine Wp.iconst (v := (nI 3)) dX11_howWrong_122 (by decide) rfl ?_
              exact Wp.iret dX11_howWrong_123 rfl (by rw [wrM, if_neg hok, if_neg hc2, if_pos (by rw [plc_G]; omega)]; exact ⟨rfl, rfl⟩)
          · try simp only [decide_eq_true_eq, decide_eq_false_iff_not, Bool.and_eq_true, bI_0, bI_n0] at c_97
            refine Wp.iconst (v := (nI 2)) dX11_howWrong_100 (by decide) rfl ?_
            exact Wp.iret dX11_howWrong_101 rfl (by rw [wrM, if_neg hok, if_pos ⟨by omega, by omega⟩]; exact ⟨rfl, rfl⟩)
      · try simp only [decide_eq_true_eq, decide_eq_false_iff_not, Bool.and_eq_true, bI_0, bI_n0] at c_56
        refine Wp.iconst (v := (nI 1)) dX11_howWrong_59 (by decide) rfl ?_
        exact Wp.iret dX11_howWrong_60 rfl (by rw [wrM, if_pos (by first | (left; omega) | (right; left; omega) | (right; right; omega))]; exact ⟨rfl, rfl⟩)
set_option maxHeartbeats 2000000 in
theorem c_X11_check {B : ev_B} {d a0 w0 j : Nat} {X : Nat → Prop} {h : ev_H} {σ : Sg} {o : Int32} (hp : PSx X w0 h a0 σ j) (hW : Wf σ) (hj : j + 1 ≤ 600) (hd : 36 ≤ d) :
    Wp B d M_X11_check 0 [some (.ref a0), some (.int (o)), none, none, none] [] h (CQ X w0 h a0 (σ) j (.int (a_check σ o))) := by
  obtain ⟨A, C, ns, ws, cp, ln, lr, pS, ha⟩ := hp
  obtain ⟨Vb, hVb, b0, b1, b2, b3, b4, b5, b6, b7⟩ := id pS.ben
  obtain ⟨Vw, hVw, -⟩ := id pS.win
  obtain ⟨Vq, gq, hVq, rq0, rq1, hgq, rq2, rq3⟩ := id pS.row.1
  obtain ⟨zf, hzf⟩ := id pS.fo
  have hcn := pS.cnt
  have hn10 := hW.n
  by_cases hio : 0 ≤ o.toInt ∧ o.toInt < σ.n
  · obtain ⟨i, rfl, ho, ho2⟩ := as_nI hio
    have ti := nI_tI ho2
    have hOw := hW.of i ho
    refine Wp.aload_n dX11_check_0 rfl (by first | exact Or.inr ⟨_, rfl⟩ | exact Or.inl rfl) rfl ?_
    refine Wp.iload_n dX11_check_1 rfl rfl ?_
    refine Wp.cV dX11_check_2 cv_X11_112 rfl (by omega) rfl (Nat.le_of_ble_eq_true rfl) (Nat.le_of_ble_eq_true rfl) (pS.S.at' hVb ha) rfl (c_X11_offerAt_y (d := d - 1) pS ha hW ho (by omega)) ?_
    rintro _ h1 ⟨A1, C1, cp1, ln1, rfl, x1, ha1, p1, on1⟩
    dsimp only [Option.toList, List.drop, List.cons_append, List.nil_append]
    obtain ⟨Vd, hVd, d0_, d1_, d2_, d3_, d4_, d5_, d6_, d7_⟩ := id p1.ben
    obtain ⟨Vw1, hVw1, -⟩ := id p1.win
    obtain ⟨Vq1, gq1, hVq1, rqa0, rqa1, hgq1, rqa2, rqa3⟩ := id p1.row.1
    obtain ⟨zf1, hzf1⟩ := id p1.fo
    obtain ⟨Vo, bso, nbo, rbo, hVo, hOV, vo4, vo5, hch, hcap, hrow, hnb, hlen, hbs, hbok⟩ := id on1
    obtain ⟨ov0, ov1, ov2, ov3, ov5, ov6, ov7⟩ := id hOV
    obtain ⟨Vc, gc0, gc1, gc2, hVc, vc0, vc1, vc2, vc3, kc0, kc1, kc2, hlc, h8c, hgc⟩ := id hch
    have hO := ciO_is (σ.O i).k
    have hchn := chn_le σ i
    have hPrB := PrB_ch hW i
    change Vc 3 = .int (nI (chn σ i)) at vc3
    have hlc' : chn σ i ≤ cp1 i := hlc
    have hH := on1.H p1.S
    refine Wp.astore_n dX11_check_5 (by first | exact Or.inr ⟨_, rfl⟩ | exact Or.inl rfl) (Nat.le_of_ble_eq_true rfl) (by dsimp only [ev_st1, ev_cl] <;> rfl) rfl ?_
    refine Wp.aload_n dX11_check_6 rfl (by first | exact Or.inr ⟨_, rfl⟩ | exact Or.inl rfl) rfl ?_
    refine Wp.ifnonnull (n := 13) dX11_check_7 (by decide) ?_
    have hnR := hW.nR
    have loop : ∀ t, t ≤ σ.nR → whF (fun t => decide (wrM σ i t ≠ 0)) (fun t => 8 * (t : Int) + (wrM σ i t : Nat)) σ.nR (σ.nR - t) = ckV σ i → (∀ u, u < t → wrM σ i u = 0) → ∀ j4 : Option Value, Wp B d M_X11_check 15 [some (.ref a0), some (.int (nI i)), some (.ref (A1 (tO i))), some (.int (nI t)), j4] [] h1 (CQ X w0 h a0 (σ) j (.int (a_check σ (nI i)))) := by
      refine ev_upl σ.nR (fun t hi ih => ?_) ?_
      · intro hck hz0 j4
        refine Wp.iload_n dX11_check_15 rfl rfl ?_
        refine Wp.aload_n dX11_check_16 rfl (by first | exact Or.inr ⟨_, rfl⟩ | exact Or.inl rfl) rfl ?_
        refine Wp.get dX11_check_17 fl_X11_32 (p1.S.at' hVd ha1) d4_ rfl ?_
        refine Wp.get dX11_check_20 fl_X11_247 (p1.S.at hVq1) rqa1 rfl ?_
        refine Wp.icmp_ge (tgt := 56) (n := 26) dX11_check_23 (by decide) rfl (fun c_23 => ?_) (fun c_23 => ?_)
        · try simp (disch := omega) only [nI_bit0, nI_bit1, Bool.not_eq_false, Bool.not_eq_true] at c_23
          try simp (disch := omega) only [i_lt, i_le, i_eq, l_lt, l_le, l_eq, i_0, i_m1, l_0, nI_tI, iI_tI, lI_tI, Int.not_lt, Int.not_le] at c_23
          omega
        · try simp (disch := omega) only [nI_bit0, nI_bit1, Bool.not_eq_false, Bool.not_eq_true] at c_23
          try simp (disch := omega) only [i_lt, i_le, i_eq, l_lt, l_le, l_eq, i_0, i_m1, l_0, nI_tI, iI_tI, lI_tI, Int.not_lt, Int.not_le] at c_23
          refine Wp.aload_n dX11_check_26 rfl (by first | exact Or.inr ⟨_, rfl⟩ | exact Or.inl rfl) rfl ?_
          refine Wp.aload_n dX11_check_27 rfl (by first | exact Or.inr ⟨_, rfl⟩ | exact Or.inl rfl) rfl ?_
          refine Wp.get dX11_check_28 (fl_X11_138 hO) (p1.S.at hVo) ov2 rfl ?_
          refine Wp.iload_n dX11_check_31 rfl rfl ?_
          refine Wp.cV dX11_check_32 cv_X11_294 rfl (by omega) rfl (Nat.le_of_ble_eq_true rfl) (Nat.le_of_ble_eq_true rfl) (p1.S.at' hVd ha1) rfl (c_X11_howWrong (d := d - 1) p1 ha1 hW on1 hi (by omega)) ?_
          rintro _ h_ ⟨rfl, e_⟩
          rw [e_]
          clear e_ h_
          dsimp only [Option.toList, List.drop, List.cons_append, List.nil_append]
          have hw7 := wrM_le σ i t
          refine Wp.istore dX11_check_35 (Nat.le_of_ble_eq_true rfl) (by dsimp only [ev_st1, ev_st2, ev_cl] <;> rfl) rfl ?_
          refine Wp.iload dX11_check_37 rfl rfl ?_
          refine Wp.if_le (tgt := 50) (n := 42) dX11_check_39 (by decide) rfl (fun c_39 => ?_) (fun c_39 => ?_)
          · try simp (disch := omega) only [nI_bit0, nI_bit1, Bool.not_eq_false, Bool.not_eq_true] at c_39
            try simp (disch := omega) only [i_lt, i_le, i_eq, l_lt, l_le, l_eq, i_0, i_m1, l_0, nI_tI, iI_tI, lI_tI, Int.not_lt, Int.not_le] at c_39
            refine Wp.iinc (v := _ + (nI 1)) dX11_check_50 rfl rfl (Nat.le_of_ble_eq_true rfl) (by dsimp only [ev_st1, ev_cl] <;> rfl) rfl ?_
            refine Wp.goto (n := 15) dX11_check_53 (by decide) ?_
            rw [nI_add1]
            exact ih ((whF_no hi (decide_eq_false (by omega))).symm.trans hck) (fun u hu => by
              by_cases z : u = t
              · rw [z]; omega
              · exact hz0 u (by omega)) _
          · try simp (disch := omega) only [nI_bit0, nI_bit1, Bool.not_eq_false, Bool.not_eq_true] at c_39
            try simp (disch := omega) only [i_lt, i_le, i_eq, l_lt, l_le, l_eq, i_0, i_m1, l_0, nI_tI, iI_tI, lI_tI, Int.not_lt, Int.not_le] at c_39
            refine Wp.bipush (v := (nI 8)) dX11_check_42 (by decide) rfl ?_
            refine Wp.iload_n dX11_check_44 rfl rfl ?_
            refine Wp.imul dX11_check_45 rfl ?_
            refine Wp.iload dX11_check_46 rfl rfl ?_
            refine Wp.iadd dX11_check_48 rfl ?_
            exact Wp.iret dX11_check_49 rfl (by
              refine ⟨?_, x1, A1, C1, ns, ws, cp1, ln1, lr, p1.up hj, ha1⟩
              rw [a_check, if_pos (show isO σ (nI i) by omega), tn_nI ho2, ← hck, whF_yes hi (decide_eq_true (by omega)), if_neg (by omega), pk_mul, nI_add, nI_iI, show ((8 * t + wrM σ i t : Nat) : Int) = 8 * (t : Int) + (wrM σ i t : Nat) by omega])
      · intro hck hz0 j4
        refine Wp.iload_n dX11_check_15 rfl rfl ?_
        refine Wp.aload_n dX11_check_16 rfl (by first | exact Or.inr ⟨_, rfl⟩ | exact Or.inl rfl) rfl ?_
        refine Wp.get dX11_check_17 fl_X11_32 (p1.S.at' hVd ha1) d4_ rfl ?_
        refine Wp.get dX11_check_20 fl_X11_247 (p1.S.at hVq1) rqa1 rfl ?_
        refine Wp.icmp_ge (tgt := 56) (n := 26) dX11_check_23 (by decide) rfl (fun c_23 => ?_) (fun c_23 => ?_)
        · try simp (disch := omega) only [nI_bit0, nI_bit1, Bool.not_eq_false, Bool.not_eq_true] at c_23
          try simp (disch := omega) only [i_lt, i_le, i_eq, l_lt, l_le, l_eq, i_0, i_m1, l_0, nI_tI, iI_tI, lI_tI, Int.not_lt, Int.not_le] at c_23
          refine Wp.aload_n dX11_check_56 rfl (by first | exact Or.inr ⟨_, rfl⟩ | exact Or.inl rfl) rfl ?_
          refine Wp.get dX11_check_57 fl_X11_32 (p1.S.at' hVd ha1) d4_ rfl ?_
          refine Wp.get dX11_check_60 fl_X11_247 (p1.S.at hVq1) rqa1 rfl ?_
          refine Wp.aload_n dX11_check_63 rfl (by first | exact Or.inr ⟨_, rfl⟩ | exact Or.inl rfl) rfl ?_
          refine Wp.aload_n dX11_check_64 rfl (by first | exact Or.inr ⟨_, rfl⟩ | exact Or.inl rfl) rfl ?_
          refine Wp.get dX11_check_65 fl_X11_25 (p1.S.at' hVd ha1) d3_ rfl ?_
          refine Wp.cU dX11_check_68 (cu_X11_237 hO) rfl (by omega) rfl (Nat.le_of_ble_eq_true rfl) (Nat.le_of_ble_eq_true rfl) (p1.S.at hVo) rfl (c_X3_bendsIn (d := d - 1) hW p1.S p1.win (by have := p1.cnt; omega) on1 (by omega)) ?_
          rintro _ h2 ⟨rfl, A2, C2, cap2, len2, S2, o2, l1, l2, a2, f2, ob2⟩
          dsimp only [Option.toList, List.drop, List.cons_append, List.nil_append]
          have htO : tO i = 30 + 10 * i := rfl
          have p2 := p1.offer ho S2 o2 l1 l2 a2 f2 ob2.N.S
          have ha2 : A2 0 = a0 := (a2 0 (by omega)).trans ha1
          have x2 := x1.tr o2.fx
          rw [show A1 (tO i + 5) = A2 (tO i + 5) from (a2 _ (by omega)).symm]
          obtain ⟨Vo2, nb, rb, hVo2, hOV2, -, -, hch2, hcap2, hrow2, hnb2, hlen2, hbk⟩ := id ob2
          have hR2 := hrow2.H p2.S
          have hbk1 := hbk.1
          obtain ⟨Vr, gr, hVr, r0, r1, -⟩ := id hrow2
          obtain ⟨Ve, hVe, e0_, e1_, e2_, e3_, e4_, e5_, e6_, e7_⟩ := id p2.ben
          obtain ⟨Vq2, gq2, hVq2, rqb0, rqb1, hgq2, rqb2, rqb3⟩ := id p2.row.1
          obtain ⟨Vw2, hVw2, -⟩ := id p2.win
          obtain ⟨zf2, hzf2⟩ := id p2.fo
          obtain ⟨Vc2, gd0, gd1, gd2, hVc2, vd0, vd1, vd2, vd3, kd0, kd1, kd2, hlc2, h8c2, hgc2⟩ := id hch2
          have hH2 := ob2.N.H p2.S
          have hnR := hW.nR
          have hle := ck_le hW hz0
          refine Wp.get dX11_check_71 fl_X11_247 (p2.S.at hVr) r1 rfl ?_
          refine Wp.icmp_ge (tgt := 82) (n := 77) dX11_check_74 (by decide) rfl (fun c_74 => ?_) (fun c_74 => ?_)
          · try simp (disch := omega) only [nI_bit0, nI_bit1, Bool.not_eq_false, Bool.not_eq_true] at c_74
            try simp (disch := omega) only [i_lt, i_le, i_eq, l_lt, l_le, l_eq, i_0, i_m1, l_0, nI_tI, iI_tI, lI_tI, Int.not_lt, Int.not_le] at c_74
            refine Wp.iconst (v := (-1)) dX11_check_82 (by decide) rfl ?_
            exact Wp.iret dX11_check_83 rfl (by
              refine ⟨?_, x2, A2, C2, ns, ws, updN cp1 i cap2, updN ln1 i len2, lr, p2.up hj, ha2⟩
              rw [a_check, if_pos (show isO σ (nI i) by omega), tn_nI ho2, ← hck, Nat.sub_self, show whF (fun t => decide (wrM σ i t ≠ 0)) (fun t => 8 * (t : Int) + (wrM σ i t : Nat)) σ.nR 0 = -1 from rfl, if_pos rfl, if_pos (by omega)])
          · try simp (disch := omega) only [nI_bit0, nI_bit1, Bool.not_eq_false, Bool.not_eq_true] at c_74
            try simp (disch := omega) only [i_lt, i_le, i_eq, l_lt, l_le, l_eq, i_0, i_m1, l_0, nI_tI, iI_tI, lI_tI, Int.not_lt, Int.not_le] at c_74
            refine Wp.bipush (v := (-3)) dX11_check_77 (by decide) rfl ?_
            refine Wp.goto (n := 83) dX11_check_79 (by decide) ?_
            exact Wp.iret dX11_check_83 rfl (by
              refine ⟨?_, x2, A2, C2, ns, ws, updN cp1 i cap2, updN ln1 i len2, lr, p2.up hj, ha2⟩
              rw [a_check, if_pos (show isO σ (nI i) by omega), tn_nI ho2, ← hck, Nat.sub_self, show whF (fun t => decide (wrM σ i t ≠ 0)) (fun t => 8 * (t : Int) + (wrM σ i t : Nat)) σ.nR 0 = -1 from rfl, if_pos rfl, if_neg (by omega)])
        · try simp (disch := omega) only [nI_bit0, nI_bit1, Bool.not_eq_false, Bool.not_eq_true] at c_23
          try simp (disch := omega) only [i_lt, i_le, i_eq, l_lt, l_le, l_eq, i_0, i_m1, l_0, nI_tI, iI_tI, lI_tI, Int.not_lt, Int.not_le] at c_23
          omega
    refine Wp.iconst (v := (nI 0)) dX11_check_13 (by decide) rfl ?_
    refine Wp.istore_n dX11_check_14 (Nat.le_of_ble_eq_true rfl) (by dsimp only [ev_st1, ev_st2, ev_cl] <;> rfl) rfl ?_
    exact loop 0 (by omega) rfl (fun u hu => absurd hu (Nat.not_lt_zero u)) _
  · refine Wp.aload_n dX11_check_0 rfl (by first | exact Or.inr ⟨_, rfl⟩ | exact Or.inl rfl) rfl ?_
    refine Wp.iload_n dX11_check_1 rfl rfl ?_
    refine Wp.cV dX11_check_2 cv_X11_112 rfl (by omega) rfl (Nat.le_of_ble_eq_true rfl) (Nat.le_of_ble_eq_true rfl) (pS.S.at' hVb ha) rfl (c_X11_offerAt_n (d := d - 1) pS ha hW hio) ?_
    rintro _ h1 ⟨rfl, e1_⟩
    rw [e1_]
    clear e1_ h1
    dsimp only [Option.toList, List.drop, List.cons_append, List.nil_append]
    refine Wp.astore_n dX11_check_5 (by first | exact Or.inr ⟨_, rfl⟩ | exact Or.inl rfl) (Nat.le_of_ble_eq_true rfl) (by dsimp only [ev_st1, ev_cl] <;> rfl) rfl ?_
    refine Wp.aload_n dX11_check_6 rfl (by first | exact Or.inr ⟨_, rfl⟩ | exact Or.inl rfl) rfl ?_
    refine Wp.ifnonnullN (n := 10) dX11_check_7 rfl ?_
    refine Wp.bipush (v := (-2)) dX11_check_10 (by decide) rfl ?_
    exact Wp.iret dX11_check_12 rfl (by refine ⟨?_, FX.rfl, A, C, ns, ws, cp, ln, lr, pS.up hj, ha⟩; simp (disch := omega) only [a_check, isO, w01, isP, nI_tI, tn_nI]; (repeat' split) <;> first | (exfalso; omega) | rfl)
