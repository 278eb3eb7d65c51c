/-! the class: an offer in the store; its choices and bends renewed -/
def ciO : Nat → Nat
  | 0 => 6
  | 1 => 7
  | 2 => 8
  | _ => 3
theorem ciO_is (k : Nat) : ev_isO (ciO k) := by
  unfold ciO ev_isO
  split <;> simp
abbrev tO (i : Nat) : Nat := 30 + 10 * i
def OfV (A : Nat → Nat) (C : Nat → Option ev_E) (i : Nat) (o : Of) (V : Nat → Value) : Prop := V 0 = .int (nI i) ∧ V 1 = .int (nI o.k) ∧ V 2 = .ref (A (tO i + 1)) ∧ V 3 = .ref (A (tO i + 5)) ∧ (o.k = 0 → V 6 = .ref (A (tO i + 7)) ∧ V 7 = .int (nI o.m) ∧ ∃ g, C (tO i + 7) = some (ev_ia 8 g) ∧ ∀ j, j < o.m → g j = nI (o.su j)) ∧ (o.k = 2 → V 6 = .int (nI o.f) ∧ V 7 = .int (nI o.s)) ∧ (o.k = 3 → V 6 = .int (nI o.f))
theorem OfV.same {A A' : Nat → Nat} {C C' : Nat → Option ev_E} {i : Nat} {o : Of} {V : Nat → Value} (h : OfV A C i o V) (a : ∀ t, tO i < t → t ≤ tO i + 7 → t = tO i + 1 ∨ t = tO i + 5 ∨ t = tO i + 7 → A' t = A t) (f : C' (tO i + 7) = C (tO i + 7)) : OfV A' C' i o V := by
  obtain ⟨h0, h1, h2, h3, h4, h5, h6⟩ := h
  refine ⟨h0, h1, by rw [a _ (by omega) (by omega) (by omega)]; exact h2, by rw [a _ (by omega) (by omega) (by omega)]; exact h3, fun hk => ?_, h5, h6⟩
  obtain ⟨q1, q2, g, q3, q4⟩ := h4 hk
  exact ⟨by rw [a _ (by omega) (by omega) (by omega)]; exact q1, q2, g, f.trans q3, q4⟩
/-- an offer: its numbers, what was worked out of it; cap, len: the room of its rows -/
def OfS (A : Nat → Nat) (C : Nat → Option ev_E) (σ : Sg) (ns ws i cap len : Nat) : Prop := ∃ (V : Nat → Value) (cs bs : Int) (Nl : Nt) (l : List Nat) (nb : Nat) (rb : Nat → Nat → Int), C (tO i) = some (ev_ob (ciO (σ.O i).k) V) ∧ OfV A C i (σ.O i) V ∧ V 4 = .int (iI cs) ∧ V 5 = .int (iI bs) ∧ ChoS A C (tO i + 1) Nl l cap ∧ okCap cap ∧ RowS A C (tO i + 5) nb rb len ∧ nb ≤ 480 ∧ len ≤ 4000 ∧ (-1 ≤ cs ∧ cs ≤ ns) ∧ (-1 ≤ bs ∧ bs ≤ ws) ∧ (cs = ns → Nl = σ.N ∧ l = chL σ.N (σ.O i)) ∧ (cs = ns → bs = ws → BenOK σ i nb rb)
/-- with its choices as they are now -/
def OfN (A : Nat → Nat) (C : Nat → Option ev_E) (σ : Sg) (ns ws i cap len : Nat) : Prop := ∃ (V : Nat → Value) (bs : Int) (nb : Nat) (rb : Nat → Nat → Int), C (tO i) = some (ev_ob (ciO (σ.O i).k) V) ∧ OfV A C i (σ.O i) V ∧ V 4 = .int (nI ns) ∧ V 5 = .int (iI bs) ∧ ChoS A C (tO i + 1) σ.N (chL σ.N (σ.O i)) cap ∧ okCap cap ∧ RowS A C (tO i + 5) nb rb len ∧ nb ≤ 480 ∧ len ≤ 4000 ∧ (-1 ≤ bs ∧ bs ≤ ws) ∧ (bs = ws → BenOK σ i nb rb)
theorem OfN.S {A : Nat → Nat} {C : Nat → Option ev_E} {σ : Sg} {ns ws i cap len : Nat} (h : OfN A C σ ns ws i cap len) : OfS A C σ ns ws i cap len := by
  obtain ⟨V, bs, nb, rb, h1, h2, h3, h4, h5, h6, h7, h8, h9, h10, h11⟩ := h
  exact ⟨V, ns, bs, σ.N, _, nb, rb, h1, h2, by rw [h3, nI_iI], h4, h5, h6, h7, h8, h9, ⟨by omega, by omega⟩, h10, fun _ => ⟨rfl, rfl⟩, fun _ => h11⟩
theorem OfN.H {X : Nat → Prop} {h : ev_H} {A : Nat → Nat} {C : Nat → Option ev_E} {σ : Sg} {ns ws i cap len : Nat} (hN : OfN A C σ ns ws i cap len) (hS : CS X h A C) : ChoH h (A (tO i + 1)) (chn σ i) (chC σ i) (chS σ i) (chR σ i) := by
  obtain ⟨V, bs, nb, rb, h1, h2, h3, h4, h5, -⟩ := hN
  exact h5.H hS
theorem OfS.same {A A' : Nat → Nat} {C C' : Nat → Option ev_E} {σ : Sg} {ns ws i cap len : Nat} (h : OfS A C σ ns ws i cap len) (f : ∀ t, tO i ≤ t → t ≤ tO i + 7 → C' t = C t) (a : ∀ t, tO i ≤ t → t ≤ tO i + 7 → A' t = A t) : OfS A' C' σ ns ws i cap len := by
  obtain ⟨V, cs, bs, Nl, l, nb, rb, h1, h2, h3, h4, h5, h6, h7, h8⟩ := h
  exact ⟨V, cs, bs, Nl, l, nb, rb, (f _ (by omega) (by omega)).trans h1, h2.same (fun t q1 q2 _ => a t (by omega) q2) (f _ (by omega) (by omega)), h3, h4, h5.same (fun t q1 q2 => f t (by omega) (by omega)) (fun t q1 q2 => a t (by omega) (by omega)), h6, h7.same (f _ (by omega) (by omega)) (f _ (by omega) (by omega)) (a _ (by omega) (by omega)), h8⟩
/-- another net, another window: what was worked out is old -/
theorem OfS.net {A : Nat → Nat} {C : Nat → Option ev_E} {σ σ' : Sg} {ns ns' ws i cap len : Nat} (h : OfS A C σ ns ws i cap len) (hO : σ'.O i = σ.O i) (hn : ns < ns') : OfS A C σ' ns' ws i cap len := by
  obtain ⟨V, cs, bs, Nl, l, nb, rb, h1, h2, h3, h4, h5, h6, h7, h8, h9, h10, h11, -, -⟩ := h
  exact ⟨V, cs, bs, Nl, l, nb, rb, by rw [hO]; exact h1, by rw [hO]; exact h2, h3, h4, h5, h6, h7, h8, h9, ⟨h10.1, by omega⟩, h11, fun z => absurd z (by omega), fun z => absurd z (by omega)⟩
theorem OfS.win {A : Nat → Nat} {C : Nat → Option ev_E} {σ σ' : Sg} {ns ws ws' i cap len : Nat} (h : OfS A C σ ns ws i cap len) (hO : σ'.O i = σ.O i) (hN : σ'.N = σ.N) (hn : ws < ws') : OfS A C σ' ns ws' i cap len := by
  obtain ⟨V, cs, bs, Nl, l, nb, rb, h1, h2, h3, h4, h5, h6, h7, h8, h9, h10, h11, h12, -⟩ := h
  exact ⟨V, cs, bs, Nl, l, nb, rb, by rw [hO]; exact h1, by rw [hO]; exact h2, h3, h4, h5, h6, h7, h8, h9, h10, ⟨h11.1, by omega⟩, by rw [hO, hN]; exact h12, fun _ z => absurd z (by omega)⟩
/-- what an offer's bends say is of its net and window alone -/
theorem OfS.as {A : Nat → Nat} {C : Nat → Option ev_E} {σ σ' : Sg} {ns ws i cap len : Nat} (h : OfS A C σ ns ws i cap len) (hO : σ'.O i = σ.O i) (hN : σ'.N = σ.N) (hb : ∀ nb rb, BenOK σ i nb rb → BenOK σ' i nb rb) : OfS A C σ' ns ws i cap len := by
  obtain ⟨V, cs, bs, Nl, l, nb, rb, h1, h2, h3, h4, h5, h6, h7, h8, h9, h10, h11, h12, h13⟩ := h
  exact ⟨V, cs, bs, Nl, l, nb, rb, by rw [hO]; exact h1, by rw [hO]; exact h2, h3, h4, h5, h6, h7, h8, h9, h10, h11, by rw [hO, hN]; exact h12, fun z1 z2 => hb _ _ (h13 z1 z2)⟩
theorem BenOK.as {σ σ' : Sg} {i nb : Nat} {rb : Nat → Nat → Int} (h : BenOK σ i nb rb) (hO : σ'.O i = σ.O i) (hN : σ'.N = σ.N) (w1 : σ'.p1 = σ.p1) (w2 : σ'.q1 = σ.q1) (w3 : σ'.p2 = σ.p2) (w4 : σ'.q2 = σ.q2) : BenOK σ' i nb rb := by
  have e1 : chC σ' i = chC σ i := by funext j; unfold chC; rw [hO, hN]
  have e2 : chn σ' i = chn σ i := by unfold chn; rw [hO, hN]
  have e3 : chS σ' i = chS σ i := by funext j; unfold chS; rw [e1, hN]
  have e4 : chR σ' i = chR σ i := by funext j; unfold chR; rw [e1, hN]
  have e5 : pts σ' i = pts σ i := by unfold pts; rw [e2, e3, e4, w1, w2, w3, w4]
  have e6 : npt σ' i = npt σ i := by unfold npt; rw [e2, e5]
  have e7 : ∀ j k, bndV σ' i j k = bndV σ i j k := fun j k => by unfold bndV ptP ptQ; rw [e1, e2, e3, e4, e5]
  exact ⟨by rw [e6]; exact h.1, fun j k h1 h2 => by rw [e7]; exact h.2 j k h1 h2⟩
/-- an offer alone has changed: itself and its rows -/
def OQ (X : Nat → Prop) (h : ev_H) (A : Nat → Nat) (C : Nat → Option ev_E) (i cap len : Nat) (P : (Nat → Nat) → (Nat → Option ev_E) → Nat → Nat → Prop) (a : Option Value) (v : Option Value) (h' : ev_H) : Prop := v = a ∧ ∃ A' C' cap' len', CS X h' A' C' ∧ CG X h h' (7 * (cap' - cap) + 3 * (len' - len)) ∧ cap ≤ cap' ∧ len ≤ len' ∧ (∀ t, t ≤ tO i + 1 ∨ t = tO i + 5 ∨ tO i + 7 ≤ t → A' t = A t) ∧ (∀ t, t < tO i ∨ tO i + 7 ≤ t → C' t = C t) ∧ P A' C' cap' len'
set_option maxHeartbeats 2000000 in
theorem c_X3_renewChoices {B : ev_B} {d i ns ws cap len : Nat} {X : Nat → Prop} {h : ev_H} {A : Nat → Nat} {C : Nat → Option ev_E} {σ : Sg} (hW : Wf σ) (hS : CS X h A C) (hN : NetS A C σ ns) (hns : ns ≤ 100000) (hO : OfS A C σ ns ws i cap len) (ho : OfW σ.N.T (σ.O i)) (hd : 32 ≤ d) :
    Wp B d M_X3_renewChoices 0 [some (.ref (A (tO i))), some (.ref (A 1))] [] h (OQ X h A C i cap len (fun A' C' cap' len' => OfN A' C' σ ns ws i cap' len') none) := by
  obtain ⟨V, cs, bs, Nl, l, nb, rb, hV, hOV, v4, v5, h5, h6_, h7_, h8, h9, h10, h11, h12, h13⟩ := hO
  obtain ⟨o0_, o1_, o2_, o3_, o5_, o6_, o7_⟩ := id hOV
  have htO : tO i = 30 + 10 * i := rfl
  obtain ⟨Vn, n0, n1, n2, n3, hVn, z0, z1, z2, z3, z4, z5, z6, z7, z8, q0, q1, q2, q3, hgn⟩ := id hN
  obtain ⟨Vc, -, -, -, hVc, -⟩ := id h5
  have hok := ho.k
  have hkk : (σ.O i).k = 0 ∨ (σ.O i).k = 1 ∨ (σ.O i).k = 2 ∨ (σ.O i).k = 3 := by omega
  rcases hkk with hk | hk | hk | hk
  · have hci : ciO (σ.O i).k = 6 := by rw [hk]; rfl
    have hVk : C (tO i) = some (ev_ob 6 V) := by rw [← hci]; exact hV
    obtain ⟨h6, h7, gs, hts, hgs⟩ := o5_ hk
    refine Wp.aload_n dX3_renewChoices_0 rfl (by first | exact Or.inr ⟨_, rfl⟩ | exact Or.inl rfl) rfl ?_
    refine Wp.get dX3_renewChoices_1 (fl_X3_25 (hci ▸ ciO_is (σ.O i).k)) (hS.at hVk) v4 rfl ?_
    refine Wp.aload_n dX3_renewChoices_4 rfl (by first | exact Or.inr ⟨_, rfl⟩ | exact Or.inl rfl) rfl ?_
    refine Wp.get dX3_renewChoices_5 fl_X3_38 (hS.at hVn) z7 rfl ?_
    refine Wp.icmp_eq (tgt := 36) (n := 11) dX3_renewChoices_8 (by decide) rfl (fun c_8 => ?_) (fun c_8 => ?_)
    · have c_8 : cs = ns := (iI_eq (by omega) (by omega) (by omega) (by omega)).mp (by rw [← nI_iI]; exact c_8)
      exact Wp.vret dX3_renewChoices_36 rfl (by
        obtain ⟨e1, e2⟩ := h12 c_8
        rw [e1, e2] at h5
        exact ⟨rfl, A, C, cap, len, hS, CG.rfl, Nat.le_refl _, Nat.le_refl _, fun _ _ => rfl, fun _ _ => rfl, V, bs, nb, rb, hV, hOV, by rw [v4, c_8, nI_iI], v5, h5, h6_, h7_, h8, h9, h11, h13 c_8⟩)
    · skip
      refine Wp.aload_n dX3_renewChoices_11 rfl (by first | exact Or.inr ⟨_, rfl⟩ | exact Or.inl rfl) rfl ?_
      refine Wp.get dX3_renewChoices_12 (fl_X3_12 (hci ▸ ciO_is (σ.O i).k)) (hS.at hVk) o2_ rfl ?_
      refine Wp.cV dX3_renewChoices_15 cv_X3_43 rfl (by omega) rfl (Nat.le_of_ble_eq_true rfl) (Nat.le_of_ble_eq_true rfl) (hS.at hVc) rfl (c_X1_clear (d := d - 1) hS h5) ?_
      rintro _ h1 ⟨rfl, C1, S1, c1, f1, Ch1⟩
      dsimp only [Option.toList, List.drop, List.cons_append, List.nil_append]
      refine Wp.aload_n dX3_renewChoices_18 rfl (by first | exact Or.inr ⟨_, rfl⟩ | exact Or.inl rfl) rfl ?_
      refine Wp.aload_n dX3_renewChoices_19 rfl (by first | exact Or.inr ⟨_, rfl⟩ | exact Or.inl rfl) rfl ?_
      refine Wp.cU dX3_renewChoices_20 cu_X3_46_6 rfl (by omega) rfl (Nat.le_of_ble_eq_true rfl) (Nat.le_of_ble_eq_true rfl) (S1.at ((f1 (tO i) (by omega)).trans hVk)) rfl (c_X7_gather (d := d - 1) (t := tO i) (o := σ.O i) hW ho S1 (hN.same (fun t h1 h2 => f1 t (by omega)) (fun _ _ _ => rfl)) ⟨(f1 (tO i) (by omega)).trans (by rw [← show ciO (σ.O i).k = 6 from by rw [hk]; rfl]; exact hV), o2_, by omega, by omega⟩ (Ch1 σ.N) h6_ rfl rfl (hk) h6 h7 (ts := tO i + 7) ((f1 (tO i + 7) (by omega)).trans hts) hgs (by omega) (by omega)) ?_
      rintro _ h2 ⟨rfl, A2, C2, cap2, S2, c2, hc2, ok2, a2, f2, Ch2⟩
      dsimp only [Option.toList, List.drop, List.cons_append, List.nil_append]
      have c2_ := c1.tr c2
      rw [show A (tO i) = A2 (tO i) from (a2 _ (by omega)).symm, show A 1 = A2 1 from (a2 1 (by omega)).symm]
      refine Wp.aload_n dX3_renewChoices_23 rfl (by first | exact Or.inr ⟨_, rfl⟩ | exact Or.inl rfl) rfl ?_
      refine Wp.aload_n dX3_renewChoices_24 rfl (by first | exact Or.inr ⟨_, rfl⟩ | exact Or.inl rfl) rfl ?_
      refine Wp.get dX3_renewChoices_25 fl_X3_38 (S2.at ((f2 (1) (by omega)).trans ((f1 (1) (by omega)).trans hVn))) z7 rfl ?_
      refine Wp.put dX3_renewChoices_28 (fp_X3_25 (hci ▸ ciO_is (σ.O i).k)) (S2.at ((f2 (tO i) (by omega)).trans ((f1 (tO i) (by omega)).trans hVk))) rfl rfl rfl ?_
      refine S2.put ((f2 (tO i) (by omega)).trans ((f1 (tO i) (by omega)).trans hVk)) ?_
      intro h28 C28 V28 S28 o28 e28 w28 x28 f28
      have o28 := c2_.tr o28
      refine Wp.aload_n dX3_renewChoices_31 rfl (by first | exact Or.inr ⟨_, rfl⟩ | exact Or.inl rfl) rfl ?_
      refine Wp.iconst (v := (-1)) dX3_renewChoices_32 (by decide) rfl ?_
      refine Wp.put dX3_renewChoices_33 (fp_X3_29 (hci ▸ ciO_is (σ.O i).k)) (S28.at e28) rfl rfl rfl ?_
      refine S28.put e28 ?_
      intro h33 C33 V33 S33 o33 e33 w33 x33 f33
      have o33 := o28.tr o33
      exact Wp.vret dX3_renewChoices_36 rfl (by
        refine ⟨rfl, A2, _, cap2, len, S33, o33.le (by omega), hc2, Nat.le_refl _, fun t ht => a2 t (by omega), fun t ht => (f33 t (by omega)).trans ((f28 t (by omega)).trans ((f2 t (by omega)).trans (f1 t (by omega)))), ?_⟩
        have hh : tO i = 30 + 10 * i := rfl
        refine ⟨_, -1, nb, rb, (by rw [hci]; exact e33), ?_, ((x33 4 (by decide)).trans w28), (by rw [w33]; rfl), ?_, ok2, ?_, h8, h9, ⟨by omega, by omega⟩, fun z => absurd z (by omega)⟩
        · refine OfV.same (A := A) (C := C) ?_ (fun t q1 q2 q3 => a2 t (by omega)) ((f33 _ (by omega)).trans ((f28 _ (by omega)).trans ((f2 _ (by omega)).trans (f1 _ (by omega)))))
          have xx : ∀ j, j ≠ 4 → j ≠ 5 → V33 j = V j := fun j h1 h2 => (x33 j h2).trans (x28 j h1)
          refine ⟨(xx 0 (by decide) (by decide)).trans o0_, (xx 1 (by decide) (by decide)).trans o1_, (xx 2 (by decide) (by decide)).trans o2_, (xx 3 (by decide) (by decide)).trans o3_, fun z => ?_, fun z => ?_, fun z => ?_⟩
          · rw [xx 6 (by decide) (by decide), xx 7 (by decide) (by decide)]; exact o5_ z
          · rw [xx 6 (by decide) (by decide), xx 7 (by decide) (by decide)]; exact o6_ z
          · rw [xx 6 (by decide) (by decide)]; exact o7_ z
        · rw [gat_ch hW.net ho] at Ch2
          exact Ch2.same (fun t q1 q2 => (f33 t (by omega)).trans (f28 t (by omega))) (fun _ _ _ => rfl)
        · exact h7_.same ((f33 _ (by omega)).trans ((f28 _ (by omega)).trans ((f2 _ (by omega)).trans (f1 _ (by omega))))) ((f33 _ (by omega)).trans ((f28 _ (by omega)).trans ((f2 _ (by omega)).trans (f1 _ (by omega))))) (a2 _ (by omega)))
  · have hci : ciO (σ.O i).k = 7 := by rw [hk]; rfl
    have hVk : C (tO i) = some (ev_ob 7 V) := by rw [← hci]; exact hV
    refine Wp.aload_n dX3_renewChoices_0 rfl (by first | exact Or.inr ⟨_, rfl⟩ | exact Or.inl rfl) rfl ?_
    refine Wp.get dX3_renewChoices_1 (fl_X3_25 (hci ▸ ciO_is (σ.O i).k)) (hS.at hVk) v4 rfl ?_
    refine Wp.aload_n dX3_renewChoices_4 rfl (by first | exact Or.inr ⟨_, rfl⟩ | exact Or.inl rfl) rfl ?_
    refine Wp.get dX3_renewChoices_5 fl_X3_38 (hS.at hVn) z7 rfl ?_
    refine Wp.icmp_eq (tgt := 36) (n := 11) dX3_renewChoices_8 (by decide) rfl (fun c_8 => ?_) (fun c_8 => ?_)
    · have c_8 : cs = ns := (iI_eq (by omega) (by omega) (by omega) (by omega)).mp (by rw [← nI_iI]; exact c_8)
      exact Wp.vret dX3_renewChoices_36 rfl (by
        obtain ⟨e1, e2⟩ := h12 c_8
        rw [e1, e2] at h5
        exact ⟨rfl, A, C, cap, len, hS, CG.rfl, Nat.le_refl _, Nat.le_refl _, fun _ _ => rfl, fun _ _ => rfl, V, bs, nb, rb, hV, hOV, by rw [v4, c_8, nI_iI], v5, h5, h6_, h7_, h8, h9, h11, h13 c_8⟩)
    · skip
      refine Wp.aload_n dX3_renewChoices_11 rfl (by first | exact Or.inr ⟨_, rfl⟩ | exact Or.inl rfl) rfl ?_
      refine Wp.get dX3_renewChoices_12 (fl_X3_12 (hci ▸ ciO_is (σ.O i).k)) (hS.at hVk) o2_ rfl ?_
      refine Wp.cV dX3_renewChoices_15 cv_X3_43 rfl (by omega) rfl (Nat.le_of_ble_eq_true rfl) (Nat.le_of_ble_eq_true rfl) (hS.at hVc) rfl (c_X1_clear (d := d - 1) hS h5) ?_
      rintro _ h1 ⟨rfl, C1, S1, c1, f1, Ch1⟩
      dsimp only [Option.toList, List.drop, List.cons_append, List.nil_append]
      refine Wp.aload_n dX3_renewChoices_18 rfl (by first | exact Or.inr ⟨_, rfl⟩ | exact Or.inl rfl) rfl ?_
      refine Wp.aload_n dX3_renewChoices_19 rfl (by first | exact Or.inr ⟨_, rfl⟩ | exact Or.inl rfl) rfl ?_
      refine Wp.cU dX3_renewChoices_20 cu_X3_46_7 rfl (by omega) rfl (Nat.le_of_ble_eq_true rfl) (Nat.le_of_ble_eq_true rfl) (S1.at ((f1 (tO i) (by omega)).trans hVk)) rfl (c_X8_gather (d := d - 1) (t := tO i) (o := σ.O i) hW ho S1 (hN.same (fun t h1 h2 => f1 t (by omega)) (fun _ _ _ => rfl)) ⟨(f1 (tO i) (by omega)).trans (by rw [← show ciO (σ.O i).k = 7 from by rw [hk]; rfl]; exact hV), o2_, by omega, by omega⟩ (Ch1 σ.N) h6_ rfl rfl hk (by omega)) ?_
      rintro _ h2 ⟨rfl, A2, C2, cap2, S2, c2, hc2, ok2, a2, f2, Ch2⟩
      dsimp only [Option.toList, List.drop, List.cons_append, List.nil_append]
      have c2_ := c1.tr c2
      rw [show A (tO i) = A2 (tO i) from (a2 _ (by omega)).symm, show A 1 = A2 1 from (a2 1 (by omega)).symm]
      refine Wp.aload_n dX3_renewChoices_23 rfl (by first | exact Or.inr ⟨_, rfl⟩ | exact Or.inl rfl) rfl ?_
      refine Wp.aload_n dX3_renewChoices_24 rfl (by first | exact Or.inr ⟨_, rfl⟩ | exact Or.inl rfl) rfl ?_
      refine Wp.get dX3_renewChoices_25 fl_X3_38 (S2.at ((f2 (1) (by omega)).trans ((f1 (1) (by omega)).trans hVn))) z7 rfl ?_
      refine Wp.put dX3_renewChoices_28 (fp_X3_25 (hci ▸ ciO_is (σ.O i).k)) (S2.at ((f2 (tO i) (by omega)).trans ((f1 (tO i) (by omega)).trans hVk))) rfl rfl rfl ?_
      refine S2.put ((f2 (tO i) (by omega)).trans ((f1 (tO i) (by omega)).trans hVk)) ?_
      intro h28 C28 V28 S28 o28 e28 w28 x28 f28
      have o28 := c2_.tr o28
      refine Wp.aload_n dX3_renewChoices_31 rfl (by first | exact Or.inr ⟨_, rfl⟩ | exact Or.inl rfl) rfl ?_
      refine Wp.iconst (v := (-1)) dX3_renewChoices_32 (by decide) rfl ?_
      refine Wp.put dX3_renewChoices_33 (fp_X3_29 (hci ▸ ciO_is (σ.O i).k)) (S28.at e28) rfl rfl rfl ?_
      refine S28.put e28 ?_
      intro h33 C33 V33 S33 o33 e33 w33 x33 f33
      have o33 := o28.tr o33
      exact Wp.vret dX3_renewChoices_36 rfl (by
        refine ⟨rfl, A2, _, cap2, len, S33, o33.le (by omega), hc2, Nat.le_refl _, fun t ht => a2 t (by omega), fun t ht => (f33 t (by omega)).trans ((f28 t (by omega)).trans ((f2 t (by omega)).trans (f1 t (by omega)))), ?_⟩
        have hh : tO i = 30 + 10 * i := rfl
        refine ⟨_, -1, nb, rb, (by rw [hci]; exact e33), ?_, ((x33 4 (by decide)).trans w28), (by rw [w33]; rfl), ?_, ok2, ?_, h8, h9, ⟨by omega, by omega⟩, fun z => absurd z (by omega)⟩
        · refine OfV.same (A := A) (C := C) ?_ (fun t q1 q2 q3 => a2 t (by omega)) ((f33 _ (by omega)).trans ((f28 _ (by omega)).trans ((f2 _ (by omega)).trans (f1 _ (by omega)))))
          have xx : ∀ j, j ≠ 4 → j ≠ 5 → V33 j = V j := fun j h1 h2 => (x33 j h2).trans (x28 j h1)
          refine ⟨(xx 0 (by decide) (by decide)).trans o0_, (xx 1 (by decide) (by decide)).trans o1_, (xx 2 (by decide) (by decide)).trans o2_, (xx 3 (by decide) (by decide)).trans o3_, fun z => ?_, fun z => ?_, fun z => ?_⟩
          · rw [xx 6 (by decide) (by decide), xx 7 (by decide) (by decide)]; exact o5_ z
          · rw [xx 6 (by decide) (by decide), xx 7 (by decide) (by decide)]; exact o6_ z
          · rw [xx 6 (by decide) (by decide)]; exact o7_ z
        · rw [gat_ch hW.net ho] at Ch2
          exact Ch2.same (fun t q1 q2 => (f33 t (by omega)).trans (f28 t (by omega))) (fun _ _ _ => rfl)
        · exact h7_.same ((f33 _ (by omega)).trans ((f28 _ (by omega)).trans ((f2 _ (by omega)).trans (f1 _ (by omega))))) ((f33 _ (by omega)).trans ((f28 _ (by omega)).trans ((f2 _ (by omega)).trans (f1 _ (by omega))))) (a2 _ (by omega)))
  · have hci : ciO (σ.O i).k = 8 := by rw [hk]; rfl
    have hVk : C (tO i) = some (ev_ob 8 V) := by rw [← hci]; exact hV
    obtain ⟨h6, h7⟩ := o6_ hk
    refine Wp.aload_n dX3_renewChoices_0 rfl (by first | exact Or.inr ⟨_, rfl⟩ | exact Or.inl rfl) rfl ?_
    refine Wp.get dX3_renewChoices_1 (fl_X3_25 (hci ▸ ciO_is (σ.O i).k)) (hS.at hVk) v4 rfl ?_
    refine Wp.aload_n dX3_renewChoices_4 rfl (by first | exact Or.inr ⟨_, rfl⟩ | exact Or.inl rfl) rfl ?_
    refine Wp.get dX3_renewChoices_5 fl_X3_38 (hS.at hVn) z7 rfl ?_
    refine Wp.icmp_eq (tgt := 36) (n := 11) dX3_renewChoices_8 (by decide) rfl (fun c_8 => ?_) (fun c_8 => ?_)
    · have c_8 : cs = ns := (iI_eq (by omega) (by omega) (by omega) (by omega)).mp (by rw [← nI_iI]; exact c_8)
      exact Wp.vret dX3_renewChoices_36 rfl (by
        obtain ⟨e1, e2⟩ := h12 c_8
        rw [e1, e2] at h5
        exact ⟨rfl, A, C, cap, len, hS, CG.rfl, Nat.le_refl _, Nat.le_refl _, fun _ _ => rfl, fun _ _ => rfl, V, bs, nb, rb, hV, hOV, by rw [v4, c_8, nI_iI], v5, h5, h6_, h7_, h8, h9, h11, h13 c_8⟩)
    · skip
      refine Wp.aload_n dX3_renewChoices_11 rfl (by first | exact Or.inr ⟨_, rfl⟩ | exact Or.inl rfl) rfl ?_
      refine Wp.get dX3_renewChoices_12 (fl_X3_12 (hci ▸ ciO_is (σ.O i).k)) (hS.at hVk) o2_ rfl ?_
      refine Wp.cV dX3_renewChoices_15 cv_X3_43 rfl (by omega) rfl (Nat.le_of_ble_eq_true rfl) (Nat.le_of_ble_eq_true rfl) (hS.at hVc) rfl (c_X1_clear (d := d - 1) hS h5) ?_
      rintro _ h1 ⟨rfl, C1, S1, c1, f1, Ch1⟩
      dsimp only [Option.toList, List.drop, List.cons_append, List.nil_append]
      refine Wp.aload_n dX3_renewChoices_18 rfl (by first | exact Or.inr ⟨_, rfl⟩ | exact Or.inl rfl) rfl ?_
      refine Wp.aload_n dX3_renewChoices_19 rfl (by first | exact Or.inr ⟨_, rfl⟩ | exact Or.inl rfl) rfl ?_
      refine Wp.cU dX3_renewChoices_20 cu_X3_46_8 rfl (by omega) rfl (Nat.le_of_ble_eq_true rfl) (Nat.le_of_ble_eq_true rfl) (S1.at ((f1 (tO i) (by omega)).trans hVk)) rfl (c_X9_gather (d := d - 1) (t := tO i) (o := σ.O i) hW ho S1 (hN.same (fun t h1 h2 => f1 t (by omega)) (fun _ _ _ => rfl)) ⟨(f1 (tO i) (by omega)).trans (by rw [← show ciO (σ.O i).k = 8 from by rw [hk]; rfl]; exact hV), o2_, by omega, by omega⟩ (Ch1 σ.N) h6_ rfl rfl hk h6 h7 (by omega)) ?_
      rintro _ h2 ⟨rfl, A2, C2, cap2, S2, c2, hc2, ok2, a2, f2, Ch2⟩
      dsimp only [Option.toList, List.drop, List.cons_append, List.nil_append]
      have c2_ := c1.tr c2
      rw [show A (tO i) = A2 (tO i) from (a2 _ (by omega)).symm, show A 1 = A2 1 from (a2 1 (by omega)).symm]
      refine Wp.aload_n dX3_renewChoices_23 rfl (by first | exact Or.inr ⟨_, rfl⟩ | exact Or.inl rfl) rfl ?_
      refine Wp.aload_n dX3_renewChoices_24 rfl (by first | exact Or.inr ⟨_, rfl⟩ | exact Or.inl rfl) rfl ?_
      refine Wp.get dX3_renewChoices_25 fl_X3_38 (S2.at ((f2 (1) (by omega)).trans ((f1 (1) (by omega)).trans hVn))) z7 rfl ?_
      refine Wp.put dX3_renewChoices_28 (fp_X3_25 (hci ▸ ciO_is (σ.O i).k)) (S2.at ((f2 (tO i) (by omega)).trans ((f1 (tO i) (by omega)).trans hVk))) rfl rfl rfl ?_
      refine S2.put ((f2 (tO i) (by omega)).trans ((f1 (tO i) (by omega)).trans hVk)) ?_
      intro h28 C28 V28 S28 o28 e28 w28 x28 f28
      have o28 := c2_.tr o28
      refine Wp.aload_n dX3_renewChoices_31 rfl (by first | exact Or.inr ⟨_, rfl⟩ | exact Or.inl rfl) rfl ?_
      refine Wp.iconst (v := (-1)) dX3_renewChoices_32 (by decide) rfl ?_
      refine Wp.put dX3_renewChoices_33 (fp_X3_29 (hci ▸ ciO_is (σ.O i).k)) (S28.at e28) rfl rfl rfl ?_
      refine S28.put e28 ?_
      intro h33 C33 V33 S33 o33 e33 w33 x33 f33
      have o33 := o28.tr o33
      exact Wp.vret dX3_renewChoices_36 rfl (by
        refine ⟨rfl, A2, _, cap2, len, S33, o33.le (by omega), hc2, Nat.le_refl _, fun t ht => a2 t (by omega), fun t ht => (f33 t (by omega)).trans ((f28 t (by omega)).trans ((f2 t (by omega)).trans (f1 t (by omega)))), ?_⟩
        have hh : tO i = 30 + 10 * i := rfl
        refine ⟨_, -1, nb, rb, (by rw [hci]; exact e33), ?_, ((x33 4 (by decide)).trans w28), (by rw [w33]; rfl), ?_, ok2, ?_, h8, h9, ⟨by omega, by omega⟩, fun z => absurd z (by omega)⟩
        · refine OfV.same (A := A) (C := C) ?_ (fun t q1 q2 q3 => a2 t (by omega)) ((f33 _ (by omega)).trans ((f28 _ (by omega)).trans ((f2 _ (by omega)).trans (f1 _ (by omega)))))
          have xx : ∀ j, j ≠ 4 → j ≠ 5 → V33 j = V j := fun j h1 h2 => (x33 j h2).trans (x28 j h1)
          refine ⟨(xx 0 (by decide) (by decide)).trans o0_, (xx 1 (by decide) (by decide)).trans o1_, (xx 2 (by decide) (by decide)).trans o2_, (xx 3 (by decide) (by decide)).trans o3_, fun z => ?_, fun z => ?_, fun z => ?_⟩
          · rw [xx 6 (by decide) (by decide), xx 7 (by decide) (by decide)]; exact o5_ z
          · rw [xx 6 (by decide) (by decide), xx 7 (by decide) (by decide)]; exact o6_ z
          · rw [xx 6 (by decide) (by decide)]; exact o7_ z
        · rw [gat_ch hW.net ho] at Ch2
          exact Ch2.same (fun t q1 q2 => (f33 t (by omega)).trans (f28 t (by omega))) (fun _ _ _ => rfl)
        · exact h7_.same ((f33 _ (by omega)).trans ((f28 _ (by omega)).trans ((f2 _ (by omega)).trans (f1 _ (by omega))))) ((f33 _ (by omega)).trans ((f28 _ (by omega)).trans ((f2 _ (by omega)).trans (f1 _ (by omega))))) (a2 _ (by omega)))
  · have hci : ciO (σ.O i).k = 3 := by rw [hk]; rfl
    have hVk : C (tO i) = some (ev_ob 3 V) := by rw [← hci]; exact hV
    have h6 := o7_ hk
    refine Wp.aload_n dX3_renewChoices_0 rfl (by first | exact Or.inr ⟨_, rfl⟩ | exact Or.inl rfl) rfl ?_
    refine Wp.get dX3_renewChoices_1 (fl_X3_25 (hci ▸ ciO_is (σ.O i).k)) (hS.at hVk) v4 rfl ?_
    refine Wp.aload_n dX3_renewChoices_4 rfl (by first | exact Or.inr ⟨_, rfl⟩ | exact Or.inl rfl) rfl ?_
    refine Wp.get dX3_renewChoices_5 fl_X3_38 (hS.at hVn) z7 rfl ?_
    refine Wp.icmp_eq (tgt := 36) (n := 11) dX3_renewChoices_8 (by decide) rfl (fun c_8 => ?_) (fun c_8 => ?_)
    · have c_8 : cs = ns := (iI_eq (by omega) (by omega) (by omega) (by omega)).mp (by rw [← nI_iI]; exact c_8)
      exact Wp.vret dX3_renewChoices_36 rfl (by
        obtain ⟨e1, e2⟩ := h12 c_8
        rw [e1, e2] at h5
        exact ⟨rfl, A, C, cap, len, hS, CG.rfl, Nat.le_refl _, Nat.le_refl _, fun _ _ => rfl, fun _ _ => rfl, V, bs, nb, rb, hV, hOV, by rw [v4, c_8, nI_iI], v5, h5, h6_, h7_, h8, h9, h11, h13 c_8⟩)
    · skip
      refine Wp.aload_n dX3_renewChoices_11 rfl (by first | exact Or.inr ⟨_, rfl⟩ | exact Or.inl rfl) rfl ?_
      refine Wp.get dX3_renewChoices_12 (fl_X3_12 (hci ▸ ciO_is (σ.O i).k)) (hS.at hVk) o2_ rfl ?_
      refine Wp.cV dX3_renewChoices_15 cv_X3_43 rfl (by omega) rfl (Nat.le_of_ble_eq_true rfl) (Nat.le_of_ble_eq_true rfl) (hS.at hVc) rfl (c_X1_clear (d := d - 1) hS h5) ?_
      rintro _ h1 ⟨rfl, C1, S1, c1, f1, Ch1⟩
      dsimp only [Option.toList, List.drop, List.cons_append, List.nil_append]
      refine Wp.aload_n dX3_renewChoices_18 rfl (by first | exact Or.inr ⟨_, rfl⟩ | exact Or.inl rfl) rfl ?_
      refine Wp.aload_n dX3_renewChoices_19 rfl (by first | exact Or.inr ⟨_, rfl⟩ | exact Or.inl rfl) rfl ?_
      refine Wp.cU dX3_renewChoices_20 cu_X3_46_3 rfl (by omega) rfl (Nat.le_of_ble_eq_true rfl) (Nat.le_of_ble_eq_true rfl) (S1.at ((f1 (tO i) (by omega)).trans hVk)) rfl (c_X4_gather (d := d - 1) (t := tO i) (o := σ.O i) hW ho S1 (hN.same (fun t h1 h2 => f1 t (by omega)) (fun _ _ _ => rfl)) ⟨(f1 (tO i) (by omega)).trans (by rw [← show ciO (σ.O i).k = 3 from by rw [hk]; rfl]; exact hV), o2_, by omega, by omega⟩ (Ch1 σ.N) h6_ rfl rfl hk h6 (by omega)) ?_
      rintro _ h2 ⟨rfl, A2, C2, cap2, S2, c2, hc2, ok2, a2, f2, Ch2⟩
      dsimp only [Option.toList, List.drop, List.cons_append, List.nil_append]
      have c2_ := c1.tr c2
      rw [show A (tO i) = A2 (tO i) from (a2 _ (by omega)).symm, show A 1 = A2 1 from (a2 1 (by omega)).symm]
      refine Wp.aload_n dX3_renewChoices_23 rfl (by first | exact Or.inr ⟨_, rfl⟩ | exact Or.inl rfl) rfl ?_
      refine Wp.aload_n dX3_renewChoices_24 rfl (by first | exact Or.inr ⟨_, rfl⟩ | exact Or.inl rfl) rfl ?_
      refine Wp.get dX3_renewChoices_25 fl_X3_38 (S2.at ((f2 (1) (by omega)).trans ((f1 (1) (by omega)).trans hVn))) z7 rfl ?_
      refine Wp.put dX3_renewChoices_28 (fp_X3_25 (hci ▸ ciO_is (σ.O i).k)) (S2.at ((f2 (tO i) (by omega)).trans ((f1 (tO i) (by omega)).trans hVk))) rfl rfl rfl ?_
      refine S2.put ((f2 (tO i) (by omega)).trans ((f1 (tO i) (by omega)).trans hVk)) ?_
      intro h28 C28 V28 S28 o28 e28 w28 x28 f28
      have o28 := c2_.tr o28
      refine Wp.aload_n dX3_renewChoices_31 rfl (by first | exact Or.inr ⟨_, rfl⟩ | exact Or.inl rfl) rfl ?_
      refine Wp.iconst (v := (-1)) dX3_renewChoices_32 (by decide) rfl ?_
      refine Wp.put dX3_renewChoices_33 (fp_X3_29 (hci ▸ ciO_is (σ.O i).k)) (S28.at e28) rfl rfl rfl ?_
      refine S28.put e28 ?_
      intro h33 C33 V33 S33 o33 e33 w33 x33 f33
      have o33 := o28.tr o33
      exact Wp.vret dX3_renewChoices_36 rfl (by
        refine ⟨rfl, A2, _, cap2, len, S33, o33.le (by omega), hc2, Nat.le_refl _, fun t ht => a2 t (by omega), fun t ht => (f33 t (by omega)).trans ((f28 t (by omega)).trans ((f2 t (by omega)).trans (f1 t (by omega)))), ?_⟩
        have hh : tO i = 30 + 10 * i := rfl
        refine ⟨_, -1, nb, rb, (by rw [hci]; exact e33), ?_, ((x33 4 (by decide)).trans w28), (by rw [w33]; rfl), ?_, ok2, ?_, h8, h9, ⟨by omega, by omega⟩, fun z => absurd z (by omega)⟩
        · refine OfV.same (A := A) (C := C) ?_ (fun t q1 q2 q3 => a2 t (by omega)) ((f33 _ (by omega)).trans ((f28 _ (by omega)).trans ((f2 _ (by omega)).trans (f1 _ (by omega)))))
          have xx : ∀ j, j ≠ 4 → j ≠ 5 → V33 j = V j := fun j h1 h2 => (x33 j h2).trans (x28 j h1)
          refine ⟨(xx 0 (by decide) (by decide)).trans o0_, (xx 1 (by decide) (by decide)).trans o1_, (xx 2 (by decide) (by decide)).trans o2_, (xx 3 (by decide) (by decide)).trans o3_, fun z => ?_, fun z => ?_, fun z => ?_⟩
          · rw [xx 6 (by decide) (by decide), xx 7 (by decide) (by decide)]; exact o5_ z
          · rw [xx 6 (by decide) (by decide), xx 7 (by decide) (by decide)]; exact o6_ z
          · rw [xx 6 (by decide) (by decide)]; exact o7_ z
        · rw [gat_ch hW.net ho] at Ch2
          exact Ch2.same (fun t q1 q2 => (f33 t (by omega)).trans (f28 t (by omega))) (fun _ _ _ => rfl)
        · exact h7_.same ((f33 _ (by omega)).trans ((f28 _ (by omega)).trans ((f2 _ (by omega)).trans (f1 _ (by omega))))) ((f33 _ (by omega)).trans ((f28 _ (by omega)).trans ((f2 _ (by omega)).trans (f1 _ (by omega))))) (a2 _ (by omega)))
theorem OfS.out {A : Nat → Nat} {C C' : Nat → Option ev_E} {σ σ' : Sg} {ns ws i cap len : Nat} {V V' : Nat → Value} (h : OfS A C σ ns ws i cap len) (hV : C (tO i) = some (ev_ob (ciO (σ.O i).k) V)) (f : ∀ t, tO i < t → t < tO i + 7 → C' t = C t) (hV' : C' (tO i) = some (ev_ob (ciO (σ'.O i).k) V')) (hOV : OfV A C' i (σ'.O i) V') (h4 : V' 4 = .int (-1)) (h5 : V' 5 = V 5) : OfS A C' σ' ns ws i cap len := by
  obtain ⟨V0, cs, bs, Nl, l, nb, rb, g1, g2, g3, g4, g5, g6, g7, g8, g9, g10, g11, g12, g13⟩ := h
  have e : V0 = V := by rw [g1] at hV; cases hV; rfl
  subst e
  exact ⟨V', -1, bs, Nl, l, nb, rb, hV', hOV, by rw [h4]; rfl, h5.trans g4, g5.same (fun t q1 q2 => f t (by omega) (by omega)) (fun _ _ _ => rfl), g6, g7.same (f _ (by omega) (by omega)) (f _ (by omega) (by omega)) rfl, g8, g9, ⟨by omega, by omega⟩, g11, fun z => absurd z (by omega), fun z => absurd z (by omega)⟩
theorem c_X3_outdate {B : ev_B} {d t ci : Nat} {X : Nat → Prop} {h : ev_H} {A : Nat → Nat} {C : Nat → Option ev_E} {V : Nat → Value} (hS : CS X h A C) (hO : ev_isO ci) (hV : C t = some (ev_ob ci V)) :
    Wp B d M_X3_outdate 0 [some (.ref (A t))] [] h (fun v h' => v = none ∧ ∃ C' V', CS X h' A C' ∧ CG X h h' 0 ∧ (∀ s, s ≠ t → C' s = C s) ∧ C' t = some (ev_ob ci V') ∧ V' 4 = .int (-1) ∧ ∀ j, j ≠ 4 → V' j = V j) := by
  refine Wp.aload_n dX3_outdate_0 rfl (by first | exact Or.inr ⟨_, rfl⟩ | exact Or.inl rfl) rfl ?_
  refine Wp.iconst (v := (-1)) dX3_outdate_1 (by decide) rfl ?_
  refine Wp.put dX3_outdate_2 (fp_X3_25 hO) (hS.at hV) rfl rfl rfl ?_
  refine hS.put hV ?_
  intro h2 C2 V2 S2 o2 e2 w2 x2 f2
  exact Wp.vret dX3_outdate_5 rfl (by exact ⟨rfl, _, _, S2, o2, f2, e2, w2, x2⟩)
