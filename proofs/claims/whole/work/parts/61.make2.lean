/-! the class: offers made -/
/-- a new offer in the store -/
def NewO (X : Nat → Prop) (h : ev_H) (A : Nat → Nat) (C : Nat → Option ev_E) (i : Nat) (o : Of) (v : Option Value) (h' : ev_H) : Prop := v = none ∧ ∃ A' C' V', CS X h' A' C' ∧ CG X h h' 49 ∧ (∀ s, s ≤ tO i ∨ tO i + 7 < s → A' s = A s) ∧ (∀ s, s < tO i ∨ tO i + 7 < s → C' s = C s) ∧ C' (tO i) = some (ev_ob (ciO o.k) V') ∧ OfV A' C' i o V' ∧ V' 4 = .int (-1) ∧ V' 5 = .int (-1) ∧ (∀ N, ChoS A' C' (tO i + 1) N [] 8) ∧ ∀ rv, RowS A' C' (tO i + 5) 0 rv 4
theorem c_X7_init {B : ev_B} {d i a  : Nat} {X : Nat → Prop} {h : ev_H} {A : Nat → Nat} {C : Nat → Option ev_E} (hS : CS X h A C) (ha : A (tO i) = a) (hb : C (tO i) = some (ev_ob 6 ev_v6)) (f0 : ∀ s, tO i < s → s ≤ tO i + 7 → C s = none) (hd : 6 ≤ d) :
    Wp B d M_X7_init 0 [some (.ref a), some (.int (nI i))] [] h (NewO X h A C i (Of.new 0 0 0)) := by
  have htO : tO i = 30 + 10 * i := rfl
  refine Wp.aload_n dX7_init_0 rfl (by first | exact Or.inr ⟨_, rfl⟩ | exact Or.inl rfl) rfl ?_
  refine Wp.iload_n dX7_init_1 rfl rfl ?_
  refine Wp.iconst (v := (nI 0)) dX7_init_2 (by decide) rfl ?_
  refine Wp.cI dX7_init_3 ci_X7_3 rfl (by omega) rfl (Nat.le_of_ble_eq_true rfl) (Nat.le_of_ble_eq_true rfl) rfl (c_X3_init (d := d - 1) (b := tO i) hS ha (Or.inr (Or.inl rfl)) hb (fun s q1 q2 => f0 s q1 (by omega)) (by omega)) ?_
  rintro _ h1 ⟨rfl, A1, C1, V1, S1, o1, a1, f1, b1, y0, y1, y2, y3, y4, y5, y6, ch1, r1⟩
  dsimp only [Option.toList, List.drop, List.cons_append, List.nil_append]
  refine Wp.aload_n dX7_init_6 rfl (by first | exact Or.inr ⟨_, rfl⟩ | exact Or.inl rfl) rfl ?_
  refine Wp.bipush (v := (nI 8)) dX7_init_7 (by decide) rfl ?_
  refine Wp.newai dX7_init_9 (nI_toInt (n := 8) (by decide)) (by omega) rfl ?_
  refine Wp.putF dX7_init_11 fp_X7_9 rfl (S1.nwat b1 ((a1 _ (by omega)).trans ha)) rfl rfl rfl ?_
  refine S1.mkf ((a1 _ (by omega)).trans ha) b1 (show C1 (tO i + 7) = none from (f1 (tO i + 7) (by omega)).trans (f0 (tO i + 7) (by omega) (by omega))) ?_
  intro h2 A2 C2 V2 S2 o2 a2 e2 b2 w2 x2 f2
  exact Wp.vret dX7_init_14 rfl (by
    refine ⟨rfl, A2, C2, V2, S2, (o1.tr o2).le (by omega), fun s hs => (a2 s (by omega)).trans (a1 s (by omega)), fun s hs => (f2 s (by omega) (by omega)).trans (f1 s (by omega)), b2, ⟨?_, ?_, ?_, ?_, fun _ => ⟨w2, ?_, _, e2, fun j hj => absurd hj (Nat.not_lt_zero j)⟩, fun z => absurd z (by decide), fun z => absurd z (by decide)⟩, ?_, ?_, fun N => (ch1 N).same (fun t q1 q2 => f2 t (by omega) (by omega)) (fun t q1 q2 => a2 t (by omega)), fun rv => (r1 rv).same (f2 _ (by omega) (by omega)) (f2 _ (by omega) (by omega)) (a2 _ (by omega))⟩
    · rw [x2 0 (by decide)]; exact y0
    · rw [x2 1 (by decide)]; exact y1
    · rw [x2 2 (by decide), a2 _ (by omega)]; exact y2
    · rw [x2 3 (by decide), a2 _ (by omega)]; exact y3
    · rw [x2 7 (by decide), y6 7 (by decide)]; rfl
    · rw [x2 4 (by decide)]; exact y4
    · rw [x2 5 (by decide)]; exact y5)
theorem c_X8_init {B : ev_B} {d i a  : Nat} {X : Nat → Prop} {h : ev_H} {A : Nat → Nat} {C : Nat → Option ev_E} (hS : CS X h A C) (ha : A (tO i) = a) (hb : C (tO i) = some (ev_ob 7 ev_v7)) (f0 : ∀ s, tO i < s → s ≤ tO i + 7 → C s = none) (hd : 6 ≤ d) :
    Wp B d M_X8_init 0 [some (.ref a), some (.int (nI i))] [] h (NewO X h A C i (Of.new 1 0 0)) := by
  have htO : tO i = 30 + 10 * i := rfl
  refine Wp.aload_n dX8_init_0 rfl (by first | exact Or.inr ⟨_, rfl⟩ | exact Or.inl rfl) rfl ?_
  refine Wp.iload_n dX8_init_1 rfl rfl ?_
  refine Wp.iconst (v := (nI 1)) dX8_init_2 (by decide) rfl ?_
  refine Wp.cI dX8_init_3 ci_X8_3 rfl (by omega) rfl (Nat.le_of_ble_eq_true rfl) (Nat.le_of_ble_eq_true rfl) rfl (c_X3_init (d := d - 1) (b := tO i) hS ha (Or.inr (Or.inr (Or.inl rfl))) hb (fun s q1 q2 => f0 s q1 (by omega)) (by omega)) ?_
  rintro _ h1 ⟨rfl, A1, C1, V1, S1, o1, a1, f1, b1, y0, y1, y2, y3, y4, y5, y6, ch1, r1⟩
  dsimp only [Option.toList, List.drop, List.cons_append, List.nil_append]
  exact Wp.vret dX8_init_6 rfl (by exact ⟨rfl, A1, C1, V1, S1, o1.le (by omega), fun s hs => a1 s (by omega), fun s hs => f1 s (by omega), b1, ⟨y0, y1, y2, y3, fun z => absurd z (by decide), fun z => absurd z (by decide), fun z => absurd z (by decide)⟩, y4, y5, ch1, r1⟩)
theorem c_X9_init {B : ev_B} {d i a x y : Nat} {X : Nat → Prop} {h : ev_H} {A : Nat → Nat} {C : Nat → Option ev_E} (hS : CS X h A C) (ha : A (tO i) = a) (hb : C (tO i) = some (ev_ob 8 ev_v8)) (f0 : ∀ s, tO i < s → s ≤ tO i + 7 → C s = none) (hd : 6 ≤ d) :
    Wp B d M_X9_init 0 [some (.ref a), some (.int (nI i)), some (.int (nI x)), some (.int (nI y))] [] h (NewO X h A C i (Of.new 2 x y)) := by
  have htO : tO i = 30 + 10 * i := rfl
  refine Wp.aload_n dX9_init_0 rfl (by first | exact Or.inr ⟨_, rfl⟩ | exact Or.inl rfl) rfl ?_
  refine Wp.iload_n dX9_init_1 rfl rfl ?_
  refine Wp.iconst (v := (nI 2)) dX9_init_2 (by decide) rfl ?_
  refine Wp.cI dX9_init_3 ci_X9_3 rfl (by omega) rfl (Nat.le_of_ble_eq_true rfl) (Nat.le_of_ble_eq_true rfl) rfl (c_X3_init (d := d - 1) (b := tO i) hS ha (Or.inr (Or.inr (Or.inr rfl))) hb (fun s q1 q2 => f0 s q1 (by omega)) (by omega)) ?_
  rintro _ h1 ⟨rfl, A1, C1, V1, S1, o1, a1, f1, b1, y0, y1, y2, y3, y4, y5, y6, ch1, r1⟩
  dsimp only [Option.toList, List.drop, List.cons_append, List.nil_append]
  refine Wp.aload_n dX9_init_6 rfl (by first | exact Or.inr ⟨_, rfl⟩ | exact Or.inl rfl) rfl ?_
  refine Wp.iload_n dX9_init_7 rfl rfl ?_
  refine Wp.putF dX9_init_8 fp_X9_9 rfl (S1.at' b1 ((a1 _ (by omega)).trans ha)) rfl rfl rfl ?_
  refine S1.put' ((a1 _ (by omega)).trans ha) b1 ?_
  intro h2 C2 V2 S2 o2 b2 w2 x2 f2
  refine Wp.aload_n dX9_init_11 rfl (by first | exact Or.inr ⟨_, rfl⟩ | exact Or.inl rfl) rfl ?_
  refine Wp.iload_n dX9_init_12 rfl rfl ?_
  refine Wp.putF dX9_init_13 fp_X9_15 rfl (S2.at' b2 ((a1 _ (by omega)).trans ha)) rfl rfl rfl ?_
  refine S2.put' ((a1 _ (by omega)).trans ha) b2 ?_
  intro h3 C3 V3 S3 o3 b3 w3 x3 f3
  exact Wp.vret dX9_init_16 rfl (by
    refine ⟨rfl, A1, C3, V3, S3, (o1.tr (o2.tr o3)).le (by omega), fun s hs => a1 s (by omega), fun s hs => (f3 s (by omega)).trans ((f2 s (by omega)).trans (f1 s (by omega))), b3, ⟨?_, ?_, ?_, ?_, fun z => absurd (show (2 : Nat) = 0 from z) (by decide), fun _ => ⟨?_, w3⟩, fun z => absurd (show (2 : Nat) = 3 from z) (by decide)⟩, ?_, ?_, fun N => (ch1 N).same (fun t q1 q2 => (f3 t (by omega)).trans (f2 t (by omega))) (fun _ _ _ => rfl), fun rv => (r1 rv).same ((f3 _ (by omega)).trans (f2 _ (by omega))) ((f3 _ (by omega)).trans (f2 _ (by omega))) rfl⟩
    · rw [x3 0 (by decide), x2 0 (by decide)]; exact y0
    · rw [x3 1 (by decide), x2 1 (by decide)]; exact y1
    · rw [x3 2 (by decide), x2 2 (by decide)]; exact y2
    · rw [x3 3 (by decide), x2 3 (by decide)]; exact y3
    · rw [x3 6 (by decide)]; exact w2
    · rw [x3 4 (by decide), x2 4 (by decide)]; exact y4
    · rw [x3 5 (by decide), x2 5 (by decide)]; exact y5)
theorem c_X4_init {B : ev_B} {d i a x : Nat} {X : Nat → Prop} {h : ev_H} {A : Nat → Nat} {C : Nat → Option ev_E} (hS : CS X h A C) (ha : A (tO i) = a) (hb : C (tO i) = some (ev_ob 3 ev_v3)) (f0 : ∀ s, tO i < s → s ≤ tO i + 7 → C s = none) (hd : 6 ≤ d) :
    Wp B d M_X4_init 0 [some (.ref a), some (.int (nI i)), some (.int (nI x))] [] h (NewO X h A C i (Of.new 3 x 0)) := by
  have htO : tO i = 30 + 10 * i := rfl
  refine Wp.aload_n dX4_init_0 rfl (by first | exact Or.inr ⟨_, rfl⟩ | exact Or.inl rfl) rfl ?_
  refine Wp.iload_n dX4_init_1 rfl rfl ?_
  refine Wp.iconst (v := (nI 3)) dX4_init_2 (by decide) rfl ?_
  refine Wp.cI dX4_init_3 ci_X4_3 rfl (by omega) rfl (Nat.le_of_ble_eq_true rfl) (Nat.le_of_ble_eq_true rfl) rfl (c_X3_init (d := d - 1) (b := tO i) hS ha (Or.inl rfl) hb (fun s q1 q2 => f0 s q1 (by omega)) (by omega)) ?_
  rintro _ h1 ⟨rfl, A1, C1, V1, S1, o1, a1, f1, b1, y0, y1, y2, y3, y4, y5, y6, ch1, r1⟩
  dsimp only [Option.toList, List.drop, List.cons_append, List.nil_append]
  refine Wp.aload_n dX4_init_6 rfl (by first | exact Or.inr ⟨_, rfl⟩ | exact Or.inl rfl) rfl ?_
  refine Wp.iload_n dX4_init_7 rfl rfl ?_
  refine Wp.putF dX4_init_8 fp_X4_9 rfl (S1.at' b1 ((a1 _ (by omega)).trans ha)) rfl rfl rfl ?_
  refine S1.put' ((a1 _ (by omega)).trans ha) b1 ?_
  intro h2 C2 V2 S2 o2 b2 w2 x2 f2
  exact Wp.vret dX4_init_11 rfl (by
    refine ⟨rfl, A1, C2, V2, S2, (o1.tr o2).le (by omega), fun s hs => a1 s (by omega), fun s hs => (f2 s (by omega)).trans (f1 s (by omega)), b2, ⟨?_, ?_, ?_, ?_, fun z => absurd (show (3 : Nat) = 0 from z) (by decide), fun z => absurd (show (3 : Nat) = 2 from z) (by decide), fun _ => w2⟩, ?_, ?_, fun N => (ch1 N).same (fun t q1 q2 => f2 t (by omega)) (fun _ _ _ => rfl), fun rv => (r1 rv).same (f2 _ (by omega)) (f2 _ (by omega)) rfl⟩
    · rw [x2 0 (by decide)]; exact y0
    · rw [x2 1 (by decide)]; exact y1
    · rw [x2 2 (by decide)]; exact y2
    · rw [x2 3 (by decide)]; exact y3
    · rw [x2 4 (by decide)]; exact y4
    · rw [x2 5 (by decide)]; exact y5)
theorem c_X11_addOffer {B : ev_B} {d a0 t n ci : Nat} {X : Nat → Prop} {h : ev_H} {A : Nat → Nat} {C : Nat → Option ev_E} {V Vo : Nat → Value} {q : Nat → Option Nat} (hS : CS X h A C) (ha : A 0 = a0) (hV : C 0 = some (ev_ob 10 V)) (v1 : V 1 = .ref (A 6)) (v2 : V 2 = .int (nI n)) (hq : C 6 = some (ev_qa 2 10 q)) (ho : C t = some (ev_ob ci Vo)) (hm : ev_mayq 2 ci) (hn : n < 10) :
    Wp B d M_X11_addOffer 0 [some (.ref a0), some (.ref (A t))] [] h (fun v h' => v = some (.int (nI n)) ∧ ∃ C' V', CS X h' A C' ∧ CG X h h' 0 ∧ C' 0 = some (ev_ob 10 V') ∧ V' 2 = .int (nI (n + 1)) ∧ (∀ k, k ≠ 2 → V' k = V k) ∧ C' 6 = some (ev_qa 2 10 (va_up q n (some (A t)))) ∧ ∀ s, s ≠ 0 → s ≠ 6 → C' s = C s) := by
  refine Wp.aload_n dX11_addOffer_0 rfl (by first | exact Or.inr ⟨_, rfl⟩ | exact Or.inl rfl) rfl ?_
  refine Wp.get dX11_addOffer_1 fl_X11_100 (hS.at' hV ha) v2 rfl ?_
  refine Wp.aload_n dX11_addOffer_4 rfl (by first | exact Or.inr ⟨_, rfl⟩ | exact Or.inl rfl) rfl ?_
  refine Wp.get dX11_addOffer_5 fl_X11_18 (hS.at' hV ha) v1 rfl ?_
  refine Wp.alen dX11_addOffer_8 (by decide) (hS.at hq) rfl ?_
  refine Wp.icmp_lt (tgt := 15) (n := 12) dX11_addOffer_9 (by decide) rfl (fun c_9 => ?_) (fun c_9 => ?_)
  · skip
    skip
    refine Wp.aload_n dX11_addOffer_15 rfl (by first | exact Or.inr ⟨_, rfl⟩ | exact Or.inl rfl) rfl ?_
    refine Wp.get dX11_addOffer_16 fl_X11_18 (hS.at' hV ha) v1 rfl ?_
    refine Wp.aload_n dX11_addOffer_19 rfl (by first | exact Or.inr ⟨_, rfl⟩ | exact Or.inl rfl) rfl ?_
    refine Wp.get dX11_addOffer_20 fl_X11_100 (hS.at' hV ha) v2 rfl ?_
    refine Wp.aload_n dX11_addOffer_23 rfl (by first | exact Or.inr ⟨_, rfl⟩ | exact Or.inl rfl) rfl ?_
    refine Wp.aastore dX11_addOffer_24 hm (hS.at hq) (hS.at ho) (nI_toInt (by omega)) (by omega) rfl ?_
    refine hS.stq hq ?_
    intro h1 C1 g1 S1 o1 e1 u1 f1
    refine Wp.aload_n dX11_addOffer_25 rfl (by first | exact Or.inr ⟨_, rfl⟩ | exact Or.inl rfl) rfl ?_
    refine Wp.dup dX11_addOffer_26 rfl rfl ?_
    refine Wp.get dX11_addOffer_27 fl_X11_100 (S1.at' ((f1 0 (by decide)).trans hV) ha) v2 rfl ?_
    refine Wp.dup_x1 dX11_addOffer_30 rfl rfl rfl ?_
    refine Wp.iconst (v := (nI 1)) dX11_addOffer_31 (by decide) rfl ?_
    refine Wp.iadd dX11_addOffer_32 rfl ?_
    rw [nI_add1]
    refine Wp.put dX11_addOffer_33 fp_X11_100 (S1.at' ((f1 0 (by decide)).trans hV) ha) rfl rfl rfl ?_
    refine S1.put' ha ((f1 0 (by decide)).trans hV) ?_
    intro h2 C2 V2 S2 o2 b2 w2 x2 f2
    exact Wp.iret dX11_addOffer_36 rfl (by exact ⟨rfl, C2, V2, S2, o1.tr o2, b2, w2, x2, by rw [f2 6 (by decide), e1, u1], fun s h1 h2 => (f2 s h1).trans (f1 s h2)⟩)
  · rw [i_lt] at c_9
    simp (disch := omega) only [show Int32.ofNat 10 = nI 10 from rfl, nI_tI] at c_9
    omega
theorem PS.made {X : Nat → Prop} {w0 : Nat} {h h' : ev_H} {A A' : Nat → Nat} {C C' : Nat → Option ev_E} {σ : Sg} {ns ws : Nat} {cp ln : Nat → Nat} {lr j : Nat} {o : Of} {V' : Nat → Value} (p : PS X w0 h A C σ ns ws cp ln lr j) (hj : j + 1 ≤ 600) (hn : σ.n < 10) (S' : CS X h' A' C') (g : CG X h h' 60) (a : ∀ s, s < tO σ.n ∨ tO σ.n + 7 < s → A' s = A s) (f : ∀ s, s ≠ 0 → s ≠ 6 → s < tO σ.n ∨ tO σ.n + 7 < s → C' s = C s) (hb : BenS A' C' (σ.n + 1)) (ho : OfA A' C' (σ.n + 1)) (b1 : C' (tO σ.n) = some (ev_ob (ciO o.k) V')) (y0 : OfV A' C' σ.n o V') (y4 : V' 4 = .int (-1)) (y5 : V' 5 = .int (-1)) (ch : ∀ N, ChoS A' C' (tO σ.n + 1) N [] 8) (r : ∀ rv, RowS A' C' (tO σ.n + 5) 0 rv 4) : PS X w0 h' A' C' (σ.ofs (σ.n + 1) (fun i => if i = σ.n then o else σ.O i)) ns ws (updN cp σ.n 8) (updN ln σ.n 4) lr (j + 1) := by
  have ht : ∀ i, tO i = 30 + 10 * i := fun _ => rfl
  have hT := ht σ.n
  refine ⟨S', hb, p.net.same (fun t _ _ => f t (by omega) (by omega) (by omega)) (fun t _ _ => a t (by omega)), p.win.same (f 7 (by omega) (by omega) (by omega)), ⟨p.row.1.same (f 8 (by omega) (by omega) (by omega)) (f 9 (by omega) (by omega) (by omega)) (a 9 (by omega)), p.row.2⟩, p.act.same (f 10 (by omega) (by omega) (by omega)) (f 11 (by omega) (by omega) (by omega)) (a 11 (by omega)), ho, p.sha.same (f 12 (by omega) (by omega) (by omega)) (fun s hs => a _ (by omega)), fun s hs => (p.sh s hs).same (f _ (by omega) (by omega) (by omega)) (f _ (by omega) (by omega) (by omega)) (a _ (by omega)) rfl rfl (fun _ => rfl), p.fo.same (f 13 (by omega) (by omega) (by omega)), fun k hk => ?_, fun t ht2 => ?_, ⟨by have := p.cnt; omega, by have := p.cnt; omega, hj⟩, ?_⟩
  · have hk' : k < σ.n + 1 := hk
    by_cases e : k = σ.n
    · subst e
      have eO : (σ.ofs (σ.n + 1) (fun i => if i = σ.n then o else σ.O i)).O σ.n = o := by show (if σ.n = σ.n then o else _) = o; rw [if_pos rfl]
      simp only [updN, if_true]
      exact ⟨V', -1, -1, σ.N, [], 0, fun _ _ => 0, by rw [eO]; exact b1, by rw [eO]; exact y0, by rw [y4]; rfl, by rw [y5]; rfl, ch _, Or.inl rfl, r _, by omega, by omega, ⟨by omega, by omega⟩, ⟨by omega, by omega⟩, fun z => absurd z (by omega), fun z => absurd z (by omega)⟩
    · have eO : (σ.ofs (σ.n + 1) (fun i => if i = σ.n then o else σ.O i)).O k = σ.O k := by show (if k = σ.n then o else _) = _; rw [if_neg e]
      have hk2 := ht k
      simp only [updN, if_neg e]
      exact ((p.of k (by omega)).same (fun t q1 q2 => f t (by omega) (by omega) (by omega)) (fun t q1 q2 => a t (by omega))).as eO rfl (fun nb rb b => b.as eO rfl rfl rfl rfl rfl)
  · have h2 : tO (σ.n + 1) ≤ t := ht2
    have h3 := ht (σ.n + 1)
    rw [f t (by omega) (by omega) (by omega)]; exact p.dead t (by omega)
  · have q1 := p.wt
    have q2 := g.2.2
    have q3 : sumF (potF (updN cp σ.n 8) (updN ln σ.n 4)) σ.n = sumF (potF cp ln) σ.n := sumF_same _ (fun k hk => by simp only [potF, updN, if_neg (show k ≠ σ.n by omega)])
    have q4 : potF (updN cp σ.n 8) (updN ln σ.n 4) σ.n = 128 := by simp only [potF, updN, if_true]
    show h'.2.2 ≤ w0 + pot (updN cp σ.n 8) (updN ln σ.n 4) (σ.n + 1) lr
    unfold pot at *
    simp only [sumF]
    omega
