/-! the class: the whole bench -/
def sumF (f : Nat → Nat) : Nat → Nat
  | 0 => 0
  | n + 1 => sumF f n + f n
theorem sumF_le {f : Nat → Nat} {M : Nat} : ∀ n, (∀ i, i < n → f i ≤ M) → sumF f n ≤ n * M
  | 0, _ => by simp [sumF]
  | n + 1, h => by
    have h1 := sumF_le n (fun i hi => h i (by omega))
    have h2 := h n (by omega)
    simp only [sumF]
    rw [Nat.succ_mul]; omega
theorem sumF_same {f g : Nat → Nat} : ∀ n, (∀ i, i < n → g i = f i) → sumF g n = sumF f n
  | 0, _ => rfl
  | n + 1, h => by
    have h1 := sumF_same n (fun i hi => h i (by omega))
    have h2 := h n (by omega)
    simp only [sumF, h1, h2]
theorem sumF_upd {f g : Nat → Nat} {i e : Nat} : ∀ n, i < n → (∀ k, k < n → k ≠ i → g k = f k) → g i = f i + e → sumF g n = sumF f n + e
  | 0, h, _, _ => by omega
  | n + 1, h, h1, h2 => by
    simp only [sumF]
    by_cases e1 : i = n
    · subst e1
      have := sumF_same (f := f) (g := g) i (fun k hk => h1 k (by omega) (by omega))
      omega
    · have := sumF_upd (f := f) (g := g) n (by omega) (fun k hk => h1 k (by omega)) h2
      have := h1 n (by omega) (fun z => e1 z.symm)
      omega
def potF (cp ln : Nat → Nat) (i : Nat) : Nat := 7 * cp i + 3 * ln i + 60
def pot (cp ln : Nat → Nat) (n lr : Nat) : Nat := sumF (potF cp ln) n + 3 * lr
def BenS (A : Nat → Nat) (C : Nat → Option ev_E) (n : Nat) : Prop := ∃ V : Nat → Value, C 0 = some (ev_ob 10 V) ∧ V 0 = .ref (A 1) ∧ V 1 = .ref (A 6) ∧ V 2 = .int (nI n) ∧ V 3 = .ref (A 7) ∧ V 4 = .ref (A 8) ∧ V 5 = .ref (A 10) ∧ V 6 = .ref (A 12) ∧ V 7 = .ref (A 13)
theorem BenS.same {A A' : Nat → Nat} {C C' : Nat → Option ev_E} {n : Nat} (h : BenS A C n) (f : C' 0 = C 0) (a : ∀ t, t < 14 → A' t = A t) : BenS A' C' n := by
  obtain ⟨V, hV, v0, v1, v2, v3, v4, v5, v6, v7⟩ := h
  exact ⟨V, f.trans hV, by rw [a 1 (by decide)]; exact v0, by rw [a 6 (by decide)]; exact v1, v2, by rw [a 7 (by decide)]; exact v3, by rw [a 8 (by decide)]; exact v4, by rw [a 10 (by decide)]; exact v5, by rw [a 12 (by decide)]; exact v6, by rw [a 13 (by decide)]; exact v7⟩
def OfA (A : Nat → Nat) (C : Nat → Option ev_E) (n : Nat) : Prop := ∃ q : Nat → Option Nat, C 6 = some (ev_qa 2 10 q) ∧ ∀ i, i < n → q i = some (A (tO i))
theorem OfA.same {A A' : Nat → Nat} {C C' : Nat → Option ev_E} {n : Nat} (h : OfA A C n) (f : C' 6 = C 6) (a : ∀ i, i < n → A' (tO i) = A (tO i)) : OfA A' C' n := by
  obtain ⟨q, h1, h2⟩ := h
  exact ⟨q, f.trans h1, fun i hi => by rw [a i hi]; exact h2 i hi⟩
def ShA (A : Nat → Nat) (C : Nat → Option ev_E) : Prop := ∃ q : Nat → Option Nat, C 12 = some (ev_qa 3 4 q) ∧ ∀ s, s < 4 → q s = some (A (14 + 2 * s))
theorem ShA.same {A A' : Nat → Nat} {C C' : Nat → Option ev_E} (h : ShA A C) (f : C' 12 = C 12) (a : ∀ s, s < 4 → A' (14 + 2 * s) = A (14 + 2 * s)) : ShA A' C' := by
  obtain ⟨q, h1, h2⟩ := h
  exact ⟨q, f.trans h1, fun i hi => by rw [a i hi]; exact h2 i hi⟩
def FoS (C : Nat → Option ev_E) : Prop := ∃ z : Nat → Int64, C 13 = some (ev_la 5 z)
theorem FoS.same {C C' : Nat → Option ev_E} (h : FoS C) (f : C' 13 = C 13) : FoS C' := by
  obtain ⟨z, h1⟩ := h
  exact ⟨z, f.trans h1⟩
def PS (X : Nat → Prop) (w0 : Nat) (h : ev_H) (A : Nat → Nat) (C : Nat → Option ev_E) (σ : Sg) (ns ws : Nat) (cp ln : Nat → Nat) (lr j : Nat) : Prop :=
  (CS X h A C) ∧
  (BenS A C σ.n) ∧
  (NetS A C σ ns) ∧
  (WinS C σ ws) ∧
  (RowS A C 8 σ.nR σ.rv lr ∧ lr ≤ 4000) ∧
  (ActS A C σ) ∧
  (OfA A C σ.n) ∧
  (ShA A C) ∧
  (∀ s, s < 4 → ShS A C σ s) ∧
  (FoS C) ∧
  (∀ i, i < σ.n → OfS A C σ ns ws i (cp i) (ln i)) ∧
  (∀ t, tO σ.n ≤ t → C t = none) ∧
  (ns ≤ 2 * j ∧ ws ≤ j ∧ j ≤ 600) ∧
  (h.2.2 ≤ w0 + pot cp ln σ.n lr)
theorem PS.S {X : Nat → Prop} {w0 : Nat} {h : ev_H} {A : Nat → Nat} {C : Nat → Option ev_E} {σ : Sg} {ns ws : Nat} {cp ln : Nat → Nat} {lr j : Nat} (h_ : PS X w0 h A C σ ns ws cp ln lr j) : CS X h A C := h_.1
theorem PS.ben {X : Nat → Prop} {w0 : Nat} {h : ev_H} {A : Nat → Nat} {C : Nat → Option ev_E} {σ : Sg} {ns ws : Nat} {cp ln : Nat → Nat} {lr j : Nat} (h_ : PS X w0 h A C σ ns ws cp ln lr j) : BenS A C σ.n := h_.2.1
theorem PS.net {X : Nat → Prop} {w0 : Nat} {h : ev_H} {A : Nat → Nat} {C : Nat → Option ev_E} {σ : Sg} {ns ws : Nat} {cp ln : Nat → Nat} {lr j : Nat} (h_ : PS X w0 h A C σ ns ws cp ln lr j) : NetS A C σ ns := h_.2.2.1
theorem PS.win {X : Nat → Prop} {w0 : Nat} {h : ev_H} {A : Nat → Nat} {C : Nat → Option ev_E} {σ : Sg} {ns ws : Nat} {cp ln : Nat → Nat} {lr j : Nat} (h_ : PS X w0 h A C σ ns ws cp ln lr j) : WinS C σ ws := h_.2.2.2.1
theorem PS.row {X : Nat → Prop} {w0 : Nat} {h : ev_H} {A : Nat → Nat} {C : Nat → Option ev_E} {σ : Sg} {ns ws : Nat} {cp ln : Nat → Nat} {lr j : Nat} (h_ : PS X w0 h A C σ ns ws cp ln lr j) : RowS A C 8 σ.nR σ.rv lr ∧ lr ≤ 4000 := h_.2.2.2.2.1
theorem PS.act {X : Nat → Prop} {w0 : Nat} {h : ev_H} {A : Nat → Nat} {C : Nat → Option ev_E} {σ : Sg} {ns ws : Nat} {cp ln : Nat → Nat} {lr j : Nat} (h_ : PS X w0 h A C σ ns ws cp ln lr j) : ActS A C σ := h_.2.2.2.2.2.1
theorem PS.ofa {X : Nat → Prop} {w0 : Nat} {h : ev_H} {A : Nat → Nat} {C : Nat → Option ev_E} {σ : Sg} {ns ws : Nat} {cp ln : Nat → Nat} {lr j : Nat} (h_ : PS X w0 h A C σ ns ws cp ln lr j) : OfA A C σ.n := h_.2.2.2.2.2.2.1
theorem PS.sha {X : Nat → Prop} {w0 : Nat} {h : ev_H} {A : Nat → Nat} {C : Nat → Option ev_E} {σ : Sg} {ns ws : Nat} {cp ln : Nat → Nat} {lr j : Nat} (h_ : PS X w0 h A C σ ns ws cp ln lr j) : ShA A C := h_.2.2.2.2.2.2.2.1
theorem PS.sh {X : Nat → Prop} {w0 : Nat} {h : ev_H} {A : Nat → Nat} {C : Nat → Option ev_E} {σ : Sg} {ns ws : Nat} {cp ln : Nat → Nat} {lr j : Nat} (h_ : PS X w0 h A C σ ns ws cp ln lr j) : ∀ s, s < 4 → ShS A C σ s := h_.2.2.2.2.2.2.2.2.1
theorem PS.fo {X : Nat → Prop} {w0 : Nat} {h : ev_H} {A : Nat → Nat} {C : Nat → Option ev_E} {σ : Sg} {ns ws : Nat} {cp ln : Nat → Nat} {lr j : Nat} (h_ : PS X w0 h A C σ ns ws cp ln lr j) : FoS C := h_.2.2.2.2.2.2.2.2.2.1
theorem PS.of {X : Nat → Prop} {w0 : Nat} {h : ev_H} {A : Nat → Nat} {C : Nat → Option ev_E} {σ : Sg} {ns ws : Nat} {cp ln : Nat → Nat} {lr j : Nat} (h_ : PS X w0 h A C σ ns ws cp ln lr j) : ∀ i, i < σ.n → OfS A C σ ns ws i (cp i) (ln i) := h_.2.2.2.2.2.2.2.2.2.2.1
theorem PS.dead {X : Nat → Prop} {w0 : Nat} {h : ev_H} {A : Nat → Nat} {C : Nat → Option ev_E} {σ : Sg} {ns ws : Nat} {cp ln : Nat → Nat} {lr j : Nat} (h_ : PS X w0 h A C σ ns ws cp ln lr j) : ∀ t, tO σ.n ≤ t → C t = none := h_.2.2.2.2.2.2.2.2.2.2.2.1
theorem PS.cnt {X : Nat → Prop} {w0 : Nat} {h : ev_H} {A : Nat → Nat} {C : Nat → Option ev_E} {σ : Sg} {ns ws : Nat} {cp ln : Nat → Nat} {lr j : Nat} (h_ : PS X w0 h A C σ ns ws cp ln lr j) : ns ≤ 2 * j ∧ ws ≤ j ∧ j ≤ 600 := h_.2.2.2.2.2.2.2.2.2.2.2.2.1
theorem PS.wt {X : Nat → Prop} {w0 : Nat} {h : ev_H} {A : Nat → Nat} {C : Nat → Option ev_E} {σ : Sg} {ns ws : Nat} {cp ln : Nat → Nat} {lr j : Nat} (h_ : PS X w0 h A C σ ns ws cp ln lr j) : h.2.2 ≤ w0 + pot cp ln σ.n lr := h_.2.2.2.2.2.2.2.2.2.2.2.2.2
def FX (X : Nat → Prop) (h h' : ev_H) : Prop := ∀ a, X a → h'.1 a = h.1 a
theorem FX.rfl {X : Nat → Prop} {h : ev_H} : FX X h h := fun _ _ => Eq.refl _
theorem FX.tr {X : Nat → Prop} {h h1 h2 : ev_H} (a : FX X h h1) (b : FX X h1 h2) : FX X h h2 := fun q hq => (b q hq).trans (a q hq)
theorem CG.fx {X : Nat → Prop} {h h' : ev_H} {k : Nat} (a : CG X h h' k) : FX X h h' := a.1
/-- the bench at a0; a public method has ended -/
def PSx (X : Nat → Prop) (w0 : Nat) (h : ev_H) (a0 : Nat) (σ : Sg) (j : Nat) : Prop := ∃ A C ns ws cp ln lr, PS X w0 h A C σ ns ws cp ln lr j ∧ A 0 = a0
def CQ (X : Nat → Prop) (w0 : Nat) (h : ev_H) (a0 : Nat) (σ' : Sg) (j : Nat) (a : Value) (v : Option Value) (h' : ev_H) : Prop := v = some a ∧ FX X h h' ∧ PSx X w0 h' a0 σ' (j + 1)
theorem PS.up {X : Nat → Prop} {w0 : Nat} {h : ev_H} {A : Nat → Nat} {C : Nat → Option ev_E} {σ : Sg} {ns ws : Nat} {cp ln : Nat → Nat} {lr j : Nat} (p : PS X w0 h A C σ ns ws cp ln lr j) (hj : j + 1 ≤ 600) : PS X w0 h A C σ ns ws cp ln lr (j + 1) :=
  ⟨p.S, p.ben, p.net, p.win, p.row, p.act, p.ofa, p.sha, p.sh, p.fo, p.of, p.dead, ⟨by have := p.cnt; omega, by have := p.cnt; omega, hj⟩, p.wt⟩
section
variable {X : Nat → Prop} {w0 : Nat} {h h' : ev_H} {A A' : Nat → Nat} {C C' : Nat → Option ev_E} {σ : Sg} {ns ws : Nat} {cp ln : Nat → Nat} {lr j : Nat}
/-- tags of one part are not those of another -/
theorem tO_ne {i k : Nat} (h : i ≠ k) : tO i + 9 < tO k ∨ tO k + 9 < tO i := by unfold tO; omega
theorem PS.offer {i cap len : Nat} (p : PS X w0 h A C σ ns ws cp ln lr j) (hi : i < σ.n) (S' : CS X h' A' C') (g : CG X h h' (7 * (cap - cp i) + 3 * (len - ln i))) (hc : cp i ≤ cap) (hl : ln i ≤ len) (a : ∀ t, t ≤ tO i + 1 ∨ t = tO i + 5 ∨ tO i + 7 ≤ t → A' t = A t) (f : ∀ t, t < tO i ∨ tO i + 7 ≤ t → C' t = C t) (ho : OfS A' C' σ ns ws i cap len) : PS X w0 h' A' C' σ ns ws (updN cp i cap) (updN ln i len) lr j := by
  have ht : tO i = 30 + 10 * i := rfl
  refine ⟨S', p.ben.same (f 0 (by omega)) (fun t ht => a t (by omega)), p.net.same (fun t h1 h2 => f t (by omega)) (fun t h1 h2 => a t (by omega)), p.win.same (f 7 (by omega)), ⟨p.row.1.same (f 8 (by omega)) (f 9 (by omega)) (a 9 (by omega)), p.row.2⟩, p.act.same (f 10 (by omega)) (f 11 (by omega)) (a 11 (by omega)), p.ofa.same (f 6 (by omega)) (fun k hk => ?_), p.sha.same (f 12 (by omega)) (fun s hs => a _ (by omega)), fun s hs => (p.sh s hs).same (f _ (by omega)) (f _ (by omega)) (a _ (by omega)) rfl rfl (fun _ => rfl), p.fo.same (f 13 (by omega)), fun k hk => ?_, fun t ht2 => ?_, p.cnt, ?_⟩
  · by_cases e : k = i
    · subst e; exact a _ (by omega)
    · have := tO_ne e; exact a _ (by omega)
  · by_cases e : k = i
    · subst e; simp only [updN, if_true]; exact ho
    · simp only [updN, if_neg e]
      have := tO_ne e
      exact (p.of k hk).same (fun t h1 h2 => f t (by omega)) (fun t h1 h2 => a t (by omega))
  · have h1 : tO σ.n = 30 + 10 * σ.n := rfl
    rw [f t (by omega)]; exact p.dead t ht2
  · have h1 := p.wt
    have h2 := g.2.2
    have h3 := sumF_upd (f := potF cp ln) (g := potF (updN cp i cap) (updN ln i len)) (i := i) (e := 7 * (cap - cp i) + 3 * (len - ln i)) σ.n hi (fun k _ hk => by simp only [potF, updN, if_neg hk]) (by simp only [potF, updN, if_true]; omega)
    unfold pot at *
    omega
theorem PS.netop {N : Nt} {U al ns' : Nat} {sb rb : Int} (p : PS X w0 h A C σ ns ws cp ln lr j) (hj : j + 1 ≤ 600) (S' : CS X h' A C') (g : CG X h h' 0) (f : ∀ t, t = 0 ∨ 5 < t → C' t = C t) (hN : NetS A C' (σ.net N U al sb rb) ns') (h1 : ns < ns') (h2 : ns' ≤ ns + 2) : PS X w0 h' A C' (σ.net N U al sb rb) ns' ws cp ln lr (j + 1) := by
  have ht : ∀ i, tO i = 30 + 10 * i := fun _ => rfl
  refine ⟨S', p.ben.same (f 0 (by omega)) (fun _ _ => rfl), hN, p.win.same (f 7 (by omega)), ⟨p.row.1.same (f 8 (by omega)) (f 9 (by omega)) rfl, p.row.2⟩, p.act.same (f 10 (by omega)) (f 11 (by omega)) rfl, p.ofa.same (f 6 (by omega)) (fun _ _ => rfl), p.sha.same (f 12 (by omega)) (fun _ _ => rfl), fun s hs => (p.sh s hs).same (f _ (by omega)) (f _ (by omega)) rfl rfl rfl (fun _ => rfl), p.fo.same (f 13 (by omega)), fun k hk => ?_, fun t ht2 => ?_, ⟨by have := p.cnt; omega, by have := p.cnt; omega, hj⟩, ?_⟩
  · have hk' : k < σ.n := hk
    exact ((p.of k hk').same (fun t q1 q2 => f t (by have := ht k; omega)) (fun _ _ _ => rfl)).net rfl h1
  · rw [f t (by have := ht (σ.net N U al sb rb).n; omega)]; exact p.dead t ht2
  · have q1 := p.wt
    have q2 := g.2.2
    show h'.2.2 ≤ w0 + pot cp ln σ.n lr
    omega
theorem PS.netsame {ns' : Nat} (p : PS X w0 h A C σ ns ws cp ln lr j) (hj : j + 1 ≤ 600) (S' : CS X h' A C') (g : CG X h h' 0) (f : ∀ t, t = 0 ∨ 5 < t → C' t = C t) (hN : NetS A C' σ ns') (h1 : ns < ns') (h2 : ns' ≤ ns + 2) : PS X w0 h' A C' σ ns' ws cp ln lr (j + 1) := by
  have ht : ∀ i, tO i = 30 + 10 * i := fun _ => rfl
  refine ⟨S', p.ben.same (f 0 (by omega)) (fun _ _ => rfl), hN, p.win.same (f 7 (by omega)), ⟨p.row.1.same (f 8 (by omega)) (f 9 (by omega)) rfl, p.row.2⟩, p.act.same (f 10 (by omega)) (f 11 (by omega)) rfl, p.ofa.same (f 6 (by omega)) (fun _ _ => rfl), p.sha.same (f 12 (by omega)) (fun _ _ => rfl), fun s hs => (p.sh s hs).same (f _ (by omega)) (f _ (by omega)) rfl rfl rfl (fun _ => rfl), p.fo.same (f 13 (by omega)), fun k hk => ?_, fun t ht2 => ?_, ⟨by have := p.cnt; omega, by have := p.cnt; omega, hj⟩, ?_⟩
  · exact ((p.of k hk).same (fun t q1 q2 => f t (by have := ht k; omega)) (fun _ _ _ => rfl)).net rfl h1
  · rw [f t (by have := ht σ.n; omega)]; exact p.dead t ht2
  · have q1 := p.wt
    have q2 := g.2.2
    omega
end
theorem c_X2_changeLine' {B : ev_B} {d : Nat} {X : Nat → Prop} {h : ev_H} {A : Nat → Nat} {C : Nat → Option ev_E} {σ : Sg} {ns : Nat} {i : Nat} {s r : Int32} (hS : CS X h A C) (hN : NetS A C σ ns) (hW : Wf σ) (hns : ns ≤ 100000) (hi : i < σ.N.L) (hd : 1 ≤ d) :
    Wp B d M_X2_changeLine 0 [some (.ref (A 1)), some (.int (nI i)), some (.int s), some (.int r)] [] h (fun v h' => v = none ∧ ∃ C' ns', CS X h' A C' ∧ CG X h h' 0 ∧ (∀ t, t = 0 ∨ 5 < t → C' t = C t) ∧ NetS A C' (σ.net (σ.N.al i s.toInt r.toInt) 3 i (σ.N.sa i) (σ.N.ri i)) ns' ∧ ns' = ns + 1) := by
  have e_ := c_X2_changeLine (B := B) (d := d) (i := i) (s := s.toInt) (r := r.toInt) hS hN hW hns hi hd
  rw [← iI_of, ← iI_of] at e_
  exact e_
theorem c_X11_thing {B : ev_B} {d a0 w0 j : Nat} {X : Nat → Prop} {h : ev_H} {σ : Sg} (hp : PSx X w0 h a0 σ j) (hW : Wf σ) (hj : j + 1 ≤ 600) (hd : 3 ≤ d) :
    Wp B d M_X11_thing 0 [some (.ref a0)] [] h (CQ X w0 h a0 (t_thing σ) j (.int (a_thing σ))) := by
  obtain ⟨A, C, ns, ws, cp, ln, lr, p, ha⟩ := hp
  obtain ⟨Vb, hVb, b0, b1, b2, b3, b4, b5, b6, b7⟩ := id p.ben
  have hcn := p.cnt
  obtain ⟨Vn, n0, n1, n2, n3, hVn, z0, z1, z2, z3, z4, z5, z6, z7, z8, q0, q1, q2, q3, hgn⟩ := id p.net
  have hT := hW.net.1
  have hL := hW.net.2.1
  refine Wp.aload_n dX11_thing_0 rfl (by first | exact Or.inr ⟨_, rfl⟩ | exact Or.inl rfl) rfl ?_
  refine Wp.get dX11_thing_1 fl_X11_10 (p.S.at' hVb ha) b0 rfl ?_
  refine Wp.cV dX11_thing_4 cv_X11_54 rfl (by omega) rfl (Nat.le_of_ble_eq_true rfl) (Nat.le_of_ble_eq_true rfl) (p.S.at hVn) rfl (c_X2_addThing (d := d - 1) p.S p.net hW (by omega) (by omega)) ?_
  rintro _ h1 ⟨rfl, C1, ns1, S1, o1, f1, N1, hor⟩
  dsimp only [Option.toList, List.drop, List.cons_append, List.nil_append]
  exact Wp.iret dX11_thing_7 rfl (by
    rcases hor with ⟨e1, e2⟩ | ⟨e1, e2⟩
    · rw [e1] at N1 ⊢
      subst e2
      have hN' := N1
      refine ⟨rfl, o1.fx, A, C1, ns1, ws, cp, ln, lr, ?_, ha⟩
      have ht : ∀ i, tO i = 30 + 10 * i := fun _ => rfl
      refine ⟨S1, p.ben.same (f1 0 (by omega)) (fun _ _ => rfl), hN', p.win.same (f1 7 (by omega)), ⟨p.row.1.same (f1 8 (by omega)) (f1 9 (by omega)) rfl, p.row.2⟩, p.act.same (f1 10 (by omega)) (f1 11 (by omega)) rfl, p.ofa.same (f1 6 (by omega)) (fun _ _ => rfl), p.sha.same (f1 12 (by omega)) (fun _ _ => rfl), fun s hs => (p.sh s hs).same (f1 _ (by omega)) (f1 _ (by omega)) rfl rfl rfl (fun _ => rfl), p.fo.same (f1 13 (by omega)), fun k hk => (p.of k hk).same (fun t q1 q2 => f1 t (by have := ht k; omega)) (fun _ _ _ => rfl), fun t ht2 => by rw [f1 t (by have := ht σ.n; omega)]; exact p.dead t ht2, ⟨by omega, by omega, hj⟩, by have := p.wt; have := o1.2.2; omega⟩
    · by_cases hc : σ.N.T = 7
      · rw [t_thing, if_pos hc] at N1 ⊢
        exact ⟨rfl, o1.fx, A, C1, ns1, ws, cp, ln, lr, p.netsame hj S1 o1 f1 N1 e1 e2, ha⟩
      · rw [t_thing, if_neg hc] at N1 ⊢
        exact ⟨rfl, o1.fx, A, C1, ns1, ws, cp, ln, lr, p.netop hj S1 o1 f1 N1 e1 e2, ha⟩)
set_option maxHeartbeats 1000000 in
theorem c_X11_line {B : ev_B} {d a0 w0 j : Nat} {X : Nat → Prop} {h : ev_H} {σ : Sg} {a b s r : Int32} (hp : PSx X w0 h a0 σ j) (hW : Wf σ) (hj : j + 1 ≤ 600) (hd : 4 ≤ d) :
    Wp B d M_X11_line 0 [some (.ref a0), some (.int (a)), some (.int (b)), some (.int (s)), some (.int (r))] [] h (CQ X w0 h a0 (t_line σ a b s r) j (.int (a_line σ a b s r))) := by
  obtain ⟨A, C, ns, ws, cp, ln, lr, p, ha⟩ := hp
  obtain ⟨Vb, hVb, b0, b1, b2, b3, b4, b5, b6, b7⟩ := id p.ben
  have hcn := p.cnt
  obtain ⟨Vn, n0, n1, n2, n3, hVn, z0, z1, z2, z3, z4, z5, z6, z7, z8, q0, q1, q2, q3, hgn⟩ := id p.net
  have hT := hW.net.1
  have hL := hW.net.2.1
  refine Wp.aload_n dX11_line_0 rfl (by first | exact Or.inr ⟨_, rfl⟩ | exact Or.inl rfl) rfl ?_
  refine Wp.get dX11_line_1 fl_X11_10 (p.S.at' hVb ha) b0 rfl ?_
  refine Wp.iload_n dX11_line_4 rfl rfl ?_
  refine Wp.cV dX11_line_5 cv_X11_58 rfl (by omega) rfl (Nat.le_of_ble_eq_true rfl) (Nat.le_of_ble_eq_true rfl) (p.S.at hVn) rfl (c_X2_isThing (d := d - 1) (p.net.C p.S) hW.net) ?_
  rintro _ h_ ⟨rfl, e_⟩
  rw [e_]
  clear e_ h_
  dsimp only [Option.toList, List.drop, List.cons_append, List.nil_append]
  refine Wp.bif_eq (tgt := 36) (n := 11) dX11_line_8 (by decide) rfl (fun c_8 => ?_) (fun c_8 => ?_)
  · try simp only [decide_eq_true_eq, decide_eq_false_iff_not, Bool.and_eq_true, bI_0, bI_n0] at c_8
    refine Wp.bipush (v := (-2)) dX11_line_36 (by decide) rfl ?_
    exact Wp.iret dX11_line_38 rfl (by rw [a_line, t_line, if_neg (by omega), if_neg (fun z => by have z1 := z.1; omega)]; exact ⟨rfl, FX.rfl, A, C, ns, ws, cp, ln, lr, p.up hj, ha⟩)
  · try simp only [decide_eq_true_eq, decide_eq_false_iff_not, Bool.and_eq_true, bI_0, bI_n0] at c_8
    refine Wp.aload_n dX11_line_11 rfl (by first | exact Or.inr ⟨_, rfl⟩ | exact Or.inl rfl) rfl ?_
    refine Wp.get dX11_line_12 fl_X11_10 (p.S.at' hVb ha) b0 rfl ?_
    refine Wp.iload_n dX11_line_15 rfl rfl ?_
    refine Wp.cV dX11_line_16 cv_X11_58 rfl (by omega) rfl (Nat.le_of_ble_eq_true rfl) (Nat.le_of_ble_eq_true rfl) (p.S.at hVn) rfl (c_X2_isThing (d := d - 1) (p.net.C p.S) hW.net) ?_
    rintro _ h_ ⟨rfl, e_⟩
    rw [e_]
    clear e_ h_
    dsimp only [Option.toList, List.drop, List.cons_append, List.nil_append]
    refine Wp.bif_eq (tgt := 36) (n := 22) dX11_line_19 (by decide) rfl (fun c_19 => ?_) (fun c_19 => ?_)
    · try simp only [decide_eq_true_eq, decide_eq_false_iff_not, Bool.and_eq_true, bI_0, bI_n0] at c_19
      refine Wp.bipush (v := (-2)) dX11_line_36 (by decide) rfl ?_
      exact Wp.iret dX11_line_38 rfl (by rw [a_line, t_line, if_neg (by omega), if_neg (fun z => by have z1 := z.1; omega)]; exact ⟨rfl, FX.rfl, A, C, ns, ws, cp, ln, lr, p.up hj, ha⟩)
    · try simp only [decide_eq_true_eq, decide_eq_false_iff_not, Bool.and_eq_true, bI_0, bI_n0] at c_19
      refine Wp.iload_n dX11_line_22 rfl rfl ?_
      refine Wp.iload_n dX11_line_23 rfl rfl ?_
      refine Wp.icmp_eq (tgt := 36) (n := 27) dX11_line_24 (by decide) rfl (fun c_24 => ?_) (fun c_24 => ?_)
      · try simp (disch := omega) only [nI_bit0, nI_bit1, Bool.not_eq_false, Bool.not_eq_true] at c_24
        try simp (disch := omega) only [i_lt, i_le, i_eq, l_lt, l_le, l_eq, i_0, i_m1, l_0, nI_tI, iI_tI, lI_tI, Int.not_lt, Int.not_le] at c_24
        refine Wp.bipush (v := (-2)) dX11_line_36 (by decide) rfl ?_
        exact Wp.iret dX11_line_38 rfl (by rw [a_line, t_line, if_neg (by omega), if_neg (fun z => by have z1 := z.1; omega)]; exact ⟨rfl, FX.rfl, A, C, ns, ws, cp, ln, lr, p.up hj, ha⟩)
      · try simp (disch := omega) only [nI_bit0, nI_bit1, Bool.not_eq_false, Bool.not_eq_true] at c_24
        try simp (disch := omega) only [i_lt, i_le, i_eq, l_lt, l_le, l_eq, i_0, i_m1, l_0, nI_tI, iI_tI, lI_tI, Int.not_lt, Int.not_le] at c_24
        refine Wp.iload_n dX11_line_27 rfl rfl ?_
        refine Wp.iload dX11_line_28 rfl rfl ?_
        refine Wp.cS dX11_line_30 cs_X11_62 rfl (by omega) rfl (Nat.le_of_ble_eq_true rfl) (Nat.le_of_ble_eq_true rfl) rfl (c_X11_isLineCost (d := d - 1)) ?_
        rintro _ h_ ⟨rfl, e_⟩
        rw [e_]
        clear e_ h_
        dsimp only [Option.toList, List.drop, List.cons_append, List.nil_append]
        refine Wp.bif_ne (tgt := 39) (n := 36) dX11_line_33 (by decide) rfl (fun c_33 => ?_) (fun c_33 => ?_)
        · try simp only [decide_eq_true_eq, decide_eq_false_iff_not, Bool.and_eq_true, bI_0, bI_n0] at c_33
          have hok : okL σ a b s r := by omega
          obtain ⟨i, rfl, hi, hi2⟩ := as_nI (show 0 ≤ a.toInt ∧ a.toInt < σ.N.T by omega)
          obtain ⟨k, rfl, hk, hk2⟩ := as_nI (show 0 ≤ b.toInt ∧ b.toInt < σ.N.T by omega)
          have ti := nI_tI hi2
          have tk := nI_tI hk2
          refine Wp.aload_n dX11_line_39 rfl (by first | exact Or.inr ⟨_, rfl⟩ | exact Or.inl rfl) rfl ?_
          refine Wp.get dX11_line_40 fl_X11_10 (p.S.at' hVb ha) b0 rfl ?_
          refine Wp.iload_n dX11_line_43 rfl rfl ?_
          refine Wp.iload_n dX11_line_44 rfl rfl ?_
          refine Wp.iload_n dX11_line_45 rfl rfl ?_
          refine Wp.iload dX11_line_46 rfl rfl ?_
          refine Wp.cV dX11_line_48 cv_X11_66 rfl (by omega) rfl (Nat.le_of_ble_eq_true rfl) (Nat.le_of_ble_eq_true rfl) (p.S.at hVn) rfl (c_X2_addLine (d := d - 1) p.S p.net hW (by omega) hi hk (fun z => by subst z; omega) (by omega) (by omega) (by omega)) ?_
          rintro _ h1 ⟨rfl, C1, ns1, S1, o1, f1, N1, hor⟩
          dsimp only [Option.toList, List.drop, List.cons_append, List.nil_append]
          exact Wp.iret dX11_line_51 rfl (by
            rcases hor with ⟨e1, e2⟩ | ⟨e1, e2⟩
            · rw [e1] at N1 ⊢
              subst e2
              have hN' := N1
              refine ⟨rfl, o1.fx, A, C1, ns1, ws, cp, ln, lr, ?_, ha⟩
              have ht : ∀ i, tO i = 30 + 10 * i := fun _ => rfl
              refine ⟨S1, p.ben.same (f1 0 (by omega)) (fun _ _ => rfl), hN', p.win.same (f1 7 (by omega)), ⟨p.row.1.same (f1 8 (by omega)) (f1 9 (by omega)) rfl, p.row.2⟩, p.act.same (f1 10 (by omega)) (f1 11 (by omega)) rfl, p.ofa.same (f1 6 (by omega)) (fun _ _ => rfl), p.sha.same (f1 12 (by omega)) (fun _ _ => rfl), fun s hs => (p.sh s hs).same (f1 _ (by omega)) (f1 _ (by omega)) rfl rfl rfl (fun _ => rfl), p.fo.same (f1 13 (by omega)), fun k hk => (p.of k hk).same (fun t q1 q2 => f1 t (by have := ht k; omega)) (fun _ _ _ => rfl), fun t ht2 => by rw [f1 t (by have := ht σ.n; omega)]; exact p.dead t ht2, ⟨by omega, by omega, hj⟩, by have := p.wt; have := o1.2.2; omega⟩
            · by_cases hc : okL σ (nI i) (nI k) s r ∧ σ.N.L ≠ 12
              · rw [t_line, if_pos hc] at N1 ⊢
                exact ⟨rfl, o1.fx, A, C1, ns1, ws, cp, ln, lr, p.netop hj S1 o1 f1 N1 e1 e2, ha⟩
              · rw [t_line, if_neg hc] at N1 ⊢
                exact ⟨rfl, o1.fx, A, C1, ns1, ws, cp, ln, lr, p.netsame hj S1 o1 f1 N1 e1 e2, ha⟩)
        · try simp only [decide_eq_true_eq, decide_eq_false_iff_not, Bool.and_eq_true, bI_0, bI_n0] at c_33
          refine Wp.bipush (v := (-2)) dX11_line_36 (by decide) rfl ?_
          exact Wp.iret dX11_line_38 rfl (by rw [a_line, t_line, if_neg (by omega), if_neg (fun z => by have z1 := z.1; omega)]; exact ⟨rfl, FX.rfl, A, C, ns, ws, cp, ln, lr, p.up hj, ha⟩)
set_option maxHeartbeats 1000000 in
theorem c_X11_alter {B : ev_B} {d a0 w0 j : Nat} {X : Nat → Prop} {h : ev_H} {σ : Sg} {l s r : Int32} (hp : PSx X w0 h a0 σ j) (hW : Wf σ) (hj : j + 1 ≤ 600) (hd : 4 ≤ d) :
    Wp B d M_X11_alter 0 [some (.ref a0), some (.int (l)), some (.int (s)), some (.int (r))] [] h (CQ X w0 h a0 (t_alter σ l s r) j (.int (a_alter σ l s r))) := by
  obtain ⟨A, C, ns, ws, cp, ln, lr, p, ha⟩ := hp
  obtain ⟨Vb, hVb, b0, b1, b2, b3, b4, b5, b6, b7⟩ := id p.ben
  have hcn := p.cnt
  obtain ⟨Vn, n0, n1, n2, n3, hVn, z0, z1, z2, z3, z4, z5, z6, z7, z8, q0, q1, q2, q3, hgn⟩ := id p.net
  have hT := hW.net.1
  have hL := hW.net.2.1
  refine Wp.aload_n dX11_alter_0 rfl (by first | exact Or.inr ⟨_, rfl⟩ | exact Or.inl rfl) rfl ?_
  refine Wp.get dX11_alter_1 fl_X11_10 (p.S.at' hVb ha) b0 rfl ?_
  refine Wp.iload_n dX11_alter_4 rfl rfl ?_
  refine Wp.cV dX11_alter_5 cv_X11_70 rfl (by omega) rfl (Nat.le_of_ble_eq_true rfl) (Nat.le_of_ble_eq_true rfl) (p.S.at hVn) rfl (c_X2_isLine (d := d - 1) (p.net.C p.S) hW.net) ?_
  rintro _ h_ ⟨rfl, e_⟩
  rw [e_]
  clear e_ h_
  dsimp only [Option.toList, List.drop, List.cons_append, List.nil_append]
  refine Wp.bif_eq (tgt := 19) (n := 11) dX11_alter_8 (by decide) rfl (fun c_8 => ?_) (fun c_8 => ?_)
  · try simp only [decide_eq_true_eq, decide_eq_false_iff_not, Bool.and_eq_true, bI_0, bI_n0] at c_8
    refine Wp.bipush (v := (-2)) dX11_alter_19 (by decide) rfl ?_
    exact Wp.iret dX11_alter_21 rfl (by rw [a_alter, t_alter, if_neg (by omega), if_neg (by omega)]; exact ⟨rfl, FX.rfl, A, C, ns, ws, cp, ln, lr, p.up hj, ha⟩)
  · try simp only [decide_eq_true_eq, decide_eq_false_iff_not, Bool.and_eq_true, bI_0, bI_n0] at c_8
    refine Wp.iload_n dX11_alter_11 rfl rfl ?_
    refine Wp.iload_n dX11_alter_12 rfl rfl ?_
    refine Wp.cS dX11_alter_13 cs_X11_62 rfl (by omega) rfl (Nat.le_of_ble_eq_true rfl) (Nat.le_of_ble_eq_true rfl) rfl (c_X11_isLineCost (d := d - 1)) ?_
    rintro _ h_ ⟨rfl, e_⟩
    rw [e_]
    clear e_ h_
    dsimp only [Option.toList, List.drop, List.cons_append, List.nil_append]
    refine Wp.bif_ne (tgt := 22) (n := 19) dX11_alter_16 (by decide) rfl (fun c_16 => ?_) (fun c_16 => ?_)
    · try simp only [decide_eq_true_eq, decide_eq_false_iff_not, Bool.and_eq_true, bI_0, bI_n0] at c_16
      have hok : okA σ l s r := by omega
      obtain ⟨i, rfl, hi, hi2⟩ := as_nI (show 0 ≤ l.toInt ∧ l.toInt < σ.N.L by omega)
      have ti := nI_tI hi2
      refine Wp.aload_n dX11_alter_22 rfl (by first | exact Or.inr ⟨_, rfl⟩ | exact Or.inl rfl) rfl ?_
      refine Wp.get dX11_alter_23 fl_X11_10 (p.S.at' hVb ha) b0 rfl ?_
      refine Wp.iload_n dX11_alter_26 rfl rfl ?_
      refine Wp.iload_n dX11_alter_27 rfl rfl ?_
      refine Wp.iload_n dX11_alter_28 rfl rfl ?_
      refine Wp.cV dX11_alter_29 cv_X11_73 rfl (by omega) rfl (Nat.le_of_ble_eq_true rfl) (Nat.le_of_ble_eq_true rfl) (p.S.at hVn) rfl (c_X2_changeLine' (d := d - 1) p.S p.net hW (by omega) hi (by omega)) ?_
      rintro _ h1 ⟨rfl, C1, _, S1, o1, f1, N1, rfl⟩
      dsimp only [Option.toList, List.drop, List.cons_append, List.nil_append]
      refine Wp.iconst (v := (nI 1)) dX11_alter_32 (by decide) rfl ?_
      exact Wp.iret dX11_alter_33 rfl (by
        rw [a_alter, t_alter, if_pos hok, if_pos hok, tn_nI hi2]
        exact ⟨rfl, o1.fx, A, C1, ns + 1, ws, cp, ln, lr, p.netop hj S1 o1 f1 N1 (by omega) (by omega), ha⟩)
    · try simp only [decide_eq_true_eq, decide_eq_false_iff_not, Bool.and_eq_true, bI_0, bI_n0] at c_16
      refine Wp.bipush (v := (-2)) dX11_alter_19 (by decide) rfl ?_
      exact Wp.iret dX11_alter_21 rfl (by rw [a_alter, t_alter, if_neg (by omega), if_neg (by omega)]; exact ⟨rfl, FX.rfl, A, C, ns, ws, cp, ln, lr, p.up hj, ha⟩)
theorem c_X11_close {B : ev_B} {d a0 w0 j : Nat} {X : Nat → Prop} {h : ev_H} {σ : Sg} (hp : PSx X w0 h a0 σ j) (hW : Wf σ) (hj : j + 1 ≤ 600) (hd : 4 ≤ d) :
    Wp B d M_X11_close 0 [some (.ref a0)] [] h (CQ X w0 h a0 (t_close σ) j (.int (a_close σ))) := by
  obtain ⟨A, C, ns, ws, cp, ln, lr, p, ha⟩ := hp
  obtain ⟨Vb, hVb, b0, b1, b2, b3, b4, b5, b6, b7⟩ := id p.ben
  have hcn := p.cnt
  obtain ⟨Vn, n0, n1, n2, n3, hVn, z0, z1, z2, z3, z4, z5, z6, z7, z8, q0, q1, q2, q3, hgn⟩ := id p.net
  have hT := hW.net.1
  have hL := hW.net.2.1
  refine Wp.aload_n dX11_close_0 rfl (by first | exact Or.inr ⟨_, rfl⟩ | exact Or.inl rfl) rfl ?_
  refine Wp.get dX11_close_1 fl_X11_10 (p.S.at' hVb ha) b0 rfl ?_
  refine Wp.get dX11_close_4 fl_X11_77 (p.S.at hVn) z5 rfl ?_
  refine Wp.if_ne (tgt := 15) (n := 10) dX11_close_7 (by decide) rfl (fun c_7 => ?_) (fun c_7 => ?_)
  · have c_7 : σ.N.L ≠ 0 := fun z => c_7 (by rw [z]; rfl)
    refine Wp.aload_n dX11_close_15 rfl (by first | exact Or.inr ⟨_, rfl⟩ | exact Or.inl rfl) rfl ?_
    refine Wp.get dX11_close_16 fl_X11_10 (p.S.at' hVb ha) b0 rfl ?_
    refine Wp.cV dX11_close_19 cv_X11_81 rfl (by omega) rfl (Nat.le_of_ble_eq_true rfl) (Nat.le_of_ble_eq_true rfl) (p.S.at hVn) rfl (c_X2_dropLine (d := d - 1) p.S p.net hW (by omega) c_7 (by omega)) ?_
    rintro _ h1 ⟨rfl, C1, ns1, S1, o1, f1, N1, hor⟩
    dsimp only [Option.toList, List.drop, List.cons_append, List.nil_append]
    exact Wp.iret dX11_close_22 rfl (by
      rcases hor with ⟨e1, e2⟩ | ⟨e1, e2⟩
      · rw [e1] at N1 ⊢
        subst e2
        have hN' := N1
        refine ⟨rfl, o1.fx, A, C1, ns1, ws, cp, ln, lr, ?_, ha⟩
        have ht : ∀ i, tO i = 30 + 10 * i := fun _ => rfl
        refine ⟨S1, p.ben.same (f1 0 (by omega)) (fun _ _ => rfl), hN', p.win.same (f1 7 (by omega)), ⟨p.row.1.same (f1 8 (by omega)) (f1 9 (by omega)) rfl, p.row.2⟩, p.act.same (f1 10 (by omega)) (f1 11 (by omega)) rfl, p.ofa.same (f1 6 (by omega)) (fun _ _ => rfl), p.sha.same (f1 12 (by omega)) (fun _ _ => rfl), fun s hs => (p.sh s hs).same (f1 _ (by omega)) (f1 _ (by omega)) rfl rfl rfl (fun _ => rfl), p.fo.same (f1 13 (by omega)), fun k hk => (p.of k hk).same (fun t q1 q2 => f1 t (by have := ht k; omega)) (fun _ _ _ => rfl), fun t ht2 => by rw [f1 t (by have := ht σ.n; omega)]; exact p.dead t ht2, ⟨by omega, by omega, hj⟩, by have := p.wt; have := o1.2.2; omega⟩
      · by_cases hc : σ.N.L = 0
        · exact absurd hc c_7
        · rw [t_close, if_neg hc] at N1 ⊢
          exact ⟨rfl, o1.fx, A, C1, ns1, ws, cp, ln, lr, p.netop hj S1 o1 f1 N1 e1 e2, ha⟩)
  · have c_7 : σ.N.L = 0 := (nI_eq0 (by omega)).mp c_7
    refine Wp.bipush (v := (-3)) dX11_close_10 (by decide) rfl ?_
    refine Wp.goto (n := 22) dX11_close_12 (by decide) ?_
    exact Wp.iret dX11_close_22 rfl (by rw [a_close, t_close, if_pos c_7, if_pos c_7]; exact ⟨rfl, FX.rfl, A, C, ns, ws, cp, ln, lr, p.up hj, ha⟩)
theorem c_X11_lineTold {B : ev_B} {d a0 w0 j : Nat} {X : Nat → Prop} {h : ev_H} {σ : Sg} {l w : Int32} (hp : PSx X w0 h a0 σ j) (hW : Wf σ) (hj : j + 1 ≤ 600) (hd : 3 ≤ d) :
    Wp B d M_X11_lineTold 0 [some (.ref a0), some (.int (l)), some (.int (w))] [] h (CQ X w0 h a0 (σ) j (.int (a_lineTold σ l w))) := by
  obtain ⟨A, C, ns, ws, cp, ln, lr, p, ha⟩ := hp
  obtain ⟨Vb, hVb, b0, b1, b2, b3, b4, b5, b6, b7⟩ := id p.ben
  have hcn := p.cnt
  obtain ⟨Vn, n0, n1, n2, n3, hVn, z0, z1, z2, z3, z4, z5, z6, z7, z8, q0, q1, q2, q3, hgn⟩ := id p.net
  have hT := hW.net.1
  have hL := hW.net.2.1
  refine Wp.iload_n dX11_lineTold_0 rfl rfl ?_
  refine Wp.if_lt (tgt := 9) (n := 4) dX11_lineTold_1 (by decide) rfl (fun c_1 => ?_) (fun c_1 => ?_)
  · try simp (disch := omega) only [nI_bit0, nI_bit1, Bool.not_eq_false, Bool.not_eq_true] at c_1
    try simp (disch := omega) only [i_lt, i_le, i_eq, l_lt, l_le, l_eq, i_0, i_m1, l_0, nI_tI, iI_tI, lI_tI, Int.not_lt, Int.not_le] at c_1
    refine Wp.bipush (v := (-2)) dX11_lineTold_9 (by decide) rfl ?_
    exact Wp.iret dX11_lineTold_11 rfl (by rw [a_lineTold, if_neg (by omega)]; exact ⟨rfl, FX.rfl, A, C, ns, ws, cp, ln, lr, p.up hj, ha⟩)
  · try simp (disch := omega) only [nI_bit0, nI_bit1, Bool.not_eq_false, Bool.not_eq_true] at c_1
    try simp (disch := omega) only [i_lt, i_le, i_eq, l_lt, l_le, l_eq, i_0, i_m1, l_0, nI_tI, iI_tI, lI_tI, Int.not_lt, Int.not_le] at c_1
    refine Wp.iload_n dX11_lineTold_4 rfl rfl ?_
    refine Wp.iconst (v := (nI 3)) dX11_lineTold_5 (by decide) rfl ?_
    refine Wp.icmp_le (tgt := 12) (n := 9) dX11_lineTold_6 (by decide) rfl (fun c_6 => ?_) (fun c_6 => ?_)
    · try simp (disch := omega) only [nI_bit0, nI_bit1, Bool.not_eq_false, Bool.not_eq_true] at c_6
      try simp (disch := omega) only [i_lt, i_le, i_eq, l_lt, l_le, l_eq, i_0, i_m1, l_0, nI_tI, iI_tI, lI_tI, Int.not_lt, Int.not_le] at c_6
      refine Wp.aload_n dX11_lineTold_12 rfl (by first | exact Or.inr ⟨_, rfl⟩ | exact Or.inl rfl) rfl ?_
      refine Wp.get dX11_lineTold_13 fl_X11_10 (p.S.at' hVb ha) b0 rfl ?_
      refine Wp.iload_n dX11_lineTold_16 rfl rfl ?_
      refine Wp.cV dX11_lineTold_17 cv_X11_70 rfl (by omega) rfl (Nat.le_of_ble_eq_true rfl) (Nat.le_of_ble_eq_true rfl) (p.S.at hVn) rfl (c_X2_isLine (d := d - 1) (p.net.C p.S) hW.net) ?_
      rintro _ h_ ⟨rfl, e_⟩
      rw [e_]
      clear e_ h_
      dsimp only [Option.toList, List.drop, List.cons_append, List.nil_append]
      refine Wp.bif_eq (tgt := 35) (n := 23) dX11_lineTold_20 (by decide) rfl (fun c_20 => ?_) (fun c_20 => ?_)
      · try simp only [decide_eq_true_eq, decide_eq_false_iff_not, Bool.and_eq_true, bI_0, bI_n0] at c_20
        refine Wp.iconst (v := (-1)) dX11_lineTold_35 (by decide) rfl ?_
        exact Wp.iret dX11_lineTold_36 rfl (by rw [a_lineTold, if_pos (by omega), if_neg (by omega)]; exact ⟨rfl, FX.rfl, A, C, ns, ws, cp, ln, lr, p.up hj, ha⟩)
      · try simp only [decide_eq_true_eq, decide_eq_false_iff_not, Bool.and_eq_true, bI_0, bI_n0] at c_20
        obtain ⟨i, rfl, hi, hi2⟩ := as_nI (show 0 ≤ l.toInt ∧ l.toInt < σ.N.L by omega)
        obtain ⟨k, rfl, hk, hk2⟩ := as_nI (o := w) (n := 4) (by omega)
        have ti := nI_tI hi2
        have tk := nI_tI hk2
        refine Wp.aload_n dX11_lineTold_23 rfl (by first | exact Or.inr ⟨_, rfl⟩ | exact Or.inl rfl) rfl ?_
        refine Wp.get dX11_lineTold_24 fl_X11_10 (p.S.at' hVb ha) b0 rfl ?_
        refine Wp.iload_n dX11_lineTold_27 rfl rfl ?_
        refine Wp.iload_n dX11_lineTold_28 rfl rfl ?_
        refine Wp.cV dX11_lineTold_29 cv_X11_96 rfl (by omega) rfl (Nat.le_of_ble_eq_true rfl) (Nat.le_of_ble_eq_true rfl) (p.S.at hVn) rfl (c_X2_numberOf (d := d - 1) (p.net.C p.S) hW.net hi (by omega)) ?_
        rintro _ h_ ⟨rfl, e_⟩
        rw [e_]
        clear e_ h_
        dsimp only [Option.toList, List.drop, List.cons_append, List.nil_append]
        refine Wp.goto (n := 36) dX11_lineTold_32 (by decide) ?_
        exact Wp.iret dX11_lineTold_36 rfl (by rw [a_lineTold, if_pos (by omega), if_pos (by omega), tn_nI hi2, tn_nI hk2]; exact ⟨rfl, FX.rfl, A, C, ns, ws, cp, ln, lr, p.up hj, ha⟩)
    · try simp (disch := omega) only [nI_bit0, nI_bit1, Bool.not_eq_false, Bool.not_eq_true] at c_6
      try simp (disch := omega) only [i_lt, i_le, i_eq, l_lt, l_le, l_eq, i_0, i_m1, l_0, nI_tI, iI_tI, lI_tI, Int.not_lt, Int.not_le] at c_6
      refine Wp.bipush (v := (-2)) dX11_lineTold_9 (by decide) rfl ?_
      exact Wp.iret dX11_lineTold_11 rfl (by rw [a_lineTold, if_neg (by omega)]; exact ⟨rfl, FX.rfl, A, C, ns, ws, cp, ln, lr, p.up hj, ha⟩)
