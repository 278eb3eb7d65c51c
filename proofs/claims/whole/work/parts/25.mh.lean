/-! the reference's own part of the heap, its state -/
def mOff : Nat → Nat
  | 0 => 1
  | 1 => 2
  | 4 => 3
  | 5 => 4
  | 6 => 5
  | 7 => 6
  | 8 => 7
  | 14 => 8
  | 15 => 9
  | 17 => 10
  | 18 => 11
  | 19 => 12
  | 21 => 13
  | 22 => 14
  | 23 => 15
  | 25 => 16
  | 26 => 17
  | 27 => 18
  | 35 => 19
  | _ => 0
def mIl : Nat → Nat
  | 0 => 50
  | 1 => 50
  | 4 => 10
  | 5 => 10
  | 6 => 10
  | 7 => 10
  | 8 => 80
  | 15 => 40
  | 17 => 4
  | 18 => 4
  | 21 => 4096
  | 22 => 4096
  | 23 => 4096
  | _ => 0
def mLl : Nat → Nat
  | 14 => 2000
  | 19 => 160
  | 25 => 500
  | 26 => 500
  | 27 => 500
  | 35 => 40
  | _ => 0
/-- the reference at x: its fields V, its int rows G, its long rows Z, each at its place behind x -/
def MH (h : ev_H) (x : Nat) (V : Nat → Value) (G : Nat → Nat → Int32) (Z : Nat → Nat → Int64) : Prop :=
  (h.1 x = some (ev_ob 11 V)) ∧
  (∀ k, 0 < mOff k → V k = .ref (x + mOff k)) ∧
  (∀ k, 0 < mIl k → h.1 (x + mOff k) = some (ev_ia (mIl k) (G k))) ∧
  (∀ k, 0 < mLl k → h.1 (x + mOff k) = some (ev_la (mLl k) (Z k)))
theorem MH.ob {h : ev_H} {x : Nat} {V : Nat → Value} {G : Nat → Nat → Int32} {Z : Nat → Nat → Int64} (h_ : MH h x V G Z) : h.1 x = some (ev_ob 11 V) := h_.1
theorem MH.rf {h : ev_H} {x : Nat} {V : Nat → Value} {G : Nat → Nat → Int32} {Z : Nat → Nat → Int64} (h_ : MH h x V G Z) : ∀ k, 0 < mOff k → V k = .ref (x + mOff k) := h_.2.1
theorem MH.ia {h : ev_H} {x : Nat} {V : Nat → Value} {G : Nat → Nat → Int32} {Z : Nat → Nat → Int64} (h_ : MH h x V G Z) : ∀ k, 0 < mIl k → h.1 (x + mOff k) = some (ev_ia (mIl k) (G k)) := h_.2.2.1
theorem MH.la {h : ev_H} {x : Nat} {V : Nat → Value} {G : Nat → Nat → Int32} {Z : Nat → Nat → Int64} (h_ : MH h x V G Z) : ∀ k, 0 < mLl k → h.1 (x + mOff k) = some (ev_la (mLl k) (Z k)) := h_.2.2.2
/-- nothing but the reference has changed -/
def Out (x : Nat) (h h' : ev_H) : Prop := h'.2 = h.2 ∧ ∀ a, (a < x ∨ x + 20 ≤ a) → h'.1 a = h.1 a
theorem Out.rfl {x : Nat} {h : ev_H} : Out x h h := ⟨Eq.refl _, fun _ _ => Eq.refl _⟩
theorem Out.trans {x : Nat} {h h1 h2 : ev_H} (a : Out x h h1) (b : Out x h1 h2) : Out x h h2 := ⟨b.1.trans a.1, fun q hq => (b.2 q hq).trans (a.2 q hq)⟩
theorem Out.up {x k : Nat} {h : ev_H} {e : ev_E} (hk : k < 20) : Out x h (ev_up h (x + k) e) := ⟨Eq.refl _, fun a ha => ev_up_o (by omega)⟩
theorem mOff_lt (k : Nat) : mOff k < 20 := by unfold mOff; split <;> decide
theorem mIl_off {k : Nat} (h : 0 < mIl k) : 0 < mOff k := by revert h; unfold mIl mOff; split <;> simp
theorem mLl_off {k : Nat} (h : 0 < mLl k) : 0 < mOff k := by revert h; unfold mLl mOff; split <;> simp
theorem mOff_inj {j k : Nat} (hj : 0 < mOff j) (h : mOff j = mOff k) : j = k := by
  have b : ∀ i, 0 < mOff i → i < 36 := by intro i hi; unfold mOff at hi; split at hi <;> simp_all
  have t : ∀ i, i < 36 → ∀ l, l < 36 → 0 < mOff i → mOff i = mOff l → i = l := by decide
  exact t j (b j hj) k (b k (by omega)) hj h
theorem mIL {k : Nat} (h : 0 < mIl k) : mLl k = 0 := by revert h; unfold mIl mLl; split <;> simp
theorem mLI {k : Nat} (h : 0 < mLl k) : mIl k = 0 := by revert h; unfold mIl mLl; split <;> simp
section
variable {B : ev_B} {d : Nat} {M : ev_M} {pc : Nat} {ls : List (Option Value)} {st : List Value} {Q : Option Value → ev_H → Prop} {h : ev_H} {x : Nat} {V : Nat → Value} {G : Nat → Nat → Int32} {Z : Nat → Nat → Int64}
theorem MH.put {k : Nat} {v : Value} (hM : MH h x V G Z) (hk : mOff k = 0)
    (kk : ∀ h1 V1, MH h1 x V1 G Z → Out x h h1 → V1 k = v → (∀ j, j ≠ k → V1 j = V j) → Wp B d M pc ls st h1 Q) : Wp B d M pc ls st (ev_up h x (ev_ob 11 (updV V k v))) Q := by
  refine kk _ (updV V k v) ⟨ev_up_s, fun j hj => ?_, fun j hj => ?_, fun j hj => ?_⟩ (Out.up (k := 0) (by decide)) (by simp [updV]) (fun j hj => by simp [updV, hj])
  · have : j ≠ k := fun e => by rw [e] at hj; omega
    simp only [updV, this, if_false]; exact hM.rf j hj
  · rw [ev_up_o (by have := mIl_off hj; omega)]; exact hM.ia j hj
  · rw [ev_up_o (by have := mLl_off hj; omega)]; exact hM.la j hj
theorem MH.sti {k j : Nat} {v : Int32} (hM : MH h x V G Z) (hk : 0 < mIl k)
    (kk : ∀ h1 G1, MH h1 x V G1 Z → Out x h h1 → G1 k = upd (G k) j v → (∀ i, i ≠ k → G1 i = G i) → Wp B d M pc ls st h1 Q) : Wp B d M pc ls st (ev_up h (x + mOff k) (ev_ia (mIl k) (upd (G k) j v))) Q := by
  have hk' := mIl_off hk
  refine kk _ (fun i => if i = k then upd (G k) j v else G i) ⟨?_, fun i hi => hM.rf i hi, fun i hi => ?_, fun i hi => ?_⟩ (Out.up (mOff_lt k)) (by simp) (fun i hi => by simp [hi])
  · rw [ev_up_o (by omega)]; exact hM.ob
  · by_cases e : i = k
    · subst e; simp [ev_up_s]
    · rw [ev_up_o (fun z => e (mOff_inj (mIl_off hi) (by omega)))]; simp [e]; exact hM.ia i hi
  · rw [ev_up_o (fun z => by have e := mOff_inj (mLl_off hi) (k := k) (by omega); subst e; rw [mIL hk] at hi; omega)]; exact hM.la i hi
theorem MH.stl {k j : Nat} {v : Int64} (hM : MH h x V G Z) (hk : 0 < mLl k)
    (kk : ∀ h1 Z1, MH h1 x V G Z1 → Out x h h1 → Z1 k = vp_updL (Z k) j v → (∀ i, i ≠ k → Z1 i = Z i) → Wp B d M pc ls st h1 Q) : Wp B d M pc ls st (ev_up h (x + mOff k) (ev_la (mLl k) (vp_updL (Z k) j v))) Q := by
  have hk' := mLl_off hk
  refine kk _ (fun i => if i = k then vp_updL (Z k) j v else Z i) ⟨?_, fun i hi => hM.rf i hi, fun i hi => ?_, fun i hi => ?_⟩ (Out.up (mOff_lt k)) (by simp) (fun i hi => by simp [hi])
  · rw [ev_up_o (by omega)]; exact hM.ob
  · rw [ev_up_o (fun z => by have e := mOff_inj (mIl_off hi) (k := k) (by omega); subst e; rw [mLI hk] at hi; omega)]; exact hM.ia i hi
  · by_cases e : i = k
    · subst e; simp [ev_up_s]
    · rw [ev_up_o (fun z => e (mOff_inj (mLl_off hi) (by omega)))]; simp [e]; exact hM.la i hi
end
/-- a net; an offer; the state of a bench -/
def Nt : Type := (Nat) × (Nat) × (Nat → Nat) × (Nat → Nat) × (Nat → Int) × (Nat → Int)
def Nt.T (r_ : Nt) : Nat := r_.1
def Nt.L (r_ : Nt) : Nat := r_.2.1
def Nt.fr (r_ : Nt) : Nat → Nat := r_.2.2.1
def Nt.to (r_ : Nt) : Nat → Nat := r_.2.2.2.1
def Nt.sa (r_ : Nt) : Nat → Int := r_.2.2.2.2.1
def Nt.ri (r_ : Nt) : Nat → Int := r_.2.2.2.2.2
def Nt.mk (T_ : Nat) (L_ : Nat) (fr_ : Nat → Nat) (to_ : Nat → Nat) (sa_ : Nat → Int) (ri_ : Nat → Int) : Nt := (T_, L_, fr_, to_, sa_, ri_)
def Nt.s_T (r_ : Nt) (x_ : Nat) : Nt := Nt.mk x_ r_.L r_.fr r_.to r_.sa r_.ri
def Nt.s_L (r_ : Nt) (x_ : Nat) : Nt := Nt.mk r_.T x_ r_.fr r_.to r_.sa r_.ri
def Nt.s_fr (r_ : Nt) (x_ : Nat → Nat) : Nt := Nt.mk r_.T r_.L x_ r_.to r_.sa r_.ri
def Nt.s_to (r_ : Nt) (x_ : Nat → Nat) : Nt := Nt.mk r_.T r_.L r_.fr x_ r_.sa r_.ri
def Nt.s_sa (r_ : Nt) (x_ : Nat → Int) : Nt := Nt.mk r_.T r_.L r_.fr r_.to x_ r_.ri
def Nt.s_ri (r_ : Nt) (x_ : Nat → Int) : Nt := Nt.mk r_.T r_.L r_.fr r_.to r_.sa x_
def Of : Type := (Nat) × (Nat) × (Nat) × (Nat) × (Nat → Nat)
def Of.k (r_ : Of) : Nat := r_.1
def Of.f (r_ : Of) : Nat := r_.2.1
def Of.s (r_ : Of) : Nat := r_.2.2.1
def Of.m (r_ : Of) : Nat := r_.2.2.2.1
def Of.su (r_ : Of) : Nat → Nat := r_.2.2.2.2
def Of.mk (k_ : Nat) (f_ : Nat) (s_ : Nat) (m_ : Nat) (su_ : Nat → Nat) : Of := (k_, f_, s_, m_, su_)
def Of.s_k (r_ : Of) (x_ : Nat) : Of := Of.mk x_ r_.f r_.s r_.m r_.su
def Of.s_f (r_ : Of) (x_ : Nat) : Of := Of.mk r_.k x_ r_.s r_.m r_.su
def Of.s_s (r_ : Of) (x_ : Nat) : Of := Of.mk r_.k r_.f x_ r_.m r_.su
def Of.s_m (r_ : Of) (x_ : Nat) : Of := Of.mk r_.k r_.f r_.s x_ r_.su
def Of.s_su (r_ : Of) (x_ : Nat → Nat) : Of := Of.mk r_.k r_.f r_.s r_.m x_
def Sg : Type := (Nt) × (Nat) × (Nat) × (Int) × (Int) × (Nat) × (Nat → Of) × (Int) × (Int) × (Int) × (Int) × (Nat) × (Nat → Nat → Int) × (Nat) × (Nat → Nat) × (Nat → Int) × (Nat → Nat) × (Nat → Nat → Int64)
def Sg.N (r_ : Sg) : Nt := r_.1
def Sg.U (r_ : Sg) : Nat := r_.2.1
def Sg.al (r_ : Sg) : Nat := r_.2.2.1
def Sg.sb (r_ : Sg) : Int := r_.2.2.2.1
def Sg.rb (r_ : Sg) : Int := r_.2.2.2.2.1
def Sg.n (r_ : Sg) : Nat := r_.2.2.2.2.2.1
def Sg.O (r_ : Sg) : Nat → Of := r_.2.2.2.2.2.2.1
def Sg.p1 (r_ : Sg) : Int := r_.2.2.2.2.2.2.2.1
def Sg.q1 (r_ : Sg) : Int := r_.2.2.2.2.2.2.2.2.1
def Sg.p2 (r_ : Sg) : Int := r_.2.2.2.2.2.2.2.2.2.1
def Sg.q2 (r_ : Sg) : Int := r_.2.2.2.2.2.2.2.2.2.2.1
def Sg.nR (r_ : Sg) : Nat := r_.2.2.2.2.2.2.2.2.2.2.2.1
def Sg.rv (r_ : Sg) : Nat → Nat → Int := r_.2.2.2.2.2.2.2.2.2.2.2.2.1
def Sg.nT (r_ : Sg) : Nat := r_.2.2.2.2.2.2.2.2.2.2.2.2.2.1
def Sg.tr (r_ : Sg) : Nat → Nat := r_.2.2.2.2.2.2.2.2.2.2.2.2.2.2.1
def Sg.so (r_ : Sg) : Nat → Int := r_.2.2.2.2.2.2.2.2.2.2.2.2.2.2.2.1
def Sg.sz (r_ : Sg) : Nat → Nat := r_.2.2.2.2.2.2.2.2.2.2.2.2.2.2.2.2.1
def Sg.ce (r_ : Sg) : Nat → Nat → Int64 := r_.2.2.2.2.2.2.2.2.2.2.2.2.2.2.2.2.2
def Sg.mk (N_ : Nt) (U_ : Nat) (al_ : Nat) (sb_ : Int) (rb_ : Int) (n_ : Nat) (O_ : Nat → Of) (p1_ : Int) (q1_ : Int) (p2_ : Int) (q2_ : Int) (nR_ : Nat) (rv_ : Nat → Nat → Int) (nT_ : Nat) (tr_ : Nat → Nat) (so_ : Nat → Int) (sz_ : Nat → Nat) (ce_ : Nat → Nat → Int64) : Sg := (N_, U_, al_, sb_, rb_, n_, O_, p1_, q1_, p2_, q2_, nR_, rv_, nT_, tr_, so_, sz_, ce_)
def Sg.s_N (r_ : Sg) (x_ : Nt) : Sg := Sg.mk x_ r_.U r_.al r_.sb r_.rb r_.n r_.O r_.p1 r_.q1 r_.p2 r_.q2 r_.nR r_.rv r_.nT r_.tr r_.so r_.sz r_.ce
def Sg.s_U (r_ : Sg) (x_ : Nat) : Sg := Sg.mk r_.N x_ r_.al r_.sb r_.rb r_.n r_.O r_.p1 r_.q1 r_.p2 r_.q2 r_.nR r_.rv r_.nT r_.tr r_.so r_.sz r_.ce
def Sg.s_al (r_ : Sg) (x_ : Nat) : Sg := Sg.mk r_.N r_.U x_ r_.sb r_.rb r_.n r_.O r_.p1 r_.q1 r_.p2 r_.q2 r_.nR r_.rv r_.nT r_.tr r_.so r_.sz r_.ce
def Sg.s_sb (r_ : Sg) (x_ : Int) : Sg := Sg.mk r_.N r_.U r_.al x_ r_.rb r_.n r_.O r_.p1 r_.q1 r_.p2 r_.q2 r_.nR r_.rv r_.nT r_.tr r_.so r_.sz r_.ce
def Sg.s_rb (r_ : Sg) (x_ : Int) : Sg := Sg.mk r_.N r_.U r_.al r_.sb x_ r_.n r_.O r_.p1 r_.q1 r_.p2 r_.q2 r_.nR r_.rv r_.nT r_.tr r_.so r_.sz r_.ce
def Sg.s_n (r_ : Sg) (x_ : Nat) : Sg := Sg.mk r_.N r_.U r_.al r_.sb r_.rb x_ r_.O r_.p1 r_.q1 r_.p2 r_.q2 r_.nR r_.rv r_.nT r_.tr r_.so r_.sz r_.ce
def Sg.s_O (r_ : Sg) (x_ : Nat → Of) : Sg := Sg.mk r_.N r_.U r_.al r_.sb r_.rb r_.n x_ r_.p1 r_.q1 r_.p2 r_.q2 r_.nR r_.rv r_.nT r_.tr r_.so r_.sz r_.ce
def Sg.s_p1 (r_ : Sg) (x_ : Int) : Sg := Sg.mk r_.N r_.U r_.al r_.sb r_.rb r_.n r_.O x_ r_.q1 r_.p2 r_.q2 r_.nR r_.rv r_.nT r_.tr r_.so r_.sz r_.ce
def Sg.s_q1 (r_ : Sg) (x_ : Int) : Sg := Sg.mk r_.N r_.U r_.al r_.sb r_.rb r_.n r_.O r_.p1 x_ r_.p2 r_.q2 r_.nR r_.rv r_.nT r_.tr r_.so r_.sz r_.ce
def Sg.s_p2 (r_ : Sg) (x_ : Int) : Sg := Sg.mk r_.N r_.U r_.al r_.sb r_.rb r_.n r_.O r_.p1 r_.q1 x_ r_.q2 r_.nR r_.rv r_.nT r_.tr r_.so r_.sz r_.ce
def Sg.s_q2 (r_ : Sg) (x_ : Int) : Sg := Sg.mk r_.N r_.U r_.al r_.sb r_.rb r_.n r_.O r_.p1 r_.q1 r_.p2 x_ r_.nR r_.rv r_.nT r_.tr r_.so r_.sz r_.ce
def Sg.s_nR (r_ : Sg) (x_ : Nat) : Sg := Sg.mk r_.N r_.U r_.al r_.sb r_.rb r_.n r_.O r_.p1 r_.q1 r_.p2 r_.q2 x_ r_.rv r_.nT r_.tr r_.so r_.sz r_.ce
def Sg.s_rv (r_ : Sg) (x_ : Nat → Nat → Int) : Sg := Sg.mk r_.N r_.U r_.al r_.sb r_.rb r_.n r_.O r_.p1 r_.q1 r_.p2 r_.q2 r_.nR x_ r_.nT r_.tr r_.so r_.sz r_.ce
def Sg.s_nT (r_ : Sg) (x_ : Nat) : Sg := Sg.mk r_.N r_.U r_.al r_.sb r_.rb r_.n r_.O r_.p1 r_.q1 r_.p2 r_.q2 r_.nR r_.rv x_ r_.tr r_.so r_.sz r_.ce
def Sg.s_tr (r_ : Sg) (x_ : Nat → Nat) : Sg := Sg.mk r_.N r_.U r_.al r_.sb r_.rb r_.n r_.O r_.p1 r_.q1 r_.p2 r_.q2 r_.nR r_.rv r_.nT x_ r_.so r_.sz r_.ce
def Sg.s_so (r_ : Sg) (x_ : Nat → Int) : Sg := Sg.mk r_.N r_.U r_.al r_.sb r_.rb r_.n r_.O r_.p1 r_.q1 r_.p2 r_.q2 r_.nR r_.rv r_.nT r_.tr x_ r_.sz r_.ce
def Sg.s_sz (r_ : Sg) (x_ : Nat → Nat) : Sg := Sg.mk r_.N r_.U r_.al r_.sb r_.rb r_.n r_.O r_.p1 r_.q1 r_.p2 r_.q2 r_.nR r_.rv r_.nT r_.tr r_.so x_ r_.ce
def Sg.s_ce (r_ : Sg) (x_ : Nat → Nat → Int64) : Sg := Sg.mk r_.N r_.U r_.al r_.sb r_.rb r_.n r_.O r_.p1 r_.q1 r_.p2 r_.q2 r_.nR r_.rv r_.nT r_.tr r_.so r_.sz x_
def updN (f : Nat → Nat) (k x : Nat) : Nat → Nat := fun j => if j = k then x else f j
def updZ (f : Nat → Int) (k : Nat) (x : Int) : Nat → Int := fun j => if j = k then x else f j
/-- the net before the latest change -/
def Sg.B (σ : Sg) : Nt := match σ.U with
  | 1 => σ.N.s_T (σ.N.T - 1)
  | 2 => σ.N.s_L (σ.N.L - 1)
  | 3 => (σ.N.s_sa (updZ σ.N.sa σ.al σ.sb)).s_ri (updZ σ.N.ri σ.al σ.rb)
  | 4 => σ.N.s_L (σ.N.L + 1)
  | _ => σ.N
abbrev NetWf (N : Nt) : Prop := NetW N.T N.L N.fr N.to N.sa N.ri
def OfW (T : Nat) (o : Of) : Prop :=
  (o.k ≤ 3) ∧
  (o.m ≤ 8) ∧
  (o.k ≠ 0 → o.m = 0) ∧
  (∀ i, i < o.m → o.su i < 4096) ∧
  (∀ i j, i < o.m → j < o.m → o.su i = o.su j → i = j) ∧
  (o.k ≤ 1 → o.f = 0) ∧
  (o.k ≠ 2 → o.s = 0) ∧
  (o.k = 2 → o.f < T ∧ o.s < T ∧ o.f ≠ o.s) ∧
  (o.k = 3 → o.f < 2 ^ T)
theorem OfW.k {T : Nat} {o : Of} (h_ : OfW T o) : o.k ≤ 3 := h_.1
theorem OfW.m {T : Nat} {o : Of} (h_ : OfW T o) : o.m ≤ 8 := h_.2.1
theorem OfW.mk {T : Nat} {o : Of} (h_ : OfW T o) : o.k ≠ 0 → o.m = 0 := h_.2.2.1
theorem OfW.su {T : Nat} {o : Of} (h_ : OfW T o) : ∀ i, i < o.m → o.su i < 4096 := h_.2.2.2.1
theorem OfW.un {T : Nat} {o : Of} (h_ : OfW T o) : ∀ i j, i < o.m → j < o.m → o.su i = o.su j → i = j := h_.2.2.2.2.1
theorem OfW.lo {T : Nat} {o : Of} (h_ : OfW T o) : o.k ≤ 1 → o.f = 0 := h_.2.2.2.2.2.1
theorem OfW.so {T : Nat} {o : Of} (h_ : OfW T o) : o.k ≠ 2 → o.s = 0 := h_.2.2.2.2.2.2.1
theorem OfW.wy {T : Nat} {o : Of} (h_ : OfW T o) : o.k = 2 → o.f < T ∧ o.s < T ∧ o.f ≠ o.s := h_.2.2.2.2.2.2.2.1
theorem OfW.pr {T : Nat} {o : Of} (h_ : OfW T o) : o.k = 3 → o.f < 2 ^ T := h_.2.2.2.2.2.2.2.2
abbrev isP (p q : Int) : Prop := (-10000 ≤ p ∧ p ≤ 10000) ∧ 1 ≤ q ∧ q ≤ 1000
def Wf (σ : Sg) : Prop :=
  (NetWf σ.N) ∧
  (σ.U ≠ 0 → NetWf σ.B) ∧
  (σ.U ≤ 4) ∧
  (σ.U = 1 → 0 < σ.N.T) ∧
  (σ.U = 2 → 0 < σ.N.L) ∧
  (σ.U = 3 → σ.al < σ.N.L) ∧
  (σ.U = 4 → σ.N.L < 12) ∧
  (σ.n ≤ 10) ∧
  (∀ i, i < σ.n → OfW σ.N.T (σ.O i)) ∧
  (isP σ.p1 σ.q1) ∧
  (isP σ.p2 σ.q2) ∧
  (σ.p1 * σ.q2 ≤ σ.p2 * σ.q1) ∧
  (σ.nR ≤ 480) ∧
  (∀ i k, i < σ.nR → k < 4 → -1000000 ≤ σ.rv i k ∧ σ.rv i k ≤ 1000000) ∧
  (σ.nT ≤ 1000) ∧
  (∀ s, s < 4 → -1 ≤ σ.so s ∧ σ.so s ≤ 2) ∧
  (∀ s, s < 4 → σ.sz s ≤ 40) ∧
  (∀ s, s < 4 → σ.so s = -1 → σ.sz s = 0)
theorem Wf.net {σ : Sg} (h_ : Wf σ) : NetWf σ.N := h_.1
theorem Wf.bef {σ : Sg} (h_ : Wf σ) : σ.U ≠ 0 → NetWf σ.B := h_.2.1
theorem Wf.u {σ : Sg} (h_ : Wf σ) : σ.U ≤ 4 := h_.2.2.1
theorem Wf.u1 {σ : Sg} (h_ : Wf σ) : σ.U = 1 → 0 < σ.N.T := h_.2.2.2.1
theorem Wf.u2 {σ : Sg} (h_ : Wf σ) : σ.U = 2 → 0 < σ.N.L := h_.2.2.2.2.1
theorem Wf.u3 {σ : Sg} (h_ : Wf σ) : σ.U = 3 → σ.al < σ.N.L := h_.2.2.2.2.2.1
theorem Wf.u4 {σ : Sg} (h_ : Wf σ) : σ.U = 4 → σ.N.L < 12 := h_.2.2.2.2.2.2.1
theorem Wf.n {σ : Sg} (h_ : Wf σ) : σ.n ≤ 10 := h_.2.2.2.2.2.2.2.1
theorem Wf.of {σ : Sg} (h_ : Wf σ) : ∀ i, i < σ.n → OfW σ.N.T (σ.O i) := h_.2.2.2.2.2.2.2.2.1
theorem Wf.w1 {σ : Sg} (h_ : Wf σ) : isP σ.p1 σ.q1 := h_.2.2.2.2.2.2.2.2.2.1
theorem Wf.w2 {σ : Sg} (h_ : Wf σ) : isP σ.p2 σ.q2 := h_.2.2.2.2.2.2.2.2.2.2.1
theorem Wf.w3 {σ : Sg} (h_ : Wf σ) : σ.p1 * σ.q2 ≤ σ.p2 * σ.q1 := h_.2.2.2.2.2.2.2.2.2.2.2.1
theorem Wf.nR {σ : Sg} (h_ : Wf σ) : σ.nR ≤ 480 := h_.2.2.2.2.2.2.2.2.2.2.2.2.1
theorem Wf.rv {σ : Sg} (h_ : Wf σ) : ∀ i k, i < σ.nR → k < 4 → -1000000 ≤ σ.rv i k ∧ σ.rv i k ≤ 1000000 := h_.2.2.2.2.2.2.2.2.2.2.2.2.2.1
theorem Wf.nT {σ : Sg} (h_ : Wf σ) : σ.nT ≤ 1000 := h_.2.2.2.2.2.2.2.2.2.2.2.2.2.2.1
theorem Wf.so {σ : Sg} (h_ : Wf σ) : ∀ s, s < 4 → -1 ≤ σ.so s ∧ σ.so s ≤ 2 := h_.2.2.2.2.2.2.2.2.2.2.2.2.2.2.2.1
theorem Wf.sz {σ : Sg} (h_ : Wf σ) : ∀ s, s < 4 → σ.sz s ≤ 40 := h_.2.2.2.2.2.2.2.2.2.2.2.2.2.2.2.2.1
theorem Wf.sm {σ : Sg} (h_ : Wf σ) : ∀ s, s < 4 → σ.so s = -1 → σ.sz s = 0 := h_.2.2.2.2.2.2.2.2.2.2.2.2.2.2.2.2.2
def NetG (g : Nat → Int32) (N : Nt) : Prop :=
  (g 0 = nI N.T) ∧
  (g 1 = nI N.L) ∧
  (∀ l, l < N.L → g (2 + 4 * l) = nI (N.fr l)) ∧
  (∀ l, l < N.L → g (3 + 4 * l) = nI (N.to l)) ∧
  (∀ l, l < N.L → g (4 + 4 * l) = iI (N.sa l)) ∧
  (∀ l, l < N.L → g (5 + 4 * l) = iI (N.ri l))
theorem NetG.T {g : Nat → Int32} {N : Nt} (h_ : NetG g N) : g 0 = nI N.T := h_.1
theorem NetG.L {g : Nat → Int32} {N : Nt} (h_ : NetG g N) : g 1 = nI N.L := h_.2.1
theorem NetG.fr {g : Nat → Int32} {N : Nt} (h_ : NetG g N) : ∀ l, l < N.L → g (2 + 4 * l) = nI (N.fr l) := h_.2.2.1
theorem NetG.to {g : Nat → Int32} {N : Nt} (h_ : NetG g N) : ∀ l, l < N.L → g (3 + 4 * l) = nI (N.to l) := h_.2.2.2.1
theorem NetG.sa {g : Nat → Int32} {N : Nt} (h_ : NetG g N) : ∀ l, l < N.L → g (4 + 4 * l) = iI (N.sa l) := h_.2.2.2.2.1
theorem NetG.ri {g : Nat → Int32} {N : Nt} (h_ : NetG g N) : ∀ l, l < N.L → g (5 + 4 * l) = iI (N.ri l) := h_.2.2.2.2.2
def OfG (G : Nat → Nat → Int32) (i : Nat) (o : Of) : Prop :=
  (G 4 i = nI o.k) ∧
  (G 5 i = nI o.f) ∧
  (G 6 i = nI o.s) ∧
  (G 7 i = nI o.m) ∧
  (∀ j, j < o.m → G 8 (8 * i + j) = nI (o.su j))
theorem OfG.k {G : Nat → Nat → Int32} {i : Nat} {o : Of} (h_ : OfG G i o) : G 4 i = nI o.k := h_.1
theorem OfG.f {G : Nat → Nat → Int32} {i : Nat} {o : Of} (h_ : OfG G i o) : G 5 i = nI o.f := h_.2.1
theorem OfG.s {G : Nat → Nat → Int32} {i : Nat} {o : Of} (h_ : OfG G i o) : G 6 i = nI o.s := h_.2.2.1
theorem OfG.m {G : Nat → Nat → Int32} {i : Nat} {o : Of} (h_ : OfG G i o) : G 7 i = nI o.m := h_.2.2.2.1
theorem OfG.su {G : Nat → Nat → Int32} {i : Nat} {o : Of} (h_ : OfG G i o) : ∀ j, j < o.m → G 8 (8 * i + j) = nI (o.su j) := h_.2.2.2.2
def PM (σ : Sg) (V : Nat → Value) (G : Nat → Nat → Int32) (Z : Nat → Nat → Int64) : Prop :=
  (NetG (G 0) σ.N) ∧
  (σ.U ≠ 0 → NetG (G 1) σ.B) ∧
  (V 2 = .int (bI (decide (σ.U ≠ 0)))) ∧
  (V 3 = .int (nI σ.n)) ∧
  (∀ i, i < σ.n → OfG G i (σ.O i)) ∧
  (V 9 = .int (iI σ.p1)) ∧
  (V 10 = .int (iI σ.q1)) ∧
  (V 11 = .int (iI σ.p2)) ∧
  (V 12 = .int (iI σ.q2)) ∧
  (V 13 = .int (nI σ.nR)) ∧
  (∀ i k, i < σ.nR → k < 4 → Z 14 (4 * i + k) = lI (σ.rv i k)) ∧
  (V 16 = .int (nI σ.nT)) ∧
  (∀ i, i < σ.nT → i < 40 → G 15 i = nI (σ.tr i)) ∧
  (∀ s, s < 4 → G 17 s = iI (σ.so s)) ∧
  (∀ s, s < 4 → G 18 s = nI (σ.sz s)) ∧
  (∀ s i, s < 4 → i < 40 → Z 19 (40 * s + i) = σ.ce s i)
theorem PM.net {σ : Sg} {V : Nat → Value} {G : Nat → Nat → Int32} {Z : Nat → Nat → Int64} (h_ : PM σ V G Z) : NetG (G 0) σ.N := h_.1
theorem PM.bef {σ : Sg} {V : Nat → Value} {G : Nat → Nat → Int32} {Z : Nat → Nat → Int64} (h_ : PM σ V G Z) : σ.U ≠ 0 → NetG (G 1) σ.B := h_.2.1
theorem PM.may {σ : Sg} {V : Nat → Value} {G : Nat → Nat → Int32} {Z : Nat → Nat → Int64} (h_ : PM σ V G Z) : V 2 = .int (bI (decide (σ.U ≠ 0))) := h_.2.2.1
theorem PM.nn {σ : Sg} {V : Nat → Value} {G : Nat → Nat → Int32} {Z : Nat → Nat → Int64} (h_ : PM σ V G Z) : V 3 = .int (nI σ.n) := h_.2.2.2.1
theorem PM.of {σ : Sg} {V : Nat → Value} {G : Nat → Nat → Int32} {Z : Nat → Nat → Int64} (h_ : PM σ V G Z) : ∀ i, i < σ.n → OfG G i (σ.O i) := h_.2.2.2.2.1
theorem PM.w1 {σ : Sg} {V : Nat → Value} {G : Nat → Nat → Int32} {Z : Nat → Nat → Int64} (h_ : PM σ V G Z) : V 9 = .int (iI σ.p1) := h_.2.2.2.2.2.1
theorem PM.w2 {σ : Sg} {V : Nat → Value} {G : Nat → Nat → Int32} {Z : Nat → Nat → Int64} (h_ : PM σ V G Z) : V 10 = .int (iI σ.q1) := h_.2.2.2.2.2.2.1
theorem PM.w3 {σ : Sg} {V : Nat → Value} {G : Nat → Nat → Int32} {Z : Nat → Nat → Int64} (h_ : PM σ V G Z) : V 11 = .int (iI σ.p2) := h_.2.2.2.2.2.2.2.1
theorem PM.w4 {σ : Sg} {V : Nat → Value} {G : Nat → Nat → Int32} {Z : Nat → Nat → Int64} (h_ : PM σ V G Z) : V 12 = .int (iI σ.q2) := h_.2.2.2.2.2.2.2.2.1
theorem PM.nR {σ : Sg} {V : Nat → Value} {G : Nat → Nat → Int32} {Z : Nat → Nat → Int64} (h_ : PM σ V G Z) : V 13 = .int (nI σ.nR) := h_.2.2.2.2.2.2.2.2.2.1
theorem PM.rv {σ : Sg} {V : Nat → Value} {G : Nat → Nat → Int32} {Z : Nat → Nat → Int64} (h_ : PM σ V G Z) : ∀ i k, i < σ.nR → k < 4 → Z 14 (4 * i + k) = lI (σ.rv i k) := h_.2.2.2.2.2.2.2.2.2.2.1
theorem PM.nT {σ : Sg} {V : Nat → Value} {G : Nat → Nat → Int32} {Z : Nat → Nat → Int64} (h_ : PM σ V G Z) : V 16 = .int (nI σ.nT) := h_.2.2.2.2.2.2.2.2.2.2.2.1
theorem PM.tr {σ : Sg} {V : Nat → Value} {G : Nat → Nat → Int32} {Z : Nat → Nat → Int64} (h_ : PM σ V G Z) : ∀ i, i < σ.nT → i < 40 → G 15 i = nI (σ.tr i) := h_.2.2.2.2.2.2.2.2.2.2.2.2.1
theorem PM.so {σ : Sg} {V : Nat → Value} {G : Nat → Nat → Int32} {Z : Nat → Nat → Int64} (h_ : PM σ V G Z) : ∀ s, s < 4 → G 17 s = iI (σ.so s) := h_.2.2.2.2.2.2.2.2.2.2.2.2.2.1
theorem PM.sz {σ : Sg} {V : Nat → Value} {G : Nat → Nat → Int32} {Z : Nat → Nat → Int64} (h_ : PM σ V G Z) : ∀ s, s < 4 → G 18 s = nI (σ.sz s) := h_.2.2.2.2.2.2.2.2.2.2.2.2.2.2.1
theorem PM.ce {σ : Sg} {V : Nat → Value} {G : Nat → Nat → Int32} {Z : Nat → Nat → Int64} (h_ : PM σ V G Z) : ∀ s i, s < 4 → i < 40 → Z 19 (40 * s + i) = σ.ce s i := h_.2.2.2.2.2.2.2.2.2.2.2.2.2.2.2
/-- nothing that lasts has changed -/
def Kp (V0 : Nat → Value) (G0 : Nat → Nat → Int32) (Z0 : Nat → Nat → Int64) (V : Nat → Value) (G : Nat → Nat → Int32) (Z : Nat → Nat → Int64) : Prop := ∀ k, k < 20 → V k = V0 k ∧ G k = G0 k ∧ Z k = Z0 k
theorem Kp.rfl {V : Nat → Value} {G : Nat → Nat → Int32} {Z : Nat → Nat → Int64} : Kp V G Z V G Z := fun _ _ => ⟨Eq.refl _, Eq.refl _, Eq.refl _⟩
section
variable {σ : Sg} {h : ev_H} {x k : Nat} {V V1 V0 V2 : Nat → Value} {G G1 G0 G2 : Nat → Nat → Int32} {Z Z1 Z0 Z2 : Nat → Nat → Int64}
theorem Kp.trans (a : Kp V0 G0 Z0 V G Z) (b : Kp V G Z V1 G1 Z1) : Kp V0 G0 Z0 V1 G1 Z1 := fun k hk => ⟨(b k hk).1.trans (a k hk).1, (b k hk).2.1.trans (a k hk).2.1, (b k hk).2.2.trans (a k hk).2.2⟩
theorem Kp.scV (a : Kp V0 G0 Z0 V G Z) (hk : 20 ≤ k) (f : ∀ j, j ≠ k → V1 j = V j) : Kp V0 G0 Z0 V1 G Z := fun j hj => ⟨(f j (by omega)).trans (a j hj).1, (a j hj).2⟩
theorem Kp.scG (a : Kp V0 G0 Z0 V G Z) (hk : 20 ≤ k) (f : ∀ j, j ≠ k → G1 j = G j) : Kp V0 G0 Z0 V G1 Z := fun j hj => ⟨(a j hj).1, (f j (by omega)).trans (a j hj).2.1, (a j hj).2.2⟩
theorem Kp.scZ (a : Kp V0 G0 Z0 V G Z) (hk : 20 ≤ k) (f : ∀ j, j ≠ k → Z1 j = Z j) : Kp V0 G0 Z0 V G Z1 := fun j hj => ⟨(a j hj).1, (a j hj).2.1, (f j (by omega)).trans (a j hj).2.2⟩
theorem PM.kp (a : PM σ V0 G0 Z0) (b : Kp V0 G0 Z0 V G Z) : PM σ V G Z := by
  have v := fun k (hk : k < 20) => (b k hk).1
  have g := fun k (hk : k < 20) => (b k hk).2.1
  have z := fun k (hk : k < 20) => (b k hk).2.2
  refine ⟨?_, ?_, ?_, ?_, ?_, ?_, ?_, ?_, ?_, ?_, ?_, ?_, ?_, ?_, ?_, ?_⟩
  · rw [g 0 (by decide)]; exact a.net
  · rw [g 1 (by decide)]; exact a.bef
  · rw [v 2 (by decide)]; exact a.may
  · rw [v 3 (by decide)]; exact a.nn
  · intro i hi
    have q := a.of i hi
    refine ⟨?_, ?_, ?_, ?_, ?_⟩
    · rw [g 4 (by decide)]; exact q.k
    · rw [g 5 (by decide)]; exact q.f
    · rw [g 6 (by decide)]; exact q.s
    · rw [g 7 (by decide)]; exact q.m
    · rw [g 8 (by decide)]; exact q.su
  · rw [v 9 (by decide)]; exact a.w1
  · rw [v 10 (by decide)]; exact a.w2
  · rw [v 11 (by decide)]; exact a.w3
  · rw [v 12 (by decide)]; exact a.w4
  · rw [v 13 (by decide)]; exact a.nR
  · rw [z 14 (by decide)]; exact a.rv
  · rw [v 16 (by decide)]; exact a.nT
  · rw [g 15 (by decide)]; exact a.tr
  · rw [g 17 (by decide)]; exact a.so
  · rw [g 18 (by decide)]; exact a.sz
  · rw [z 19 (by decide)]; exact a.ce
theorem PM.scV (a : PM σ V G Z) (hk : 20 ≤ k) (f : ∀ j, j ≠ k → V1 j = V j) : PM σ V1 G Z := a.kp (Kp.rfl.scV hk f)
theorem PM.scG (a : PM σ V G Z) (hk : 20 ≤ k) (f : ∀ j, j ≠ k → G1 j = G j) : PM σ V G1 Z := a.kp (Kp.rfl.scG hk f)
theorem PM.scZ (a : PM σ V G Z) (hk : 20 ≤ k) (f : ∀ j, j ≠ k → Z1 j = Z j) : PM σ V G Z1 := a.kp (Kp.rfl.scZ hk f)
theorem MH.net {N : Nt} (hM : MH h x V G Z) (hg : NetG (G 0) N) : NetM h x N.T N.L N.fr N.to N.sa N.ri :=
  ⟨V, x + 1, G 0, hM.ob, hM.rf 0 (by decide), hM.ia 0 (by decide), hg.T, hg.L, hg.fr, hg.to, hg.sa, hg.ri⟩
end
/-- the sets that are choices; those of the first k numbers in the order -/
def tldB (su : Nat → Nat) (s : Nat) : Nat → Bool
  | 0 => false
  | m + 1 => tldB su s m || decide (su m = s)
def chB (N : Nt) (o : Of) (s : Nat) : Bool := decide (s < 2 ^ N.L) && (match o.k with
  | 1 => trB N.fr N.to N.T N.L s
  | 2 => wayM N.fr N.to N.L o.s 128 o.f s (2 ^ o.f)
  | 3 => prB N.fr N.to N.T N.L s o.f
  | _ => tldB o.su s o.m)
def gl (N : Nt) (o : Of) (k : Nat) : List Nat := ((List.range k).map (fun k => ordM k 12)).filter (chB N o)
abbrev chL (N : Nt) (o : Of) : List Nat := gl N o 4096
theorem gl_succ (N : Nt) (o : Of) (k : Nat) : gl N o (k + 1) = if chB N o (ordM k 12) = true then gl N o k ++ [ordM k 12] else gl N o k := by
  simp only [gl, List.range_succ, List.map_append, List.filter_append, List.map_cons, List.map_nil, List.filter_cons, List.filter_nil]
  split <;> simp
theorem gl_len (N : Nt) (o : Of) (k : Nat) : (gl N o k).length ≤ k := by
  refine Nat.le_trans (List.length_filter_le ..) ?_
  simp
theorem chL_lt {N : Nt} {o : Of} {s : Nat} (h : s ∈ chL N o) : s < 4096 := by
  obtain ⟨h1, -⟩ := List.mem_filter.mp h
  obtain ⟨k, -, rfl⟩ := List.mem_map.mp h1
  exact ordM_lt k 12 (by decide)
/-- rows that hold sets, their starts and their rises -/
def AH (N : Nt) (l : List Nat) (g0 g1 g2 : Nat → Int32) : Prop := ∀ j, j < l.length → g0 j = nI (l.getD j 0) ∧ g1 j = iI (sumS N.sa (l.getD j 0) N.L) ∧ g2 j = iI (sumS N.ri (l.getD j 0) N.L)
theorem AH.nil {N : Nt} {g0 g1 g2 : Nat → Int32} : AH N [] g0 g1 g2 := fun j hj => absurd hj (Nat.not_lt_zero j)
theorem AH.snoc {N : Nt} {l : List Nat} {s : Nat} {g0 g1 g2 : Nat → Int32} (h : AH N l g0 g1 g2) :
    AH N (l ++ [s]) (upd g0 l.length (nI s)) (upd g1 l.length (iI (sumS N.sa s N.L))) (upd g2 l.length (iI (sumS N.ri s N.L))) := by
  intro j hj
  rw [List.length_append, List.length_singleton] at hj
  by_cases e : j = l.length
  · subst e
    simp [upd]
  · have h1 : j < l.length := by omega
    have h2 : (l ++ [s]).getD j 0 = l.getD j 0 := by simp [List.getD, List.getElem?_append_left h1]
    rw [h2]
    simp only [upd, e, if_false]
    exact h j h1
/-- an offer's number, as the call tells it -/
theorem as_nI {o : Int32} {n : Nat} (h : 0 ≤ o.toInt ∧ o.toInt < n) : ∃ i : Nat, o = nI i ∧ i < n ∧ i < 2147483648 := by
  have hl := Int32.toInt_lt o
  refine ⟨o.toInt.toNat, ?_, by omega, by omega⟩
  rw [nI_iI, Int.toNat_of_nonneg h.1]
  exact iI_of o
