/-! every next state is well formed -/
section
variable {σ : Sg}
theorem Wf.netT (hW : Wf σ) {N : Nt} {U al : Nat} {sb rb : Int} (h1 : NetWf N) (h2 : U ≠ 0 → NetWf (σ.net N U al sb rb).B) (h3 : U ≤ 4) (h4 : U = 1 → 0 < N.T) (h5 : U = 2 → 0 < N.L) (h6 : U = 3 → al < N.L) (h7 : U = 4 → N.L < 12) (h8 : ∀ i, i < σ.n → OfW N.T (σ.O i)) : Wf (σ.net N U al sb rb) :=
  ⟨h1, h2, h3, h4, h5, h6, h7, hW.n, h8, hW.w1, hW.w2, hW.w3, hW.nR, hW.rv, hW.nT, hW.so, hW.sz, hW.sm⟩
theorem Wf.ofsT (hW : Wf σ) {n : Nat} {O : Nat → Of} (h1 : n ≤ 10) (h2 : ∀ i, i < n → OfW σ.N.T (O i)) : Wf (σ.ofs n O) :=
  ⟨hW.net, hW.bef, hW.u, hW.u1, hW.u2, hW.u3, hW.u4, h1, h2, hW.w1, hW.w2, hW.w3, hW.nR, hW.rv, hW.nT, hW.so, hW.sz, hW.sm⟩
theorem Wf.rwsT (hW : Wf σ) {n : Nat} {rv : Nat → Nat → Int} (h1 : n ≤ 480) (h2 : ∀ i k, i < n → k < 4 → -1000000 ≤ rv i k ∧ rv i k ≤ 1000000) : Wf (σ.rws n rv) :=
  ⟨hW.net, hW.bef, hW.u, hW.u1, hW.u2, hW.u3, hW.u4, hW.n, hW.of, hW.w1, hW.w2, hW.w3, h1, h2, hW.nT, hW.so, hW.sz, hW.sm⟩
theorem Wf.shsT (hW : Wf σ) {so : Nat → Int} {sz : Nat → Nat} {ce : Nat → Nat → Int64} (h1 : ∀ s, s < 4 → -1 ≤ so s ∧ so s ≤ 2) (h2 : ∀ s, s < 4 → sz s ≤ 40) (h3 : ∀ s, s < 4 → so s = -1 → sz s = 0) : Wf (σ.shs so sz ce) :=
  ⟨hW.net, hW.bef, hW.u, hW.u1, hW.u2, hW.u3, hW.u4, hW.n, hW.of, hW.w1, hW.w2, hW.w3, hW.nR, hW.rv, hW.nT, h1, h2, h3⟩
theorem Wf.winT (hW : Wf σ) {p q p2 q2 : Int} (h1 : isP p q) (h2 : isP p2 q2) (h3 : p * q2 ≤ p2 * q) : Wf (σ.win p q p2 q2) :=
  ⟨hW.net, hW.bef, hW.u, hW.u1, hW.u2, hW.u3, hW.u4, hW.n, hW.of, h1, h2, h3, hW.nR, hW.rv, hW.nT, hW.so, hW.sz, hW.sm⟩
theorem OfW.up {T T' : Nat} {o : Of} (h : OfW T o) (hT : T ≤ T') : OfW T' o :=
  ⟨h.k, h.m, h.mk, h.su, h.un, h.lo, h.so, fun k => by have := h.wy k; omega, fun k => Nat.lt_of_lt_of_le (h.pr k) (Nat.pow_le_pow_right (by decide) hT)⟩
theorem W_thing (hW : Wf σ) : Wf (t_thing σ) := by
  unfold t_thing
  split
  · exact hW
  · next h =>
    have hN := hW.net
    have hT := hN.1
    refine hW.netT (N := σ.N.pT) ⟨?_, hN.2.1, fun l hl => ?_⟩ (fun _ => hN) (by decide) (fun _ => Nat.succ_pos _) (fun z => absurd z (by decide)) (fun z => absurd z (by decide)) (fun z => absurd z (by decide)) (fun i hi => (hW.of i hi).up (Nat.le_succ _))
    · show σ.N.T + 1 ≤ 7; omega
    · have q := hN.2.2 l hl
      refine ⟨Nat.lt_succ_of_lt q.1, Nat.lt_succ_of_lt q.2.1, q.2.2⟩
theorem W_line (hW : Wf σ) {a b s r : Int32} : Wf (t_line σ a b s r) := by
  unfold t_line
  split
  · next h =>
    have hN := hW.net
    have hL := hN.2.1
    obtain ⟨⟨ha, hb, hne, hs, hr⟩, hL2⟩ := h
    have low : ∀ l, l < σ.N.L → (σ.N.pL (tn a) (tn b) s.toInt r.toInt).fr l = σ.N.fr l ∧ (σ.N.pL (tn a) (tn b) s.toInt r.toInt).to l = σ.N.to l ∧ (σ.N.pL (tn a) (tn b) s.toInt r.toInt).sa l = σ.N.sa l ∧ (σ.N.pL (tn a) (tn b) s.toInt r.toInt).ri l = σ.N.ri l := by
      intro l hl
      have ne : l ≠ σ.N.L := by omega
      exact ⟨if_neg ne, if_neg ne, if_neg ne, if_neg ne⟩
    have at_ : (σ.N.pL (tn a) (tn b) s.toInt r.toInt).fr σ.N.L = tn a ∧ (σ.N.pL (tn a) (tn b) s.toInt r.toInt).to σ.N.L = tn b ∧ (σ.N.pL (tn a) (tn b) s.toInt r.toInt).sa σ.N.L = s.toInt ∧ (σ.N.pL (tn a) (tn b) s.toInt r.toInt).ri σ.N.L = r.toInt := ⟨if_pos rfl, if_pos rfl, if_pos rfl, if_pos rfl⟩
    have tT : (σ.N.pL (tn a) (tn b) s.toInt r.toInt).T = σ.N.T := rfl
    have tL : (σ.N.pL (tn a) (tn b) s.toInt r.toInt).L = σ.N.L + 1 := rfl
    have old : ∀ l, l < σ.N.L → (σ.N.pL (tn a) (tn b) s.toInt r.toInt).fr l < σ.N.T ∧ (σ.N.pL (tn a) (tn b) s.toInt r.toInt).to l < σ.N.T ∧ (σ.N.pL (tn a) (tn b) s.toInt r.toInt).fr l ≠ (σ.N.pL (tn a) (tn b) s.toInt r.toInt).to l ∧ -100 ≤ (σ.N.pL (tn a) (tn b) s.toInt r.toInt).sa l ∧ (σ.N.pL (tn a) (tn b) s.toInt r.toInt).sa l ≤ 100 ∧ -20 ≤ (σ.N.pL (tn a) (tn b) s.toInt r.toInt).ri l ∧ (σ.N.pL (tn a) (tn b) s.toInt r.toInt).ri l ≤ 20 := by
      intro l hl
      obtain ⟨e1, e2, e3, e4⟩ := low l hl
      rw [e1, e2, e3, e4]
      exact hN.2.2 l hl
    refine hW.netT (N := σ.N.pL (tn a) (tn b) s.toInt r.toInt) ⟨hN.1, ?_, fun l hl => ?_⟩ (fun _ => ⟨hN.1, ?_, fun l hl => old l hl⟩) (by decide) (fun z => absurd z (by decide)) (fun _ => Nat.succ_pos _) (fun z => absurd z (by decide)) (fun z => absurd z (by decide)) (fun i hi => hW.of i hi)
    · rw [tL]; omega
    · rw [tL] at hl
      rw [tT]
      by_cases e : l = σ.N.L
      · subst e
        obtain ⟨e1, e2, e3, e4⟩ := at_
        rw [e1, e2, e3, e4]
        unfold tn
        omega
      · exact old l (by omega)
    · exact hL
  · exact hW
theorem W_alter (hW : Wf σ) {l s r : Int32} : Wf (t_alter σ l s r) := by
  unfold t_alter
  split
  · next h =>
    have hN := hW.net
    obtain ⟨hl, hs, hr⟩ := h
    have ht : tn l < σ.N.L := by unfold tn; omega
    have bnd : ∀ (f : Nat → Int) (k : Nat) (v lo hi : Int), (∀ m, m < σ.N.L → lo ≤ f m ∧ f m ≤ hi) → lo ≤ v → v ≤ hi → ∀ m, m < σ.N.L → lo ≤ updZ f k v m ∧ updZ f k v m ≤ hi := by
      intro f k v lo hi hf h1 h2 m hm
      unfold updZ
      split
      · exact ⟨h1, h2⟩
      · exact hf m hm
    have b1 := bnd σ.N.sa (tn l) s.toInt (-100) 100 (fun m hm => by have := hN.2.2 m hm; omega) hs.1 hs.2
    have b2 := bnd σ.N.ri (tn l) r.toInt (-20) 20 (fun m hm => by have := hN.2.2 m hm; omega) hr.1 hr.2
    have q := hN.2.2 (tn l) ht
    have c1 := bnd (updZ σ.N.sa (tn l) s.toInt) (tn l) (σ.N.sa (tn l)) (-100) 100 b1 (by omega) (by omega)
    have c2 := bnd (updZ σ.N.ri (tn l) r.toInt) (tn l) (σ.N.ri (tn l)) (-20) 20 b2 (by omega) (by omega)
    refine hW.netT (N := σ.N.al (tn l) s.toInt r.toInt) ⟨hN.1, hN.2.1, fun m hm => ?_⟩ (fun _ => ⟨hN.1, hN.2.1, fun m hm => ?_⟩) (by decide) (fun z => absurd z (by decide)) (fun z => absurd z (by decide)) (fun _ => ht) (fun z => absurd z (by decide)) (fun i hi => hW.of i hi)
    · have w := hN.2.2 m hm
      exact ⟨w.1, w.2.1, w.2.2.1, (b1 m hm).1, (b1 m hm).2, (b2 m hm).1, (b2 m hm).2⟩
    · have w := hN.2.2 m hm
      exact ⟨w.1, w.2.1, w.2.2.1, (c1 m hm).1, (c1 m hm).2, (c2 m hm).1, (c2 m hm).2⟩
  · exact hW
theorem W_close (hW : Wf σ) : Wf (t_close σ) := by
  unfold t_close
  split
  · exact hW
  · next h =>
    have hN := hW.net
    have hL := hN.2.1
    have tL : σ.N.mL.L = σ.N.L - 1 := rfl
    refine hW.netT (N := σ.N.mL) ⟨hN.1, by rw [tL]; omega, fun l hl => hN.2.2 l (by rw [tL] at hl; omega)⟩ (fun _ => ⟨hN.1, ?_, fun l hl => hN.2.2 l ?_⟩) (by decide) (fun z => absurd z (by decide)) (fun z => absurd z (by decide)) (fun z => absurd z (by decide)) (fun _ => by rw [tL]; omega) (fun i hi => hW.of i hi)
    · show σ.N.L - 1 + 1 ≤ 12; omega
    · have hl' : l < σ.N.L - 1 + 1 := hl
      omega
theorem okU_all : ∀ n, okU σ n = true → ∀ i, i < n → okO σ.B.T (σ.O i) = true
  | 0, _, i, hi => absurd hi (Nat.not_lt_zero i)
  | n + 1, h, i, hi => by
    simp only [okU, Bool.and_eq_true] at h
    by_cases e : i = n
    · rw [e]; exact h.2
    · exact okU_all n h.1 i (by omega)
theorem W_undo (hW : Wf σ) : Wf (t_undo σ) := by
  unfold t_undo
  split
  · next h =>
    refine hW.netT (N := σ.B) (hW.bef h.1) (fun z => absurd rfl z) (by decide) (fun z => absurd z (by decide)) (fun z => absurd z (by decide)) (fun z => absurd z (by decide)) (fun z => absurd z (by decide)) (fun i hi => ?_)
    have o := hW.of i hi
    have q := okU_all σ.n h.2 i hi
    unfold okO at q
    have q2 := of_decide_eq_true q
    exact ⟨o.k, o.m, o.mk, o.su, o.un, o.lo, o.so, fun k => ⟨(q2.1 k).1, (q2.1 k).2, (o.wy k).2.2⟩, q2.2⟩
  · exact hW
theorem W_made (hW : Wf σ) {k x y : Nat} (hn : OfW σ.N.T (Of.new k x y)) : Wf (t_made σ k x y) := by
  have h10 := hW.n
  unfold t_made
  split
  · exact hW
  · next h =>
    refine hW.ofsT (by omega) (fun i hi => ?_)
    by_cases e : i = σ.n
    · rw [if_pos e]; exact hn
    · rw [if_neg e]; exact hW.of i (by omega)
theorem OfW.new0 {T : Nat} : OfW T (Of.new 0 0 0) := ⟨Nat.zero_le _, Nat.zero_le _, fun _ => rfl, fun i hi => absurd hi (Nat.not_lt_zero i), fun i _ hi => absurd hi (Nat.not_lt_zero i), fun _ => rfl, fun _ => rfl, fun z => absurd z (by decide : ¬ (0 : Nat) = 2), fun z => absurd z (by decide : ¬ (0 : Nat) = 3)⟩
theorem OfW.new1 {T : Nat} : OfW T (Of.new 1 0 0) := ⟨(by decide : 1 ≤ 3), Nat.zero_le _, fun _ => rfl, fun i hi => absurd hi (Nat.not_lt_zero i), fun i _ hi => absurd hi (Nat.not_lt_zero i), fun _ => rfl, fun _ => rfl, fun z => absurd z (by decide : ¬ (1 : Nat) = 2), fun z => absurd z (by decide : ¬ (1 : Nat) = 3)⟩
theorem W_way (hW : Wf σ) {a b : Int32} : Wf (t_way σ a b) := by
  unfold t_way
  split
  · next h =>
    refine W_made hW ⟨(by decide : 2 ≤ 3), Nat.zero_le _, fun _ => rfl, fun i hi => absurd hi (Nat.not_lt_zero i), fun i _ hi => absurd hi (Nat.not_lt_zero i), fun z => absurd z (by decide : ¬ (2 : Nat) ≤ 1), fun z => absurd rfl z, fun _ => ?_, fun z => absurd z (by decide : ¬ (2 : Nat) = 3)⟩
    show tn a < σ.N.T ∧ tn b < σ.N.T ∧ tn a ≠ tn b
    unfold tn
    omega
  · exact hW
theorem W_pairing (hW : Wf σ) {s : Int32} : Wf (t_pairing σ s) := by
  unfold t_pairing
  split
  · next h =>
    refine W_made hW ⟨(by decide : 3 ≤ 3), Nat.zero_le _, fun _ => rfl, fun i hi => absurd hi (Nat.not_lt_zero i), fun i _ hi => absurd hi (Nat.not_lt_zero i), fun z => absurd z (by decide : ¬ (3 : Nat) ≤ 1), fun _ => rfl, fun z => absurd z (by decide : ¬ (3 : Nat) = 2), fun _ => ?_⟩
    show tn s < 2 ^ σ.N.T
    unfold tn
    omega
  · exact hW
theorem W_tell (hW : Wf σ) {o s : Int32} : Wf (t_tell σ o s) := by
  unfold t_tell
  split
  · next h =>
    obtain ⟨⟨h1, h2, h3⟩, h4, h5⟩ := h
    refine hW.ofsT hW.n (fun i hi => ?_)
    by_cases e : i = tn o
    · rw [if_pos e]
      have w := hW.of (tn o) (by unfold tn; omega)
      have hm := w.m
      have ts : tn s < 4096 := by unfold tn; omega
      have hnew : ∀ k, k < (σ.O (tn o)).m → (σ.O (tn o)).su k ≠ tn s := by
        intro k hk z
        have := (tld_iff (su := (σ.O (tn o)).su) (s := tn s) (σ.O (tn o)).m).mpr ⟨k, hk, z⟩
        rw [h4] at this
        exact absurd this (by decide)
      refine ⟨Nat.zero_le _, ?_, fun z => absurd rfl z, fun k hk => ?_, fun k m hk hm2 hkm => ?_, fun _ => w.lo (by omega), fun _ => w.so (by omega), fun z => absurd z (by decide : ¬ (0 : Nat) = 2), fun z => absurd z (by decide : ¬ (0 : Nat) = 3)⟩
      · show (σ.O (tn o)).m + 1 ≤ 8
        omega
      · have hk' : k < (σ.O (tn o)).m + 1 := hk
        show updN (σ.O (tn o)).su (σ.O (tn o)).m (tn s) k < 4096
        unfold updN
        split
        · exact ts
        · exact w.su k (by omega)
      · have hk' : k < (σ.O (tn o)).m + 1 := hk
        have hm' : m < (σ.O (tn o)).m + 1 := hm2
        have hkm' : updN (σ.O (tn o)).su (σ.O (tn o)).m (tn s) k = updN (σ.O (tn o)).su (σ.O (tn o)).m (tn s) m := hkm
        unfold updN at hkm'
        by_cases e1 : k = (σ.O (tn o)).m
        · by_cases e2 : m = (σ.O (tn o)).m
          · rw [e1, e2]
          · rw [if_pos e1, if_neg e2] at hkm'
            exact absurd hkm'.symm (hnew m (by omega))
        · by_cases e2 : m = (σ.O (tn o)).m
          · rw [if_neg e1, if_pos e2] at hkm'
            exact absurd hkm' (hnew k (by omega))
          · rw [if_neg e1, if_neg e2] at hkm'
            exact w.un k m (by omega) (by omega) hkm'
    · rw [if_neg e]
      exact hW.of i hi
  · exact hW
theorem W_window (hW : Wf σ) {p q p2 q2 : Int32} : Wf (t_window σ p q p2 q2) := by
  unfold t_window
  split
  · next h => exact hW.winT h.1 h.2.1 h.2.2
  · exact hW
theorem W_write (hW : Wf σ) {o : Int32} : Wf (t_write σ o) := by
  unfold t_write
  split
  · have b := npt_b hW (tn o)
    exact hW.rwsT (by omega) (bk_b' hW (nb := npt σ (tn o) - 2) ⟨by omega, fun _ _ _ _ => rfl⟩)
  · exact hW
theorem W_forge (hW : Wf σ) {i w v : Int32} : Wf (t_forge σ i w v) := by
  unfold t_forge
  split
  · next h =>
    refine hW.rwsT hW.nR (fun u k hu hk => ?_)
    unfold updR
    split
    · exact h.2
    · exact hW.rv u k hu hk
  · exact hW
theorem W_sheet (hW : Wf σ) {s t n : Int32} : Wf (t_sheet σ s t n) := by
  unfold t_sheet
  split
  · next h =>
    obtain ⟨⟨h1, h2, h3⟩, h4⟩ := h
    refine hW.shsT (fun u hu => ?_) (fun u hu => ?_) (fun u hu he => ?_)
    · unfold updZ
      split
      · omega
      · exact hW.so u hu
    · unfold updN
      split
      · split
        · omega
        · unfold tn; omega
      · exact hW.sz u hu
    · unfold updZ at he
      unfold updN
      split at he
      · next e => rw [if_pos e, if_pos he]
      · next e => rw [if_neg e]; exact hW.sm u hu he
  · exact hW
theorem W_cell (hW : Wf σ) {s i v : Int32} : Wf (t_cell σ s i v) := by
  unfold t_cell
  split
  · exact hW.shsT hW.so hW.sz hW.sm
  · exact hW
theorem W_lay (hW : Wf σ) {s t i : Int32} : Wf (t_layS σ s t i) := by
  unfold t_layS
  split
  · exact W_line hW
  · exact hW
theorem W_copy (hW : Wf σ) {s i o j n : Int32} : Wf (t_copy σ s i o j n) := by
  unfold t_copy
  split
  · exact hW.shsT hW.so hW.sz hW.sm
  · exact hW
theorem actR_len {k o : Nat} {m x : Int32} {a : Int} : (actR k o m a x).1.length ≤ 20 := by
  have q := fun y => askR_len (k := k) (o := o) (m := m) (x := y)
  have s := fun y => shoR_len (k := k) (o := o) (m := m) (x := y)
  have lt : ∀ y, (tTurR k o m y).1.length ≤ 12 := fun y => by
    unfold tTurR
    have q1 := q (y + nI o)
    have q2 := s y
    simp only [List.length_cons, List.length_append]; omega
  unfold actR
  split
  · have := q x; omega
  · split
    · have := s x; omega
    · unfold turR
      split
      · have q1 := lt x
        have q2 := q (nI 0)
        simp only [List.length_cons, List.length_append]; omega
      · have := lt x
        omega
theorem W_act (hW : Wf σ) {o a x : Int32} : Wf (t_act σ o a x) := by
  have w := hW.trc (n := 0) (t := σ.tr) (by decide)
  unfold t_act t_act5
  split
  · refine w.runs _ ?_
    have h := actR_len (k := ((σ.trc 0 σ.tr).O (tn o)).k) (o := tn o) (m := nI (chn (σ.trc 0 σ.tr) (tn o))) (x := x) (a := a.toInt)
    show 0 + _ ≤ 1000
    omega
  · exact w
end
