/-! mathematics of the choices -/
def toldL (N : Nt) (o : Of) : List Nat := catL (fun i => if o.su i < 2 ^ N.L then [o.su i] else []) o.m o.m
/-- what an offer's gathering puts, in its order -/
def gatL (N : Nt) (o : Of) : List Nat := match o.k with
  | 1 => if 0 < N.T then growL N N.L 0 0 (N.T - 1) (fun u => u) else []
  | 2 => walkL N o.s N.T o.f (2 ^ o.f) 0
  | 3 => pairL N o.f N.L 0 0 (2 ^ N.T - 1)
  | _ => toldL N o
theorem gat_ch {N : Nt} {o : Of} (hN : NetWf N) (ho : OfW N.T o) : insA [] (gatL N o) = chL N o := sorry
theorem gat_len {N : Nt} {o : Of} (hN : NetWf N) (ho : OfW N.T o) : (gatL N o).length ≤ 4096 := by
  have h := insA_len (gatL N o) []
  rw [gat_ch hN ho, List.length_nil, Nat.zero_add] at h
  rw [← h]; exact gl_len _ _ _
theorem hang_rea {N : Nt} (hN : NetWf N) {s t : Nat} (hs : s < 4096) (ht : t < N.T) : hangU N.fr N.to s N.L N.T (2 ^ t) = reaM N.fr N.to s true N.L (2 ^ t) 7 := sorry
theorem led_rea {N : Nt} (hN : NetWf N) {t : Nat} (ht : t < N.T) : ledD N.fr N.to N.L N.T (2 ^ t) = reaM N.fr N.to (2 ^ N.L - 1) false N.L (2 ^ t) 7 := sorry
theorem bes_bes {N : Nt} (hN : NetWf N) {s sd : Nat} (hs : s < 128) : besU N.fr N.to s sd N.L = besM N.fr N.to s N.L &&& otS N.T sd := sorry
/-- the bends found are the reference's -/
def BenOK (σ : Sg) (o nb : Nat) (rb : Nat → Nat → Int) : Prop := nb + 2 = npt σ o ∧ ∀ i k, i < nb → k < 4 → rb i k = bndV σ o i k
/-- a row of a bend between two choices -/
def rowV (S R : Nat → Int) (c : Nat → Nat) (e : Nat × Nat) (k : Nat) : Int := if k = 0 then low true (S e.2 - S e.1) (R e.1 - R e.2) else if k = 1 then low false (S e.2 - S e.1) (R e.1 - R e.2) else if k = 2 then (c e.1 : Int) else (c e.2 : Int)
def blL (σ : Sg) (o : Nat) : List (Nat × Nat) := if 0 < chn σ o then bl (chS σ o) (chR σ o) (chn σ o) σ.p2 σ.q2 (chn σ o) (bst (cst (chS σ o) (chR σ o) σ.p1 σ.q1) (Kw 1 (chR σ o)) (chn σ o)) else []
theorem blL_len {σ : Sg} (hW : Wf σ) (o : Nat) : (blL σ o).length ≤ 480 := by
  unfold blL
  split
  · next h0 =>
    have hB := PrB_ch hW o
    have hb := bst_lt (cst (chS σ o) (chR σ o) σ.p1 σ.q1) (Kw 1 (chR σ o)) (chn σ o) h0
    have h1 := bl_len (P2 := σ.p2) (Q2 := σ.q2) hB (chn σ o) _ hb
    have h2 := hB.2 _ hb
    omega
  · simp
theorem ben_ok {σ : Sg} (hW : Wf σ) {o : Nat} {rb : Nat → Nat → Int} (h : ∀ i k, i < (blL σ o).length → k < 4 → rb i k = rowV (chS σ o) (chR σ o) (chC σ o) ((blL σ o).getD i (0, 0)) k) : BenOK σ o (blL σ o).length rb := sorry
