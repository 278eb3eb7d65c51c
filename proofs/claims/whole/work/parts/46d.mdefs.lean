/-! what is gathered; the bends found: definitions -/
def toldL (N : Nt) (o : Of) : List Nat := catL (fun i => if o.su i < 2 ^ N.L then [o.su i] else []) o.m o.m
/-- what an offer's gathering puts, in its order -/
def gatL (N : Nt) (o : Of) : List Nat := match o.k with
  | 1 => if 0 < N.T then growL N N.L 0 0 (N.T - 1) (fun u => u) else []
  | 2 => walkL N o.s N.T o.f (2 ^ o.f) 0
  | 3 => pairL N o.f N.L 0 0 (2 ^ N.T - 1)
  | _ => toldL N o
theorem walkL_at {N : Nt} {la k seen ch : Nat} : walkL N la k la seen ch = [ch] := by cases k <;> simp [walkL]
theorem walkL_0 {N : Nt} {la t seen ch : Nat} (h : t ≠ la) : walkL N la 0 t seen ch = [] := by simp [walkL, h]
def wlF (N : Nt) (la k t seen ch l : Nat) : List Nat := if N.fr l = t ∧ seen.testBit (N.to l) = false then walkL N la k (N.to l) (seen ||| 2 ^ N.to l) (ch ||| 2 ^ l) else []
theorem walkL_s {N : Nt} {la k t seen ch : Nat} (h : t ≠ la) : walkL N la (k + 1) t seen ch = catL (wlF N la k t seen ch) N.L N.L := by simp [walkL, h]; rfl
/-- the bends found are the reference's -/
def BenOK (σ : Sg) (o nb : Nat) (rb : Nat → Nat → Int) : Prop := nb + 2 = npt σ o ∧ ∀ i k, i < nb → k < 4 → rb i k = bndV σ o i k
/-- a row of a bend between two choices -/
def rowV (S R : Nat → Int) (c : Nat → Nat) (e : Nat × Nat) (k : Nat) : Int := if k = 0 then low true (S e.2 - S e.1) (R e.1 - R e.2) else if k = 1 then low false (S e.2 - S e.1) (R e.1 - R e.2) else if k = 2 then (c e.1 : Int) else (c e.2 : Int)
def blL (σ : Sg) (o : Nat) : List (Nat × Nat) := if 0 < chn σ o then bl (chS σ o) (chR σ o) (chn σ o) σ.p2 σ.q2 (chn σ o) (bst (cst (chS σ o) (chR σ o) σ.p1 σ.q1) (Kw 1 (chR σ o)) (chn σ o)) else []
theorem blL_len {σ : Sg} (hW : Wf σ) (o : Nat) : (blL σ o).length ≤ 480 := by
  unfold blL
  split
  · next h0 =>
    have hB := PrB_ch hW o
    have hb := bst_lt (cst (chS σ o) (chR σ o) σ.p1 σ.q1) (Kw 1 (chR σ o)) (chn σ o) h0
    have h1 := bl_len (P2 := σ.p2) (Q2 := σ.q2) hB (chn σ o) _ hb
    have h2 := hB.2 _ hb
    omega
  · simp
