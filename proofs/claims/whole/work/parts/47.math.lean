/-! mathematics of the choices -/
def toldL (N : Nt) (o : Of) : List Nat := catL (fun i => if o.su i < 2 ^ N.L then [o.su i] else []) o.m o.m
/-- what an offer's gathering puts, in its order -/
def gatL (N : Nt) (o : Of) : List Nat := match o.k with
  | 1 => if 0 < N.T then growL N N.L 0 0 (N.T - 1) (fun u => u) else []
  | 2 => walkL N o.s N.T o.f (2 ^ o.f) 0
  | 3 => pairL N o.f N.L 0 0 (2 ^ N.T - 1)
  | _ => toldL N o
theorem gat_ch {N : Nt} {o : Of} (hN : NetWf N) (ho : OfW N.T o) : insA [] (gatL N o) = chL N o := sorry
theorem gat_len {N : Nt} {o : Of} (hN : NetWf N) (ho : OfW N.T o) : (gatL N o).length ≤ 4096 := by
  have h := insA_len (gatL N o) []
  rw [gat_ch hN ho, List.length_nil, Nat.zero_add] at h
  rw [← h]; exact gl_len _ _ _
theorem hang_rea {N : Nt} (hN : NetWf N) {s t : Nat} (hs : s < 4096) (ht : t < N.T) : hangU N.fr N.to s N.L N.T (2 ^ t) = reaM N.fr N.to s true N.L (2 ^ t) 7 := sorry
theorem led_rea {N : Nt} (hN : NetWf N) {t : Nat} (ht : t < N.T) : ledD N.fr N.to N.L N.T (2 ^ t) = reaM N.fr N.to (2 ^ N.L - 1) false N.L (2 ^ t) 7 := sorry
theorem bes_bes {N : Nt} (hN : NetWf N) {s sd : Nat} (hs : s < 128) : besU N.fr N.to s sd N.L = besM N.fr N.to s N.L &&& otS N.T sd := sorry
