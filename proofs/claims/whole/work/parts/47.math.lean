/-! mathematics of the choices -/
theorem gat_ch {N : Nt} {o : Of} (hN : NetWf N) (ho : OfW N.T o) : insA [] (gatL N o) = chL N o := gat_ch' hN ho
theorem gat_len {N : Nt} {o : Of} (hN : NetWf N) (ho : OfW N.T o) : (gatL N o).length ≤ 4096 := by
  have h := insA_len (gatL N o) []
  rw [gat_ch hN ho, List.length_nil, Nat.zero_add] at h
  rw [← h]; exact gl_len _ _ _
theorem hang_rea {N : Nt} (hN : NetWf N) {s t : Nat} (_hs : s < 4096) (ht : t < N.T) : hangU N.fr N.to s N.L N.T (2 ^ t) = reaM N.fr N.to s true N.L (2 ^ t) 7 := hang_rea' hN ht
theorem led_rea {N : Nt} (hN : NetWf N) {t : Nat} (ht : t < N.T) : ledD N.fr N.to N.L N.T (2 ^ t) = reaM N.fr N.to (2 ^ N.L - 1) false N.L (2 ^ t) 7 := led_rea' hN ht
theorem bes_bes {N : Nt} (hN : NetWf N) {s sd : Nat} (_hs : s < 128) : besU N.fr N.to s sd N.L = besM N.fr N.to s N.L &&& otS N.T sd := bes_bes' hN
theorem ben_ok {σ : Sg} (hW : Wf σ) {o : Nat} {rb : Nat → Nat → Int} (h : ∀ i k, i < (blL σ o).length → k < 4 → rb i k = rowV (chS σ o) (chR σ o) (chC σ o) ((blL σ o).getD i (0, 0)) k) : BenOK σ o (blL σ o).length rb := ben_ok' hW h
