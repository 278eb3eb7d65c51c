/-! the reference's making -/
/-- the first n rows of the reference are made -/
def PMH (h0 h : ev_H) (x : Nat) (V : Nat → Value) (n w : Nat) : Prop := h.1 x = some (ev_ob 11 V) ∧ h.2.1 = x + 1 + n ∧ (∀ k, 0 < mOff k → mOff k ≤ n → V k = .ref (x + mOff k)) ∧ (∀ k, 0 < mIl k → mOff k ≤ n → h.1 (x + mOff k) = some (ev_ia (mIl k) (fun _ => 0))) ∧ (∀ k, 0 < mLl k → mOff k ≤ n → h.1 (x + mOff k) = some (ev_la (mLl k) (fun _ => 0))) ∧ (∀ a, a < x → h.1 a = h0.1 a) ∧ h.2.2 = w
section
variable {B : ev_B} {d : Nat} {M : ev_M} {pc : Nat} {ls : List (Option Value)} {st : List Value} {Q : Option Value → ev_H → Prop} {h0 h : ev_H} {x n w : Nat} {V : Nat → Value}
theorem PMH.ob (p : PMH h0 h x V n w) : h.1 x = some (ev_ob 11 V) := p.1
theorem PMH.obn {e : ev_E} {k : Nat} (p : PMH h0 h x V n w) : (ev_nw h e k).1 x = some (ev_ob 11 V) := by
  rw [ev_nw_o (by have := p.2.1; omega)]; exact p.1
theorem PMH.put {k : Nat} {v : Value} (p : PMH h0 h x V n w) (hk : mOff k = 0)
    (kk : ∀ h1 V1, PMH h0 h1 x V1 n w → V1 k = v → (∀ j, j ≠ k → V1 j = V j) → Wp B d M pc ls st h1 Q) : Wp B d M pc ls st (ev_up h x (ev_ob 11 (updV V k v))) Q := by
  obtain ⟨p1, p2, p3, p4, p5, p6, p7⟩ := p
  refine kk _ (updV V k v) ⟨ev_up_s, p2, fun j hj hn => ?_, fun j hj hn => ?_, fun j hj hn => ?_, fun a ha => ?_, p7⟩ (by simp [updV]) (fun j hj => by simp [updV, hj])
  · have : j ≠ k := fun e => by rw [e] at hj; omega
    simp only [updV, this, if_false]; exact p3 j hj hn
  · rw [ev_up_o (by have := mIl_off hj; omega)]; exact p4 j hj hn
  · rw [ev_up_o (by have := mLl_off hj; omega)]; exact p5 j hj hn
  · rw [ev_up_o (by omega)]; exact p6 a ha
theorem PMH.arI {k N : Nat} (p : PMH h0 h x V n w) (hk : mOff k = n + 1) (hN : mIl k = N) (hN0 : 0 < N)
    (kk : ∀ h1 V1, PMH h0 h1 x V1 (n + 1) (w + (N + 1)) → V1 k = .ref (x + mOff k) → (∀ j, j ≠ k → V1 j = V j) → Wp B d M pc ls st h1 Q) : Wp B d M pc ls st (ev_up (ev_nw h (ev_ia N (fun _ => 0)) N) x (ev_ob 11 (updV V k (.ref h.2.1)))) Q := by
  obtain ⟨p1, p2, p3, p4, p5, p6, p7⟩ := p
  have hx : x ≠ h.2.1 := by omega
  have hadr : h.2.1 = x + mOff k := by omega
  refine kk _ (updV V k (.ref h.2.1)) ⟨ev_up_s, by show h.2.1 + 1 = _; omega, fun j hj hn => ?_, fun j hj hn => ?_, fun j hj hn => ?_, fun a ha => ?_, by show h.2.2 + (N + 1) = _; rw [p7]⟩ (by simp [updV, hadr]) (fun j hj => by simp [updV, hj])
  · by_cases e : j = k
    · subst e; simp [updV, hadr]
    · simp only [updV, e, if_false]
      exact p3 j hj (by have : mOff j ≠ n + 1 := fun z => e (mOff_inj hj (by omega)); omega)
  · rw [ev_up_o (by have := mIl_off hj; omega)]
    by_cases e : j = k
    · subst e; rw [← hadr, ev_nw_s, hN]
    · have e2 : mOff j ≠ n + 1 := fun z => e (mOff_inj (mIl_off hj) (by omega))
      rw [ev_nw_o (by omega)]; exact p4 j hj (by omega)
  · rw [ev_up_o (by have := mLl_off hj; omega)]
    by_cases e : j = k
    · subst e; have := mIL (k := j) (by omega); omega
    · have e2 : mOff j ≠ n + 1 := fun z => e (mOff_inj (mLl_off hj) (by omega))
      rw [ev_nw_o (by omega)]; exact p5 j hj (by omega)
  · rw [ev_up_o (by omega), ev_nw_o (by omega)]; exact p6 a ha
theorem PMH.arL {k N : Nat} (p : PMH h0 h x V n w) (hk : mOff k = n + 1) (hN : mLl k = N) (hN0 : 0 < N)
    (kk : ∀ h1 V1, PMH h0 h1 x V1 (n + 1) (w + (N + 1)) → V1 k = .ref (x + mOff k) → (∀ j, j ≠ k → V1 j = V j) → Wp B d M pc ls st h1 Q) : Wp B d M pc ls st (ev_up (ev_nw h (ev_la N (fun _ => 0)) N) x (ev_ob 11 (updV V k (.ref h.2.1)))) Q := by
  obtain ⟨p1, p2, p3, p4, p5, p6, p7⟩ := p
  have hx : x ≠ h.2.1 := by omega
  have hadr : h.2.1 = x + mOff k := by omega
  refine kk _ (updV V k (.ref h.2.1)) ⟨ev_up_s, by show h.2.1 + 1 = _; omega, fun j hj hn => ?_, fun j hj hn => ?_, fun j hj hn => ?_, fun a ha => ?_, by show h.2.2 + (N + 1) = _; rw [p7]⟩ (by simp [updV, hadr]) (fun j hj => by simp [updV, hj])
  · by_cases e : j = k
    · subst e; simp [updV, hadr]
    · simp only [updV, e, if_false]
      exact p3 j hj (by have : mOff j ≠ n + 1 := fun z => e (mOff_inj hj (by omega)); omega)
  · rw [ev_up_o (by have := mIl_off hj; omega)]
    by_cases e : j = k
    · subst e; have := mLI (k := j) (by omega); omega
    · have e2 : mOff j ≠ n + 1 := fun z => e (mOff_inj (mIl_off hj) (by omega))
      rw [ev_nw_o (by omega)]; exact p4 j hj (by omega)
  · rw [ev_up_o (by have := mLl_off hj; omega)]
    by_cases e : j = k
    · subst e; rw [← hadr, ev_nw_s, hN]
    · have e2 : mOff j ≠ n + 1 := fun z => e (mOff_inj (mLl_off hj) (by omega))
      rw [ev_nw_o (by omega)]; exact p5 j hj (by omega)
  · rw [ev_up_o (by omega), ev_nw_o (by omega)]; exact p6 a ha
theorem PMH.wq {w' : Nat} (p : PMH h0 h x V n w) (e : w = w') : PMH h0 h x V n w' := by rw [← e]; exact p
theorem PMH.done (p : PMH h0 h x V 19 w) : MH h x V (fun _ _ => 0) (fun _ _ => 0) :=
  ⟨p.1, fun k hk => p.2.2.1 k hk (by have := mOff_lt k; omega), fun k hk => p.2.2.2.1 k hk (by have := mOff_lt k; omega), fun k hk => p.2.2.2.2.1 k hk (by have := mOff_lt k; omega)⟩
end
/-- the state of a new bench -/
def Sg.new : Sg := Sg.mk (Nt.mk 0 0 (fun _ => 0) (fun _ => 0) (fun _ => 0) (fun _ => 0)) 0 0 0 0 0 (fun _ => Of.new 0 0 0) 0 1 10 1 0 (fun _ _ => 0) 0 (fun _ => 0) (fun _ => -1) (fun _ => 0) (fun _ _ => 0)
theorem Wf.new : Wf Sg.new := by
  refine ⟨⟨by decide, by decide, fun l hl => absurd hl (Nat.not_lt_zero l)⟩, fun z => absurd rfl z, by decide, by decide, by decide, by decide, by decide, by decide, fun i hi => absurd hi (Nat.not_lt_zero i), by decide, by decide, by decide, by decide, fun i k hi => absurd hi (Nat.not_lt_zero i), by decide, fun s _ => ⟨Int.le_refl _, by show (-1 : Int) ≤ 2; decide⟩, fun s _ => Nat.zero_le _, fun s _ _ => rfl⟩
/-- what the reference's making takes -/
abbrev mW : Nat := 16275
set_option maxHeartbeats 2000000 in
theorem c_X12_init {B : ev_B} {d x : Nat} {h : ev_H} (hx : h.1 x = some (ev_ob 11 ev_v11)) (hn : h.2.1 = x + 1) (hd : 1 ≤ d) :
    Wp B d M_X12_init 0 [some (.ref x), none] [] h (fun v h' => v = none ∧ ∃ V' G', MH h' x V' G' (fun _ _ => 0) ∧ PM Sg.new V' G' (fun _ _ => 0) ∧ h'.2.1 = x + 20 ∧ (∀ a, a < x → h'.1 a = h.1 a) ∧ h'.2.2 = h.2.2 + mW) := by
  have s178 : ∀ (hq : ev_H) (Vq : Nat → Value), PMH h hq x Vq 19 (h.2.2 + 16275) → Vq 2 = .int 0 → Vq 3 = .int 0 → Vq 9 = .int 0 → Vq 10 = .int (nI 1) → Vq 11 = .int (nI 10) → Vq 12 = .int (nI 1) → Vq 13 = .int 0 → Vq 16 = .int 0 → Wp B d M_X12_init 178 [some (.ref x), none] [] hq (fun v h' => v = none ∧ ∃ V' G', MH h' x V' G' (fun _ _ => 0) ∧ PM Sg.new V' G' (fun _ _ => 0) ∧ h'.2.1 = x + 20 ∧ (∀ a, a < x → h'.1 a = h.1 a) ∧ h'.2.2 = h.2.2 + mW) := by
    intro hq Vq qq u2 u3 u9 u10 u11 u12 u13 u16
    have loop : ∀ w, w ≤ 4 → ∀ (hh : ev_H) (Gi : Nat → Nat → Int32), MH hh x Vq Gi (fun _ _ => 0) → Out x hq hh → (∀ k, k ≠ 17 → Gi k = fun _ => 0) → (∀ q, q < w → Gi 17 q = -1) → Wp B d M_X12_init 180 [some (.ref x), some (.int (nI w))] [] hh (fun v h' => v = none ∧ ∃ V' G', MH h' x V' G' (fun _ _ => 0) ∧ PM Sg.new V' G' (fun _ _ => 0) ∧ h'.2.1 = x + 20 ∧ (∀ a, a < x → h'.1 a = h.1 a) ∧ h'.2.2 = h.2.2 + mW) := by
      refine ev_upl 4 (fun w hi ih => ?_) ?_
      · intro hh Gi hMi hOi hg hc
        refine Wp.iload_n dX12_init_180 rfl rfl ?_
        refine Wp.iconst (v := (nI 4)) dX12_init_181 (by decide) rfl ?_
        refine Wp.icmp_ge (tgt := 198) (n := 185) dX12_init_182 (by decide) rfl (fun c_182 => ?_) (fun c_182 => ?_)
        · try simp (disch := omega) only [nI_bit0, nI_bit1, Bool.not_eq_false, Bool.not_eq_true] at c_182
          try simp (disch := omega) only [i_lt, i_le, i_eq, l_lt, l_le, l_eq, i_0, i_m1, l_0, nI_tI, iI_tI, lI_tI, Int.not_lt, Int.not_le] at c_182
          omega
        · try simp (disch := omega) only [nI_bit0, nI_bit1, Bool.not_eq_false, Bool.not_eq_true] at c_182
          try simp (disch := omega) only [i_lt, i_le, i_eq, l_lt, l_le, l_eq, i_0, i_m1, l_0, nI_tI, iI_tI, lI_tI, Int.not_lt, Int.not_le] at c_182
          refine Wp.aload_n dX12_init_185 rfl (by first | exact Or.inr ⟨_, rfl⟩ | exact Or.inl rfl) rfl ?_
          refine Wp.get dX12_init_186 fl_X12_48 hMi.ob (hMi.rf 17 (by decide)) rfl ?_
          refine Wp.iload_n dX12_init_189 rfl rfl ?_
          refine Wp.iconst (v := (-1)) dX12_init_190 (by decide) rfl ?_
          refine Wp.iastore dX12_init_191 (hMi.ia 17 (by decide)) (nI_toInt (by omega)) (by show _ < 4; omega) rfl ?_
          refine hMi.sti (k := 17) (by decide) ?_
          intro h191 G191 hM191 o191 e191 f191
          have out191 := hOi.trans o191
          refine Wp.iinc (v := _ + (nI 1)) dX12_init_192 rfl rfl (Nat.le_of_ble_eq_true rfl) (by dsimp only [ev_st1, ev_cl] <;> rfl) rfl ?_
          refine Wp.goto (n := 180) dX12_init_195 (by decide) ?_
          rw [nI_add1]
          refine ih _ _ hM191 out191 (fun k hk => (f191 k hk).trans (hg k hk)) (fun q hq => ?_)
          rw [e191]
          simp only [upd]
          split
          · rfl
          · exact hc q (by omega)
      · intro hh Gi hMi hOi hg hc
        refine Wp.iload_n dX12_init_180 rfl rfl ?_
        refine Wp.iconst (v := (nI 4)) dX12_init_181 (by decide) rfl ?_
        refine Wp.icmp_ge (tgt := 198) (n := 185) dX12_init_182 (by decide) rfl (fun c_182 => ?_) (fun c_182 => ?_)
        · try simp (disch := omega) only [nI_bit0, nI_bit1, Bool.not_eq_false, Bool.not_eq_true] at c_182
          try simp (disch := omega) only [i_lt, i_le, i_eq, l_lt, l_le, l_eq, i_0, i_m1, l_0, nI_tI, iI_tI, lI_tI, Int.not_lt, Int.not_le] at c_182
          exact Wp.vret dX12_init_198 rfl (by
            refine ⟨rfl, _, _, hMi, ?_, by rw [hOi.1]; exact qq.2.1, fun a ha => (hOi.2 a (Or.inl ha)).trans (qq.2.2.2.2.2.1 a ha), by rw [hOi.1]; exact qq.2.2.2.2.2.2⟩
            refine ⟨⟨by rw [hg 0 (by decide)]; rfl, by rw [hg 0 (by decide)]; rfl, fun l hl => absurd hl (Nat.not_lt_zero l), fun l hl => absurd hl (Nat.not_lt_zero l), fun l hl => absurd hl (Nat.not_lt_zero l), fun l hl => absurd hl (Nat.not_lt_zero l)⟩, fun z => absurd rfl z, u2, u3, fun i hi => absurd hi (Nat.not_lt_zero i), u9, u10, u11, u12, u13, fun i k hi => absurd hi (Nat.not_lt_zero i), u16, fun i hi => absurd hi (Nat.not_lt_zero i), fun s hs => by rw [hc s hs]; rfl, fun s hs => by rw [hg 18 (by decide)]; rfl, fun s i _ _ => rfl⟩)
        · try simp (disch := omega) only [nI_bit0, nI_bit1, Bool.not_eq_false, Bool.not_eq_true] at c_182
          try simp (disch := omega) only [i_lt, i_le, i_eq, l_lt, l_le, l_eq, i_0, i_m1, l_0, nI_tI, iI_tI, lI_tI, Int.not_lt, Int.not_le] at c_182
          omega
    refine Wp.iconst (v := (nI 0)) dX12_init_178 (by decide) rfl ?_
    refine Wp.istore_n dX12_init_179 (Nat.le_of_ble_eq_true rfl) (by dsimp only [ev_st1, ev_st2, ev_cl] <;> rfl) rfl ?_
    exact loop 0 (by omega) hq _ qq.done Out.rfl (fun _ _ => rfl) (fun q hq => absurd hq (Nat.not_lt_zero q))
  have s143 : ∀ (hq : ev_H) (Vq : Nat → Value), PMH h hq x Vq 15 (h.2.2 + 14731) → Vq 2 = .int 0 → Vq 3 = .int 0 → Vq 9 = .int 0 → Vq 10 = .int (nI 1) → Vq 11 = .int (nI 10) → Vq 12 = .int (nI 1) → Vq 13 = .int 0 → Vq 16 = .int 0 → Wp B d M_X12_init 143 [some (.ref x), none] [] hq (fun v h' => v = none ∧ ∃ V' G', MH h' x V' G' (fun _ _ => 0) ∧ PM Sg.new V' G' (fun _ _ => 0) ∧ h'.2.1 = x + 20 ∧ (∀ a, a < x → h'.1 a = h.1 a) ∧ h'.2.2 = h.2.2 + mW) := by
    intro hq Vq q4 u2 u3 u9 u10 u11 u12 u13 u16
    refine Wp.aload_n dX12_init_143 rfl (by first | exact Or.inr ⟨_, rfl⟩ | exact Or.inl rfl) rfl ?_
    refine Wp.sipush (v := (nI 500)) dX12_init_144 (by decide) rfl ?_
    refine Wp.newal dX12_init_147 (nI_toInt (by decide)) (by decide) rfl ?_
    refine Wp.putF dX12_init_149 fp_X12_66 rfl q4.obn rfl rfl rfl ?_
    refine q4.arL (k := 25) (N := 500) (by decide) (by decide) (by decide) ?_
    intro h149 V149 p149 e149 f149
    refine Wp.aload_n dX12_init_152 rfl (by first | exact Or.inr ⟨_, rfl⟩ | exact Or.inl rfl) rfl ?_
    refine Wp.sipush (v := (nI 500)) dX12_init_153 (by decide) rfl ?_
    refine Wp.newal dX12_init_156 (nI_toInt (by decide)) (by decide) rfl ?_
    refine Wp.putF dX12_init_158 fp_X12_69 rfl p149.obn rfl rfl rfl ?_
    refine p149.arL (k := 26) (N := 500) (by decide) (by decide) (by decide) ?_
    intro h158 V158 p158 e158 f158
    refine Wp.aload_n dX12_init_161 rfl (by first | exact Or.inr ⟨_, rfl⟩ | exact Or.inl rfl) rfl ?_
    refine Wp.sipush (v := (nI 500)) dX12_init_162 (by decide) rfl ?_
    refine Wp.newal dX12_init_165 (nI_toInt (by decide)) (by decide) rfl ?_
    refine Wp.putF dX12_init_167 fp_X12_72 rfl p158.obn rfl rfl rfl ?_
    refine p158.arL (k := 27) (N := 500) (by decide) (by decide) (by decide) ?_
    intro h167 V167 p167 e167 f167
    refine Wp.aload_n dX12_init_170 rfl (by first | exact Or.inr ⟨_, rfl⟩ | exact Or.inl rfl) rfl ?_
    refine Wp.bipush (v := (nI 40)) dX12_init_171 (by decide) rfl ?_
    refine Wp.newal dX12_init_173 (nI_toInt (by decide)) (by decide) rfl ?_
    refine Wp.putF dX12_init_175 fp_X12_75 rfl p167.obn rfl rfl rfl ?_
    refine p167.arL (k := 35) (N := 40) (by decide) (by decide) (by decide) ?_
    intro h175 V175 p175 e175 f175
    exact s178 _ _ (p175.wq (by omega)) ((f175 2 (by decide)).trans ((f167 2 (by decide)).trans ((f158 2 (by decide)).trans ((f149 2 (by decide)).trans u2)))) ((f175 3 (by decide)).trans ((f167 3 (by decide)).trans ((f158 3 (by decide)).trans ((f149 3 (by decide)).trans u3)))) ((f175 9 (by decide)).trans ((f167 9 (by decide)).trans ((f158 9 (by decide)).trans ((f149 9 (by decide)).trans u9)))) ((f175 10 (by decide)).trans ((f167 10 (by decide)).trans ((f158 10 (by decide)).trans ((f149 10 (by decide)).trans u10)))) ((f175 11 (by decide)).trans ((f167 11 (by decide)).trans ((f158 11 (by decide)).trans ((f149 11 (by decide)).trans u11)))) ((f175 12 (by decide)).trans ((f167 12 (by decide)).trans ((f158 12 (by decide)).trans ((f149 12 (by decide)).trans u12)))) ((f175 13 (by decide)).trans ((f167 13 (by decide)).trans ((f158 13 (by decide)).trans ((f149 13 (by decide)).trans u13)))) ((f175 16 (by decide)).trans ((f167 16 (by decide)).trans ((f158 16 (by decide)).trans ((f149 16 (by decide)).trans u16))))
  have s116 : ∀ (hq : ev_H) (Vq : Nat → Value), PMH h hq x Vq 12 (h.2.2 + 2440) → Vq 2 = .int 0 → Vq 3 = .int 0 → Vq 9 = .int 0 → Vq 10 = .int (nI 1) → Vq 11 = .int (nI 10) → Vq 12 = .int (nI 1) → Vq 13 = .int 0 → Vq 16 = .int 0 → Wp B d M_X12_init 116 [some (.ref x), none] [] hq (fun v h' => v = none ∧ ∃ V' G', MH h' x V' G' (fun _ _ => 0) ∧ PM Sg.new V' G' (fun _ _ => 0) ∧ h'.2.1 = x + 20 ∧ (∀ a, a < x → h'.1 a = h.1 a) ∧ h'.2.2 = h.2.2 + mW) := by
    intro hq Vq q3 u2 u3 u9 u10 u11 u12 u13 u16
    refine Wp.aload_n dX12_init_116 rfl (by first | exact Or.inr ⟨_, rfl⟩ | exact Or.inl rfl) rfl ?_
    refine Wp.sipush (v := (nI 4096)) dX12_init_117 (by decide) rfl ?_
    refine Wp.newai dX12_init_120 (nI_toInt (by decide)) (by decide) rfl ?_
    refine Wp.putF dX12_init_122 fp_X12_57 rfl q3.obn rfl rfl rfl ?_
    refine q3.arI (k := 21) (N := 4096) (by decide) (by decide) (by decide) ?_
    intro h122 V122 p122 e122 f122
    refine Wp.aload_n dX12_init_125 rfl (by first | exact Or.inr ⟨_, rfl⟩ | exact Or.inl rfl) rfl ?_
    refine Wp.sipush (v := (nI 4096)) dX12_init_126 (by decide) rfl ?_
    refine Wp.newai dX12_init_129 (nI_toInt (by decide)) (by decide) rfl ?_
    refine Wp.putF dX12_init_131 fp_X12_60 rfl p122.obn rfl rfl rfl ?_
    refine p122.arI (k := 22) (N := 4096) (by decide) (by decide) (by decide) ?_
    intro h131 V131 p131 e131 f131
    refine Wp.aload_n dX12_init_134 rfl (by first | exact Or.inr ⟨_, rfl⟩ | exact Or.inl rfl) rfl ?_
    refine Wp.sipush (v := (nI 4096)) dX12_init_135 (by decide) rfl ?_
    refine Wp.newai dX12_init_138 (nI_toInt (by decide)) (by decide) rfl ?_
    refine Wp.putF dX12_init_140 fp_X12_63 rfl p131.obn rfl rfl rfl ?_
    refine p131.arI (k := 23) (N := 4096) (by decide) (by decide) (by decide) ?_
    intro h140 V140 p140 e140 f140
    exact s143 _ _ (p140.wq (by omega)) ((f140 2 (by decide)).trans ((f131 2 (by decide)).trans ((f122 2 (by decide)).trans u2))) ((f140 3 (by decide)).trans ((f131 3 (by decide)).trans ((f122 3 (by decide)).trans u3))) ((f140 9 (by decide)).trans ((f131 9 (by decide)).trans ((f122 9 (by decide)).trans u9))) ((f140 10 (by decide)).trans ((f131 10 (by decide)).trans ((f122 10 (by decide)).trans u10))) ((f140 11 (by decide)).trans ((f131 11 (by decide)).trans ((f122 11 (by decide)).trans u11))) ((f140 12 (by decide)).trans ((f131 12 (by decide)).trans ((f122 12 (by decide)).trans u12))) ((f140 13 (by decide)).trans ((f131 13 (by decide)).trans ((f122 13 (by decide)).trans u13))) ((f140 16 (by decide)).trans ((f131 16 (by decide)).trans ((f122 16 (by decide)).trans u16)))
  have s85 : ∀ (hq : ev_H) (Vq : Nat → Value), PMH h hq x Vq 8 (h.2.2 + 2228) → Vq 2 = .int 0 → Vq 3 = .int 0 → Vq 9 = .int 0 → Vq 10 = .int (nI 1) → Vq 11 = .int (nI 10) → Vq 12 = .int (nI 1) → Vq 13 = .int 0 → Vq 16 = .int 0 → Wp B d M_X12_init 85 [some (.ref x), none] [] hq (fun v h' => v = none ∧ ∃ V' G', MH h' x V' G' (fun _ _ => 0) ∧ PM Sg.new V' G' (fun _ _ => 0) ∧ h'.2.1 = x + 20 ∧ (∀ a, a < x → h'.1 a = h.1 a) ∧ h'.2.2 = h.2.2 + mW) := by
    intro hq Vq q2 u2 u3 u9 u10 u11 u12 u13 u16
    refine Wp.aload_n dX12_init_85 rfl (by first | exact Or.inr ⟨_, rfl⟩ | exact Or.inl rfl) rfl ?_
    refine Wp.bipush (v := (nI 40)) dX12_init_86 (by decide) rfl ?_
    refine Wp.newai dX12_init_88 (nI_toInt (by decide)) (by decide) rfl ?_
    refine Wp.putF dX12_init_90 fp_X12_45 rfl q2.obn rfl rfl rfl ?_
    refine q2.arI (k := 15) (N := 40) (by decide) (by decide) (by decide) ?_
    intro h90 V90 p90 e90 f90
    refine Wp.aload_n dX12_init_93 rfl (by first | exact Or.inr ⟨_, rfl⟩ | exact Or.inl rfl) rfl ?_
    refine Wp.iconst (v := (nI 4)) dX12_init_94 (by decide) rfl ?_
    refine Wp.newai dX12_init_95 (nI_toInt (by decide)) (by decide) rfl ?_
    refine Wp.putF dX12_init_97 fp_X12_48 rfl p90.obn rfl rfl rfl ?_
    refine p90.arI (k := 17) (N := 4) (by decide) (by decide) (by decide) ?_
    intro h97 V97 p97 e97 f97
    refine Wp.aload_n dX12_init_100 rfl (by first | exact Or.inr ⟨_, rfl⟩ | exact Or.inl rfl) rfl ?_
    refine Wp.iconst (v := (nI 4)) dX12_init_101 (by decide) rfl ?_
    refine Wp.newai dX12_init_102 (nI_toInt (by decide)) (by decide) rfl ?_
    refine Wp.putF dX12_init_104 fp_X12_51 rfl p97.obn rfl rfl rfl ?_
    refine p97.arI (k := 18) (N := 4) (by decide) (by decide) (by decide) ?_
    intro h104 V104 p104 e104 f104
    refine Wp.aload_n dX12_init_107 rfl (by first | exact Or.inr ⟨_, rfl⟩ | exact Or.inl rfl) rfl ?_
    refine Wp.sipush (v := (nI 160)) dX12_init_108 (by decide) rfl ?_
    refine Wp.newal dX12_init_111 (nI_toInt (by decide)) (by decide) rfl ?_
    refine Wp.putF dX12_init_113 fp_X12_54 rfl p104.obn rfl rfl rfl ?_
    refine p104.arL (k := 19) (N := 160) (by decide) (by decide) (by decide) ?_
    intro h113 V113 p113 e113 f113
    exact s116 _ _ (p113.wq (by omega)) ((f113 2 (by decide)).trans ((f104 2 (by decide)).trans ((f97 2 (by decide)).trans ((f90 2 (by decide)).trans u2)))) ((f113 3 (by decide)).trans ((f104 3 (by decide)).trans ((f97 3 (by decide)).trans ((f90 3 (by decide)).trans u3)))) ((f113 9 (by decide)).trans ((f104 9 (by decide)).trans ((f97 9 (by decide)).trans ((f90 9 (by decide)).trans u9)))) ((f113 10 (by decide)).trans ((f104 10 (by decide)).trans ((f97 10 (by decide)).trans ((f90 10 (by decide)).trans u10)))) ((f113 11 (by decide)).trans ((f104 11 (by decide)).trans ((f97 11 (by decide)).trans ((f90 11 (by decide)).trans u11)))) ((f113 12 (by decide)).trans ((f104 12 (by decide)).trans ((f97 12 (by decide)).trans ((f90 12 (by decide)).trans u12)))) ((f113 13 (by decide)).trans ((f104 13 (by decide)).trans ((f97 13 (by decide)).trans ((f90 13 (by decide)).trans u13)))) ((f113 16 (by decide)).trans ((f104 16 (by decide)).trans ((f97 16 (by decide)).trans ((f90 16 (by decide)).trans u16))))
  have s44 : ∀ (hq : ev_H) (Vq : Nat → Value), PMH h hq x Vq 5 (h.2.2 + 135) → Vq 2 = .int 0 → Vq 3 = .int 0 → Vq 9 = .int 0 → Vq 10 = .int 0 → Vq 11 = .int 0 → Vq 12 = .int 0 → Vq 13 = .int 0 → Vq 16 = .int 0 → Wp B d M_X12_init 44 [some (.ref x), none] [] hq (fun v h' => v = none ∧ ∃ V' G', MH h' x V' G' (fun _ _ => 0) ∧ PM Sg.new V' G' (fun _ _ => 0) ∧ h'.2.1 = x + 20 ∧ (∀ a, a < x → h'.1 a = h.1 a) ∧ h'.2.2 = h.2.2 + mW) := by
    intro hq Vq q1 u2 u3 u9 u10 u11 u12 u13 u16
    refine Wp.aload_n dX12_init_44 rfl (by first | exact Or.inr ⟨_, rfl⟩ | exact Or.inl rfl) rfl ?_
    refine Wp.bipush (v := (nI 10)) dX12_init_45 (by decide) rfl ?_
    refine Wp.newai dX12_init_47 (nI_toInt (by decide)) (by decide) rfl ?_
    refine Wp.putF dX12_init_49 fp_X12_25 rfl q1.obn rfl rfl rfl ?_
    refine q1.arI (k := 7) (N := 10) (by decide) (by decide) (by decide) ?_
    intro h49 V49 p49 e49 f49
    refine Wp.aload_n dX12_init_52 rfl (by first | exact Or.inr ⟨_, rfl⟩ | exact Or.inl rfl) rfl ?_
    refine Wp.bipush (v := (nI 80)) dX12_init_53 (by decide) rfl ?_
    refine Wp.newai dX12_init_55 (nI_toInt (by decide)) (by decide) rfl ?_
    refine Wp.putF dX12_init_57 fp_X12_28 rfl p49.obn rfl rfl rfl ?_
    refine p49.arI (k := 8) (N := 80) (by decide) (by decide) (by decide) ?_
    intro h57 V57 p57 e57 f57
    refine Wp.aload_n dX12_init_60 rfl (by first | exact Or.inr ⟨_, rfl⟩ | exact Or.inl rfl) rfl ?_
    refine Wp.iconst (v := (nI 1)) dX12_init_61 (by decide) rfl ?_
    refine Wp.put dX12_init_62 fp_X12_31 p57.ob rfl rfl rfl ?_
    refine p57.put (k := 10) (by decide) ?_
    intro h62 V62 p62 e62 f62
    refine Wp.aload_n dX12_init_65 rfl (by first | exact Or.inr ⟨_, rfl⟩ | exact Or.inl rfl) rfl ?_
    refine Wp.bipush (v := (nI 10)) dX12_init_66 (by decide) rfl ?_
    refine Wp.put dX12_init_68 fp_X12_35 p62.ob rfl rfl rfl ?_
    refine p62.put (k := 11) (by decide) ?_
    intro h68 V68 p68 e68 f68
    refine Wp.aload_n dX12_init_71 rfl (by first | exact Or.inr ⟨_, rfl⟩ | exact Or.inl rfl) rfl ?_
    refine Wp.iconst (v := (nI 1)) dX12_init_72 (by decide) rfl ?_
    refine Wp.put dX12_init_73 fp_X12_38 p68.ob rfl rfl rfl ?_
    refine p68.put (k := 12) (by decide) ?_
    intro h73 V73 p73 e73 f73
    refine Wp.aload_n dX12_init_76 rfl (by first | exact Or.inr ⟨_, rfl⟩ | exact Or.inl rfl) rfl ?_
    refine Wp.sipush (v := (nI 2000)) dX12_init_77 (by decide) rfl ?_
    refine Wp.newal dX12_init_80 (nI_toInt (by decide)) (by decide) rfl ?_
    refine Wp.putF dX12_init_82 fp_X12_41 rfl p73.obn rfl rfl rfl ?_
    refine p73.arL (k := 14) (N := 2000) (by decide) (by decide) (by decide) ?_
    intro h82 V82 p82 e82 f82
    exact s85 _ _ (p82.wq (by omega)) ((f82 2 (by decide)).trans ((f73 2 (by decide)).trans ((f68 2 (by decide)).trans ((f62 2 (by decide)).trans ((f57 2 (by decide)).trans ((f49 2 (by decide)).trans u2)))))) ((f82 3 (by decide)).trans ((f73 3 (by decide)).trans ((f68 3 (by decide)).trans ((f62 3 (by decide)).trans ((f57 3 (by decide)).trans ((f49 3 (by decide)).trans u3)))))) ((f82 9 (by decide)).trans ((f73 9 (by decide)).trans ((f68 9 (by decide)).trans ((f62 9 (by decide)).trans ((f57 9 (by decide)).trans ((f49 9 (by decide)).trans u9)))))) ((f82 10 (by decide)).trans ((f73 10 (by decide)).trans ((f68 10 (by decide)).trans e62))) ((f82 11 (by decide)).trans ((f73 11 (by decide)).trans e68)) ((f82 12 (by decide)).trans e73) ((f82 13 (by decide)).trans ((f73 13 (by decide)).trans ((f68 13 (by decide)).trans ((f62 13 (by decide)).trans ((f57 13 (by decide)).trans ((f49 13 (by decide)).trans u13)))))) ((f82 16 (by decide)).trans ((f73 16 (by decide)).trans ((f68 16 (by decide)).trans ((f62 16 (by decide)).trans ((f57 16 (by decide)).trans ((f49 16 (by decide)).trans u16))))))
  have p0 : PMH h h x ev_v11 0 (h.2.2 + 0) := ⟨hx, by omega, fun k h1 h2 => by omega, fun k h1 h2 => by have := mIl_off h1; omega, fun k h1 h2 => by have := mLl_off h1; omega, fun _ _ => rfl, rfl⟩
  have u2 : ev_v11 2 = .int 0 := rfl
  have u3 : ev_v11 3 = .int 0 := rfl
  have u9 : ev_v11 9 = .int 0 := rfl
  have u10 : ev_v11 10 = .int 0 := rfl
  have u11 : ev_v11 11 = .int 0 := rfl
  have u12 : ev_v11 12 = .int 0 := rfl
  have u13 : ev_v11 13 = .int 0 := rfl
  have u16 : ev_v11 16 = .int 0 := rfl
  refine Wp.aload_n dX12_init_0 rfl (by first | exact Or.inr ⟨_, rfl⟩ | exact Or.inl rfl) rfl ?_
  refine Wp.objInit dX12_init_1 ol_X12_1 (by omega) (by decide) rfl ?_
  refine Wp.aload_n dX12_init_4 rfl (by first | exact Or.inr ⟨_, rfl⟩ | exact Or.inl rfl) rfl ?_
  refine Wp.bipush (v := (nI 50)) dX12_init_5 (by decide) rfl ?_
  refine Wp.newai dX12_init_7 (nI_toInt (by decide)) (by decide) rfl ?_
  refine Wp.putF dX12_init_9 fp_X12_7 rfl p0.obn rfl rfl rfl ?_
  refine p0.arI (k := 0) (N := 50) (by decide) (by decide) (by decide) ?_
  intro h9 V9 p9 e9 f9
  refine Wp.aload_n dX12_init_12 rfl (by first | exact Or.inr ⟨_, rfl⟩ | exact Or.inl rfl) rfl ?_
  refine Wp.bipush (v := (nI 50)) dX12_init_13 (by decide) rfl ?_
  refine Wp.newai dX12_init_15 (nI_toInt (by decide)) (by decide) rfl ?_
  refine Wp.putF dX12_init_17 fp_X12_13 rfl p9.obn rfl rfl rfl ?_
  refine p9.arI (k := 1) (N := 50) (by decide) (by decide) (by decide) ?_
  intro h17 V17 p17 e17 f17
  refine Wp.aload_n dX12_init_20 rfl (by first | exact Or.inr ⟨_, rfl⟩ | exact Or.inl rfl) rfl ?_
  refine Wp.bipush (v := (nI 10)) dX12_init_21 (by decide) rfl ?_
  refine Wp.newai dX12_init_23 (nI_toInt (by decide)) (by decide) rfl ?_
  refine Wp.putF dX12_init_25 fp_X12_16 rfl p17.obn rfl rfl rfl ?_
  refine p17.arI (k := 4) (N := 10) (by decide) (by decide) (by decide) ?_
  intro h25 V25 p25 e25 f25
  refine Wp.aload_n dX12_init_28 rfl (by first | exact Or.inr ⟨_, rfl⟩ | exact Or.inl rfl) rfl ?_
  refine Wp.bipush (v := (nI 10)) dX12_init_29 (by decide) rfl ?_
  refine Wp.newai dX12_init_31 (nI_toInt (by decide)) (by decide) rfl ?_
  refine Wp.putF dX12_init_33 fp_X12_19 rfl p25.obn rfl rfl rfl ?_
  refine p25.arI (k := 5) (N := 10) (by decide) (by decide) (by decide) ?_
  intro h33 V33 p33 e33 f33
  refine Wp.aload_n dX12_init_36 rfl (by first | exact Or.inr ⟨_, rfl⟩ | exact Or.inl rfl) rfl ?_
  refine Wp.bipush (v := (nI 10)) dX12_init_37 (by decide) rfl ?_
  refine Wp.newai dX12_init_39 (nI_toInt (by decide)) (by decide) rfl ?_
  refine Wp.putF dX12_init_41 fp_X12_22 rfl p33.obn rfl rfl rfl ?_
  refine p33.arI (k := 6) (N := 10) (by decide) (by decide) (by decide) ?_
  intro h41 V41 p41 e41 f41
  exact s44 _ _ (p41.wq (by omega)) ((f41 2 (by decide)).trans ((f33 2 (by decide)).trans ((f25 2 (by decide)).trans ((f17 2 (by decide)).trans ((f9 2 (by decide)).trans u2))))) ((f41 3 (by decide)).trans ((f33 3 (by decide)).trans ((f25 3 (by decide)).trans ((f17 3 (by decide)).trans ((f9 3 (by decide)).trans u3))))) ((f41 9 (by decide)).trans ((f33 9 (by decide)).trans ((f25 9 (by decide)).trans ((f17 9 (by decide)).trans ((f9 9 (by decide)).trans u9))))) ((f41 10 (by decide)).trans ((f33 10 (by decide)).trans ((f25 10 (by decide)).trans ((f17 10 (by decide)).trans ((f9 10 (by decide)).trans u10))))) ((f41 11 (by decide)).trans ((f33 11 (by decide)).trans ((f25 11 (by decide)).trans ((f17 11 (by decide)).trans ((f9 11 (by decide)).trans u11))))) ((f41 12 (by decide)).trans ((f33 12 (by decide)).trans ((f25 12 (by decide)).trans ((f17 12 (by decide)).trans ((f9 12 (by decide)).trans u12))))) ((f41 13 (by decide)).trans ((f33 13 (by decide)).trans ((f25 13 (by decide)).trans ((f17 13 (by decide)).trans ((f9 13 (by decide)).trans u13))))) ((f41 16 (by decide)).trans ((f33 16 (by decide)).trans ((f25 16 (by decide)).trans ((f17 16 (by decide)).trans ((f9 16 (by decide)).trans u16)))))
