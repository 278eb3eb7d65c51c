/-! the reference's public methods: rows, acts -/
def Sg.rws (σ : Sg) (n : Nat) (rv : Nat → Nat → Int) : Sg := Sg.mk σ.N σ.U σ.al σ.sb σ.rb σ.n σ.O σ.p1 σ.q1 σ.p2 σ.q2 n rv σ.nT σ.tr σ.so σ.sz σ.ce
theorem PM.chr {σ : Sg} {V V' : Nat → Value} {G : Nat → Nat → Int32} {Z Z' : Nat → Nat → Int64} {n : Nat} {rv : Nat → Nat → Int} (a : PM σ V G Z) (v : ∀ k, k < 20 → k ≠ 13 → V' k = V k) (h1 : V' 13 = .int (nI n)) (z : ∀ k, k < 20 → k ≠ 14 → Z' k = Z k) (h2 : ∀ i k, i < n → k < 4 → Z' 14 (4 * i + k) = lI (rv i k)) : PM (σ.rws n rv) V' G Z' := by
  refine ⟨a.net, a.bef, ?_, ?_, a.of, ?_, ?_, ?_, ?_, h1, h2, ?_, a.tr, a.so, a.sz, ?_⟩
  · rw [v 2 (by decide) (by decide)]; exact a.may
  · rw [v 3 (by decide) (by decide)]; exact a.nn
  · rw [v 9 (by decide) (by decide)]; exact a.w1
  · rw [v 10 (by decide) (by decide)]; exact a.w2
  · rw [v 11 (by decide) (by decide)]; exact a.w3
  · rw [v 12 (by decide) (by decide)]; exact a.w4
  · rw [v 16 (by decide) (by decide)]; exact a.nT
  · rw [z 19 (by decide) (by decide)]; exact a.ce
def updR (f : Nat → Nat → Int) (i k : Nat) (v : Int) : Nat → Nat → Int := fun j l => if j = i ∧ l = k then v else f j l
def a_write (σ : Sg) (o : Int32) : Int32 := if isO σ o then nI (npt σ (tn o) - 2) else -2
def t_write (σ : Sg) (o : Int32) : Sg := if isO σ o then σ.rws (npt σ (tn o) - 2) (bndV σ (tn o)) else σ
abbrev isR (σ : Sg) (i w : Int32) : Prop := (0 ≤ i.toInt ∧ i.toInt < σ.nR) ∧ 0 ≤ w.toInt ∧ w.toInt ≤ 3
def a_row (σ : Sg) (i w : Int32) : Int64 := if isR σ i w then lI (σ.rv (tn i) (tn w)) else -4611686018427387904
abbrev okF (σ : Sg) (i w v : Int32) : Prop := isR σ i w ∧ -1000000 ≤ v.toInt ∧ v.toInt ≤ 1000000
def a_forge (σ : Sg) (i w v : Int32) : Int32 := if okF σ i w v then 1 else -2
def t_forge (σ : Sg) (i w v : Int32) : Sg := if okF σ i w v then σ.rws σ.nR (updR σ.rv (tn i) (tn w) v.toInt) else σ
def ckV (σ : Sg) (o : Nat) : Int := whF (fun t => decide (wrM σ o t ≠ 0)) (fun t => 8 * (t : Int) + (wrM σ o t : Nat)) σ.nR σ.nR
def a_check (σ : Sg) (o : Int32) : Int32 := if isO σ o then (if ckV σ (tn o) = -1 then (if σ.nR = npt σ (tn o) - 2 then -1 else -3) else iI (ckV σ (tn o))) else -2
theorem whF_in {Pr : Nat → Bool} {v : Nat → Int} {L : Nat} (hv : ∀ t, t < L → 0 ≤ v t) : ∀ k, k ≤ L → whF Pr v L k = -1 ∨ 0 ≤ whF Pr v L k
  | 0, _ => Or.inl rfl
  | k + 1, h => by
    simp only [whF]
    split
    · exact Or.inr (hv _ (by omega))
    · exact whF_in hv k (by omega)
theorem wrM_le (σ : Sg) (o i : Nat) : wrM σ o i ≤ 7 := by
  unfold wrM
  (repeat' split) <;> omega
def a_trace (σ : Sg) (i : Int32) : Int32 := if 0 ≤ i.toInt ∧ i.toInt < σ.nT ∧ i.toInt < 40 then nI (σ.tr (tn i)) else -1
def a_count (σ : Sg) (w : Int32) : Int32 := if w.toInt = 0 then nI σ.N.T else if w.toInt = 1 then nI σ.N.L else if w.toInt = 2 then nI σ.n else if w.toInt = 3 then nI σ.nR else if w.toInt = 4 then nI σ.nT else -2
/-- one body more in the trace -/
def Sg.trc (σ : Sg) (n : Nat) (tr : Nat → Nat) : Sg := Sg.mk σ.N σ.U σ.al σ.sb σ.rb σ.n σ.O σ.p1 σ.q1 σ.p2 σ.q2 σ.nR σ.rv n tr σ.so σ.sz σ.ce
def Sg.run (σ : Sg) (b : Nat) : Sg := σ.trc (σ.nT + 1) (updN σ.tr σ.nT b)
def Sg.runs (σ : Sg) (l : List Nat) : Sg := l.foldl Sg.run σ
theorem runs_app (σ : Sg) (l l' : List Nat) : (σ.runs l).runs l' = σ.runs (l ++ l') := by simp [Sg.runs, List.foldl_append]
theorem runs_1 (σ : Sg) (b : Nat) : σ.run b = σ.runs [b] := rfl
theorem runs_c (σ : Sg) (b : Nat) (l : List Nat) : (σ.run b).runs l = σ.runs (b :: l) := rfl
theorem Wf.trc {σ : Sg} {n : Nat} {t : Nat → Nat} (h : Wf σ) (hn : n ≤ 1000) : Wf (σ.trc n t) := ⟨h.net, h.bef, h.u, h.u1, h.u2, h.u3, h.u4, h.n, h.of, h.w1, h.w2, h.w3, h.nR, h.rv, hn, h.so, h.sz, h.sm⟩
theorem Wf.run {σ : Sg} {b : Nat} (h : Wf σ) (hn : σ.nT + 1 ≤ 1000) : Wf (σ.run b) := h.trc hn
theorem runs_nT : ∀ (l : List Nat) (σ : Sg), (σ.runs l).nT = σ.nT + l.length
  | [], _ => rfl
  | b :: l, σ => by
    rw [← runs_c, runs_nT l]
    show σ.nT + 1 + l.length = σ.nT + (l.length + 1)
    omega
theorem runs_O : ∀ (l : List Nat) (σ : Sg), (σ.runs l).O = σ.O ∧ (σ.runs l).n = σ.n ∧ (σ.runs l).N = σ.N
  | [], _ => ⟨rfl, rfl, rfl⟩
  | b :: l, σ => runs_O l (σ.run b)
theorem Wf.runs {σ : Sg} (h : Wf σ) : ∀ (l : List Nat), σ.nT + l.length ≤ 1000 → Wf (σ.runs l) := by
  intro l
  induction l generalizing σ with
  | nil => exact fun _ => h
  | cons b l ih =>
    intro hl
    rw [List.length_cons] at hl
    exact ih (h.run (by omega)) (by show σ.nT + 1 + l.length ≤ 1000; omega)
theorem PM.run {σ : Sg} {V V' : Nat → Value} {G G' : Nat → Nat → Int32} {Z : Nat → Nat → Int64} {n : Nat} {tr : Nat → Nat} (a : PM σ V G Z) (v : ∀ k, k ≠ 16 → V' k = V k) (h1 : V' 16 = .int (nI n)) (g : ∀ k, k ≠ 15 → G' k = G k) (h2 : ∀ i, i < n → i < 40 → G' 15 i = nI (tr i)) : PM (σ.trc n tr) V' G' Z := by
  refine ⟨?_, ?_, ?_, ?_, ?_, ?_, ?_, ?_, ?_, ?_, a.rv, h1, h2, ?_, ?_, a.ce⟩
  · rw [g 0 (by decide)]; exact a.net
  · rw [g 1 (by decide)]; exact a.bef
  · rw [v 2 (by decide)]; exact a.may
  · rw [v 3 (by decide)]; exact a.nn
  · intro i hi
    have q := a.of i hi
    refine ⟨?_, ?_, ?_, ?_, ?_⟩
    · rw [g 4 (by decide)]; exact q.k
    · rw [g 5 (by decide)]; exact q.f
    · rw [g 6 (by decide)]; exact q.s
    · rw [g 7 (by decide)]; exact q.m
    · rw [g 8 (by decide)]; exact q.su
  · rw [v 9 (by decide)]; exact a.w1
  · rw [v 10 (by decide)]; exact a.w2
  · rw [v 11 (by decide)]; exact a.w3
  · rw [v 12 (by decide)]; exact a.w4
  · rw [v 13 (by decide)]; exact a.nR
  · rw [g 17 (by decide)]; exact a.so
  · rw [g 18 (by decide)]; exact a.sz
/-- what an act answers, and the bodies that run -/
def tAskR (m x : Int32) : List Nat × Int32 := ([20, 10], (x + m) ^^^ nI 5)
def askR (k o : Nat) (m x : Int32) : List Nat × Int32 := if k = 1 then tAskR m x else if k = 3 then (40 :: (tAskR m x).1, (tAskR m x).2 + nI o) else ([10], x + m)
def tShoR (k o : Nat) (m x : Int32) : List Nat × Int32 := (11 :: (askR k o m x).1, (askR k o m x).2 * nI 3)
def shoR (k o : Nat) (m x : Int32) : List Nat × Int32 := if k = 2 then (30 :: (tShoR k o m (x - nI 1)).1, (tShoR k o m (x - nI 1)).2 * nI 2) else if k = 3 then (41 :: ((tShoR k o m x).1 ++ (tAskR m x).1), (tShoR k o m x).2 - (tAskR m x).2) else tShoR k o m x
def tTurR (k o : Nat) (m x : Int32) : List Nat × Int32 := (12 :: ((shoR k o m x).1 ++ (askR k o m (x + nI o)).1), (shoR k o m x).2 - (askR k o m (x + nI o)).2)
def turR (k o : Nat) (m x : Int32) : List Nat × Int32 := if k = 1 ∨ k = 3 then (21 :: ((tTurR k o m x).1 ++ (askR k o m (nI 0)).1), (tTurR k o m x).2 + (askR k o m (nI 0)).2) else tTurR k o m x
def actR (k o : Nat) (m : Int32) (a : Int) (x : Int32) : List Nat × Int32 := if a = 0 then askR k o m x else if a = 1 then shoR k o m x else turR k o m x
theorem askR_len (k o : Nat) (m x : Int32) : (askR k o m x).1.length ≤ 3 := by unfold askR tAskR; (repeat' split) <;> simp
theorem tShoR_len (k o : Nat) (m x : Int32) : (tShoR k o m x).1.length ≤ 4 := by have := askR_len k o m x; unfold tShoR; simp only [List.length_cons]; omega
theorem shoR_len (k o : Nat) (m x : Int32) : (shoR k o m x).1.length ≤ 8 := by
  have h1 := tShoR_len k o m x
  have h2 := tShoR_len k o m (x - nI 1)
  unfold shoR tAskR
  (repeat' split) <;> (try simp only [List.length_cons, List.length_append, List.length_nil]) <;> omega
theorem tTurR_len (k o : Nat) (m x : Int32) : (tTurR k o m x).1.length ≤ 12 := by
  have h1 := shoR_len k o m x
  have h2 := askR_len k o m (x + nI o)
  unfold tTurR
  simp only [List.length_cons, List.length_append]; omega
theorem turR_len (k o : Nat) (m x : Int32) : (turR k o m x).1.length ≤ 16 := by
  have h1 := tTurR_len k o m x
  have h2 := askR_len k o m (nI 0)
  unfold turR
  split
  · simp only [List.length_cons, List.length_append]; omega
  · omega
/-- behind bodies that ran -/
def RA (x : Nat) (h : ev_H) (σ' : Sg) (m : Int32) (a : Option Value) (v : Option Value) (h' : ev_H) : Prop := v = a ∧ ∃ (V' : Nat → Value) (G' : Nat → Nat → Int32) (Z' : Nat → Nat → Int64), MH h' x V' G' Z' ∧ PM σ' V' G' Z' ∧ Out x h h' ∧ V' 34 = .int m
def t_act5 (σ : Sg) (o a x : Int32) : Sg := if isO σ o ∧ w01 a 2 then σ.runs (actR (σ.O (tn o)).k (tn o) (nI (chn σ (tn o))) a.toInt x).1 else σ
def a_act (σ : Sg) (o a x : Int32) : Int32 := if isO σ o ∧ w01 a 2 then (actR (σ.O (tn o)).k (tn o) (nI (chn σ (tn o))) a.toInt x).2 else nI 0
def t_act (σ : Sg) (o a x : Int32) : Sg := t_act5 (σ.trc 0 σ.tr) o a x
set_option maxHeartbeats 2000000 in
theorem c_X12_write {B : ev_B} {d x : Nat} {h : ev_H} {V : Nat → Value} {G : Nat → Nat → Int32} {Z : Nat → Nat → Int64} {σ : Sg} {o : Int32} (hM : MH h x V G Z) (hP : PM σ V G Z) (hW : Wf σ) (hd : 6 ≤ d) :
    Wp B d M_X12_write 0 [some (.ref x), some (.int (o)), none, none] [] h (RQ x h (t_write σ o) (.int (a_write σ o))) := by
  have hn := hW.n
  have hT := hW.net.1
  have hL := hW.net.2.1
  refine Wp.aload_n dX12_write_0 rfl (by first | exact Or.inr ⟨_, rfl⟩ | exact Or.inl rfl) rfl ?_
  refine Wp.iload_n dX12_write_1 rfl rfl ?_
  refine Wp.cV dX12_write_2 cv_X12_115 rfl (by omega) rfl (Nat.le_of_ble_eq_true rfl) (Nat.le_of_ble_eq_true rfl) hM.ob rfl (c_X12_isOffer (d := d - 1) hM hP hW (by omega)) ?_
  rintro _ h_ ⟨rfl, e_⟩
  rw [e_]
  clear e_ h_
  dsimp only [Option.toList, List.drop, List.cons_append, List.nil_append]
  refine Wp.bif_ne (tgt := 11) (n := 8) dX12_write_5 (by decide) rfl (fun c_5 => ?_) (fun c_5 => ?_)
  · try simp only [decide_eq_true_eq, decide_eq_false_iff_not, Bool.and_eq_true, bI_0, bI_n0] at c_5
    obtain ⟨i, rfl, ho, ho2⟩ := as_nI (show 0 ≤ o.toInt ∧ o.toInt < σ.n by omega)
    have hO := hP.of i ho
    have hOw := hW.of i ho
    refine Wp.aload_n dX12_write_11 rfl (by first | exact Or.inr ⟨_, rfl⟩ | exact Or.inl rfl) rfl ?_
    refine Wp.aload_n dX12_write_12 rfl (by first | exact Or.inr ⟨_, rfl⟩ | exact Or.inl rfl) rfl ?_
    refine Wp.iload_n dX12_write_13 rfl rfl ?_
    refine Wp.cV dX12_write_14 cv_X12_208 rfl (by omega) rfl (Nat.le_of_ble_eq_true rfl) (Nat.le_of_ble_eq_true rfl) hM.ob rfl (c_X12_prepares (d := d - 1) hM hP hW ho (by omega)) ?_
    rintro _ h2 ⟨rfl, V2, G2, Z2, hM2, o2, k2, hC2, hT2⟩
    have hP2 := hP.kp k2
    dsimp only [Option.toList, List.drop, List.cons_append, List.nil_append]
    have hnb := npt_b hW i
    have s33 : ∀ (h3 : ev_H) (V3 : Nat → Value), MH h3 x V3 G2 Z2 → Out x h h3 → (∀ j, j ≠ 13 → V3 j = V2 j) → V3 13 = .int (nI (npt σ i - 2)) → Wp B d M_X12_write 33 [some (.ref x), some (.int (nI i)), none, none] [] h3 (RQ x h (t_write σ (nI i)) (.int (a_write σ (nI i)))) := by
      intro h3 V3 hM3 hO3 fV v13
      have hC3 : ChA V3 G2 σ i := ⟨⟨(fV 20 (by decide)).trans hC2.1.1, hC2.1.2⟩, hC2.2⟩
      have hT3 : PtA V3 Z2 σ i := ⟨(fV 24 (by decide)).trans hT2.1, hT2.2⟩
      have outer : ∀ u, u ≤ (npt σ i - 2) → ∀ (hh : ev_H) (Zi : Nat → Nat → Int64), MH hh x V3 G2 Zi → Out x h hh → (∀ k, k ≠ 14 → Zi k = Z2 k) → (∀ t k, k < 4 → 4 * t + k < 4 * u + 0 → Zi 14 (4 * t + k) = lI (bndV σ i t k)) → ∀ j3 : Option Value, Wp B d M_X12_write 35 [some (.ref x), some (.int (nI i)), some (.int (nI u)), j3] [] hh (RQ x h (t_write σ (nI i)) (.int (a_write σ (nI i)))) := by
        refine ev_upl (npt σ i - 2) (fun u hi ih => ?_) ?_
        · intro hh Zi hMi hOi hz hv j3
          refine Wp.iload_n dX12_write_35 rfl rfl ?_
          refine Wp.aload_n dX12_write_36 rfl (by first | exact Or.inr ⟨_, rfl⟩ | exact Or.inl rfl) rfl ?_
          refine Wp.get dX12_write_37 fl_X12_251 hMi.ob v13 rfl ?_
          refine Wp.icmp_ge (tgt := 78) (n := 43) dX12_write_40 (by decide) rfl (fun c_40 => ?_) (fun c_40 => ?_)
          · try simp (disch := omega) only [nI_bit0, nI_bit1, Bool.not_eq_false, Bool.not_eq_true] at c_40
            try simp (disch := omega) only [i_lt, i_le, i_eq, l_lt, l_le, l_eq, i_0, i_m1, l_0, nI_tI, iI_tI, lI_tI, Int.not_lt, Int.not_le] at c_40
            omega
          · try simp (disch := omega) only [nI_bit0, nI_bit1, Bool.not_eq_false, Bool.not_eq_true] at c_40
            try simp (disch := omega) only [i_lt, i_le, i_eq, l_lt, l_le, l_eq, i_0, i_m1, l_0, nI_tI, iI_tI, lI_tI, Int.not_lt, Int.not_le] at c_40
            refine Wp.iconst (v := (nI 0)) dX12_write_43 (by decide) rfl ?_
            refine Wp.istore_n dX12_write_44 (Nat.le_of_ble_eq_true rfl) (by dsimp only [ev_st1, ev_st2, ev_cl] <;> rfl) rfl ?_
            have iho := ih
            have hu := hi
            have h0 : 0 < chn σ i := by
              rcases Nat.eq_zero_or_pos (chn σ i) with z | z
              · have : npt σ i = 2 := by rw [npt, if_neg (by omega)]
                omega
              · exact z
            have inner : ∀ w, w ≤ 4 → ∀ (hh : ev_H) (Zi : Nat → Nat → Int64), MH hh x V3 G2 Zi → Out x h hh → (∀ k, k ≠ 14 → Zi k = Z2 k) → (∀ t k, k < 4 → 4 * t + k < 4 * u + w → Zi 14 (4 * t + k) = lI (bndV σ i t k)) → Wp B d M_X12_write 45 [some (.ref x), some (.int (nI i)), some (.int (nI u)), some (.int (nI w))] [] hh (RQ x h (t_write σ (nI i)) (.int (a_write σ (nI i)))) := by
              refine ev_upl 4 (fun w hi ih => ?_) ?_
              · intro hh Zi hMi hOi hz hv
                refine Wp.iload_n dX12_write_45 rfl rfl ?_
                refine Wp.iconst (v := (nI 4)) dX12_write_46 (by decide) rfl ?_
                refine Wp.icmp_ge (tgt := 72) (n := 50) dX12_write_47 (by decide) rfl (fun c_47 => ?_) (fun c_47 => ?_)
                · try simp (disch := omega) only [nI_bit0, nI_bit1, Bool.not_eq_false, Bool.not_eq_true] at c_47
                  try simp (disch := omega) only [i_lt, i_le, i_eq, l_lt, l_le, l_eq, i_0, i_m1, l_0, nI_tI, iI_tI, lI_tI, Int.not_lt, Int.not_le] at c_47
                  omega
                · try simp (disch := omega) only [nI_bit0, nI_bit1, Bool.not_eq_false, Bool.not_eq_true] at c_47
                  try simp (disch := omega) only [i_lt, i_le, i_eq, l_lt, l_le, l_eq, i_0, i_m1, l_0, nI_tI, iI_tI, lI_tI, Int.not_lt, Int.not_le] at c_47
                  refine Wp.aload_n dX12_write_50 rfl (by first | exact Or.inr ⟨_, rfl⟩ | exact Or.inl rfl) rfl ?_
                  refine Wp.get dX12_write_51 fl_X12_41 hMi.ob (hMi.rf 14 (by decide)) rfl ?_
                  refine Wp.iconst (v := (nI 4)) dX12_write_54 (by decide) rfl ?_
                  refine Wp.iload_n dX12_write_55 rfl rfl ?_
                  refine Wp.imul dX12_write_56 rfl ?_
                  refine Wp.iload_n dX12_write_57 rfl rfl ?_
                  refine Wp.iadd dX12_write_58 rfl ?_
                  refine Wp.aload_n dX12_write_59 rfl (by first | exact Or.inr ⟨_, rfl⟩ | exact Or.inl rfl) rfl ?_
                  refine Wp.iload_n dX12_write_60 rfl rfl ?_
                  refine Wp.iload_n dX12_write_61 rfl rfl ?_
                  refine Wp.cV dX12_write_62 cv_X12_211 rfl (by omega) rfl (Nat.le_of_ble_eq_true rfl) (Nat.le_of_ble_eq_true rfl) hMi.ob rfl (c_X12_bendOf (d := d - 1) hMi hW hC3 ⟨hT3.1, fun z k hk => by rw [hz 25 (by decide), hz 26 (by decide), hz 27 (by decide)]; exact hT3.2 z k hk⟩ h0 (by omega) hi (by omega)) ?_
                  rintro _ h_ ⟨rfl, e_⟩
                  rw [e_]
                  clear e_ h_
                  dsimp only [Option.toList, List.drop, List.cons_append, List.nil_append]
                  refine Wp.lastore dX12_write_65 (hMi.la 14 (by decide)) (nI_4 (by omega) (by omega)) (by show _ < 2000; omega) rfl ?_
                  refine hMi.stl (k := 14) (by decide) ?_
                  intro h65 Z65 hM65 o65 e65 f65
                  have out65 := hOi.trans o65
                  refine Wp.iinc (v := _ + (nI 1)) dX12_write_66 rfl rfl (Nat.le_of_ble_eq_true rfl) (by dsimp only [ev_st1, ev_cl] <;> rfl) rfl ?_
                  refine Wp.goto (n := 45) dX12_write_69 (by decide) ?_
                  rw [nI_add1]
                  refine ih _ _ hM65 out65 (fun k hk => (f65 k hk).trans (hz k hk)) (fun t k h1 h2 => ?_)
                  rw [e65]
                  simp only [vp_updL]
                  by_cases e : 4 * t + k = 4 * u + w
                  · have e1 : t = u := by omega
                    have e2 : k = w := by omega
                    rw [if_pos e, e1, e2]
                  · rw [if_neg e]; exact hv t k h1 (by omega)
              · intro hh Zi hMi hOi hz hv
                refine Wp.iload_n dX12_write_45 rfl rfl ?_
                refine Wp.iconst (v := (nI 4)) dX12_write_46 (by decide) rfl ?_
                refine Wp.icmp_ge (tgt := 72) (n := 50) dX12_write_47 (by decide) rfl (fun c_47 => ?_) (fun c_47 => ?_)
                · try simp (disch := omega) only [nI_bit0, nI_bit1, Bool.not_eq_false, Bool.not_eq_true] at c_47
                  try simp (disch := omega) only [i_lt, i_le, i_eq, l_lt, l_le, l_eq, i_0, i_m1, l_0, nI_tI, iI_tI, lI_tI, Int.not_lt, Int.not_le] at c_47
                  refine Wp.iinc (v := _ + (nI 1)) dX12_write_72 rfl rfl (Nat.le_of_ble_eq_true rfl) (by dsimp only [ev_st1, ev_cl] <;> rfl) rfl ?_
                  refine Wp.goto (n := 35) dX12_write_75 (by decide) ?_
                  rw [nI_add1]
                  exact iho _ _ hMi hOi hz (fun t k h1 h2 => hv t k h1 (by omega)) _
                · try simp (disch := omega) only [nI_bit0, nI_bit1, Bool.not_eq_false, Bool.not_eq_true] at c_47
                  try simp (disch := omega) only [i_lt, i_le, i_eq, l_lt, l_le, l_eq, i_0, i_m1, l_0, nI_tI, iI_tI, lI_tI, Int.not_lt, Int.not_le] at c_47
                  omega
            exact inner 0 (by omega) _ _ hMi hOi hz hv
        · intro hh Zi hMi hOi hz hv j3
          refine Wp.iload_n dX12_write_35 rfl rfl ?_
          refine Wp.aload_n dX12_write_36 rfl (by first | exact Or.inr ⟨_, rfl⟩ | exact Or.inl rfl) rfl ?_
          refine Wp.get dX12_write_37 fl_X12_251 hMi.ob v13 rfl ?_
          refine Wp.icmp_ge (tgt := 78) (n := 43) dX12_write_40 (by decide) rfl (fun c_40 => ?_) (fun c_40 => ?_)
          · try simp (disch := omega) only [nI_bit0, nI_bit1, Bool.not_eq_false, Bool.not_eq_true] at c_40
            try simp (disch := omega) only [i_lt, i_le, i_eq, l_lt, l_le, l_eq, i_0, i_m1, l_0, nI_tI, iI_tI, lI_tI, Int.not_lt, Int.not_le] at c_40
            refine Wp.aload_n dX12_write_78 rfl (by first | exact Or.inr ⟨_, rfl⟩ | exact Or.inl rfl) rfl ?_
            refine Wp.get dX12_write_79 fl_X12_251 hMi.ob v13 rfl ?_
            exact Wp.iret dX12_write_82 rfl (by refine RQ.i (by rw [a_write, if_pos (show isO σ (nI i) by have e_ := nI_tI ho2; omega), tn_nI ho2]) hMi ?_ hOi; rw [t_write, if_pos (show isO σ (nI i) by have e_ := nI_tI ho2; omega), tn_nI ho2]; exact hP2.chr (fun k h1 h2 => fV k h2) v13 (fun k h1 h2 => hz k h2) (fun t k h1 h2 => hv t k h2 (by omega)))
          · try simp (disch := omega) only [nI_bit0, nI_bit1, Bool.not_eq_false, Bool.not_eq_true] at c_40
            try simp (disch := omega) only [i_lt, i_le, i_eq, l_lt, l_le, l_eq, i_0, i_m1, l_0, nI_tI, iI_tI, lI_tI, Int.not_lt, Int.not_le] at c_40
            omega
      refine Wp.iconst (v := (nI 0)) dX12_write_33 (by decide) rfl ?_
      refine Wp.istore_n dX12_write_34 (Nat.le_of_ble_eq_true rfl) (by dsimp only [ev_st1, ev_st2, ev_cl] <;> rfl) rfl ?_
      exact outer 0 (by omega) h3 Z2 hM3 hO3 (fun _ _ => rfl) (fun t k h1 h2 => absurd h2 (by omega)) _
    refine Wp.bif_eq (tgt := 29) (n := 20) dX12_write_17 (by decide) rfl (fun c_17 => ?_) (fun c_17 => ?_)
    · try simp only [decide_eq_false_iff_not] at c_17
      have hn2 : npt σ i = 2 := by rw [npt, if_neg c_17]
      refine Wp.iconst (v := (nI 0)) dX12_write_29 (by decide) rfl ?_
      refine Wp.put dX12_write_30 fp_X12_251 hM2.ob rfl rfl rfl ?_
      refine hM2.put (k := 13) (by decide) ?_
      intro h30 V30 hM30 o30 e30 f30
      have out30 := o2.trans o30
      exact s33 _ _ hM30 out30 f30 (e30.trans (by rw [hn2]))
    · skip
      refine Wp.aload_n dX12_write_20 rfl (by first | exact Or.inr ⟨_, rfl⟩ | exact Or.inl rfl) rfl ?_
      refine Wp.get dX12_write_21 fl_X12_198 hM2.ob hT2.1 rfl ?_
      refine Wp.iconst (v := (nI 2)) dX12_write_24 (by decide) rfl ?_
      refine Wp.isub dX12_write_25 rfl ?_
      rw [pk_sub (by omega)]
      refine Wp.goto (n := 30) dX12_write_26 (by decide) ?_
      refine Wp.put dX12_write_30 fp_X12_251 hM2.ob rfl rfl rfl ?_
      refine hM2.put (k := 13) (by decide) ?_
      intro h30 V30 hM30 o30 e30 f30
      have out30 := o2.trans o30
      exact s33 _ _ hM30 out30 f30 e30
  · try simp only [decide_eq_true_eq, decide_eq_false_iff_not, Bool.and_eq_true, bI_0, bI_n0] at c_5
    refine Wp.bipush (v := (-2)) dX12_write_8 (by decide) rfl ?_
    exact Wp.iret dX12_write_10 rfl (RQ.i (by simp (disch := omega) only [a_write, okL, okA, okWy, okPr, isO, okTl, okS, w01, okWn, okWh, isR, okF, nI_tI, iI_tI, tn_nI, nI_m1]; (repeat' split) <;> first | (exfalso; omega) | rfl) hM (by unfold t_write; (repeat' split) <;> first | (exfalso; omega) | exact hP | (exfalso; (try simp (disch := omega) only [okL, okA, okWy, okPr, isO, okTl, okS, w01, okWn, okWh, isR, okF, nI_tI, tn_nI] at *); omega)) (Out.rfl (x := x) (h := h)))
set_option maxHeartbeats 1000000 in
theorem c_X12_row {B : ev_B} {d x : Nat} {h : ev_H} {V : Nat → Value} {G : Nat → Nat → Int32} {Z : Nat → Nat → Int64} {σ : Sg} {i w : Int32} (hM : MH h x V G Z) (hP : PM σ V G Z) (hW : Wf σ) (hd : 1 ≤ d) :
    Wp B d M_X12_row 0 [some (.ref x), some (.int (i)), some (.int (w))] [] h (RQ x h (σ) (.long (a_row σ i w))) := by
  have hn := hW.n
  have hT := hW.net.1
  have hL := hW.net.2.1
  have hnr := hW.nR
  refine Wp.iload_n dX12_row_0 rfl rfl ?_
  refine Wp.iconst (v := (nI 0)) dX12_row_1 (by decide) rfl ?_
  refine Wp.aload_n dX12_row_2 rfl (by first | exact Or.inr ⟨_, rfl⟩ | exact Or.inl rfl) rfl ?_
  refine Wp.get dX12_row_3 fl_X12_251 hM.ob hP.nR rfl ?_
  refine Wp.iconst (v := (nI 1)) dX12_row_6 (by decide) rfl ?_
  refine Wp.isub dX12_row_7 rfl ?_
  refine Wp.cS dX12_row_8 cs_X12_85 rfl (by omega) rfl (Nat.le_of_ble_eq_true rfl) (Nat.le_of_ble_eq_true rfl) rfl (c_X12_in (d := d - 1)) ?_
  rintro _ h_ ⟨rfl, e_⟩
  rw [e_]
  clear e_ h_
  dsimp only [Option.toList, List.drop, List.cons_append, List.nil_append]
  try simp (disch := omega) only [nI_m1, nI_tI, i_0]
  refine Wp.bif_eq (tgt := 36) (n := 14) dX12_row_11 (by decide) rfl (fun c_11 => ?_) (fun c_11 => ?_)
  · try simp only [decide_eq_true_eq, decide_eq_false_iff_not, Bool.and_eq_true, bI_0, bI_n0] at c_11
    refine Wp.ldc2 kc_X12_178 dX12_row_36 rfl ?_
    exact Wp.lret dX12_row_39 rfl (RQ.l (by simp (disch := omega) only [a_row, okL, okA, okWy, okPr, isO, okTl, okS, w01, okWn, okWh, isR, okF, nI_tI, iI_tI, tn_nI, nI_m1]; (repeat' split) <;> first | (exfalso; omega) | rfl) hM hP (Out.rfl (x := x) (h := h)))
  · try simp only [decide_eq_true_eq, decide_eq_false_iff_not, Bool.and_eq_true, bI_0, bI_n0] at c_11
    refine Wp.iload_n dX12_row_14 rfl rfl ?_
    refine Wp.iconst (v := (nI 0)) dX12_row_15 (by decide) rfl ?_
    refine Wp.iconst (v := (nI 3)) dX12_row_16 (by decide) rfl ?_
    refine Wp.cS dX12_row_17 cs_X12_85 rfl (by omega) rfl (Nat.le_of_ble_eq_true rfl) (Nat.le_of_ble_eq_true rfl) rfl (c_X12_in (d := d - 1)) ?_
    rintro _ h_ ⟨rfl, e_⟩
    rw [e_]
    clear e_ h_
    dsimp only [Option.toList, List.drop, List.cons_append, List.nil_append]
    try simp (disch := omega) only [nI_m1, nI_tI, i_0]
    refine Wp.bif_eq (tgt := 36) (n := 23) dX12_row_20 (by decide) rfl (fun c_20 => ?_) (fun c_20 => ?_)
    · try simp only [decide_eq_true_eq, decide_eq_false_iff_not, Bool.and_eq_true, bI_0, bI_n0] at c_20
      refine Wp.ldc2 kc_X12_178 dX12_row_36 rfl ?_
      exact Wp.lret dX12_row_39 rfl (RQ.l (by simp (disch := omega) only [a_row, okL, okA, okWy, okPr, isO, okTl, okS, w01, okWn, okWh, isR, okF, nI_tI, iI_tI, tn_nI, nI_m1]; (repeat' split) <;> first | (exfalso; omega) | rfl) hM hP (Out.rfl (x := x) (h := h)))
    · try simp only [decide_eq_true_eq, decide_eq_false_iff_not, Bool.and_eq_true, bI_0, bI_n0] at c_20
      obtain ⟨a, rfl, ha, ha2⟩ := as_nI (o := i) (n := σ.nR) (by omega)
      obtain ⟨b, rfl, hb, hb2⟩ := as_nI (o := w) (n := 4) (by omega)
      have ta := nI_tI ha2
      have tb := nI_tI hb2
      refine Wp.aload_n dX12_row_23 rfl (by first | exact Or.inr ⟨_, rfl⟩ | exact Or.inl rfl) rfl ?_
      refine Wp.get dX12_row_24 fl_X12_41 hM.ob (hM.rf 14 (by decide)) rfl ?_
      refine Wp.iconst (v := (nI 4)) dX12_row_27 (by decide) rfl ?_
      refine Wp.iload_n dX12_row_28 rfl rfl ?_
      refine Wp.imul dX12_row_29 rfl ?_
      refine Wp.iload_n dX12_row_30 rfl rfl ?_
      refine Wp.iadd dX12_row_31 rfl ?_
      refine Wp.laload dX12_row_32 (hM.la 14 (by decide)) (nI_4 (by omega) (by omega)) (by show _ < 2000; omega) rfl ?_
      rw [hP.rv a b ha hb]
      refine Wp.goto (n := 39) dX12_row_33 (by decide) ?_
      exact Wp.lret dX12_row_39 rfl (RQ.l (by simp (disch := omega) only [a_row, okL, okA, okWy, okPr, isO, okTl, okS, w01, okWn, okWh, isR, okF, nI_tI, iI_tI, tn_nI, nI_m1]; (repeat' split) <;> first | (exfalso; omega) | rfl) hM hP (Out.rfl (x := x) (h := h)))
set_option maxHeartbeats 1000000 in
theorem c_X12_forge {B : ev_B} {d x : Nat} {h : ev_H} {V : Nat → Value} {G : Nat → Nat → Int32} {Z : Nat → Nat → Int64} {σ : Sg} {i w v : Int32} (hM : MH h x V G Z) (hP : PM σ V G Z) (hW : Wf σ) (hd : 1 ≤ d) :
    Wp B d M_X12_forge 0 [some (.ref x), some (.int (i)), some (.int (w)), some (.int (v))] [] h (RQ x h (t_forge σ i w v) (.int (a_forge σ i w v))) := by
  have hn := hW.n
  have hT := hW.net.1
  have hL := hW.net.2.1
  have hnr := hW.nR
  refine Wp.iload_n dX12_forge_0 rfl rfl ?_
  refine Wp.iconst (v := (nI 0)) dX12_forge_1 (by decide) rfl ?_
  refine Wp.aload_n dX12_forge_2 rfl (by first | exact Or.inr ⟨_, rfl⟩ | exact Or.inl rfl) rfl ?_
  refine Wp.get dX12_forge_3 fl_X12_251 hM.ob hP.nR rfl ?_
  refine Wp.iconst (v := (nI 1)) dX12_forge_6 (by decide) rfl ?_
  refine Wp.isub dX12_forge_7 rfl ?_
  refine Wp.cS dX12_forge_8 cs_X12_85 rfl (by omega) rfl (Nat.le_of_ble_eq_true rfl) (Nat.le_of_ble_eq_true rfl) rfl (c_X12_in (d := d - 1)) ?_
  rintro _ h_ ⟨rfl, e_⟩
  rw [e_]
  clear e_ h_
  dsimp only [Option.toList, List.drop, List.cons_append, List.nil_append]
  try simp (disch := omega) only [nI_m1, nI_tI, i_0]
  refine Wp.bif_eq (tgt := 34) (n := 14) dX12_forge_11 (by decide) rfl (fun c_11 => ?_) (fun c_11 => ?_)
  · try simp only [decide_eq_true_eq, decide_eq_false_iff_not, Bool.and_eq_true, bI_0, bI_n0] at c_11
    refine Wp.bipush (v := (-2)) dX12_forge_34 (by decide) rfl ?_
    exact Wp.iret dX12_forge_36 rfl (RQ.i (by simp (disch := omega) only [a_forge, okL, okA, okWy, okPr, isO, okTl, okS, w01, okWn, okWh, isR, okF, nI_tI, iI_tI, tn_nI, nI_m1]; (repeat' split) <;> first | (exfalso; omega) | rfl) hM (by unfold t_forge; (repeat' split) <;> first | (exfalso; omega) | exact hP | (exfalso; (try simp (disch := omega) only [okL, okA, okWy, okPr, isO, okTl, okS, w01, okWn, okWh, isR, okF, nI_tI, tn_nI] at *); omega)) (Out.rfl (x := x) (h := h)))
  · try simp only [decide_eq_true_eq, decide_eq_false_iff_not, Bool.and_eq_true, bI_0, bI_n0] at c_11
    refine Wp.iload_n dX12_forge_14 rfl rfl ?_
    refine Wp.iconst (v := (nI 0)) dX12_forge_15 (by decide) rfl ?_
    refine Wp.iconst (v := (nI 3)) dX12_forge_16 (by decide) rfl ?_
    refine Wp.cS dX12_forge_17 cs_X12_85 rfl (by omega) rfl (Nat.le_of_ble_eq_true rfl) (Nat.le_of_ble_eq_true rfl) rfl (c_X12_in (d := d - 1)) ?_
    rintro _ h_ ⟨rfl, e_⟩
    rw [e_]
    clear e_ h_
    dsimp only [Option.toList, List.drop, List.cons_append, List.nil_append]
    try simp (disch := omega) only [nI_m1, nI_tI, i_0]
    refine Wp.bif_eq (tgt := 34) (n := 23) dX12_forge_20 (by decide) rfl (fun c_20 => ?_) (fun c_20 => ?_)
    · try simp only [decide_eq_true_eq, decide_eq_false_iff_not, Bool.and_eq_true, bI_0, bI_n0] at c_20
      refine Wp.bipush (v := (-2)) dX12_forge_34 (by decide) rfl ?_
      exact Wp.iret dX12_forge_36 rfl (RQ.i (by simp (disch := omega) only [a_forge, okL, okA, okWy, okPr, isO, okTl, okS, w01, okWn, okWh, isR, okF, nI_tI, iI_tI, tn_nI, nI_m1]; (repeat' split) <;> first | (exfalso; omega) | rfl) hM (by unfold t_forge; (repeat' split) <;> first | (exfalso; omega) | exact hP | (exfalso; (try simp (disch := omega) only [okL, okA, okWy, okPr, isO, okTl, okS, w01, okWn, okWh, isR, okF, nI_tI, tn_nI] at *); omega)) (Out.rfl (x := x) (h := h)))
    · try simp only [decide_eq_true_eq, decide_eq_false_iff_not, Bool.and_eq_true, bI_0, bI_n0] at c_20
      refine Wp.iload_n dX12_forge_23 rfl rfl ?_
      refine Wp.ldc kc_X12_254 dX12_forge_24 rfl ?_
      refine Wp.ldc kc_X12_255 dX12_forge_26 rfl ?_
      refine Wp.cS dX12_forge_28 cs_X12_85 rfl (by omega) rfl (Nat.le_of_ble_eq_true rfl) (Nat.le_of_ble_eq_true rfl) rfl (c_X12_in (d := d - 1)) ?_
      rintro _ h_ ⟨rfl, e_⟩
      rw [e_]
      clear e_ h_
      dsimp only [Option.toList, List.drop, List.cons_append, List.nil_append]
      rw [show (-1000000 : Int32).toInt = -1000000 by decide, show (1000000 : Int32).toInt = 1000000 by decide]
      refine Wp.bif_ne (tgt := 37) (n := 34) dX12_forge_31 (by decide) rfl (fun c_31 => ?_) (fun c_31 => ?_)
      · try simp only [decide_eq_true_eq, decide_eq_false_iff_not, Bool.and_eq_true, bI_0, bI_n0] at c_31
        obtain ⟨a, rfl, ha, ha2⟩ := as_nI (o := i) (n := σ.nR) (by omega)
        obtain ⟨b, rfl, hb, hb2⟩ := as_nI (o := w) (n := 4) (by omega)
        have ta := nI_tI ha2
        have tb := nI_tI hb2
        refine Wp.aload_n dX12_forge_37 rfl (by first | exact Or.inr ⟨_, rfl⟩ | exact Or.inl rfl) rfl ?_
        refine Wp.get dX12_forge_38 fl_X12_41 hM.ob (hM.rf 14 (by decide)) rfl ?_
        refine Wp.iconst (v := (nI 4)) dX12_forge_41 (by decide) rfl ?_
        refine Wp.iload_n dX12_forge_42 rfl rfl ?_
        refine Wp.imul dX12_forge_43 rfl ?_
        refine Wp.iload_n dX12_forge_44 rfl rfl ?_
        refine Wp.iadd dX12_forge_45 rfl ?_
        refine Wp.iload_n dX12_forge_46 rfl rfl ?_
        refine Wp.i2l dX12_forge_47 rfl ?_
        rw [i2l_lI]
        refine Wp.lastore dX12_forge_48 (hM.la 14 (by decide)) (nI_4 (by omega) (by omega)) (by show _ < 2000; omega) rfl ?_
        refine hM.stl (k := 14) (by decide) ?_
        intro h48 Z48 hM48 o48 e48 f48
        have out48 := (Out.rfl (x := x) (h := h)).trans o48
        refine Wp.iconst (v := (nI 1)) dX12_forge_49 (by decide) rfl ?_
        exact Wp.iret dX12_forge_50 rfl (by
          have hok : okF σ (nI a) (nI b) v := by simp (disch := omega) only [okF, isR, nI_tI]; omega
          refine RQ.i (by rw [a_forge, if_pos hok]; rfl) hM48 ?_ out48
          rw [t_forge, if_pos hok, tn_nI ha2, tn_nI hb2]
          refine hP.chr (fun _ _ _ => rfl) hP.nR (fun k _ h2 => f48 k h2) (fun t k h1 h2 => ?_)
          rw [e48]
          simp only [vp_updL, updR]
          by_cases e : 4 * t + k = 4 * a + b
          · rw [if_pos e, if_pos (by omega)]
          · rw [if_neg e, if_neg (by omega)]; exact hP.rv t k h1 h2)
      · try simp only [decide_eq_true_eq, decide_eq_false_iff_not, Bool.and_eq_true, bI_0, bI_n0] at c_31
        refine Wp.bipush (v := (-2)) dX12_forge_34 (by decide) rfl ?_
        exact Wp.iret dX12_forge_36 rfl (RQ.i (by simp (disch := omega) only [a_forge, okL, okA, okWy, okPr, isO, okTl, okS, w01, okWn, okWh, isR, okF, nI_tI, iI_tI, tn_nI, nI_m1]; (repeat' split) <;> first | (exfalso; omega) | rfl) hM (by unfold t_forge; (repeat' split) <;> first | (exfalso; omega) | exact hP | (exfalso; (try simp (disch := omega) only [okL, okA, okWy, okPr, isO, okTl, okS, w01, okWn, okWh, isR, okF, nI_tI, tn_nI] at *); omega)) (Out.rfl (x := x) (h := h)))
set_option maxHeartbeats 2000000 in
theorem c_X12_check {B : ev_B} {d x : Nat} {h : ev_H} {V : Nat → Value} {G : Nat → Nat → Int32} {Z : Nat → Nat → Int64} {σ : Sg} {o : Int32} (hM : MH h x V G Z) (hP : PM σ V G Z) (hW : Wf σ) (hd : 6 ≤ d) :
    Wp B d M_X12_check 0 [some (.ref x), some (.int (o)), none, none, none] [] h (RQ x h (σ) (.int (a_check σ o))) := by
  have hn := hW.n
  have hT := hW.net.1
  have hL := hW.net.2.1
  have hnr := hW.nR
  refine Wp.aload_n dX12_check_0 rfl (by first | exact Or.inr ⟨_, rfl⟩ | exact Or.inl rfl) rfl ?_
  refine Wp.iload_n dX12_check_1 rfl rfl ?_
  refine Wp.cV dX12_check_2 cv_X12_115 rfl (by omega) rfl (Nat.le_of_ble_eq_true rfl) (Nat.le_of_ble_eq_true rfl) hM.ob rfl (c_X12_isOffer (d := d - 1) hM hP hW (by omega)) ?_
  rintro _ h_ ⟨rfl, e_⟩
  rw [e_]
  clear e_ h_
  dsimp only [Option.toList, List.drop, List.cons_append, List.nil_append]
  refine Wp.bif_ne (tgt := 11) (n := 8) dX12_check_5 (by decide) rfl (fun c_5 => ?_) (fun c_5 => ?_)
  · try simp only [decide_eq_true_eq, decide_eq_false_iff_not, Bool.and_eq_true, bI_0, bI_n0] at c_5
    obtain ⟨i, rfl, ho, ho2⟩ := as_nI (show 0 ≤ o.toInt ∧ o.toInt < σ.n by omega)
    have hO := hP.of i ho
    have hOw := hW.of i ho
    refine Wp.aload_n dX12_check_11 rfl (by first | exact Or.inr ⟨_, rfl⟩ | exact Or.inl rfl) rfl ?_
    refine Wp.iload_n dX12_check_12 rfl rfl ?_
    refine Wp.cV dX12_check_13 cv_X12_208 rfl (by omega) rfl (Nat.le_of_ble_eq_true rfl) (Nat.le_of_ble_eq_true rfl) hM.ob rfl (c_X12_prepares (d := d - 1) hM hP hW ho (by omega)) ?_
    rintro _ h2 ⟨rfl, V2, G2, Z2, hM2, o2, k2, hC2, hT2⟩
    have hP2 := hP.kp k2
    dsimp only [Option.toList, List.drop, List.cons_append, List.nil_append]
    have hnb := npt_b hW i
    have loop : ∀ u, u ≤ σ.nR → whF (fun t => decide (wrM σ i t ≠ 0)) (fun t => 8 * (t : Int) + (wrM σ i t : Nat)) σ.nR (σ.nR - u) = ckV σ i → ∀ j4 : Option Value, Wp B d M_X12_check 32 [some (.ref x), some (.int (nI i)), some (.int (nI (npt σ i - 2))), some (.int (nI u)), j4] [] h2 (RQ x h σ (.int (a_check σ (nI i)))) := by
      refine ev_upl σ.nR (fun u hi ih => ?_) ?_
      · intro hck j4
        rw [show σ.nR - u = (σ.nR - u - 1) + 1 by omega, whF, show σ.nR - (σ.nR - u - 1 + 1) = u by omega] at hck
        refine Wp.iload_n dX12_check_32 rfl rfl ?_
        refine Wp.aload_n dX12_check_33 rfl (by first | exact Or.inr ⟨_, rfl⟩ | exact Or.inl rfl) rfl ?_
        refine Wp.get dX12_check_34 fl_X12_251 hM2.ob hP2.nR rfl ?_
        refine Wp.icmp_ge (tgt := 66) (n := 40) dX12_check_37 (by decide) rfl (fun c_37 => ?_) (fun c_37 => ?_)
        · try simp (disch := omega) only [nI_bit0, nI_bit1, Bool.not_eq_false, Bool.not_eq_true] at c_37
          try simp (disch := omega) only [i_lt, i_le, i_eq, l_lt, l_le, l_eq, i_0, i_m1, l_0, nI_tI, iI_tI, lI_tI, Int.not_lt, Int.not_le] at c_37
          omega
        · try simp (disch := omega) only [nI_bit0, nI_bit1, Bool.not_eq_false, Bool.not_eq_true] at c_37
          try simp (disch := omega) only [i_lt, i_le, i_eq, l_lt, l_le, l_eq, i_0, i_m1, l_0, nI_tI, iI_tI, lI_tI, Int.not_lt, Int.not_le] at c_37
          refine Wp.aload_n dX12_check_40 rfl (by first | exact Or.inr ⟨_, rfl⟩ | exact Or.inl rfl) rfl ?_
          refine Wp.iload_n dX12_check_41 rfl rfl ?_
          refine Wp.cV dX12_check_42 cv_X12_262 rfl (by omega) rfl (Nat.le_of_ble_eq_true rfl) (Nat.le_of_ble_eq_true rfl) hM2.ob rfl (c_X12_wrong (d := d - 1) (o := i) hM2 hP2 hW hC2 hi (by omega)) ?_
          rintro _ h_ ⟨rfl, e_⟩
          rw [e_]
          clear e_ h_
          dsimp only [Option.toList, List.drop, List.cons_append, List.nil_append]
          have hw7 := wrM_le σ i u
          refine Wp.istore dX12_check_45 (Nat.le_of_ble_eq_true rfl) (by dsimp only [ev_st1, ev_st2, ev_cl] <;> rfl) rfl ?_
          refine Wp.iload dX12_check_47 rfl rfl ?_
          refine Wp.if_eq (tgt := 60) (n := 52) dX12_check_49 (by decide) rfl (fun c_49 => ?_) (fun c_49 => ?_)
          · have c_49 : wrM σ i u = 0 := (nI_eq0 (by omega)).mp c_49
            rw [if_neg (by simp [c_49])] at hck
            refine Wp.iinc (v := _ + (nI 1)) dX12_check_60 rfl rfl (Nat.le_of_ble_eq_true rfl) (by dsimp only [ev_st1, ev_cl] <;> rfl) rfl ?_
            refine Wp.goto (n := 32) dX12_check_63 (by decide) ?_
            rw [nI_add1]
            exact ih (by rw [show σ.nR - (u + 1) = σ.nR - u - 1 by omega]; exact hck) _
          · have c_49 : wrM σ i u ≠ 0 := fun z => c_49 (by rw [z]; rfl)
            rw [if_pos (by simp [c_49])] at hck
            refine Wp.bipush (v := (nI 8)) dX12_check_52 (by decide) rfl ?_
            refine Wp.iload_n dX12_check_54 rfl rfl ?_
            refine Wp.imul dX12_check_55 rfl ?_
            rw [pk_mul]
            refine Wp.iload dX12_check_56 rfl rfl ?_
            refine Wp.iadd dX12_check_58 rfl ?_
            rw [nI_add]
            exact Wp.iret dX12_check_59 rfl (RQ.i (by rw [a_check, if_pos (show isO σ (nI i) by have e_ := nI_tI ho2; omega), tn_nI ho2, ← hck, if_neg (by omega), nI_iI]; congr 1) hM2 hP2 o2)
      · intro hck j4
        refine Wp.iload_n dX12_check_32 rfl rfl ?_
        refine Wp.aload_n dX12_check_33 rfl (by first | exact Or.inr ⟨_, rfl⟩ | exact Or.inl rfl) rfl ?_
        refine Wp.get dX12_check_34 fl_X12_251 hM2.ob hP2.nR rfl ?_
        refine Wp.icmp_ge (tgt := 66) (n := 40) dX12_check_37 (by decide) rfl (fun c_37 => ?_) (fun c_37 => ?_)
        · try simp (disch := omega) only [nI_bit0, nI_bit1, Bool.not_eq_false, Bool.not_eq_true] at c_37
          try simp (disch := omega) only [i_lt, i_le, i_eq, l_lt, l_le, l_eq, i_0, i_m1, l_0, nI_tI, iI_tI, lI_tI, Int.not_lt, Int.not_le] at c_37
          have hck : ckV σ i = -1 := by rw [← hck, Nat.sub_self]; rfl
          refine Wp.aload_n dX12_check_66 rfl (by first | exact Or.inr ⟨_, rfl⟩ | exact Or.inl rfl) rfl ?_
          refine Wp.get dX12_check_67 fl_X12_251 hM2.ob hP2.nR rfl ?_
          refine Wp.iload_n dX12_check_70 rfl rfl ?_
          refine Wp.icmp_ne (tgt := 78) (n := 74) dX12_check_71 (by decide) rfl (fun c_71 => ?_) (fun c_71 => ?_)
          · try simp (disch := omega) only [nI_bit0, nI_bit1, Bool.not_eq_false, Bool.not_eq_true] at c_71
            try simp (disch := omega) only [i_lt, i_le, i_eq, l_lt, l_le, l_eq, i_0, i_m1, l_0, nI_tI, iI_tI, lI_tI, Int.not_lt, Int.not_le] at c_71
            refine Wp.bipush (v := (-3)) dX12_check_78 (by decide) rfl ?_
            exact Wp.iret dX12_check_80 rfl (RQ.i (by rw [a_check, if_pos (show isO σ (nI i) by have e_ := nI_tI ho2; omega), tn_nI ho2, if_pos hck]; first | (rw [if_pos (by omega)]) | (rw [if_neg (by omega)])) hM2 hP2 o2)
          · try simp (disch := omega) only [nI_bit0, nI_bit1, Bool.not_eq_false, Bool.not_eq_true] at c_71
            try simp (disch := omega) only [i_lt, i_le, i_eq, l_lt, l_le, l_eq, i_0, i_m1, l_0, nI_tI, iI_tI, lI_tI, Int.not_lt, Int.not_le] at c_71
            refine Wp.iconst (v := (-1)) dX12_check_74 (by decide) rfl ?_
            refine Wp.goto (n := 80) dX12_check_75 (by decide) ?_
            exact Wp.iret dX12_check_80 rfl (RQ.i (by rw [a_check, if_pos (show isO σ (nI i) by have e_ := nI_tI ho2; omega), tn_nI ho2, if_pos hck]; first | (rw [if_pos (by omega)]) | (rw [if_neg (by omega)])) hM2 hP2 o2)
        · try simp (disch := omega) only [nI_bit0, nI_bit1, Bool.not_eq_false, Bool.not_eq_true] at c_37
          try simp (disch := omega) only [i_lt, i_le, i_eq, l_lt, l_le, l_eq, i_0, i_m1, l_0, nI_tI, iI_tI, lI_tI, Int.not_lt, Int.not_le] at c_37
          omega
    refine Wp.bif_eq (tgt := 28) (n := 19) dX12_check_16 (by decide) rfl (fun c_16 => ?_) (fun c_16 => ?_)
    · try simp only [decide_eq_false_iff_not] at c_16
      have hn2 : npt σ i = 2 := by rw [npt, if_neg c_16]
      refine Wp.iconst (v := (nI 0)) dX12_check_28 (by decide) rfl ?_
      refine Wp.istore_n dX12_check_29 (Nat.le_of_ble_eq_true rfl) (by dsimp only [ev_st1, ev_st2, ev_cl] <;> rfl) rfl ?_
      refine Wp.iconst (v := (nI 0)) dX12_check_30 (by decide) rfl ?_
      refine Wp.istore_n dX12_check_31 (Nat.le_of_ble_eq_true rfl) (by dsimp only [ev_st1, ev_st2, ev_cl] <;> rfl) rfl ?_
      have l0 := loop 0 (by omega) rfl none
      rw [show npt σ i - 2 = 0 by omega] at l0
      exact l0
    · skip
      refine Wp.aload_n dX12_check_19 rfl (by first | exact Or.inr ⟨_, rfl⟩ | exact Or.inl rfl) rfl ?_
      refine Wp.get dX12_check_20 fl_X12_198 hM2.ob hT2.1 rfl ?_
      refine Wp.iconst (v := (nI 2)) dX12_check_23 (by decide) rfl ?_
      refine Wp.isub dX12_check_24 rfl ?_
      rw [pk_sub (by omega)]
      refine Wp.goto (n := 29) dX12_check_25 (by decide) ?_
      refine Wp.istore_n dX12_check_29 (Nat.le_of_ble_eq_true rfl) (by dsimp only [ev_st1, ev_st2, ev_cl] <;> rfl) rfl ?_
      refine Wp.iconst (v := (nI 0)) dX12_check_30 (by decide) rfl ?_
      refine Wp.istore_n dX12_check_31 (Nat.le_of_ble_eq_true rfl) (by dsimp only [ev_st1, ev_st2, ev_cl] <;> rfl) rfl ?_
      have l0 := loop 0 (by omega) rfl none
      exact l0
  · try simp only [decide_eq_true_eq, decide_eq_false_iff_not, Bool.and_eq_true, bI_0, bI_n0] at c_5
    refine Wp.bipush (v := (-2)) dX12_check_8 (by decide) rfl ?_
    exact Wp.iret dX12_check_10 rfl (RQ.i (by simp (disch := omega) only [a_check, okL, okA, okWy, okPr, isO, okTl, okS, w01, okWn, okWh, isR, okF, nI_tI, iI_tI, tn_nI, nI_m1]; (repeat' split) <;> first | (exfalso; omega) | rfl) hM hP (Out.rfl (x := x) (h := h)))
set_option maxHeartbeats 1000000 in
theorem c_X12_trace {B : ev_B} {d x : Nat} {h : ev_H} {V : Nat → Value} {G : Nat → Nat → Int32} {Z : Nat → Nat → Int64} {σ : Sg} {i : Int32} (hM : MH h x V G Z) (hP : PM σ V G Z) (hW : Wf σ) (hd : 1 ≤ d) :
    Wp B d M_X12_trace 0 [some (.ref x), some (.int (i))] [] h (RQ x h (σ) (.int (a_trace σ i))) := by
  have hn := hW.n
  have hT := hW.net.1
  have hL := hW.net.2.1
  have hnt := hW.nT
  refine Wp.iload_n dX12_trace_0 rfl rfl ?_
  refine Wp.iconst (v := (nI 0)) dX12_trace_1 (by decide) rfl ?_
  refine Wp.aload_n dX12_trace_2 rfl (by first | exact Or.inr ⟨_, rfl⟩ | exact Or.inl rfl) rfl ?_
  refine Wp.get dX12_trace_3 fl_X12_265 hM.ob hP.nT rfl ?_
  refine Wp.bipush (v := (nI 40)) dX12_trace_6 (by decide) rfl ?_
  refine Wp.icmp_ge (tgt := 18) (n := 11) dX12_trace_8 (by decide) rfl (fun c_8 => ?_) (fun c_8 => ?_)
  · try simp (disch := omega) only [nI_bit0, nI_bit1, Bool.not_eq_false, Bool.not_eq_true] at c_8
    try simp (disch := omega) only [i_lt, i_le, i_eq, l_lt, l_le, l_eq, i_0, i_m1, l_0, nI_tI, iI_tI, lI_tI, Int.not_lt, Int.not_le] at c_8
    refine Wp.bipush (v := (nI 40)) dX12_trace_18 (by decide) rfl ?_
    refine Wp.iconst (v := (nI 1)) dX12_trace_20 (by decide) rfl ?_
    refine Wp.isub dX12_trace_21 rfl ?_
    refine Wp.cS dX12_trace_22 cs_X12_85 rfl (by omega) rfl (Nat.le_of_ble_eq_true rfl) (Nat.le_of_ble_eq_true rfl) rfl (c_X12_in (d := d - 1)) ?_
    rintro _ h_ ⟨rfl, e_⟩
    rw [e_]
    clear e_ h_
    dsimp only [Option.toList, List.drop, List.cons_append, List.nil_append]
    try simp (disch := omega) only [nI_mk, nI_tI, i_0]
    refine Wp.bif_eq (tgt := 37) (n := 28) dX12_trace_25 (by decide) rfl (fun c_25 => ?_) (fun c_25 => ?_)
    · try simp only [decide_eq_true_eq, decide_eq_false_iff_not, Bool.and_eq_true, bI_0, bI_n0] at c_25
      refine Wp.iconst (v := (-1)) dX12_trace_37 (by decide) rfl ?_
      exact Wp.iret dX12_trace_38 rfl (RQ.i (by simp (disch := omega) only [a_trace, okL, okA, okWy, okPr, isO, okTl, okS, w01, okWn, okWh, isR, okF, nI_tI, iI_tI, tn_nI, nI_m1]; (repeat' split) <;> first | (exfalso; omega) | rfl) hM hP (Out.rfl (x := x) (h := h)))
    · try simp only [decide_eq_true_eq, decide_eq_false_iff_not, Bool.and_eq_true, bI_0, bI_n0] at c_25
      obtain ⟨a, rfl, ha, ha2⟩ := as_nI (o := i) (n := 40) (by omega)
      have ta := nI_tI ha2
      refine Wp.aload_n dX12_trace_28 rfl (by first | exact Or.inr ⟨_, rfl⟩ | exact Or.inl rfl) rfl ?_
      refine Wp.get dX12_trace_29 fl_X12_45 hM.ob (hM.rf 15 (by decide)) rfl ?_
      refine Wp.iload_n dX12_trace_32 rfl rfl ?_
      refine Wp.iaload dX12_trace_33 (hM.ia 15 (by decide)) (nI_toInt (by omega)) (by show _ < 40; omega) rfl ?_
      rw [hP.tr a (by omega) (by omega)]
      refine Wp.goto (n := 38) dX12_trace_34 (by decide) ?_
      exact Wp.iret dX12_trace_38 rfl (RQ.i (by simp (disch := omega) only [a_trace, okL, okA, okWy, okPr, isO, okTl, okS, w01, okWn, okWh, isR, okF, nI_tI, iI_tI, tn_nI, nI_m1]; (repeat' split) <;> first | (exfalso; omega) | rfl) hM hP (Out.rfl (x := x) (h := h)))
  · try simp (disch := omega) only [nI_bit0, nI_bit1, Bool.not_eq_false, Bool.not_eq_true] at c_8
    try simp (disch := omega) only [i_lt, i_le, i_eq, l_lt, l_le, l_eq, i_0, i_m1, l_0, nI_tI, iI_tI, lI_tI, Int.not_lt, Int.not_le] at c_8
    refine Wp.aload_n dX12_trace_11 rfl (by first | exact Or.inr ⟨_, rfl⟩ | exact Or.inl rfl) rfl ?_
    refine Wp.get dX12_trace_12 fl_X12_265 hM.ob hP.nT rfl ?_
    refine Wp.goto (n := 20) dX12_trace_15 (by decide) ?_
    refine Wp.iconst (v := (nI 1)) dX12_trace_20 (by decide) rfl ?_
    refine Wp.isub dX12_trace_21 rfl ?_
    refine Wp.cS dX12_trace_22 cs_X12_85 rfl (by omega) rfl (Nat.le_of_ble_eq_true rfl) (Nat.le_of_ble_eq_true rfl) rfl (c_X12_in (d := d - 1)) ?_
    rintro _ h_ ⟨rfl, e_⟩
    rw [e_]
    clear e_ h_
    dsimp only [Option.toList, List.drop, List.cons_append, List.nil_append]
    try simp (disch := omega) only [nI_mk, nI_tI, i_0]
    refine Wp.bif_eq (tgt := 37) (n := 28) dX12_trace_25 (by decide) rfl (fun c_25 => ?_) (fun c_25 => ?_)
    · try simp only [decide_eq_true_eq, decide_eq_false_iff_not, Bool.and_eq_true, bI_0, bI_n0] at c_25
      refine Wp.iconst (v := (-1)) dX12_trace_37 (by decide) rfl ?_
      exact Wp.iret dX12_trace_38 rfl (RQ.i (by simp (disch := omega) only [a_trace, okL, okA, okWy, okPr, isO, okTl, okS, w01, okWn, okWh, isR, okF, nI_tI, iI_tI, tn_nI, nI_m1]; (repeat' split) <;> first | (exfalso; omega) | rfl) hM hP (Out.rfl (x := x) (h := h)))
    · try simp only [decide_eq_true_eq, decide_eq_false_iff_not, Bool.and_eq_true, bI_0, bI_n0] at c_25
      obtain ⟨a, rfl, ha, ha2⟩ := as_nI (o := i) (n := 40) (by omega)
      have ta := nI_tI ha2
      refine Wp.aload_n dX12_trace_28 rfl (by first | exact Or.inr ⟨_, rfl⟩ | exact Or.inl rfl) rfl ?_
      refine Wp.get dX12_trace_29 fl_X12_45 hM.ob (hM.rf 15 (by decide)) rfl ?_
      refine Wp.iload_n dX12_trace_32 rfl rfl ?_
      refine Wp.iaload dX12_trace_33 (hM.ia 15 (by decide)) (nI_toInt (by omega)) (by show _ < 40; omega) rfl ?_
      rw [hP.tr a (by omega) (by omega)]
      refine Wp.goto (n := 38) dX12_trace_34 (by decide) ?_
      exact Wp.iret dX12_trace_38 rfl (RQ.i (by simp (disch := omega) only [a_trace, okL, okA, okWy, okPr, isO, okTl, okS, w01, okWn, okWh, isR, okF, nI_tI, iI_tI, tn_nI, nI_m1]; (repeat' split) <;> first | (exfalso; omega) | rfl) hM hP (Out.rfl (x := x) (h := h)))
set_option maxHeartbeats 1000000 in
theorem c_X12_count {B : ev_B} {d x : Nat} {h : ev_H} {V : Nat → Value} {G : Nat → Nat → Int32} {Z : Nat → Nat → Int64} {σ : Sg} {w : Int32} (hM : MH h x V G Z) (hP : PM σ V G Z) (hW : Wf σ) (hd : 1 ≤ d) :
    Wp B d M_X12_count 0 [some (.ref x), some (.int (w))] [] h (RQ x h (σ) (.int (a_count σ w))) := by
  have hn := hW.n
  have hT := hW.net.1
  have hL := hW.net.2.1
  have hnt := hW.nT
  refine Wp.iload_n dX12_count_0 rfl rfl ?_
  refine Wp.if_ne (tgt := 11) (n := 4) dX12_count_1 (by decide) rfl (fun c_1 => ?_) (fun c_1 => ?_)
  · try simp (disch := omega) only [nI_bit0, nI_bit1, Bool.not_eq_false, Bool.not_eq_true] at c_1
    try simp (disch := omega) only [i_lt, i_le, i_eq, l_lt, l_le, l_eq, i_0, i_m1, l_0, nI_tI, iI_tI, lI_tI, Int.not_lt, Int.not_le] at c_1
    refine Wp.iload_n dX12_count_11 rfl rfl ?_
    refine Wp.iconst (v := (nI 1)) dX12_count_12 (by decide) rfl ?_
    refine Wp.icmp_ne (tgt := 23) (n := 16) dX12_count_13 (by decide) rfl (fun c_13 => ?_) (fun c_13 => ?_)
    · try simp (disch := omega) only [nI_bit0, nI_bit1, Bool.not_eq_false, Bool.not_eq_true] at c_13
      try simp (disch := omega) only [i_lt, i_le, i_eq, l_lt, l_le, l_eq, i_0, i_m1, l_0, nI_tI, iI_tI, lI_tI, Int.not_lt, Int.not_le] at c_13
      refine Wp.iload_n dX12_count_23 rfl rfl ?_
      refine Wp.iconst (v := (nI 2)) dX12_count_24 (by decide) rfl ?_
      refine Wp.icmp_ne (tgt := 35) (n := 28) dX12_count_25 (by decide) rfl (fun c_25 => ?_) (fun c_25 => ?_)
      · try simp (disch := omega) only [nI_bit0, nI_bit1, Bool.not_eq_false, Bool.not_eq_true] at c_25
        try simp (disch := omega) only [i_lt, i_le, i_eq, l_lt, l_le, l_eq, i_0, i_m1, l_0, nI_tI, iI_tI, lI_tI, Int.not_lt, Int.not_le] at c_25
        refine Wp.iload_n dX12_count_35 rfl rfl ?_
        refine Wp.iconst (v := (nI 3)) dX12_count_36 (by decide) rfl ?_
        refine Wp.icmp_ne (tgt := 47) (n := 40) dX12_count_37 (by decide) rfl (fun c_37 => ?_) (fun c_37 => ?_)
        · try simp (disch := omega) only [nI_bit0, nI_bit1, Bool.not_eq_false, Bool.not_eq_true] at c_37
          try simp (disch := omega) only [i_lt, i_le, i_eq, l_lt, l_le, l_eq, i_0, i_m1, l_0, nI_tI, iI_tI, lI_tI, Int.not_lt, Int.not_le] at c_37
          refine Wp.iload_n dX12_count_47 rfl rfl ?_
          refine Wp.iconst (v := (nI 4)) dX12_count_48 (by decide) rfl ?_
          refine Wp.icmp_ne (tgt := 59) (n := 52) dX12_count_49 (by decide) rfl (fun c_49 => ?_) (fun c_49 => ?_)
          · try simp (disch := omega) only [nI_bit0, nI_bit1, Bool.not_eq_false, Bool.not_eq_true] at c_49
            try simp (disch := omega) only [i_lt, i_le, i_eq, l_lt, l_le, l_eq, i_0, i_m1, l_0, nI_tI, iI_tI, lI_tI, Int.not_lt, Int.not_le] at c_49
            refine Wp.bipush (v := (-2)) dX12_count_59 (by decide) rfl ?_
            exact Wp.iret dX12_count_61 rfl (RQ.i (by simp (disch := omega) only [a_count, okL, okA, okWy, okPr, isO, okTl, okS, w01, okWn, okWh, isR, okF, nI_tI, iI_tI, tn_nI, nI_m1]; (repeat' split) <;> first | (exfalso; omega) | rfl) hM hP (Out.rfl (x := x) (h := h)))
          · try simp (disch := omega) only [nI_bit0, nI_bit1, Bool.not_eq_false, Bool.not_eq_true] at c_49
            try simp (disch := omega) only [i_lt, i_le, i_eq, l_lt, l_le, l_eq, i_0, i_m1, l_0, nI_tI, iI_tI, lI_tI, Int.not_lt, Int.not_le] at c_49
            refine Wp.aload_n dX12_count_52 rfl (by first | exact Or.inr ⟨_, rfl⟩ | exact Or.inl rfl) rfl ?_
            refine Wp.get dX12_count_53 fl_X12_265 hM.ob hP.nT rfl ?_
            refine Wp.goto (n := 61) dX12_count_56 (by decide) ?_
            exact Wp.iret dX12_count_61 rfl (RQ.i (by simp (disch := omega) only [a_count, okL, okA, okWy, okPr, isO, okTl, okS, w01, okWn, okWh, isR, okF, nI_tI, iI_tI, tn_nI, nI_m1]; (repeat' split) <;> first | (exfalso; omega) | rfl) hM hP (Out.rfl (x := x) (h := h)))
        · try simp (disch := omega) only [nI_bit0, nI_bit1, Bool.not_eq_false, Bool.not_eq_true] at c_37
          try simp (disch := omega) only [i_lt, i_le, i_eq, l_lt, l_le, l_eq, i_0, i_m1, l_0, nI_tI, iI_tI, lI_tI, Int.not_lt, Int.not_le] at c_37
          refine Wp.aload_n dX12_count_40 rfl (by first | exact Or.inr ⟨_, rfl⟩ | exact Or.inl rfl) rfl ?_
          refine Wp.get dX12_count_41 fl_X12_251 hM.ob hP.nR rfl ?_
          refine Wp.goto (n := 61) dX12_count_44 (by decide) ?_
          exact Wp.iret dX12_count_61 rfl (RQ.i (by simp (disch := omega) only [a_count, okL, okA, okWy, okPr, isO, okTl, okS, w01, okWn, okWh, isR, okF, nI_tI, iI_tI, tn_nI, nI_m1]; (repeat' split) <;> first | (exfalso; omega) | rfl) hM hP (Out.rfl (x := x) (h := h)))
      · try simp (disch := omega) only [nI_bit0, nI_bit1, Bool.not_eq_false, Bool.not_eq_true] at c_25
        try simp (disch := omega) only [i_lt, i_le, i_eq, l_lt, l_le, l_eq, i_0, i_m1, l_0, nI_tI, iI_tI, lI_tI, Int.not_lt, Int.not_le] at c_25
        refine Wp.aload_n dX12_count_28 rfl (by first | exact Or.inr ⟨_, rfl⟩ | exact Or.inl rfl) rfl ?_
        refine Wp.get dX12_count_29 fl_X12_89 hM.ob hP.nn rfl ?_
        refine Wp.goto (n := 61) dX12_count_32 (by decide) ?_
        exact Wp.iret dX12_count_61 rfl (RQ.i (by simp (disch := omega) only [a_count, okL, okA, okWy, okPr, isO, okTl, okS, w01, okWn, okWh, isR, okF, nI_tI, iI_tI, tn_nI, nI_m1]; (repeat' split) <;> first | (exfalso; omega) | rfl) hM hP (Out.rfl (x := x) (h := h)))
    · try simp (disch := omega) only [nI_bit0, nI_bit1, Bool.not_eq_false, Bool.not_eq_true] at c_13
      try simp (disch := omega) only [i_lt, i_le, i_eq, l_lt, l_le, l_eq, i_0, i_m1, l_0, nI_tI, iI_tI, lI_tI, Int.not_lt, Int.not_le] at c_13
      refine Wp.aload_n dX12_count_16 rfl (by first | exact Or.inr ⟨_, rfl⟩ | exact Or.inl rfl) rfl ?_
      refine Wp.cV dX12_count_17 cv_X12_78 rfl (by omega) rfl (Nat.le_of_ble_eq_true rfl) (Nat.le_of_ble_eq_true rfl) hM.ob rfl (c_X12_lines (d := d - 1) (hM.net hP.net) hW.net) ?_
      rintro _ h_ ⟨rfl, e_⟩
      rw [e_]
      clear e_ h_
      dsimp only [Option.toList, List.drop, List.cons_append, List.nil_append]
      refine Wp.goto (n := 61) dX12_count_20 (by decide) ?_
      exact Wp.iret dX12_count_61 rfl (RQ.i (by simp (disch := omega) only [a_count, okL, okA, okWy, okPr, isO, okTl, okS, w01, okWn, okWh, isR, okF, nI_tI, iI_tI, tn_nI, nI_m1]; (repeat' split) <;> first | (exfalso; omega) | rfl) hM hP (Out.rfl (x := x) (h := h)))
  · try simp (disch := omega) only [nI_bit0, nI_bit1, Bool.not_eq_false, Bool.not_eq_true] at c_1
    try simp (disch := omega) only [i_lt, i_le, i_eq, l_lt, l_le, l_eq, i_0, i_m1, l_0, nI_tI, iI_tI, lI_tI, Int.not_lt, Int.not_le] at c_1
    refine Wp.aload_n dX12_count_4 rfl (by first | exact Or.inr ⟨_, rfl⟩ | exact Or.inl rfl) rfl ?_
    refine Wp.cV dX12_count_5 cv_X12_82 rfl (by omega) rfl (Nat.le_of_ble_eq_true rfl) (Nat.le_of_ble_eq_true rfl) hM.ob rfl (c_X12_things (d := d - 1) (hM.net hP.net) hW.net) ?_
    rintro _ h_ ⟨rfl, e_⟩
    rw [e_]
    clear e_ h_
    dsimp only [Option.toList, List.drop, List.cons_append, List.nil_append]
    refine Wp.goto (n := 61) dX12_count_8 (by decide) ?_
    exact Wp.iret dX12_count_61 rfl (RQ.i (by simp (disch := omega) only [a_count, okL, okA, okWy, okPr, isO, okTl, okS, w01, okWn, okWh, isR, okF, nI_tI, iI_tI, tn_nI, nI_m1]; (repeat' split) <;> first | (exfalso; omega) | rfl) hM hP (Out.rfl (x := x) (h := h)))
theorem c_X12_ran {B : ev_B} {d x : Nat} {h : ev_H} {V : Nat → Value} {G : Nat → Nat → Int32} {Z : Nat → Nat → Int64} {σ : Sg} {b : Nat} {m : Int32} (hM : MH h x V G Z) (hP : PM σ V G Z) (hW : Wf σ) (hm : V 34 = .int m) (hn9 : σ.nT ≤ 950) :
    Wp B d M_X12_ran 0 [some (.ref x), some (.int (nI b))] [] h (RA x h (σ.run b) m none) := by
  refine Wp.aload_n dX12_ran_0 rfl (by first | exact Or.inr ⟨_, rfl⟩ | exact Or.inl rfl) rfl ?_
  refine Wp.get dX12_ran_1 fl_X12_265 hM.ob hP.nT rfl ?_
  refine Wp.bipush (v := (nI 40)) dX12_ran_4 (by decide) rfl ?_
  refine Wp.icmp_ge (tgt := 19) (n := 9) dX12_ran_6 (by decide) rfl (fun c_6 => ?_) (fun c_6 => ?_)
  · try simp (disch := omega) only [nI_bit0, nI_bit1, Bool.not_eq_false, Bool.not_eq_true] at c_6
    try simp (disch := omega) only [i_lt, i_le, i_eq, l_lt, l_le, l_eq, i_0, i_m1, l_0, nI_tI, iI_tI, lI_tI, Int.not_lt, Int.not_le] at c_6
    refine Wp.aload_n dX12_ran_19 rfl (by first | exact Or.inr ⟨_, rfl⟩ | exact Or.inl rfl) rfl ?_
    refine Wp.dup dX12_ran_20 rfl rfl ?_
    refine Wp.get dX12_ran_21 fl_X12_265 hM.ob hP.nT rfl ?_
    refine Wp.iconst (v := (nI 1)) dX12_ran_24 (by decide) rfl ?_
    refine Wp.iadd dX12_ran_25 rfl ?_
    rw [nI_add1]
    refine Wp.put dX12_ran_26 fp_X12_265 hM.ob rfl rfl rfl ?_
    refine hM.put (k := 16) (by decide) ?_
    intro h26 V26 hM26 o26 e26 f26
    have out26 := (Out.rfl (x := x) (h := h)).trans o26
    exact Wp.vret dX12_ran_29 rfl (by
      refine ⟨rfl, _, _, _, hM26, ?_, out26, (f26 34 (by decide)).trans hm⟩
      refine hP.run f26 e26 (fun _ _ => rfl) (fun i hi hi2 => ?_)
      simp only [updN]
      have hi' : i < σ.nT + 1 := hi
      split
      · next e => omega
      · next e => exact hP.tr i (by omega) hi2)
  · try simp (disch := omega) only [nI_bit0, nI_bit1, Bool.not_eq_false, Bool.not_eq_true] at c_6
    try simp (disch := omega) only [i_lt, i_le, i_eq, l_lt, l_le, l_eq, i_0, i_m1, l_0, nI_tI, iI_tI, lI_tI, Int.not_lt, Int.not_le] at c_6
    refine Wp.aload_n dX12_ran_9 rfl (by first | exact Or.inr ⟨_, rfl⟩ | exact Or.inl rfl) rfl ?_
    refine Wp.get dX12_ran_10 fl_X12_45 hM.ob (hM.rf 15 (by decide)) rfl ?_
    refine Wp.aload_n dX12_ran_13 rfl (by first | exact Or.inr ⟨_, rfl⟩ | exact Or.inl rfl) rfl ?_
    refine Wp.get dX12_ran_14 fl_X12_265 hM.ob hP.nT rfl ?_
    refine Wp.iload_n dX12_ran_17 rfl rfl ?_
    refine Wp.iastore dX12_ran_18 (hM.ia 15 (by decide)) (nI_toInt (by omega)) (by show _ < 40; omega) rfl ?_
    refine hM.sti (k := 15) (by decide) ?_
    intro h18 G18 hM18 o18 e18 f18
    have out18 := (Out.rfl (x := x) (h := h)).trans o18
    refine Wp.aload_n dX12_ran_19 rfl (by first | exact Or.inr ⟨_, rfl⟩ | exact Or.inl rfl) rfl ?_
    refine Wp.dup dX12_ran_20 rfl rfl ?_
    refine Wp.get dX12_ran_21 fl_X12_265 hM18.ob hP.nT rfl ?_
    refine Wp.iconst (v := (nI 1)) dX12_ran_24 (by decide) rfl ?_
    refine Wp.iadd dX12_ran_25 rfl ?_
    rw [nI_add1]
    refine Wp.put dX12_ran_26 fp_X12_265 hM18.ob rfl rfl rfl ?_
    refine hM18.put (k := 16) (by decide) ?_
    intro h26 V26 hM26 o26 e26 f26
    have out26 := out18.trans o26
    exact Wp.vret dX12_ran_29 rfl (by
      refine ⟨rfl, _, _, _, hM26, ?_, out26, (f26 34 (by decide)).trans hm⟩
      refine hP.run f26 e26 (f18) (fun i hi hi2 => ?_)
      simp only [updN]
      have hi' : i < σ.nT + 1 := hi
      split
      · next e => rw [e18, e]; simp only [upd, if_true]
      · next e => rw [e18]; simp only [upd, if_neg e]; exact hP.tr i (by omega) hi2)
set_option maxHeartbeats 1000000 in
theorem c_X12_treeAsks {B : ev_B} {d x : Nat} {h : ev_H} {V : Nat → Value} {G : Nat → Nat → Int32} {Z : Nat → Nat → Int64} {σ : Sg} {m y : Int32} (hM : MH h x V G Z) (hP : PM σ V G Z) (hW : Wf σ) (hm : V 34 = .int m) (hn9 : σ.nT ≤ 900) {oo : Int32} (hd : 2 ≤ d) :
    Wp B d M_X12_treeAsks 0 [some (.ref x), some (.int (oo)), some (.int (y))] [] h (RA x h (σ.runs ((tAskR m y).1)) m (some (.int ((tAskR m y).2)))) := by
  refine Wp.aload_n dX12_treeAsks_0 rfl (by first | exact Or.inr ⟨_, rfl⟩ | exact Or.inl rfl) rfl ?_
  refine Wp.bipush (v := (nI 20)) dX12_treeAsks_1 (by decide) rfl ?_
  refine Wp.cV dX12_treeAsks_3 cv_X12_268 rfl (by omega) rfl (Nat.le_of_ble_eq_true rfl) (Nat.le_of_ble_eq_true rfl) hM.ob rfl (c_X12_ran (d := d - 1) (b := 20) hM hP hW hm (by omega)) ?_
  rintro _ h1 ⟨rfl, V1, G1, Z1, hM1, hP1, o1, hm1⟩
  dsimp only [Option.toList, List.drop, List.cons_append, List.nil_append]
  refine Wp.aload_n dX12_treeAsks_6 rfl (by first | exact Or.inr ⟨_, rfl⟩ | exact Or.inl rfl) rfl ?_
  refine Wp.bipush (v := (nI 10)) dX12_treeAsks_7 (by decide) rfl ?_
  refine Wp.cV dX12_treeAsks_9 cv_X12_268 rfl (by omega) rfl (Nat.le_of_ble_eq_true rfl) (Nat.le_of_ble_eq_true rfl) hM1.ob rfl (c_X12_ran (d := d - 1) (b := 10) hM1 hP1 (hW.run (by omega)) hm1 (by show σ.nT + 1 ≤ 950; omega)) ?_
  rintro _ h2 ⟨rfl, V2, G2, Z2, hM2, hP2, o2, hm2⟩
  dsimp only [Option.toList, List.drop, List.cons_append, List.nil_append]
  have o2 := o1.trans o2
  refine Wp.iload_n dX12_treeAsks_12 rfl rfl ?_
  refine Wp.aload_n dX12_treeAsks_13 rfl (by first | exact Or.inr ⟨_, rfl⟩ | exact Or.inl rfl) rfl ?_
  refine Wp.get dX12_treeAsks_14 fl_X12_271 hM2.ob hm2 rfl ?_
  refine Wp.iadd dX12_treeAsks_17 rfl ?_
  refine Wp.iconst (v := (nI 5)) dX12_treeAsks_18 (by decide) rfl ?_
  refine Wp.ixor dX12_treeAsks_19 rfl ?_
  exact Wp.iret dX12_treeAsks_20 rfl (by refine ⟨rfl, V2, G2, Z2, hM2, ?_, o2, hm2⟩; exact hP2)
set_option maxHeartbeats 1000000 in
theorem c_X12_asks {B : ev_B} {d x : Nat} {h : ev_H} {V : Nat → Value} {G : Nat → Nat → Int32} {Z : Nat → Nat → Int64} {σ : Sg} {o : Nat} {m y : Int32} (hM : MH h x V G Z) (hP : PM σ V G Z) (hW : Wf σ) (hm : V 34 = .int m) (hn9 : σ.nT ≤ 890) (ho : o < σ.n) (hd : 3 ≤ d) :
    Wp B d M_X12_asks 0 [some (.ref x), some (.int (nI o)), some (.int (y))] [] h (RA x h (σ.runs (askR (σ.O o).k o m y).1) m (some (.int (askR (σ.O o).k o m y).2))) := by
  have hn := hW.n
  have hO := hP.of o ho
  have hOw := hW.of o ho
  have hk3 := hOw.k
  have hkk : (σ.O o).k = 0 ∨ (σ.O o).k = 1 ∨ (σ.O o).k = 2 ∨ (σ.O o).k = 3 := by omega
  rcases hkk with hk | hk | hk | hk
  · refine Wp.aload_n dX12_asks_0 rfl (by first | exact Or.inr ⟨_, rfl⟩ | exact Or.inl rfl) rfl ?_
    refine Wp.get dX12_asks_1 fl_X12_16 hM.ob (hM.rf 4 (by decide)) rfl ?_
    refine Wp.iload_n dX12_asks_4 rfl rfl ?_
    refine Wp.iaload dX12_asks_5 (hM.ia 4 (by decide)) (nI_toInt (by omega)) (by show _ < 10; omega) rfl ?_
    rw [hO.k, hk]
    refine Wp.lsw (off := 48) (n := 54) dX12_asks_6 (by decide) (by decide) (by decide) ?_
    refine Wp.aload_n dX12_asks_54 rfl (by first | exact Or.inr ⟨_, rfl⟩ | exact Or.inl rfl) rfl ?_
    refine Wp.bipush (v := (nI 10)) dX12_asks_55 (by decide) rfl ?_
    refine Wp.cV dX12_asks_57 cv_X12_268 rfl (by omega) rfl (Nat.le_of_ble_eq_true rfl) (Nat.le_of_ble_eq_true rfl) hM.ob rfl (c_X12_ran (d := d - 1) (b := 10) hM hP hW hm (by omega)) ?_
    rintro _ h1 ⟨rfl, V1, G1, Z1, hM1, hP1, o1, hm1⟩
    dsimp only [Option.toList, List.drop, List.cons_append, List.nil_append]
    refine Wp.iload_n dX12_asks_60 rfl rfl ?_
    refine Wp.aload_n dX12_asks_61 rfl (by first | exact Or.inr ⟨_, rfl⟩ | exact Or.inl rfl) rfl ?_
    refine Wp.get dX12_asks_62 fl_X12_271 hM1.ob hm1 rfl ?_
    refine Wp.iadd dX12_asks_65 rfl ?_
    exact Wp.iret dX12_asks_66 rfl (by rw [askR]; exact ⟨rfl, V1, G1, Z1, hM1, hP1, o1, hm1⟩)
  · refine Wp.aload_n dX12_asks_0 rfl (by first | exact Or.inr ⟨_, rfl⟩ | exact Or.inl rfl) rfl ?_
    refine Wp.get dX12_asks_1 fl_X12_16 hM.ob (hM.rf 4 (by decide)) rfl ?_
    refine Wp.iload_n dX12_asks_4 rfl rfl ?_
    refine Wp.iaload dX12_asks_5 (hM.ia 4 (by decide)) (nI_toInt (by omega)) (by show _ < 10; omega) rfl ?_
    rw [hO.k, hk]
    refine Wp.lsw (off := 26) (n := 32) dX12_asks_6 (by decide) (by decide) (by decide) ?_
    refine Wp.aload_n dX12_asks_32 rfl (by first | exact Or.inr ⟨_, rfl⟩ | exact Or.inl rfl) rfl ?_
    refine Wp.iload_n dX12_asks_33 rfl rfl ?_
    refine Wp.iload_n dX12_asks_34 rfl rfl ?_
    refine Wp.cV dX12_asks_35 cv_X12_274 rfl (by omega) rfl (Nat.le_of_ble_eq_true rfl) (Nat.le_of_ble_eq_true rfl) hM.ob rfl (c_X12_treeAsks (d := d - 1) (σ := σ)  hM hP hW hm (by omega) (by omega)) ?_
    rintro _ h1 ⟨rfl, V1, G1, Z1, hM1, hP1, o1, hm1⟩
    dsimp only [Option.toList, List.drop, List.cons_append, List.nil_append]
    exact Wp.iret dX12_asks_38 rfl (by rw [askR]; exact ⟨rfl, V1, G1, Z1, hM1, hP1, o1, hm1⟩)
  · refine Wp.aload_n dX12_asks_0 rfl (by first | exact Or.inr ⟨_, rfl⟩ | exact Or.inl rfl) rfl ?_
    refine Wp.get dX12_asks_1 fl_X12_16 hM.ob (hM.rf 4 (by decide)) rfl ?_
    refine Wp.iload_n dX12_asks_4 rfl rfl ?_
    refine Wp.iaload dX12_asks_5 (hM.ia 4 (by decide)) (nI_toInt (by omega)) (by show _ < 10; omega) rfl ?_
    rw [hO.k, hk]
    refine Wp.lsw (off := 48) (n := 54) dX12_asks_6 (by decide) (by decide) (by decide) ?_
    refine Wp.aload_n dX12_asks_54 rfl (by first | exact Or.inr ⟨_, rfl⟩ | exact Or.inl rfl) rfl ?_
    refine Wp.bipush (v := (nI 10)) dX12_asks_55 (by decide) rfl ?_
    refine Wp.cV dX12_asks_57 cv_X12_268 rfl (by omega) rfl (Nat.le_of_ble_eq_true rfl) (Nat.le_of_ble_eq_true rfl) hM.ob rfl (c_X12_ran (d := d - 1) (b := 10) hM hP hW hm (by omega)) ?_
    rintro _ h1 ⟨rfl, V1, G1, Z1, hM1, hP1, o1, hm1⟩
    dsimp only [Option.toList, List.drop, List.cons_append, List.nil_append]
    refine Wp.iload_n dX12_asks_60 rfl rfl ?_
    refine Wp.aload_n dX12_asks_61 rfl (by first | exact Or.inr ⟨_, rfl⟩ | exact Or.inl rfl) rfl ?_
    refine Wp.get dX12_asks_62 fl_X12_271 hM1.ob hm1 rfl ?_
    refine Wp.iadd dX12_asks_65 rfl ?_
    exact Wp.iret dX12_asks_66 rfl (by rw [askR]; exact ⟨rfl, V1, G1, Z1, hM1, hP1, o1, hm1⟩)
  · refine Wp.aload_n dX12_asks_0 rfl (by first | exact Or.inr ⟨_, rfl⟩ | exact Or.inl rfl) rfl ?_
    refine Wp.get dX12_asks_1 fl_X12_16 hM.ob (hM.rf 4 (by decide)) rfl ?_
    refine Wp.iload_n dX12_asks_4 rfl rfl ?_
    refine Wp.iaload dX12_asks_5 (hM.ia 4 (by decide)) (nI_toInt (by omega)) (by show _ < 10; omega) rfl ?_
    rw [hO.k, hk]
    refine Wp.lsw (off := 33) (n := 39) dX12_asks_6 (by decide) (by decide) (by decide) ?_
    refine Wp.aload_n dX12_asks_39 rfl (by first | exact Or.inr ⟨_, rfl⟩ | exact Or.inl rfl) rfl ?_
    refine Wp.bipush (v := (nI 40)) dX12_asks_40 (by decide) rfl ?_
    refine Wp.cV dX12_asks_42 cv_X12_268 rfl (by omega) rfl (Nat.le_of_ble_eq_true rfl) (Nat.le_of_ble_eq_true rfl) hM.ob rfl (c_X12_ran (d := d - 1) (b := 40) hM hP hW hm (by omega)) ?_
    rintro _ h1 ⟨rfl, V1, G1, Z1, hM1, hP1, o1, hm1⟩
    dsimp only [Option.toList, List.drop, List.cons_append, List.nil_append]
    refine Wp.aload_n dX12_asks_45 rfl (by first | exact Or.inr ⟨_, rfl⟩ | exact Or.inl rfl) rfl ?_
    refine Wp.iload_n dX12_asks_46 rfl rfl ?_
    refine Wp.iload_n dX12_asks_47 rfl rfl ?_
    refine Wp.cV dX12_asks_48 cv_X12_274 rfl (by omega) rfl (Nat.le_of_ble_eq_true rfl) (Nat.le_of_ble_eq_true rfl) hM1.ob rfl (c_X12_treeAsks (d := d - 1) (σ := (σ.run 40))  hM1 hP1 (hW.run (by omega)) hm1 (by show σ.nT + 1 ≤ 900; omega) (by omega)) ?_
    rintro _ h2 ⟨rfl, V2, G2, Z2, hM2, hP2, o2, hm2⟩
    dsimp only [Option.toList, List.drop, List.cons_append, List.nil_append]
    have o2 := o1.trans o2
    refine Wp.iload_n dX12_asks_51 rfl rfl ?_
    refine Wp.iadd dX12_asks_52 rfl ?_
    exact Wp.iret dX12_asks_53 rfl (by rw [askR]; exact ⟨rfl, V2, G2, Z2, hM2, hP2, o2, hm2⟩)
set_option maxHeartbeats 1000000 in
theorem c_X12_toldShows {B : ev_B} {d x : Nat} {h : ev_H} {V : Nat → Value} {G : Nat → Nat → Int32} {Z : Nat → Nat → Int64} {σ : Sg} {o : Nat} {m y : Int32} (hM : MH h x V G Z) (hP : PM σ V G Z) (hW : Wf σ) (hm : V 34 = .int m) (hn9 : σ.nT ≤ 880) (ho : o < σ.n) (hd : 4 ≤ d) :
    Wp B d M_X12_toldShows 0 [some (.ref x), some (.int (nI o)), some (.int (y))] [] h (RA x h (σ.runs (tShoR (σ.O o).k o m y).1) m (some (.int (tShoR (σ.O o).k o m y).2))) := by
  refine Wp.aload_n dX12_toldShows_0 rfl (by first | exact Or.inr ⟨_, rfl⟩ | exact Or.inl rfl) rfl ?_
  refine Wp.bipush (v := (nI 11)) dX12_toldShows_1 (by decide) rfl ?_
  refine Wp.cV dX12_toldShows_3 cv_X12_268 rfl (by omega) rfl (Nat.le_of_ble_eq_true rfl) (Nat.le_of_ble_eq_true rfl) hM.ob rfl (c_X12_ran (d := d - 1) (b := 11) hM hP hW hm (by omega)) ?_
  rintro _ h1 ⟨rfl, V1, G1, Z1, hM1, hP1, o1, hm1⟩
  dsimp only [Option.toList, List.drop, List.cons_append, List.nil_append]
  refine Wp.aload_n dX12_toldShows_6 rfl (by first | exact Or.inr ⟨_, rfl⟩ | exact Or.inl rfl) rfl ?_
  refine Wp.iload_n dX12_toldShows_7 rfl rfl ?_
  refine Wp.iload_n dX12_toldShows_8 rfl rfl ?_
  refine Wp.cV dX12_toldShows_9 cv_X12_278 rfl (by omega) rfl (Nat.le_of_ble_eq_true rfl) (Nat.le_of_ble_eq_true rfl) hM1.ob rfl (c_X12_asks (d := d - 1) (σ := (σ.run 11)) (o := o) hM1 hP1 (hW.run (by omega)) hm1 (by show σ.nT + 1 ≤ 890; omega) ho (by omega)) ?_
  rintro _ h2 ⟨rfl, V2, G2, Z2, hM2, hP2, o2, hm2⟩
  dsimp only [Option.toList, List.drop, List.cons_append, List.nil_append]
  have o2 := o1.trans o2
  refine Wp.iconst (v := (nI 3)) dX12_toldShows_12 (by decide) rfl ?_
  refine Wp.imul dX12_toldShows_13 rfl ?_
  exact Wp.iret dX12_toldShows_14 rfl (by exact ⟨rfl, V2, G2, Z2, hM2, hP2, o2, hm2⟩)
set_option maxHeartbeats 1000000 in
theorem c_X12_shows {B : ev_B} {d x : Nat} {h : ev_H} {V : Nat → Value} {G : Nat → Nat → Int32} {Z : Nat → Nat → Int64} {σ : Sg} {o : Nat} {m y : Int32} (hM : MH h x V G Z) (hP : PM σ V G Z) (hW : Wf σ) (hm : V 34 = .int m) (hn9 : σ.nT ≤ 800) (ho : o < σ.n) (hd : 5 ≤ d) :
    Wp B d M_X12_shows 0 [some (.ref x), some (.int (nI o)), some (.int (y)), none] [] h (RA x h (σ.runs (shoR (σ.O o).k o m y).1) m (some (.int (shoR (σ.O o).k o m y).2))) := by
  have hn := hW.n
  have hO := hP.of o ho
  have hOw := hW.of o ho
  have hk3 := hOw.k
  have hkk : (σ.O o).k = 0 ∨ (σ.O o).k = 1 ∨ (σ.O o).k = 2 ∨ (σ.O o).k = 3 := by omega
  rcases hkk with hk | hk | hk | hk
  · refine Wp.aload_n dX12_shows_0 rfl (by first | exact Or.inr ⟨_, rfl⟩ | exact Or.inl rfl) rfl ?_
    refine Wp.get dX12_shows_1 fl_X12_16 hM.ob (hM.rf 4 (by decide)) rfl ?_
    refine Wp.iload_n dX12_shows_4 rfl rfl ?_
    refine Wp.iaload dX12_shows_5 (hM.ia 4 (by decide)) (nI_toInt (by omega)) (by show _ < 10; omega) rfl ?_
    rw [hO.k, hk]
    refine Wp.lsw (off := 65) (n := 71) dX12_shows_6 (by decide) (by decide) (by decide) ?_
    refine Wp.aload_n dX12_shows_71 rfl (by first | exact Or.inr ⟨_, rfl⟩ | exact Or.inl rfl) rfl ?_
    refine Wp.iload_n dX12_shows_72 rfl rfl ?_
    refine Wp.iload_n dX12_shows_73 rfl rfl ?_
    refine Wp.cV dX12_shows_74 cv_X12_281 rfl (by omega) rfl (Nat.le_of_ble_eq_true rfl) (Nat.le_of_ble_eq_true rfl) hM.ob rfl (c_X12_toldShows (d := d - 1) (σ := σ) (o := o) hM hP hW hm (by omega) ho (by omega)) ?_
    rintro _ h1 ⟨rfl, V1, G1, Z1, hM1, hP1, o1, hm1⟩
    dsimp only [Option.toList, List.drop, List.cons_append, List.nil_append]
    exact Wp.iret dX12_shows_77 rfl (by rw [shoR]; exact ⟨by rw [hk]; rfl, V1, G1, Z1, hM1, (by have e_ := hP1; rw [hk] at e_; exact e_), o1, hm1⟩)
  · refine Wp.aload_n dX12_shows_0 rfl (by first | exact Or.inr ⟨_, rfl⟩ | exact Or.inl rfl) rfl ?_
    refine Wp.get dX12_shows_1 fl_X12_16 hM.ob (hM.rf 4 (by decide)) rfl ?_
    refine Wp.iload_n dX12_shows_4 rfl rfl ?_
    refine Wp.iaload dX12_shows_5 (hM.ia 4 (by decide)) (nI_toInt (by omega)) (by show _ < 10; omega) rfl ?_
    rw [hO.k, hk]
    refine Wp.lsw (off := 65) (n := 71) dX12_shows_6 (by decide) (by decide) (by decide) ?_
    refine Wp.aload_n dX12_shows_71 rfl (by first | exact Or.inr ⟨_, rfl⟩ | exact Or.inl rfl) rfl ?_
    refine Wp.iload_n dX12_shows_72 rfl rfl ?_
    refine Wp.iload_n dX12_shows_73 rfl rfl ?_
    refine Wp.cV dX12_shows_74 cv_X12_281 rfl (by omega) rfl (Nat.le_of_ble_eq_true rfl) (Nat.le_of_ble_eq_true rfl) hM.ob rfl (c_X12_toldShows (d := d - 1) (σ := σ) (o := o) hM hP hW hm (by omega) ho (by omega)) ?_
    rintro _ h1 ⟨rfl, V1, G1, Z1, hM1, hP1, o1, hm1⟩
    dsimp only [Option.toList, List.drop, List.cons_append, List.nil_append]
    exact Wp.iret dX12_shows_77 rfl (by rw [shoR]; exact ⟨by rw [hk]; rfl, V1, G1, Z1, hM1, (by have e_ := hP1; rw [hk] at e_; exact e_), o1, hm1⟩)
  · refine Wp.aload_n dX12_shows_0 rfl (by first | exact Or.inr ⟨_, rfl⟩ | exact Or.inl rfl) rfl ?_
    refine Wp.get dX12_shows_1 fl_X12_16 hM.ob (hM.rf 4 (by decide)) rfl ?_
    refine Wp.iload_n dX12_shows_4 rfl rfl ?_
    refine Wp.iaload dX12_shows_5 (hM.ia 4 (by decide)) (nI_toInt (by omega)) (by show _ < 10; omega) rfl ?_
    rw [hO.k, hk]
    refine Wp.lsw (off := 26) (n := 32) dX12_shows_6 (by decide) (by decide) (by decide) ?_
    refine Wp.aload_n dX12_shows_32 rfl (by first | exact Or.inr ⟨_, rfl⟩ | exact Or.inl rfl) rfl ?_
    refine Wp.bipush (v := (nI 30)) dX12_shows_33 (by decide) rfl ?_
    refine Wp.cV dX12_shows_35 cv_X12_268 rfl (by omega) rfl (Nat.le_of_ble_eq_true rfl) (Nat.le_of_ble_eq_true rfl) hM.ob rfl (c_X12_ran (d := d - 1) (b := 30) hM hP hW hm (by omega)) ?_
    rintro _ h1 ⟨rfl, V1, G1, Z1, hM1, hP1, o1, hm1⟩
    dsimp only [Option.toList, List.drop, List.cons_append, List.nil_append]
    refine Wp.aload_n dX12_shows_38 rfl (by first | exact Or.inr ⟨_, rfl⟩ | exact Or.inl rfl) rfl ?_
    refine Wp.iload_n dX12_shows_39 rfl rfl ?_
    refine Wp.iload_n dX12_shows_40 rfl rfl ?_
    refine Wp.iconst (v := (nI 1)) dX12_shows_41 (by decide) rfl ?_
    refine Wp.isub dX12_shows_42 rfl ?_
    refine Wp.cV dX12_shows_43 cv_X12_281 rfl (by omega) rfl (Nat.le_of_ble_eq_true rfl) (Nat.le_of_ble_eq_true rfl) hM1.ob rfl (c_X12_toldShows (d := d - 1) (σ := (σ.run 30)) (o := o) hM1 hP1 (hW.run (by omega)) hm1 (by show σ.nT + 1 ≤ 880; omega) ho (by omega)) ?_
    rintro _ h2 ⟨rfl, V2, G2, Z2, hM2, hP2, o2, hm2⟩
    dsimp only [Option.toList, List.drop, List.cons_append, List.nil_append]
    have o2 := o1.trans o2
    refine Wp.iconst (v := (nI 2)) dX12_shows_46 (by decide) rfl ?_
    refine Wp.imul dX12_shows_47 rfl ?_
    exact Wp.iret dX12_shows_48 rfl (by rw [shoR]; exact ⟨by rw [show ((σ.run 30).O o).k = 2 from hk]; rfl, V2, G2, Z2, hM2, (by have e_ := hP2; rw [show ((σ.run 30).O o).k = 2 from hk] at e_; exact e_), o2, hm2⟩)
  · refine Wp.aload_n dX12_shows_0 rfl (by first | exact Or.inr ⟨_, rfl⟩ | exact Or.inl rfl) rfl ?_
    refine Wp.get dX12_shows_1 fl_X12_16 hM.ob (hM.rf 4 (by decide)) rfl ?_
    refine Wp.iload_n dX12_shows_4 rfl rfl ?_
    refine Wp.iaload dX12_shows_5 (hM.ia 4 (by decide)) (nI_toInt (by omega)) (by show _ < 10; omega) rfl ?_
    rw [hO.k, hk]
    refine Wp.lsw (off := 43) (n := 49) dX12_shows_6 (by decide) (by decide) (by decide) ?_
    refine Wp.aload_n dX12_shows_49 rfl (by first | exact Or.inr ⟨_, rfl⟩ | exact Or.inl rfl) rfl ?_
    refine Wp.bipush (v := (nI 41)) dX12_shows_50 (by decide) rfl ?_
    refine Wp.cV dX12_shows_52 cv_X12_268 rfl (by omega) rfl (Nat.le_of_ble_eq_true rfl) (Nat.le_of_ble_eq_true rfl) hM.ob rfl (c_X12_ran (d := d - 1) (b := 41) hM hP hW hm (by omega)) ?_
    rintro _ h1 ⟨rfl, V1, G1, Z1, hM1, hP1, o1, hm1⟩
    dsimp only [Option.toList, List.drop, List.cons_append, List.nil_append]
    refine Wp.aload_n dX12_shows_55 rfl (by first | exact Or.inr ⟨_, rfl⟩ | exact Or.inl rfl) rfl ?_
    refine Wp.iload_n dX12_shows_56 rfl rfl ?_
    refine Wp.iload_n dX12_shows_57 rfl rfl ?_
    refine Wp.cV dX12_shows_58 cv_X12_281 rfl (by omega) rfl (Nat.le_of_ble_eq_true rfl) (Nat.le_of_ble_eq_true rfl) hM1.ob rfl (c_X12_toldShows (d := d - 1) (σ := (σ.run 41)) (o := o) hM1 hP1 (hW.run (by omega)) hm1 (by show σ.nT + 1 ≤ 880; omega) ho (by omega)) ?_
    rintro _ h2 ⟨rfl, V2, G2, Z2, hM2, hP2, o2, hm2⟩
    dsimp only [Option.toList, List.drop, List.cons_append, List.nil_append]
    have o2 := o1.trans o2
    rw [show ((σ.run 41).O o).k = 3 from hk] at hP2
    rw [show ((σ.run 41).O o).k = 3 from hk]
    have hl2 := tShoR_len 3 o m y
    refine Wp.istore_n dX12_shows_61 (Nat.le_of_ble_eq_true rfl) (by dsimp only [ev_st1, ev_st2, ev_cl] <;> rfl) rfl ?_
    refine Wp.iload_n dX12_shows_62 rfl rfl ?_
    refine Wp.aload_n dX12_shows_63 rfl (by first | exact Or.inr ⟨_, rfl⟩ | exact Or.inl rfl) rfl ?_
    refine Wp.iload_n dX12_shows_64 rfl rfl ?_
    refine Wp.iload_n dX12_shows_65 rfl rfl ?_
    refine Wp.cV dX12_shows_66 cv_X12_274 rfl (by omega) rfl (Nat.le_of_ble_eq_true rfl) (Nat.le_of_ble_eq_true rfl) hM2.ob rfl (c_X12_treeAsks (d := d - 1) (σ := ((σ.run 41).runs (tShoR 3 o m y).1))  hM2 hP2 (Wf.runs (hW.run (by omega)) _ (by show σ.nT + 1 + _ ≤ 1000; omega)) hm2 (by rw [runs_nT]; show σ.nT + 1 + _ ≤ 900; omega) (by omega)) ?_
    rintro _ h3 ⟨rfl, V3, G3, Z3, hM3, hP3, o3, hm3⟩
    dsimp only [Option.toList, List.drop, List.cons_append, List.nil_append]
    have o3 := o2.trans o3
    refine Wp.isub dX12_shows_69 rfl ?_
    exact Wp.iret dX12_shows_70 rfl (by rw [shoR]; exact ⟨rfl, V3, G3, Z3, hM3, (by have e_ := hP3; rw [runs_app, runs_c] at e_; exact e_), o3, hm3⟩)
set_option maxHeartbeats 1000000 in
theorem c_X12_toldTurns {B : ev_B} {d x : Nat} {h : ev_H} {V : Nat → Value} {G : Nat → Nat → Int32} {Z : Nat → Nat → Int64} {σ : Sg} {o : Nat} {m y : Int32} (hM : MH h x V G Z) (hP : PM σ V G Z) (hW : Wf σ) (hm : V 34 = .int m) (hn9 : σ.nT ≤ 700) (ho : o < σ.n) (hd : 6 ≤ d) :
    Wp B d M_X12_toldTurns 0 [some (.ref x), some (.int (nI o)), some (.int (y)), none] [] h (RA x h (σ.runs (tTurR (σ.O o).k o m y).1) m (some (.int (tTurR (σ.O o).k o m y).2))) := by
  have hl2 := shoR_len (σ.O o).k o m y
  refine Wp.aload_n dX12_toldTurns_0 rfl (by first | exact Or.inr ⟨_, rfl⟩ | exact Or.inl rfl) rfl ?_
  refine Wp.bipush (v := (nI 12)) dX12_toldTurns_1 (by decide) rfl ?_
  refine Wp.cV dX12_toldTurns_3 cv_X12_268 rfl (by omega) rfl (Nat.le_of_ble_eq_true rfl) (Nat.le_of_ble_eq_true rfl) hM.ob rfl (c_X12_ran (d := d - 1) (b := 12) hM hP hW hm (by omega)) ?_
  rintro _ h1 ⟨rfl, V1, G1, Z1, hM1, hP1, o1, hm1⟩
  dsimp only [Option.toList, List.drop, List.cons_append, List.nil_append]
  refine Wp.aload_n dX12_toldTurns_6 rfl (by first | exact Or.inr ⟨_, rfl⟩ | exact Or.inl rfl) rfl ?_
  refine Wp.iload_n dX12_toldTurns_7 rfl rfl ?_
  refine Wp.iload_n dX12_toldTurns_8 rfl rfl ?_
  refine Wp.cV dX12_toldTurns_9 cv_X12_284 rfl (by omega) rfl (Nat.le_of_ble_eq_true rfl) (Nat.le_of_ble_eq_true rfl) hM1.ob rfl (c_X12_shows (d := d - 1) (σ := (σ.run 12)) (o := o) hM1 hP1 (hW.run (by omega)) hm1 (by show σ.nT + 1 ≤ 800; omega) ho (by omega)) ?_
  rintro _ h2 ⟨rfl, V2, G2, Z2, hM2, hP2, o2, hm2⟩
  dsimp only [Option.toList, List.drop, List.cons_append, List.nil_append]
  have o2 := o1.trans o2
  rw [show (σ.run 12).O = σ.O from rfl] at hP2
  rw [show (σ.run 12).O = σ.O from rfl]
  refine Wp.istore_n dX12_toldTurns_12 (Nat.le_of_ble_eq_true rfl) (by dsimp only [ev_st1, ev_st2, ev_cl] <;> rfl) rfl ?_
  refine Wp.iload_n dX12_toldTurns_13 rfl rfl ?_
  refine Wp.aload_n dX12_toldTurns_14 rfl (by first | exact Or.inr ⟨_, rfl⟩ | exact Or.inl rfl) rfl ?_
  refine Wp.iload_n dX12_toldTurns_15 rfl rfl ?_
  refine Wp.iload_n dX12_toldTurns_16 rfl rfl ?_
  refine Wp.iload_n dX12_toldTurns_17 rfl rfl ?_
  refine Wp.iadd dX12_toldTurns_18 rfl ?_
  refine Wp.cV dX12_toldTurns_19 cv_X12_278 rfl (by omega) rfl (Nat.le_of_ble_eq_true rfl) (Nat.le_of_ble_eq_true rfl) hM2.ob rfl (c_X12_asks (d := d - 1) (σ := ((σ.run 12).runs (shoR (σ.O o).k o m y).1)) (o := o) hM2 hP2 (Wf.runs (hW.run (by omega)) _ (by show σ.nT + 1 + _ ≤ 1000; omega)) hm2 (by rw [runs_nT]; show σ.nT + 1 + _ ≤ 890; omega) (by rw [(runs_O _ _).2.1]; exact ho) (by omega)) ?_
  rintro _ h3 ⟨rfl, V3, G3, Z3, hM3, hP3, o3, hm3⟩
  dsimp only [Option.toList, List.drop, List.cons_append, List.nil_append]
  have o3 := o2.trans o3
  rw [(runs_O _ _).1, show (σ.run 12).O = σ.O from rfl, runs_app, runs_c] at hP3
  rw [(runs_O _ _).1, show (σ.run 12).O = σ.O from rfl]
  refine Wp.isub dX12_toldTurns_22 rfl ?_
  exact Wp.iret dX12_toldTurns_23 rfl (by exact ⟨rfl, V3, G3, Z3, hM3, hP3, o3, hm3⟩)
set_option maxHeartbeats 1000000 in
theorem c_X12_turns {B : ev_B} {d x : Nat} {h : ev_H} {V : Nat → Value} {G : Nat → Nat → Int32} {Z : Nat → Nat → Int64} {σ : Sg} {o : Nat} {m y : Int32} (hM : MH h x V G Z) (hP : PM σ V G Z) (hW : Wf σ) (hm : V 34 = .int m) (hn9 : σ.nT ≤ 600) (ho : o < σ.n) (hd : 7 ≤ d) :
    Wp B d M_X12_turns 0 [some (.ref x), some (.int (nI o)), some (.int (y)), none] [] h (RA x h (σ.runs (turR (σ.O o).k o m y).1) m (some (.int (turR (σ.O o).k o m y).2))) := by
  have hn := hW.n
  have hT := hW.net.1
  have hL := hW.net.2.1
  have hn := hW.n
  have hO := hP.of o ho
  have hOw := hW.of o ho
  have hk3 := hOw.k
  have hl2 := tTurR_len (σ.O o).k o m y
  refine Wp.aload_n dX12_turns_0 rfl (by first | exact Or.inr ⟨_, rfl⟩ | exact Or.inl rfl) rfl ?_
  refine Wp.get dX12_turns_1 fl_X12_16 hM.ob (hM.rf 4 (by decide)) rfl ?_
  refine Wp.iload_n dX12_turns_4 rfl rfl ?_
  refine Wp.iaload dX12_turns_5 (hM.ia 4 (by decide)) (nI_toInt (by omega)) (by show _ < 10; omega) rfl ?_
  rw [hO.k]
  refine Wp.iconst (v := (nI 1)) dX12_turns_6 (by decide) rfl ?_
  refine Wp.icmp_eq (tgt := 20) (n := 10) dX12_turns_7 (by decide) rfl (fun c_7 => ?_) (fun c_7 => ?_)
  · try simp (disch := omega) only [nI_bit0, nI_bit1, Bool.not_eq_false, Bool.not_eq_true] at c_7
    try simp (disch := omega) only [i_lt, i_le, i_eq, l_lt, l_le, l_eq, i_0, i_m1, l_0, nI_tI, iI_tI, lI_tI, Int.not_lt, Int.not_le] at c_7
    have hk : (σ.O o).k = 1 ∨ (σ.O o).k = 3 := by omega
    refine Wp.aload_n dX12_turns_20 rfl (by first | exact Or.inr ⟨_, rfl⟩ | exact Or.inl rfl) rfl ?_
    refine Wp.bipush (v := (nI 21)) dX12_turns_21 (by decide) rfl ?_
    refine Wp.cV dX12_turns_23 cv_X12_268 rfl (by omega) rfl (Nat.le_of_ble_eq_true rfl) (Nat.le_of_ble_eq_true rfl) hM.ob rfl (c_X12_ran (d := d - 1) (b := 21) hM hP hW hm (by omega)) ?_
    rintro _ h1 ⟨rfl, V1, G1, Z1, hM1, hP1, o1, hm1⟩
    dsimp only [Option.toList, List.drop, List.cons_append, List.nil_append]
    refine Wp.aload_n dX12_turns_26 rfl (by first | exact Or.inr ⟨_, rfl⟩ | exact Or.inl rfl) rfl ?_
    refine Wp.iload_n dX12_turns_27 rfl rfl ?_
    refine Wp.iload_n dX12_turns_28 rfl rfl ?_
    refine Wp.cV dX12_turns_29 cv_X12_287 rfl (by omega) rfl (Nat.le_of_ble_eq_true rfl) (Nat.le_of_ble_eq_true rfl) hM1.ob rfl (c_X12_toldTurns (d := d - 1) (σ := (σ.run 21)) (o := o) hM1 hP1 (hW.run (by omega)) hm1 (by show σ.nT + 1 ≤ 700; omega) ho (by omega)) ?_
    rintro _ h2 ⟨rfl, V2, G2, Z2, hM2, hP2, o2, hm2⟩
    dsimp only [Option.toList, List.drop, List.cons_append, List.nil_append]
    have o2 := o1.trans o2
    rw [show (σ.run 21).O = σ.O from rfl] at hP2
    rw [show (σ.run 21).O = σ.O from rfl]
    refine Wp.istore_n dX12_turns_32 (Nat.le_of_ble_eq_true rfl) (by dsimp only [ev_st1, ev_st2, ev_cl] <;> rfl) rfl ?_
    refine Wp.iload_n dX12_turns_33 rfl rfl ?_
    refine Wp.aload_n dX12_turns_34 rfl (by first | exact Or.inr ⟨_, rfl⟩ | exact Or.inl rfl) rfl ?_
    refine Wp.iload_n dX12_turns_35 rfl rfl ?_
    refine Wp.iconst (v := (nI 0)) dX12_turns_36 (by decide) rfl ?_
    refine Wp.cV dX12_turns_37 cv_X12_278 rfl (by omega) rfl (Nat.le_of_ble_eq_true rfl) (Nat.le_of_ble_eq_true rfl) hM2.ob rfl (c_X12_asks (d := d - 1) (σ := ((σ.run 21).runs (tTurR (σ.O o).k o m y).1)) (o := o) hM2 hP2 (Wf.runs (hW.run (by omega)) _ (by show σ.nT + 1 + _ ≤ 1000; omega)) hm2 (by rw [runs_nT]; show σ.nT + 1 + _ ≤ 890; omega) (by rw [(runs_O _ _).2.1]; exact ho) (by omega)) ?_
    rintro _ h3 ⟨rfl, V3, G3, Z3, hM3, hP3, o3, hm3⟩
    dsimp only [Option.toList, List.drop, List.cons_append, List.nil_append]
    have o3 := o2.trans o3
    rw [(runs_O _ _).1, show (σ.run 21).O = σ.O from rfl, runs_app, runs_c] at hP3
    rw [(runs_O _ _).1, show (σ.run 21).O = σ.O from rfl]
    refine Wp.iadd dX12_turns_40 rfl ?_
    exact Wp.iret dX12_turns_41 rfl (by rw [turR, if_pos hk]; exact ⟨rfl, V3, G3, Z3, hM3, hP3, o3, hm3⟩)
  · try simp (disch := omega) only [nI_bit0, nI_bit1, Bool.not_eq_false, Bool.not_eq_true] at c_7
    try simp (disch := omega) only [i_lt, i_le, i_eq, l_lt, l_le, l_eq, i_0, i_m1, l_0, nI_tI, iI_tI, lI_tI, Int.not_lt, Int.not_le] at c_7
    refine Wp.aload_n dX12_turns_10 rfl (by first | exact Or.inr ⟨_, rfl⟩ | exact Or.inl rfl) rfl ?_
    refine Wp.get dX12_turns_11 fl_X12_16 hM.ob (hM.rf 4 (by decide)) rfl ?_
    refine Wp.iload_n dX12_turns_14 rfl rfl ?_
    refine Wp.iaload dX12_turns_15 (hM.ia 4 (by decide)) (nI_toInt (by omega)) (by show _ < 10; omega) rfl ?_
    rw [hO.k]
    refine Wp.iconst (v := (nI 3)) dX12_turns_16 (by decide) rfl ?_
    refine Wp.icmp_ne (tgt := 42) (n := 20) dX12_turns_17 (by decide) rfl (fun c_17 => ?_) (fun c_17 => ?_)
    · try simp (disch := omega) only [nI_bit0, nI_bit1, Bool.not_eq_false, Bool.not_eq_true] at c_17
      try simp (disch := omega) only [i_lt, i_le, i_eq, l_lt, l_le, l_eq, i_0, i_m1, l_0, nI_tI, iI_tI, lI_tI, Int.not_lt, Int.not_le] at c_17
      refine Wp.aload_n dX12_turns_42 rfl (by first | exact Or.inr ⟨_, rfl⟩ | exact Or.inl rfl) rfl ?_
      refine Wp.iload_n dX12_turns_43 rfl rfl ?_
      refine Wp.iload_n dX12_turns_44 rfl rfl ?_
      refine Wp.cV dX12_turns_45 cv_X12_287 rfl (by omega) rfl (Nat.le_of_ble_eq_true rfl) (Nat.le_of_ble_eq_true rfl) hM.ob rfl (c_X12_toldTurns (d := d - 1) (σ := σ) (o := o) hM hP hW hm (by omega) ho (by omega)) ?_
      rintro _ h1 ⟨rfl, V1, G1, Z1, hM1, hP1, o1, hm1⟩
      dsimp only [Option.toList, List.drop, List.cons_append, List.nil_append]
      exact Wp.iret dX12_turns_48 rfl (by rw [turR, if_neg (by omega)]; exact ⟨rfl, V1, G1, Z1, hM1, hP1, o1, hm1⟩)
    · try simp (disch := omega) only [nI_bit0, nI_bit1, Bool.not_eq_false, Bool.not_eq_true] at c_17
      try simp (disch := omega) only [i_lt, i_le, i_eq, l_lt, l_le, l_eq, i_0, i_m1, l_0, nI_tI, iI_tI, lI_tI, Int.not_lt, Int.not_le] at c_17
      have hk : (σ.O o).k = 1 ∨ (σ.O o).k = 3 := by omega
      refine Wp.aload_n dX12_turns_20 rfl (by first | exact Or.inr ⟨_, rfl⟩ | exact Or.inl rfl) rfl ?_
      refine Wp.bipush (v := (nI 21)) dX12_turns_21 (by decide) rfl ?_
      refine Wp.cV dX12_turns_23 cv_X12_268 rfl (by omega) rfl (Nat.le_of_ble_eq_true rfl) (Nat.le_of_ble_eq_true rfl) hM.ob rfl (c_X12_ran (d := d - 1) (b := 21) hM hP hW hm (by omega)) ?_
      rintro _ h1 ⟨rfl, V1, G1, Z1, hM1, hP1, o1, hm1⟩
      dsimp only [Option.toList, List.drop, List.cons_append, List.nil_append]
      refine Wp.aload_n dX12_turns_26 rfl (by first | exact Or.inr ⟨_, rfl⟩ | exact Or.inl rfl) rfl ?_
      refine Wp.iload_n dX12_turns_27 rfl rfl ?_
      refine Wp.iload_n dX12_turns_28 rfl rfl ?_
      refine Wp.cV dX12_turns_29 cv_X12_287 rfl (by omega) rfl (Nat.le_of_ble_eq_true rfl) (Nat.le_of_ble_eq_true rfl) hM1.ob rfl (c_X12_toldTurns (d := d - 1) (σ := (σ.run 21)) (o := o) hM1 hP1 (hW.run (by omega)) hm1 (by show σ.nT + 1 ≤ 700; omega) ho (by omega)) ?_
      rintro _ h2 ⟨rfl, V2, G2, Z2, hM2, hP2, o2, hm2⟩
      dsimp only [Option.toList, List.drop, List.cons_append, List.nil_append]
      have o2 := o1.trans o2
      rw [show (σ.run 21).O = σ.O from rfl] at hP2
      rw [show (σ.run 21).O = σ.O from rfl]
      refine Wp.istore_n dX12_turns_32 (Nat.le_of_ble_eq_true rfl) (by dsimp only [ev_st1, ev_st2, ev_cl] <;> rfl) rfl ?_
      refine Wp.iload_n dX12_turns_33 rfl rfl ?_
      refine Wp.aload_n dX12_turns_34 rfl (by first | exact Or.inr ⟨_, rfl⟩ | exact Or.inl rfl) rfl ?_
      refine Wp.iload_n dX12_turns_35 rfl rfl ?_
      refine Wp.iconst (v := (nI 0)) dX12_turns_36 (by decide) rfl ?_
      refine Wp.cV dX12_turns_37 cv_X12_278 rfl (by omega) rfl (Nat.le_of_ble_eq_true rfl) (Nat.le_of_ble_eq_true rfl) hM2.ob rfl (c_X12_asks (d := d - 1) (σ := ((σ.run 21).runs (tTurR (σ.O o).k o m y).1)) (o := o) hM2 hP2 (Wf.runs (hW.run (by omega)) _ (by show σ.nT + 1 + _ ≤ 1000; omega)) hm2 (by rw [runs_nT]; show σ.nT + 1 + _ ≤ 890; omega) (by rw [(runs_O _ _).2.1]; exact ho) (by omega)) ?_
      rintro _ h3 ⟨rfl, V3, G3, Z3, hM3, hP3, o3, hm3⟩
      dsimp only [Option.toList, List.drop, List.cons_append, List.nil_append]
      have o3 := o2.trans o3
      rw [(runs_O _ _).1, show (σ.run 21).O = σ.O from rfl, runs_app, runs_c] at hP3
      rw [(runs_O _ _).1, show (σ.run 21).O = σ.O from rfl]
      refine Wp.iadd dX12_turns_40 rfl ?_
      exact Wp.iret dX12_turns_41 rfl (by rw [turR, if_pos hk]; exact ⟨rfl, V3, G3, Z3, hM3, hP3, o3, hm3⟩)
set_option maxHeartbeats 2000000 in
theorem c_X12_act5 {B : ev_B} {d x : Nat} {h : ev_H} {V : Nat → Value} {G : Nat → Nat → Int32} {Z : Nat → Nat → Int64} {σ : Sg} {o a y : Int32} (hM : MH h x V G Z) (hP : PM σ V G Z) (hW : Wf σ) (h0 : σ.nT = 0) (hd : 8 ≤ d) :
    Wp B d M_X12_act 5 [some (.ref x), some (.int o), some (.int a), some (.int y)] [] h (RQ x h (t_act5 σ o a y) (.int (a_act σ o a y))) := by
  have hn := hW.n
  have hT := hW.net.1
  have hL := hW.net.2.1
  refine Wp.aload_n dX12_act_5 rfl (by first | exact Or.inr ⟨_, rfl⟩ | exact Or.inl rfl) rfl ?_
  refine Wp.iload_n dX12_act_6 rfl rfl ?_
  refine Wp.cV dX12_act_7 cv_X12_115 rfl (by omega) rfl (Nat.le_of_ble_eq_true rfl) (Nat.le_of_ble_eq_true rfl) hM.ob rfl (c_X12_isOffer (d := d - 1) hM hP hW (by omega)) ?_
  rintro _ h_ ⟨rfl, e_⟩
  rw [e_]
  clear e_ h_
  dsimp only [Option.toList, List.drop, List.cons_append, List.nil_append]
  refine Wp.bif_eq (tgt := 22) (n := 13) dX12_act_10 (by decide) rfl (fun c_10 => ?_) (fun c_10 => ?_)
  · try simp only [decide_eq_true_eq, decide_eq_false_iff_not, Bool.and_eq_true, bI_0, bI_n0] at c_10
    refine Wp.iconst (v := (nI 0)) dX12_act_22 (by decide) rfl ?_
    exact Wp.iret dX12_act_23 rfl (RQ.i (by simp (disch := omega) only [a_act, okL, okA, okWy, okPr, isO, okTl, okS, w01, okWn, okWh, isR, okF, nI_tI, iI_tI, tn_nI, nI_m1]; (repeat' split) <;> first | (exfalso; omega) | rfl) hM (by unfold t_act5; (repeat' split) <;> first | (exfalso; omega) | exact hP | (exfalso; (try simp (disch := omega) only [okL, okA, okWy, okPr, isO, okTl, okS, w01, okWn, okWh, isR, okF, nI_tI, tn_nI] at *); omega)) (Out.rfl (x := x) (h := h)))
  · try simp only [decide_eq_true_eq, decide_eq_false_iff_not, Bool.and_eq_true, bI_0, bI_n0] at c_10
    refine Wp.iload_n dX12_act_13 rfl rfl ?_
    refine Wp.iconst (v := (nI 0)) dX12_act_14 (by decide) rfl ?_
    refine Wp.iconst (v := (nI 2)) dX12_act_15 (by decide) rfl ?_
    refine Wp.cS dX12_act_16 cs_X12_85 rfl (by omega) rfl (Nat.le_of_ble_eq_true rfl) (Nat.le_of_ble_eq_true rfl) rfl (c_X12_in (d := d - 1)) ?_
    rintro _ h_ ⟨rfl, e_⟩
    rw [e_]
    clear e_ h_
    dsimp only [Option.toList, List.drop, List.cons_append, List.nil_append]
    try simp (disch := omega) only [nI_m1, nI_tI, i_0]
    refine Wp.bif_ne (tgt := 24) (n := 22) dX12_act_19 (by decide) rfl (fun c_19 => ?_) (fun c_19 => ?_)
    · try simp only [decide_eq_true_eq, decide_eq_false_iff_not, Bool.and_eq_true, bI_0, bI_n0] at c_19
      obtain ⟨i, rfl, ho, ho2⟩ := as_nI (show 0 ≤ o.toInt ∧ o.toInt < σ.n by omega)
      have hO := hP.of i ho
      have hOw := hW.of i ho
      obtain ⟨j, rfl, hj, hj2⟩ := as_nI (o := a) (n := 3) (by omega)
      refine Wp.aload_n dX12_act_24 rfl (by first | exact Or.inr ⟨_, rfl⟩ | exact Or.inl rfl) rfl ?_
      refine Wp.iload_n dX12_act_25 rfl rfl ?_
      refine Wp.cV dX12_act_26 cv_X12_168 rfl (by omega) rfl (Nat.le_of_ble_eq_true rfl) (Nat.le_of_ble_eq_true rfl) hM.ob rfl (c_X12_gathers (d := d - 1) hM hP hW ho (by omega)) ?_
      rintro _ h2 ⟨rfl, V2, G2, hM2, o2, k2, l1, l2⟩
      have hC2 := ChA.of l1 l2
      have hP2 := hP.kp k2
      dsimp only [Option.toList, List.drop, List.cons_append, List.nil_append]
      refine Wp.aload_n dX12_act_29 rfl (by first | exact Or.inr ⟨_, rfl⟩ | exact Or.inl rfl) rfl ?_
      refine Wp.aload_n dX12_act_30 rfl (by first | exact Or.inr ⟨_, rfl⟩ | exact Or.inl rfl) rfl ?_
      refine Wp.get dX12_act_31 fl_X12_150 hM2.ob hC2.1.1 rfl ?_
      refine Wp.put dX12_act_34 fp_X12_271 hM2.ob rfl rfl rfl ?_
      refine hM2.put (k := 34) (by decide) ?_
      intro h34 V34 hM34 o34 e34 f34
      have out34 := o2.trans o34
      have hP34 := hP2.scV (by decide : 20 ≤ 34) f34
      refine Wp.iload_n dX12_act_37 rfl rfl ?_
      refine Wp.if_ne (tgt := 50) (n := 41) dX12_act_38 (by decide) rfl (fun c_38 => ?_) (fun c_38 => ?_)
      · try simp (disch := omega) only [nI_bit0, nI_bit1, Bool.not_eq_false, Bool.not_eq_true] at c_38
        try simp (disch := omega) only [i_lt, i_le, i_eq, l_lt, l_le, l_eq, i_0, i_m1, l_0, nI_tI, iI_tI, lI_tI, Int.not_lt, Int.not_le] at c_38
        refine Wp.iload_n dX12_act_50 rfl rfl ?_
        refine Wp.iconst (v := (nI 1)) dX12_act_51 (by decide) rfl ?_
        refine Wp.icmp_ne (tgt := 64) (n := 55) dX12_act_52 (by decide) rfl (fun c_52 => ?_) (fun c_52 => ?_)
        · try simp (disch := omega) only [nI_bit0, nI_bit1, Bool.not_eq_false, Bool.not_eq_true] at c_52
          try simp (disch := omega) only [i_lt, i_le, i_eq, l_lt, l_le, l_eq, i_0, i_m1, l_0, nI_tI, iI_tI, lI_tI, Int.not_lt, Int.not_le] at c_52
          refine Wp.aload_n dX12_act_64 rfl (by first | exact Or.inr ⟨_, rfl⟩ | exact Or.inl rfl) rfl ?_
          refine Wp.iload_n dX12_act_65 rfl rfl ?_
          refine Wp.iload_n dX12_act_66 rfl rfl ?_
          refine Wp.cV dX12_act_67 cv_X12_290 rfl (by omega) rfl (Nat.le_of_ble_eq_true rfl) (Nat.le_of_ble_eq_true rfl) hM34.ob rfl (c_X12_turns (d := d - 1) (σ := σ) (o := i) hM34 (hP2.scV (by decide : 20 ≤ 34) f34) hW e34 (by omega) ho (by omega)) ?_
          rintro _ h3 ⟨rfl, V3, G3, Z3, hM3, hP3, o3, hm3⟩
          dsimp only [Option.toList, List.drop, List.cons_append, List.nil_append]
          have o3 := out34.trans o3
          exact Wp.iret dX12_act_70 rfl (by rw [t_act5, a_act, if_pos (show isO σ (nI i) ∧ w01 (nI j) 2 by simp (disch := omega) only [isO, w01, nI_tI]; omega), if_pos (show isO σ (nI i) ∧ w01 (nI j) 2 by simp (disch := omega) only [isO, w01, nI_tI]; omega), tn_nI ho2, nI_tI hj2, actR]; (first | rw [if_pos (by omega)] | rw [if_neg (by omega), if_pos (by omega)] | rw [if_neg (by omega), if_neg (by omega)]); exact ⟨rfl, V3, G3, Z3, hM3, hP3, o3⟩)
        · try simp (disch := omega) only [nI_bit0, nI_bit1, Bool.not_eq_false, Bool.not_eq_true] at c_52
          try simp (disch := omega) only [i_lt, i_le, i_eq, l_lt, l_le, l_eq, i_0, i_m1, l_0, nI_tI, iI_tI, lI_tI, Int.not_lt, Int.not_le] at c_52
          refine Wp.aload_n dX12_act_55 rfl (by first | exact Or.inr ⟨_, rfl⟩ | exact Or.inl rfl) rfl ?_
          refine Wp.iload_n dX12_act_56 rfl rfl ?_
          refine Wp.iload_n dX12_act_57 rfl rfl ?_
          refine Wp.cV dX12_act_58 cv_X12_284 rfl (by omega) rfl (Nat.le_of_ble_eq_true rfl) (Nat.le_of_ble_eq_true rfl) hM34.ob rfl (c_X12_shows (d := d - 1) (σ := σ) (o := i) hM34 (hP2.scV (by decide : 20 ≤ 34) f34) hW e34 (by omega) ho (by omega)) ?_
          rintro _ h3 ⟨rfl, V3, G3, Z3, hM3, hP3, o3, hm3⟩
          dsimp only [Option.toList, List.drop, List.cons_append, List.nil_append]
          have o3 := out34.trans o3
          refine Wp.goto (n := 70) dX12_act_61 (by decide) ?_
          exact Wp.iret dX12_act_70 rfl (by rw [t_act5, a_act, if_pos (show isO σ (nI i) ∧ w01 (nI j) 2 by simp (disch := omega) only [isO, w01, nI_tI]; omega), if_pos (show isO σ (nI i) ∧ w01 (nI j) 2 by simp (disch := omega) only [isO, w01, nI_tI]; omega), tn_nI ho2, nI_tI hj2, actR]; (first | rw [if_pos (by omega)] | rw [if_neg (by omega), if_pos (by omega)] | rw [if_neg (by omega), if_neg (by omega)]); exact ⟨rfl, V3, G3, Z3, hM3, hP3, o3⟩)
      · try simp (disch := omega) only [nI_bit0, nI_bit1, Bool.not_eq_false, Bool.not_eq_true] at c_38
        try simp (disch := omega) only [i_lt, i_le, i_eq, l_lt, l_le, l_eq, i_0, i_m1, l_0, nI_tI, iI_tI, lI_tI, Int.not_lt, Int.not_le] at c_38
        refine Wp.aload_n dX12_act_41 rfl (by first | exact Or.inr ⟨_, rfl⟩ | exact Or.inl rfl) rfl ?_
        refine Wp.iload_n dX12_act_42 rfl rfl ?_
        refine Wp.iload_n dX12_act_43 rfl rfl ?_
        refine Wp.cV dX12_act_44 cv_X12_278 rfl (by omega) rfl (Nat.le_of_ble_eq_true rfl) (Nat.le_of_ble_eq_true rfl) hM34.ob rfl (c_X12_asks (d := d - 1) (σ := σ) (o := i) hM34 (hP2.scV (by decide : 20 ≤ 34) f34) hW e34 (by omega) ho (by omega)) ?_
        rintro _ h3 ⟨rfl, V3, G3, Z3, hM3, hP3, o3, hm3⟩
        dsimp only [Option.toList, List.drop, List.cons_append, List.nil_append]
        have o3 := out34.trans o3
        refine Wp.goto (n := 70) dX12_act_47 (by decide) ?_
        exact Wp.iret dX12_act_70 rfl (by rw [t_act5, a_act, if_pos (show isO σ (nI i) ∧ w01 (nI j) 2 by simp (disch := omega) only [isO, w01, nI_tI]; omega), if_pos (show isO σ (nI i) ∧ w01 (nI j) 2 by simp (disch := omega) only [isO, w01, nI_tI]; omega), tn_nI ho2, nI_tI hj2, actR]; (first | rw [if_pos (by omega)] | rw [if_neg (by omega), if_pos (by omega)] | rw [if_neg (by omega), if_neg (by omega)]); exact ⟨rfl, V3, G3, Z3, hM3, hP3, o3⟩)
    · try simp only [decide_eq_true_eq, decide_eq_false_iff_not, Bool.and_eq_true, bI_0, bI_n0] at c_19
      refine Wp.iconst (v := (nI 0)) dX12_act_22 (by decide) rfl ?_
      exact Wp.iret dX12_act_23 rfl (RQ.i (by simp (disch := omega) only [a_act, okL, okA, okWy, okPr, isO, okTl, okS, w01, okWn, okWh, isR, okF, nI_tI, iI_tI, tn_nI, nI_m1]; (repeat' split) <;> first | (exfalso; omega) | rfl) hM (by unfold t_act5; (repeat' split) <;> first | (exfalso; omega) | exact hP | (exfalso; (try simp (disch := omega) only [okL, okA, okWy, okPr, isO, okTl, okS, w01, okWn, okWh, isR, okF, nI_tI, tn_nI] at *); omega)) (Out.rfl (x := x) (h := h)))
theorem c_X12_act {B : ev_B} {d x : Nat} {h : ev_H} {V : Nat → Value} {G : Nat → Nat → Int32} {Z : Nat → Nat → Int64} {σ : Sg} {o a y : Int32} (hM : MH h x V G Z) (hP : PM σ V G Z) (hW : Wf σ) (hd : 8 ≤ d) :
    Wp B d M_X12_act 0 [some (.ref x), some (.int (o)), some (.int (a)), some (.int (y))] [] h (RQ x h (t_act σ o a y) (.int (a_act σ o a y))) := by
  have hn := hW.n
  have hT := hW.net.1
  have hL := hW.net.2.1
  refine Wp.aload_n dX12_act_0 rfl (by first | exact Or.inr ⟨_, rfl⟩ | exact Or.inl rfl) rfl ?_
  refine Wp.iconst (v := (nI 0)) dX12_act_1 (by decide) rfl ?_
  refine Wp.put dX12_act_2 fp_X12_265 hM.ob rfl rfl rfl ?_
  refine hM.put (k := 16) (by decide) ?_
  intro h2 V2 hM2 o2 e2 f2
  have out2 := (Out.rfl (x := x) (h := h)).trans o2
  have hP0 : PM (σ.trc 0 σ.tr) V2 G Z := hP.run f2 e2 (fun _ _ => rfl) (fun i hi => absurd hi (Nat.not_lt_zero i))
  have k := c_X12_act5 (B := B) (d := d) (o := o) (a := a) (y := y) hM2 hP0 (hW.trc (by omega)) rfl hd
  refine k.mono (fun v h' hq => ?_)
  obtain ⟨q1, V', G', Z', q2, q3, q4⟩ := hq
  exact ⟨q1, V', G', Z', q2, q3, out2.trans q4⟩
