/-! the reference's public methods: sheets; its making -/
def Sg.shs (σ : Sg) (so : Nat → Int) (sz : Nat → Nat) (ce : Nat → Nat → Int64) : Sg := Sg.mk σ.N σ.U σ.al σ.sb σ.rb σ.n σ.O σ.p1 σ.q1 σ.p2 σ.q2 σ.nR σ.rv σ.nT σ.tr so sz ce
theorem PM.chs {σ : Sg} {V : Nat → Value} {G G' : Nat → Nat → Int32} {Z Z' : Nat → Nat → Int64} {so : Nat → Int} {sz : Nat → Nat} {ce : Nat → Nat → Int64} (a : PM σ V G Z) (g : ∀ k, k ≠ 17 → k ≠ 18 → G' k = G k) (z : ∀ k, k < 20 → k ≠ 19 → Z' k = Z k) (h1 : ∀ s, s < 4 → G' 17 s = iI (so s)) (h2 : ∀ s, s < 4 → G' 18 s = nI (sz s)) (h3 : ∀ s i, s < 4 → i < 40 → Z' 19 (40 * s + i) = ce s i) : PM (σ.shs so sz ce) V G' Z' := by
  refine ⟨?_, ?_, a.may, a.nn, ?_, a.w1, a.w2, a.w3, a.w4, a.nR, ?_, a.nT, ?_, h1, h2, h3⟩
  · rw [g 0 (by decide) (by decide)]; exact a.net
  · rw [g 1 (by decide) (by decide)]; exact a.bef
  · intro i hi
    have q := a.of i hi
    refine ⟨?_, ?_, ?_, ?_, ?_⟩
    · rw [g 4 (by decide) (by decide)]; exact q.k
    · rw [g 5 (by decide) (by decide)]; exact q.f
    · rw [g 6 (by decide) (by decide)]; exact q.s
    · rw [g 7 (by decide) (by decide)]; exact q.m
    · rw [g 8 (by decide) (by decide)]; exact q.su
  · rw [z 14 (by decide) (by decide)]; exact a.rv
  · rw [g 15 (by decide) (by decide)]; exact a.tr
abbrev isSh (s : Int32) : Prop := 0 ≤ s.toInt ∧ s.toInt ≤ 3
abbrev okSh (s t n : Int32) : Prop := isSh s ∧ (-1 ≤ t.toInt ∧ t.toInt ≤ 2) ∧ (t.toInt = -1 ∨ n.toInt ≤ 40)
def a_sheet (s t n : Int32) : Int32 := if okSh s t n then (if t.toInt ≠ -1 ∧ n.toInt < 0 then -14 else 1) else -2
def t_sheet (σ : Sg) (s t n : Int32) : Sg := if okSh s t n ∧ ¬ (t.toInt ≠ -1 ∧ n.toInt < 0) then σ.shs (updZ σ.so (tn s) t.toInt) (updN σ.sz (tn s) (if t.toInt = -1 then 0 else tn n)) (fun u i => if u = tn s then 0 else σ.ce u i) else σ
def a_cell (σ : Sg) (s i : Int32) : Int32 := if isSh s then (if σ.so (tn s) = -1 then -11 else if 0 ≤ i.toInt ∧ i.toInt < σ.sz (tn s) then 1 else -12) else -2
def t_cell (σ : Sg) (s i v : Int32) : Sg := if isSh s ∧ σ.so (tn s) ≠ -1 ∧ 0 ≤ i.toInt ∧ i.toInt < σ.sz (tn s) then σ.shs σ.so σ.sz (fun u k => if u = tn s ∧ k = tn i then (if σ.so (tn s) = 0 then v.toInt8.toInt32.toInt64 else v.toInt64) else σ.ce u k) else σ
def cI (σ : Sg) (s i : Int32) (k : Nat) : Int32 := (σ.ce (tn s) (tn i + k)).toInt32
abbrev okLy (σ : Sg) (s t i : Int32) : Prop := (isSh s ∧ 0 ≤ t.toInt ∧ t.toInt ≤ 2) ∧ (σ.so (tn s) = t.toInt) ∧ 0 ≤ i.toInt ∧ i.toInt + 4 ≤ σ.sz (tn s)
def a_lay (σ : Sg) (s t i : Int32) : Int32 := if isSh s ∧ 0 ≤ t.toInt ∧ t.toInt ≤ 2 then (if σ.so (tn s) ≠ -1 ∧ σ.so (tn s) ≠ t.toInt then -13 else if σ.so (tn s) = -1 then -11 else if 0 ≤ i.toInt ∧ i.toInt + 4 ≤ σ.sz (tn s) then a_line σ (cI σ s i 0) (cI σ s i 1) (cI σ s i 2) (cI σ s i 3) else -12) else -2
def t_layS (σ : Sg) (s t i : Int32) : Sg := if okLy σ s t i then t_line σ (cI σ s i 0) (cI σ s i 1) (cI σ s i 2) (cI σ s i 3) else σ
abbrev okCp (σ : Sg) (s i o j n : Int32) : Prop := 0 ≤ n.toInt ∧ 0 ≤ i.toInt ∧ 0 ≤ j.toInt ∧ i.toInt + n.toInt ≤ σ.sz (tn s) ∧ j.toInt + n.toInt ≤ σ.sz (tn o)
def a_copy (σ : Sg) (s i o j n : Int32) : Int32 := if isSh s ∧ isSh o then (if σ.so (tn s) = -1 ∨ σ.so (tn o) = -1 then -11 else if σ.so (tn s) ≠ σ.so (tn o) then -13 else if okCp σ s i o j n then n else -12) else -2
def t_copy (σ : Sg) (s i o j n : Int32) : Sg := if (isSh s ∧ isSh o) ∧ (σ.so (tn s) ≠ -1 ∧ σ.so (tn o) ≠ -1) ∧ σ.so (tn s) = σ.so (tn o) ∧ okCp σ s i o j n then σ.shs σ.so σ.sz (fun u k => if u = tn o ∧ tn j ≤ k ∧ k < tn j + tn n then σ.ce (tn s) (tn i + (k - tn j)) else σ.ce u k) else σ
theorem nI_40s {s i : Nat} (hs : s < 4) (hi : i < 100) : (nI 40 * nI s + nI i).toInt = ((40 * s + i : Nat) : Int) := by
  rw [pk_mul, nI_add]; exact nI_toInt (by omega)
theorem nI_40t {s i k : Nat} (hs : s < 4) (hi : i < 100) (hk : k < 100) : (nI 40 * nI s + nI i + nI k).toInt = ((40 * s + i + k : Nat) : Int) := by
  rw [pk_mul, nI_add, nI_add]; exact nI_toInt (by omega)
theorem c0_l : (0 : Int64) = (0 : Int64) := rfl
theorem c_X12_isSheet {B : ev_B} {d : Nat} {h : ev_H} {s : Int32} (hd : 1 ≤ d) :
    Wp B d M_X12_isSheet 0 [some (.int s)] [] h (fun v h' => v = some (.int (bI (decide (isSh s)))) ∧ h' = h) := by
  refine Wp.iload_n dX12_isSheet_0 rfl rfl ?_
  refine Wp.iconst (v := (nI 0)) dX12_isSheet_1 (by decide) rfl ?_
  refine Wp.iconst (v := (nI 3)) dX12_isSheet_2 (by decide) rfl ?_
  refine Wp.cS dX12_isSheet_3 cs_X12_85 rfl (by omega) rfl (Nat.le_of_ble_eq_true rfl) (Nat.le_of_ble_eq_true rfl) rfl (c_X12_in (d := d - 1)) ?_
  rintro _ h_ ⟨rfl, e_⟩
  rw [e_]
  clear e_ h_
  dsimp only [Option.toList, List.drop, List.cons_append, List.nil_append]
  rw [show (nI 0 : Int32).toInt = 0 by decide, show (nI 3 : Int32).toInt = 3 by decide]
  exact Wp.bret dX12_isSheet_6 rfl (by exact ⟨rfl, rfl⟩)
set_option maxHeartbeats 2000000 in
theorem c_X12_sheet {B : ev_B} {d x : Nat} {h : ev_H} {V : Nat → Value} {G : Nat → Nat → Int32} {Z : Nat → Nat → Int64} {σ : Sg} {s t n : Int32} (hM : MH h x V G Z) (hP : PM σ V G Z) (hW : Wf σ) (hd : 2 ≤ d) :
    Wp B d M_X12_sheet 0 [some (.ref x), some (.int (s)), some (.int (t)), some (.int (n)), none] [] h (RQ x h (t_sheet σ s t n) (.int (a_sheet s t n))) := by
  have hn := hW.n
  have hT := hW.net.1
  have hL := hW.net.2.1
  refine Wp.iload_n dX12_sheet_0 rfl rfl ?_
  refine Wp.cS dX12_sheet_1 cs_X12_293 rfl (by omega) rfl (Nat.le_of_ble_eq_true rfl) (Nat.le_of_ble_eq_true rfl) rfl (c_X12_isSheet (d := d - 1) (by omega)) ?_
  rintro _ h_ ⟨rfl, e_⟩
  rw [e_]
  clear e_ h_
  dsimp only [Option.toList, List.drop, List.cons_append, List.nil_append]
  refine Wp.bif_eq (tgt := 27) (n := 7) dX12_sheet_4 (by decide) rfl (fun c_4 => ?_) (fun c_4 => ?_)
  · try simp only [decide_eq_true_eq, decide_eq_false_iff_not, Bool.and_eq_true, bI_0, bI_n0] at c_4
    refine Wp.bipush (v := (-2)) dX12_sheet_27 (by decide) rfl ?_
    exact Wp.iret dX12_sheet_29 rfl (RQ.i (by simp (disch := omega) only [a_sheet, okL, okA, okWy, okPr, isO, okTl, okS, w01, okWn, okWh, isR, okF, isSh, okSh, okLy, okCp, nI_tI, iI_tI, tn_nI, nI_m1]; (repeat' split) <;> first | (exfalso; omega) | rfl) hM (by simp (disch := omega) only [t_sheet, okL, okA, okWy, okPr, isO, okTl, okS, w01, okWn, okWh, isR, okF, isSh, okSh, okLy, okCp, nI_tI, tn_nI]; (repeat' split) <;> first | (exfalso; omega) | exact hP) (Out.rfl (x := x) (h := h)))
  · try simp only [decide_eq_true_eq, decide_eq_false_iff_not, Bool.and_eq_true, bI_0, bI_n0] at c_4
    refine Wp.iload_n dX12_sheet_7 rfl rfl ?_
    refine Wp.iconst (v := (-1)) dX12_sheet_8 (by decide) rfl ?_
    refine Wp.iconst (v := (nI 2)) dX12_sheet_9 (by decide) rfl ?_
    refine Wp.cS dX12_sheet_10 cs_X12_85 rfl (by omega) rfl (Nat.le_of_ble_eq_true rfl) (Nat.le_of_ble_eq_true rfl) rfl (c_X12_in (d := d - 1)) ?_
    rintro _ h_ ⟨rfl, e_⟩
    rw [e_]
    clear e_ h_
    dsimp only [Option.toList, List.drop, List.cons_append, List.nil_append]
    rw [show (-1 : Int32).toInt = -1 by decide, show (nI 2 : Int32).toInt = 2 by decide]
    refine Wp.bif_eq (tgt := 27) (n := 16) dX12_sheet_13 (by decide) rfl (fun c_13 => ?_) (fun c_13 => ?_)
    · try simp only [decide_eq_true_eq, decide_eq_false_iff_not, Bool.and_eq_true, bI_0, bI_n0] at c_13
      refine Wp.bipush (v := (-2)) dX12_sheet_27 (by decide) rfl ?_
      exact Wp.iret dX12_sheet_29 rfl (RQ.i (by simp (disch := omega) only [a_sheet, okL, okA, okWy, okPr, isO, okTl, okS, w01, okWn, okWh, isR, okF, isSh, okSh, okLy, okCp, nI_tI, iI_tI, tn_nI, nI_m1]; (repeat' split) <;> first | (exfalso; omega) | rfl) hM (by simp (disch := omega) only [t_sheet, okL, okA, okWy, okPr, isO, okTl, okS, w01, okWn, okWh, isR, okF, isSh, okSh, okLy, okCp, nI_tI, tn_nI]; (repeat' split) <;> first | (exfalso; omega) | exact hP) (Out.rfl (x := x) (h := h)))
    · try simp only [decide_eq_true_eq, decide_eq_false_iff_not, Bool.and_eq_true, bI_0, bI_n0] at c_13
      refine Wp.iload_n dX12_sheet_16 rfl rfl ?_
      refine Wp.iconst (v := (-1)) dX12_sheet_17 (by decide) rfl ?_
      refine Wp.icmp_eq (tgt := 30) (n := 21) dX12_sheet_18 (by decide) rfl (fun c_18 => ?_) (fun c_18 => ?_)
      · try simp (disch := omega) only [nI_bit0, nI_bit1, Bool.not_eq_false, Bool.not_eq_true] at c_18
        try simp (disch := omega) only [i_lt, i_le, i_eq, l_lt, l_le, l_eq, i_0, i_m1, l_0, nI_tI, iI_tI, lI_tI, Int.not_lt, Int.not_le] at c_18
        refine Wp.iload_n dX12_sheet_30 rfl rfl ?_
        refine Wp.iconst (v := (-1)) dX12_sheet_31 (by decide) rfl ?_
        refine Wp.icmp_eq (tgt := 42) (n := 35) dX12_sheet_32 (by decide) rfl (fun c_32 => ?_) (fun c_32 => ?_)
        · try simp (disch := omega) only [nI_bit0, nI_bit1, Bool.not_eq_false, Bool.not_eq_true] at c_32
          try simp (disch := omega) only [i_lt, i_le, i_eq, l_lt, l_le, l_eq, i_0, i_m1, l_0, nI_tI, iI_tI, lI_tI, Int.not_lt, Int.not_le] at c_32
          obtain ⟨a, rfl, ha, ha2⟩ := as_nI (o := s) (n := 4) (by omega)
          have ta := nI_tI ha2
          have hso := hW.so a ha
          have hsz := hW.sz a ha
          have hsm := hW.sm a ha
          have hok : okSh (nI a) t n := by simp (disch := omega) only [okSh, isSh, nI_tI]; omega
          have hok2 : ¬ (t.toInt ≠ -1 ∧ n.toInt < 0) := by omega
          have s65 : ∀ (h3 : ev_H) (G3 : Nat → Nat → Int32), MH h3 x V G3 Z → Out x h h3 → (∀ k, k ≠ 17 → k ≠ 18 → G3 k = G k) → (∀ s, s < 4 → G3 17 s = iI (updZ σ.so a t.toInt s)) → (∀ s, s < 4 → G3 18 s = nI (updN σ.sz a (if t.toInt = -1 then 0 else tn n) s)) → okSh (nI a) t n → ¬ (t.toInt ≠ -1 ∧ n.toInt < 0) → Wp B d M_X12_sheet 65 [some (.ref x), some (.int (nI a)), some (.int (t)), some (.int (n)), none] [] h3 (RQ x h (t_sheet σ (nI a) t n) (.int (a_sheet (nI a) t n))) := by
            intro h3 G3 hM3 hO3 hg h17 h18 hok hok2
            have loop : ∀ w, w ≤ 40 → ∀ (hh : ev_H) (Zi : Nat → Nat → Int64), MH hh x V G3 Zi → Out x h hh → (∀ k, k ≠ 19 → Zi k = Z k) → (∀ q, Zi 19 q = if 40 * a ≤ q ∧ q < 40 * a + w then 0 else Z 19 q) → Wp B d M_X12_sheet 68 [some (.ref x), some (.int (nI a)), some (.int (t)), some (.int (n)), some (.int (nI w))] [] hh (RQ x h (t_sheet σ (nI a) t n) (.int (a_sheet (nI a) t n))) := by
              refine ev_upl 40 (fun w hi ih => ?_) ?_
              · intro hh Zi hMi hOi hz hv
                refine Wp.iload dX12_sheet_68 rfl rfl ?_
                refine Wp.bipush (v := (nI 40)) dX12_sheet_70 (by decide) rfl ?_
                refine Wp.icmp_ge (tgt := 94) (n := 75) dX12_sheet_72 (by decide) rfl (fun c_72 => ?_) (fun c_72 => ?_)
                · try simp (disch := omega) only [nI_bit0, nI_bit1, Bool.not_eq_false, Bool.not_eq_true] at c_72
                  try simp (disch := omega) only [i_lt, i_le, i_eq, l_lt, l_le, l_eq, i_0, i_m1, l_0, nI_tI, iI_tI, lI_tI, Int.not_lt, Int.not_le] at c_72
                  omega
                · try simp (disch := omega) only [nI_bit0, nI_bit1, Bool.not_eq_false, Bool.not_eq_true] at c_72
                  try simp (disch := omega) only [i_lt, i_le, i_eq, l_lt, l_le, l_eq, i_0, i_m1, l_0, nI_tI, iI_tI, lI_tI, Int.not_lt, Int.not_le] at c_72
                  refine Wp.aload_n dX12_sheet_75 rfl (by first | exact Or.inr ⟨_, rfl⟩ | exact Or.inl rfl) rfl ?_
                  refine Wp.get dX12_sheet_76 fl_X12_54 hMi.ob (hMi.rf 19 (by decide)) rfl ?_
                  refine Wp.bipush (v := (nI 40)) dX12_sheet_79 (by decide) rfl ?_
                  refine Wp.iload_n dX12_sheet_81 rfl rfl ?_
                  refine Wp.imul dX12_sheet_82 rfl ?_
                  refine Wp.iload dX12_sheet_83 rfl rfl ?_
                  refine Wp.iadd dX12_sheet_85 rfl ?_
                  refine Wp.lconst (v := 0) dX12_sheet_86 (by decide) rfl ?_
                  refine Wp.lastore dX12_sheet_87 (hMi.la 19 (by decide)) (nI_40s ha (by omega)) (by show _ < 160; omega) rfl ?_
                  refine hMi.stl (k := 19) (by decide) ?_
                  intro h87 Z87 hM87 o87 e87 f87
                  have out87 := hOi.trans o87
                  refine Wp.iinc (v := _ + (nI 1)) dX12_sheet_88 rfl rfl (Nat.le_of_ble_eq_true rfl) (by dsimp only [ev_st1, ev_cl] <;> rfl) rfl ?_
                  refine Wp.goto (n := 68) dX12_sheet_91 (by decide) ?_
                  rw [nI_add1]
                  refine ih _ _ hM87 out87 (fun k hk => (f87 k hk).trans (hz k hk)) (fun q => ?_)
                  rw [e87]
                  simp only [vp_updL]
                  by_cases e : q = 40 * a + w
                  · rw [if_pos e, if_pos (by omega)]
                  · rw [if_neg e, hv]
                    by_cases e2 : 40 * a ≤ q ∧ q < 40 * a + w
                    · rw [if_pos e2, if_pos (by omega)]
                    · rw [if_neg e2, if_neg (by omega)]
              · intro hh Zi hMi hOi hz hv
                refine Wp.iload dX12_sheet_68 rfl rfl ?_
                refine Wp.bipush (v := (nI 40)) dX12_sheet_70 (by decide) rfl ?_
                refine Wp.icmp_ge (tgt := 94) (n := 75) dX12_sheet_72 (by decide) rfl (fun c_72 => ?_) (fun c_72 => ?_)
                · try simp (disch := omega) only [nI_bit0, nI_bit1, Bool.not_eq_false, Bool.not_eq_true] at c_72
                  try simp (disch := omega) only [i_lt, i_le, i_eq, l_lt, l_le, l_eq, i_0, i_m1, l_0, nI_tI, iI_tI, lI_tI, Int.not_lt, Int.not_le] at c_72
                  refine Wp.iconst (v := (nI 1)) dX12_sheet_94 (by decide) rfl ?_
                  exact Wp.iret dX12_sheet_95 rfl (by
                    refine RQ.i (by rw [a_sheet, if_pos hok, if_neg hok2]; rfl) hMi ?_ hOi
                    rw [t_sheet, if_pos ⟨hok, hok2⟩, tn_nI ha2]
                    refine hP.chs hg (fun k _ h2 => hz k h2) h17 h18 (fun u k h1 h2 => ?_)
                    rw [hv]
                    by_cases e : u = a
                    · rw [if_pos (by omega), if_pos e]
                    · rw [if_neg (by omega), if_neg e]; exact hP.ce u k h1 h2)
                · try simp (disch := omega) only [nI_bit0, nI_bit1, Bool.not_eq_false, Bool.not_eq_true] at c_72
                  try simp (disch := omega) only [i_lt, i_le, i_eq, l_lt, l_le, l_eq, i_0, i_m1, l_0, nI_tI, iI_tI, lI_tI, Int.not_lt, Int.not_le] at c_72
                  omega
            refine Wp.iconst (v := (nI 0)) dX12_sheet_65 (by decide) rfl ?_
            refine Wp.istore dX12_sheet_66 (Nat.le_of_ble_eq_true rfl) (by dsimp only [ev_st1, ev_st2, ev_cl] <;> rfl) rfl ?_
            exact loop 0 (by omega) h3 Z hM3 hO3 (fun _ _ => rfl) (fun q => by rw [if_neg (by omega)])
          refine Wp.aload_n dX12_sheet_42 rfl (by first | exact Or.inr ⟨_, rfl⟩ | exact Or.inl rfl) rfl ?_
          refine Wp.get dX12_sheet_43 fl_X12_48 hM.ob (hM.rf 17 (by decide)) rfl ?_
          refine Wp.iload_n dX12_sheet_46 rfl rfl ?_
          refine Wp.iload_n dX12_sheet_47 rfl rfl ?_
          refine Wp.iastore dX12_sheet_48 (hM.ia 17 (by decide)) (nI_toInt (by omega)) (by show _ < 4; omega) rfl ?_
          refine hM.sti (k := 17) (by decide) ?_
          intro h48 G48 hM48 o48 e48 f48
          have out48 := (Out.rfl (x := x) (h := h)).trans o48
          refine Wp.aload_n dX12_sheet_49 rfl (by first | exact Or.inr ⟨_, rfl⟩ | exact Or.inl rfl) rfl ?_
          refine Wp.get dX12_sheet_50 fl_X12_51 hM48.ob (hM48.rf 18 (by decide)) rfl ?_
          refine Wp.iload_n dX12_sheet_53 rfl rfl ?_
          refine Wp.iload_n dX12_sheet_54 rfl rfl ?_
          refine Wp.iconst (v := (-1)) dX12_sheet_55 (by decide) rfl ?_
          refine Wp.icmp_ne (tgt := 63) (n := 59) dX12_sheet_56 (by decide) rfl (fun c_56 => ?_) (fun c_56 => ?_)
          · try simp (disch := omega) only [nI_bit0, nI_bit1, Bool.not_eq_false, Bool.not_eq_true] at c_56
            try simp (disch := omega) only [i_lt, i_le, i_eq, l_lt, l_le, l_eq, i_0, i_m1, l_0, nI_tI, iI_tI, lI_tI, Int.not_lt, Int.not_le] at c_56
            refine Wp.iload_n dX12_sheet_63 rfl rfl ?_
            refine Wp.iastore dX12_sheet_64 (hM48.ia 18 (by decide)) (nI_toInt (by omega)) (by show _ < 4; omega) rfl ?_
            refine hM48.sti (k := 18) (by decide) ?_
            intro h64 G64 hM64 o64 e64 f64
            have out64 := out48.trans o64
            refine s65 _ _ hM64 out64 (fun k h1 h2 => (f64 k h2).trans (f48 k h1)) (fun u hu => ?_) (fun u hu => ?_) hok hok2
            · rw [f64 17 (by decide), e48]
              simp only [upd, updZ]
              split
              · exact iI_of t
              · exact hP.so u hu
            · rw [e64, f48 18 (by decide)]
              simp only [upd, updN]
              (repeat' split) <;> first | rfl | (exfalso; omega) | exact tn_at (by omega) | exact hP.sz u hu
          · try simp (disch := omega) only [nI_bit0, nI_bit1, Bool.not_eq_false, Bool.not_eq_true] at c_56
            try simp (disch := omega) only [i_lt, i_le, i_eq, l_lt, l_le, l_eq, i_0, i_m1, l_0, nI_tI, iI_tI, lI_tI, Int.not_lt, Int.not_le] at c_56
            refine Wp.iconst (v := (nI 0)) dX12_sheet_59 (by decide) rfl ?_
            refine Wp.goto (n := 64) dX12_sheet_60 (by decide) ?_
            refine Wp.iastore dX12_sheet_64 (hM48.ia 18 (by decide)) (nI_toInt (by omega)) (by show _ < 4; omega) rfl ?_
            refine hM48.sti (k := 18) (by decide) ?_
            intro h64 G64 hM64 o64 e64 f64
            have out64 := out48.trans o64
            refine s65 _ _ hM64 out64 (fun k h1 h2 => (f64 k h2).trans (f48 k h1)) (fun u hu => ?_) (fun u hu => ?_) hok hok2
            · rw [f64 17 (by decide), e48]
              simp only [upd, updZ]
              split
              · exact iI_of t
              · exact hP.so u hu
            · rw [e64, f48 18 (by decide)]
              simp only [upd, updN]
              (repeat' split) <;> first | rfl | (exfalso; omega) | exact tn_at (by omega) | exact hP.sz u hu
        · try simp (disch := omega) only [nI_bit0, nI_bit1, Bool.not_eq_false, Bool.not_eq_true] at c_32
          try simp (disch := omega) only [i_lt, i_le, i_eq, l_lt, l_le, l_eq, i_0, i_m1, l_0, nI_tI, iI_tI, lI_tI, Int.not_lt, Int.not_le] at c_32
          refine Wp.iload_n dX12_sheet_35 rfl rfl ?_
          refine Wp.if_ge (tgt := 42) (n := 39) dX12_sheet_36 (by decide) rfl (fun c_36 => ?_) (fun c_36 => ?_)
          · try simp (disch := omega) only [nI_bit0, nI_bit1, Bool.not_eq_false, Bool.not_eq_true] at c_36
            try simp (disch := omega) only [i_lt, i_le, i_eq, l_lt, l_le, l_eq, i_0, i_m1, l_0, nI_tI, iI_tI, lI_tI, Int.not_lt, Int.not_le] at c_36
            obtain ⟨a, rfl, ha, ha2⟩ := as_nI (o := s) (n := 4) (by omega)
            have ta := nI_tI ha2
            have hso := hW.so a ha
            have hsz := hW.sz a ha
            have hsm := hW.sm a ha
            have hok : okSh (nI a) t n := by simp (disch := omega) only [okSh, isSh, nI_tI]; omega
            have hok2 : ¬ (t.toInt ≠ -1 ∧ n.toInt < 0) := by omega
            have s65 : ∀ (h3 : ev_H) (G3 : Nat → Nat → Int32), MH h3 x V G3 Z → Out x h h3 → (∀ k, k ≠ 17 → k ≠ 18 → G3 k = G k) → (∀ s, s < 4 → G3 17 s = iI (updZ σ.so a t.toInt s)) → (∀ s, s < 4 → G3 18 s = nI (updN σ.sz a (if t.toInt = -1 then 0 else tn n) s)) → okSh (nI a) t n → ¬ (t.toInt ≠ -1 ∧ n.toInt < 0) → Wp B d M_X12_sheet 65 [some (.ref x), some (.int (nI a)), some (.int (t)), some (.int (n)), none] [] h3 (RQ x h (t_sheet σ (nI a) t n) (.int (a_sheet (nI a) t n))) := by
              intro h3 G3 hM3 hO3 hg h17 h18 hok hok2
              have loop : ∀ w, w ≤ 40 → ∀ (hh : ev_H) (Zi : Nat → Nat → Int64), MH hh x V G3 Zi → Out x h hh → (∀ k, k ≠ 19 → Zi k = Z k) → (∀ q, Zi 19 q = if 40 * a ≤ q ∧ q < 40 * a + w then 0 else Z 19 q) → Wp B d M_X12_sheet 68 [some (.ref x), some (.int (nI a)), some (.int (t)), some (.int (n)), some (.int (nI w))] [] hh (RQ x h (t_sheet σ (nI a) t n) (.int (a_sheet (nI a) t n))) := by
                refine ev_upl 40 (fun w hi ih => ?_) ?_
                · intro hh Zi hMi hOi hz hv
                  refine Wp.iload dX12_sheet_68 rfl rfl ?_
                  refine Wp.bipush (v := (nI 40)) dX12_sheet_70 (by decide) rfl ?_
                  refine Wp.icmp_ge (tgt := 94) (n := 75) dX12_sheet_72 (by decide) rfl (fun c_72 => ?_) (fun c_72 => ?_)
                  · try simp (disch := omega) only [nI_bit0, nI_bit1, Bool.not_eq_false, Bool.not_eq_true] at c_72
                    try simp (disch := omega) only [i_lt, i_le, i_eq, l_lt, l_le, l_eq, i_0, i_m1, l_0, nI_tI, iI_tI, lI_tI, Int.not_lt, Int.not_le] at c_72
                    omega
                  · try simp (disch := omega) only [nI_bit0, nI_bit1, Bool.not_eq_false, Bool.not_eq_true] at c_72
                    try simp (disch := omega) only [i_lt, i_le, i_eq, l_lt, l_le, l_eq, i_0, i_m1, l_0, nI_tI, iI_tI, lI_tI, Int.not_lt, Int.not_le] at c_72
                    refine Wp.aload_n dX12_sheet_75 rfl (by first | exact Or.inr ⟨_, rfl⟩ | exact Or.inl rfl) rfl ?_
                    refine Wp.get dX12_sheet_76 fl_X12_54 hMi.ob (hMi.rf 19 (by decide)) rfl ?_
                    refine Wp.bipush (v := (nI 40)) dX12_sheet_79 (by decide) rfl ?_
                    refine Wp.iload_n dX12_sheet_81 rfl rfl ?_
                    refine Wp.imul dX12_sheet_82 rfl ?_
                    refine Wp.iload dX12_sheet_83 rfl rfl ?_
                    refine Wp.iadd dX12_sheet_85 rfl ?_
                    refine Wp.lconst (v := 0) dX12_sheet_86 (by decide) rfl ?_
                    refine Wp.lastore dX12_sheet_87 (hMi.la 19 (by decide)) (nI_40s ha (by omega)) (by show _ < 160; omega) rfl ?_
                    refine hMi.stl (k := 19) (by decide) ?_
                    intro h87 Z87 hM87 o87 e87 f87
                    have out87 := hOi.trans o87
                    refine Wp.iinc (v := _ + (nI 1)) dX12_sheet_88 rfl rfl (Nat.le_of_ble_eq_true rfl) (by dsimp only [ev_st1, ev_cl] <;> rfl) rfl ?_
                    refine Wp.goto (n := 68) dX12_sheet_91 (by decide) ?_
                    rw [nI_add1]
                    refine ih _ _ hM87 out87 (fun k hk => (f87 k hk).trans (hz k hk)) (fun q => ?_)
                    rw [e87]
                    simp only [vp_updL]
                    by_cases e : q = 40 * a + w
                    · rw [if_pos e, if_pos (by omega)]
                    · rw [if_neg e, hv]
                      by_cases e2 : 40 * a ≤ q ∧ q < 40 * a + w
                      · rw [if_pos e2, if_pos (by omega)]
                      · rw [if_neg e2, if_neg (by omega)]
                · intro hh Zi hMi hOi hz hv
                  refine Wp.iload dX12_sheet_68 rfl rfl ?_
                  refine Wp.bipush (v := (nI 40)) dX12_sheet_70 (by decide) rfl ?_
                  refine Wp.icmp_ge (tgt := 94) (n := 75) dX12_sheet_72 (by decide) rfl (fun c_72 => ?_) (fun c_72 => ?_)
                  · try simp (disch := omega) only [nI_bit0, nI_bit1, Bool.not_eq_false, Bool.not_eq_true] at c_72
                    try simp (disch := omega) only [i_lt, i_le, i_eq, l_lt, l_le, l_eq, i_0, i_m1, l_0, nI_tI, iI_tI, lI_tI, Int.not_lt, Int.not_le] at c_72
                    refine Wp.iconst (v := (nI 1)) dX12_sheet_94 (by decide) rfl ?_
                    exact Wp.iret dX12_sheet_95 rfl (by
                      refine RQ.i (by rw [a_sheet, if_pos hok, if_neg hok2]; rfl) hMi ?_ hOi
                      rw [t_sheet, if_pos ⟨hok, hok2⟩, tn_nI ha2]
                      refine hP.chs hg (fun k _ h2 => hz k h2) h17 h18 (fun u k h1 h2 => ?_)
                      rw [hv]
                      by_cases e : u = a
                      · rw [if_pos (by omega), if_pos e]
                      · rw [if_neg (by omega), if_neg e]; exact hP.ce u k h1 h2)
                  · try simp (disch := omega) only [nI_bit0, nI_bit1, Bool.not_eq_false, Bool.not_eq_true] at c_72
                    try simp (disch := omega) only [i_lt, i_le, i_eq, l_lt, l_le, l_eq, i_0, i_m1, l_0, nI_tI, iI_tI, lI_tI, Int.not_lt, Int.not_le] at c_72
                    omega
              refine Wp.iconst (v := (nI 0)) dX12_sheet_65 (by decide) rfl ?_
              refine Wp.istore dX12_sheet_66 (Nat.le_of_ble_eq_true rfl) (by dsimp only [ev_st1, ev_st2, ev_cl] <;> rfl) rfl ?_
              exact loop 0 (by omega) h3 Z hM3 hO3 (fun _ _ => rfl) (fun q => by rw [if_neg (by omega)])
            refine Wp.aload_n dX12_sheet_42 rfl (by first | exact Or.inr ⟨_, rfl⟩ | exact Or.inl rfl) rfl ?_
            refine Wp.get dX12_sheet_43 fl_X12_48 hM.ob (hM.rf 17 (by decide)) rfl ?_
            refine Wp.iload_n dX12_sheet_46 rfl rfl ?_
            refine Wp.iload_n dX12_sheet_47 rfl rfl ?_
            refine Wp.iastore dX12_sheet_48 (hM.ia 17 (by decide)) (nI_toInt (by omega)) (by show _ < 4; omega) rfl ?_
            refine hM.sti (k := 17) (by decide) ?_
            intro h48 G48 hM48 o48 e48 f48
            have out48 := (Out.rfl (x := x) (h := h)).trans o48
            refine Wp.aload_n dX12_sheet_49 rfl (by first | exact Or.inr ⟨_, rfl⟩ | exact Or.inl rfl) rfl ?_
            refine Wp.get dX12_sheet_50 fl_X12_51 hM48.ob (hM48.rf 18 (by decide)) rfl ?_
            refine Wp.iload_n dX12_sheet_53 rfl rfl ?_
            refine Wp.iload_n dX12_sheet_54 rfl rfl ?_
            refine Wp.iconst (v := (-1)) dX12_sheet_55 (by decide) rfl ?_
            refine Wp.icmp_ne (tgt := 63) (n := 59) dX12_sheet_56 (by decide) rfl (fun c_56 => ?_) (fun c_56 => ?_)
            · try simp (disch := omega) only [nI_bit0, nI_bit1, Bool.not_eq_false, Bool.not_eq_true] at c_56
              try simp (disch := omega) only [i_lt, i_le, i_eq, l_lt, l_le, l_eq, i_0, i_m1, l_0, nI_tI, iI_tI, lI_tI, Int.not_lt, Int.not_le] at c_56
              refine Wp.iload_n dX12_sheet_63 rfl rfl ?_
              refine Wp.iastore dX12_sheet_64 (hM48.ia 18 (by decide)) (nI_toInt (by omega)) (by show _ < 4; omega) rfl ?_
              refine hM48.sti (k := 18) (by decide) ?_
              intro h64 G64 hM64 o64 e64 f64
              have out64 := out48.trans o64
              refine s65 _ _ hM64 out64 (fun k h1 h2 => (f64 k h2).trans (f48 k h1)) (fun u hu => ?_) (fun u hu => ?_) hok hok2
              · rw [f64 17 (by decide), e48]
                simp only [upd, updZ]
                split
                · exact iI_of t
                · exact hP.so u hu
              · rw [e64, f48 18 (by decide)]
                simp only [upd, updN]
                (repeat' split) <;> first | rfl | (exfalso; omega) | exact tn_at (by omega) | exact hP.sz u hu
            · try simp (disch := omega) only [nI_bit0, nI_bit1, Bool.not_eq_false, Bool.not_eq_true] at c_56
              try simp (disch := omega) only [i_lt, i_le, i_eq, l_lt, l_le, l_eq, i_0, i_m1, l_0, nI_tI, iI_tI, lI_tI, Int.not_lt, Int.not_le] at c_56
              refine Wp.iconst (v := (nI 0)) dX12_sheet_59 (by decide) rfl ?_
              refine Wp.goto (n := 64) dX12_sheet_60 (by decide) ?_
              refine Wp.iastore dX12_sheet_64 (hM48.ia 18 (by decide)) (nI_toInt (by omega)) (by show _ < 4; omega) rfl ?_
              refine hM48.sti (k := 18) (by decide) ?_
              intro h64 G64 hM64 o64 e64 f64
              have out64 := out48.trans o64
              refine s65 _ _ hM64 out64 (fun k h1 h2 => (f64 k h2).trans (f48 k h1)) (fun u hu => ?_) (fun u hu => ?_) hok hok2
              · rw [f64 17 (by decide), e48]
                simp only [upd, updZ]
                split
                · exact iI_of t
                · exact hP.so u hu
              · rw [e64, f48 18 (by decide)]
                simp only [upd, updN]
                (repeat' split) <;> first | rfl | (exfalso; omega) | exact tn_at (by omega) | exact hP.sz u hu
          · try simp (disch := omega) only [nI_bit0, nI_bit1, Bool.not_eq_false, Bool.not_eq_true] at c_36
            try simp (disch := omega) only [i_lt, i_le, i_eq, l_lt, l_le, l_eq, i_0, i_m1, l_0, nI_tI, iI_tI, lI_tI, Int.not_lt, Int.not_le] at c_36
            refine Wp.bipush (v := (-14)) dX12_sheet_39 (by decide) rfl ?_
            exact Wp.iret dX12_sheet_41 rfl (RQ.i (by simp (disch := omega) only [a_sheet, okL, okA, okWy, okPr, isO, okTl, okS, w01, okWn, okWh, isR, okF, isSh, okSh, okLy, okCp, nI_tI, iI_tI, tn_nI, nI_m1]; (repeat' split) <;> first | (exfalso; omega) | rfl) hM (by simp (disch := omega) only [t_sheet, okL, okA, okWy, okPr, isO, okTl, okS, w01, okWn, okWh, isR, okF, isSh, okSh, okLy, okCp, nI_tI, tn_nI]; (repeat' split) <;> first | (exfalso; omega) | exact hP) (Out.rfl (x := x) (h := h)))
      · try simp (disch := omega) only [nI_bit0, nI_bit1, Bool.not_eq_false, Bool.not_eq_true] at c_18
        try simp (disch := omega) only [i_lt, i_le, i_eq, l_lt, l_le, l_eq, i_0, i_m1, l_0, nI_tI, iI_tI, lI_tI, Int.not_lt, Int.not_le] at c_18
        refine Wp.iload_n dX12_sheet_21 rfl rfl ?_
        refine Wp.bipush (v := (nI 40)) dX12_sheet_22 (by decide) rfl ?_
        refine Wp.icmp_le (tgt := 30) (n := 27) dX12_sheet_24 (by decide) rfl (fun c_24 => ?_) (fun c_24 => ?_)
        · try simp (disch := omega) only [nI_bit0, nI_bit1, Bool.not_eq_false, Bool.not_eq_true] at c_24
          try simp (disch := omega) only [i_lt, i_le, i_eq, l_lt, l_le, l_eq, i_0, i_m1, l_0, nI_tI, iI_tI, lI_tI, Int.not_lt, Int.not_le] at c_24
          refine Wp.iload_n dX12_sheet_30 rfl rfl ?_
          refine Wp.iconst (v := (-1)) dX12_sheet_31 (by decide) rfl ?_
          refine Wp.icmp_eq (tgt := 42) (n := 35) dX12_sheet_32 (by decide) rfl (fun c_32 => ?_) (fun c_32 => ?_)
          · try simp (disch := omega) only [nI_bit0, nI_bit1, Bool.not_eq_false, Bool.not_eq_true] at c_32
            try simp (disch := omega) only [i_lt, i_le, i_eq, l_lt, l_le, l_eq, i_0, i_m1, l_0, nI_tI, iI_tI, lI_tI, Int.not_lt, Int.not_le] at c_32
            obtain ⟨a, rfl, ha, ha2⟩ := as_nI (o := s) (n := 4) (by omega)
            have ta := nI_tI ha2
            have hso := hW.so a ha
            have hsz := hW.sz a ha
            have hsm := hW.sm a ha
            have hok : okSh (nI a) t n := by simp (disch := omega) only [okSh, isSh, nI_tI]; omega
            have hok2 : ¬ (t.toInt ≠ -1 ∧ n.toInt < 0) := by omega
            have s65 : ∀ (h3 : ev_H) (G3 : Nat → Nat → Int32), MH h3 x V G3 Z → Out x h h3 → (∀ k, k ≠ 17 → k ≠ 18 → G3 k = G k) → (∀ s, s < 4 → G3 17 s = iI (updZ σ.so a t.toInt s)) → (∀ s, s < 4 → G3 18 s = nI (updN σ.sz a (if t.toInt = -1 then 0 else tn n) s)) → okSh (nI a) t n → ¬ (t.toInt ≠ -1 ∧ n.toInt < 0) → Wp B d M_X12_sheet 65 [some (.ref x), some (.int (nI a)), some (.int (t)), some (.int (n)), none] [] h3 (RQ x h (t_sheet σ (nI a) t n) (.int (a_sheet (nI a) t n))) := by
              intro h3 G3 hM3 hO3 hg h17 h18 hok hok2
              have loop : ∀ w, w ≤ 40 → ∀ (hh : ev_H) (Zi : Nat → Nat → Int64), MH hh x V G3 Zi → Out x h hh → (∀ k, k ≠ 19 → Zi k = Z k) → (∀ q, Zi 19 q = if 40 * a ≤ q ∧ q < 40 * a + w then 0 else Z 19 q) → Wp B d M_X12_sheet 68 [some (.ref x), some (.int (nI a)), some (.int (t)), some (.int (n)), some (.int (nI w))] [] hh (RQ x h (t_sheet σ (nI a) t n) (.int (a_sheet (nI a) t n))) := by
                refine ev_upl 40 (fun w hi ih => ?_) ?_
                · intro hh Zi hMi hOi hz hv
                  refine Wp.iload dX12_sheet_68 rfl rfl ?_
                  refine Wp.bipush (v := (nI 40)) dX12_sheet_70 (by decide) rfl ?_
                  refine Wp.icmp_ge (tgt := 94) (n := 75) dX12_sheet_72 (by decide) rfl (fun c_72 => ?_) (fun c_72 => ?_)
                  · try simp (disch := omega) only [nI_bit0, nI_bit1, Bool.not_eq_false, Bool.not_eq_true] at c_72
                    try simp (disch := omega) only [i_lt, i_le, i_eq, l_lt, l_le, l_eq, i_0, i_m1, l_0, nI_tI, iI_tI, lI_tI, Int.not_lt, Int.not_le] at c_72
                    omega
                  · try simp (disch := omega) only [nI_bit0, nI_bit1, Bool.not_eq_false, Bool.not_eq_true] at c_72
                    try simp (disch := omega) only [i_lt, i_le, i_eq, l_lt, l_le, l_eq, i_0, i_m1, l_0, nI_tI, iI_tI, lI_tI, Int.not_lt, Int.not_le] at c_72
                    refine Wp.aload_n dX12_sheet_75 rfl (by first | exact Or.inr ⟨_, rfl⟩ | exact Or.inl rfl) rfl ?_
                    refine Wp.get dX12_sheet_76 fl_X12_54 hMi.ob (hMi.rf 19 (by decide)) rfl ?_
                    refine Wp.bipush (v := (nI 40)) dX12_sheet_79 (by decide) rfl ?_
                    refine Wp.iload_n dX12_sheet_81 rfl rfl ?_
                    refine Wp.imul dX12_sheet_82 rfl ?_
                    refine Wp.iload dX12_sheet_83 rfl rfl ?_
                    refine Wp.iadd dX12_sheet_85 rfl ?_
                    refine Wp.lconst (v := 0) dX12_sheet_86 (by decide) rfl ?_
                    refine Wp.lastore dX12_sheet_87 (hMi.la 19 (by decide)) (nI_40s ha (by omega)) (by show _ < 160; omega) rfl ?_
                    refine hMi.stl (k := 19) (by decide) ?_
                    intro h87 Z87 hM87 o87 e87 f87
                    have out87 := hOi.trans o87
                    refine Wp.iinc (v := _ + (nI 1)) dX12_sheet_88 rfl rfl (Nat.le_of_ble_eq_true rfl) (by dsimp only [ev_st1, ev_cl] <;> rfl) rfl ?_
                    refine Wp.goto (n := 68) dX12_sheet_91 (by decide) ?_
                    rw [nI_add1]
                    refine ih _ _ hM87 out87 (fun k hk => (f87 k hk).trans (hz k hk)) (fun q => ?_)
                    rw [e87]
                    simp only [vp_updL]
                    by_cases e : q = 40 * a + w
                    · rw [if_pos e, if_pos (by omega)]
                    · rw [if_neg e, hv]
                      by_cases e2 : 40 * a ≤ q ∧ q < 40 * a + w
                      · rw [if_pos e2, if_pos (by omega)]
                      · rw [if_neg e2, if_neg (by omega)]
                · intro hh Zi hMi hOi hz hv
                  refine Wp.iload dX12_sheet_68 rfl rfl ?_
                  refine Wp.bipush (v := (nI 40)) dX12_sheet_70 (by decide) rfl ?_
                  refine Wp.icmp_ge (tgt := 94) (n := 75) dX12_sheet_72 (by decide) rfl (fun c_72 => ?_) (fun c_72 => ?_)
                  · try simp (disch := omega) only [nI_bit0, nI_bit1, Bool.not_eq_false, Bool.not_eq_true] at c_72
                    try simp (disch := omega) only [i_lt, i_le, i_eq, l_lt, l_le, l_eq, i_0, i_m1, l_0, nI_tI, iI_tI, lI_tI, Int.not_lt, Int.not_le] at c_72
                    refine Wp.iconst (v := (nI 1)) dX12_sheet_94 (by decide) rfl ?_
                    exact Wp.iret dX12_sheet_95 rfl (by
                      refine RQ.i (by rw [a_sheet, if_pos hok, if_neg hok2]; rfl) hMi ?_ hOi
                      rw [t_sheet, if_pos ⟨hok, hok2⟩, tn_nI ha2]
                      refine hP.chs hg (fun k _ h2 => hz k h2) h17 h18 (fun u k h1 h2 => ?_)
                      rw [hv]
                      by_cases e : u = a
                      · rw [if_pos (by omega), if_pos e]
                      · rw [if_neg (by omega), if_neg e]; exact hP.ce u k h1 h2)
                  · try simp (disch := omega) only [nI_bit0, nI_bit1, Bool.not_eq_false, Bool.not_eq_true] at c_72
                    try simp (disch := omega) only [i_lt, i_le, i_eq, l_lt, l_le, l_eq, i_0, i_m1, l_0, nI_tI, iI_tI, lI_tI, Int.not_lt, Int.not_le] at c_72
                    omega
              refine Wp.iconst (v := (nI 0)) dX12_sheet_65 (by decide) rfl ?_
              refine Wp.istore dX12_sheet_66 (Nat.le_of_ble_eq_true rfl) (by dsimp only [ev_st1, ev_st2, ev_cl] <;> rfl) rfl ?_
              exact loop 0 (by omega) h3 Z hM3 hO3 (fun _ _ => rfl) (fun q => by rw [if_neg (by omega)])
            refine Wp.aload_n dX12_sheet_42 rfl (by first | exact Or.inr ⟨_, rfl⟩ | exact Or.inl rfl) rfl ?_
            refine Wp.get dX12_sheet_43 fl_X12_48 hM.ob (hM.rf 17 (by decide)) rfl ?_
            refine Wp.iload_n dX12_sheet_46 rfl rfl ?_
            refine Wp.iload_n dX12_sheet_47 rfl rfl ?_
            refine Wp.iastore dX12_sheet_48 (hM.ia 17 (by decide)) (nI_toInt (by omega)) (by show _ < 4; omega) rfl ?_
            refine hM.sti (k := 17) (by decide) ?_
            intro h48 G48 hM48 o48 e48 f48
            have out48 := (Out.rfl (x := x) (h := h)).trans o48
            refine Wp.aload_n dX12_sheet_49 rfl (by first | exact Or.inr ⟨_, rfl⟩ | exact Or.inl rfl) rfl ?_
            refine Wp.get dX12_sheet_50 fl_X12_51 hM48.ob (hM48.rf 18 (by decide)) rfl ?_
            refine Wp.iload_n dX12_sheet_53 rfl rfl ?_
            refine Wp.iload_n dX12_sheet_54 rfl rfl ?_
            refine Wp.iconst (v := (-1)) dX12_sheet_55 (by decide) rfl ?_
            refine Wp.icmp_ne (tgt := 63) (n := 59) dX12_sheet_56 (by decide) rfl (fun c_56 => ?_) (fun c_56 => ?_)
            · try simp (disch := omega) only [nI_bit0, nI_bit1, Bool.not_eq_false, Bool.not_eq_true] at c_56
              try simp (disch := omega) only [i_lt, i_le, i_eq, l_lt, l_le, l_eq, i_0, i_m1, l_0, nI_tI, iI_tI, lI_tI, Int.not_lt, Int.not_le] at c_56
              refine Wp.iload_n dX12_sheet_63 rfl rfl ?_
              refine Wp.iastore dX12_sheet_64 (hM48.ia 18 (by decide)) (nI_toInt (by omega)) (by show _ < 4; omega) rfl ?_
              refine hM48.sti (k := 18) (by decide) ?_
              intro h64 G64 hM64 o64 e64 f64
              have out64 := out48.trans o64
              refine s65 _ _ hM64 out64 (fun k h1 h2 => (f64 k h2).trans (f48 k h1)) (fun u hu => ?_) (fun u hu => ?_) hok hok2
              · rw [f64 17 (by decide), e48]
                simp only [upd, updZ]
                split
                · exact iI_of t
                · exact hP.so u hu
              · rw [e64, f48 18 (by decide)]
                simp only [upd, updN]
                (repeat' split) <;> first | rfl | (exfalso; omega) | exact tn_at (by omega) | exact hP.sz u hu
            · try simp (disch := omega) only [nI_bit0, nI_bit1, Bool.not_eq_false, Bool.not_eq_true] at c_56
              try simp (disch := omega) only [i_lt, i_le, i_eq, l_lt, l_le, l_eq, i_0, i_m1, l_0, nI_tI, iI_tI, lI_tI, Int.not_lt, Int.not_le] at c_56
              refine Wp.iconst (v := (nI 0)) dX12_sheet_59 (by decide) rfl ?_
              refine Wp.goto (n := 64) dX12_sheet_60 (by decide) ?_
              refine Wp.iastore dX12_sheet_64 (hM48.ia 18 (by decide)) (nI_toInt (by omega)) (by show _ < 4; omega) rfl ?_
              refine hM48.sti (k := 18) (by decide) ?_
              intro h64 G64 hM64 o64 e64 f64
              have out64 := out48.trans o64
              refine s65 _ _ hM64 out64 (fun k h1 h2 => (f64 k h2).trans (f48 k h1)) (fun u hu => ?_) (fun u hu => ?_) hok hok2
              · rw [f64 17 (by decide), e48]
                simp only [upd, updZ]
                split
                · exact iI_of t
                · exact hP.so u hu
              · rw [e64, f48 18 (by decide)]
                simp only [upd, updN]
                (repeat' split) <;> first | rfl | (exfalso; omega) | exact tn_at (by omega) | exact hP.sz u hu
          · try simp (disch := omega) only [nI_bit0, nI_bit1, Bool.not_eq_false, Bool.not_eq_true] at c_32
            try simp (disch := omega) only [i_lt, i_le, i_eq, l_lt, l_le, l_eq, i_0, i_m1, l_0, nI_tI, iI_tI, lI_tI, Int.not_lt, Int.not_le] at c_32
            refine Wp.iload_n dX12_sheet_35 rfl rfl ?_
            refine Wp.if_ge (tgt := 42) (n := 39) dX12_sheet_36 (by decide) rfl (fun c_36 => ?_) (fun c_36 => ?_)
            · try simp (disch := omega) only [nI_bit0, nI_bit1, Bool.not_eq_false, Bool.not_eq_true] at c_36
              try simp (disch := omega) only [i_lt, i_le, i_eq, l_lt, l_le, l_eq, i_0, i_m1, l_0, nI_tI, iI_tI, lI_tI, Int.not_lt, Int.not_le] at c_36
              obtain ⟨a, rfl, ha, ha2⟩ := as_nI (o := s) (n := 4) (by omega)
              have ta := nI_tI ha2
              have hso := hW.so a ha
              have hsz := hW.sz a ha
              have hsm := hW.sm a ha
              have hok : okSh (nI a) t n := by simp (disch := omega) only [okSh, isSh, nI_tI]; omega
              have hok2 : ¬ (t.toInt ≠ -1 ∧ n.toInt < 0) := by omega
              have s65 : ∀ (h3 : ev_H) (G3 : Nat → Nat → Int32), MH h3 x V G3 Z → Out x h h3 → (∀ k, k ≠ 17 → k ≠ 18 → G3 k = G k) → (∀ s, s < 4 → G3 17 s = iI (updZ σ.so a t.toInt s)) → (∀ s, s < 4 → G3 18 s = nI (updN σ.sz a (if t.toInt = -1 then 0 else tn n) s)) → okSh (nI a) t n → ¬ (t.toInt ≠ -1 ∧ n.toInt < 0) → Wp B d M_X12_sheet 65 [some (.ref x), some (.int (nI a)), some (.int (t)), some (.int (n)), none] [] h3 (RQ x h (t_sheet σ (nI a) t n) (.int (a_sheet (nI a) t n))) := by
                intro h3 G3 hM3 hO3 hg h17 h18 hok hok2
                have loop : ∀ w, w ≤ 40 → ∀ (hh : ev_H) (Zi : Nat → Nat → Int64), MH hh x V G3 Zi → Out x h hh → (∀ k, k ≠ 19 → Zi k = Z k) → (∀ q, Zi 19 q = if 40 * a ≤ q ∧ q < 40 * a + w then 0 else Z 19 q) → Wp B d M_X12_sheet 68 [some (.ref x), some (.int (nI a)), some (.int (t)), some (.int (n)), some (.int (nI w))] [] hh (RQ x h (t_sheet σ (nI a) t n) (.int (a_sheet (nI a) t n))) := by
                  refine ev_upl 40 (fun w hi ih => ?_) ?_
                  · intro hh Zi hMi hOi hz hv
                    refine Wp.iload dX12_sheet_68 rfl rfl ?_
                    refine Wp.bipush (v := (nI 40)) dX12_sheet_70 (by decide) rfl ?_
                    refine Wp.icmp_ge (tgt := 94) (n := 75) dX12_sheet_72 (by decide) rfl (fun c_72 => ?_) (fun c_72 => ?_)
                    · try simp (disch := omega) only [nI_bit0, nI_bit1, Bool.not_eq_false, Bool.not_eq_true] at c_72
                      try simp (disch := omega) only [i_lt, i_le, i_eq, l_lt, l_le, l_eq, i_0, i_m1, l_0, nI_tI, iI_tI, lI_tI, Int.not_lt, Int.not_le] at c_72
                      omega
                    · try simp (disch := omega) only [nI_bit0, nI_bit1, Bool.not_eq_false, Bool.not_eq_true] at c_72
                      try simp (disch := omega) only [i_lt, i_le, i_eq, l_lt, l_le, l_eq, i_0, i_m1, l_0, nI_tI, iI_tI, lI_tI, Int.not_lt, Int.not_le] at c_72
                      refine Wp.aload_n dX12_sheet_75 rfl (by first | exact Or.inr ⟨_, rfl⟩ | exact Or.inl rfl) rfl ?_
                      refine Wp.get dX12_sheet_76 fl_X12_54 hMi.ob (hMi.rf 19 (by decide)) rfl ?_
                      refine Wp.bipush (v := (nI 40)) dX12_sheet_79 (by decide) rfl ?_
                      refine Wp.iload_n dX12_sheet_81 rfl rfl ?_
                      refine Wp.imul dX12_sheet_82 rfl ?_
                      refine Wp.iload dX12_sheet_83 rfl rfl ?_
                      refine Wp.iadd dX12_sheet_85 rfl ?_
                      refine Wp.lconst (v := 0) dX12_sheet_86 (by decide) rfl ?_
                      refine Wp.lastore dX12_sheet_87 (hMi.la 19 (by decide)) (nI_40s ha (by omega)) (by show _ < 160; omega) rfl ?_
                      refine hMi.stl (k := 19) (by decide) ?_
                      intro h87 Z87 hM87 o87 e87 f87
                      have out87 := hOi.trans o87
                      refine Wp.iinc (v := _ + (nI 1)) dX12_sheet_88 rfl rfl (Nat.le_of_ble_eq_true rfl) (by dsimp only [ev_st1, ev_cl] <;> rfl) rfl ?_
                      refine Wp.goto (n := 68) dX12_sheet_91 (by decide) ?_
                      rw [nI_add1]
                      refine ih _ _ hM87 out87 (fun k hk => (f87 k hk).trans (hz k hk)) (fun q => ?_)
                      rw [e87]
                      simp only [vp_updL]
                      by_cases e : q = 40 * a + w
                      · rw [if_pos e, if_pos (by omega)]
                      · rw [if_neg e, hv]
                        by_cases e2 : 40 * a ≤ q ∧ q < 40 * a + w
                        · rw [if_pos e2, if_pos (by omega)]
                        · rw [if_neg e2, if_neg (by omega)]
                  · intro hh Zi hMi hOi hz hv
                    refine Wp.iload dX12_sheet_68 rfl rfl ?_
                    refine Wp.bipush (v := (nI 40)) dX12_sheet_70 (by decide) rfl ?_
                    refine Wp.icmp_ge (tgt := 94) (n := 75) dX12_sheet_72 (by decide) rfl (fun c_72 => ?_) (fun c_72 => ?_)
                    · try simp (disch := omega) only [nI_bit0, nI_bit1, Bool.not_eq_false, Bool.not_eq_true] at c_72
                      try simp (disch := omega) only [i_lt, i_le, i_eq, l_lt, l_le, l_eq, i_0, i_m1, l_0, nI_tI, iI_tI, lI_tI, Int.not_lt, Int.not_le] at c_72
                      refine Wp.iconst (v := (nI 1)) dX12_sheet_94 (by decide) rfl ?_
                      exact Wp.iret dX12_sheet_95 rfl (by
                        refine RQ.i (by rw [a_sheet, if_pos hok, if_neg hok2]; rfl) hMi ?_ hOi
                        rw [t_sheet, if_pos ⟨hok, hok2⟩, tn_nI ha2]
                        refine hP.chs hg (fun k _ h2 => hz k h2) h17 h18 (fun u k h1 h2 => ?_)
                        rw [hv]
                        by_cases e : u = a
                        · rw [if_pos (by omega), if_pos e]
                        · rw [if_neg (by omega), if_neg e]; exact hP.ce u k h1 h2)
                    · try simp (disch := omega) only [nI_bit0, nI_bit1, Bool.not_eq_false, Bool.not_eq_true] at c_72
                      try simp (disch := omega) only [i_lt, i_le, i_eq, l_lt, l_le, l_eq, i_0, i_m1, l_0, nI_tI, iI_tI, lI_tI, Int.not_lt, Int.not_le] at c_72
                      omega
                refine Wp.iconst (v := (nI 0)) dX12_sheet_65 (by decide) rfl ?_
                refine Wp.istore dX12_sheet_66 (Nat.le_of_ble_eq_true rfl) (by dsimp only [ev_st1, ev_st2, ev_cl] <;> rfl) rfl ?_
                exact loop 0 (by omega) h3 Z hM3 hO3 (fun _ _ => rfl) (fun q => by rw [if_neg (by omega)])
              refine Wp.aload_n dX12_sheet_42 rfl (by first | exact Or.inr ⟨_, rfl⟩ | exact Or.inl rfl) rfl ?_
              refine Wp.get dX12_sheet_43 fl_X12_48 hM.ob (hM.rf 17 (by decide)) rfl ?_
              refine Wp.iload_n dX12_sheet_46 rfl rfl ?_
              refine Wp.iload_n dX12_sheet_47 rfl rfl ?_
              refine Wp.iastore dX12_sheet_48 (hM.ia 17 (by decide)) (nI_toInt (by omega)) (by show _ < 4; omega) rfl ?_
              refine hM.sti (k := 17) (by decide) ?_
              intro h48 G48 hM48 o48 e48 f48
              have out48 := (Out.rfl (x := x) (h := h)).trans o48
              refine Wp.aload_n dX12_sheet_49 rfl (by first | exact Or.inr ⟨_, rfl⟩ | exact Or.inl rfl) rfl ?_
              refine Wp.get dX12_sheet_50 fl_X12_51 hM48.ob (hM48.rf 18 (by decide)) rfl ?_
              refine Wp.iload_n dX12_sheet_53 rfl rfl ?_
              refine Wp.iload_n dX12_sheet_54 rfl rfl ?_
              refine Wp.iconst (v := (-1)) dX12_sheet_55 (by decide) rfl ?_
              refine Wp.icmp_ne (tgt := 63) (n := 59) dX12_sheet_56 (by decide) rfl (fun c_56 => ?_) (fun c_56 => ?_)
              · try simp (disch := omega) only [nI_bit0, nI_bit1, Bool.not_eq_false, Bool.not_eq_true] at c_56
                try simp (disch := omega) only [i_lt, i_le, i_eq, l_lt, l_le, l_eq, i_0, i_m1, l_0, nI_tI, iI_tI, lI_tI, Int.not_lt, Int.not_le] at c_56
                refine Wp.iload_n dX12_sheet_63 rfl rfl ?_
                refine Wp.iastore dX12_sheet_64 (hM48.ia 18 (by decide)) (nI_toInt (by omega)) (by show _ < 4; omega) rfl ?_
                refine hM48.sti (k := 18) (by decide) ?_
                intro h64 G64 hM64 o64 e64 f64
                have out64 := out48.trans o64
                refine s65 _ _ hM64 out64 (fun k h1 h2 => (f64 k h2).trans (f48 k h1)) (fun u hu => ?_) (fun u hu => ?_) hok hok2
                · rw [f64 17 (by decide), e48]
                  simp only [upd, updZ]
                  split
                  · exact iI_of t
                  · exact hP.so u hu
                · rw [e64, f48 18 (by decide)]
                  simp only [upd, updN]
                  (repeat' split) <;> first | rfl | (exfalso; omega) | exact tn_at (by omega) | exact hP.sz u hu
              · try simp (disch := omega) only [nI_bit0, nI_bit1, Bool.not_eq_false, Bool.not_eq_true] at c_56
                try simp (disch := omega) only [i_lt, i_le, i_eq, l_lt, l_le, l_eq, i_0, i_m1, l_0, nI_tI, iI_tI, lI_tI, Int.not_lt, Int.not_le] at c_56
                refine Wp.iconst (v := (nI 0)) dX12_sheet_59 (by decide) rfl ?_
                refine Wp.goto (n := 64) dX12_sheet_60 (by decide) ?_
                refine Wp.iastore dX12_sheet_64 (hM48.ia 18 (by decide)) (nI_toInt (by omega)) (by show _ < 4; omega) rfl ?_
                refine hM48.sti (k := 18) (by decide) ?_
                intro h64 G64 hM64 o64 e64 f64
                have out64 := out48.trans o64
                refine s65 _ _ hM64 out64 (fun k h1 h2 => (f64 k h2).trans (f48 k h1)) (fun u hu => ?_) (fun u hu => ?_) hok hok2
                · rw [f64 17 (by decide), e48]
                  simp only [upd, updZ]
                  split
                  · exact iI_of t
                  · exact hP.so u hu
                · rw [e64, f48 18 (by decide)]
                  simp only [upd, updN]
                  (repeat' split) <;> first | rfl | (exfalso; omega) | exact tn_at (by omega) | exact hP.sz u hu
            · try simp (disch := omega) only [nI_bit0, nI_bit1, Bool.not_eq_false, Bool.not_eq_true] at c_36
              try simp (disch := omega) only [i_lt, i_le, i_eq, l_lt, l_le, l_eq, i_0, i_m1, l_0, nI_tI, iI_tI, lI_tI, Int.not_lt, Int.not_le] at c_36
              refine Wp.bipush (v := (-14)) dX12_sheet_39 (by decide) rfl ?_
              exact Wp.iret dX12_sheet_41 rfl (RQ.i (by simp (disch := omega) only [a_sheet, okL, okA, okWy, okPr, isO, okTl, okS, w01, okWn, okWh, isR, okF, isSh, okSh, okLy, okCp, nI_tI, iI_tI, tn_nI, nI_m1]; (repeat' split) <;> first | (exfalso; omega) | rfl) hM (by simp (disch := omega) only [t_sheet, okL, okA, okWy, okPr, isO, okTl, okS, w01, okWn, okWh, isR, okF, isSh, okSh, okLy, okCp, nI_tI, tn_nI]; (repeat' split) <;> first | (exfalso; omega) | exact hP) (Out.rfl (x := x) (h := h)))
        · try simp (disch := omega) only [nI_bit0, nI_bit1, Bool.not_eq_false, Bool.not_eq_true] at c_24
          try simp (disch := omega) only [i_lt, i_le, i_eq, l_lt, l_le, l_eq, i_0, i_m1, l_0, nI_tI, iI_tI, lI_tI, Int.not_lt, Int.not_le] at c_24
          refine Wp.bipush (v := (-2)) dX12_sheet_27 (by decide) rfl ?_
          exact Wp.iret dX12_sheet_29 rfl (RQ.i (by simp (disch := omega) only [a_sheet, okL, okA, okWy, okPr, isO, okTl, okS, w01, okWn, okWh, isR, okF, isSh, okSh, okLy, okCp, nI_tI, iI_tI, tn_nI, nI_m1]; (repeat' split) <;> first | (exfalso; omega) | rfl) hM (by simp (disch := omega) only [t_sheet, okL, okA, okWy, okPr, isO, okTl, okS, w01, okWn, okWh, isR, okF, isSh, okSh, okLy, okCp, nI_tI, tn_nI]; (repeat' split) <;> first | (exfalso; omega) | exact hP) (Out.rfl (x := x) (h := h)))
set_option maxHeartbeats 2000000 in
theorem c_X12_cell {B : ev_B} {d x : Nat} {h : ev_H} {V : Nat → Value} {G : Nat → Nat → Int32} {Z : Nat → Nat → Int64} {σ : Sg} {s i v : Int32} (hM : MH h x V G Z) (hP : PM σ V G Z) (hW : Wf σ) (hd : 3 ≤ d) :
    Wp B d M_X12_cell 0 [some (.ref x), some (.int (s)), some (.int (i)), some (.int (v))] [] h (RQ x h (t_cell σ s i v) (.int (a_cell σ s i))) := by
  have hn := hW.n
  have hT := hW.net.1
  have hL := hW.net.2.1
  refine Wp.iload_n dX12_cell_0 rfl rfl ?_
  refine Wp.cS dX12_cell_1 cs_X12_293 rfl (by omega) rfl (Nat.le_of_ble_eq_true rfl) (Nat.le_of_ble_eq_true rfl) rfl (c_X12_isSheet (d := d - 1) (by omega)) ?_
  rintro _ h_ ⟨rfl, e_⟩
  rw [e_]
  clear e_ h_
  dsimp only [Option.toList, List.drop, List.cons_append, List.nil_append]
  refine Wp.bif_ne (tgt := 10) (n := 7) dX12_cell_4 (by decide) rfl (fun c_4 => ?_) (fun c_4 => ?_)
  · try simp only [decide_eq_true_eq, decide_eq_false_iff_not, Bool.and_eq_true, bI_0, bI_n0] at c_4
    obtain ⟨a, rfl, ha, ha2⟩ := as_nI (o := s) (n := 4) (by omega)
    have ta := nI_tI ha2
    have hso := hW.so a ha
    have hsz := hW.sz a ha
    have hsm := hW.sm a ha
    refine Wp.aload_n dX12_cell_10 rfl (by first | exact Or.inr ⟨_, rfl⟩ | exact Or.inl rfl) rfl ?_
    refine Wp.get dX12_cell_11 fl_X12_48 hM.ob (hM.rf 17 (by decide)) rfl ?_
    refine Wp.iload_n dX12_cell_14 rfl rfl ?_
    refine Wp.iaload dX12_cell_15 (hM.ia 17 (by decide)) (nI_toInt (by omega)) (by show _ < 4; omega) rfl ?_
    rw [hP.so a ha]
    refine Wp.iconst (v := (-1)) dX12_cell_16 (by decide) rfl ?_
    refine Wp.icmp_ne (tgt := 23) (n := 20) dX12_cell_17 (by decide) rfl (fun c_17 => ?_) (fun c_17 => ?_)
    · try simp (disch := omega) only [nI_bit0, nI_bit1, Bool.not_eq_false, Bool.not_eq_true] at c_17
      try simp (disch := omega) only [i_lt, i_le, i_eq, l_lt, l_le, l_eq, i_0, i_m1, l_0, nI_tI, iI_tI, lI_tI, Int.not_lt, Int.not_le] at c_17
      refine Wp.iload_n dX12_cell_23 rfl rfl ?_
      refine Wp.iconst (v := (nI 0)) dX12_cell_24 (by decide) rfl ?_
      refine Wp.aload_n dX12_cell_25 rfl (by first | exact Or.inr ⟨_, rfl⟩ | exact Or.inl rfl) rfl ?_
      refine Wp.get dX12_cell_26 fl_X12_51 hM.ob (hM.rf 18 (by decide)) rfl ?_
      refine Wp.iload_n dX12_cell_29 rfl rfl ?_
      refine Wp.iaload dX12_cell_30 (hM.ia 18 (by decide)) (nI_toInt (by omega)) (by show _ < 4; omega) rfl ?_
      rw [hP.sz a ha]
      refine Wp.iconst (v := (nI 1)) dX12_cell_31 (by decide) rfl ?_
      refine Wp.isub dX12_cell_32 rfl ?_
      refine Wp.cS dX12_cell_33 cs_X12_85 rfl (by omega) rfl (Nat.le_of_ble_eq_true rfl) (Nat.le_of_ble_eq_true rfl) rfl (c_X12_in (d := d - 1)) ?_
      rintro _ h_ ⟨rfl, e_⟩
      rw [e_]
      clear e_ h_
      dsimp only [Option.toList, List.drop, List.cons_append, List.nil_append]
      try simp (disch := omega) only [nI_m1, nI_tI, i_0]
      refine Wp.bif_ne (tgt := 42) (n := 39) dX12_cell_36 (by decide) rfl (fun c_36 => ?_) (fun c_36 => ?_)
      · try simp only [decide_eq_true_eq, decide_eq_false_iff_not, Bool.and_eq_true, bI_0, bI_n0] at c_36
        obtain ⟨b, rfl, hb, hb2⟩ := as_nI (o := i) (n := 40) (by omega)
        have tb := nI_tI hb2
        refine Wp.aload_n dX12_cell_42 rfl (by first | exact Or.inr ⟨_, rfl⟩ | exact Or.inl rfl) rfl ?_
        refine Wp.get dX12_cell_43 fl_X12_54 hM.ob (hM.rf 19 (by decide)) rfl ?_
        refine Wp.bipush (v := (nI 40)) dX12_cell_46 (by decide) rfl ?_
        refine Wp.iload_n dX12_cell_48 rfl rfl ?_
        refine Wp.imul dX12_cell_49 rfl ?_
        refine Wp.iload_n dX12_cell_50 rfl rfl ?_
        refine Wp.iadd dX12_cell_51 rfl ?_
        refine Wp.aload_n dX12_cell_52 rfl (by first | exact Or.inr ⟨_, rfl⟩ | exact Or.inl rfl) rfl ?_
        refine Wp.get dX12_cell_53 fl_X12_48 hM.ob (hM.rf 17 (by decide)) rfl ?_
        refine Wp.iload_n dX12_cell_56 rfl rfl ?_
        refine Wp.iaload dX12_cell_57 (hM.ia 17 (by decide)) (nI_toInt (by omega)) (by show _ < 4; omega) rfl ?_
        rw [hP.so a ha]
        refine Wp.if_ne (tgt := 67) (n := 61) dX12_cell_58 (by decide) rfl (fun c_58 => ?_) (fun c_58 => ?_)
        · have c_58 : σ.so a ≠ 0 := fun z => c_58 (by rw [z]; rfl)
          refine Wp.iload_n dX12_cell_67 rfl rfl ?_
          refine Wp.i2l dX12_cell_68 rfl ?_
          refine Wp.lastore dX12_cell_69 (hM.la 19 (by decide)) (nI_40s ha (by omega)) (by show _ < 160; omega) rfl ?_
          refine hM.stl (k := 19) (by decide) ?_
          intro h69 Z69 hM69 o69 e69 f69
          have out69 := (Out.rfl (x := x) (h := h)).trans o69
          refine Wp.iconst (v := (nI 1)) dX12_cell_70 (by decide) rfl ?_
          exact Wp.iret dX12_cell_71 rfl (by
            have hok : isSh (nI a) ∧ σ.so (tn (nI a)) ≠ -1 ∧ 0 ≤ (nI b).toInt ∧ (nI b).toInt < σ.sz (tn (nI a)) := by simp (disch := omega) only [isSh, nI_tI, tn_nI]; omega
            refine RQ.i (by rw [a_cell, if_pos hok.1, tn_nI ha2, if_neg (by omega), if_pos (by omega)]; rfl) hM69 ?_ out69
            rw [t_cell, if_pos hok, tn_nI ha2, tn_nI hb2]
            refine hP.chs (fun _ _ _ => rfl) (fun k _ h2 => f69 k h2) hP.so hP.sz (fun u k h1 h2 => ?_)
            rw [e69]
            simp only [vp_updL]
            by_cases e : 40 * u + k = 40 * a + b
            · rw [if_pos e, if_pos (by omega)]; first | rw [if_pos c_58] | rw [if_neg c_58]
            · rw [if_neg e, if_neg (by omega)]; exact hP.ce u k h1 h2)
        · have c_58 : σ.so a = 0 := by
            have e_ := c_58
            rw [show (0 : Int32) = iI 0 from rfl] at e_
            exact (iI_eq (by omega) (by omega) (by decide) (by decide)).mp e_
          refine Wp.iload_n dX12_cell_61 rfl rfl ?_
          refine Wp.i2b dX12_cell_62 rfl ?_
          refine Wp.i2l dX12_cell_63 rfl ?_
          refine Wp.goto (n := 69) dX12_cell_64 (by decide) ?_
          refine Wp.lastore dX12_cell_69 (hM.la 19 (by decide)) (nI_40s ha (by omega)) (by show _ < 160; omega) rfl ?_
          refine hM.stl (k := 19) (by decide) ?_
          intro h69 Z69 hM69 o69 e69 f69
          have out69 := (Out.rfl (x := x) (h := h)).trans o69
          refine Wp.iconst (v := (nI 1)) dX12_cell_70 (by decide) rfl ?_
          exact Wp.iret dX12_cell_71 rfl (by
            have hok : isSh (nI a) ∧ σ.so (tn (nI a)) ≠ -1 ∧ 0 ≤ (nI b).toInt ∧ (nI b).toInt < σ.sz (tn (nI a)) := by simp (disch := omega) only [isSh, nI_tI, tn_nI]; omega
            refine RQ.i (by rw [a_cell, if_pos hok.1, tn_nI ha2, if_neg (by omega), if_pos (by omega)]; rfl) hM69 ?_ out69
            rw [t_cell, if_pos hok, tn_nI ha2, tn_nI hb2]
            refine hP.chs (fun _ _ _ => rfl) (fun k _ h2 => f69 k h2) hP.so hP.sz (fun u k h1 h2 => ?_)
            rw [e69]
            simp only [vp_updL]
            by_cases e : 40 * u + k = 40 * a + b
            · rw [if_pos e, if_pos (by omega)]; first | rw [if_pos c_58] | rw [if_neg c_58]
            · rw [if_neg e, if_neg (by omega)]; exact hP.ce u k h1 h2)
      · try simp only [decide_eq_true_eq, decide_eq_false_iff_not, Bool.and_eq_true, bI_0, bI_n0] at c_36
        refine Wp.bipush (v := (-12)) dX12_cell_39 (by decide) rfl ?_
        exact Wp.iret dX12_cell_41 rfl (RQ.i (by simp (disch := omega) only [a_cell, okL, okA, okWy, okPr, isO, okTl, okS, w01, okWn, okWh, isR, okF, isSh, okSh, okLy, okCp, nI_tI, iI_tI, tn_nI, nI_m1]; (repeat' split) <;> first | (exfalso; omega) | rfl) hM (by simp (disch := omega) only [t_cell, okL, okA, okWy, okPr, isO, okTl, okS, w01, okWn, okWh, isR, okF, isSh, okSh, okLy, okCp, nI_tI, tn_nI]; (repeat' split) <;> first | (exfalso; omega) | exact hP) (Out.rfl (x := x) (h := h)))
    · try simp (disch := omega) only [nI_bit0, nI_bit1, Bool.not_eq_false, Bool.not_eq_true] at c_17
      try simp (disch := omega) only [i_lt, i_le, i_eq, l_lt, l_le, l_eq, i_0, i_m1, l_0, nI_tI, iI_tI, lI_tI, Int.not_lt, Int.not_le] at c_17
      refine Wp.bipush (v := (-11)) dX12_cell_20 (by decide) rfl ?_
      exact Wp.iret dX12_cell_22 rfl (RQ.i (by simp (disch := omega) only [a_cell, okL, okA, okWy, okPr, isO, okTl, okS, w01, okWn, okWh, isR, okF, isSh, okSh, okLy, okCp, nI_tI, iI_tI, tn_nI, nI_m1]; (repeat' split) <;> first | (exfalso; omega) | rfl) hM (by simp (disch := omega) only [t_cell, okL, okA, okWy, okPr, isO, okTl, okS, w01, okWn, okWh, isR, okF, isSh, okSh, okLy, okCp, nI_tI, tn_nI]; (repeat' split) <;> first | (exfalso; omega) | exact hP) (Out.rfl (x := x) (h := h)))
  · try simp only [decide_eq_true_eq, decide_eq_false_iff_not, Bool.and_eq_true, bI_0, bI_n0] at c_4
    refine Wp.bipush (v := (-2)) dX12_cell_7 (by decide) rfl ?_
    exact Wp.iret dX12_cell_9 rfl (RQ.i (by simp (disch := omega) only [a_cell, okL, okA, okWy, okPr, isO, okTl, okS, w01, okWn, okWh, isR, okF, isSh, okSh, okLy, okCp, nI_tI, iI_tI, tn_nI, nI_m1]; (repeat' split) <;> first | (exfalso; omega) | rfl) hM (by simp (disch := omega) only [t_cell, okL, okA, okWy, okPr, isO, okTl, okS, w01, okWn, okWh, isR, okF, isSh, okSh, okLy, okCp, nI_tI, tn_nI]; (repeat' split) <;> first | (exfalso; omega) | exact hP) (Out.rfl (x := x) (h := h)))
set_option maxHeartbeats 2000000 in
theorem c_X12_lay {B : ev_B} {d x : Nat} {h : ev_H} {V : Nat → Value} {G : Nat → Nat → Int32} {Z : Nat → Nat → Int64} {σ : Sg} {s t i : Int32} (hM : MH h x V G Z) (hP : PM σ V G Z) (hW : Wf σ) (hd : 3 ≤ d) :
    Wp B d M_X12_lay 0 [some (.ref x), some (.int (s)), some (.int (t)), some (.int (i)), none] [] h (RQ x h (t_layS σ s t i) (.int (a_lay σ s t i))) := by
  have hn := hW.n
  have hT := hW.net.1
  have hL := hW.net.2.1
  refine Wp.iload_n dX12_lay_0 rfl rfl ?_
  refine Wp.cS dX12_lay_1 cs_X12_293 rfl (by omega) rfl (Nat.le_of_ble_eq_true rfl) (Nat.le_of_ble_eq_true rfl) rfl (c_X12_isSheet (d := d - 1) (by omega)) ?_
  rintro _ h_ ⟨rfl, e_⟩
  rw [e_]
  clear e_ h_
  dsimp only [Option.toList, List.drop, List.cons_append, List.nil_append]
  refine Wp.bif_eq (tgt := 16) (n := 7) dX12_lay_4 (by decide) rfl (fun c_4 => ?_) (fun c_4 => ?_)
  · try simp only [decide_eq_true_eq, decide_eq_false_iff_not, Bool.and_eq_true, bI_0, bI_n0] at c_4
    refine Wp.bipush (v := (-2)) dX12_lay_16 (by decide) rfl ?_
    exact Wp.iret dX12_lay_18 rfl (RQ.i (by simp (disch := omega) only [a_lay, okL, okA, okWy, okPr, isO, okTl, okS, w01, okWn, okWh, isR, okF, isSh, okSh, okLy, okCp, nI_tI, iI_tI, tn_nI, nI_m1]; (repeat' split) <;> first | (exfalso; omega) | rfl) hM (by simp (disch := omega) only [t_layS, okL, okA, okWy, okPr, isO, okTl, okS, w01, okWn, okWh, isR, okF, isSh, okSh, okLy, okCp, nI_tI, tn_nI]; (repeat' split) <;> first | (exfalso; omega) | exact hP) (Out.rfl (x := x) (h := h)))
  · try simp only [decide_eq_true_eq, decide_eq_false_iff_not, Bool.and_eq_true, bI_0, bI_n0] at c_4
    refine Wp.iload_n dX12_lay_7 rfl rfl ?_
    refine Wp.iconst (v := (nI 0)) dX12_lay_8 (by decide) rfl ?_
    refine Wp.iconst (v := (nI 2)) dX12_lay_9 (by decide) rfl ?_
    refine Wp.cS dX12_lay_10 cs_X12_85 rfl (by omega) rfl (Nat.le_of_ble_eq_true rfl) (Nat.le_of_ble_eq_true rfl) rfl (c_X12_in (d := d - 1)) ?_
    rintro _ h_ ⟨rfl, e_⟩
    rw [e_]
    clear e_ h_
    dsimp only [Option.toList, List.drop, List.cons_append, List.nil_append]
    rw [show (nI 0 : Int32).toInt = 0 by decide, show (nI 2 : Int32).toInt = 2 by decide]
    refine Wp.bif_ne (tgt := 19) (n := 16) dX12_lay_13 (by decide) rfl (fun c_13 => ?_) (fun c_13 => ?_)
    · try simp only [decide_eq_true_eq, decide_eq_false_iff_not, Bool.and_eq_true, bI_0, bI_n0] at c_13
      obtain ⟨a, rfl, ha, ha2⟩ := as_nI (o := s) (n := 4) (by omega)
      have ta := nI_tI ha2
      have hso := hW.so a ha
      have hsz := hW.sz a ha
      have hsm := hW.sm a ha
      refine Wp.aload_n dX12_lay_19 rfl (by first | exact Or.inr ⟨_, rfl⟩ | exact Or.inl rfl) rfl ?_
      refine Wp.get dX12_lay_20 fl_X12_48 hM.ob (hM.rf 17 (by decide)) rfl ?_
      refine Wp.iload_n dX12_lay_23 rfl rfl ?_
      refine Wp.iaload dX12_lay_24 (hM.ia 17 (by decide)) (nI_toInt (by omega)) (by show _ < 4; omega) rfl ?_
      rw [hP.so a ha]
      refine Wp.iconst (v := (-1)) dX12_lay_25 (by decide) rfl ?_
      refine Wp.icmp_eq (tgt := 42) (n := 29) dX12_lay_26 (by decide) rfl (fun c_26 => ?_) (fun c_26 => ?_)
      · try simp (disch := omega) only [nI_bit0, nI_bit1, Bool.not_eq_false, Bool.not_eq_true] at c_26
        try simp (disch := omega) only [i_lt, i_le, i_eq, l_lt, l_le, l_eq, i_0, i_m1, l_0, nI_tI, iI_tI, lI_tI, Int.not_lt, Int.not_le] at c_26
        refine Wp.aload_n dX12_lay_42 rfl (by first | exact Or.inr ⟨_, rfl⟩ | exact Or.inl rfl) rfl ?_
        refine Wp.get dX12_lay_43 fl_X12_48 hM.ob (hM.rf 17 (by decide)) rfl ?_
        refine Wp.iload_n dX12_lay_46 rfl rfl ?_
        refine Wp.iaload dX12_lay_47 (hM.ia 17 (by decide)) (nI_toInt (by omega)) (by show _ < 4; omega) rfl ?_
        rw [hP.so a ha]
        refine Wp.iconst (v := (-1)) dX12_lay_48 (by decide) rfl ?_
        refine Wp.icmp_ne (tgt := 55) (n := 52) dX12_lay_49 (by decide) rfl (fun c_49 => ?_) (fun c_49 => ?_)
        · try simp (disch := omega) only [nI_bit0, nI_bit1, Bool.not_eq_false, Bool.not_eq_true] at c_49
          try simp (disch := omega) only [i_lt, i_le, i_eq, l_lt, l_le, l_eq, i_0, i_m1, l_0, nI_tI, iI_tI, lI_tI, Int.not_lt, Int.not_le] at c_49
          refine Wp.iload_n dX12_lay_55 rfl rfl ?_
          refine Wp.if_lt (tgt := 71) (n := 59) dX12_lay_56 (by decide) rfl (fun c_56 => ?_) (fun c_56 => ?_)
          · try simp (disch := omega) only [nI_bit0, nI_bit1, Bool.not_eq_false, Bool.not_eq_true] at c_56
            try simp (disch := omega) only [i_lt, i_le, i_eq, l_lt, l_le, l_eq, i_0, i_m1, l_0, nI_tI, iI_tI, lI_tI, Int.not_lt, Int.not_le] at c_56
            refine Wp.bipush (v := (-12)) dX12_lay_71 (by decide) rfl ?_
            exact Wp.iret dX12_lay_73 rfl (RQ.i (by simp (disch := omega) only [a_lay, okL, okA, okWy, okPr, isO, okTl, okS, w01, okWn, okWh, isR, okF, isSh, okSh, okLy, okCp, nI_tI, iI_tI, tn_nI, nI_m1]; (repeat' split) <;> first | (exfalso; omega) | rfl) hM (by simp (disch := omega) only [t_layS, okL, okA, okWy, okPr, isO, okTl, okS, w01, okWn, okWh, isR, okF, isSh, okSh, okLy, okCp, nI_tI, tn_nI]; (repeat' split) <;> first | (exfalso; omega) | exact hP) (Out.rfl (x := x) (h := h)))
          · try simp (disch := omega) only [nI_bit0, nI_bit1, Bool.not_eq_false, Bool.not_eq_true] at c_56
            try simp (disch := omega) only [i_lt, i_le, i_eq, l_lt, l_le, l_eq, i_0, i_m1, l_0, nI_tI, iI_tI, lI_tI, Int.not_lt, Int.not_le] at c_56
            refine Wp.iload_n dX12_lay_59 rfl rfl ?_
            refine Wp.aload_n dX12_lay_60 rfl (by first | exact Or.inr ⟨_, rfl⟩ | exact Or.inl rfl) rfl ?_
            refine Wp.get dX12_lay_61 fl_X12_51 hM.ob (hM.rf 18 (by decide)) rfl ?_
            refine Wp.iload_n dX12_lay_64 rfl rfl ?_
            refine Wp.iaload dX12_lay_65 (hM.ia 18 (by decide)) (nI_toInt (by omega)) (by show _ < 4; omega) rfl ?_
            rw [hP.sz a ha]
            refine Wp.iconst (v := (nI 4)) dX12_lay_66 (by decide) rfl ?_
            refine Wp.isub dX12_lay_67 rfl ?_
            rw [show nI (σ.sz a) - nI 4 = iI ((σ.sz a : Int) - 4) by rw [nI_iI, nI_iI, iI_sub]; rfl]
            refine Wp.icmp_le (tgt := 74) (n := 71) dX12_lay_68 (by decide) rfl (fun c_68 => ?_) (fun c_68 => ?_)
            · try simp (disch := omega) only [nI_bit0, nI_bit1, Bool.not_eq_false, Bool.not_eq_true] at c_68
              try simp (disch := omega) only [i_lt, i_le, i_eq, l_lt, l_le, l_eq, i_0, i_m1, l_0, nI_tI, iI_tI, lI_tI, Int.not_lt, Int.not_le] at c_68
              obtain ⟨b, rfl, hb, hb2⟩ := as_nI (o := i) (n := 40) (by omega)
              have tb := nI_tI hb2
              refine Wp.bipush (v := (nI 40)) dX12_lay_74 (by decide) rfl ?_
              refine Wp.iload_n dX12_lay_76 rfl rfl ?_
              refine Wp.imul dX12_lay_77 rfl ?_
              refine Wp.iload_n dX12_lay_78 rfl rfl ?_
              refine Wp.iadd dX12_lay_79 rfl ?_
              refine Wp.istore dX12_lay_80 (Nat.le_of_ble_eq_true rfl) (by dsimp only [ev_st1, ev_st2, ev_cl] <;> rfl) rfl ?_
              refine Wp.aload_n dX12_lay_82 rfl (by first | exact Or.inr ⟨_, rfl⟩ | exact Or.inl rfl) rfl ?_
              refine Wp.aload_n dX12_lay_83 rfl (by first | exact Or.inr ⟨_, rfl⟩ | exact Or.inl rfl) rfl ?_
              refine Wp.get dX12_lay_84 fl_X12_54 hM.ob (hM.rf 19 (by decide)) rfl ?_
              refine Wp.iload dX12_lay_87 rfl rfl ?_
              refine Wp.laload dX12_lay_89 (hM.la 19 (by decide)) (nI_40s ha (by omega)) (by show _ < 160; omega) rfl ?_
              rw [show 40 * a + b = 40 * a + (b + 0) by omega, hP.ce a (b + 0) ha (by omega)]
              refine Wp.l2i dX12_lay_90 rfl ?_
              refine Wp.aload_n dX12_lay_91 rfl (by first | exact Or.inr ⟨_, rfl⟩ | exact Or.inl rfl) rfl ?_
              refine Wp.get dX12_lay_92 fl_X12_54 hM.ob (hM.rf 19 (by decide)) rfl ?_
              refine Wp.iload dX12_lay_95 rfl rfl ?_
              refine Wp.iconst (v := (nI 1)) dX12_lay_97 (by decide) rfl ?_
              refine Wp.iadd dX12_lay_98 rfl ?_
              refine Wp.laload dX12_lay_99 (hM.la 19 (by decide)) (nI_40t (k := 1) ha (by omega) (by decide)) (by show _ < 160; omega) rfl ?_
              rw [show 40 * a + b + 1 = 40 * a + (b + 1) by omega, hP.ce a (b + 1) ha (by omega)]
              refine Wp.l2i dX12_lay_100 rfl ?_
              refine Wp.aload_n dX12_lay_101 rfl (by first | exact Or.inr ⟨_, rfl⟩ | exact Or.inl rfl) rfl ?_
              refine Wp.get dX12_lay_102 fl_X12_54 hM.ob (hM.rf 19 (by decide)) rfl ?_
              refine Wp.iload dX12_lay_105 rfl rfl ?_
              refine Wp.iconst (v := (nI 2)) dX12_lay_107 (by decide) rfl ?_
              refine Wp.iadd dX12_lay_108 rfl ?_
              refine Wp.laload dX12_lay_109 (hM.la 19 (by decide)) (nI_40t (k := 2) ha (by omega) (by decide)) (by show _ < 160; omega) rfl ?_
              rw [show 40 * a + b + 2 = 40 * a + (b + 2) by omega, hP.ce a (b + 2) ha (by omega)]
              refine Wp.l2i dX12_lay_110 rfl ?_
              refine Wp.aload_n dX12_lay_111 rfl (by first | exact Or.inr ⟨_, rfl⟩ | exact Or.inl rfl) rfl ?_
              refine Wp.get dX12_lay_112 fl_X12_54 hM.ob (hM.rf 19 (by decide)) rfl ?_
              refine Wp.iload dX12_lay_115 rfl rfl ?_
              refine Wp.iconst (v := (nI 3)) dX12_lay_117 (by decide) rfl ?_
              refine Wp.iadd dX12_lay_118 rfl ?_
              refine Wp.laload dX12_lay_119 (hM.la 19 (by decide)) (nI_40t (k := 3) ha (by omega) (by decide)) (by show _ < 160; omega) rfl ?_
              rw [show 40 * a + b + 3 = 40 * a + (b + 3) by omega, hP.ce a (b + 3) ha (by omega)]
              refine Wp.l2i dX12_lay_120 rfl ?_
              refine Wp.cV dX12_lay_121 cv_X12_296 rfl (by omega) rfl (Nat.le_of_ble_eq_true rfl) (Nat.le_of_ble_eq_true rfl) hM.ob rfl (c_X12_line (d := d - 1) hM hP hW (by omega)) ?_
              rintro _ h1 ⟨rfl, V1, G1, Z1, hM1, hP1, o1⟩
              dsimp only [Option.toList, List.drop, List.cons_append, List.nil_append]
              exact Wp.iret dX12_lay_124 rfl (by
                have hok : okLy σ (nI a) t (nI b) := by simp (disch := omega) only [okLy, isSh, nI_tI, tn_nI]; omega
                rw [a_lay, t_layS, if_pos hok, if_pos hok.1, if_neg (by rw [tn_nI ha2]; omega), if_neg (by rw [tn_nI ha2]; omega), if_pos hok.2.2]
                simp (disch := omega) only [cI, tn_nI]
                exact ⟨rfl, V1, G1, Z1, hM1, hP1, o1⟩)
            · try simp (disch := omega) only [nI_bit0, nI_bit1, Bool.not_eq_false, Bool.not_eq_true] at c_68
              try simp (disch := omega) only [i_lt, i_le, i_eq, l_lt, l_le, l_eq, i_0, i_m1, l_0, nI_tI, iI_tI, lI_tI, Int.not_lt, Int.not_le] at c_68
              refine Wp.bipush (v := (-12)) dX12_lay_71 (by decide) rfl ?_
              exact Wp.iret dX12_lay_73 rfl (RQ.i (by simp (disch := omega) only [a_lay, okL, okA, okWy, okPr, isO, okTl, okS, w01, okWn, okWh, isR, okF, isSh, okSh, okLy, okCp, nI_tI, iI_tI, tn_nI, nI_m1]; (repeat' split) <;> first | (exfalso; omega) | rfl) hM (by simp (disch := omega) only [t_layS, okL, okA, okWy, okPr, isO, okTl, okS, w01, okWn, okWh, isR, okF, isSh, okSh, okLy, okCp, nI_tI, tn_nI]; (repeat' split) <;> first | (exfalso; omega) | exact hP) (Out.rfl (x := x) (h := h)))
        · try simp (disch := omega) only [nI_bit0, nI_bit1, Bool.not_eq_false, Bool.not_eq_true] at c_49
          try simp (disch := omega) only [i_lt, i_le, i_eq, l_lt, l_le, l_eq, i_0, i_m1, l_0, nI_tI, iI_tI, lI_tI, Int.not_lt, Int.not_le] at c_49
          refine Wp.bipush (v := (-11)) dX12_lay_52 (by decide) rfl ?_
          exact Wp.iret dX12_lay_54 rfl (RQ.i (by simp (disch := omega) only [a_lay, okL, okA, okWy, okPr, isO, okTl, okS, w01, okWn, okWh, isR, okF, isSh, okSh, okLy, okCp, nI_tI, iI_tI, tn_nI, nI_m1]; (repeat' split) <;> first | (exfalso; omega) | rfl) hM (by simp (disch := omega) only [t_layS, okL, okA, okWy, okPr, isO, okTl, okS, w01, okWn, okWh, isR, okF, isSh, okSh, okLy, okCp, nI_tI, tn_nI]; (repeat' split) <;> first | (exfalso; omega) | exact hP) (Out.rfl (x := x) (h := h)))
      · try simp (disch := omega) only [nI_bit0, nI_bit1, Bool.not_eq_false, Bool.not_eq_true] at c_26
        try simp (disch := omega) only [i_lt, i_le, i_eq, l_lt, l_le, l_eq, i_0, i_m1, l_0, nI_tI, iI_tI, lI_tI, Int.not_lt, Int.not_le] at c_26
        refine Wp.aload_n dX12_lay_29 rfl (by first | exact Or.inr ⟨_, rfl⟩ | exact Or.inl rfl) rfl ?_
        refine Wp.get dX12_lay_30 fl_X12_48 hM.ob (hM.rf 17 (by decide)) rfl ?_
        refine Wp.iload_n dX12_lay_33 rfl rfl ?_
        refine Wp.iaload dX12_lay_34 (hM.ia 17 (by decide)) (nI_toInt (by omega)) (by show _ < 4; omega) rfl ?_
        rw [hP.so a ha]
        refine Wp.iload_n dX12_lay_35 rfl rfl ?_
        refine Wp.icmp_eq (tgt := 42) (n := 39) dX12_lay_36 (by decide) rfl (fun c_36 => ?_) (fun c_36 => ?_)
        · try simp (disch := omega) only [nI_bit0, nI_bit1, Bool.not_eq_false, Bool.not_eq_true] at c_36
          try simp (disch := omega) only [i_lt, i_le, i_eq, l_lt, l_le, l_eq, i_0, i_m1, l_0, nI_tI, iI_tI, lI_tI, Int.not_lt, Int.not_le] at c_36
          refine Wp.aload_n dX12_lay_42 rfl (by first | exact Or.inr ⟨_, rfl⟩ | exact Or.inl rfl) rfl ?_
          refine Wp.get dX12_lay_43 fl_X12_48 hM.ob (hM.rf 17 (by decide)) rfl ?_
          refine Wp.iload_n dX12_lay_46 rfl rfl ?_
          refine Wp.iaload dX12_lay_47 (hM.ia 17 (by decide)) (nI_toInt (by omega)) (by show _ < 4; omega) rfl ?_
          rw [hP.so a ha]
          refine Wp.iconst (v := (-1)) dX12_lay_48 (by decide) rfl ?_
          refine Wp.icmp_ne (tgt := 55) (n := 52) dX12_lay_49 (by decide) rfl (fun c_49 => ?_) (fun c_49 => ?_)
          · try simp (disch := omega) only [nI_bit0, nI_bit1, Bool.not_eq_false, Bool.not_eq_true] at c_49
            try simp (disch := omega) only [i_lt, i_le, i_eq, l_lt, l_le, l_eq, i_0, i_m1, l_0, nI_tI, iI_tI, lI_tI, Int.not_lt, Int.not_le] at c_49
            refine Wp.iload_n dX12_lay_55 rfl rfl ?_
            refine Wp.if_lt (tgt := 71) (n := 59) dX12_lay_56 (by decide) rfl (fun c_56 => ?_) (fun c_56 => ?_)
            · try simp (disch := omega) only [nI_bit0, nI_bit1, Bool.not_eq_false, Bool.not_eq_true] at c_56
              try simp (disch := omega) only [i_lt, i_le, i_eq, l_lt, l_le, l_eq, i_0, i_m1, l_0, nI_tI, iI_tI, lI_tI, Int.not_lt, Int.not_le] at c_56
              refine Wp.bipush (v := (-12)) dX12_lay_71 (by decide) rfl ?_
              exact Wp.iret dX12_lay_73 rfl (RQ.i (by simp (disch := omega) only [a_lay, okL, okA, okWy, okPr, isO, okTl, okS, w01, okWn, okWh, isR, okF, isSh, okSh, okLy, okCp, nI_tI, iI_tI, tn_nI, nI_m1]; (repeat' split) <;> first | (exfalso; omega) | rfl) hM (by simp (disch := omega) only [t_layS, okL, okA, okWy, okPr, isO, okTl, okS, w01, okWn, okWh, isR, okF, isSh, okSh, okLy, okCp, nI_tI, tn_nI]; (repeat' split) <;> first | (exfalso; omega) | exact hP) (Out.rfl (x := x) (h := h)))
            · try simp (disch := omega) only [nI_bit0, nI_bit1, Bool.not_eq_false, Bool.not_eq_true] at c_56
              try simp (disch := omega) only [i_lt, i_le, i_eq, l_lt, l_le, l_eq, i_0, i_m1, l_0, nI_tI, iI_tI, lI_tI, Int.not_lt, Int.not_le] at c_56
              refine Wp.iload_n dX12_lay_59 rfl rfl ?_
              refine Wp.aload_n dX12_lay_60 rfl (by first | exact Or.inr ⟨_, rfl⟩ | exact Or.inl rfl) rfl ?_
              refine Wp.get dX12_lay_61 fl_X12_51 hM.ob (hM.rf 18 (by decide)) rfl ?_
              refine Wp.iload_n dX12_lay_64 rfl rfl ?_
              refine Wp.iaload dX12_lay_65 (hM.ia 18 (by decide)) (nI_toInt (by omega)) (by show _ < 4; omega) rfl ?_
              rw [hP.sz a ha]
              refine Wp.iconst (v := (nI 4)) dX12_lay_66 (by decide) rfl ?_
              refine Wp.isub dX12_lay_67 rfl ?_
              rw [show nI (σ.sz a) - nI 4 = iI ((σ.sz a : Int) - 4) by rw [nI_iI, nI_iI, iI_sub]; rfl]
              refine Wp.icmp_le (tgt := 74) (n := 71) dX12_lay_68 (by decide) rfl (fun c_68 => ?_) (fun c_68 => ?_)
              · try simp (disch := omega) only [nI_bit0, nI_bit1, Bool.not_eq_false, Bool.not_eq_true] at c_68
                try simp (disch := omega) only [i_lt, i_le, i_eq, l_lt, l_le, l_eq, i_0, i_m1, l_0, nI_tI, iI_tI, lI_tI, Int.not_lt, Int.not_le] at c_68
                obtain ⟨b, rfl, hb, hb2⟩ := as_nI (o := i) (n := 40) (by omega)
                have tb := nI_tI hb2
                refine Wp.bipush (v := (nI 40)) dX12_lay_74 (by decide) rfl ?_
                refine Wp.iload_n dX12_lay_76 rfl rfl ?_
                refine Wp.imul dX12_lay_77 rfl ?_
                refine Wp.iload_n dX12_lay_78 rfl rfl ?_
                refine Wp.iadd dX12_lay_79 rfl ?_
                refine Wp.istore dX12_lay_80 (Nat.le_of_ble_eq_true rfl) (by dsimp only [ev_st1, ev_st2, ev_cl] <;> rfl) rfl ?_
                refine Wp.aload_n dX12_lay_82 rfl (by first | exact Or.inr ⟨_, rfl⟩ | exact Or.inl rfl) rfl ?_
                refine Wp.aload_n dX12_lay_83 rfl (by first | exact Or.inr ⟨_, rfl⟩ | exact Or.inl rfl) rfl ?_
                refine Wp.get dX12_lay_84 fl_X12_54 hM.ob (hM.rf 19 (by decide)) rfl ?_
                refine Wp.iload dX12_lay_87 rfl rfl ?_
                refine Wp.laload dX12_lay_89 (hM.la 19 (by decide)) (nI_40s ha (by omega)) (by show _ < 160; omega) rfl ?_
                rw [show 40 * a + b = 40 * a + (b + 0) by omega, hP.ce a (b + 0) ha (by omega)]
                refine Wp.l2i dX12_lay_90 rfl ?_
                refine Wp.aload_n dX12_lay_91 rfl (by first | exact Or.inr ⟨_, rfl⟩ | exact Or.inl rfl) rfl ?_
                refine Wp.get dX12_lay_92 fl_X12_54 hM.ob (hM.rf 19 (by decide)) rfl ?_
                refine Wp.iload dX12_lay_95 rfl rfl ?_
                refine Wp.iconst (v := (nI 1)) dX12_lay_97 (by decide) rfl ?_
                refine Wp.iadd dX12_lay_98 rfl ?_
                refine Wp.laload dX12_lay_99 (hM.la 19 (by decide)) (nI_40t (k := 1) ha (by omega) (by decide)) (by show _ < 160; omega) rfl ?_
                rw [show 40 * a + b + 1 = 40 * a + (b + 1) by omega, hP.ce a (b + 1) ha (by omega)]
                refine Wp.l2i dX12_lay_100 rfl ?_
                refine Wp.aload_n dX12_lay_101 rfl (by first | exact Or.inr ⟨_, rfl⟩ | exact Or.inl rfl) rfl ?_
                refine Wp.get dX12_lay_102 fl_X12_54 hM.ob (hM.rf 19 (by decide)) rfl ?_
                refine Wp.iload dX12_lay_105 rfl rfl ?_
                refine Wp.iconst (v := (nI 2)) dX12_lay_107 (by decide) rfl ?_
                refine Wp.iadd dX12_lay_108 rfl ?_
                refine Wp.laload dX12_lay_109 (hM.la 19 (by decide)) (nI_40t (k := 2) ha (by omega) (by decide)) (by show _ < 160; omega) rfl ?_
                rw [show 40 * a + b + 2 = 40 * a + (b + 2) by omega, hP.ce a (b + 2) ha (by omega)]
                refine Wp.l2i dX12_lay_110 rfl ?_
                refine Wp.aload_n dX12_lay_111 rfl (by first | exact Or.inr ⟨_, rfl⟩ | exact Or.inl rfl) rfl ?_
                refine Wp.get dX12_lay_112 fl_X12_54 hM.ob (hM.rf 19 (by decide)) rfl ?_
                refine Wp.iload dX12_lay_115 rfl rfl ?_
                refine Wp.iconst (v := (nI 3)) dX12_lay_117 (by decide) rfl ?_
                refine Wp.iadd dX12_lay_118 rfl ?_
                refine Wp.laload dX12_lay_119 (hM.la 19 (by decide)) (nI_40t (k := 3) ha (by omega) (by decide)) (by show _ < 160; omega) rfl ?_
                rw [show 40 * a + b + 3 = 40 * a + (b + 3) by omega, hP.ce a (b + 3) ha (by omega)]
                refine Wp.l2i dX12_lay_120 rfl ?_
                refine Wp.cV dX12_lay_121 cv_X12_296 rfl (by omega) rfl (Nat.le_of_ble_eq_true rfl) (Nat.le_of_ble_eq_true rfl) hM.ob rfl (c_X12_line (d := d - 1) hM hP hW (by omega)) ?_
                rintro _ h1 ⟨rfl, V1, G1, Z1, hM1, hP1, o1⟩
                dsimp only [Option.toList, List.drop, List.cons_append, List.nil_append]
                exact Wp.iret dX12_lay_124 rfl (by
                  have hok : okLy σ (nI a) t (nI b) := by simp (disch := omega) only [okLy, isSh, nI_tI, tn_nI]; omega
                  rw [a_lay, t_layS, if_pos hok, if_pos hok.1, if_neg (by rw [tn_nI ha2]; omega), if_neg (by rw [tn_nI ha2]; omega), if_pos hok.2.2]
                  simp (disch := omega) only [cI, tn_nI]
                  exact ⟨rfl, V1, G1, Z1, hM1, hP1, o1⟩)
              · try simp (disch := omega) only [nI_bit0, nI_bit1, Bool.not_eq_false, Bool.not_eq_true] at c_68
                try simp (disch := omega) only [i_lt, i_le, i_eq, l_lt, l_le, l_eq, i_0, i_m1, l_0, nI_tI, iI_tI, lI_tI, Int.not_lt, Int.not_le] at c_68
                refine Wp.bipush (v := (-12)) dX12_lay_71 (by decide) rfl ?_
                exact Wp.iret dX12_lay_73 rfl (RQ.i (by simp (disch := omega) only [a_lay, okL, okA, okWy, okPr, isO, okTl, okS, w01, okWn, okWh, isR, okF, isSh, okSh, okLy, okCp, nI_tI, iI_tI, tn_nI, nI_m1]; (repeat' split) <;> first | (exfalso; omega) | rfl) hM (by simp (disch := omega) only [t_layS, okL, okA, okWy, okPr, isO, okTl, okS, w01, okWn, okWh, isR, okF, isSh, okSh, okLy, okCp, nI_tI, tn_nI]; (repeat' split) <;> first | (exfalso; omega) | exact hP) (Out.rfl (x := x) (h := h)))
          · try simp (disch := omega) only [nI_bit0, nI_bit1, Bool.not_eq_false, Bool.not_eq_true] at c_49
            try simp (disch := omega) only [i_lt, i_le, i_eq, l_lt, l_le, l_eq, i_0, i_m1, l_0, nI_tI, iI_tI, lI_tI, Int.not_lt, Int.not_le] at c_49
            refine Wp.bipush (v := (-11)) dX12_lay_52 (by decide) rfl ?_
            exact Wp.iret dX12_lay_54 rfl (RQ.i (by simp (disch := omega) only [a_lay, okL, okA, okWy, okPr, isO, okTl, okS, w01, okWn, okWh, isR, okF, isSh, okSh, okLy, okCp, nI_tI, iI_tI, tn_nI, nI_m1]; (repeat' split) <;> first | (exfalso; omega) | rfl) hM (by simp (disch := omega) only [t_layS, okL, okA, okWy, okPr, isO, okTl, okS, w01, okWn, okWh, isR, okF, isSh, okSh, okLy, okCp, nI_tI, tn_nI]; (repeat' split) <;> first | (exfalso; omega) | exact hP) (Out.rfl (x := x) (h := h)))
        · try simp (disch := omega) only [nI_bit0, nI_bit1, Bool.not_eq_false, Bool.not_eq_true] at c_36
          try simp (disch := omega) only [i_lt, i_le, i_eq, l_lt, l_le, l_eq, i_0, i_m1, l_0, nI_tI, iI_tI, lI_tI, Int.not_lt, Int.not_le] at c_36
          refine Wp.bipush (v := (-13)) dX12_lay_39 (by decide) rfl ?_
          exact Wp.iret dX12_lay_41 rfl (RQ.i (by simp (disch := omega) only [a_lay, okL, okA, okWy, okPr, isO, okTl, okS, w01, okWn, okWh, isR, okF, isSh, okSh, okLy, okCp, nI_tI, iI_tI, tn_nI, nI_m1]; (repeat' split) <;> first | (exfalso; omega) | rfl) hM (by simp (disch := omega) only [t_layS, okL, okA, okWy, okPr, isO, okTl, okS, w01, okWn, okWh, isR, okF, isSh, okSh, okLy, okCp, nI_tI, tn_nI]; (repeat' split) <;> first | (exfalso; omega) | exact hP) (Out.rfl (x := x) (h := h)))
    · try simp only [decide_eq_true_eq, decide_eq_false_iff_not, Bool.and_eq_true, bI_0, bI_n0] at c_13
      refine Wp.bipush (v := (-2)) dX12_lay_16 (by decide) rfl ?_
      exact Wp.iret dX12_lay_18 rfl (RQ.i (by simp (disch := omega) only [a_lay, okL, okA, okWy, okPr, isO, okTl, okS, w01, okWn, okWh, isR, okF, isSh, okSh, okLy, okCp, nI_tI, iI_tI, tn_nI, nI_m1]; (repeat' split) <;> first | (exfalso; omega) | rfl) hM (by simp (disch := omega) only [t_layS, okL, okA, okWy, okPr, isO, okTl, okS, w01, okWn, okWh, isR, okF, isSh, okSh, okLy, okCp, nI_tI, tn_nI]; (repeat' split) <;> first | (exfalso; omega) | exact hP) (Out.rfl (x := x) (h := h)))
set_option maxHeartbeats 2000000 in
theorem c_X12_copy {B : ev_B} {d x : Nat} {h : ev_H} {V : Nat → Value} {G : Nat → Nat → Int32} {Z : Nat → Nat → Int64} {σ : Sg} {s i0 o j0 n0 : Int32} (hM : MH h x V G Z) (hP : PM σ V G Z) (hW : Wf σ) (hd : 2 ≤ d) :
    Wp B d M_X12_copy 0 [some (.ref x), some (.int (s)), some (.int (i0)), some (.int (o)), some (.int (j0)), some (.int (n0)), none] [] h (RQ x h (t_copy σ s i0 o j0 n0) (.int (a_copy σ s i0 o j0 n0))) := by
  have hn := hW.n
  have hT := hW.net.1
  have hL := hW.net.2.1
  refine Wp.iload_n dX12_copy_0 rfl rfl ?_
  refine Wp.cS dX12_copy_1 cs_X12_293 rfl (by omega) rfl (Nat.le_of_ble_eq_true rfl) (Nat.le_of_ble_eq_true rfl) rfl (c_X12_isSheet (d := d - 1) (by omega)) ?_
  rintro _ h_ ⟨rfl, e_⟩
  rw [e_]
  clear e_ h_
  dsimp only [Option.toList, List.drop, List.cons_append, List.nil_append]
  refine Wp.bif_eq (tgt := 14) (n := 7) dX12_copy_4 (by decide) rfl (fun c_4 => ?_) (fun c_4 => ?_)
  · try simp only [decide_eq_true_eq, decide_eq_false_iff_not, Bool.and_eq_true, bI_0, bI_n0] at c_4
    refine Wp.bipush (v := (-2)) dX12_copy_14 (by decide) rfl ?_
    exact Wp.iret dX12_copy_16 rfl (RQ.i (by simp (disch := omega) only [a_copy, okL, okA, okWy, okPr, isO, okTl, okS, w01, okWn, okWh, isR, okF, isSh, okSh, okLy, okCp, nI_tI, iI_tI, tn_nI, nI_m1]; (repeat' split) <;> first | (exfalso; omega) | rfl) hM (by simp (disch := omega) only [t_copy, okL, okA, okWy, okPr, isO, okTl, okS, w01, okWn, okWh, isR, okF, isSh, okSh, okLy, okCp, nI_tI, tn_nI]; (repeat' split) <;> first | (exfalso; omega) | exact hP) (Out.rfl (x := x) (h := h)))
  · try simp only [decide_eq_true_eq, decide_eq_false_iff_not, Bool.and_eq_true, bI_0, bI_n0] at c_4
    refine Wp.iload_n dX12_copy_7 rfl rfl ?_
    refine Wp.cS dX12_copy_8 cs_X12_293 rfl (by omega) rfl (Nat.le_of_ble_eq_true rfl) (Nat.le_of_ble_eq_true rfl) rfl (c_X12_isSheet (d := d - 1) (by omega)) ?_
    rintro _ h_ ⟨rfl, e_⟩
    rw [e_]
    clear e_ h_
    dsimp only [Option.toList, List.drop, List.cons_append, List.nil_append]
    refine Wp.bif_ne (tgt := 17) (n := 14) dX12_copy_11 (by decide) rfl (fun c_11 => ?_) (fun c_11 => ?_)
    · try simp only [decide_eq_true_eq, decide_eq_false_iff_not, Bool.and_eq_true, bI_0, bI_n0] at c_11
      obtain ⟨a, rfl, ha, ha2⟩ := as_nI (o := s) (n := 4) (by omega)
      have ta := nI_tI ha2
      have hso := hW.so a ha
      have hsz := hW.sz a ha
      have hsm := hW.sm a ha
      obtain ⟨c, rfl, hc, hc2⟩ := as_nI (o := o) (n := 4) (by omega)
      have tc := nI_tI hc2
      have hsoc := hW.so c hc
      have hszc := hW.sz c hc
      have hnl := Int32.toInt_lt n0
      have hng := Int32.le_toInt n0
      refine Wp.aload_n dX12_copy_17 rfl (by first | exact Or.inr ⟨_, rfl⟩ | exact Or.inl rfl) rfl ?_
      refine Wp.get dX12_copy_18 fl_X12_48 hM.ob (hM.rf 17 (by decide)) rfl ?_
      refine Wp.iload_n dX12_copy_21 rfl rfl ?_
      refine Wp.iaload dX12_copy_22 (hM.ia 17 (by decide)) (nI_toInt (by omega)) (by show _ < 4; omega) rfl ?_
      rw [hP.so a ha]
      refine Wp.iconst (v := (-1)) dX12_copy_23 (by decide) rfl ?_
      refine Wp.icmp_eq (tgt := 37) (n := 27) dX12_copy_24 (by decide) rfl (fun c_24 => ?_) (fun c_24 => ?_)
      · try simp (disch := omega) only [nI_bit0, nI_bit1, Bool.not_eq_false, Bool.not_eq_true] at c_24
        try simp (disch := omega) only [i_lt, i_le, i_eq, l_lt, l_le, l_eq, i_0, i_m1, l_0, nI_tI, iI_tI, lI_tI, Int.not_lt, Int.not_le] at c_24
        refine Wp.bipush (v := (-11)) dX12_copy_37 (by decide) rfl ?_
        exact Wp.iret dX12_copy_39 rfl (RQ.i (by simp (disch := omega) only [a_copy, okL, okA, okWy, okPr, isO, okTl, okS, w01, okWn, okWh, isR, okF, isSh, okSh, okLy, okCp, nI_tI, iI_tI, tn_nI, nI_m1]; (repeat' split) <;> first | (exfalso; omega) | rfl) hM (by simp (disch := omega) only [t_copy, okL, okA, okWy, okPr, isO, okTl, okS, w01, okWn, okWh, isR, okF, isSh, okSh, okLy, okCp, nI_tI, tn_nI]; (repeat' split) <;> first | (exfalso; omega) | exact hP) (Out.rfl (x := x) (h := h)))
      · try simp (disch := omega) only [nI_bit0, nI_bit1, Bool.not_eq_false, Bool.not_eq_true] at c_24
        try simp (disch := omega) only [i_lt, i_le, i_eq, l_lt, l_le, l_eq, i_0, i_m1, l_0, nI_tI, iI_tI, lI_tI, Int.not_lt, Int.not_le] at c_24
        refine Wp.aload_n dX12_copy_27 rfl (by first | exact Or.inr ⟨_, rfl⟩ | exact Or.inl rfl) rfl ?_
        refine Wp.get dX12_copy_28 fl_X12_48 hM.ob (hM.rf 17 (by decide)) rfl ?_
        refine Wp.iload_n dX12_copy_31 rfl rfl ?_
        refine Wp.iaload dX12_copy_32 (hM.ia 17 (by decide)) (nI_toInt (by omega)) (by show _ < 4; omega) rfl ?_
        rw [hP.so c hc]
        refine Wp.iconst (v := (-1)) dX12_copy_33 (by decide) rfl ?_
        refine Wp.icmp_ne (tgt := 40) (n := 37) dX12_copy_34 (by decide) rfl (fun c_34 => ?_) (fun c_34 => ?_)
        · try simp (disch := omega) only [nI_bit0, nI_bit1, Bool.not_eq_false, Bool.not_eq_true] at c_34
          try simp (disch := omega) only [i_lt, i_le, i_eq, l_lt, l_le, l_eq, i_0, i_m1, l_0, nI_tI, iI_tI, lI_tI, Int.not_lt, Int.not_le] at c_34
          refine Wp.aload_n dX12_copy_40 rfl (by first | exact Or.inr ⟨_, rfl⟩ | exact Or.inl rfl) rfl ?_
          refine Wp.get dX12_copy_41 fl_X12_48 hM.ob (hM.rf 17 (by decide)) rfl ?_
          refine Wp.iload_n dX12_copy_44 rfl rfl ?_
          refine Wp.iaload dX12_copy_45 (hM.ia 17 (by decide)) (nI_toInt (by omega)) (by show _ < 4; omega) rfl ?_
          rw [hP.so a ha]
          refine Wp.aload_n dX12_copy_46 rfl (by first | exact Or.inr ⟨_, rfl⟩ | exact Or.inl rfl) rfl ?_
          refine Wp.get dX12_copy_47 fl_X12_48 hM.ob (hM.rf 17 (by decide)) rfl ?_
          refine Wp.iload_n dX12_copy_50 rfl rfl ?_
          refine Wp.iaload dX12_copy_51 (hM.ia 17 (by decide)) (nI_toInt (by omega)) (by show _ < 4; omega) rfl ?_
          rw [hP.so c hc]
          refine Wp.icmp_eq (tgt := 58) (n := 55) dX12_copy_52 (by decide) rfl (fun c_52 => ?_) (fun c_52 => ?_)
          · try simp (disch := omega) only [nI_bit0, nI_bit1, Bool.not_eq_false, Bool.not_eq_true] at c_52
            try simp (disch := omega) only [i_lt, i_le, i_eq, l_lt, l_le, l_eq, i_0, i_m1, l_0, nI_tI, iI_tI, lI_tI, Int.not_lt, Int.not_le] at c_52
            refine Wp.iload dX12_copy_58 rfl rfl ?_
            refine Wp.if_lt (tgt := 99) (n := 63) dX12_copy_60 (by decide) rfl (fun c_60 => ?_) (fun c_60 => ?_)
            · try simp (disch := omega) only [nI_bit0, nI_bit1, Bool.not_eq_false, Bool.not_eq_true] at c_60
              try simp (disch := omega) only [i_lt, i_le, i_eq, l_lt, l_le, l_eq, i_0, i_m1, l_0, nI_tI, iI_tI, lI_tI, Int.not_lt, Int.not_le] at c_60
              refine Wp.bipush (v := (-12)) dX12_copy_99 (by decide) rfl ?_
              exact Wp.iret dX12_copy_101 rfl (RQ.i (by simp (disch := omega) only [a_copy, okL, okA, okWy, okPr, isO, okTl, okS, w01, okWn, okWh, isR, okF, isSh, okSh, okLy, okCp, nI_tI, iI_tI, tn_nI, nI_m1]; (repeat' split) <;> first | (exfalso; omega) | rfl) hM (by simp (disch := omega) only [t_copy, okL, okA, okWy, okPr, isO, okTl, okS, w01, okWn, okWh, isR, okF, isSh, okSh, okLy, okCp, nI_tI, tn_nI]; (repeat' split) <;> first | (exfalso; omega) | exact hP) (Out.rfl (x := x) (h := h)))
            · try simp (disch := omega) only [nI_bit0, nI_bit1, Bool.not_eq_false, Bool.not_eq_true] at c_60
              try simp (disch := omega) only [i_lt, i_le, i_eq, l_lt, l_le, l_eq, i_0, i_m1, l_0, nI_tI, iI_tI, lI_tI, Int.not_lt, Int.not_le] at c_60
              refine Wp.iload_n dX12_copy_63 rfl rfl ?_
              refine Wp.if_lt (tgt := 99) (n := 67) dX12_copy_64 (by decide) rfl (fun c_64 => ?_) (fun c_64 => ?_)
              · try simp (disch := omega) only [nI_bit0, nI_bit1, Bool.not_eq_false, Bool.not_eq_true] at c_64
                try simp (disch := omega) only [i_lt, i_le, i_eq, l_lt, l_le, l_eq, i_0, i_m1, l_0, nI_tI, iI_tI, lI_tI, Int.not_lt, Int.not_le] at c_64
                refine Wp.bipush (v := (-12)) dX12_copy_99 (by decide) rfl ?_
                exact Wp.iret dX12_copy_101 rfl (RQ.i (by simp (disch := omega) only [a_copy, okL, okA, okWy, okPr, isO, okTl, okS, w01, okWn, okWh, isR, okF, isSh, okSh, okLy, okCp, nI_tI, iI_tI, tn_nI, nI_m1]; (repeat' split) <;> first | (exfalso; omega) | rfl) hM (by simp (disch := omega) only [t_copy, okL, okA, okWy, okPr, isO, okTl, okS, w01, okWn, okWh, isR, okF, isSh, okSh, okLy, okCp, nI_tI, tn_nI]; (repeat' split) <;> first | (exfalso; omega) | exact hP) (Out.rfl (x := x) (h := h)))
              · try simp (disch := omega) only [nI_bit0, nI_bit1, Bool.not_eq_false, Bool.not_eq_true] at c_64
                try simp (disch := omega) only [i_lt, i_le, i_eq, l_lt, l_le, l_eq, i_0, i_m1, l_0, nI_tI, iI_tI, lI_tI, Int.not_lt, Int.not_le] at c_64
                refine Wp.iload dX12_copy_67 rfl rfl ?_
                refine Wp.if_lt (tgt := 99) (n := 72) dX12_copy_69 (by decide) rfl (fun c_69 => ?_) (fun c_69 => ?_)
                · try simp (disch := omega) only [nI_bit0, nI_bit1, Bool.not_eq_false, Bool.not_eq_true] at c_69
                  try simp (disch := omega) only [i_lt, i_le, i_eq, l_lt, l_le, l_eq, i_0, i_m1, l_0, nI_tI, iI_tI, lI_tI, Int.not_lt, Int.not_le] at c_69
                  refine Wp.bipush (v := (-12)) dX12_copy_99 (by decide) rfl ?_
                  exact Wp.iret dX12_copy_101 rfl (RQ.i (by simp (disch := omega) only [a_copy, okL, okA, okWy, okPr, isO, okTl, okS, w01, okWn, okWh, isR, okF, isSh, okSh, okLy, okCp, nI_tI, iI_tI, tn_nI, nI_m1]; (repeat' split) <;> first | (exfalso; omega) | rfl) hM (by simp (disch := omega) only [t_copy, okL, okA, okWy, okPr, isO, okTl, okS, w01, okWn, okWh, isR, okF, isSh, okSh, okLy, okCp, nI_tI, tn_nI]; (repeat' split) <;> first | (exfalso; omega) | exact hP) (Out.rfl (x := x) (h := h)))
                · try simp (disch := omega) only [nI_bit0, nI_bit1, Bool.not_eq_false, Bool.not_eq_true] at c_69
                  try simp (disch := omega) only [i_lt, i_le, i_eq, l_lt, l_le, l_eq, i_0, i_m1, l_0, nI_tI, iI_tI, lI_tI, Int.not_lt, Int.not_le] at c_69
                  refine Wp.iload_n dX12_copy_72 rfl rfl ?_
                  refine Wp.aload_n dX12_copy_73 rfl (by first | exact Or.inr ⟨_, rfl⟩ | exact Or.inl rfl) rfl ?_
                  refine Wp.get dX12_copy_74 fl_X12_51 hM.ob (hM.rf 18 (by decide)) rfl ?_
                  refine Wp.iload_n dX12_copy_77 rfl rfl ?_
                  refine Wp.iaload dX12_copy_78 (hM.ia 18 (by decide)) (nI_toInt (by omega)) (by show _ < 4; omega) rfl ?_
                  rw [hP.sz a ha]
                  refine Wp.iload dX12_copy_79 rfl rfl ?_
                  refine Wp.isub dX12_copy_81 rfl ?_
                  rw [show nI (σ.sz a) - n0 = iI ((σ.sz a : Int) - n0.toInt) by rw [nI_iI, iI_of n0, iI_sub, ← iI_of n0]]
                  refine Wp.icmp_gt (tgt := 99) (n := 85) dX12_copy_82 (by decide) rfl (fun c_82 => ?_) (fun c_82 => ?_)
                  · try simp (disch := omega) only [nI_bit0, nI_bit1, Bool.not_eq_false, Bool.not_eq_true] at c_82
                    try simp (disch := omega) only [i_lt, i_le, i_eq, l_lt, l_le, l_eq, i_0, i_m1, l_0, nI_tI, iI_tI, lI_tI, Int.not_lt, Int.not_le] at c_82
                    refine Wp.bipush (v := (-12)) dX12_copy_99 (by decide) rfl ?_
                    exact Wp.iret dX12_copy_101 rfl (RQ.i (by simp (disch := omega) only [a_copy, okL, okA, okWy, okPr, isO, okTl, okS, w01, okWn, okWh, isR, okF, isSh, okSh, okLy, okCp, nI_tI, iI_tI, tn_nI, nI_m1]; (repeat' split) <;> first | (exfalso; omega) | rfl) hM (by simp (disch := omega) only [t_copy, okL, okA, okWy, okPr, isO, okTl, okS, w01, okWn, okWh, isR, okF, isSh, okSh, okLy, okCp, nI_tI, tn_nI]; (repeat' split) <;> first | (exfalso; omega) | exact hP) (Out.rfl (x := x) (h := h)))
                  · try simp (disch := omega) only [nI_bit0, nI_bit1, Bool.not_eq_false, Bool.not_eq_true] at c_82
                    try simp (disch := omega) only [i_lt, i_le, i_eq, l_lt, l_le, l_eq, i_0, i_m1, l_0, nI_tI, iI_tI, lI_tI, Int.not_lt, Int.not_le] at c_82
                    refine Wp.iload dX12_copy_85 rfl rfl ?_
                    refine Wp.aload_n dX12_copy_87 rfl (by first | exact Or.inr ⟨_, rfl⟩ | exact Or.inl rfl) rfl ?_
                    refine Wp.get dX12_copy_88 fl_X12_51 hM.ob (hM.rf 18 (by decide)) rfl ?_
                    refine Wp.iload_n dX12_copy_91 rfl rfl ?_
                    refine Wp.iaload dX12_copy_92 (hM.ia 18 (by decide)) (nI_toInt (by omega)) (by show _ < 4; omega) rfl ?_
                    rw [hP.sz c hc]
                    refine Wp.iload dX12_copy_93 rfl rfl ?_
                    refine Wp.isub dX12_copy_95 rfl ?_
                    rw [show nI (σ.sz c) - n0 = iI ((σ.sz c : Int) - n0.toInt) by rw [nI_iI, iI_of n0, iI_sub, ← iI_of n0]]
                    refine Wp.icmp_le (tgt := 102) (n := 99) dX12_copy_96 (by decide) rfl (fun c_96 => ?_) (fun c_96 => ?_)
                    · try simp (disch := omega) only [nI_bit0, nI_bit1, Bool.not_eq_false, Bool.not_eq_true] at c_96
                      try simp (disch := omega) only [i_lt, i_le, i_eq, l_lt, l_le, l_eq, i_0, i_m1, l_0, nI_tI, iI_tI, lI_tI, Int.not_lt, Int.not_le] at c_96
                      obtain ⟨b, rfl, hb, hb2⟩ := as_nI (o := i0) (n := 41) (by omega)
                      have tb := nI_tI hb2
                      obtain ⟨e, rfl, he, he2⟩ := as_nI (o := j0) (n := 41) (by omega)
                      have te := nI_tI he2
                      obtain ⟨n, rfl, hn, hn2⟩ := as_nI (o := n0) (n := 41) (by omega)
                      have tn := nI_tI hn2
                      have s139 : ∀ (h3 : ev_H) (Zi : Nat → Nat → Int64), MH h3 x V G Zi → Out x h h3 → (∀ k, k ≠ 35 → Zi k = Z k) → (∀ q, q < n → Zi 35 q = Z 19 (40 * a + b + q)) → ∀ j6 : Option Value, Wp B d M_X12_copy 139 [some (.ref x), some (.int (nI a)), some (.int (nI b)), some (.int (nI c)), some (.int (nI e)), some (.int (nI n)), j6] [] h3 (RQ x h (t_copy σ (nI a) (nI b) (nI c) (nI e) (nI n)) (.int (a_copy σ (nI a) (nI b) (nI c) (nI e) (nI n)))) := by
                        intro h3 Zi hM3 hO3 hz hv j6
                        have loop2 : ∀ w, w ≤ n → ∀ (hh : ev_H) (Zj : Nat → Nat → Int64), MH hh x V G Zj → Out x h hh → (∀ k, k ≠ 19 → Zj k = Zi k) → (∀ q, Zj 19 q = if 40 * c + e ≤ q ∧ q < 40 * c + e + w then Z 19 (40 * a + b + (q - (40 * c + e))) else Z 19 q) → Wp B d M_X12_copy 142 [some (.ref x), some (.int (nI a)), some (.int (nI b)), some (.int (nI c)), some (.int (nI e)), some (.int (nI n)), some (.int (nI w))] [] hh (RQ x h (t_copy σ (nI a) (nI b) (nI c) (nI e) (nI n)) (.int (a_copy σ (nI a) (nI b) (nI c) (nI e) (nI n)))) := by
                          refine ev_upl n (fun w hi ih => ?_) ?_
                          · intro hh Zj hMi hOi hz2 hv2
                            refine Wp.iload dX12_copy_142 rfl rfl ?_
                            refine Wp.iload dX12_copy_144 rfl rfl ?_
                            refine Wp.icmp_ge (tgt := 177) (n := 149) dX12_copy_146 (by decide) rfl (fun c_146 => ?_) (fun c_146 => ?_)
                            · try simp (disch := omega) only [nI_bit0, nI_bit1, Bool.not_eq_false, Bool.not_eq_true] at c_146
                              try simp (disch := omega) only [i_lt, i_le, i_eq, l_lt, l_le, l_eq, i_0, i_m1, l_0, nI_tI, iI_tI, lI_tI, Int.not_lt, Int.not_le] at c_146
                              omega
                            · try simp (disch := omega) only [nI_bit0, nI_bit1, Bool.not_eq_false, Bool.not_eq_true] at c_146
                              try simp (disch := omega) only [i_lt, i_le, i_eq, l_lt, l_le, l_eq, i_0, i_m1, l_0, nI_tI, iI_tI, lI_tI, Int.not_lt, Int.not_le] at c_146
                              refine Wp.aload_n dX12_copy_149 rfl (by first | exact Or.inr ⟨_, rfl⟩ | exact Or.inl rfl) rfl ?_
                              refine Wp.get dX12_copy_150 fl_X12_54 hMi.ob (hMi.rf 19 (by decide)) rfl ?_
                              refine Wp.bipush (v := (nI 40)) dX12_copy_153 (by decide) rfl ?_
                              refine Wp.iload_n dX12_copy_155 rfl rfl ?_
                              refine Wp.imul dX12_copy_156 rfl ?_
                              refine Wp.iload dX12_copy_157 rfl rfl ?_
                              refine Wp.iadd dX12_copy_159 rfl ?_
                              refine Wp.iload dX12_copy_160 rfl rfl ?_
                              refine Wp.iadd dX12_copy_162 rfl ?_
                              refine Wp.aload_n dX12_copy_163 rfl (by first | exact Or.inr ⟨_, rfl⟩ | exact Or.inl rfl) rfl ?_
                              refine Wp.get dX12_copy_164 fl_X12_75 hMi.ob (hMi.rf 35 (by decide)) rfl ?_
                              refine Wp.iload dX12_copy_167 rfl rfl ?_
                              refine Wp.laload dX12_copy_169 (hMi.la 35 (by decide)) (nI_toInt (by omega)) (by show _ < 40; omega) rfl ?_
                              refine Wp.lastore dX12_copy_170 (hMi.la 19 (by decide)) (nI_40t hc (by omega) (by omega)) (by show _ < 160; omega) rfl ?_
                              refine hMi.stl (k := 19) (by decide) ?_
                              intro h170 Z170 hM170 o170 e170 f170
                              have out170 := hOi.trans o170
                              refine Wp.iinc (v := _ + (nI 1)) dX12_copy_171 rfl rfl (Nat.le_of_ble_eq_true rfl) (by dsimp only [ev_st1, ev_cl] <;> rfl) rfl ?_
                              refine Wp.goto (n := 142) dX12_copy_174 (by decide) ?_
                              rw [nI_add1]
                              refine ih _ _ hM170 out170 (fun k hk => (f170 k hk).trans (hz2 k hk)) (fun q => ?_)
                              rw [e170]
                              simp only [vp_updL]
                              by_cases e_ : q = 40 * c + e + w
                              · rw [if_pos e_, if_pos (by omega), hz2 35 (by decide), hv w hi, show q - (40 * c + e) = w by omega]
                              · rw [if_neg e_, hv2]
                                by_cases e2 : 40 * c + e ≤ q ∧ q < 40 * c + e + w
                                · rw [if_pos e2, if_pos (by omega)]
                                · rw [if_neg e2, if_neg (by omega)]
                          · intro hh Zj hMi hOi hz2 hv2
                            refine Wp.iload dX12_copy_142 rfl rfl ?_
                            refine Wp.iload dX12_copy_144 rfl rfl ?_
                            refine Wp.icmp_ge (tgt := 177) (n := 149) dX12_copy_146 (by decide) rfl (fun c_146 => ?_) (fun c_146 => ?_)
                            · try simp (disch := omega) only [nI_bit0, nI_bit1, Bool.not_eq_false, Bool.not_eq_true] at c_146
                              try simp (disch := omega) only [i_lt, i_le, i_eq, l_lt, l_le, l_eq, i_0, i_m1, l_0, nI_tI, iI_tI, lI_tI, Int.not_lt, Int.not_le] at c_146
                              refine Wp.iload dX12_copy_177 rfl rfl ?_
                              exact Wp.iret dX12_copy_179 rfl (by
                                have hok : okCp σ (nI a) (nI b) (nI c) (nI e) (nI n) := by simp (disch := omega) only [okCp, nI_tI, tn_nI]; omega
                                have hab : isSh (nI a) ∧ isSh (nI c) := by simp (disch := omega) only [isSh, nI_tI]; omega
                                refine RQ.i (by rw [a_copy, if_pos hab, if_neg (by rw [tn_nI ha2, tn_nI hc2]; omega), if_neg (by rw [tn_nI ha2, tn_nI hc2]; omega), if_pos hok]) hMi ?_ hOi
                                rw [t_copy, if_pos ⟨hab, by rw [tn_nI ha2, tn_nI hc2]; omega, by rw [tn_nI ha2, tn_nI hc2]; omega, hok⟩, tn_nI ha2, tn_nI hb2, tn_nI hc2, tn_nI he2, tn_nI hn2]
                                refine hP.chs (fun _ _ _ => rfl) (fun k h1 h2 => (hz2 k h2).trans (hz k (by omega))) hP.so hP.sz (fun u k h1 h2 => ?_)
                                rw [hv2]
                                by_cases e_ : u = c ∧ e ≤ k ∧ k < e + n
                                · rw [if_pos (by omega), if_pos e_, show 40 * a + b + (40 * u + k - (40 * c + e)) = 40 * a + (b + (k - e)) by omega]
                                  exact hP.ce a _ ha (by omega)
                                · rw [if_neg (by omega), if_neg e_]; exact hP.ce u k h1 h2)
                            · try simp (disch := omega) only [nI_bit0, nI_bit1, Bool.not_eq_false, Bool.not_eq_true] at c_146
                              try simp (disch := omega) only [i_lt, i_le, i_eq, l_lt, l_le, l_eq, i_0, i_m1, l_0, nI_tI, iI_tI, lI_tI, Int.not_lt, Int.not_le] at c_146
                              omega
                        refine Wp.iconst (v := (nI 0)) dX12_copy_139 (by decide) rfl ?_
                        refine Wp.istore dX12_copy_140 (Nat.le_of_ble_eq_true rfl) (by dsimp only [ev_st1, ev_st2, ev_cl] <;> rfl) rfl ?_
                        exact loop2 0 (by omega) h3 Zi hM3 hO3 (fun _ _ => rfl) (fun q => by rw [if_neg (by omega), hz 19 (by decide)])
                      have loop : ∀ w, w ≤ n → ∀ (hh : ev_H) (Zi : Nat → Nat → Int64), MH hh x V G Zi → Out x h hh → (∀ k, k ≠ 35 → Zi k = Z k) → (∀ q, q < w → Zi 35 q = Z 19 (40 * a + b + q)) → Wp B d M_X12_copy 105 [some (.ref x), some (.int (nI a)), some (.int (nI b)), some (.int (nI c)), some (.int (nI e)), some (.int (nI n)), some (.int (nI w))] [] hh (RQ x h (t_copy σ (nI a) (nI b) (nI c) (nI e) (nI n)) (.int (a_copy σ (nI a) (nI b) (nI c) (nI e) (nI n)))) := by
                        refine ev_upl n (fun w hi ih => ?_) ?_
                        · intro hh Zi hMi hOi hz hv
                          refine Wp.iload dX12_copy_105 rfl rfl ?_
                          refine Wp.iload dX12_copy_107 rfl rfl ?_
                          refine Wp.icmp_ge (tgt := 139) (n := 112) dX12_copy_109 (by decide) rfl (fun c_109 => ?_) (fun c_109 => ?_)
                          · try simp (disch := omega) only [nI_bit0, nI_bit1, Bool.not_eq_false, Bool.not_eq_true] at c_109
                            try simp (disch := omega) only [i_lt, i_le, i_eq, l_lt, l_le, l_eq, i_0, i_m1, l_0, nI_tI, iI_tI, lI_tI, Int.not_lt, Int.not_le] at c_109
                            omega
                          · try simp (disch := omega) only [nI_bit0, nI_bit1, Bool.not_eq_false, Bool.not_eq_true] at c_109
                            try simp (disch := omega) only [i_lt, i_le, i_eq, l_lt, l_le, l_eq, i_0, i_m1, l_0, nI_tI, iI_tI, lI_tI, Int.not_lt, Int.not_le] at c_109
                            refine Wp.aload_n dX12_copy_112 rfl (by first | exact Or.inr ⟨_, rfl⟩ | exact Or.inl rfl) rfl ?_
                            refine Wp.get dX12_copy_113 fl_X12_75 hMi.ob (hMi.rf 35 (by decide)) rfl ?_
                            refine Wp.iload dX12_copy_116 rfl rfl ?_
                            refine Wp.aload_n dX12_copy_118 rfl (by first | exact Or.inr ⟨_, rfl⟩ | exact Or.inl rfl) rfl ?_
                            refine Wp.get dX12_copy_119 fl_X12_54 hMi.ob (hMi.rf 19 (by decide)) rfl ?_
                            refine Wp.bipush (v := (nI 40)) dX12_copy_122 (by decide) rfl ?_
                            refine Wp.iload_n dX12_copy_124 rfl rfl ?_
                            refine Wp.imul dX12_copy_125 rfl ?_
                            refine Wp.iload_n dX12_copy_126 rfl rfl ?_
                            refine Wp.iadd dX12_copy_127 rfl ?_
                            refine Wp.iload dX12_copy_128 rfl rfl ?_
                            refine Wp.iadd dX12_copy_130 rfl ?_
                            refine Wp.laload dX12_copy_131 (hMi.la 19 (by decide)) (nI_40t ha (by omega) (by omega)) (by show _ < 160; omega) rfl ?_
                            refine Wp.lastore dX12_copy_132 (hMi.la 35 (by decide)) (nI_toInt (by omega)) (by show _ < 40; omega) rfl ?_
                            refine hMi.stl (k := 35) (by decide) ?_
                            intro h132 Z132 hM132 o132 e132 f132
                            have out132 := hOi.trans o132
                            refine Wp.iinc (v := _ + (nI 1)) dX12_copy_133 rfl rfl (Nat.le_of_ble_eq_true rfl) (by dsimp only [ev_st1, ev_cl] <;> rfl) rfl ?_
                            refine Wp.goto (n := 105) dX12_copy_136 (by decide) ?_
                            rw [nI_add1]
                            refine ih _ _ hM132 out132 (fun k hk => (f132 k hk).trans (hz k hk)) (fun q hq => ?_)
                            rw [e132]
                            simp only [vp_updL]
                            by_cases e_ : q = w
                            · rw [if_pos e_, e_, hz 19 (by decide)]
                            · rw [if_neg e_]; exact hv q (by omega)
                        · intro hh Zi hMi hOi hz hv
                          refine Wp.iload dX12_copy_105 rfl rfl ?_
                          refine Wp.iload dX12_copy_107 rfl rfl ?_
                          refine Wp.icmp_ge (tgt := 139) (n := 112) dX12_copy_109 (by decide) rfl (fun c_109 => ?_) (fun c_109 => ?_)
                          · try simp (disch := omega) only [nI_bit0, nI_bit1, Bool.not_eq_false, Bool.not_eq_true] at c_109
                            try simp (disch := omega) only [i_lt, i_le, i_eq, l_lt, l_le, l_eq, i_0, i_m1, l_0, nI_tI, iI_tI, lI_tI, Int.not_lt, Int.not_le] at c_109
                            exact s139 _ _ hMi hOi hz hv _
                          · try simp (disch := omega) only [nI_bit0, nI_bit1, Bool.not_eq_false, Bool.not_eq_true] at c_109
                            try simp (disch := omega) only [i_lt, i_le, i_eq, l_lt, l_le, l_eq, i_0, i_m1, l_0, nI_tI, iI_tI, lI_tI, Int.not_lt, Int.not_le] at c_109
                            omega
                      refine Wp.iconst (v := (nI 0)) dX12_copy_102 (by decide) rfl ?_
                      refine Wp.istore dX12_copy_103 (Nat.le_of_ble_eq_true rfl) (by dsimp only [ev_st1, ev_st2, ev_cl] <;> rfl) rfl ?_
                      exact loop 0 (by omega) h Z hM Out.rfl (fun _ _ => rfl) (fun q hq => absurd hq (Nat.not_lt_zero q))
                    · try simp (disch := omega) only [nI_bit0, nI_bit1, Bool.not_eq_false, Bool.not_eq_true] at c_96
                      try simp (disch := omega) only [i_lt, i_le, i_eq, l_lt, l_le, l_eq, i_0, i_m1, l_0, nI_tI, iI_tI, lI_tI, Int.not_lt, Int.not_le] at c_96
                      refine Wp.bipush (v := (-12)) dX12_copy_99 (by decide) rfl ?_
                      exact Wp.iret dX12_copy_101 rfl (RQ.i (by simp (disch := omega) only [a_copy, okL, okA, okWy, okPr, isO, okTl, okS, w01, okWn, okWh, isR, okF, isSh, okSh, okLy, okCp, nI_tI, iI_tI, tn_nI, nI_m1]; (repeat' split) <;> first | (exfalso; omega) | rfl) hM (by simp (disch := omega) only [t_copy, okL, okA, okWy, okPr, isO, okTl, okS, w01, okWn, okWh, isR, okF, isSh, okSh, okLy, okCp, nI_tI, tn_nI]; (repeat' split) <;> first | (exfalso; omega) | exact hP) (Out.rfl (x := x) (h := h)))
          · try simp (disch := omega) only [nI_bit0, nI_bit1, Bool.not_eq_false, Bool.not_eq_true] at c_52
            try simp (disch := omega) only [i_lt, i_le, i_eq, l_lt, l_le, l_eq, i_0, i_m1, l_0, nI_tI, iI_tI, lI_tI, Int.not_lt, Int.not_le] at c_52
            refine Wp.bipush (v := (-13)) dX12_copy_55 (by decide) rfl ?_
            exact Wp.iret dX12_copy_57 rfl (RQ.i (by simp (disch := omega) only [a_copy, okL, okA, okWy, okPr, isO, okTl, okS, w01, okWn, okWh, isR, okF, isSh, okSh, okLy, okCp, nI_tI, iI_tI, tn_nI, nI_m1]; (repeat' split) <;> first | (exfalso; omega) | rfl) hM (by simp (disch := omega) only [t_copy, okL, okA, okWy, okPr, isO, okTl, okS, w01, okWn, okWh, isR, okF, isSh, okSh, okLy, okCp, nI_tI, tn_nI]; (repeat' split) <;> first | (exfalso; omega) | exact hP) (Out.rfl (x := x) (h := h)))
        · try simp (disch := omega) only [nI_bit0, nI_bit1, Bool.not_eq_false, Bool.not_eq_true] at c_34
          try simp (disch := omega) only [i_lt, i_le, i_eq, l_lt, l_le, l_eq, i_0, i_m1, l_0, nI_tI, iI_tI, lI_tI, Int.not_lt, Int.not_le] at c_34
          refine Wp.bipush (v := (-11)) dX12_copy_37 (by decide) rfl ?_
          exact Wp.iret dX12_copy_39 rfl (RQ.i (by simp (disch := omega) only [a_copy, okL, okA, okWy, okPr, isO, okTl, okS, w01, okWn, okWh, isR, okF, isSh, okSh, okLy, okCp, nI_tI, iI_tI, tn_nI, nI_m1]; (repeat' split) <;> first | (exfalso; omega) | rfl) hM (by simp (disch := omega) only [t_copy, okL, okA, okWy, okPr, isO, okTl, okS, w01, okWn, okWh, isR, okF, isSh, okSh, okLy, okCp, nI_tI, tn_nI]; (repeat' split) <;> first | (exfalso; omega) | exact hP) (Out.rfl (x := x) (h := h)))
    · try simp only [decide_eq_true_eq, decide_eq_false_iff_not, Bool.and_eq_true, bI_0, bI_n0] at c_11
      refine Wp.bipush (v := (-2)) dX12_copy_14 (by decide) rfl ?_
      exact Wp.iret dX12_copy_16 rfl (RQ.i (by simp (disch := omega) only [a_copy, okL, okA, okWy, okPr, isO, okTl, okS, w01, okWn, okWh, isR, okF, isSh, okSh, okLy, okCp, nI_tI, iI_tI, tn_nI, nI_m1]; (repeat' split) <;> first | (exfalso; omega) | rfl) hM (by simp (disch := omega) only [t_copy, okL, okA, okWy, okPr, isO, okTl, okS, w01, okWn, okWh, isR, okF, isSh, okSh, okLy, okCp, nI_tI, tn_nI]; (repeat' split) <;> first | (exfalso; omega) | exact hP) (Out.rfl (x := x) (h := h)))
