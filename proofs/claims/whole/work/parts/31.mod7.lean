/-! the reference: spans, regrets, wrong rows -/
def hiN (S R : Nat → Int) (c : Nat) : Nat → Int × Int
  | 0 => (0, 0)
  | d + 1 => if 0 < R c - R d ∧ ((hiN S R c d).2 = 0 ∨ (S d - S c) * (hiN S R c d).2 < (hiN S R c d).1 * (R c - R d)) then (S d - S c, R c - R d) else hiN S R c d
def loN (S R : Nat → Int) (c : Nat) : Nat → Int × Int
  | 0 => (0, 0)
  | d + 1 => if R c - R d < 0 ∧ ((loN S R c d).2 = 0 ∨ (S d - S c) * (loN S R c d).2 < (loN S R c d).1 * (R c - R d)) then (-(S d - S c), -(R c - R d)) else loN S R c d
def isN (S R : Nat → Int) (c : Nat) : Nat → Bool
  | 0 => true
  | d + 1 => isN S R c d && decide (R c - R d ≠ 0 ∨ 0 ≤ S d - S c)
theorem hiN_b {n : Nat} {S R : Nat → Int} {c : Nat} (hB : PrB n S R) (hc : c < n) : ∀ i, i ≤ n → -2400 ≤ (hiN S R c i).1 ∧ (hiN S R c i).1 ≤ 2400 ∧ 0 ≤ (hiN S R c i).2 ∧ (hiN S R c i).2 ≤ 480 ∧ ((hiN S R c i).2 = 0 → (hiN S R c i).1 = 0)
  | 0, _ => by simp [hiN]
  | i + 1, h => by
    have ih := hiN_b hB hc i (by omega)
    have h1 := hB.2 c hc
    have h2 := hB.2 i (by omega)
    simp only [hiN]
    split
    · dsimp only; omega
    · exact ih
theorem loN_b {n : Nat} {S R : Nat → Int} {c : Nat} (hB : PrB n S R) (hc : c < n) : ∀ i, i ≤ n → -2400 ≤ (loN S R c i).1 ∧ (loN S R c i).1 ≤ 2400 ∧ 0 ≤ (loN S R c i).2 ∧ (loN S R c i).2 ≤ 480 ∧ ((loN S R c i).2 = 0 → (loN S R c i).1 = 0)
  | 0, _ => by simp [loN]
  | i + 1, h => by
    have ih := loN_b hB hc i (by omega)
    have h1 := hB.2 c hc
    have h2 := hB.2 i (by omega)
    simp only [loN]
    split
    · dsimp only; omega
    · exact ih
def spB (S R : Nat → Int) (c n : Nat) : Bool := isN S R c n && decide ((loN S R c n).2 = 0 ∨ (hiN S R c n).2 = 0 ∨ (loN S R c n).1 * (hiN S R c n).2 ≤ (hiN S R c n).1 * (loN S R c n).2)
theorem lI_0 {z : Int} (h1 : -4000000000000 ≤ z) (h2 : z ≤ 4000000000000) : lI z = 0 ↔ z = 0 := by rw [show (0 : Int64) = lI 0 from rfl, lI_eq (by omega) (by omega) (by decide) (by decide)]
theorem L0 : Value.long 0 = .long (lI 0) := rfl
theorem L1 : Value.long 1 = .long (lI 1) := rfl
theorem lI_0z : (0 : Int64) = lI 0 := rfl
set_option maxHeartbeats 2000000 in
theorem c_X12_spans {B : ev_B} {d x : Nat} {h : ev_H} {V : Nat → Value} {G : Nat → Nat → Int32} {Z : Nat → Nat → Int64} {n : Nat} {S R : Nat → Int} {c : Nat} (hM : MH h x V G Z) (hA : PrA V G n S R) (hB : PrB n S R) (hc : c < n) :
    Wp B d M_X12_spans 0 [some (.ref x), some (.int (nI c)), none, none, none, none, none, none] [] h (fun v h' => v = some (.int (bI (spB S R c n))) ∧ ∃ V', MH h' x V' G Z ∧ Out x h h' ∧ (∀ j, (j < 28 ∨ 31 < j) → V' j = V j) ∧ V' 28 = .long (lI (loN S R c n).1) ∧ V' 29 = .long (lI (loN S R c n).2) ∧ V' 30 = .long (lI (hiN S R c n).1) ∧ V' 31 = .long (lI (hiN S R c n).2)) := by
  have hn := hB.1
  have hbc := hB.2 c hc
  have loop : ∀ i, i ≤ n → ∀ (hi_ : ev_H) (Vi : Nat → Value), MH hi_ x Vi G Z → Out x h hi_ → (∀ j, (j < 28 ∨ 31 < j) → Vi j = V j) → Vi 28 = .long (lI (loN S R c i).1) → Vi 29 = .long (lI (loN S R c i).2) → Vi 30 = .long (lI (hiN S R c i).1) → Vi 31 = .long (lI (hiN S R c i).2) → ∀ j4 j5 j6 j7 : Option Value, Wp B d M_X12_spans 24 [some (.ref x), some (.int (nI c)), some (.int (bI (isN S R c i))), some (.int (nI i)), j4, j5, j6, j7] [] hi_ (fun v h' => v = some (.int (bI (spB S R c n))) ∧ ∃ V', MH h' x V' G Z ∧ Out x h h' ∧ (∀ j, (j < 28 ∨ 31 < j) → V' j = V j) ∧ V' 28 = .long (lI (loN S R c n).1) ∧ V' 29 = .long (lI (loN S R c n).2) ∧ V' 30 = .long (lI (hiN S R c n).1) ∧ V' 31 = .long (lI (hiN S R c n).2)) := by
    refine ev_upl n (fun i hi ih => ?_) ?_
    · intro hi_ Vi hMi hOi hfi li8 li9 li0 li1 j4 j5 j6 j7
      have hbi := hB.2 i hi
      have hhb := hiN_b hB hc i (Nat.le_of_lt hi)
      have hlb := loN_b hB hc i (Nat.le_of_lt hi)
      have m1 := mulb (a := S i - S c) (b := (hiN S R c i).2) (A := 2400) (C := 480) (by omega) (by omega)
      have m2 := mulb (a := (hiN S R c i).1) (b := R c - R i) (A := 2400) (C := 480) (by omega) (by omega)
      have m3 := mulb (a := S i - S c) (b := (loN S R c i).2) (A := 2400) (C := 480) (by omega) (by omega)
      have m4 := mulb (a := (loN S R c i).1) (b := R c - R i) (A := 2400) (C := 480) (by omega) (by omega)
      refine Wp.iload_n dX12_spans_24 rfl rfl ?_
      refine Wp.aload_n dX12_spans_25 rfl (by first | exact Or.inr ⟨_, rfl⟩ | exact Or.inl rfl) rfl ?_
      refine Wp.get dX12_spans_26 fl_X12_150 hMi.ob ((hfi 20 (by decide)).trans hA.1) rfl ?_
      refine Wp.icmp_ge (tgt := 188) (n := 32) dX12_spans_29 (by decide) rfl (fun c_29 => ?_) (fun c_29 => ?_)
      · try simp (disch := omega) only [nI_bit0, nI_bit1, Bool.not_eq_false, Bool.not_eq_true] at c_29
        try simp (disch := omega) only [i_lt, i_le, i_eq, l_lt, l_le, l_eq, i_0, i_m1, l_0, nI_tI, iI_tI, lI_tI, Int.not_lt, Int.not_le] at c_29
        omega
      · try simp (disch := omega) only [nI_bit0, nI_bit1, Bool.not_eq_false, Bool.not_eq_true] at c_29
        try simp (disch := omega) only [i_lt, i_le, i_eq, l_lt, l_le, l_eq, i_0, i_m1, l_0, nI_tI, iI_tI, lI_tI, Int.not_lt, Int.not_le] at c_29
        refine Wp.aload_n dX12_spans_32 rfl (by first | exact Or.inr ⟨_, rfl⟩ | exact Or.inl rfl) rfl ?_
        refine Wp.get dX12_spans_33 fl_X12_63 hMi.ob (hMi.rf 23 (by decide)) rfl ?_
        refine Wp.iload_n dX12_spans_36 rfl rfl ?_
        refine Wp.iaload dX12_spans_37 (hMi.ia 23 (by decide)) (nI_toInt (by omega)) (by show _ < 4096; omega) rfl ?_
        rw [(hA.2 c hc).2]
        refine Wp.aload_n dX12_spans_38 rfl (by first | exact Or.inr ⟨_, rfl⟩ | exact Or.inl rfl) rfl ?_
        refine Wp.get dX12_spans_39 fl_X12_63 hMi.ob (hMi.rf 23 (by decide)) rfl ?_
        refine Wp.iload_n dX12_spans_42 rfl rfl ?_
        refine Wp.iaload dX12_spans_43 (hMi.ia 23 (by decide)) (nI_toInt (by omega)) (by show _ < 4096; omega) rfl ?_
        rw [(hA.2 i hi).2]
        refine Wp.isub dX12_spans_44 rfl ?_
        rw [iI_sub]
        refine Wp.i2l dX12_spans_45 rfl ?_
        rw [iI_l (by omega) (by omega)]
        refine Wp.lstore dX12_spans_46 (Nat.le_of_ble_eq_true rfl) (by dsimp only [ev_st1, ev_st2, ev_cl] <;> rfl) rfl ?_
        refine Wp.aload_n dX12_spans_48 rfl (by first | exact Or.inr ⟨_, rfl⟩ | exact Or.inl rfl) rfl ?_
        refine Wp.get dX12_spans_49 fl_X12_60 hMi.ob (hMi.rf 22 (by decide)) rfl ?_
        refine Wp.iload_n dX12_spans_52 rfl rfl ?_
        refine Wp.iaload dX12_spans_53 (hMi.ia 22 (by decide)) (nI_toInt (by omega)) (by show _ < 4096; omega) rfl ?_
        rw [(hA.2 i hi).1]
        refine Wp.aload_n dX12_spans_54 rfl (by first | exact Or.inr ⟨_, rfl⟩ | exact Or.inl rfl) rfl ?_
        refine Wp.get dX12_spans_55 fl_X12_60 hMi.ob (hMi.rf 22 (by decide)) rfl ?_
        refine Wp.iload_n dX12_spans_58 rfl rfl ?_
        refine Wp.iaload dX12_spans_59 (hMi.ia 22 (by decide)) (nI_toInt (by omega)) (by show _ < 4096; omega) rfl ?_
        rw [(hA.2 c hc).1]
        refine Wp.isub dX12_spans_60 rfl ?_
        rw [iI_sub]
        refine Wp.i2l dX12_spans_61 rfl ?_
        rw [iI_l (by omega) (by omega)]
        refine Wp.lstore dX12_spans_62 (Nat.le_of_ble_eq_true rfl) (by dsimp only [ev_st1, ev_st2, ev_cl] <;> rfl) rfl ?_
        have s134 : ∀ (ht : ev_H) (Vt : Nat → Value), MH ht x Vt G Z → Out x h ht → (∀ j, (j < 28 ∨ 31 < j) → Vt j = V j) → Vt 28 = .long (lI (loN S R c i).1) → Vt 29 = .long (lI (loN S R c i).2) → Vt 30 = .long (lI (hiN S R c (i + 1)).1) → Vt 31 = .long (lI (hiN S R c (i + 1)).2) → Wp B d M_X12_spans 134 [some (.ref x), some (.int (nI c)), some (.int (bI (isN S R c (i + 1)))), some (.int (nI i)), some (.long (lI (R c - R i))), none, some (.long (lI (S i - S c))), none] [] ht (fun v h' => v = some (.int (bI (spB S R c n))) ∧ ∃ V', MH h' x V' G Z ∧ Out x h h' ∧ (∀ j, (j < 28 ∨ 31 < j) → V' j = V j) ∧ V' 28 = .long (lI (loN S R c n).1) ∧ V' 29 = .long (lI (loN S R c n).2) ∧ V' 30 = .long (lI (hiN S R c n).1) ∧ V' 31 = .long (lI (hiN S R c n).2)) := by
          intro ht Vt hMt hOt hft lt8 lt9 lt0 lt1
          refine Wp.lload dX12_spans_134 rfl rfl ?_
          refine Wp.lconst (v := 0) dX12_spans_136 (by decide) rfl ?_
          rw [L0]
          refine Wp.lcmp_ge (tgt := 182) (n := 141) dX12_spans_137 rfl dX12_spans_138 (by decide) rfl (fun c_137 => ?_) (fun c_137 => ?_)
          · try simp (disch := omega) only [nI_bit0, nI_bit1, Bool.not_eq_false, Bool.not_eq_true] at c_137
            try simp (disch := omega) only [i_lt, i_le, i_eq, l_lt, l_le, l_eq, i_0, i_m1, l_0, nI_tI, iI_tI, lI_tI, Int.not_lt, Int.not_le] at c_137
            refine Wp.iinc (v := _ + (nI 1)) dX12_spans_182 rfl rfl (Nat.le_of_ble_eq_true rfl) (by dsimp only [ev_st1, ev_cl] <;> rfl) rfl ?_
            refine Wp.goto (n := 24) dX12_spans_185 (by decide) ?_
            have ihlo : loN S R c (i + 1) = if R c - R i < 0 ∧ ((loN S R c i).2 = 0 ∨ (S i - S c) * (loN S R c i).2 < (loN S R c i).1 * (R c - R i)) then (-(S i - S c), -(R c - R i)) else loN S R c i := rfl
            rw [nI_add1]
            exact ih _ _ hMt hOt (fun j hj => hft j hj) (by rw [if_neg (by omega)] at ihlo; rw [ihlo]; exact lt8) (by rw [if_neg (by omega)] at ihlo; rw [ihlo]; exact lt9) lt0 lt1 _ _ _ _
          · try simp (disch := omega) only [nI_bit0, nI_bit1, Bool.not_eq_false, Bool.not_eq_true] at c_137
            try simp (disch := omega) only [i_lt, i_le, i_eq, l_lt, l_le, l_eq, i_0, i_m1, l_0, nI_tI, iI_tI, lI_tI, Int.not_lt, Int.not_le] at c_137
            refine Wp.aload_n dX12_spans_141 rfl (by first | exact Or.inr ⟨_, rfl⟩ | exact Or.inl rfl) rfl ?_
            refine Wp.get dX12_spans_142 fl_X12_219 hMt.ob lt9 rfl ?_
            refine Wp.lconst (v := 0) dX12_spans_145 (by decide) rfl ?_
            rw [L0]
            refine Wp.lcmp_eq (tgt := 168) (n := 150) dX12_spans_146 rfl dX12_spans_147 (by decide) rfl (fun c_146 => ?_) (fun c_146 => ?_)
            · try simp (disch := omega) only [nI_bit0, nI_bit1, Bool.not_eq_false, Bool.not_eq_true] at c_146
              try simp (disch := omega) only [i_lt, i_le, i_eq, l_lt, l_le, l_eq, i_0, i_m1, l_0, nI_tI, iI_tI, lI_tI, Int.not_lt, Int.not_le] at c_146
              refine Wp.aload_n dX12_spans_168 rfl (by first | exact Or.inr ⟨_, rfl⟩ | exact Or.inl rfl) rfl ?_
              refine Wp.lload dX12_spans_169 rfl rfl ?_
              refine Wp.lneg dX12_spans_171 rfl ?_
              rw [lI_neg]
              refine Wp.put dX12_spans_172 fp_X12_215 hMt.ob rfl rfl rfl ?_
              refine hMt.put (k := 28) (by decide) ?_
              intro h172 V172 hM172 o172 e172 f172
              have out172 := hOt.trans o172
              refine Wp.aload_n dX12_spans_175 rfl (by first | exact Or.inr ⟨_, rfl⟩ | exact Or.inl rfl) rfl ?_
              refine Wp.lload dX12_spans_176 rfl rfl ?_
              refine Wp.lneg dX12_spans_178 rfl ?_
              rw [lI_neg]
              refine Wp.put dX12_spans_179 fp_X12_219 hM172.ob rfl rfl rfl ?_
              refine hM172.put (k := 29) (by decide) ?_
              intro h179 V179 hM179 o179 e179 f179
              have out179 := out172.trans o179
              refine Wp.iinc (v := _ + (nI 1)) dX12_spans_182 rfl rfl (Nat.le_of_ble_eq_true rfl) (by dsimp only [ev_st1, ev_cl] <;> rfl) rfl ?_
              refine Wp.goto (n := 24) dX12_spans_185 (by decide) ?_
              have ihlo : loN S R c (i + 1) = if R c - R i < 0 ∧ ((loN S R c i).2 = 0 ∨ (S i - S c) * (loN S R c i).2 < (loN S R c i).1 * (R c - R i)) then (-(S i - S c), -(R c - R i)) else loN S R c i := rfl
              rw [nI_add1]
              exact ih _ _ hM179 out179 (fun j hj => (f179 j (by omega)).trans ((f172 j (by omega)).trans (hft j hj))) (by rw [if_pos ⟨by omega, by omega⟩] at ihlo; rw [ihlo]; exact ((f179 28 (by decide)).trans e172)) (by rw [if_pos ⟨by omega, by omega⟩] at ihlo; rw [ihlo]; exact e179) ((f179 30 (by decide)).trans ((f172 30 (by decide)).trans lt0)) ((f179 31 (by decide)).trans ((f172 31 (by decide)).trans lt1)) _ _ _ _
            · try simp (disch := omega) only [nI_bit0, nI_bit1, Bool.not_eq_false, Bool.not_eq_true] at c_146
              try simp (disch := omega) only [i_lt, i_le, i_eq, l_lt, l_le, l_eq, i_0, i_m1, l_0, nI_tI, iI_tI, lI_tI, Int.not_lt, Int.not_le] at c_146
              refine Wp.lload dX12_spans_150 rfl rfl ?_
              refine Wp.aload_n dX12_spans_152 rfl (by first | exact Or.inr ⟨_, rfl⟩ | exact Or.inl rfl) rfl ?_
              refine Wp.get dX12_spans_153 fl_X12_219 hMt.ob lt9 rfl ?_
              refine Wp.lmul dX12_spans_156 rfl ?_
              rw [lI_mul]
              refine Wp.aload_n dX12_spans_157 rfl (by first | exact Or.inr ⟨_, rfl⟩ | exact Or.inl rfl) rfl ?_
              refine Wp.get dX12_spans_158 fl_X12_215 hMt.ob lt8 rfl ?_
              refine Wp.lload dX12_spans_161 rfl rfl ?_
              refine Wp.lmul dX12_spans_163 rfl ?_
              rw [lI_mul]
              refine Wp.lcmp_ge (tgt := 182) (n := 168) dX12_spans_164 rfl dX12_spans_165 (by decide) rfl (fun c_164 => ?_) (fun c_164 => ?_)
              · try simp (disch := omega) only [nI_bit0, nI_bit1, Bool.not_eq_false, Bool.not_eq_true] at c_164
                try simp (disch := omega) only [i_lt, i_le, i_eq, l_lt, l_le, l_eq, i_0, i_m1, l_0, nI_tI, iI_tI, lI_tI, Int.not_lt, Int.not_le] at c_164
                refine Wp.iinc (v := _ + (nI 1)) dX12_spans_182 rfl rfl (Nat.le_of_ble_eq_true rfl) (by dsimp only [ev_st1, ev_cl] <;> rfl) rfl ?_
                refine Wp.goto (n := 24) dX12_spans_185 (by decide) ?_
                have ihlo : loN S R c (i + 1) = if R c - R i < 0 ∧ ((loN S R c i).2 = 0 ∨ (S i - S c) * (loN S R c i).2 < (loN S R c i).1 * (R c - R i)) then (-(S i - S c), -(R c - R i)) else loN S R c i := rfl
                rw [nI_add1]
                exact ih _ _ hMt hOt (fun j hj => hft j hj) (by rw [if_neg (by omega)] at ihlo; rw [ihlo]; exact lt8) (by rw [if_neg (by omega)] at ihlo; rw [ihlo]; exact lt9) lt0 lt1 _ _ _ _
              · try simp (disch := omega) only [nI_bit0, nI_bit1, Bool.not_eq_false, Bool.not_eq_true] at c_164
                try simp (disch := omega) only [i_lt, i_le, i_eq, l_lt, l_le, l_eq, i_0, i_m1, l_0, nI_tI, iI_tI, lI_tI, Int.not_lt, Int.not_le] at c_164
                refine Wp.aload_n dX12_spans_168 rfl (by first | exact Or.inr ⟨_, rfl⟩ | exact Or.inl rfl) rfl ?_
                refine Wp.lload dX12_spans_169 rfl rfl ?_
                refine Wp.lneg dX12_spans_171 rfl ?_
                rw [lI_neg]
                refine Wp.put dX12_spans_172 fp_X12_215 hMt.ob rfl rfl rfl ?_
                refine hMt.put (k := 28) (by decide) ?_
                intro h172 V172 hM172 o172 e172 f172
                have out172 := hOt.trans o172
                refine Wp.aload_n dX12_spans_175 rfl (by first | exact Or.inr ⟨_, rfl⟩ | exact Or.inl rfl) rfl ?_
                refine Wp.lload dX12_spans_176 rfl rfl ?_
                refine Wp.lneg dX12_spans_178 rfl ?_
                rw [lI_neg]
                refine Wp.put dX12_spans_179 fp_X12_219 hM172.ob rfl rfl rfl ?_
                refine hM172.put (k := 29) (by decide) ?_
                intro h179 V179 hM179 o179 e179 f179
                have out179 := out172.trans o179
                refine Wp.iinc (v := _ + (nI 1)) dX12_spans_182 rfl rfl (Nat.le_of_ble_eq_true rfl) (by dsimp only [ev_st1, ev_cl] <;> rfl) rfl ?_
                refine Wp.goto (n := 24) dX12_spans_185 (by decide) ?_
                have ihlo : loN S R c (i + 1) = if R c - R i < 0 ∧ ((loN S R c i).2 = 0 ∨ (S i - S c) * (loN S R c i).2 < (loN S R c i).1 * (R c - R i)) then (-(S i - S c), -(R c - R i)) else loN S R c i := rfl
                rw [nI_add1]
                exact ih _ _ hM179 out179 (fun j hj => (f179 j (by omega)).trans ((f172 j (by omega)).trans (hft j hj))) (by rw [if_pos ⟨by omega, by omega⟩] at ihlo; rw [ihlo]; exact ((f179 28 (by decide)).trans e172)) (by rw [if_pos ⟨by omega, by omega⟩] at ihlo; rw [ihlo]; exact e179) ((f179 30 (by decide)).trans ((f172 30 (by decide)).trans lt0)) ((f179 31 (by decide)).trans ((f172 31 (by decide)).trans lt1)) _ _ _ _
        have s88 : Wp B d M_X12_spans 88 [some (.ref x), some (.int (nI c)), some (.int (bI (isN S R c (i + 1)))), some (.int (nI i)), some (.long (lI (R c - R i))), none, some (.long (lI (S i - S c))), none] [] hi_ (fun v h' => v = some (.int (bI (spB S R c n))) ∧ ∃ V', MH h' x V' G Z ∧ Out x h h' ∧ (∀ j, (j < 28 ∨ 31 < j) → V' j = V j) ∧ V' 28 = .long (lI (loN S R c n).1) ∧ V' 29 = .long (lI (loN S R c n).2) ∧ V' 30 = .long (lI (hiN S R c n).1) ∧ V' 31 = .long (lI (hiN S R c n).2)) := by
          refine Wp.lload dX12_spans_88 rfl rfl ?_
          refine Wp.lconst (v := 0) dX12_spans_90 (by decide) rfl ?_
          rw [L0]
          refine Wp.lcmp_le (tgt := 134) (n := 95) dX12_spans_91 rfl dX12_spans_92 (by decide) rfl (fun c_91 => ?_) (fun c_91 => ?_)
          · try simp (disch := omega) only [nI_bit0, nI_bit1, Bool.not_eq_false, Bool.not_eq_true] at c_91
            try simp (disch := omega) only [i_lt, i_le, i_eq, l_lt, l_le, l_eq, i_0, i_m1, l_0, nI_tI, iI_tI, lI_tI, Int.not_lt, Int.not_le] at c_91
            have ihhi : hiN S R c (i + 1) = if 0 < R c - R i ∧ ((hiN S R c i).2 = 0 ∨ (S i - S c) * (hiN S R c i).2 < (hiN S R c i).1 * (R c - R i)) then (S i - S c, R c - R i) else hiN S R c i := rfl
            exact s134 _ _ hMi hOi (fun j hj => hfi j hj) li8 li9 (by rw [if_neg (by omega)] at ihhi; rw [ihhi]; exact li0) (by rw [if_neg (by omega)] at ihhi; rw [ihhi]; exact li1)
          · try simp (disch := omega) only [nI_bit0, nI_bit1, Bool.not_eq_false, Bool.not_eq_true] at c_91
            try simp (disch := omega) only [i_lt, i_le, i_eq, l_lt, l_le, l_eq, i_0, i_m1, l_0, nI_tI, iI_tI, lI_tI, Int.not_lt, Int.not_le] at c_91
            refine Wp.aload_n dX12_spans_95 rfl (by first | exact Or.inr ⟨_, rfl⟩ | exact Or.inl rfl) rfl ?_
            refine Wp.get dX12_spans_96 fl_X12_225 hMi.ob li1 rfl ?_
            refine Wp.lconst (v := 0) dX12_spans_99 (by decide) rfl ?_
            rw [L0]
            refine Wp.lcmp_eq (tgt := 122) (n := 104) dX12_spans_100 rfl dX12_spans_101 (by decide) rfl (fun c_100 => ?_) (fun c_100 => ?_)
            · try simp (disch := omega) only [nI_bit0, nI_bit1, Bool.not_eq_false, Bool.not_eq_true] at c_100
              try simp (disch := omega) only [i_lt, i_le, i_eq, l_lt, l_le, l_eq, i_0, i_m1, l_0, nI_tI, iI_tI, lI_tI, Int.not_lt, Int.not_le] at c_100
              refine Wp.aload_n dX12_spans_122 rfl (by first | exact Or.inr ⟨_, rfl⟩ | exact Or.inl rfl) rfl ?_
              refine Wp.lload dX12_spans_123 rfl rfl ?_
              refine Wp.put dX12_spans_125 fp_X12_222 hMi.ob rfl rfl rfl ?_
              refine hMi.put (k := 30) (by decide) ?_
              intro h125 V125 hM125 o125 e125 f125
              have out125 := hOi.trans o125
              refine Wp.aload_n dX12_spans_128 rfl (by first | exact Or.inr ⟨_, rfl⟩ | exact Or.inl rfl) rfl ?_
              refine Wp.lload dX12_spans_129 rfl rfl ?_
              refine Wp.put dX12_spans_131 fp_X12_225 hM125.ob rfl rfl rfl ?_
              refine hM125.put (k := 31) (by decide) ?_
              intro h131 V131 hM131 o131 e131 f131
              have out131 := out125.trans o131
              have ihhi : hiN S R c (i + 1) = if 0 < R c - R i ∧ ((hiN S R c i).2 = 0 ∨ (S i - S c) * (hiN S R c i).2 < (hiN S R c i).1 * (R c - R i)) then (S i - S c, R c - R i) else hiN S R c i := rfl
              exact s134 _ _ hM131 out131 (fun j hj => (f131 j (by omega)).trans ((f125 j (by omega)).trans (hfi j hj))) ((f131 28 (by decide)).trans ((f125 28 (by decide)).trans li8)) ((f131 29 (by decide)).trans ((f125 29 (by decide)).trans li9)) (by rw [if_pos ⟨by omega, by omega⟩] at ihhi; rw [ihhi]; exact ((f131 30 (by decide)).trans e125)) (by rw [if_pos ⟨by omega, by omega⟩] at ihhi; rw [ihhi]; exact e131)
            · try simp (disch := omega) only [nI_bit0, nI_bit1, Bool.not_eq_false, Bool.not_eq_true] at c_100
              try simp (disch := omega) only [i_lt, i_le, i_eq, l_lt, l_le, l_eq, i_0, i_m1, l_0, nI_tI, iI_tI, lI_tI, Int.not_lt, Int.not_le] at c_100
              refine Wp.lload dX12_spans_104 rfl rfl ?_
              refine Wp.aload_n dX12_spans_106 rfl (by first | exact Or.inr ⟨_, rfl⟩ | exact Or.inl rfl) rfl ?_
              refine Wp.get dX12_spans_107 fl_X12_225 hMi.ob li1 rfl ?_
              refine Wp.lmul dX12_spans_110 rfl ?_
              rw [lI_mul]
              refine Wp.aload_n dX12_spans_111 rfl (by first | exact Or.inr ⟨_, rfl⟩ | exact Or.inl rfl) rfl ?_
              refine Wp.get dX12_spans_112 fl_X12_222 hMi.ob li0 rfl ?_
              refine Wp.lload dX12_spans_115 rfl rfl ?_
              refine Wp.lmul dX12_spans_117 rfl ?_
              rw [lI_mul]
              refine Wp.lcmp_ge (tgt := 134) (n := 122) dX12_spans_118 rfl dX12_spans_119 (by decide) rfl (fun c_118 => ?_) (fun c_118 => ?_)
              · try simp (disch := omega) only [nI_bit0, nI_bit1, Bool.not_eq_false, Bool.not_eq_true] at c_118
                try simp (disch := omega) only [i_lt, i_le, i_eq, l_lt, l_le, l_eq, i_0, i_m1, l_0, nI_tI, iI_tI, lI_tI, Int.not_lt, Int.not_le] at c_118
                have ihhi : hiN S R c (i + 1) = if 0 < R c - R i ∧ ((hiN S R c i).2 = 0 ∨ (S i - S c) * (hiN S R c i).2 < (hiN S R c i).1 * (R c - R i)) then (S i - S c, R c - R i) else hiN S R c i := rfl
                exact s134 _ _ hMi hOi (fun j hj => hfi j hj) li8 li9 (by rw [if_neg (by omega)] at ihhi; rw [ihhi]; exact li0) (by rw [if_neg (by omega)] at ihhi; rw [ihhi]; exact li1)
              · try simp (disch := omega) only [nI_bit0, nI_bit1, Bool.not_eq_false, Bool.not_eq_true] at c_118
                try simp (disch := omega) only [i_lt, i_le, i_eq, l_lt, l_le, l_eq, i_0, i_m1, l_0, nI_tI, iI_tI, lI_tI, Int.not_lt, Int.not_le] at c_118
                refine Wp.aload_n dX12_spans_122 rfl (by first | exact Or.inr ⟨_, rfl⟩ | exact Or.inl rfl) rfl ?_
                refine Wp.lload dX12_spans_123 rfl rfl ?_
                refine Wp.put dX12_spans_125 fp_X12_222 hMi.ob rfl rfl rfl ?_
                refine hMi.put (k := 30) (by decide) ?_
                intro h125 V125 hM125 o125 e125 f125
                have out125 := hOi.trans o125
                refine Wp.aload_n dX12_spans_128 rfl (by first | exact Or.inr ⟨_, rfl⟩ | exact Or.inl rfl) rfl ?_
                refine Wp.lload dX12_spans_129 rfl rfl ?_
                refine Wp.put dX12_spans_131 fp_X12_225 hM125.ob rfl rfl rfl ?_
                refine hM125.put (k := 31) (by decide) ?_
                intro h131 V131 hM131 o131 e131 f131
                have out131 := out125.trans o131
                have ihhi : hiN S R c (i + 1) = if 0 < R c - R i ∧ ((hiN S R c i).2 = 0 ∨ (S i - S c) * (hiN S R c i).2 < (hiN S R c i).1 * (R c - R i)) then (S i - S c, R c - R i) else hiN S R c i := rfl
                exact s134 _ _ hM131 out131 (fun j hj => (f131 j (by omega)).trans ((f125 j (by omega)).trans (hfi j hj))) ((f131 28 (by decide)).trans ((f125 28 (by decide)).trans li8)) ((f131 29 (by decide)).trans ((f125 29 (by decide)).trans li9)) (by rw [if_pos ⟨by omega, by omega⟩] at ihhi; rw [ihhi]; exact ((f131 30 (by decide)).trans e125)) (by rw [if_pos ⟨by omega, by omega⟩] at ihhi; rw [ihhi]; exact e131)
        refine Wp.iload_n dX12_spans_64 rfl rfl ?_
        refine Wp.bif_eq (tgt := 86) (n := 68) dX12_spans_65 (by decide) rfl (fun c_65 => ?_) (fun c_65 => ?_)
        · refine Wp.iconst (v := (nI 0)) dX12_spans_86 (by decide) rfl ?_
          refine Wp.istore_n dX12_spans_87 (Nat.le_of_ble_eq_true rfl) (by dsimp only [ev_st1, ev_st2, ev_cl] <;> rfl) rfl ?_
          exact (by first | (rw [show isN S R c (i + 1) = true from by simp only [isN, Bool.and_eq_true, decide_eq_true_eq]; exact ⟨by assumption, by omega⟩] at s88; exact s88) | (rw [show isN S R c (i + 1) = false from by simp only [isN, Bool.and_eq_false_iff, decide_eq_false_iff_not]; first | (left; assumption) | (right; omega)] at s88; exact s88))
        · refine Wp.lload dX12_spans_68 rfl rfl ?_
          refine Wp.lconst (v := 0) dX12_spans_70 (by decide) rfl ?_
          rw [L0]
          refine Wp.lcmp_ne (tgt := 82) (n := 75) dX12_spans_71 rfl dX12_spans_72 (by decide) rfl (fun c_71 => ?_) (fun c_71 => ?_)
          · try simp (disch := omega) only [nI_bit0, nI_bit1, Bool.not_eq_false, Bool.not_eq_true] at c_71
            try simp (disch := omega) only [i_lt, i_le, i_eq, l_lt, l_le, l_eq, i_0, i_m1, l_0, nI_tI, iI_tI, lI_tI, Int.not_lt, Int.not_le] at c_71
            refine Wp.iconst (v := (nI 1)) dX12_spans_82 (by decide) rfl ?_
            refine Wp.goto (n := 87) dX12_spans_83 (by decide) ?_
            refine Wp.istore_n dX12_spans_87 (Nat.le_of_ble_eq_true rfl) (by dsimp only [ev_st1, ev_st2, ev_cl] <;> rfl) rfl ?_
            exact (by first | (rw [show isN S R c (i + 1) = true from by simp only [isN, Bool.and_eq_true, decide_eq_true_eq]; exact ⟨by assumption, by omega⟩] at s88; exact s88) | (rw [show isN S R c (i + 1) = false from by simp only [isN, Bool.and_eq_false_iff, decide_eq_false_iff_not]; first | (left; assumption) | (right; omega)] at s88; exact s88))
          · try simp (disch := omega) only [nI_bit0, nI_bit1, Bool.not_eq_false, Bool.not_eq_true] at c_71
            try simp (disch := omega) only [i_lt, i_le, i_eq, l_lt, l_le, l_eq, i_0, i_m1, l_0, nI_tI, iI_tI, lI_tI, Int.not_lt, Int.not_le] at c_71
            refine Wp.lload dX12_spans_75 rfl rfl ?_
            refine Wp.lconst (v := 0) dX12_spans_77 (by decide) rfl ?_
            rw [L0]
            refine Wp.lcmp_lt (tgt := 86) (n := 82) dX12_spans_78 rfl dX12_spans_79 (by decide) rfl (fun c_78 => ?_) (fun c_78 => ?_)
            · try simp (disch := omega) only [nI_bit0, nI_bit1, Bool.not_eq_false, Bool.not_eq_true] at c_78
              try simp (disch := omega) only [i_lt, i_le, i_eq, l_lt, l_le, l_eq, i_0, i_m1, l_0, nI_tI, iI_tI, lI_tI, Int.not_lt, Int.not_le] at c_78
              refine Wp.iconst (v := (nI 0)) dX12_spans_86 (by decide) rfl ?_
              refine Wp.istore_n dX12_spans_87 (Nat.le_of_ble_eq_true rfl) (by dsimp only [ev_st1, ev_st2, ev_cl] <;> rfl) rfl ?_
              exact (by first | (rw [show isN S R c (i + 1) = true from by simp only [isN, Bool.and_eq_true, decide_eq_true_eq]; exact ⟨by assumption, by omega⟩] at s88; exact s88) | (rw [show isN S R c (i + 1) = false from by simp only [isN, Bool.and_eq_false_iff, decide_eq_false_iff_not]; first | (left; assumption) | (right; omega)] at s88; exact s88))
            · try simp (disch := omega) only [nI_bit0, nI_bit1, Bool.not_eq_false, Bool.not_eq_true] at c_78
              try simp (disch := omega) only [i_lt, i_le, i_eq, l_lt, l_le, l_eq, i_0, i_m1, l_0, nI_tI, iI_tI, lI_tI, Int.not_lt, Int.not_le] at c_78
              refine Wp.iconst (v := (nI 1)) dX12_spans_82 (by decide) rfl ?_
              refine Wp.goto (n := 87) dX12_spans_83 (by decide) ?_
              refine Wp.istore_n dX12_spans_87 (Nat.le_of_ble_eq_true rfl) (by dsimp only [ev_st1, ev_st2, ev_cl] <;> rfl) rfl ?_
              exact (by first | (rw [show isN S R c (i + 1) = true from by simp only [isN, Bool.and_eq_true, decide_eq_true_eq]; exact ⟨by assumption, by omega⟩] at s88; exact s88) | (rw [show isN S R c (i + 1) = false from by simp only [isN, Bool.and_eq_false_iff, decide_eq_false_iff_not]; first | (left; assumption) | (right; omega)] at s88; exact s88))
    · intro hi_ Vi hMi hOi hfi li8 li9 li0 li1 j4 j5 j6 j7
      have hhb := hiN_b hB hc n (Nat.le_refl n)
      have hlb := loN_b hB hc n (Nat.le_refl n)
      have m1 := mulb (a := (loN S R c n).1) (b := (hiN S R c n).2) (A := 2400) (C := 480) (by omega) (by omega)
      have m2 := mulb (a := (hiN S R c n).1) (b := (loN S R c n).2) (A := 2400) (C := 480) (by omega) (by omega)
      refine Wp.iload_n dX12_spans_24 rfl rfl ?_
      refine Wp.aload_n dX12_spans_25 rfl (by first | exact Or.inr ⟨_, rfl⟩ | exact Or.inl rfl) rfl ?_
      refine Wp.get dX12_spans_26 fl_X12_150 hMi.ob ((hfi 20 (by decide)).trans hA.1) rfl ?_
      refine Wp.icmp_ge (tgt := 188) (n := 32) dX12_spans_29 (by decide) rfl (fun c_29 => ?_) (fun c_29 => ?_)
      · try simp (disch := omega) only [nI_bit0, nI_bit1, Bool.not_eq_false, Bool.not_eq_true] at c_29
        try simp (disch := omega) only [i_lt, i_le, i_eq, l_lt, l_le, l_eq, i_0, i_m1, l_0, nI_tI, iI_tI, lI_tI, Int.not_lt, Int.not_le] at c_29
        refine Wp.iload_n dX12_spans_188 rfl rfl ?_
        refine Wp.bif_eq (tgt := 236) (n := 192) dX12_spans_189 (by decide) rfl (fun c_189 => ?_) (fun c_189 => ?_)
        · refine Wp.iconst (v := (nI 0)) dX12_spans_236 (by decide) rfl ?_
          exact Wp.zret dX12_spans_237 rfl (by decide) (by refine ⟨?_, _, hMi, hOi, hfi, li8, li9, li0, li1⟩; first | (rw [show spB S R c n = true from by simp only [spB, Bool.and_eq_true, decide_eq_true_eq]; exact ⟨by assumption, by omega⟩]; rfl) | (rw [show spB S R c n = false from by (first | (simp only [spB, Bool.and_eq_false_iff, decide_eq_false_iff_not]; first | (left; assumption) | (right; omega)))]; rfl))
        · refine Wp.aload_n dX12_spans_192 rfl (by first | exact Or.inr ⟨_, rfl⟩ | exact Or.inl rfl) rfl ?_
          refine Wp.get dX12_spans_193 fl_X12_219 hMi.ob li9 rfl ?_
          refine Wp.lconst (v := 0) dX12_spans_196 (by decide) rfl ?_
          rw [L0]
          refine Wp.lcmp_eq (tgt := 232) (n := 201) dX12_spans_197 rfl dX12_spans_198 (by decide) rfl (fun c_197 => ?_) (fun c_197 => ?_)
          · try simp (disch := omega) only [nI_bit0, nI_bit1, Bool.not_eq_false, Bool.not_eq_true] at c_197
            try simp (disch := omega) only [i_lt, i_le, i_eq, l_lt, l_le, l_eq, i_0, i_m1, l_0, nI_tI, iI_tI, lI_tI, Int.not_lt, Int.not_le] at c_197
            refine Wp.iconst (v := (nI 1)) dX12_spans_232 (by decide) rfl ?_
            refine Wp.goto (n := 237) dX12_spans_233 (by decide) ?_
            exact Wp.zret dX12_spans_237 rfl (by decide) (by refine ⟨?_, _, hMi, hOi, hfi, li8, li9, li0, li1⟩; first | (rw [show spB S R c n = true from by simp only [spB, Bool.and_eq_true, decide_eq_true_eq]; exact ⟨by assumption, by omega⟩]; rfl) | (rw [show spB S R c n = false from by (first | (simp only [spB, Bool.and_eq_false_iff, decide_eq_false_iff_not]; first | (left; assumption) | (right; omega)))]; rfl))
          · try simp (disch := omega) only [nI_bit0, nI_bit1, Bool.not_eq_false, Bool.not_eq_true] at c_197
            try simp (disch := omega) only [i_lt, i_le, i_eq, l_lt, l_le, l_eq, i_0, i_m1, l_0, nI_tI, iI_tI, lI_tI, Int.not_lt, Int.not_le] at c_197
            refine Wp.aload_n dX12_spans_201 rfl (by first | exact Or.inr ⟨_, rfl⟩ | exact Or.inl rfl) rfl ?_
            refine Wp.get dX12_spans_202 fl_X12_225 hMi.ob li1 rfl ?_
            refine Wp.lconst (v := 0) dX12_spans_205 (by decide) rfl ?_
            rw [L0]
            refine Wp.lcmp_eq (tgt := 232) (n := 210) dX12_spans_206 rfl dX12_spans_207 (by decide) rfl (fun c_206 => ?_) (fun c_206 => ?_)
            · try simp (disch := omega) only [nI_bit0, nI_bit1, Bool.not_eq_false, Bool.not_eq_true] at c_206
              try simp (disch := omega) only [i_lt, i_le, i_eq, l_lt, l_le, l_eq, i_0, i_m1, l_0, nI_tI, iI_tI, lI_tI, Int.not_lt, Int.not_le] at c_206
              refine Wp.iconst (v := (nI 1)) dX12_spans_232 (by decide) rfl ?_
              refine Wp.goto (n := 237) dX12_spans_233 (by decide) ?_
              exact Wp.zret dX12_spans_237 rfl (by decide) (by refine ⟨?_, _, hMi, hOi, hfi, li8, li9, li0, li1⟩; first | (rw [show spB S R c n = true from by simp only [spB, Bool.and_eq_true, decide_eq_true_eq]; exact ⟨by assumption, by omega⟩]; rfl) | (rw [show spB S R c n = false from by (first | (simp only [spB, Bool.and_eq_false_iff, decide_eq_false_iff_not]; first | (left; assumption) | (right; omega)))]; rfl))
            · try simp (disch := omega) only [nI_bit0, nI_bit1, Bool.not_eq_false, Bool.not_eq_true] at c_206
              try simp (disch := omega) only [i_lt, i_le, i_eq, l_lt, l_le, l_eq, i_0, i_m1, l_0, nI_tI, iI_tI, lI_tI, Int.not_lt, Int.not_le] at c_206
              refine Wp.aload_n dX12_spans_210 rfl (by first | exact Or.inr ⟨_, rfl⟩ | exact Or.inl rfl) rfl ?_
              refine Wp.get dX12_spans_211 fl_X12_215 hMi.ob li8 rfl ?_
              refine Wp.aload_n dX12_spans_214 rfl (by first | exact Or.inr ⟨_, rfl⟩ | exact Or.inl rfl) rfl ?_
              refine Wp.get dX12_spans_215 fl_X12_225 hMi.ob li1 rfl ?_
              refine Wp.lmul dX12_spans_218 rfl ?_
              rw [lI_mul]
              refine Wp.aload_n dX12_spans_219 rfl (by first | exact Or.inr ⟨_, rfl⟩ | exact Or.inl rfl) rfl ?_
              refine Wp.get dX12_spans_220 fl_X12_222 hMi.ob li0 rfl ?_
              refine Wp.aload_n dX12_spans_223 rfl (by first | exact Or.inr ⟨_, rfl⟩ | exact Or.inl rfl) rfl ?_
              refine Wp.get dX12_spans_224 fl_X12_219 hMi.ob li9 rfl ?_
              refine Wp.lmul dX12_spans_227 rfl ?_
              rw [lI_mul]
              refine Wp.lcmp_gt (tgt := 236) (n := 232) dX12_spans_228 rfl dX12_spans_229 (by decide) rfl (fun c_228 => ?_) (fun c_228 => ?_)
              · try simp (disch := omega) only [nI_bit0, nI_bit1, Bool.not_eq_false, Bool.not_eq_true] at c_228
                try simp (disch := omega) only [i_lt, i_le, i_eq, l_lt, l_le, l_eq, i_0, i_m1, l_0, nI_tI, iI_tI, lI_tI, Int.not_lt, Int.not_le] at c_228
                refine Wp.iconst (v := (nI 0)) dX12_spans_236 (by decide) rfl ?_
                exact Wp.zret dX12_spans_237 rfl (by decide) (by refine ⟨?_, _, hMi, hOi, hfi, li8, li9, li0, li1⟩; first | (rw [show spB S R c n = true from by simp only [spB, Bool.and_eq_true, decide_eq_true_eq]; exact ⟨by assumption, by omega⟩]; rfl) | (rw [show spB S R c n = false from by (first | (simp only [spB, Bool.and_eq_false_iff, decide_eq_false_iff_not]; first | (left; assumption) | (right; omega)))]; rfl))
              · try simp (disch := omega) only [nI_bit0, nI_bit1, Bool.not_eq_false, Bool.not_eq_true] at c_228
                try simp (disch := omega) only [i_lt, i_le, i_eq, l_lt, l_le, l_eq, i_0, i_m1, l_0, nI_tI, iI_tI, lI_tI, Int.not_lt, Int.not_le] at c_228
                refine Wp.iconst (v := (nI 1)) dX12_spans_232 (by decide) rfl ?_
                refine Wp.goto (n := 237) dX12_spans_233 (by decide) ?_
                exact Wp.zret dX12_spans_237 rfl (by decide) (by refine ⟨?_, _, hMi, hOi, hfi, li8, li9, li0, li1⟩; first | (rw [show spB S R c n = true from by simp only [spB, Bool.and_eq_true, decide_eq_true_eq]; exact ⟨by assumption, by omega⟩]; rfl) | (rw [show spB S R c n = false from by (first | (simp only [spB, Bool.and_eq_false_iff, decide_eq_false_iff_not]; first | (left; assumption) | (right; omega)))]; rfl))
      · try simp (disch := omega) only [nI_bit0, nI_bit1, Bool.not_eq_false, Bool.not_eq_true] at c_29
        try simp (disch := omega) only [i_lt, i_le, i_eq, l_lt, l_le, l_eq, i_0, i_m1, l_0, nI_tI, iI_tI, lI_tI, Int.not_lt, Int.not_le] at c_29
        omega
  refine Wp.aload_n dX12_spans_0 rfl (by first | exact Or.inr ⟨_, rfl⟩ | exact Or.inl rfl) rfl ?_
  refine Wp.lconst (v := 0) dX12_spans_1 (by decide) rfl ?_
  refine Wp.put dX12_spans_2 fp_X12_215 hM.ob rfl rfl rfl ?_
  refine hM.put (k := 28) (by decide) ?_
  intro h2 V2 hM2 o2 e2 f2
  have out2 := (Out.rfl (x := x) (h := h)).trans o2
  refine Wp.aload_n dX12_spans_5 rfl (by first | exact Or.inr ⟨_, rfl⟩ | exact Or.inl rfl) rfl ?_
  refine Wp.lconst (v := 0) dX12_spans_6 (by decide) rfl ?_
  refine Wp.put dX12_spans_7 fp_X12_219 hM2.ob rfl rfl rfl ?_
  refine hM2.put (k := 29) (by decide) ?_
  intro h7 V7 hM7 o7 e7 f7
  have out7 := out2.trans o7
  refine Wp.aload_n dX12_spans_10 rfl (by first | exact Or.inr ⟨_, rfl⟩ | exact Or.inl rfl) rfl ?_
  refine Wp.lconst (v := 0) dX12_spans_11 (by decide) rfl ?_
  refine Wp.put dX12_spans_12 fp_X12_222 hM7.ob rfl rfl rfl ?_
  refine hM7.put (k := 30) (by decide) ?_
  intro h12 V12 hM12 o12 e12 f12
  have out12 := out7.trans o12
  refine Wp.aload_n dX12_spans_15 rfl (by first | exact Or.inr ⟨_, rfl⟩ | exact Or.inl rfl) rfl ?_
  refine Wp.lconst (v := 0) dX12_spans_16 (by decide) rfl ?_
  refine Wp.put dX12_spans_17 fp_X12_225 hM12.ob rfl rfl rfl ?_
  refine hM12.put (k := 31) (by decide) ?_
  intro h17 V17 hM17 o17 e17 f17
  have out17 := out12.trans o17
  refine Wp.iconst (v := (nI 1)) dX12_spans_20 (by decide) rfl ?_
  refine Wp.istore_n dX12_spans_21 (Nat.le_of_ble_eq_true rfl) (by dsimp only [ev_st1, ev_st2, ev_cl] <;> rfl) rfl ?_
  refine Wp.iconst (v := (nI 0)) dX12_spans_22 (by decide) rfl ?_
  refine Wp.istore_n dX12_spans_23 (Nat.le_of_ble_eq_true rfl) (by dsimp only [ev_st1, ev_st2, ev_cl] <;> rfl) rfl ?_
  exact loop 0 (by omega) _ _ hM17 out17 (fun j hj => (f17 j (by omega)).trans ((f12 j (by omega)).trans ((f7 j (by omega)).trans (f2 j (by omega))))) ((f17 28 (by decide)).trans ((f12 28 (by decide)).trans ((f7 28 (by decide)).trans e2))) ((f17 29 (by decide)).trans ((f12 29 (by decide)).trans e7)) ((f17 30 (by decide)).trans e12) e17 _ _ _ _
