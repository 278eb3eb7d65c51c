/-! the class: sheets set, celled, laid, copied -/
theorem nI_tn {n : Int32} {m : Int} (h : 0 ≤ n.toInt ∧ n.toInt ≤ m) (hm : m < 2147483648) : n = nI (tn n) := by
  obtain ⟨k, rfl, hk, hk2⟩ := as_nI (o := n) (n := (m + 1).toNat) (by omega)
  rw [tn_nI hk2]
section
variable {X : Nat → Prop} {w0 : Nat} {h h' : ev_H} {A : Nat → Nat} {C C' : Nat → Option ev_E} {σ : Sg} {ns ws : Nat} {cp ln : Nat → Nat} {lr j : Nat}
/-- one sheet has changed -/
theorem PS.she {s : Nat} {so : Nat → Int} {sz : Nat → Nat} {ce : Nat → Nat → Int64} (p : PS X w0 h A C σ ns ws cp ln lr j) (hj : j + 1 ≤ 600) (hs : s < 4) (S' : CS X h' A C') (g : CG X h h' 0) (f : ∀ t, t ≠ 14 + 2 * s → t ≠ 15 + 2 * s → C' t = C t) (h1 : ShS A C' (σ.shs so sz ce) s) (h2 : ∀ u, u ≠ s → so u = σ.so u ∧ sz u = σ.sz u ∧ ∀ i, ce u i = σ.ce u i) : PS X w0 h' A C' (σ.shs so sz ce) ns ws cp ln lr (j + 1) := by
  refine p.oth (by omega) hj S' (g.le (by omega)) (Nat.le_refl _) (fun _ _ => rfl) (fun t ht => f t (by omega) (by omega)) ⟨p.row.1.same (f _ (by omega) (by omega)) (f _ (by omega) (by omega)) rfl, p.row.2⟩ (p.act.same (f _ (by omega) (by omega)) (f _ (by omega) (by omega)) rfl) (fun u hu => ?_)
  by_cases e : u = s
  · subst e; exact h1
  · have q := h2 u e
    exact (p.sh u hu).same (f _ (by omega) (by omega)) (f _ (by omega) (by omega)) rfl q.1 q.2.1 q.2.2
end
set_option maxHeartbeats 1000000 in
theorem c_X11_sheet {B : ev_B} {d a0 w0 j : Nat} {X : Nat → Prop} {h : ev_H} {σ : Sg} {s t n : Int32} (hp : PSx X w0 h a0 σ j) (hW : Wf σ) (hj : j + 1 ≤ 600) (hd : 4 ≤ d) :
    Wp B d M_X11_sheet 0 [some (.ref a0), some (.int (s)), some (.int (t)), some (.int (n)), none] [] h (CQ X w0 h a0 (t_sheet σ s t n) j (.int (a_sheet s t n))) := by
  obtain ⟨A, C, ns, ws, cp, ln, lr, pS, ha⟩ := hp
  obtain ⟨Vb, hVb, b0, b1, b2, b3, b4, b5, b6, b7⟩ := id pS.ben
  obtain ⟨Vw, hVw, -⟩ := id pS.win
  obtain ⟨Vq, gq, hVq, rq0, rq1, hgq, rq2, rq3⟩ := id pS.row.1
  obtain ⟨zf, hzf⟩ := id pS.fo
  have hcn := pS.cnt
  have hn10 := hW.n
  by_cases hsh : isSh s
  · obtain ⟨ks_, rfl, hss, hss2⟩ := as_nI (o := s) (n := 4) (by omega)
    have tss := nI_tI hss2
    obtain ⟨Vs, zzs, hVs, us0, us1, us2, its, hzs⟩ := id (pS.sh ks_ hss)
    have hsos := hW.so ks_ hss
    have hszs := hW.sz ks_ hss
    have hsms := hW.sm ks_ hss
    refine Wp.aload_n dX11_sheet_0 rfl (by first | exact Or.inr ⟨_, rfl⟩ | exact Or.inl rfl) rfl ?_
    refine Wp.iload_n dX11_sheet_1 rfl rfl ?_
    refine Wp.cV dX11_sheet_2 cv_X11_318 rfl (by omega) rfl (Nat.le_of_ble_eq_true rfl) (Nat.le_of_ble_eq_true rfl) (pS.S.at' hVb ha) rfl (c_X11_sheetAt_y (d := d - 1) pS ha hss) ?_
    rintro _ h_ ⟨rfl, e_⟩
    rw [e_]
    clear e_ h_
    dsimp only [Option.toList, List.drop, List.cons_append, List.nil_append]
    refine Wp.astore dX11_sheet_5 (by first | exact Or.inr ⟨_, rfl⟩ | exact Or.inl rfl) (Nat.le_of_ble_eq_true rfl) (by dsimp only [ev_st1, ev_cl] <;> rfl) rfl ?_
    refine Wp.aload dX11_sheet_7 rfl (by first | exact Or.inr ⟨_, rfl⟩ | exact Or.inl rfl) rfl ?_
    refine Wp.ifnull (n := 12) dX11_sheet_9 rfl ?_
    refine Wp.iload_n dX11_sheet_12 rfl rfl ?_
    refine Wp.iconst (v := (-1)) dX11_sheet_13 (by decide) rfl ?_
    refine Wp.icmp_lt (tgt := 22) (n := 17) dX11_sheet_14 (by decide) rfl (fun c_14 => ?_) (fun c_14 => ?_)
    · try simp (disch := omega) only [nI_bit0, nI_bit1, Bool.not_eq_false, Bool.not_eq_true] at c_14
      try simp (disch := omega) only [i_lt, i_le, i_eq, l_lt, l_le, l_eq, i_0, i_m1, l_0, nI_tI, iI_tI, lI_tI, Int.not_lt, Int.not_le] at c_14
      refine Wp.bipush (v := (-2)) dX11_sheet_22 (by decide) rfl ?_
      exact Wp.iret dX11_sheet_24 rfl (by
        have e1 : t_sheet σ (nI ks_) t n = σ := by rw [t_sheet, if_neg (by first | omega | (simp (disch := omega) only [okLy, okCp, isSh, tn_nI, nI_tI]; omega))]
        rw [e1]
        refine ⟨?_, FX.rfl, A, C, ns, ws, cp, ln, lr, pS.up hj, ha⟩
        simp (disch := omega) only [a_sheet, isSh, tn_nI, nI_tI]; (repeat' split) <;> first | (exfalso; omega) | rfl)
    · try simp (disch := omega) only [nI_bit0, nI_bit1, Bool.not_eq_false, Bool.not_eq_true] at c_14
      try simp (disch := omega) only [i_lt, i_le, i_eq, l_lt, l_le, l_eq, i_0, i_m1, l_0, nI_tI, iI_tI, lI_tI, Int.not_lt, Int.not_le] at c_14
      refine Wp.iload_n dX11_sheet_17 rfl rfl ?_
      refine Wp.iconst (v := (nI 2)) dX11_sheet_18 (by decide) rfl ?_
      refine Wp.icmp_le (tgt := 25) (n := 22) dX11_sheet_19 (by decide) rfl (fun c_19 => ?_) (fun c_19 => ?_)
      · try simp (disch := omega) only [nI_bit0, nI_bit1, Bool.not_eq_false, Bool.not_eq_true] at c_19
        try simp (disch := omega) only [i_lt, i_le, i_eq, l_lt, l_le, l_eq, i_0, i_m1, l_0, nI_tI, iI_tI, lI_tI, Int.not_lt, Int.not_le] at c_19
        refine Wp.iload_n dX11_sheet_25 rfl rfl ?_
        refine Wp.iconst (v := (-1)) dX11_sheet_26 (by decide) rfl ?_
        refine Wp.icmp_eq (tgt := 39) (n := 30) dX11_sheet_27 (by decide) rfl (fun c_27 => ?_) (fun c_27 => ?_)
        · try simp (disch := omega) only [nI_bit0, nI_bit1, Bool.not_eq_false, Bool.not_eq_true] at c_27
          try simp (disch := omega) only [i_lt, i_le, i_eq, l_lt, l_le, l_eq, i_0, i_m1, l_0, nI_tI, iI_tI, lI_tI, Int.not_lt, Int.not_le] at c_27
          refine Wp.iload_n dX11_sheet_39 rfl rfl ?_
          refine Wp.iconst (v := (-1)) dX11_sheet_40 (by decide) rfl ?_
          refine Wp.icmp_eq (tgt := 51) (n := 44) dX11_sheet_41 (by decide) rfl (fun c_41 => ?_) (fun c_41 => ?_)
          · try simp (disch := omega) only [nI_bit0, nI_bit1, Bool.not_eq_false, Bool.not_eq_true] at c_41
            try simp (disch := omega) only [i_lt, i_le, i_eq, l_lt, l_le, l_eq, i_0, i_m1, l_0, nI_tI, iI_tI, lI_tI, Int.not_lt, Int.not_le] at c_41
            refine Wp.aload dX11_sheet_51 rfl (by first | exact Or.inr ⟨_, rfl⟩ | exact Or.inl rfl) rfl ?_
            refine Wp.iload_n dX11_sheet_53 rfl rfl ?_
            refine Wp.iload_n dX11_sheet_54 rfl rfl ?_
            refine Wp.cV dX11_sheet_55 cv_X11_322 rfl (by omega) rfl (Nat.le_of_ble_eq_true rfl) (Nat.le_of_ble_eq_true rfl) (pS.S.at hVs) rfl (c_X6_become (d := d - 1) pS.S (pS.sh ks_ hss) (by omega)) ?_
            rintro _ h1 ⟨rfl, C1, V1, z1, S1, o1, f1, g1, y0, y1, y2, y3, y4⟩
            dsimp only [Option.toList, List.drop, List.cons_append, List.nil_append]
            refine Wp.iconst (v := (nI 1)) dX11_sheet_58 (by decide) rfl ?_
            exact Wp.iret dX11_sheet_59 rfl (by
              have ea : a_sheet (nI ks_) t n = 1 := by rw [a_sheet, if_pos (by omega), if_neg (by omega)]
              rw [ea, t_sheet, if_pos (by omega), tn_nI hss2]
              refine ⟨rfl, o1.fx, A, C1, ns, ws, cp, ln, lr, pS.she hj hss S1 o1 f1 ⟨V1, z1, g1, ?_, ?_, y2, y3, fun i hi => ?_⟩ (fun u hu => ?_), ha⟩
              · show V1 0 = .int (iI (updZ σ.so ks_ t.toInt ks_))
                rw [updZ, if_pos rfl, ← iI_of]; exact y0
              · show V1 1 = .int (nI (updN σ.sz ks_ (if t.toInt = -1 then 0 else tn n) ks_))
                rw [updN, if_pos rfl, y1]
                split
                · rfl
                · exact congrArg Value.int (nI_tn (m := 40) (by omega) (by decide))
              · show z1 i = if ks_ = ks_ then 0 else σ.ce ks_ i
                rw [if_pos rfl]; exact y4 i hi
              · refine ⟨?_, ?_, fun i => ?_⟩
                · rw [updZ, if_neg hu]
                · rw [updN, if_neg hu]
                · show (if u = ks_ then 0 else σ.ce u i) = _
                  rw [if_neg hu])
          · try simp (disch := omega) only [nI_bit0, nI_bit1, Bool.not_eq_false, Bool.not_eq_true] at c_41
            try simp (disch := omega) only [i_lt, i_le, i_eq, l_lt, l_le, l_eq, i_0, i_m1, l_0, nI_tI, iI_tI, lI_tI, Int.not_lt, Int.not_le] at c_41
            refine Wp.iload_n dX11_sheet_44 rfl rfl ?_
            refine Wp.if_ge (tgt := 51) (n := 48) dX11_sheet_45 (by decide) rfl (fun c_45 => ?_) (fun c_45 => ?_)
            · try simp (disch := omega) only [nI_bit0, nI_bit1, Bool.not_eq_false, Bool.not_eq_true] at c_45
              try simp (disch := omega) only [i_lt, i_le, i_eq, l_lt, l_le, l_eq, i_0, i_m1, l_0, nI_tI, iI_tI, lI_tI, Int.not_lt, Int.not_le] at c_45
              refine Wp.aload dX11_sheet_51 rfl (by first | exact Or.inr ⟨_, rfl⟩ | exact Or.inl rfl) rfl ?_
              refine Wp.iload_n dX11_sheet_53 rfl rfl ?_
              refine Wp.iload_n dX11_sheet_54 rfl rfl ?_
              refine Wp.cV dX11_sheet_55 cv_X11_322 rfl (by omega) rfl (Nat.le_of_ble_eq_true rfl) (Nat.le_of_ble_eq_true rfl) (pS.S.at hVs) rfl (c_X6_become (d := d - 1) pS.S (pS.sh ks_ hss) (by omega)) ?_
              rintro _ h1 ⟨rfl, C1, V1, z1, S1, o1, f1, g1, y0, y1, y2, y3, y4⟩
              dsimp only [Option.toList, List.drop, List.cons_append, List.nil_append]
              refine Wp.iconst (v := (nI 1)) dX11_sheet_58 (by decide) rfl ?_
              exact Wp.iret dX11_sheet_59 rfl (by
                have ea : a_sheet (nI ks_) t n = 1 := by rw [a_sheet, if_pos (by omega), if_neg (by omega)]
                rw [ea, t_sheet, if_pos (by omega), tn_nI hss2]
                refine ⟨rfl, o1.fx, A, C1, ns, ws, cp, ln, lr, pS.she hj hss S1 o1 f1 ⟨V1, z1, g1, ?_, ?_, y2, y3, fun i hi => ?_⟩ (fun u hu => ?_), ha⟩
                · show V1 0 = .int (iI (updZ σ.so ks_ t.toInt ks_))
                  rw [updZ, if_pos rfl, ← iI_of]; exact y0
                · show V1 1 = .int (nI (updN σ.sz ks_ (if t.toInt = -1 then 0 else tn n) ks_))
                  rw [updN, if_pos rfl, y1]
                  split
                  · rfl
                  · exact congrArg Value.int (nI_tn (m := 40) (by omega) (by decide))
                · show z1 i = if ks_ = ks_ then 0 else σ.ce ks_ i
                  rw [if_pos rfl]; exact y4 i hi
                · refine ⟨?_, ?_, fun i => ?_⟩
                  · rw [updZ, if_neg hu]
                  · rw [updN, if_neg hu]
                  · show (if u = ks_ then 0 else σ.ce u i) = _
                    rw [if_neg hu])
            · try simp (disch := omega) only [nI_bit0, nI_bit1, Bool.not_eq_false, Bool.not_eq_true] at c_45
              try simp (disch := omega) only [i_lt, i_le, i_eq, l_lt, l_le, l_eq, i_0, i_m1, l_0, nI_tI, iI_tI, lI_tI, Int.not_lt, Int.not_le] at c_45
              refine Wp.bipush (v := (-14)) dX11_sheet_48 (by decide) rfl ?_
              exact Wp.iret dX11_sheet_50 rfl (by
                have e1 : t_sheet σ (nI ks_) t n = σ := by rw [t_sheet, if_neg (by first | omega | (simp (disch := omega) only [okLy, okCp, isSh, tn_nI, nI_tI]; omega))]
                rw [e1]
                refine ⟨?_, FX.rfl, A, C, ns, ws, cp, ln, lr, pS.up hj, ha⟩
                simp (disch := omega) only [a_sheet, isSh, tn_nI, nI_tI]; (repeat' split) <;> first | (exfalso; omega) | rfl)
        · try simp (disch := omega) only [nI_bit0, nI_bit1, Bool.not_eq_false, Bool.not_eq_true] at c_27
          try simp (disch := omega) only [i_lt, i_le, i_eq, l_lt, l_le, l_eq, i_0, i_m1, l_0, nI_tI, iI_tI, lI_tI, Int.not_lt, Int.not_le] at c_27
          refine Wp.iload_n dX11_sheet_30 rfl rfl ?_
          refine Wp.bipush (v := (nI 40)) dX11_sheet_31 (by decide) rfl ?_
          refine Wp.icmp_le (tgt := 39) (n := 36) dX11_sheet_33 (by decide) rfl (fun c_33 => ?_) (fun c_33 => ?_)
          · try simp (disch := omega) only [nI_bit0, nI_bit1, Bool.not_eq_false, Bool.not_eq_true] at c_33
            try simp (disch := omega) only [i_lt, i_le, i_eq, l_lt, l_le, l_eq, i_0, i_m1, l_0, nI_tI, iI_tI, lI_tI, Int.not_lt, Int.not_le] at c_33
            refine Wp.iload_n dX11_sheet_39 rfl rfl ?_
            refine Wp.iconst (v := (-1)) dX11_sheet_40 (by decide) rfl ?_
            refine Wp.icmp_eq (tgt := 51) (n := 44) dX11_sheet_41 (by decide) rfl (fun c_41 => ?_) (fun c_41 => ?_)
            · try simp (disch := omega) only [nI_bit0, nI_bit1, Bool.not_eq_false, Bool.not_eq_true] at c_41
              try simp (disch := omega) only [i_lt, i_le, i_eq, l_lt, l_le, l_eq, i_0, i_m1, l_0, nI_tI, iI_tI, lI_tI, Int.not_lt, Int.not_le] at c_41
              refine Wp.aload dX11_sheet_51 rfl (by first | exact Or.inr ⟨_, rfl⟩ | exact Or.inl rfl) rfl ?_
              refine Wp.iload_n dX11_sheet_53 rfl rfl ?_
              refine Wp.iload_n dX11_sheet_54 rfl rfl ?_
              refine Wp.cV dX11_sheet_55 cv_X11_322 rfl (by omega) rfl (Nat.le_of_ble_eq_true rfl) (Nat.le_of_ble_eq_true rfl) (pS.S.at hVs) rfl (c_X6_become (d := d - 1) pS.S (pS.sh ks_ hss) (by omega)) ?_
              rintro _ h1 ⟨rfl, C1, V1, z1, S1, o1, f1, g1, y0, y1, y2, y3, y4⟩
              dsimp only [Option.toList, List.drop, List.cons_append, List.nil_append]
              refine Wp.iconst (v := (nI 1)) dX11_sheet_58 (by decide) rfl ?_
              exact Wp.iret dX11_sheet_59 rfl (by
                have ea : a_sheet (nI ks_) t n = 1 := by rw [a_sheet, if_pos (by omega), if_neg (by omega)]
                rw [ea, t_sheet, if_pos (by omega), tn_nI hss2]
                refine ⟨rfl, o1.fx, A, C1, ns, ws, cp, ln, lr, pS.she hj hss S1 o1 f1 ⟨V1, z1, g1, ?_, ?_, y2, y3, fun i hi => ?_⟩ (fun u hu => ?_), ha⟩
                · show V1 0 = .int (iI (updZ σ.so ks_ t.toInt ks_))
                  rw [updZ, if_pos rfl, ← iI_of]; exact y0
                · show V1 1 = .int (nI (updN σ.sz ks_ (if t.toInt = -1 then 0 else tn n) ks_))
                  rw [updN, if_pos rfl, y1]
                  split
                  · rfl
                  · exact congrArg Value.int (nI_tn (m := 40) (by omega) (by decide))
                · show z1 i = if ks_ = ks_ then 0 else σ.ce ks_ i
                  rw [if_pos rfl]; exact y4 i hi
                · refine ⟨?_, ?_, fun i => ?_⟩
                  · rw [updZ, if_neg hu]
                  · rw [updN, if_neg hu]
                  · show (if u = ks_ then 0 else σ.ce u i) = _
                    rw [if_neg hu])
            · try simp (disch := omega) only [nI_bit0, nI_bit1, Bool.not_eq_false, Bool.not_eq_true] at c_41
              try simp (disch := omega) only [i_lt, i_le, i_eq, l_lt, l_le, l_eq, i_0, i_m1, l_0, nI_tI, iI_tI, lI_tI, Int.not_lt, Int.not_le] at c_41
              refine Wp.iload_n dX11_sheet_44 rfl rfl ?_
              refine Wp.if_ge (tgt := 51) (n := 48) dX11_sheet_45 (by decide) rfl (fun c_45 => ?_) (fun c_45 => ?_)
              · try simp (disch := omega) only [nI_bit0, nI_bit1, Bool.not_eq_false, Bool.not_eq_true] at c_45
                try simp (disch := omega) only [i_lt, i_le, i_eq, l_lt, l_le, l_eq, i_0, i_m1, l_0, nI_tI, iI_tI, lI_tI, Int.not_lt, Int.not_le] at c_45
                refine Wp.aload dX11_sheet_51 rfl (by first | exact Or.inr ⟨_, rfl⟩ | exact Or.inl rfl) rfl ?_
                refine Wp.iload_n dX11_sheet_53 rfl rfl ?_
                refine Wp.iload_n dX11_sheet_54 rfl rfl ?_
                refine Wp.cV dX11_sheet_55 cv_X11_322 rfl (by omega) rfl (Nat.le_of_ble_eq_true rfl) (Nat.le_of_ble_eq_true rfl) (pS.S.at hVs) rfl (c_X6_become (d := d - 1) pS.S (pS.sh ks_ hss) (by omega)) ?_
                rintro _ h1 ⟨rfl, C1, V1, z1, S1, o1, f1, g1, y0, y1, y2, y3, y4⟩
                dsimp only [Option.toList, List.drop, List.cons_append, List.nil_append]
                refine Wp.iconst (v := (nI 1)) dX11_sheet_58 (by decide) rfl ?_
                exact Wp.iret dX11_sheet_59 rfl (by
                  have ea : a_sheet (nI ks_) t n = 1 := by rw [a_sheet, if_pos (by omega), if_neg (by omega)]
                  rw [ea, t_sheet, if_pos (by omega), tn_nI hss2]
                  refine ⟨rfl, o1.fx, A, C1, ns, ws, cp, ln, lr, pS.she hj hss S1 o1 f1 ⟨V1, z1, g1, ?_, ?_, y2, y3, fun i hi => ?_⟩ (fun u hu => ?_), ha⟩
                  · show V1 0 = .int (iI (updZ σ.so ks_ t.toInt ks_))
                    rw [updZ, if_pos rfl, ← iI_of]; exact y0
                  · show V1 1 = .int (nI (updN σ.sz ks_ (if t.toInt = -1 then 0 else tn n) ks_))
                    rw [updN, if_pos rfl, y1]
                    split
                    · rfl
                    · exact congrArg Value.int (nI_tn (m := 40) (by omega) (by decide))
                  · show z1 i = if ks_ = ks_ then 0 else σ.ce ks_ i
                    rw [if_pos rfl]; exact y4 i hi
                  · refine ⟨?_, ?_, fun i => ?_⟩
                    · rw [updZ, if_neg hu]
                    · rw [updN, if_neg hu]
                    · show (if u = ks_ then 0 else σ.ce u i) = _
                      rw [if_neg hu])
              · try simp (disch := omega) only [nI_bit0, nI_bit1, Bool.not_eq_false, Bool.not_eq_true] at c_45
                try simp (disch := omega) only [i_lt, i_le, i_eq, l_lt, l_le, l_eq, i_0, i_m1, l_0, nI_tI, iI_tI, lI_tI, Int.not_lt, Int.not_le] at c_45
                refine Wp.bipush (v := (-14)) dX11_sheet_48 (by decide) rfl ?_
                exact Wp.iret dX11_sheet_50 rfl (by
                  have e1 : t_sheet σ (nI ks_) t n = σ := by rw [t_sheet, if_neg (by first | omega | (simp (disch := omega) only [okLy, okCp, isSh, tn_nI, nI_tI]; omega))]
                  rw [e1]
                  refine ⟨?_, FX.rfl, A, C, ns, ws, cp, ln, lr, pS.up hj, ha⟩
                  simp (disch := omega) only [a_sheet, isSh, tn_nI, nI_tI]; (repeat' split) <;> first | (exfalso; omega) | rfl)
          · try simp (disch := omega) only [nI_bit0, nI_bit1, Bool.not_eq_false, Bool.not_eq_true] at c_33
            try simp (disch := omega) only [i_lt, i_le, i_eq, l_lt, l_le, l_eq, i_0, i_m1, l_0, nI_tI, iI_tI, lI_tI, Int.not_lt, Int.not_le] at c_33
            refine Wp.bipush (v := (-2)) dX11_sheet_36 (by decide) rfl ?_
            exact Wp.iret dX11_sheet_38 rfl (by
              have e1 : t_sheet σ (nI ks_) t n = σ := by rw [t_sheet, if_neg (by first | omega | (simp (disch := omega) only [okLy, okCp, isSh, tn_nI, nI_tI]; omega))]
              rw [e1]
              refine ⟨?_, FX.rfl, A, C, ns, ws, cp, ln, lr, pS.up hj, ha⟩
              simp (disch := omega) only [a_sheet, isSh, tn_nI, nI_tI]; (repeat' split) <;> first | (exfalso; omega) | rfl)
      · try simp (disch := omega) only [nI_bit0, nI_bit1, Bool.not_eq_false, Bool.not_eq_true] at c_19
        try simp (disch := omega) only [i_lt, i_le, i_eq, l_lt, l_le, l_eq, i_0, i_m1, l_0, nI_tI, iI_tI, lI_tI, Int.not_lt, Int.not_le] at c_19
        refine Wp.bipush (v := (-2)) dX11_sheet_22 (by decide) rfl ?_
        exact Wp.iret dX11_sheet_24 rfl (by
          have e1 : t_sheet σ (nI ks_) t n = σ := by rw [t_sheet, if_neg (by first | omega | (simp (disch := omega) only [okLy, okCp, isSh, tn_nI, nI_tI]; omega))]
          rw [e1]
          refine ⟨?_, FX.rfl, A, C, ns, ws, cp, ln, lr, pS.up hj, ha⟩
          simp (disch := omega) only [a_sheet, isSh, tn_nI, nI_tI]; (repeat' split) <;> first | (exfalso; omega) | rfl)
  · refine Wp.aload_n dX11_sheet_0 rfl (by first | exact Or.inr ⟨_, rfl⟩ | exact Or.inl rfl) rfl ?_
    refine Wp.iload_n dX11_sheet_1 rfl rfl ?_
    refine Wp.cV dX11_sheet_2 cv_X11_318 rfl (by omega) rfl (Nat.le_of_ble_eq_true rfl) (Nat.le_of_ble_eq_true rfl) (pS.S.at' hVb ha) rfl (c_X11_sheetAt_n (d := d - 1) pS ha hsh) ?_
    rintro _ h_ ⟨rfl, e_⟩
    rw [e_]
    clear e_ h_
    dsimp only [Option.toList, List.drop, List.cons_append, List.nil_append]
    refine Wp.astore dX11_sheet_5 (by first | exact Or.inr ⟨_, rfl⟩ | exact Or.inl rfl) (Nat.le_of_ble_eq_true rfl) (by dsimp only [ev_st1, ev_cl] <;> rfl) rfl ?_
    refine Wp.aload dX11_sheet_7 rfl (by first | exact Or.inr ⟨_, rfl⟩ | exact Or.inl rfl) rfl ?_
    refine Wp.ifnullN (n := 22) dX11_sheet_9 (by decide) ?_
    refine Wp.bipush (v := (-2)) dX11_sheet_22 (by decide) rfl ?_
    exact Wp.iret dX11_sheet_24 rfl (by
      have e1 : t_sheet σ s t n = σ := by rw [t_sheet, if_neg (by first | omega | (simp (disch := omega) only [okLy, okCp, isSh, tn_nI, nI_tI]; omega))]
      rw [e1]
      refine ⟨?_, FX.rfl, A, C, ns, ws, cp, ln, lr, pS.up hj, ha⟩
      simp (disch := omega) only [a_sheet, isSh, tn_nI, nI_tI]; (repeat' split) <;> first | (exfalso; omega) | rfl)
theorem nI_addt {a b : Nat} (h : a + b < 2147483648) : (nI a + nI b).toInt = ((a + b : Nat) : Int) := by rw [nI_add, nI_tI h]
set_option maxHeartbeats 1000000 in
theorem c_X11_cell {B : ev_B} {d a0 w0 j : Nat} {X : Nat → Prop} {h : ev_H} {σ : Sg} {s i v : Int32} (hp : PSx X w0 h a0 σ j) (hW : Wf σ) (hj : j + 1 ≤ 600) (hd : 4 ≤ d) :
    Wp B d M_X11_cell 0 [some (.ref a0), some (.int (s)), some (.int (i)), some (.int (v)), none] [] h (CQ X w0 h a0 (t_cell σ s i v) j (.int (a_cell σ s i))) := by
  obtain ⟨A, C, ns, ws, cp, ln, lr, pS, ha⟩ := hp
  obtain ⟨Vb, hVb, b0, b1, b2, b3, b4, b5, b6, b7⟩ := id pS.ben
  obtain ⟨Vw, hVw, -⟩ := id pS.win
  obtain ⟨Vq, gq, hVq, rq0, rq1, hgq, rq2, rq3⟩ := id pS.row.1
  obtain ⟨zf, hzf⟩ := id pS.fo
  have hcn := pS.cnt
  have hn10 := hW.n
  by_cases hsh : isSh s
  · obtain ⟨ks_, rfl, hss, hss2⟩ := as_nI (o := s) (n := 4) (by omega)
    have tss := nI_tI hss2
    obtain ⟨Vs, zzs, hVs, us0, us1, us2, its, hzs⟩ := id (pS.sh ks_ hss)
    have hsos := hW.so ks_ hss
    have hszs := hW.sz ks_ hss
    have hsms := hW.sm ks_ hss
    refine Wp.aload_n dX11_cell_0 rfl (by first | exact Or.inr ⟨_, rfl⟩ | exact Or.inl rfl) rfl ?_
    refine Wp.iload_n dX11_cell_1 rfl rfl ?_
    refine Wp.cV dX11_cell_2 cv_X11_318 rfl (by omega) rfl (Nat.le_of_ble_eq_true rfl) (Nat.le_of_ble_eq_true rfl) (pS.S.at' hVb ha) rfl (c_X11_sheetAt_y (d := d - 1) pS ha hss) ?_
    rintro _ h_ ⟨rfl, e_⟩
    rw [e_]
    clear e_ h_
    dsimp only [Option.toList, List.drop, List.cons_append, List.nil_append]
    refine Wp.astore dX11_cell_5 (by first | exact Or.inr ⟨_, rfl⟩ | exact Or.inl rfl) (Nat.le_of_ble_eq_true rfl) (by dsimp only [ev_st1, ev_cl] <;> rfl) rfl ?_
    refine Wp.aload dX11_cell_7 rfl (by first | exact Or.inr ⟨_, rfl⟩ | exact Or.inl rfl) rfl ?_
    refine Wp.ifnonnull (n := 15) dX11_cell_9 (by decide) ?_
    refine Wp.aload dX11_cell_15 rfl (by first | exact Or.inr ⟨_, rfl⟩ | exact Or.inl rfl) rfl ?_
    refine Wp.get dX11_cell_17 fl_X11_324 (pS.S.at hVs) us0 rfl ?_
    refine Wp.iconst (v := (-1)) dX11_cell_20 (by decide) rfl ?_
    refine Wp.icmp_ne (tgt := 27) (n := 24) dX11_cell_21 (by decide) rfl (fun c_21 => ?_) (fun c_21 => ?_)
    · try simp (disch := omega) only [nI_bit0, nI_bit1, Bool.not_eq_false, Bool.not_eq_true] at c_21
      try simp (disch := omega) only [i_lt, i_le, i_eq, l_lt, l_le, l_eq, i_0, i_m1, l_0, nI_tI, iI_tI, lI_tI, Int.not_lt, Int.not_le] at c_21
      refine Wp.aload dX11_cell_27 rfl (by first | exact Or.inr ⟨_, rfl⟩ | exact Or.inl rfl) rfl ?_
      refine Wp.iload_n dX11_cell_29 rfl rfl ?_
      refine Wp.iconst (v := (nI 1)) dX11_cell_30 (by decide) rfl ?_
      refine Wp.cV dX11_cell_31 cv_X11_327 rfl (by omega) rfl (Nat.le_of_ble_eq_true rfl) (Nat.le_of_ble_eq_true rfl) (pS.S.at hVs) rfl (c_X6_holds (d := d - 1) (pS.S.at hVs) us1 (by omega)) ?_
      rintro _ h_ ⟨rfl, e_⟩
      rw [e_]
      clear e_ h_
      dsimp only [Option.toList, List.drop, List.cons_append, List.nil_append]
      have k1 : (nI 1).toInt = 1 := by decide
      refine Wp.bif_ne (tgt := 40) (n := 37) dX11_cell_34 (by decide) rfl (fun c_34 => ?_) (fun c_34 => ?_)
      · try simp only [decide_eq_true_eq, decide_eq_false_iff_not, Bool.and_eq_true, bI_0, bI_n0] at c_34
        obtain ⟨q, rfl, hq, hq2⟩ := as_nI (show 0 ≤ i.toInt ∧ i.toInt < σ.sz ks_ by omega)
        have tq := nI_tI hq2
        refine Wp.aload dX11_cell_40 rfl (by first | exact Or.inr ⟨_, rfl⟩ | exact Or.inl rfl) rfl ?_
        refine Wp.get dX11_cell_42 fl_X11_330 (pS.S.at hVs) us2 rfl ?_
        refine Wp.iload_n dX11_cell_45 rfl rfl ?_
        refine Wp.aload dX11_cell_46 rfl (by first | exact Or.inr ⟨_, rfl⟩ | exact Or.inl rfl) rfl ?_
        refine Wp.get dX11_cell_48 fl_X11_324 (pS.S.at hVs) us0 rfl ?_
        refine Wp.if_ne (tgt := 60) (n := 54) dX11_cell_51 (by decide) rfl (fun c_51 => ?_) (fun c_51 => ?_)
        · try simp (disch := omega) only [nI_bit0, nI_bit1, Bool.not_eq_false, Bool.not_eq_true] at c_51
          try simp (disch := omega) only [i_lt, i_le, i_eq, l_lt, l_le, l_eq, i_0, i_m1, l_0, nI_tI, iI_tI, lI_tI, Int.not_lt, Int.not_le] at c_51
          refine Wp.iload_n dX11_cell_60 rfl rfl ?_
          refine Wp.i2l dX11_cell_61 rfl ?_
          refine Wp.lastore dX11_cell_62 (pS.S.at its) (nI_toInt (by omega)) (by omega) rfl ?_
          refine pS.S.stl its ?_
          intro h62 C62 g62 S62 o62 e62 u62 f62
          refine Wp.iconst (v := (nI 1)) dX11_cell_63 (by decide) rfl ?_
          exact Wp.iret dX11_cell_64 rfl (by
            have hst : isSh (nI ks_) := by simp (disch := omega) only [isSh, nI_tI]; omega
            have ea : a_cell σ (nI ks_) (nI q) = 1 := by rw [a_cell, if_pos hst, tn_nI hss2, if_neg (by omega), if_pos (by omega)]
            rw [ea, t_cell, if_pos (by rw [tn_nI hss2]; omega), tn_nI hss2, tn_nI hq2]
            refine ⟨rfl, o62.fx, A, C62, ns, ws, cp, ln, lr, pS.she hj hss S62 o62 (fun u h1 h2 => f62 u h2) ⟨Vs, g62, (f62 _ (by omega)).trans hVs, us0, us1, us2, e62, fun k hk => ?_⟩ (fun u hu => ⟨rfl, rfl, fun k => ?_⟩), ha⟩
            · rw [u62]
              show vp_updL zzs q _ k = if ks_ = ks_ ∧ k = q then _ else σ.ce ks_ k
              rw [vp_updL]
              by_cases e : k = q
              · rw [if_pos e, if_pos ⟨rfl, e⟩]; first | rw [if_pos c_51] | rw [if_neg c_51]
              · rw [if_neg e, if_neg (fun z => e z.2)]; exact hzs k hk
            · show (if u = ks_ ∧ k = q then _ else σ.ce u k) = _
              rw [if_neg (fun z => hu z.1)])
        · try simp (disch := omega) only [nI_bit0, nI_bit1, Bool.not_eq_false, Bool.not_eq_true] at c_51
          try simp (disch := omega) only [i_lt, i_le, i_eq, l_lt, l_le, l_eq, i_0, i_m1, l_0, nI_tI, iI_tI, lI_tI, Int.not_lt, Int.not_le] at c_51
          refine Wp.iload_n dX11_cell_54 rfl rfl ?_
          refine Wp.i2b dX11_cell_55 rfl ?_
          refine Wp.i2l dX11_cell_56 rfl ?_
          refine Wp.goto (n := 62) dX11_cell_57 (by decide) ?_
          refine Wp.lastore dX11_cell_62 (pS.S.at its) (nI_toInt (by omega)) (by omega) rfl ?_
          refine pS.S.stl its ?_
          intro h62 C62 g62 S62 o62 e62 u62 f62
          refine Wp.iconst (v := (nI 1)) dX11_cell_63 (by decide) rfl ?_
          exact Wp.iret dX11_cell_64 rfl (by
            have hst : isSh (nI ks_) := by simp (disch := omega) only [isSh, nI_tI]; omega
            have ea : a_cell σ (nI ks_) (nI q) = 1 := by rw [a_cell, if_pos hst, tn_nI hss2, if_neg (by omega), if_pos (by omega)]
            rw [ea, t_cell, if_pos (by rw [tn_nI hss2]; omega), tn_nI hss2, tn_nI hq2]
            refine ⟨rfl, o62.fx, A, C62, ns, ws, cp, ln, lr, pS.she hj hss S62 o62 (fun u h1 h2 => f62 u h2) ⟨Vs, g62, (f62 _ (by omega)).trans hVs, us0, us1, us2, e62, fun k hk => ?_⟩ (fun u hu => ⟨rfl, rfl, fun k => ?_⟩), ha⟩
            · rw [u62]
              show vp_updL zzs q _ k = if ks_ = ks_ ∧ k = q then _ else σ.ce ks_ k
              rw [vp_updL]
              by_cases e : k = q
              · rw [if_pos e, if_pos ⟨rfl, e⟩]; first | rw [if_pos c_51] | rw [if_neg c_51]
              · rw [if_neg e, if_neg (fun z => e z.2)]; exact hzs k hk
            · show (if u = ks_ ∧ k = q then _ else σ.ce u k) = _
              rw [if_neg (fun z => hu z.1)])
      · try simp only [decide_eq_true_eq, decide_eq_false_iff_not, Bool.and_eq_true, bI_0, bI_n0] at c_34
        refine Wp.bipush (v := (-12)) dX11_cell_37 (by decide) rfl ?_
        exact Wp.iret dX11_cell_39 rfl (by
          have e1 : t_cell σ (nI ks_) i v = σ := by rw [t_cell, if_neg (by first | omega | (simp (disch := omega) only [okLy, okCp, isSh, tn_nI, nI_tI]; omega))]
          rw [e1]
          refine ⟨?_, FX.rfl, A, C, ns, ws, cp, ln, lr, pS.up hj, ha⟩
          simp (disch := omega) only [a_cell, isSh, tn_nI, nI_tI]; (repeat' split) <;> first | (exfalso; omega) | rfl)
    · try simp (disch := omega) only [nI_bit0, nI_bit1, Bool.not_eq_false, Bool.not_eq_true] at c_21
      try simp (disch := omega) only [i_lt, i_le, i_eq, l_lt, l_le, l_eq, i_0, i_m1, l_0, nI_tI, iI_tI, lI_tI, Int.not_lt, Int.not_le] at c_21
      refine Wp.bipush (v := (-11)) dX11_cell_24 (by decide) rfl ?_
      exact Wp.iret dX11_cell_26 rfl (by
        have e1 : t_cell σ (nI ks_) i v = σ := by rw [t_cell, if_neg (by first | omega | (simp (disch := omega) only [okLy, okCp, isSh, tn_nI, nI_tI]; omega))]
        rw [e1]
        refine ⟨?_, FX.rfl, A, C, ns, ws, cp, ln, lr, pS.up hj, ha⟩
        simp (disch := omega) only [a_cell, isSh, tn_nI, nI_tI]; (repeat' split) <;> first | (exfalso; omega) | rfl)
  · refine Wp.aload_n dX11_cell_0 rfl (by first | exact Or.inr ⟨_, rfl⟩ | exact Or.inl rfl) rfl ?_
    refine Wp.iload_n dX11_cell_1 rfl rfl ?_
    refine Wp.cV dX11_cell_2 cv_X11_318 rfl (by omega) rfl (Nat.le_of_ble_eq_true rfl) (Nat.le_of_ble_eq_true rfl) (pS.S.at' hVb ha) rfl (c_X11_sheetAt_n (d := d - 1) pS ha hsh) ?_
    rintro _ h_ ⟨rfl, e_⟩
    rw [e_]
    clear e_ h_
    dsimp only [Option.toList, List.drop, List.cons_append, List.nil_append]
    refine Wp.astore dX11_cell_5 (by first | exact Or.inr ⟨_, rfl⟩ | exact Or.inl rfl) (Nat.le_of_ble_eq_true rfl) (by dsimp only [ev_st1, ev_cl] <;> rfl) rfl ?_
    refine Wp.aload dX11_cell_7 rfl (by first | exact Or.inr ⟨_, rfl⟩ | exact Or.inl rfl) rfl ?_
    refine Wp.ifnonnullN (n := 12) dX11_cell_9 rfl ?_
    refine Wp.bipush (v := (-2)) dX11_cell_12 (by decide) rfl ?_
    exact Wp.iret dX11_cell_14 rfl (by
      have e1 : t_cell σ s i v = σ := by rw [t_cell, if_neg (by first | omega | (simp (disch := omega) only [okLy, okCp, isSh, tn_nI, nI_tI]; omega))]
      rw [e1]
      refine ⟨?_, FX.rfl, A, C, ns, ws, cp, ln, lr, pS.up hj, ha⟩
      simp (disch := omega) only [a_cell, isSh, tn_nI, nI_tI]; (repeat' split) <;> first | (exfalso; omega) | rfl)
set_option maxHeartbeats 1000000 in
theorem c_X11_lay {B : ev_B} {d a0 w0 j : Nat} {X : Nat → Prop} {h : ev_H} {σ : Sg} {s t i : Int32} (hp : PSx X w0 h a0 σ j) (hW : Wf σ) (hj : j + 1 ≤ 600) (hd : 5 ≤ d) :
    Wp B d M_X11_lay 0 [some (.ref a0), some (.int (s)), some (.int (t)), some (.int (i)), none, none] [] h (CQ X w0 h a0 (t_layS σ s t i) j (.int (a_lay σ s t i))) := by
  obtain ⟨A, C, ns, ws, cp, ln, lr, pS, ha⟩ := hp
  obtain ⟨Vb, hVb, b0, b1, b2, b3, b4, b5, b6, b7⟩ := id pS.ben
  obtain ⟨Vw, hVw, -⟩ := id pS.win
  obtain ⟨Vq, gq, hVq, rq0, rq1, hgq, rq2, rq3⟩ := id pS.row.1
  obtain ⟨zf, hzf⟩ := id pS.fo
  have hcn := pS.cnt
  have hn10 := hW.n
  by_cases hsh : isSh s
  · obtain ⟨ks_, rfl, hss, hss2⟩ := as_nI (o := s) (n := 4) (by omega)
    have tss := nI_tI hss2
    obtain ⟨Vs, zzs, hVs, us0, us1, us2, its, hzs⟩ := id (pS.sh ks_ hss)
    have hsos := hW.so ks_ hss
    have hszs := hW.sz ks_ hss
    have hsms := hW.sm ks_ hss
    refine Wp.aload_n dX11_lay_0 rfl (by first | exact Or.inr ⟨_, rfl⟩ | exact Or.inl rfl) rfl ?_
    refine Wp.iload_n dX11_lay_1 rfl rfl ?_
    refine Wp.cV dX11_lay_2 cv_X11_318 rfl (by omega) rfl (Nat.le_of_ble_eq_true rfl) (Nat.le_of_ble_eq_true rfl) (pS.S.at' hVb ha) rfl (c_X11_sheetAt_y (d := d - 1) pS ha hss) ?_
    rintro _ h_ ⟨rfl, e_⟩
    rw [e_]
    clear e_ h_
    dsimp only [Option.toList, List.drop, List.cons_append, List.nil_append]
    refine Wp.astore dX11_lay_5 (by first | exact Or.inr ⟨_, rfl⟩ | exact Or.inl rfl) (Nat.le_of_ble_eq_true rfl) (by dsimp only [ev_st1, ev_cl] <;> rfl) rfl ?_
    refine Wp.aload dX11_lay_7 rfl (by first | exact Or.inr ⟨_, rfl⟩ | exact Or.inl rfl) rfl ?_
    refine Wp.ifnull (n := 12) dX11_lay_9 rfl ?_
    refine Wp.iload_n dX11_lay_12 rfl rfl ?_
    refine Wp.if_lt (tgt := 21) (n := 16) dX11_lay_13 (by decide) rfl (fun c_13 => ?_) (fun c_13 => ?_)
    · try simp (disch := omega) only [nI_bit0, nI_bit1, Bool.not_eq_false, Bool.not_eq_true] at c_13
      try simp (disch := omega) only [i_lt, i_le, i_eq, l_lt, l_le, l_eq, i_0, i_m1, l_0, nI_tI, iI_tI, lI_tI, Int.not_lt, Int.not_le] at c_13
      refine Wp.bipush (v := (-2)) dX11_lay_21 (by decide) rfl ?_
      exact Wp.iret dX11_lay_23 rfl (by
        have e1 : t_layS σ (nI ks_) t i = σ := by rw [t_layS, if_neg (by first | omega | (simp (disch := omega) only [okLy, okCp, isSh, tn_nI, nI_tI]; omega))]
        rw [e1]
        refine ⟨?_, FX.rfl, A, C, ns, ws, cp, ln, lr, pS.up hj, ha⟩
        simp (disch := omega) only [a_lay, isSh, tn_nI, nI_tI]; (repeat' split) <;> first | (exfalso; omega) | rfl)
    · try simp (disch := omega) only [nI_bit0, nI_bit1, Bool.not_eq_false, Bool.not_eq_true] at c_13
      try simp (disch := omega) only [i_lt, i_le, i_eq, l_lt, l_le, l_eq, i_0, i_m1, l_0, nI_tI, iI_tI, lI_tI, Int.not_lt, Int.not_le] at c_13
      refine Wp.iload_n dX11_lay_16 rfl rfl ?_
      refine Wp.iconst (v := (nI 2)) dX11_lay_17 (by decide) rfl ?_
      refine Wp.icmp_le (tgt := 24) (n := 21) dX11_lay_18 (by decide) rfl (fun c_18 => ?_) (fun c_18 => ?_)
      · try simp (disch := omega) only [nI_bit0, nI_bit1, Bool.not_eq_false, Bool.not_eq_true] at c_18
        try simp (disch := omega) only [i_lt, i_le, i_eq, l_lt, l_le, l_eq, i_0, i_m1, l_0, nI_tI, iI_tI, lI_tI, Int.not_lt, Int.not_le] at c_18
        refine Wp.aload dX11_lay_24 rfl (by first | exact Or.inr ⟨_, rfl⟩ | exact Or.inl rfl) rfl ?_
        refine Wp.get dX11_lay_26 fl_X11_324 (pS.S.at hVs) us0 rfl ?_
        refine Wp.iconst (v := (-1)) dX11_lay_29 (by decide) rfl ?_
        refine Wp.icmp_eq (tgt := 45) (n := 33) dX11_lay_30 (by decide) rfl (fun c_30 => ?_) (fun c_30 => ?_)
        · try simp (disch := omega) only [nI_bit0, nI_bit1, Bool.not_eq_false, Bool.not_eq_true] at c_30
          try simp (disch := omega) only [i_lt, i_le, i_eq, l_lt, l_le, l_eq, i_0, i_m1, l_0, nI_tI, iI_tI, lI_tI, Int.not_lt, Int.not_le] at c_30
          refine Wp.aload dX11_lay_45 rfl (by first | exact Or.inr ⟨_, rfl⟩ | exact Or.inl rfl) rfl ?_
          refine Wp.get dX11_lay_47 fl_X11_324 (pS.S.at hVs) us0 rfl ?_
          refine Wp.iconst (v := (-1)) dX11_lay_50 (by decide) rfl ?_
          refine Wp.icmp_ne (tgt := 57) (n := 54) dX11_lay_51 (by decide) rfl (fun c_51 => ?_) (fun c_51 => ?_)
          · try simp (disch := omega) only [nI_bit0, nI_bit1, Bool.not_eq_false, Bool.not_eq_true] at c_51
            try simp (disch := omega) only [i_lt, i_le, i_eq, l_lt, l_le, l_eq, i_0, i_m1, l_0, nI_tI, iI_tI, lI_tI, Int.not_lt, Int.not_le] at c_51
            refine Wp.aload dX11_lay_57 rfl (by first | exact Or.inr ⟨_, rfl⟩ | exact Or.inl rfl) rfl ?_
            refine Wp.iload_n dX11_lay_59 rfl rfl ?_
            refine Wp.iconst (v := (nI 4)) dX11_lay_60 (by decide) rfl ?_
            refine Wp.cV dX11_lay_61 cv_X11_327 rfl (by omega) rfl (Nat.le_of_ble_eq_true rfl) (Nat.le_of_ble_eq_true rfl) (pS.S.at hVs) rfl (c_X6_holds (d := d - 1) (pS.S.at hVs) us1 (by omega)) ?_
            rintro _ h_ ⟨rfl, e_⟩
            rw [e_]
            clear e_ h_
            dsimp only [Option.toList, List.drop, List.cons_append, List.nil_append]
            have k1 : (nI 4).toInt = 4 := by decide
            refine Wp.bif_ne (tgt := 70) (n := 67) dX11_lay_64 (by decide) rfl (fun c_64 => ?_) (fun c_64 => ?_)
            · try simp only [decide_eq_true_eq, decide_eq_false_iff_not, Bool.and_eq_true, bI_0, bI_n0] at c_64
              obtain ⟨q, rfl, hq, hq2⟩ := as_nI (show 0 ≤ i.toInt ∧ i.toInt < σ.sz ks_ by omega)
              have tq := nI_tI hq2
              refine Wp.aload dX11_lay_70 rfl (by first | exact Or.inr ⟨_, rfl⟩ | exact Or.inl rfl) rfl ?_
              refine Wp.get dX11_lay_72 fl_X11_330 (pS.S.at hVs) us2 rfl ?_
              refine Wp.astore dX11_lay_75 (by first | exact Or.inr ⟨_, rfl⟩ | exact Or.inl rfl) (Nat.le_of_ble_eq_true rfl) (by dsimp only [ev_st1, ev_cl] <;> rfl) rfl ?_
              refine Wp.aload_n dX11_lay_77 rfl (by first | exact Or.inr ⟨_, rfl⟩ | exact Or.inl rfl) rfl ?_
              refine Wp.aload dX11_lay_78 rfl (by first | exact Or.inr ⟨_, rfl⟩ | exact Or.inl rfl) rfl ?_
              refine Wp.iload_n dX11_lay_80 rfl rfl ?_
              refine Wp.laload dX11_lay_81 (pS.S.at its) (nI_toInt (by omega)) (by omega) rfl ?_
              rw [hzs q (by omega)]
              refine Wp.l2i dX11_lay_82 rfl ?_
              refine Wp.aload dX11_lay_83 rfl (by first | exact Or.inr ⟨_, rfl⟩ | exact Or.inl rfl) rfl ?_
              refine Wp.iload_n dX11_lay_85 rfl rfl ?_
              refine Wp.iconst (v := (nI 1)) dX11_lay_86 (by decide) rfl ?_
              refine Wp.iadd dX11_lay_87 rfl ?_
              refine Wp.laload dX11_lay_88 (pS.S.at its) (nI_addt (b := 1) (by omega)) (by omega) rfl ?_
              rw [hzs (q + 1) (by omega)]
              refine Wp.l2i dX11_lay_89 rfl ?_
              refine Wp.aload dX11_lay_90 rfl (by first | exact Or.inr ⟨_, rfl⟩ | exact Or.inl rfl) rfl ?_
              refine Wp.iload_n dX11_lay_92 rfl rfl ?_
              refine Wp.iconst (v := (nI 2)) dX11_lay_93 (by decide) rfl ?_
              refine Wp.iadd dX11_lay_94 rfl ?_
              refine Wp.laload dX11_lay_95 (pS.S.at its) (nI_addt (b := 2) (by omega)) (by omega) rfl ?_
              rw [hzs (q + 2) (by omega)]
              refine Wp.l2i dX11_lay_96 rfl ?_
              refine Wp.aload dX11_lay_97 rfl (by first | exact Or.inr ⟨_, rfl⟩ | exact Or.inl rfl) rfl ?_
              refine Wp.iload_n dX11_lay_99 rfl rfl ?_
              refine Wp.iconst (v := (nI 3)) dX11_lay_100 (by decide) rfl ?_
              refine Wp.iadd dX11_lay_101 rfl ?_
              refine Wp.laload dX11_lay_102 (pS.S.at its) (nI_addt (b := 3) (by omega)) (by omega) rfl ?_
              rw [hzs (q + 3) (by omega)]
              refine Wp.l2i dX11_lay_103 rfl ?_
              refine Wp.cV dX11_lay_104 cv_X11_333 rfl (by omega) rfl (Nat.le_of_ble_eq_true rfl) (Nat.le_of_ble_eq_true rfl) (pS.S.at' hVb ha) rfl (c_X11_line (d := d - 1) ⟨A, C, ns, ws, cp, ln, lr, pS, ha⟩ hW hj (by omega)) ?_
              rintro _ h1 ⟨rfl, x1, p1⟩
              dsimp only [Option.toList, List.drop, List.cons_append, List.nil_append]
              exact Wp.iret dX11_lay_107 rfl (by
                have hst : isSh (nI ks_) := by simp (disch := omega) only [isSh, nI_tI]; omega
                have et : a_lay σ (nI ks_) t (nI q) = a_line σ (cI σ (nI ks_) (nI q) 0) (cI σ (nI ks_) (nI q) 1) (cI σ (nI ks_) (nI q) 2) (cI σ (nI ks_) (nI q) 3) := by rw [a_lay, if_pos ⟨hst, by omega⟩, tn_nI hss2, if_neg (by omega), if_neg (by omega), if_pos (by omega)]
                have es : t_layS σ (nI ks_) t (nI q) = t_line σ (cI σ (nI ks_) (nI q) 0) (cI σ (nI ks_) (nI q) 1) (cI σ (nI ks_) (nI q) 2) (cI σ (nI ks_) (nI q) 3) := by rw [t_layS, if_pos ⟨⟨hst, by omega⟩, by rw [tn_nI hss2]; omega⟩]
                have ec : ∀ k, cI σ (nI ks_) (nI q) k = (σ.ce ks_ (q + k)).toInt32 := fun k => by rw [cI, tn_nI hss2, tn_nI hq2]
                rw [et, es, ec, ec, ec, ec]
                exact ⟨rfl, x1, p1⟩)
            · try simp only [decide_eq_true_eq, decide_eq_false_iff_not, Bool.and_eq_true, bI_0, bI_n0] at c_64
              refine Wp.bipush (v := (-12)) dX11_lay_67 (by decide) rfl ?_
              exact Wp.iret dX11_lay_69 rfl (by
                have e1 : t_layS σ (nI ks_) t i = σ := by rw [t_layS, if_neg (by first | omega | (simp (disch := omega) only [okLy, okCp, isSh, tn_nI, nI_tI]; omega))]
                rw [e1]
                refine ⟨?_, FX.rfl, A, C, ns, ws, cp, ln, lr, pS.up hj, ha⟩
                simp (disch := omega) only [a_lay, isSh, tn_nI, nI_tI]; (repeat' split) <;> first | (exfalso; omega) | rfl)
          · try simp (disch := omega) only [nI_bit0, nI_bit1, Bool.not_eq_false, Bool.not_eq_true] at c_51
            try simp (disch := omega) only [i_lt, i_le, i_eq, l_lt, l_le, l_eq, i_0, i_m1, l_0, nI_tI, iI_tI, lI_tI, Int.not_lt, Int.not_le] at c_51
            refine Wp.bipush (v := (-11)) dX11_lay_54 (by decide) rfl ?_
            exact Wp.iret dX11_lay_56 rfl (by
              have e1 : t_layS σ (nI ks_) t i = σ := by rw [t_layS, if_neg (by first | omega | (simp (disch := omega) only [okLy, okCp, isSh, tn_nI, nI_tI]; omega))]
              rw [e1]
              refine ⟨?_, FX.rfl, A, C, ns, ws, cp, ln, lr, pS.up hj, ha⟩
              simp (disch := omega) only [a_lay, isSh, tn_nI, nI_tI]; (repeat' split) <;> first | (exfalso; omega) | rfl)
        · try simp (disch := omega) only [nI_bit0, nI_bit1, Bool.not_eq_false, Bool.not_eq_true] at c_30
          try simp (disch := omega) only [i_lt, i_le, i_eq, l_lt, l_le, l_eq, i_0, i_m1, l_0, nI_tI, iI_tI, lI_tI, Int.not_lt, Int.not_le] at c_30
          refine Wp.aload dX11_lay_33 rfl (by first | exact Or.inr ⟨_, rfl⟩ | exact Or.inl rfl) rfl ?_
          refine Wp.get dX11_lay_35 fl_X11_324 (pS.S.at hVs) us0 rfl ?_
          refine Wp.iload_n dX11_lay_38 rfl rfl ?_
          refine Wp.icmp_eq (tgt := 45) (n := 42) dX11_lay_39 (by decide) rfl (fun c_39 => ?_) (fun c_39 => ?_)
          · try simp (disch := omega) only [nI_bit0, nI_bit1, Bool.not_eq_false, Bool.not_eq_true] at c_39
            try simp (disch := omega) only [i_lt, i_le, i_eq, l_lt, l_le, l_eq, i_0, i_m1, l_0, nI_tI, iI_tI, lI_tI, Int.not_lt, Int.not_le] at c_39
            refine Wp.aload dX11_lay_45 rfl (by first | exact Or.inr ⟨_, rfl⟩ | exact Or.inl rfl) rfl ?_
            refine Wp.get dX11_lay_47 fl_X11_324 (pS.S.at hVs) us0 rfl ?_
            refine Wp.iconst (v := (-1)) dX11_lay_50 (by decide) rfl ?_
            refine Wp.icmp_ne (tgt := 57) (n := 54) dX11_lay_51 (by decide) rfl (fun c_51 => ?_) (fun c_51 => ?_)
            · try simp (disch := omega) only [nI_bit0, nI_bit1, Bool.not_eq_false, Bool.not_eq_true] at c_51
              try simp (disch := omega) only [i_lt, i_le, i_eq, l_lt, l_le, l_eq, i_0, i_m1, l_0, nI_tI, iI_tI, lI_tI, Int.not_lt, Int.not_le] at c_51
              refine Wp.aload dX11_lay_57 rfl (by first | exact Or.inr ⟨_, rfl⟩ | exact Or.inl rfl) rfl ?_
              refine Wp.iload_n dX11_lay_59 rfl rfl ?_
              refine Wp.iconst (v := (nI 4)) dX11_lay_60 (by decide) rfl ?_
              refine Wp.cV dX11_lay_61 cv_X11_327 rfl (by omega) rfl (Nat.le_of_ble_eq_true rfl) (Nat.le_of_ble_eq_true rfl) (pS.S.at hVs) rfl (c_X6_holds (d := d - 1) (pS.S.at hVs) us1 (by omega)) ?_
              rintro _ h_ ⟨rfl, e_⟩
              rw [e_]
              clear e_ h_
              dsimp only [Option.toList, List.drop, List.cons_append, List.nil_append]
              have k1 : (nI 4).toInt = 4 := by decide
              refine Wp.bif_ne (tgt := 70) (n := 67) dX11_lay_64 (by decide) rfl (fun c_64 => ?_) (fun c_64 => ?_)
              · try simp only [decide_eq_true_eq, decide_eq_false_iff_not, Bool.and_eq_true, bI_0, bI_n0] at c_64
                obtain ⟨q, rfl, hq, hq2⟩ := as_nI (show 0 ≤ i.toInt ∧ i.toInt < σ.sz ks_ by omega)
                have tq := nI_tI hq2
                refine Wp.aload dX11_lay_70 rfl (by first | exact Or.inr ⟨_, rfl⟩ | exact Or.inl rfl) rfl ?_
                refine Wp.get dX11_lay_72 fl_X11_330 (pS.S.at hVs) us2 rfl ?_
                refine Wp.astore dX11_lay_75 (by first | exact Or.inr ⟨_, rfl⟩ | exact Or.inl rfl) (Nat.le_of_ble_eq_true rfl) (by dsimp only [ev_st1, ev_cl] <;> rfl) rfl ?_
                refine Wp.aload_n dX11_lay_77 rfl (by first | exact Or.inr ⟨_, rfl⟩ | exact Or.inl rfl) rfl ?_
                refine Wp.aload dX11_lay_78 rfl (by first | exact Or.inr ⟨_, rfl⟩ | exact Or.inl rfl) rfl ?_
                refine Wp.iload_n dX11_lay_80 rfl rfl ?_
                refine Wp.laload dX11_lay_81 (pS.S.at its) (nI_toInt (by omega)) (by omega) rfl ?_
                rw [hzs q (by omega)]
                refine Wp.l2i dX11_lay_82 rfl ?_
                refine Wp.aload dX11_lay_83 rfl (by first | exact Or.inr ⟨_, rfl⟩ | exact Or.inl rfl) rfl ?_
                refine Wp.iload_n dX11_lay_85 rfl rfl ?_
                refine Wp.iconst (v := (nI 1)) dX11_lay_86 (by decide) rfl ?_
                refine Wp.iadd dX11_lay_87 rfl ?_
                refine Wp.laload dX11_lay_88 (pS.S.at its) (nI_addt (b := 1) (by omega)) (by omega) rfl ?_
                rw [hzs (q + 1) (by omega)]
                refine Wp.l2i dX11_lay_89 rfl ?_
                refine Wp.aload dX11_lay_90 rfl (by first | exact Or.inr ⟨_, rfl⟩ | exact Or.inl rfl) rfl ?_
                refine Wp.iload_n dX11_lay_92 rfl rfl ?_
                refine Wp.iconst (v := (nI 2)) dX11_lay_93 (by decide) rfl ?_
                refine Wp.iadd dX11_lay_94 rfl ?_
                refine Wp.laload dX11_lay_95 (pS.S.at its) (nI_addt (b := 2) (by omega)) (by omega) rfl ?_
                rw [hzs (q + 2) (by omega)]
                refine Wp.l2i dX11_lay_96 rfl ?_
                refine Wp.aload dX11_lay_97 rfl (by first | exact Or.inr ⟨_, rfl⟩ | exact Or.inl rfl) rfl ?_
                refine Wp.iload_n dX11_lay_99 rfl rfl ?_
                refine Wp.iconst (v := (nI 3)) dX11_lay_100 (by decide) rfl ?_
                refine Wp.iadd dX11_lay_101 rfl ?_
                refine Wp.laload dX11_lay_102 (pS.S.at its) (nI_addt (b := 3) (by omega)) (by omega) rfl ?_
                rw [hzs (q + 3) (by omega)]
                refine Wp.l2i dX11_lay_103 rfl ?_
                refine Wp.cV dX11_lay_104 cv_X11_333 rfl (by omega) rfl (Nat.le_of_ble_eq_true rfl) (Nat.le_of_ble_eq_true rfl) (pS.S.at' hVb ha) rfl (c_X11_line (d := d - 1) ⟨A, C, ns, ws, cp, ln, lr, pS, ha⟩ hW hj (by omega)) ?_
                rintro _ h1 ⟨rfl, x1, p1⟩
                dsimp only [Option.toList, List.drop, List.cons_append, List.nil_append]
                exact Wp.iret dX11_lay_107 rfl (by
                  have hst : isSh (nI ks_) := by simp (disch := omega) only [isSh, nI_tI]; omega
                  have et : a_lay σ (nI ks_) t (nI q) = a_line σ (cI σ (nI ks_) (nI q) 0) (cI σ (nI ks_) (nI q) 1) (cI σ (nI ks_) (nI q) 2) (cI σ (nI ks_) (nI q) 3) := by rw [a_lay, if_pos ⟨hst, by omega⟩, tn_nI hss2, if_neg (by omega), if_neg (by omega), if_pos (by omega)]
                  have es : t_layS σ (nI ks_) t (nI q) = t_line σ (cI σ (nI ks_) (nI q) 0) (cI σ (nI ks_) (nI q) 1) (cI σ (nI ks_) (nI q) 2) (cI σ (nI ks_) (nI q) 3) := by rw [t_layS, if_pos ⟨⟨hst, by omega⟩, by rw [tn_nI hss2]; omega⟩]
                  have ec : ∀ k, cI σ (nI ks_) (nI q) k = (σ.ce ks_ (q + k)).toInt32 := fun k => by rw [cI, tn_nI hss2, tn_nI hq2]
                  rw [et, es, ec, ec, ec, ec]
                  exact ⟨rfl, x1, p1⟩)
              · try simp only [decide_eq_true_eq, decide_eq_false_iff_not, Bool.and_eq_true, bI_0, bI_n0] at c_64
                refine Wp.bipush (v := (-12)) dX11_lay_67 (by decide) rfl ?_
                exact Wp.iret dX11_lay_69 rfl (by
                  have e1 : t_layS σ (nI ks_) t i = σ := by rw [t_layS, if_neg (by first | omega | (simp (disch := omega) only [okLy, okCp, isSh, tn_nI, nI_tI]; omega))]
                  rw [e1]
                  refine ⟨?_, FX.rfl, A, C, ns, ws, cp, ln, lr, pS.up hj, ha⟩
                  simp (disch := omega) only [a_lay, isSh, tn_nI, nI_tI]; (repeat' split) <;> first | (exfalso; omega) | rfl)
            · try simp (disch := omega) only [nI_bit0, nI_bit1, Bool.not_eq_false, Bool.not_eq_true] at c_51
              try simp (disch := omega) only [i_lt, i_le, i_eq, l_lt, l_le, l_eq, i_0, i_m1, l_0, nI_tI, iI_tI, lI_tI, Int.not_lt, Int.not_le] at c_51
              refine Wp.bipush (v := (-11)) dX11_lay_54 (by decide) rfl ?_
              exact Wp.iret dX11_lay_56 rfl (by
                have e1 : t_layS σ (nI ks_) t i = σ := by rw [t_layS, if_neg (by first | omega | (simp (disch := omega) only [okLy, okCp, isSh, tn_nI, nI_tI]; omega))]
                rw [e1]
                refine ⟨?_, FX.rfl, A, C, ns, ws, cp, ln, lr, pS.up hj, ha⟩
                simp (disch := omega) only [a_lay, isSh, tn_nI, nI_tI]; (repeat' split) <;> first | (exfalso; omega) | rfl)
          · try simp (disch := omega) only [nI_bit0, nI_bit1, Bool.not_eq_false, Bool.not_eq_true] at c_39
            try simp (disch := omega) only [i_lt, i_le, i_eq, l_lt, l_le, l_eq, i_0, i_m1, l_0, nI_tI, iI_tI, lI_tI, Int.not_lt, Int.not_le] at c_39
            refine Wp.bipush (v := (-13)) dX11_lay_42 (by decide) rfl ?_
            exact Wp.iret dX11_lay_44 rfl (by
              have e1 : t_layS σ (nI ks_) t i = σ := by rw [t_layS, if_neg (by first | omega | (simp (disch := omega) only [okLy, okCp, isSh, tn_nI, nI_tI]; omega))]
              rw [e1]
              refine ⟨?_, FX.rfl, A, C, ns, ws, cp, ln, lr, pS.up hj, ha⟩
              simp (disch := omega) only [a_lay, isSh, tn_nI, nI_tI]; (repeat' split) <;> first | (exfalso; omega) | rfl)
      · try simp (disch := omega) only [nI_bit0, nI_bit1, Bool.not_eq_false, Bool.not_eq_true] at c_18
        try simp (disch := omega) only [i_lt, i_le, i_eq, l_lt, l_le, l_eq, i_0, i_m1, l_0, nI_tI, iI_tI, lI_tI, Int.not_lt, Int.not_le] at c_18
        refine Wp.bipush (v := (-2)) dX11_lay_21 (by decide) rfl ?_
        exact Wp.iret dX11_lay_23 rfl (by
          have e1 : t_layS σ (nI ks_) t i = σ := by rw [t_layS, if_neg (by first | omega | (simp (disch := omega) only [okLy, okCp, isSh, tn_nI, nI_tI]; omega))]
          rw [e1]
          refine ⟨?_, FX.rfl, A, C, ns, ws, cp, ln, lr, pS.up hj, ha⟩
          simp (disch := omega) only [a_lay, isSh, tn_nI, nI_tI]; (repeat' split) <;> first | (exfalso; omega) | rfl)
  · refine Wp.aload_n dX11_lay_0 rfl (by first | exact Or.inr ⟨_, rfl⟩ | exact Or.inl rfl) rfl ?_
    refine Wp.iload_n dX11_lay_1 rfl rfl ?_
    refine Wp.cV dX11_lay_2 cv_X11_318 rfl (by omega) rfl (Nat.le_of_ble_eq_true rfl) (Nat.le_of_ble_eq_true rfl) (pS.S.at' hVb ha) rfl (c_X11_sheetAt_n (d := d - 1) pS ha hsh) ?_
    rintro _ h_ ⟨rfl, e_⟩
    rw [e_]
    clear e_ h_
    dsimp only [Option.toList, List.drop, List.cons_append, List.nil_append]
    refine Wp.astore dX11_lay_5 (by first | exact Or.inr ⟨_, rfl⟩ | exact Or.inl rfl) (Nat.le_of_ble_eq_true rfl) (by dsimp only [ev_st1, ev_cl] <;> rfl) rfl ?_
    refine Wp.aload dX11_lay_7 rfl (by first | exact Or.inr ⟨_, rfl⟩ | exact Or.inl rfl) rfl ?_
    refine Wp.ifnullN (n := 21) dX11_lay_9 (by decide) ?_
    refine Wp.bipush (v := (-2)) dX11_lay_21 (by decide) rfl ?_
    exact Wp.iret dX11_lay_23 rfl (by
      have e1 : t_layS σ s t i = σ := by rw [t_layS, if_neg (by first | omega | (simp (disch := omega) only [okLy, okCp, isSh, tn_nI, nI_tI]; omega))]
      rw [e1]
      refine ⟨?_, FX.rfl, A, C, ns, ws, cp, ln, lr, pS.up hj, ha⟩
      simp (disch := omega) only [a_lay, isSh, tn_nI, nI_tI]; (repeat' split) <;> first | (exfalso; omega) | rfl)
theorem a_copy_m2 {σ : Sg} {s i0 o j0 n0 : Int32} (h : ¬ (isSh s ∧ isSh o)) : a_copy σ s i0 o j0 n0 = -2 ∧ t_copy σ s i0 o j0 n0 = σ := ⟨by rw [a_copy, if_neg h], by rw [t_copy, if_neg (fun z => h z.1)]⟩
set_option maxHeartbeats 2000000 in
theorem c_X11_copy {B : ev_B} {d a0 w0 j : Nat} {X : Nat → Prop} {h : ev_H} {σ : Sg} {s i0 o j0 n0 : Int32} (hp : PSx X w0 h a0 σ j) (hW : Wf σ) (hj : j + 1 ≤ 600) (hd : 4 ≤ d) :
    Wp B d M_X11_copy 0 [some (.ref a0), some (.int (s)), some (.int (i0)), some (.int (o)), some (.int (j0)), some (.int (n0)), none, none] [] h (CQ X w0 h a0 (t_copy σ s i0 o j0 n0) j (.int (a_copy σ s i0 o j0 n0))) := by
  obtain ⟨A, C, ns, ws, cp, ln, lr, pS, ha⟩ := hp
  obtain ⟨Vb, hVb, b0, b1, b2, b3, b4, b5, b6, b7⟩ := id pS.ben
  obtain ⟨Vw, hVw, -⟩ := id pS.win
  obtain ⟨Vq, gq, hVq, rq0, rq1, hgq, rq2, rq3⟩ := id pS.row.1
  obtain ⟨zf, hzf⟩ := id pS.fo
  have hcn := pS.cnt
  have hn10 := hW.n
  by_cases hsh : isSh s
  · obtain ⟨ks_, rfl, hss, hss2⟩ := as_nI (o := s) (n := 4) (by omega)
    have tss := nI_tI hss2
    obtain ⟨Vs, zzs, hVs, us0, us1, us2, its, hzs⟩ := id (pS.sh ks_ hss)
    have hsos := hW.so ks_ hss
    have hszs := hW.sz ks_ hss
    have hsms := hW.sm ks_ hss
    by_cases hsho : isSh o
    · obtain ⟨ko_, rfl, hso, hso2⟩ := as_nI (o := o) (n := 4) (by omega)
      have tso := nI_tI hso2
      obtain ⟨Vo, zzo, hVo, uo0, uo1, uo2, ito, hzo⟩ := id (pS.sh ko_ hso)
      have hsoo := hW.so ko_ hso
      have hszo := hW.sz ko_ hso
      have hsmo := hW.sm ko_ hso
      refine Wp.aload_n dX11_copy_0 rfl (by first | exact Or.inr ⟨_, rfl⟩ | exact Or.inl rfl) rfl ?_
      refine Wp.iload_n dX11_copy_1 rfl rfl ?_
      refine Wp.cV dX11_copy_2 cv_X11_318 rfl (by omega) rfl (Nat.le_of_ble_eq_true rfl) (Nat.le_of_ble_eq_true rfl) (pS.S.at' hVb ha) rfl (c_X11_sheetAt_y (d := d - 1) pS ha hss) ?_
      rintro _ h_ ⟨rfl, e_⟩
      rw [e_]
      clear e_ h_
      dsimp only [Option.toList, List.drop, List.cons_append, List.nil_append]
      refine Wp.astore dX11_copy_5 (by first | exact Or.inr ⟨_, rfl⟩ | exact Or.inl rfl) (Nat.le_of_ble_eq_true rfl) (by dsimp only [ev_st1, ev_cl] <;> rfl) rfl ?_
      refine Wp.aload_n dX11_copy_7 rfl (by first | exact Or.inr ⟨_, rfl⟩ | exact Or.inl rfl) rfl ?_
      refine Wp.iload_n dX11_copy_8 rfl rfl ?_
      refine Wp.cV dX11_copy_9 cv_X11_318 rfl (by omega) rfl (Nat.le_of_ble_eq_true rfl) (Nat.le_of_ble_eq_true rfl) (pS.S.at' hVb ha) rfl (c_X11_sheetAt_y (d := d - 1) pS ha hso) ?_
      rintro _ h_ ⟨rfl, e_⟩
      rw [e_]
      clear e_ h_
      dsimp only [Option.toList, List.drop, List.cons_append, List.nil_append]
      refine Wp.astore dX11_copy_12 (by first | exact Or.inr ⟨_, rfl⟩ | exact Or.inl rfl) (Nat.le_of_ble_eq_true rfl) (by dsimp only [ev_st1, ev_cl] <;> rfl) rfl ?_
      refine Wp.aload dX11_copy_14 rfl (by first | exact Or.inr ⟨_, rfl⟩ | exact Or.inl rfl) rfl ?_
      refine Wp.ifnull (n := 19) dX11_copy_16 rfl ?_
      refine Wp.aload dX11_copy_19 rfl (by first | exact Or.inr ⟨_, rfl⟩ | exact Or.inl rfl) rfl ?_
      refine Wp.ifnonnull (n := 27) dX11_copy_21 (by decide) ?_
      refine Wp.aload dX11_copy_27 rfl (by first | exact Or.inr ⟨_, rfl⟩ | exact Or.inl rfl) rfl ?_
      refine Wp.get dX11_copy_29 fl_X11_324 (pS.S.at hVs) us0 rfl ?_
      refine Wp.iconst (v := (-1)) dX11_copy_32 (by decide) rfl ?_
      refine Wp.icmp_eq (tgt := 45) (n := 36) dX11_copy_33 (by decide) rfl (fun c_33 => ?_) (fun c_33 => ?_)
      · try simp (disch := omega) only [nI_bit0, nI_bit1, Bool.not_eq_false, Bool.not_eq_true] at c_33
        try simp (disch := omega) only [i_lt, i_le, i_eq, l_lt, l_le, l_eq, i_0, i_m1, l_0, nI_tI, iI_tI, lI_tI, Int.not_lt, Int.not_le] at c_33
        refine Wp.bipush (v := (-11)) dX11_copy_45 (by decide) rfl ?_
        exact Wp.iret dX11_copy_47 rfl (by
          have hst : isSh (nI ks_) := by simp (disch := omega) only [isSh, nI_tI]; omega
          have hot : isSh (nI ko_) := by simp (disch := omega) only [isSh, nI_tI]; omega
          have q1 : σ.so (tn (nI ks_)) = σ.so ks_ := by rw [tn_nI hss2]
          have q2 : σ.sz (tn (nI ks_)) = σ.sz ks_ := by rw [tn_nI hss2]
          have q3 : σ.so (tn (nI ko_)) = σ.so ko_ := by rw [tn_nI hso2]
          have q4 : σ.sz (tn (nI ko_)) = σ.sz ko_ := by rw [tn_nI hso2]
          have e1 : t_copy σ (nI ks_) i0 (nI ko_) j0 n0 = σ := by rw [t_copy, if_neg (by omega)]
          have e2 : a_copy σ (nI ks_) i0 (nI ko_) j0 n0 = -11 := by
            rw [a_copy, if_pos ⟨hst, hot⟩]
            (repeat' split) <;> first | (exfalso; omega) | rfl
          rw [e1, e2]
          exact ⟨rfl, FX.rfl, A, C, ns, ws, cp, ln, lr, pS.up hj, ha⟩)
      · try simp (disch := omega) only [nI_bit0, nI_bit1, Bool.not_eq_false, Bool.not_eq_true] at c_33
        try simp (disch := omega) only [i_lt, i_le, i_eq, l_lt, l_le, l_eq, i_0, i_m1, l_0, nI_tI, iI_tI, lI_tI, Int.not_lt, Int.not_le] at c_33
        refine Wp.aload dX11_copy_36 rfl (by first | exact Or.inr ⟨_, rfl⟩ | exact Or.inl rfl) rfl ?_
        refine Wp.get dX11_copy_38 fl_X11_324 (pS.S.at hVo) uo0 rfl ?_
        refine Wp.iconst (v := (-1)) dX11_copy_41 (by decide) rfl ?_
        refine Wp.icmp_ne (tgt := 48) (n := 45) dX11_copy_42 (by decide) rfl (fun c_42 => ?_) (fun c_42 => ?_)
        · try simp (disch := omega) only [nI_bit0, nI_bit1, Bool.not_eq_false, Bool.not_eq_true] at c_42
          try simp (disch := omega) only [i_lt, i_le, i_eq, l_lt, l_le, l_eq, i_0, i_m1, l_0, nI_tI, iI_tI, lI_tI, Int.not_lt, Int.not_le] at c_42
          refine Wp.aload dX11_copy_48 rfl (by first | exact Or.inr ⟨_, rfl⟩ | exact Or.inl rfl) rfl ?_
          refine Wp.get dX11_copy_50 fl_X11_324 (pS.S.at hVs) us0 rfl ?_
          refine Wp.aload dX11_copy_53 rfl (by first | exact Or.inr ⟨_, rfl⟩ | exact Or.inl rfl) rfl ?_
          refine Wp.get dX11_copy_55 fl_X11_324 (pS.S.at hVo) uo0 rfl ?_
          refine Wp.icmp_eq (tgt := 64) (n := 61) dX11_copy_58 (by decide) rfl (fun c_58 => ?_) (fun c_58 => ?_)
          · try simp (disch := omega) only [nI_bit0, nI_bit1, Bool.not_eq_false, Bool.not_eq_true] at c_58
            try simp (disch := omega) only [i_lt, i_le, i_eq, l_lt, l_le, l_eq, i_0, i_m1, l_0, nI_tI, iI_tI, lI_tI, Int.not_lt, Int.not_le] at c_58
            refine Wp.aload dX11_copy_64 rfl (by first | exact Or.inr ⟨_, rfl⟩ | exact Or.inl rfl) rfl ?_
            refine Wp.iload_n dX11_copy_66 rfl rfl ?_
            refine Wp.iload dX11_copy_67 rfl rfl ?_
            refine Wp.cV dX11_copy_69 cv_X11_327 rfl (by omega) rfl (Nat.le_of_ble_eq_true rfl) (Nat.le_of_ble_eq_true rfl) (pS.S.at hVs) rfl (c_X6_holds (d := d - 1) (pS.S.at hVs) us1 (by omega)) ?_
            rintro _ h_ ⟨rfl, e_⟩
            rw [e_]
            clear e_ h_
            dsimp only [Option.toList, List.drop, List.cons_append, List.nil_append]
            refine Wp.bif_eq (tgt := 87) (n := 75) dX11_copy_72 (by decide) rfl (fun c_72 => ?_) (fun c_72 => ?_)
            · try simp only [decide_eq_true_eq, decide_eq_false_iff_not, Bool.and_eq_true, bI_0, bI_n0] at c_72
              refine Wp.bipush (v := (-12)) dX11_copy_87 (by decide) rfl ?_
              exact Wp.iret dX11_copy_89 rfl (by
                have hst : isSh (nI ks_) := by simp (disch := omega) only [isSh, nI_tI]; omega
                have hot : isSh (nI ko_) := by simp (disch := omega) only [isSh, nI_tI]; omega
                have q1 : σ.so (tn (nI ks_)) = σ.so ks_ := by rw [tn_nI hss2]
                have q2 : σ.sz (tn (nI ks_)) = σ.sz ks_ := by rw [tn_nI hss2]
                have q3 : σ.so (tn (nI ko_)) = σ.so ko_ := by rw [tn_nI hso2]
                have q4 : σ.sz (tn (nI ko_)) = σ.sz ko_ := by rw [tn_nI hso2]
                have e1 : t_copy σ (nI ks_) i0 (nI ko_) j0 n0 = σ := by rw [t_copy, if_neg (by omega)]
                have e2 : a_copy σ (nI ks_) i0 (nI ko_) j0 n0 = -12 := by
                  rw [a_copy, if_pos ⟨hst, hot⟩]
                  (repeat' split) <;> first | (exfalso; omega) | rfl
                rw [e1, e2]
                exact ⟨rfl, FX.rfl, A, C, ns, ws, cp, ln, lr, pS.up hj, ha⟩)
            · try simp only [decide_eq_true_eq, decide_eq_false_iff_not, Bool.and_eq_true, bI_0, bI_n0] at c_72
              refine Wp.aload dX11_copy_75 rfl (by first | exact Or.inr ⟨_, rfl⟩ | exact Or.inl rfl) rfl ?_
              refine Wp.iload dX11_copy_77 rfl rfl ?_
              refine Wp.iload dX11_copy_79 rfl rfl ?_
              refine Wp.cV dX11_copy_81 cv_X11_327 rfl (by omega) rfl (Nat.le_of_ble_eq_true rfl) (Nat.le_of_ble_eq_true rfl) (pS.S.at hVo) rfl (c_X6_holds (d := d - 1) (pS.S.at hVo) uo1 (by omega)) ?_
              rintro _ h_ ⟨rfl, e_⟩
              rw [e_]
              clear e_ h_
              dsimp only [Option.toList, List.drop, List.cons_append, List.nil_append]
              refine Wp.bif_ne (tgt := 90) (n := 87) dX11_copy_84 (by decide) rfl (fun c_84 => ?_) (fun c_84 => ?_)
              · try simp only [decide_eq_true_eq, decide_eq_false_iff_not, Bool.and_eq_true, bI_0, bI_n0] at c_84
                obtain ⟨x_, rfl, hx, hx2⟩ := as_nI (o := i0) (n := 41) (by omega)
                obtain ⟨y_, rfl, hy, hy2⟩ := as_nI (o := j0) (n := 41) (by omega)
                obtain ⟨z_, rfl, hz, hz2⟩ := as_nI (o := n0) (n := 41) (by omega)
                have tx := nI_tI hx2
                have ty := nI_tI hy2
                have tz := nI_tI hz2
                refine Wp.aload dX11_copy_90 rfl (by first | exact Or.inr ⟨_, rfl⟩ | exact Or.inl rfl) rfl ?_
                refine Wp.get dX11_copy_92 fl_X11_330 (pS.S.at hVs) us2 rfl ?_
                refine Wp.iload_n dX11_copy_95 rfl rfl ?_
                refine Wp.aload dX11_copy_96 rfl (by first | exact Or.inr ⟨_, rfl⟩ | exact Or.inl rfl) rfl ?_
                refine Wp.get dX11_copy_98 fl_X11_330 (pS.S.at hVo) uo2 rfl ?_
                refine Wp.iload dX11_copy_101 rfl rfl ?_
                refine Wp.iload dX11_copy_103 rfl rfl ?_
                refine Wp.copyl dX11_copy_105 al_X11_336 (by omega) (N0 := 40) (N1 := 40) (x := x_) (y := y_) (z := z_) (pS.S.at its) (pS.S.at ito) tx ty tz (by omega) (by omega) (Nat.le_of_ble_eq_true rfl) rfl ?_
                refine pS.S.set ito ?_
                intro h1 C1 S1 o1 e1 f1
                refine Wp.iload dX11_copy_108 rfl rfl ?_
                exact Wp.iret dX11_copy_110 rfl (by
                  have hst : isSh (nI ks_) := by simp (disch := omega) only [isSh, nI_tI]; omega
                  have hot : isSh (nI ko_) := by simp (disch := omega) only [isSh, nI_tI]; omega
                  have q1 : σ.so (tn (nI ks_)) = σ.so ks_ := by rw [tn_nI hss2]
                  have q2 : σ.sz (tn (nI ks_)) = σ.sz ks_ := by rw [tn_nI hss2]
                  have q3 : σ.so (tn (nI ko_)) = σ.so ko_ := by rw [tn_nI hso2]
                  have q4 : σ.sz (tn (nI ko_)) = σ.sz ko_ := by rw [tn_nI hso2]
                  have e2 : a_copy σ (nI ks_) (nI x_) (nI ko_) (nI y_) (nI z_) = nI z_ := by
                    rw [a_copy, if_pos ⟨hst, hot⟩, if_neg (by omega), if_neg (by omega), if_pos (by omega)]
                  rw [e2, t_copy, if_pos (by omega), tn_nI hss2, tn_nI hso2, tn_nI hx2, tn_nI hy2, tn_nI hz2]
                  refine ⟨rfl, o1.fx, A, C1, ns, ws, cp, ln, lr, pS.she hj hso S1 o1 (fun u h1 h2 => f1 u h2) ⟨Vo, _, (f1 _ (by omega)).trans hVo, uo0, uo1, uo2, e1, fun k hk => ?_⟩ (fun u hu => ⟨rfl, rfl, fun k => ?_⟩), ha⟩
                  · show (if y_ ≤ k ∧ k < y_ + z_ then zzs (x_ + (k - y_)) else zzo k) = if ko_ = ko_ ∧ y_ ≤ k ∧ k < y_ + z_ then σ.ce ks_ (x_ + (k - y_)) else σ.ce ko_ k
                    by_cases e : y_ ≤ k ∧ k < y_ + z_
                    · rw [if_pos e, if_pos ⟨rfl, e⟩]; exact hzs _ (by omega)
                    · rw [if_neg e, if_neg (fun z => e z.2)]; exact hzo k hk
                  · show (if u = ko_ ∧ y_ ≤ k ∧ k < y_ + z_ then _ else σ.ce u k) = _
                    rw [if_neg (fun z => hu z.1)])
              · try simp only [decide_eq_true_eq, decide_eq_false_iff_not, Bool.and_eq_true, bI_0, bI_n0] at c_84
                refine Wp.bipush (v := (-12)) dX11_copy_87 (by decide) rfl ?_
                exact Wp.iret dX11_copy_89 rfl (by
                  have hst : isSh (nI ks_) := by simp (disch := omega) only [isSh, nI_tI]; omega
                  have hot : isSh (nI ko_) := by simp (disch := omega) only [isSh, nI_tI]; omega
                  have q1 : σ.so (tn (nI ks_)) = σ.so ks_ := by rw [tn_nI hss2]
                  have q2 : σ.sz (tn (nI ks_)) = σ.sz ks_ := by rw [tn_nI hss2]
                  have q3 : σ.so (tn (nI ko_)) = σ.so ko_ := by rw [tn_nI hso2]
                  have q4 : σ.sz (tn (nI ko_)) = σ.sz ko_ := by rw [tn_nI hso2]
                  have e1 : t_copy σ (nI ks_) i0 (nI ko_) j0 n0 = σ := by rw [t_copy, if_neg (by omega)]
                  have e2 : a_copy σ (nI ks_) i0 (nI ko_) j0 n0 = -12 := by
                    rw [a_copy, if_pos ⟨hst, hot⟩]
                    (repeat' split) <;> first | (exfalso; omega) | rfl
                  rw [e1, e2]
                  exact ⟨rfl, FX.rfl, A, C, ns, ws, cp, ln, lr, pS.up hj, ha⟩)
          · try simp (disch := omega) only [nI_bit0, nI_bit1, Bool.not_eq_false, Bool.not_eq_true] at c_58
            try simp (disch := omega) only [i_lt, i_le, i_eq, l_lt, l_le, l_eq, i_0, i_m1, l_0, nI_tI, iI_tI, lI_tI, Int.not_lt, Int.not_le] at c_58
            refine Wp.bipush (v := (-13)) dX11_copy_61 (by decide) rfl ?_
            exact Wp.iret dX11_copy_63 rfl (by
              have hst : isSh (nI ks_) := by simp (disch := omega) only [isSh, nI_tI]; omega
              have hot : isSh (nI ko_) := by simp (disch := omega) only [isSh, nI_tI]; omega
              have q1 : σ.so (tn (nI ks_)) = σ.so ks_ := by rw [tn_nI hss2]
              have q2 : σ.sz (tn (nI ks_)) = σ.sz ks_ := by rw [tn_nI hss2]
              have q3 : σ.so (tn (nI ko_)) = σ.so ko_ := by rw [tn_nI hso2]
              have q4 : σ.sz (tn (nI ko_)) = σ.sz ko_ := by rw [tn_nI hso2]
              have e1 : t_copy σ (nI ks_) i0 (nI ko_) j0 n0 = σ := by rw [t_copy, if_neg (by omega)]
              have e2 : a_copy σ (nI ks_) i0 (nI ko_) j0 n0 = -13 := by
                rw [a_copy, if_pos ⟨hst, hot⟩]
                (repeat' split) <;> first | (exfalso; omega) | rfl
              rw [e1, e2]
              exact ⟨rfl, FX.rfl, A, C, ns, ws, cp, ln, lr, pS.up hj, ha⟩)
        · try simp (disch := omega) only [nI_bit0, nI_bit1, Bool.not_eq_false, Bool.not_eq_true] at c_42
          try simp (disch := omega) only [i_lt, i_le, i_eq, l_lt, l_le, l_eq, i_0, i_m1, l_0, nI_tI, iI_tI, lI_tI, Int.not_lt, Int.not_le] at c_42
          refine Wp.bipush (v := (-11)) dX11_copy_45 (by decide) rfl ?_
          exact Wp.iret dX11_copy_47 rfl (by
            have hst : isSh (nI ks_) := by simp (disch := omega) only [isSh, nI_tI]; omega
            have hot : isSh (nI ko_) := by simp (disch := omega) only [isSh, nI_tI]; omega
            have q1 : σ.so (tn (nI ks_)) = σ.so ks_ := by rw [tn_nI hss2]
            have q2 : σ.sz (tn (nI ks_)) = σ.sz ks_ := by rw [tn_nI hss2]
            have q3 : σ.so (tn (nI ko_)) = σ.so ko_ := by rw [tn_nI hso2]
            have q4 : σ.sz (tn (nI ko_)) = σ.sz ko_ := by rw [tn_nI hso2]
            have e1 : t_copy σ (nI ks_) i0 (nI ko_) j0 n0 = σ := by rw [t_copy, if_neg (by omega)]
            have e2 : a_copy σ (nI ks_) i0 (nI ko_) j0 n0 = -11 := by
              rw [a_copy, if_pos ⟨hst, hot⟩]
              (repeat' split) <;> first | (exfalso; omega) | rfl
            rw [e1, e2]
            exact ⟨rfl, FX.rfl, A, C, ns, ws, cp, ln, lr, pS.up hj, ha⟩)
    · refine Wp.aload_n dX11_copy_0 rfl (by first | exact Or.inr ⟨_, rfl⟩ | exact Or.inl rfl) rfl ?_
      refine Wp.iload_n dX11_copy_1 rfl rfl ?_
      refine Wp.cV dX11_copy_2 cv_X11_318 rfl (by omega) rfl (Nat.le_of_ble_eq_true rfl) (Nat.le_of_ble_eq_true rfl) (pS.S.at' hVb ha) rfl (c_X11_sheetAt_y (d := d - 1) pS ha hss) ?_
      rintro _ h_ ⟨rfl, e_⟩
      rw [e_]
      clear e_ h_
      dsimp only [Option.toList, List.drop, List.cons_append, List.nil_append]
      refine Wp.astore dX11_copy_5 (by first | exact Or.inr ⟨_, rfl⟩ | exact Or.inl rfl) (Nat.le_of_ble_eq_true rfl) (by dsimp only [ev_st1, ev_cl] <;> rfl) rfl ?_
      refine Wp.aload_n dX11_copy_7 rfl (by first | exact Or.inr ⟨_, rfl⟩ | exact Or.inl rfl) rfl ?_
      refine Wp.iload_n dX11_copy_8 rfl rfl ?_
      refine Wp.cV dX11_copy_9 cv_X11_318 rfl (by omega) rfl (Nat.le_of_ble_eq_true rfl) (Nat.le_of_ble_eq_true rfl) (pS.S.at' hVb ha) rfl (c_X11_sheetAt_n (d := d - 1) pS ha hsho) ?_
      rintro _ h_ ⟨rfl, e_⟩
      rw [e_]
      clear e_ h_
      dsimp only [Option.toList, List.drop, List.cons_append, List.nil_append]
      refine Wp.astore dX11_copy_12 (by first | exact Or.inr ⟨_, rfl⟩ | exact Or.inl rfl) (Nat.le_of_ble_eq_true rfl) (by dsimp only [ev_st1, ev_cl] <;> rfl) rfl ?_
      refine Wp.aload dX11_copy_14 rfl (by first | exact Or.inr ⟨_, rfl⟩ | exact Or.inl rfl) rfl ?_
      refine Wp.ifnull (n := 19) dX11_copy_16 rfl ?_
      refine Wp.aload dX11_copy_19 rfl (by first | exact Or.inr ⟨_, rfl⟩ | exact Or.inl rfl) rfl ?_
      refine Wp.ifnonnullN (n := 24) dX11_copy_21 rfl ?_
      refine Wp.bipush (v := (-2)) dX11_copy_24 (by decide) rfl ?_
      exact Wp.iret dX11_copy_26 rfl (by rw [(a_copy_m2 (fun z => hsho z.2)).1, (a_copy_m2 (fun z => hsho z.2)).2]; exact ⟨rfl, FX.rfl, A, C, ns, ws, cp, ln, lr, pS.up hj, ha⟩)
  · by_cases hsho : isSh o
    · obtain ⟨ko_, rfl, hso, hso2⟩ := as_nI (o := o) (n := 4) (by omega)
      have tso := nI_tI hso2
      obtain ⟨Vo, zzo, hVo, uo0, uo1, uo2, ito, hzo⟩ := id (pS.sh ko_ hso)
      have hsoo := hW.so ko_ hso
      have hszo := hW.sz ko_ hso
      have hsmo := hW.sm ko_ hso
      refine Wp.aload_n dX11_copy_0 rfl (by first | exact Or.inr ⟨_, rfl⟩ | exact Or.inl rfl) rfl ?_
      refine Wp.iload_n dX11_copy_1 rfl rfl ?_
      refine Wp.cV dX11_copy_2 cv_X11_318 rfl (by omega) rfl (Nat.le_of_ble_eq_true rfl) (Nat.le_of_ble_eq_true rfl) (pS.S.at' hVb ha) rfl (c_X11_sheetAt_n (d := d - 1) pS ha hsh) ?_
      rintro _ h_ ⟨rfl, e_⟩
      rw [e_]
      clear e_ h_
      dsimp only [Option.toList, List.drop, List.cons_append, List.nil_append]
      refine Wp.astore dX11_copy_5 (by first | exact Or.inr ⟨_, rfl⟩ | exact Or.inl rfl) (Nat.le_of_ble_eq_true rfl) (by dsimp only [ev_st1, ev_cl] <;> rfl) rfl ?_
      refine Wp.aload_n dX11_copy_7 rfl (by first | exact Or.inr ⟨_, rfl⟩ | exact Or.inl rfl) rfl ?_
      refine Wp.iload_n dX11_copy_8 rfl rfl ?_
      refine Wp.cV dX11_copy_9 cv_X11_318 rfl (by omega) rfl (Nat.le_of_ble_eq_true rfl) (Nat.le_of_ble_eq_true rfl) (pS.S.at' hVb ha) rfl (c_X11_sheetAt_y (d := d - 1) pS ha hso) ?_
      rintro _ h_ ⟨rfl, e_⟩
      rw [e_]
      clear e_ h_
      dsimp only [Option.toList, List.drop, List.cons_append, List.nil_append]
      refine Wp.astore dX11_copy_12 (by first | exact Or.inr ⟨_, rfl⟩ | exact Or.inl rfl) (Nat.le_of_ble_eq_true rfl) (by dsimp only [ev_st1, ev_cl] <;> rfl) rfl ?_
      refine Wp.aload dX11_copy_14 rfl (by first | exact Or.inr ⟨_, rfl⟩ | exact Or.inl rfl) rfl ?_
      refine Wp.ifnullN (n := 24) dX11_copy_16 (by decide) ?_
      refine Wp.bipush (v := (-2)) dX11_copy_24 (by decide) rfl ?_
      exact Wp.iret dX11_copy_26 rfl (by rw [(a_copy_m2 (fun z => hsh z.1)).1, (a_copy_m2 (fun z => hsh z.1)).2]; exact ⟨rfl, FX.rfl, A, C, ns, ws, cp, ln, lr, pS.up hj, ha⟩)
    · refine Wp.aload_n dX11_copy_0 rfl (by first | exact Or.inr ⟨_, rfl⟩ | exact Or.inl rfl) rfl ?_
      refine Wp.iload_n dX11_copy_1 rfl rfl ?_
      refine Wp.cV dX11_copy_2 cv_X11_318 rfl (by omega) rfl (Nat.le_of_ble_eq_true rfl) (Nat.le_of_ble_eq_true rfl) (pS.S.at' hVb ha) rfl (c_X11_sheetAt_n (d := d - 1) pS ha hsh) ?_
      rintro _ h_ ⟨rfl, e_⟩
      rw [e_]
      clear e_ h_
      dsimp only [Option.toList, List.drop, List.cons_append, List.nil_append]
      refine Wp.astore dX11_copy_5 (by first | exact Or.inr ⟨_, rfl⟩ | exact Or.inl rfl) (Nat.le_of_ble_eq_true rfl) (by dsimp only [ev_st1, ev_cl] <;> rfl) rfl ?_
      refine Wp.aload_n dX11_copy_7 rfl (by first | exact Or.inr ⟨_, rfl⟩ | exact Or.inl rfl) rfl ?_
      refine Wp.iload_n dX11_copy_8 rfl rfl ?_
      refine Wp.cV dX11_copy_9 cv_X11_318 rfl (by omega) rfl (Nat.le_of_ble_eq_true rfl) (Nat.le_of_ble_eq_true rfl) (pS.S.at' hVb ha) rfl (c_X11_sheetAt_n (d := d - 1) pS ha hsho) ?_
      rintro _ h_ ⟨rfl, e_⟩
      rw [e_]
      clear e_ h_
      dsimp only [Option.toList, List.drop, List.cons_append, List.nil_append]
      refine Wp.astore dX11_copy_12 (by first | exact Or.inr ⟨_, rfl⟩ | exact Or.inl rfl) (Nat.le_of_ble_eq_true rfl) (by dsimp only [ev_st1, ev_cl] <;> rfl) rfl ?_
      refine Wp.aload dX11_copy_14 rfl (by first | exact Or.inr ⟨_, rfl⟩ | exact Or.inl rfl) rfl ?_
      refine Wp.ifnullN (n := 24) dX11_copy_16 (by decide) ?_
      refine Wp.bipush (v := (-2)) dX11_copy_24 (by decide) rfl ?_
      exact Wp.iret dX11_copy_26 rfl (by rw [(a_copy_m2 (fun z => hsh z.1)).1, (a_copy_m2 (fun z => hsh z.1)).2]; exact ⟨rfl, FX.rfl, A, C, ns, ws, cp, ln, lr, pS.up hj, ha⟩)
