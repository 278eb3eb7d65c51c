/-! arrays, statics, tests of a class, arraycopy, returns, calls -/
section EVA
variable {B : ev_B} {d : Nat} {M : ev_M} {pc n : Nat} {ls ls' : List (Option Value)} {st st' : List Value} {h : ev_H} {Q : Option Value → ev_H → Prop}
theorem ev_inn {i : Int32} {j N : Nat} (hj : i.toInt = (j : Int)) (hb : j < N) : ¬ (i < 0 ∨ N ≤ i.toNatClampNeg) := by
  obtain ⟨h1, h2⟩ := ev_cl_of hj
  rintro (z | z)
  · exact h1 z
  · omega
theorem Wp.iaload {a N j : Nat} {i : Int32} {f : Nat → Int32} (hd : decode M.2.1 pc = .ok (.iaload, 1)) (hh : h.1 a = some (ev_ia N f)) (hj : i.toInt = (j : Int)) (hb : j < N) (hn : pc + 1 = n) (k : Wp B d M n ls (.int (f j) :: st) h Q) : Wp B d M pc ls (.int i :: .ref a :: st) h Q := by
  subst hn
  refine Wp.go (fun D p l e R s m args below meth c H locs sl cells slots Qf hG hR hS hL kk => ?_) k
  have hcl := (ev_cl_of hj).2
  refine W.iald (v := .int (f j)) hG.1 hG.2.1 (hR.2 _ _ hh).2 ((ev_cls hG.2.2.2.2.2.2.2.2.1 (t := 0) (by decide)) N (fun j => .int (f j))) (fun q => by cases q) (by show ¬ (i < 0 ∨ (arrV _ _ _).slots.size ≤ _); rw [arrV_size]; exact ev_inn hj hb) (by show (arrV _ _ _).slots[_]? = _; rw [hcl, arrV_read _ _ hb]) rfl rfl hd (kk _ hL)
theorem Wp.laload {a N j : Nat} {i : Int32} {f : Nat → Int64} (hd : decode M.2.1 pc = .ok (.laload, 1)) (hh : h.1 a = some (ev_la N f)) (hj : i.toInt = (j : Int)) (hb : j < N) (hn : pc + 1 = n) (k : Wp B d M n ls (.long (f j) :: st) h Q) : Wp B d M pc ls (.int i :: .ref a :: st) h Q := by
  subst hn
  refine Wp.go (fun D p l e R s m args below meth c H locs sl cells slots Qf hG hR hS hL kk => ?_) k
  have hcl := (ev_cl_of hj).2
  refine W.lald (v := .long (f j)) hG.1 hG.2.1 (hR.2 _ _ hh).2 ((ev_cls hG.2.2.2.2.2.2.2.2.1 (t := 1) (by decide)) N (fun j => .long (f j))) (fun q => by cases q) (by show ¬ (i < 0 ∨ (arrV _ _ _).slots.size ≤ _); rw [arrV_size]; exact ev_inn hj hb) (by show (arrV _ _ _).slots[_]? = _; rw [hcl, arrV_read _ _ hb]) rfl rfl hd (kk _ hL)
theorem Wp.aaload {a t N j : Nat} {i : Int32} {f : Nat → Option Nat} {v : Value} (hd : decode M.2.1 pc = .ok (.aaload, 1)) (ht : t = 2 ∨ t = 3) (hh : h.1 a = some (ev_qa t N f)) (hj : i.toInt = (j : Int)) (hb : j < N) (hv : va_rf (f j) = v) (hn : pc + 1 = n) (k : Wp B d M n ls (v :: st) h Q) : Wp B d M pc ls (.int i :: .ref a :: st) h Q := by
  subst hn; subst hv
  refine Wp.go (fun D p l e R s m args below meth c H locs sl cells slots Qf hG hR hS hL kk => ?_) k
  have hcl := (ev_cl_of hj).2
  have hA : ∃ C : String, ArrOfT s (D.2 t) (.object C) := by
    rcases ht with rfl | rfl
    · exact ⟨_, ev_cls hG.2.2.2.2.2.2.2.2.1 (t := 2) (by decide)⟩
    · exact ⟨_, ev_cls hG.2.2.2.2.2.2.2.2.1 (t := 3) (by decide)⟩
  obtain ⟨C, hA⟩ := hA
  refine W.aald (v := va_rf (f j)) (ty := .object C) hG.1 hG.2.1 (hR.2 _ _ hh).2 (hA N (fun j => va_rf (f j))) rfl (fun q => by cases q) (by show ¬ (i < 0 ∨ (arrV _ _ _).slots.size ≤ _); rw [arrV_size]; exact ev_inn hj hb) (by show (arrV _ _ _).slots[_]? = _; rw [hcl, arrV_read _ _ hb]) rfl rfl hd (kk _ hL)
theorem Wp.iastore {a N j : Nat} {i : Int32} {x : Int32} {f : Nat → Int32} (hd : decode M.2.1 pc = .ok (.iastore, 1)) (hh : h.1 a = some (ev_ia N f)) (hj : i.toInt = (j : Int)) (hb : j < N) (hn : pc + 1 = n) (k : Wp B d M n ls st (ev_up h a (ev_ia N (upd f j x))) Q) : Wp B d M pc ls (.int x :: .int i :: .ref a :: st) h Q := by
  subst hn
  refine Wp.goH (h1 := ev_up h a (ev_ia N (upd f j x))) (dw := 0) rfl (fun D p l e R s m args below meth c H locs sl cells slots Qf hG hR hS hL hc1 hc2 kk => ?_) k
  have hcl := (ev_cl_of hj).2
  refine W.iast hG.1 hG.2.1 (hR.2 _ _ hh).2 ((ev_cls hG.2.2.2.2.2.2.2.2.1 (t := 0) (by decide)) N (fun j => .int (f j))) (fun q => by cases q) (by show ¬ (i < 0 ∨ (arrV _ _ _).slots.size ≤ _); rw [arrV_size]; exact ev_inn hj hb) rfl rfl hd fun H1 e1 z oq => ?_
  refine kk H1 _ sl (hR.up hh z ?_ oq) (ev_S.put hS hR hh z oq) hL
  show H1[a]? = some (vp_cell _ _)
  rw [e1, hcl]
  dsimp only
  rw [vp_cell_i, vp_cell_i, arrV_store]
  congr 2
  funext q
  by_cases hq : q = j
  · subst hq
    simp [updV, upd]
  · simp [updV, upd, hq]
theorem Wp.lastore {a N j : Nat} {i : Int32} {x : Int64} {f : Nat → Int64} (hd : decode M.2.1 pc = .ok (.lastore, 1)) (hh : h.1 a = some (ev_la N f)) (hj : i.toInt = (j : Int)) (hb : j < N) (hn : pc + 1 = n) (k : Wp B d M n ls st (ev_up h a (ev_la N (vp_updL f j x))) Q) : Wp B d M pc ls (.long x :: .int i :: .ref a :: st) h Q := by
  subst hn
  refine Wp.goH (h1 := ev_up h a (ev_la N (vp_updL f j x))) (dw := 0) rfl (fun D p l e R s m args below meth c H locs sl cells slots Qf hG hR hS hL hc1 hc2 kk => ?_) k
  have hcl := (ev_cl_of hj).2
  refine W.last hG.1 hG.2.1 (hR.2 _ _ hh).2 ((ev_cls hG.2.2.2.2.2.2.2.2.1 (t := 1) (by decide)) N (fun j => .long (f j))) (fun q => by cases q) (by show ¬ (i < 0 ∨ (arrV _ _ _).slots.size ≤ _); rw [arrV_size]; exact ev_inn hj hb) rfl rfl hd fun H1 e1 z oq => ?_
  refine kk H1 _ sl (hR.up hh z ?_ oq) (ev_S.put hS hR hh z oq) hL
  show H1[a]? = some (vp_cell _ _)
  rw [e1, hcl]
  dsimp only
  rw [vp_cell_l, vp_cell_l, arrV_store]
  congr 2
  funext q
  by_cases hq : q = j
  · subst hq
    simp [updV, vp_updL]
  · simp [updV, vp_updL, hq]
/-- the value's class may stand in the row: an offer, or a sheet -/
def ev_mayq (t ci : Nat) : Prop := (t = 3 ∧ ci = 5) ∨ (t = 2 ∧ (ci = 3 ∨ ci = 6 ∨ ci = 7 ∨ ci = 8))
theorem Wp.aastore {a t N j b ci : Nat} {V : Nat → Value} {i : Int32} {f : Nat → Option Nat} (hd : decode M.2.1 pc = .ok (.aastore, 1)) (ht : ev_mayq t ci) (hh : h.1 a = some (ev_qa t N f)) (hb' : h.1 b = some (ev_ob ci V)) (hj : i.toInt = (j : Int)) (hb : j < N) (hn : pc + 1 = n) (k : Wp B d M n ls st (ev_up h a (ev_qa t N (va_up f j (some b)))) Q) : Wp B d M pc ls (.ref b :: .int i :: .ref a :: st) h Q := by
  subst hn
  refine Wp.goH (h1 := ev_up h a (ev_qa t N (va_up f j (some b)))) (dw := 0) rfl (fun D p l e R s m args below meth c H locs sl cells slots Qf hG hR hS hL hc1 hc2 kk => ?_) k
  have hcl := ev_cl_of hj
  obtain ⟨hx, hbb, -, -, -, hown, hname, hts, hK, -⟩ := hG
  obtain ⟨r, hr, cellV, g1, g2, g3, -⟩ := (hR.2 _ _ hb').2
  have hcls := (hK.1.1 ci r hr).2
  have key : ∃ (C : String), (∃ (kA : Class) (comp : ClassId), s.vm.classes[D.2 t]? = some kA ∧ kA.kind = .array comp (.object C) ∧ s.vm.findClass C = some comp) ∧ (r.1 = C ∨ ev_Yc r.1 C s) := by
    rcases ht with ⟨rfl, rfl⟩ | ⟨rfl, hci⟩
    · obtain ⟨kA, comp, k1, k2, k3, -⟩ := (hK.2.1 3 (by decide)).2
      cases hr
      exact ⟨_, ⟨kA, comp, k1, k2, k3⟩, Or.inl rfl⟩
    · obtain ⟨kA, comp, k1, k2, k3, -⟩ := (hK.2.1 2 (by decide)).2
      refine ⟨_, ⟨kA, comp, k1, k2, k3⟩, Or.inr ?_⟩
      rcases hci with rfl | rfl | rfl | rfl <;> cases hr
      · exact hK.2.2.2.2.2.2 _ (by simp [RX4])
      · exact hK.2.2.2.2.2.2 _ (by simp [RX7])
      · exact hK.2.2.2.2.2.2 _ (by simp [RX8])
      · exact hK.2.2.2.2.2.2 _ (by simp [RX9])
  obtain ⟨C, ⟨kA, comp, k1, k2, k3⟩, hca⟩ := key
  obtain ⟨kE, hkE, -⟩ := Vm.findClass_spec k3
  obtain ⟨kC, hkC, -⟩ := hcls.2
  have hasg : s.vm.assignable (D.1.1 ci) comp = true := by
    rcases hca with e | e
    · have hcomp : comp = D.1.1 ci := by
        rw [← e] at k3
        exact Option.some.inj (k3.symm.trans hcls.1)
      rw [hcomp]
      exact va_assign hcls
    · obtain ⟨c0, t1, f1, f2, f3⟩ := e
      cases hcls.1.symm.trans f1
      cases k3.symm.trans f2
      exact f3
  refine W.aast hx hbb (hR.2 _ _ hh).2 (fun q h => by cases h) (fun h => by cases h) k1 k2 rfl hkE ⟨hcl.1, by show _ < (arrV _ _ _).slots.size; rw [arrV_size, hcl.2]; exact hb⟩ g1 (fun q h => by rw [g3] at h; cases h) (by rw [g2]; exact hkC) (by rw [g2]; exact hasg) rfl rfl hd fun H1 e1 z oq => ?_
  refine kk H1 _ sl (hR.up hh z ?_ oq) (ev_S.put hS hR hh z oq) hL
  show H1[a]? = some (vp_cell _ _)
  rw [e1, hcl.2]
  dsimp only
  rw [vp_cell_q, vp_cell_q, arrV_store]
  congr 2
  funext q
  by_cases hq : q = j
  · subst hq
    simp [updV, va_up, va_rf]
  · simp [updV, va_up, hq]
theorem Wp.alen {a t N : Nat} {x : (Nat → Int32) ⊕ (Nat → Int64) ⊕ (Nat → UInt32) ⊕ (Nat → UInt64) ⊕ (Nat → Option Nat)} (hd : decode M.2.1 pc = .ok (.arraylength, 1)) (ht : t < 4) (hh : h.1 a = some (.inl (t, N, x))) (hn : pc + 1 = n) (k : Wp B d M n ls (.int (Int32.ofNat N) :: st) h Q) : Wp B d M pc ls (.ref a :: st) h Q := by
  subst hn
  refine Wp.go (fun D p l e R s m args below meth c H locs sl cells slots Qf hG hR hS hL kk => ?_) k
  have hA := ev_cls hG.2.2.2.2.2.2.2.2.1 ht
  have hc := (hR.2 _ _ hh).2
  have hsz : (vp_cell (D.2 t) (N, x)).slots.size = N := by
    rcases x with f | f | f | f | f <;> exact arrV_size _ _ _
  refine W.alen (n := Int32.ofNat N) hG.1 hG.2.1 (ty := ev_ty t) hc ?_ (by rw [hsz] <;> rfl) rfl rfl hd (kk _ hL)
  rcases x with f | f | f | f | f
  · exact hA N _
  · exact hA N _
  · exact hA N _
  · exact hA N _
  · exact hA N _
theorem Wp.roload {t N j : Nat} {i : Int32} {f : Nat → Int32} (hd : decode M.2.1 pc = .ok (.iaload, 1)) (hh : B.2.2 t = some (N, f)) (hj : i.toInt = (j : Int)) (hb : j < N) (hn : pc + 1 = n) (k : Wp B d M n ls (.int (f j) :: st) h Q) : Wp B d M pc ls (.int i :: .ref t :: st) h Q := by
  subst hn
  refine Wp.go (fun D p l e R s m args below meth c H locs sl cells slots Qf hG hR hS hL kk => ?_) k
  exact va_ti hG.1 hG.2.1 (hG.2.2.2.2.2.2.2.2.2.2.2.2.2.2 t N f hh) hS (ev_inn hj hb) (by rw [(ev_cl_of hj).2]) hd (kk _ hL)
theorem Wp.rolen {t N : Nat} {f : Nat → Int32} (hd : decode M.2.1 pc = .ok (.arraylength, 1)) (hh : B.2.2 t = some (N, f)) (hn : pc + 1 = n) (k : Wp B d M n ls (.int (Int32.ofNat N) :: st) h Q) : Wp B d M pc ls (.ref t :: st) h Q := by
  subst hn
  refine Wp.go (fun D p l e R s m args below meth c H locs sl cells slots Qf hG hR hS hL kk => ?_) k
  exact va_tlen hG.1 hG.2.1 (hG.2.2.2.2.2.2.2.2.2.2.2.2.2.2 t N f hh) hS rfl hd (kk _ hL)
theorem Wp.getKA {idx : Nat} (hd : decode M.2.1 pc = .ok (.getstatic idx, 3)) (hl : Cond.fieldLink M.1.cls idx "PriceBench$Acts" "KIND_ABOVE" "[I" ∈ ev_tb) (hn : pc + 3 = n) (k : Wp B d M n ls (.ref (B.2.1 0) :: st) h Q) : Wp B d M pc ls st h Q := by
  subst hn
  refine Wp.go (fun D p l e R s m args below meth c H locs sl cells slots Qf hG hR hS hL kk => ?_) k
  exact va_gets hG.1 hG.2.1 hG.2.2.2.2.2.2.2.2.2.2.2.2.1 hS hG.2.2.2.2.2.1 (hG.2.2.2.2.2.2.2.1 _ hl) (fun _ q => q) hd (kk _ hL)
theorem Wp.getBO {idx : Nat} (hd : decode M.2.1 pc = .ok (.getstatic idx, 3)) (hl : Cond.fieldLink M.1.cls idx "PriceBench$Acts" "BODIES" "[I" ∈ ev_tb) (hn : pc + 3 = n) (k : Wp B d M n ls (.ref (B.2.1 1) :: st) h Q) : Wp B d M pc ls st h Q := by
  subst hn
  refine Wp.go (fun D p l e R s m args below meth c H locs sl cells slots Qf hG hR hS hL kk => ?_) k
  exact va_gets hG.1 hG.2.1 hG.2.2.2.2.2.2.2.2.2.2.2.2.2.1 hS hG.2.2.2.2.2.1 (hG.2.2.2.2.2.2.2.1 _ hl) (fun _ q => q) hd (kk _ hL)
theorem ev_recv {D : ev_D} {s : State} {H : Heap} {a ci : Nat} {V : Nat → Value} {q : vw_C} (hK : ev_K D s) (hR : ev_R B D h H) (hh : h.1 a = some (ev_ob ci V)) (hc : vwCl[ci]? = some q) : ∃ cell : Cell, H[a]? = some cell ∧ cell.vm.isStatics = false ∧ s.vm.findClass q.1 = some cell.cls := by
  obtain ⟨r, hr, cell, g1, g2, g3, -⟩ := (hR.2 _ _ hh).2
  have e : r = q := Option.some.inj (hr.symm.trans hc)
  subst e
  exact ⟨cell, g1, by rw [g3]; rfl, by rw [g2]; exact (hK.1.1 ci r hr).2.1⟩
theorem Wp.instY {a idx : Nat} {V : Nat → Value} (hd : decode M.2.1 pc = .ok (.instanceof idx, 3)) (hl : Cond.classLink M.1.cls idx RX7 ∈ ev_tb) (hh : h.1 a = some (ev_ob 6 V)) (hn : pc + 3 = n) (k : Wp B d M n ls (.int 1 :: st) h Q) : Wp B d M pc ls (.ref a :: st) h Q := by
  subst hn
  refine Wp.go (fun D p l e R s m args below meth c H locs sl cells slots Qf hG hR hS hL kk => ?_) k
  obtain ⟨hx, hbb, -, -, -, hown, hname, hts, hK, -⟩ := hG
  exact va_instS hx hbb hown (hts _ hl) (hK.1.1 6 (RX7, TX7, 8) rfl).2 (ev_recv hK hR hh (q := (RX7, TX7, 8)) rfl) hd (kk _ hL)
theorem Wp.instN {a idx ci : Nat} {V : Nat → Value} (hd : decode M.2.1 pc = .ok (.instanceof idx, 3)) (hl : Cond.classLink M.1.cls idx RX7 ∈ ev_tb) (hci : ci = 3 ∨ ci = 7 ∨ ci = 8) (hh : h.1 a = some (ev_ob ci V)) (hn : pc + 3 = n) (k : Wp B d M n ls (.int 0 :: st) h Q) : Wp B d M pc ls (.ref a :: st) h Q := by
  subst hn
  refine Wp.go (fun D p l e R s m args below meth c H locs sl cells slots Qf hG hR hS hL kk => ?_) k
  obtain ⟨hx, hbb, -, -, -, hown, hname, hts, hK, -⟩ := hG
  rcases hci with rfl | rfl | rfl
  · exact va_instNo hx hbb hown (hts _ hl) hK.2.2.2.1.2.2 (ev_recv hK hR hh (q := (RX4, TX4, 7)) rfl) hd (kk _ hL)
  · exact va_instNo hx hbb hown (hts _ hl) hK.2.2.2.1.1 (ev_recv hK hR hh (q := (RX8, TX8, 6)) rfl) hd (kk _ hL)
  · exact va_instNo hx hbb hown (hts _ hl) hK.2.2.2.1.2.1 (ev_recv hK hR hh (q := (RX9, TX9, 8)) rfl) hd (kk _ hL)
theorem Wp.castY {a idx : Nat} {V : Nat → Value} (hd : decode M.2.1 pc = .ok (.checkcast idx, 3)) (hl : Cond.classLink M.1.cls idx RX7 ∈ ev_tb) (hh : h.1 a = some (ev_ob 6 V)) (hn : pc + 3 = n) (k : Wp B d M n ls (.ref a :: st) h Q) : Wp B d M pc ls (.ref a :: st) h Q := by
  subst hn
  refine Wp.go (fun D p l e R s m args below meth c H locs sl cells slots Qf hG hR hS hL kk => ?_) k
  obtain ⟨hx, hbb, -, -, -, hown, hname, hts, hK, -⟩ := hG
  exact va_castS hx hbb hown (hts _ hl) (hK.1.1 6 (RX7, TX7, 8) rfl).2 (ev_recv hK hR hh (q := (RX7, TX7, 8)) rfl) hd (kk _ hL)
/-- System.arraycopy between two rows of one sort (it may be one row) -/
theorem Wp.copyi {a b N0 N1 idx x y z : Nat} {sp dp k : Int32} {f g : Nat → Int32} (hd : decode M.2.1 pc = .ok (.invokestatic idx, 3)) (hl : Cond.methodLink M.1.cls idx arraycopyName ∈ ev_tb) (hdp : 1 ≤ d) (h0 : h.1 b = some (ev_ia N0 f)) (h1 : h.1 a = some (ev_ia N1 g)) (hx : sp.toInt = (x : Int)) (hy : dp.toInt = (y : Int)) (hz : k.toInt = (z : Int)) (hs1 : x + z ≤ N0) (hs2 : y + z ≤ N1) (hst : (st.map fun v => v.category).sum ≤ 8) (hn : pc + 3 = n)
    (kk : Wp B d M n ls st (ev_up h a (ev_ia N1 (va_cpy f g x y z))) Q) : Wp B d M pc ls (.int k :: .int dp :: .ref a :: .int sp :: .ref b :: st) h Q := by
  subst hn
  refine Wp.goH (h1 := ev_up h a (ev_ia N1 (va_cpy f g x y z))) (dw := 0) rfl (fun D p l e R s m args below meth c H locs sl cells slots Qf hG hR hS hL hc1 hc2 kk => ?_) kk
  obtain ⟨hxx, hbb, hml, -, -, hown, hname, hts, hK, hfr, hlo, -⟩ := hG
  have hc0 : H[b]? = some (arrV (D.2 0) N0 (fun j => .int (f j))) := (hR.2 _ _ h0).2
  have hc1 : H[a]? = some (arrV (D.2 0) N1 (fun j => .int (g j))) := (hR.2 _ _ h1).2
  obtain ⟨-, k0, hk0, cm0, hkk0⟩ := (ev_cls hK (t := 0) (by decide)) N0 (fun j => .int (f j))
  obtain ⟨ex1, ex2⟩ := ev_cl_of hx
  obtain ⟨ey1, ey2⟩ := ev_cl_of hy
  obtain ⟨ez1, ez2⟩ := ev_cl_of hz
  intro T hT X
  obtain ⟨vm', X', step⟩ := X.arraycopy hxx hown (hts _ hl) (hts _ (ev_mem (by decide +kernel) rfl)) (hts _ (ev_mem (by decide +kernel) rfl)) (hts _ (ev_mem (by decide +kernel) rfl)) (src := b) (dst := a) (cs := arrV (D.2 0) N0 (fun j => .int (f j))) (cd := arrV (D.2 0) N1 (fun j => .int (g j))) (srcPos := sp) (destPos := dp) (n := k) (by rw [hT]; exact hc0) (by rw [hT]; exact hc1)
    (fun _ h => by cases h) (fun _ h => by cases h) (fun h => by cases h) (fun h => by cases h) hk0 hk0 hkk0 hkk0 rfl ex1 ey1 ez1
    (by rw [hx, hz, arrV_size]; omega) (by rw [hy, hz, arrV_size]; omega)
    (fun vm₁ _ i hi => by
      have e : (arrV (D.2 0) N0 (fun j => .int (f j))).slots.getD (sp.toNatClampNeg + i) .null = .int (f (x + i)) := by
        rw [Array.getD_eq_getD_getElem?, ex2, arrV_read _ _ (by omega)]
        rfl
      rw [e]
      exact ⟨rfl, trivial⟩)
    (g := F0 m pc sl (.int k :: .int dp :: .ref a :: .int sp :: .ref b :: st)) rfl (by rw [hml]; exact hL.1) (rest := st) rfl (by rw [hbb]; exact hd) (by omega) (by
      show 2 * 0 + _ + (nativeFrameWords "java/lang/System" "arraycopy" 5 + 11) ≤ _
      have : nativeFrameWords "java/lang/System" "arraycopy" 5 ≤ 20 := by decide +kernel
      omega)
  have e1 : copied (arrV (D.2 0) N0 (fun j => .int (f j))) (arrV (D.2 0) N1 (fun j => .int (g j))) sp dp k = arrV (D.2 0) N1 (fun j => .int (va_cpy f g x y z j)) := by
    rw [← ex2, ← ey2, ← ez2]
    exact va_copied (fun z => .int z) _ _ f g (by omega)
  rw [e1] at X' step
  have hl' : a < H.size := (Array.getElem?_eq_some_iff.mp hc1).1
  have hheap : ((T.setVm vm').setCell a (arrV (D.2 0) N1 (fun j => .int (va_cpy f g x y z j)))).heap = H.setIfInBounds a (arrV (D.2 0) N1 (fun j => .int (va_cpy f g x y z j))) := by rw [← hT]; rfl
  have oq : ∀ q : Nat, q ≠ a → (H.setIfInBounds a (arrV (D.2 0) N1 (fun j => .int (va_cpy f g x y z j))))[q]? = H[q]? := fun q hq => by simp [Array.getElem?_setIfInBounds, Ne.symm hq]
  have hA : ev_A B a := (hR.2 _ _ h1).1
  obtain ⟨t, a1, b1⟩ := kk _ _ sl (hR.up h1 (by simp) (e := ev_ia N1 (va_cpy f g x y z)) (show (H.setIfInBounds a _)[a]? = some _ by simp [Array.getElem?_setIfInBounds, hl']; rfl) oq) ⟨by simp; exact hS.1, fun q g1 g2 => by
      rw [oq q (fun e => g2 (by rw [e]; exact hA))]
      exact hS.2.1 q g1 g2, fun q hq => by
      rcases List.mem_append.mp hq with h | h
      · exact hS.2.2 q h
      · obtain ⟨z, -, hz⟩ := List.mem_map.mp h
        rw [← hz]
        exact hA⟩ hL _ hheap X'
  exact ⟨t, step t a1, b1⟩
/-- System.arraycopy between two rows of one sort (it may be one row) -/
theorem Wp.copyl {a b N0 N1 idx x y z : Nat} {sp dp k : Int32} {f g : Nat → Int64} (hd : decode M.2.1 pc = .ok (.invokestatic idx, 3)) (hl : Cond.methodLink M.1.cls idx arraycopyName ∈ ev_tb) (hdp : 1 ≤ d) (h0 : h.1 b = some (ev_la N0 f)) (h1 : h.1 a = some (ev_la N1 g)) (hx : sp.toInt = (x : Int)) (hy : dp.toInt = (y : Int)) (hz : k.toInt = (z : Int)) (hs1 : x + z ≤ N0) (hs2 : y + z ≤ N1) (hst : (st.map fun v => v.category).sum ≤ 8) (hn : pc + 3 = n)
    (kk : Wp B d M n ls st (ev_up h a (ev_la N1 (va_cpy f g x y z))) Q) : Wp B d M pc ls (.int k :: .int dp :: .ref a :: .int sp :: .ref b :: st) h Q := by
  subst hn
  refine Wp.goH (h1 := ev_up h a (ev_la N1 (va_cpy f g x y z))) (dw := 0) rfl (fun D p l e R s m args below meth c H locs sl cells slots Qf hG hR hS hL hc1 hc2 kk => ?_) kk
  obtain ⟨hxx, hbb, hml, -, -, hown, hname, hts, hK, hfr, hlo, -⟩ := hG
  have hc0 : H[b]? = some (arrV (D.2 1) N0 (fun j => .long (f j))) := (hR.2 _ _ h0).2
  have hc1 : H[a]? = some (arrV (D.2 1) N1 (fun j => .long (g j))) := (hR.2 _ _ h1).2
  obtain ⟨-, k0, hk0, cm0, hkk0⟩ := (ev_cls hK (t := 1) (by decide)) N0 (fun j => .long (f j))
  obtain ⟨ex1, ex2⟩ := ev_cl_of hx
  obtain ⟨ey1, ey2⟩ := ev_cl_of hy
  obtain ⟨ez1, ez2⟩ := ev_cl_of hz
  intro T hT X
  obtain ⟨vm', X', step⟩ := X.arraycopy hxx hown (hts _ hl) (hts _ (ev_mem (by decide +kernel) rfl)) (hts _ (ev_mem (by decide +kernel) rfl)) (hts _ (ev_mem (by decide +kernel) rfl)) (src := b) (dst := a) (cs := arrV (D.2 1) N0 (fun j => .long (f j))) (cd := arrV (D.2 1) N1 (fun j => .long (g j))) (srcPos := sp) (destPos := dp) (n := k) (by rw [hT]; exact hc0) (by rw [hT]; exact hc1)
    (fun _ h => by cases h) (fun _ h => by cases h) (fun h => by cases h) (fun h => by cases h) hk0 hk0 hkk0 hkk0 rfl ex1 ey1 ez1
    (by rw [hx, hz, arrV_size]; omega) (by rw [hy, hz, arrV_size]; omega)
    (fun vm₁ _ i hi => by
      have e : (arrV (D.2 1) N0 (fun j => .long (f j))).slots.getD (sp.toNatClampNeg + i) .null = .long (f (x + i)) := by
        rw [Array.getD_eq_getD_getElem?, ex2, arrV_read _ _ (by omega)]
        rfl
      rw [e]
      exact ⟨rfl, trivial⟩)
    (g := F0 m pc sl (.int k :: .int dp :: .ref a :: .int sp :: .ref b :: st)) rfl (by rw [hml]; exact hL.1) (rest := st) rfl (by rw [hbb]; exact hd) (by omega) (by
      show 2 * 0 + _ + (nativeFrameWords "java/lang/System" "arraycopy" 5 + 11) ≤ _
      have : nativeFrameWords "java/lang/System" "arraycopy" 5 ≤ 20 := by decide +kernel
      omega)
  have e1 : copied (arrV (D.2 1) N0 (fun j => .long (f j))) (arrV (D.2 1) N1 (fun j => .long (g j))) sp dp k = arrV (D.2 1) N1 (fun j => .long (va_cpy f g x y z j)) := by
    rw [← ex2, ← ey2, ← ez2]
    exact va_copied (fun z => .long z) _ _ f g (by omega)
  rw [e1] at X' step
  have hl' : a < H.size := (Array.getElem?_eq_some_iff.mp hc1).1
  have hheap : ((T.setVm vm').setCell a (arrV (D.2 1) N1 (fun j => .long (va_cpy f g x y z j)))).heap = H.setIfInBounds a (arrV (D.2 1) N1 (fun j => .long (va_cpy f g x y z j))) := by rw [← hT]; rfl
  have oq : ∀ q : Nat, q ≠ a → (H.setIfInBounds a (arrV (D.2 1) N1 (fun j => .long (va_cpy f g x y z j))))[q]? = H[q]? := fun q hq => by simp [Array.getElem?_setIfInBounds, Ne.symm hq]
  have hA : ev_A B a := (hR.2 _ _ h1).1
  obtain ⟨t, a1, b1⟩ := kk _ _ sl (hR.up h1 (by simp) (e := ev_la N1 (va_cpy f g x y z)) (show (H.setIfInBounds a _)[a]? = some _ by simp [Array.getElem?_setIfInBounds, hl']; rfl) oq) ⟨by simp; exact hS.1, fun q g1 g2 => by
      rw [oq q (fun e => g2 (by rw [e]; exact hA))]
      exact hS.2.1 q g1 g2, fun q hq => by
      rcases List.mem_append.mp hq with h | h
      · exact hS.2.2 q h
      · obtain ⟨z, -, hz⟩ := List.mem_map.mp h
        rw [← hz]
        exact hA⟩ hL _ hheap X'
  exact ⟨t, step t a1, b1⟩
/-! returns -/
theorem Ev.ret0 {v : Option Value} (f : ∀ (D : ev_D) (p : Program) (l : Launch) (e : Env) (R : Room) (s : State) (m : MethodId) (args : Array Value) (below : List Frame) (meth : Method) (c : Code) (H : Heap) (locs : List Loc) (a : Array Slot) (cells slots : Nat),
      ev_G B D d M p R s m args meth c → (∀ t : State, t.heap = H → s.WarmedH t.vm → ev_Q B D v h args s (.returned v) t) → (∀ q ∈ locs, ev_A B q.base) →
      W p l e R s m args below meth c H locs cells slots (MQ below (ev_Q B D v h) args s cells slots (ev_A B)) (F0 m pc a st)) : Ev B d M pc ls st h v h := by
  refine ⟨Nat.le_refl _, fun D p l e R s m args below meth c hG H locs a cells slots hR hS hL h1 h2 => ?_⟩
  rw [Nat.sub_self, Nat.add_zero, Nat.add_zero]
  exact f D p l e R s m args below meth c H locs a cells slots hG (fun t ht hW => ⟨rfl, by rw [ht]; exact hR, hS.F ht⟩) hS.2.2
theorem Wp.iret {x : Int32} (hd : decode M.2.1 pc = .ok (.ireturn, 1)) (hr : M.2.2.2 = some .int) (hq : Q (some (.int x)) h) : Wp B d M pc ls [.int x] h Q :=
  ⟨_, _, Ev.ret0 (fun D p l e R s m args below meth c H locs a cells slots hG h1 h2 => W.iret hG.1 hG.2.1 (hG.2.2.2.1.trans hr) h1 h2 hd hG.2.2.2.2.1), hq⟩
theorem Wp.zret {x : Int32} (hd : decode M.2.1 pc = .ok (.ireturn, 1)) (hr : M.2.2.2 = some .boolean) (hx : x = 0 ∨ x = 1) (hq : Q (some (.int x)) h) : Wp B d M pc ls [.int x] h Q :=
  ⟨_, _, Ev.ret0 (fun D p l e R s m args below meth c H locs a cells slots hG h1 h2 => W.zret hG.1 hG.2.1 (hG.2.2.2.1.trans hr) (by rcases hx with rfl | rfl <;> rfl) h1 h2 hd hG.2.2.2.2.1), hq⟩
theorem Wp.lret {x : Int64} (hd : decode M.2.1 pc = .ok (.lreturn, 1)) (hr : M.2.2.2 = some .long) (hq : Q (some (.long x)) h) : Wp B d M pc ls [.long x] h Q :=
  ⟨_, _, Ev.ret0 (fun D p l e R s m args below meth c H locs a cells slots hG h1 h2 => W.lret hG.1 hG.2.1 (hG.2.2.2.1.trans hr) h1 h2 hd hG.2.2.2.2.1), hq⟩
theorem Wp.vret (hd : decode M.2.1 pc = .ok (.return_, 1)) (hr : M.2.2.2 = none) (hq : Q none h) : Wp B d M pc ls [] h Q :=
  ⟨_, _, Ev.ret0 (fun D p l e R s m args below meth c H locs a cells slots hG h1 h2 => W.vret hG.1 hG.2.1 (hG.2.2.2.1.trans hr) h1 h2 hd hG.2.2.2.2.1), hq⟩
theorem Wp.aret {x : Value} {rt : FieldType} (hd : decode M.2.1 pc = .ok (.areturn, 1)) (hr : M.2.2.2 = some rt) (hrt : (∃ n, rt = .object n) ∨ ∃ t, rt = .array t) (hx : ev_isr x) (hq : Q (some x) h) : Wp B d M pc ls [x] h Q :=
  ⟨_, _, Ev.ret0 (fun D p l e R s m args below meth c H locs a cells slots hG h1 h2 => W.aret hG.1 hG.2.1 (hG.2.2.2.1.trans hr) hrt hx h1 h2 hd hG.2.2.2.2.1), hq⟩
end EVA
