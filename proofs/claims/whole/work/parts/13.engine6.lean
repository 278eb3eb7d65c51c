theorem tm_in_math : Cond.initialized "java/lang/Math" ∈ ev_tb := ev_mem (by decide +kernel) rfl
theorem tm_st_abs : Cond.static Lib.Math.abs.name ∈ ev_tb := ev_mem (by decide +kernel) rfl
theorem tm_co_abs : Cond.code Lib.Math.abs.name Lib.Math.abs.code 1 (some .int) ∈ ev_tb := ev_mem (by decide +kernel) rfl
theorem tm_st_absl : Cond.static Lib.MathLoose.abs_long.x ∈ ev_tb := ev_mem (by decide +kernel) rfl
theorem tm_co_absl : Cond.code Lib.MathLoose.abs_long.x Lib.MathLoose.abs_long.code 2 (some .long) ∈ ev_tb := ev_mem (by decide +kernel) rfl
theorem tm_st_min : Cond.static Lib.Math.min.name ∈ ev_tb := ev_mem (by decide +kernel) rfl
theorem tm_co_min : Cond.code Lib.Math.min.name Lib.Math.min.code 2 (some .int) ∈ ev_tb := ev_mem (by decide +kernel) rfl
/-! booleans, Math's abs and min; small numbers -/
def bI (b : Bool) : Int32 := match b with
  | true => 1
  | false => 0
theorem bI_0 {b : Bool} : bI b = 0 ↔ b = false := by cases b <;> decide
theorem bI_n0 {b : Bool} : ¬ bI b = 0 ↔ b = true := by cases b <;> decide
theorem bI_01 (b : Bool) : bI b = 0 ∨ bI b = 1 := by cases b <;> decide
section EVM
variable {B : ev_B} {d : Nat} {M : ev_M} {pc n : Nat} {ls ls' : List (Option Value)} {st st' : List Value} {h : ev_H} {Q : Option Value → ev_H → Prop}
theorem Wp.bif_eq {b : Bool} {off : Int} {tgt : Nat} (hd : decode M.2.1 pc = .ok (.ifCond .eq off, 3)) (ht : (pc : Int) + off = (tgt : Int)) (hn : pc + 3 = n) (kt : b = false → Wp B d M tgt ls st h Q) (kf : b = true → Wp B d M n ls st h Q) : Wp B d M pc ls (.int (bI b) :: st) h Q :=
  Wp.if_eq hd ht hn (fun z => kt (bI_0.mp z)) (fun z => kf (bI_n0.mp z))
theorem Wp.bif_ne {b : Bool} {off : Int} {tgt : Nat} (hd : decode M.2.1 pc = .ok (.ifCond .ne off, 3)) (ht : (pc : Int) + off = (tgt : Int)) (hn : pc + 3 = n) (kt : b = true → Wp B d M tgt ls st h Q) (kf : b = false → Wp B d M n ls st h Q) : Wp B d M pc ls (.int (bI b) :: st) h Q :=
  Wp.if_ne hd ht hn (fun z => kt (bI_n0.mp z)) (fun z => kf (bI_0.mp z))
theorem Wp.bret {b : Bool} (hd : decode M.2.1 pc = .ok (.ireturn, 1)) (hr : M.2.2.2 = some .boolean) (hq : Q (some (.int (bI b))) h) : Wp B d M pc ls [.int (bI b)] h Q := Wp.zret hd hr (bI_01 b) hq
theorem Wp.mabs {idx : Nat} {x : Int32} (hd : decode M.2.1 pc = .ok (.invokestatic idx, 3)) (hl : Cond.methodLink M.1.cls idx yJ9_abs_0f7a4 ∈ ev_tb) (hd1 : 1 ≤ d) (hst : (st.map fun v => v.category).sum ≤ 8) (hn : pc + 3 = n) (k : Wp B d M n ls (.int (if 0 ≤ x then x else 0 - x) :: st) h Q) : Wp B d M pc ls (.int x :: st) h Q := by
  subst hn
  refine Wp.goH (h1 := h) (dw := 0) rfl (fun D p l e R s m args below meth c H locs sl cells slots Qf hG hR hS hL hc1 hc2 kk => ?_) k
  obtain ⟨hx, hbb, hml, -, -, hown, hname, hts, hK, hfr, hlo, -⟩ := hG
  exact va_mabs hx hbb (by rw [hml]; exact hL.1.symm) hown (hts _ hl) (hts _ (tm_st_abs)) (hts _ tm_in_math) (hts _ tm_co_abs) (by omega) (by omega) (by omega) (by omega) hd (kk H locs sl hR hS hL)
theorem Wp.mabsl {idx : Nat} {x : Int64} (hd : decode M.2.1 pc = .ok (.invokestatic idx, 3)) (hl : Cond.methodLink M.1.cls idx yJ9_abs_067f4 ∈ ev_tb) (hd1 : 1 ≤ d) (hst : (st.map fun v => v.category).sum ≤ 8) (hn : pc + 3 = n) (k : Wp B d M n ls (.long (if 0 < x then x else -x) :: st) h Q) : Wp B d M pc ls (.long x :: st) h Q := by
  subst hn
  refine Wp.goH (h1 := h) (dw := 0) rfl (fun D p l e R s m args below meth c H locs sl cells slots Qf hG hR hS hL hc1 hc2 kk => ?_) k
  obtain ⟨hx, hbb, hml, -, -, hown, hname, hts, hK, hfr, hlo, -⟩ := hG
  exact va_mabs_long hx hbb (by rw [hml]; exact hL.1.symm) hown (hts _ hl) (hts _ (tm_st_absl)) (hts _ tm_in_math) (hts _ tm_co_absl) (by omega) (by omega) (by omega) (by omega) hd (kk H locs sl hR hS hL)
theorem Wp.mmin {idx : Nat} {x y : Int32} (hd : decode M.2.1 pc = .ok (.invokestatic idx, 3)) (hl : Cond.methodLink M.1.cls idx yJ9_min_7cf53 ∈ ev_tb) (hd1 : 1 ≤ d) (hst : (st.map fun v => v.category).sum ≤ 8) (hn : pc + 3 = n) (k : Wp B d M n ls (.int (if y < x then y else x) :: st) h Q) : Wp B d M pc ls (.int y :: .int x :: st) h Q := by
  subst hn
  refine Wp.goH (h1 := h) (dw := 0) rfl (fun D p l e R s m args below meth c H locs sl cells slots Qf hG hR hS hL hc1 hc2 kk => ?_) k
  obtain ⟨hx, hbb, hml, -, -, hown, hname, hts, hK, hfr, hlo, -⟩ := hG
  exact va_mmin hx hbb (by rw [hml]; exact hL.1.symm) hown (hts _ hl) (hts _ (tm_st_min)) (hts _ tm_in_math) (hts _ tm_co_min) (by omega) (by omega) (by omega) (by omega) hd (kk H locs sl hR hS hL)
end EVM
/-! calls, the arguments taken off the stack -/
section EVT
variable {B : ev_B} {d : Nat} {M : ev_M} {pc n : Nat} {ls ls' : List (Option Value)} {st st' : List Value} {h : ev_H} {Q : Option Value → ev_H → Prop}
theorem Wp.cV {dc k idx ci b : Nat} {N : ev_M} {V : Nat → Value} {Qc : Option Value → ev_H → Prop} (hd : decode M.2.1 pc = .ok (.invokevirtual idx, 3)) (hL : ev_CV M.1.cls idx ci N k) (hst : st = st.take k ++ .ref b :: st.drop (k + 1)) (hlt : dc + 1 ≤ d) (hk : (st.take k).reverse.length = k) (hlen : (ev_sl (.ref b :: (st.take k).reverse)).length ≤ N.2.2.1) (hrest : ((st.drop (k + 1)).map fun v => v.category).sum ≤ 8) (hb : h.1 b = some (ev_ob ci V)) (hn : pc + 3 = n) (hc : Wp B dc N 0 (ev_en (.ref b :: (st.take k).reverse) N.2.2.1) [] h Qc)
    (kk : ∀ (v : Option Value) (h1 : ev_H), Qc v h1 → Wp B d M n ls (v.toList ++ st.drop (k + 1)) h1 Q) : Wp B d M pc ls st h Q :=
  Wp.callV hd hL (by rw [List.reverse_reverse]; exact hst) hlt hk hlen hrest hb hn hc kk
theorem Wp.cU {dc k idx ci b : Nat} {N : ev_M} {V : Nat → Value} {Qc : Option Value → ev_H → Prop} (hd : decode M.2.1 pc = .ok (.invokevirtual idx, 3)) (hL : ev_CU M.1.cls idx ci N k) (hst : st = st.take k ++ .ref b :: st.drop (k + 1)) (hlt : dc + 1 ≤ d) (hk : (st.take k).reverse.length = k) (hlen : (ev_sl (.ref b :: (st.take k).reverse)).length ≤ N.2.2.1) (hrest : ((st.drop (k + 1)).map fun v => v.category).sum ≤ 8) (hb : h.1 b = some (ev_ob ci V)) (hn : pc + 3 = n) (hc : Wp B dc N 0 (ev_en (.ref b :: (st.take k).reverse) N.2.2.1) [] h Qc)
    (kk : ∀ (v : Option Value) (h1 : ev_H), Qc v h1 → Wp B d M n ls (v.toList ++ st.drop (k + 1)) h1 Q) : Wp B d M pc ls st h Q :=
  Wp.callU hd hL (by rw [List.reverse_reverse]; exact hst) hlt hk hlen hrest hb hn hc kk
theorem Wp.cS {dc k idx : Nat} {N : ev_M} {Qc : Option Value → ev_H → Prop} (hd : decode M.2.1 pc = .ok (.invokestatic idx, 3)) (hL : ev_CS M.1.cls idx N k) (hst : st = st.take k ++ st.drop k) (hlt : dc + 1 ≤ d) (hk : (st.take k).reverse.length = k) (hlen : (ev_sl (st.take k).reverse).length ≤ N.2.2.1) (hrest : ((st.drop k).map fun v => v.category).sum ≤ 8) (hn : pc + 3 = n) (hc : Wp B dc N 0 (ev_en (st.take k).reverse N.2.2.1) [] h Qc)
    (kk : ∀ (v : Option Value) (h1 : ev_H), Qc v h1 → Wp B d M n ls (v.toList ++ st.drop k) h1 Q) : Wp B d M pc ls st h Q :=
  Wp.callS hd hL (by rw [List.reverse_reverse]; exact hst) hlt hk hlen hrest hn hc kk
theorem Wp.cSN {dc k idx : Nat} {N : ev_M} {Qc : Option Value → ev_H → Prop} (hd : decode M.2.1 pc = .ok (.invokestatic idx, 3)) (hL : ev_CSN M.1.cls idx N k) (hst : st = st.take k ++ st.drop k) (hlt : dc + 1 ≤ d) (hk : (st.take k).reverse.length = k) (hlen : (ev_sl (st.take k).reverse).length ≤ N.2.2.1) (hrest : ((st.drop k).map fun v => v.category).sum ≤ 8) (hn : pc + 3 = n) (hc : Wp B dc N 0 (ev_en (st.take k).reverse N.2.2.1) [] h Qc)
    (kk : ∀ (v : Option Value) (h1 : ev_H), Qc v h1 → Wp B d M n ls (v.toList ++ st.drop k) h1 Q) : Wp B d M pc ls st h Q :=
  Wp.callSN hd hL (by rw [List.reverse_reverse]; exact hst) hlt hk hlen hrest hn hc kk
theorem Wp.cI {dc k idx b : Nat} {N : ev_M} {Qc : Option Value → ev_H → Prop} (hd : decode M.2.1 pc = .ok (.invokespecial idx, 3)) (hL : ev_CI M.1.cls idx N k) (hst : st = st.take k ++ .ref b :: st.drop (k + 1)) (hlt : dc + 1 ≤ d) (hk : (st.take k).reverse.length = k) (hlen : (ev_sl (.ref b :: (st.take k).reverse)).length ≤ N.2.2.1) (hrest : ((st.drop (k + 1)).map fun v => v.category).sum ≤ 8) (hn : pc + 3 = n) (hc : Wp B dc N 0 (ev_en (.ref b :: (st.take k).reverse) N.2.2.1) [] h Qc)
    (kk : ∀ (v : Option Value) (h1 : ev_H), Qc v h1 → Wp B d M n ls (v.toList ++ st.drop (k + 1)) h1 Q) : Wp B d M pc ls st h Q :=
  Wp.callI hd hL (by rw [List.reverse_reverse]; exact hst) hlt hk hlen hrest hn hc kk
theorem Wp.cIN {dc k idx b : Nat} {N : ev_M} {Qc : Option Value → ev_H → Prop} (hd : decode M.2.1 pc = .ok (.invokespecial idx, 3)) (hL : ev_CIN M.1.cls idx N k) (hst : st = st.take k ++ .ref b :: st.drop (k + 1)) (hlt : dc + 1 ≤ d) (hk : (st.take k).reverse.length = k) (hlen : (ev_sl (.ref b :: (st.take k).reverse)).length ≤ N.2.2.1) (hrest : ((st.drop (k + 1)).map fun v => v.category).sum ≤ 8) (hn : pc + 3 = n) (hc : Wp B dc N 0 (ev_en (.ref b :: (st.take k).reverse) N.2.2.1) [] h Qc)
    (kk : ∀ (v : Option Value) (h1 : ev_H), Qc v h1 → Wp B d M n ls (v.toList ++ st.drop (k + 1)) h1 Q) : Wp B d M pc ls st h Q :=
  Wp.callIN hd hL (by rw [List.reverse_reverse]; exact hst) hlt hk hlen hrest hn hc kk
end EVT
