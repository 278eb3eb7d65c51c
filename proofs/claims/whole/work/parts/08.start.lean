/-! THE CLAIM OUT OF THE LAW'S RUN: what is wanted of the law is one run (ev_law) -/
def R_law : String := "PriceBenchLaw"
abbrev M_law : ev_M := (⟨R_law, "law", "([I)Z"⟩, code, 4, ret)
def ev_KA : Nat → Int32 := fun k => match k with
  | 0 => -1
  | 3 => 1
  | _ => 0
def ev_BO : Nat → Int32 := fun k => match k with
  | 0 => 10
  | 1 => 11
  | 2 => 12
  | 3 => 20
  | 5 => 21
  | 7 => 30
  | 9 => 40
  | 10 => 41
  | _ => 0
/-- the two static arrays -/
def ev_sta (B : ev_B) : Prop := B.2.2 (B.2.1 0) = some (4, ev_KA) ∧ B.2.2 (B.2.1 1) = some (12, ev_BO)
/-- the law's run: from an empty heap, with a script of at most 3072 ints -/
def ev_law : Prop := ∀ (B : ev_B) (b L : Nat) (f : Nat → Int32) (n : Nat), ev_sta B → B.2.2 b = some (L, f) → L ≤ 3072 → Wp B 100 M_law 0 [some (.ref b), none, none, none] [] ((fun _ => none, n, 0) : ev_H) (fun v h' => v = some (.int 1) ∧ h'.2.2 ≤ 600000)
def lw_P (b : Addr) (xs : List Int32) (args : Array Value) (s : State) : Prop := args = #[.ref b] ∧ s.IntsAt b xs ∧ xs.length ≤ 3072 ∧ (Jvm.Cond.and given_1 narrow_1).before args s = true
def lw_Q (_ : Array Value) (s : State) (o : Outcome) (t : State) : Prop := o = .returned (some (.int 1)) ∧ Framed s o t [] 600000 7302250
def lw_Z (below : List Frame) (a : Array Value) (s : State) : State → Prop := fun t => ∃ o, t.status = .running ∧ Ended t below o ∧ lw_Q a s o t
def lw_At (p : Program) (s : State) (m : MethodId) (meth : Method) (c : Code) (b L : Nat) (xs : Nat → Int32) : Prop :=
  p.tables.exec = Jvm.exec ∧ c.code = code ∧ meth.sig.returnType = ret ∧ c.maxLocals = 4 ∧ s.vm.findClass R_law = some m.cls ∧ meth.name = "law" ∧ (∀ w ∈ lw_tbl, w.before #[Value.ref b] s = true) ∧ va_X b L xs s s.heap ∧ b < s.heap.size ∧ meth.locks = false ∧ (Jvm.Cond.and given_1 narrow_1).before #[Value.ref b] s = true
theorem ev_same {s t : State} {L : List Loc} {k n k' n' : Nat} (hL : ∀ q ∈ L, s.heap.size ≤ q.base) (hk : k ≤ k') (hn : n ≤ n') (h : s.sameButNew t L k n) : s.sameButNew t [] k' n' := by
  obtain ⟨h1, h2, h3, h4, h5, h6⟩ := h
  refine ⟨h1, h2, by omega, h4, by omega, fun a c hc => ?_⟩
  obtain ⟨c', e1, e2, e3, e4⟩ := h6 a c hc
  refine ⟨c', e1, e2, e3, fun i _ => e4 i (fun z => ?_)⟩
  have := hL _ z
  have hl := (Array.getElem?_eq_some_iff.mp hc).1
  exact absurd this (Nat.not_le.mpr hl)
/-- a private method of a class above: nothing overrides it -/
theorem ev_selp {y : MethodName} {C : String} {s : State} {args : Array Value} {nn : Nat} (hy : y.cls ≠ "java/lang/invoke/MethodHandle" ∧ y.cls ≠ "java/lang/invoke/VarHandle") (hins : (Cond.instantiable C nn).before args s = true) (hpriv : (Cond.privateMethod y).before args s = true) (hinst : (Cond.instanceMethod y).before args s = true) (hsame : (Cond.sameMethod y.cls y.cls y.name y.desc).before args s = true) :
    (Cond.selects C y y).before args s = true := by
  obtain ⟨c, k, hc, hk, -⟩ := Cond.instantiable_spec hins
  obtain ⟨cn, ck, r1, hcn, hck, hni, hf, hn1⟩ := Cond.sameMethod_found hsame
  obtain ⟨mk, methM, hnamed, hmethM, -, -⟩ := Cond.instanceMethod_spec hinst
  have hfound : s.methodFound? y.cls y.name y.desc = some mk := State.methodFound?_of_named hnamed hy
  have hcls : mk.cls = cn := Option.some.inj ((findClass_of_methodNamed hnamed).symm.trans hcn)
  have hsel : selectMethod {} s.vm c mk = .method mk := selectMethod_private hmethM (Cond.privateMethod_at hpriv mk methM hnamed hmethM)
  simp only [Cond.before, Cond.holds, Cond.value, hc, hfound, hnamed, hsel, hcls, hck]
  simp; exact hni
theorem ev_cast {s : State} {A : Array Value} {C T : String} (h : (Cond.castable C T).before A s = true) : ev_Yc C T s := by
  obtain ⟨c, t, h1, h2, h3⟩ := Cond.castable_spec h
  exact ⟨c, t, h1, h2, h3⟩
set_option maxRecDepth 100000 in
set_option maxHeartbeats 4000000 in
theorem ev_startK {s : State} {b : Nat} (hts : ∀ w ∈ lw_tbl, w.before #[Value.ref b] s = true) (hgv : (Jvm.Cond.and given_1 narrow_1).before #[Value.ref b] s = true) : ∃ D : ev_D, ev_K D s := by
  have hs := flat_of_before _ hgv
  have hk : ∀ c : Nat, ∃ g : ClassId × (Nat → Nat), ∀ q : vw_C, vwCl[c]? = some q → u_Kn s q.1 q.2.1 q.2.2 g.1 g.2 := by
    intro c
    have one : ∀ (C : String) (T : u_T) (N : Nat), vwCl[c]? = some (C, T, N) → (∀ w ∈ u_ws C T N, w ∈ lw_tbl) → Cond.instantiable C N ∈ lw_tbl → ∃ g : ClassId × (Nat → Nat), ∀ q : vw_C, vwCl[c]? = some q → u_Kn s q.1 q.2.1 q.2.2 g.1 g.2 := by
      intro C T N hc hin hi
      obtain ⟨cC, iS, h⟩ := u_known hts hin (hts _ hi)
      refine ⟨(cC, iS), fun q hq => ?_⟩
      cases hc.symm.trans hq
      exact h
    match c with
    | 0 => exact one RX0 TX0 2 rfl inX0 (by decide +kernel)
    | 1 => exact one RX1 TX1 4 rfl inX1 (by decide +kernel)
    | 2 => exact one RX2 TX2 11 rfl inX2 (by decide +kernel)
    | 3 => exact one RX4 TX4 7 rfl inX4 (by decide +kernel)
    | 4 => exact one RX5 TX5 2 rfl inX5 (by decide +kernel)
    | 5 => exact one RX6 TX6 3 rfl inX6 (by decide +kernel)
    | 6 => exact one RX7 TX7 8 rfl inX7 (by decide +kernel)
    | 7 => exact one RX8 TX8 6 rfl inX8 (by decide +kernel)
    | 8 => exact one RX9 TX9 8 rfl inX9 (by decide +kernel)
    | 9 => exact one RX10 TX10 5 rfl inX10 (by decide +kernel)
    | 10 => exact one RX11 TX11 8 rfl inX11 (by decide +kernel)
    | 11 => exact one RX12 TX12 36 rfl inX12 (by decide +kernel)
    | c + 12 => exact ⟨(0, fun _ => 0), fun q hq => by simp [vwCl] at hq⟩
  have harr : ∀ t : Nat, ∃ cA : ClassId, t < 4 → ArrOfT s cA (ev_ty t) ∧ va_RA s cA (ev_ty t) := by
    intro t
    match t with
    | 0 =>
      obtain ⟨cA, kA, comp, h1, h2, h3⟩ := Cond.arrayClass_spec (hts (.arrayClass .int) (by decide +kernel))
      exact ⟨cA, fun _ => ⟨fun n z => ⟨fun k h => (by cases h), kA, h2, comp, h3⟩, h1⟩⟩
    | 1 =>
      obtain ⟨cA, kA, comp, h1, h2, h3⟩ := Cond.arrayClass_spec (hts (.arrayClass .long) (by decide +kernel))
      exact ⟨cA, fun _ => ⟨fun n z => ⟨fun k h => (by cases h), kA, h2, comp, h3⟩, h1⟩⟩
    | 2 =>
      obtain ⟨comp, cA, kA, h1, h2, h3, h4, h5⟩ := Cond.arrayOver_spec (hts (.arrayOver (.object "PriceBench$Offer")) (by decide +kernel))
      exact ⟨cA, fun _ => ⟨fun n z => ⟨fun k h => (by cases h), kA, h3, comp, h4⟩, kA, comp, h3, h4, h1, h5⟩⟩
    | 3 =>
      obtain ⟨comp, cA, kA, h1, h2, h3, h4, h5⟩ := Cond.arrayOver_spec (hts (.arrayOver (.object "PriceBench$Sheet")) (by decide +kernel))
      exact ⟨cA, fun _ => ⟨fun n z => ⟨fun k h => (by cases h), kA, h3, comp, h4⟩, kA, comp, h3, h4, h1, h5⟩⟩
    | t + 4 => exact ⟨0, fun h => absurd h (by omega)⟩
  refine ⟨((fun c => (Classical.choose (hk c)).1, fun c => (Classical.choose (hk c)).2), fun t => Classical.choose (harr t)), ⟨fun c q hq => Classical.choose_spec (hk c) q hq, fun k q h => by simp at h⟩, fun t ht => Classical.choose_spec (harr t) ht, fun w hw => ?_, ⟨va_Nc.of (hs _ (by decide +kernel)), va_Nc.of (hs _ (by decide +kernel)), va_Nc.of (hs _ (by decide +kernel))⟩, va_AO.of (A := #[Value.ref b]) (hts _ (by decide +kernel)), va_AO.of (A := #[Value.ref b]) (hts _ (by decide +kernel)), fun C hC => ?_⟩
  · have h9 := (List.mem_filter.mp hw).2
    have h8 := hts w (List.mem_filter.mp hw).1
    cases w <;> first | exact va_Nw.of rfl h8 | (simp at h9)
  · simp only [List.mem_cons, List.mem_nil_iff, or_false] at hC
    rcases hC with rfl | rfl | rfl | rfl <;> exact ev_cast (A := #[Value.ref b]) (hts _ (by decide +kernel))
set_option maxRecDepth 100000 in
set_option maxHeartbeats 4000000 in
theorem ev_startT {s : State} {b : Nat} {A : Nat → Prop} (hA : ∀ a : Nat, a < s.heap.size → ¬ A a) (hts : ∀ w ∈ lw_tbl, w.before #[Value.ref b] s = true) (hgv : (Jvm.Cond.and given_1 narrow_1).before #[Value.ref b] s = true) :
    ∃ t1 t2 : Nat, va_Z "PriceBench$Acts" "KIND_ABOVE" "[I" (.ref t1) A s s.heap ∧ va_Z "PriceBench$Acts" "BODIES" "[I" (.ref t2) A s s.heap ∧ va_T .int t1 4 (fun j => .int (ev_KA j)) A s s.heap ∧ va_T .int t2 12 (fun j => .int (ev_BO j)) A s s.heap := by
  have hs := flat_of_before _ hgv
  obtain ⟨t1, e1, hT1⟩ := va_Tof (tm := .static "PriceBench$Acts" "KIND_ABOVE" "[I") (ty := .int) (N := 4) (f := fun j => .int (ev_KA j)) (A := A) (by decide) (hs _ (by decide +kernel)) (va_eqt (hs _ (by decide +kernel))) (fun j hj => by
    match j, hj with
    | 0, _ => exact va_eqt (hs _ (by decide +kernel))
    | 1, _ => exact va_eqt (hs _ (by decide +kernel))
    | 2, _ => exact va_eqt (hs _ (by decide +kernel))
    | 3, _ => exact va_eqt (hs _ (by decide +kernel))
    | j + 4, h => exact absurd h (by omega)) hA
  obtain ⟨t2, e2, hT2⟩ := va_Tof (tm := .static "PriceBench$Acts" "BODIES" "[I") (ty := .int) (N := 12) (f := fun j => .int (ev_BO j)) (A := A) (by decide) (hs _ (by decide +kernel)) (va_eqt (hs _ (by decide +kernel))) (fun j hj => by
    match j, hj with
    | 0, _ => exact va_eqt (hs _ (by decide +kernel))
    | 1, _ => exact va_eqt (hs _ (by decide +kernel))
    | 2, _ => exact va_eqt (hs _ (by decide +kernel))
    | 3, _ => exact va_eqt (hs _ (by decide +kernel))
    | 4, _ => exact va_eqt (hs _ (by decide +kernel))
    | 5, _ => exact va_eqt (hs _ (by decide +kernel))
    | 6, _ => exact va_eqt (hs _ (by decide +kernel))
    | 7, _ => exact va_eqt (hs _ (by decide +kernel))
    | 8, _ => exact va_eqt (hs _ (by decide +kernel))
    | 9, _ => exact va_eqt (hs _ (by decide +kernel))
    | 10, _ => exact va_eqt (hs _ (by decide +kernel))
    | 11, _ => exact va_eqt (hs _ (by decide +kernel))
    | j + 12, h => exact absurd h (by omega)) hA
  exact ⟨t1, t2, va_Zref (hts (.laysStatic "PriceBench$Acts" "KIND_ABOVE" "[I") (by decide +kernel)) (hts (.initialized "PriceBench$Acts") (by decide +kernel)) e1 hA, va_Zref (hts (.laysStatic "PriceBench$Acts" "BODIES" "[I") (by decide +kernel)) (hts (.initialized "PriceBench$Acts") (by decide +kernel)) e2 hA, hT1, hT2⟩
theorem ev_startW {s : State} {args : Array Value} (hts : ∀ w ∈ lw_tbl, w.before args s = true) : ∀ w ∈ ev_tb, w.before args s = true := by
  intro w hw
  rcases List.mem_append.mp (List.mem_filter.mp hw).1 with h | h
  · simp only [ev_x, List.mem_cons, List.mem_nil_iff, or_false] at h
    have key : ∀ (C : String) (nn : Nat), Cond.instantiable C nn ∈ lw_tbl → (Cond.selects C ev_yf ev_yf).before args s = true := fun C nn hi => ev_selp ⟨by decide +kernel, by decide +kernel⟩ (hts _ hi) (hts _ (by decide +kernel)) (hts _ (by decide +kernel)) (hts _ (by decide +kernel))
    rcases h with rfl | rfl | rfl | rfl
    · exact key _ 7 (by decide +kernel)
    · exact key _ 8 (by decide +kernel)
    · exact key _ 6 (by decide +kernel)
    · exact key _ 8 (by decide +kernel)
  · exact hts w h
set_option maxHeartbeats 4000000 in
theorem whole_start_open (hlaw : ev_law) {p : Program} {e : Env} {s : State} {m : MethodId} {below : List Frame} {meth : Method} {c : Code} (l : Launch) {b L : Nat} {xs : Nat → Int32} (hL : L ≤ 3072) (C0 : lw_At p s m meth c b L xs) : W p l e room_1 s m #[Value.ref b] below meth c s.heap [] 0 0 (lw_Z below #[Value.ref b] s) (entryFrame m ([Value.ref b] : List Value).toArray 4) := by
  obtain ⟨hx, hb, hr, hml, hown, hname, hts, hX, hbl, hlocks, hgv⟩ := id C0
  have hA : ∀ a : Nat, a < s.heap.size → ¬ (fun q : Nat => s.heap.size ≤ q) a := fun a h z => absurd z (Nat.not_le.mpr h)
  obtain ⟨D, hK⟩ := ev_startK hts hgv
  obtain ⟨t1, t2, hZ1, hZ2, hT1, hT2⟩ := ev_startT hA hts hgv
  have hne : t2 ≠ t1 := by
    intro h
    obtain ⟨c1, a1, -, -, -, z1, -⟩ := hT1
    obtain ⟨c2, a2, -, -, -, z2, -⟩ := hT2
    rw [h, a1] at a2
    cases a2
    rw [z1] at z2
    exact absurd z2 (by decide)
  have hTb : va_T .int b L (fun j => .int (xs j)) (fun q : Nat => s.heap.size ≤ q) s s.heap := by
    obtain ⟨scr, h1, h2, h3, h4, h5⟩ := hX
    exact ⟨scr, h1, h2, h3, by omega, by rw [h4] <;> rfl, h5, hA b hbl⟩
  let ro : Nat → Option (Nat × (Nat → Int32)) := fun t => if t = t1 then some (4, ev_KA) else if t = t2 then some (12, ev_BO) else if t = b then some (L, xs) else none
  let B : ev_B := (s.heap.size, fun k => if k = 0 then t1 else t2, ro)
  have hsta : ev_sta B := ⟨by simp [B, ro], by simp [B, ro, hne]⟩
  have hro : ∃ (L' : Nat) (f : Nat → Int32), B.2.2 b = some (L', f) ∧ L' ≤ 3072 := by
    by_cases h1 : b = t1
    · exact ⟨4, ev_KA, by simp [B, ro, h1], by omega⟩
    · by_cases h2 : b = t2
      · exact ⟨12, ev_BO, by simp [B, ro, h2, hne], by omega⟩
      · exact ⟨L, xs, by simp [B, ro, h1, h2], hL⟩
  obtain ⟨L', f, hf, hL'⟩ := hro
  obtain ⟨v, h', ⟨hw, hE⟩, rfl, hw'⟩ := hlaw B b L' f s.heap.size hsta hf hL'
  have hl := lv_entry ([.ref b]) (n := 4) (Nat.le_of_ble_eq_true rfl)
  rw [lg_entry_eq]
  generalize (lg_sl ([.ref b]) ++ List.replicate (4 - (lg_sl ([.ref b])).length) Slot.unset).toArray = ls at hl ⊢
  have key := hE D p l e room_1 s m #[Value.ref b] below meth c ⟨hx, hb, hml, hr, hlocks, hown, hname, ev_startW hts, hK, by decide, by decide, Nat.le_refl _, hZ1, hZ2, fun t N f hf => ?_⟩ s.heap [] ls 0 0 ⟨rfl, fun a e h => by cases h⟩ va_S.rf (ev_en_L (As := [.ref b]) (n := 4) hl) (by show 0 + (h'.2.2 - 0) ≤ 600000; omega) (by show 0 + (h'.2.2 - 0) ≤ 7302250; omega)
  · intro T hT X
    obtain ⟨t, a1, o, b1, b2, ⟨rfl, -⟩, LL, hF, hLL⟩ := key T hT X
    refine ⟨t, a1, _, b1, b2, rfl, hF.1, hF.2.1, ev_same hLL ?_ ?_ hF.2.2⟩
    · show 0 + (h'.2.2 - 0) ≤ 600000; omega
    · show 0 + (h'.2.2 - 0) ≤ 7302250; omega
  · have hf' : ro t = some (N, f) := hf
    simp only [ro] at hf'
    by_cases h1 : t = t1
    · rw [if_pos h1] at hf'; cases hf'; rw [h1]; exact hT1
    · rw [if_neg h1] at hf'
      by_cases h2 : t = t2
      · rw [if_pos h2] at hf'; cases hf'; rw [h2]; exact hT2
      · rw [if_neg h2] at hf'
        by_cases h3 : t = b
        · rw [if_pos h3] at hf'; cases hf'; rw [h3]; exact hTb
        · rw [if_neg h3] at hf'; cases hf'
