/-! A JUDGEMENT OF ITS OWN: a method's frame over a heap that is a function. Wp .. Q: from pc, with these locals and this stack, the method comes to its end with an answer and a heap of which Q holds. -/
/-- a method: name, bytes, locals, what it returns -/
abbrev ev_M : Type := MethodName × ByteArray × Nat × Option FieldType
/-- a cell: an array (its kind: 0 ints, 1 longs, 2 offers, 3 sheets; its content), or an object (its class's number, its fields) -/
abbrev ev_E : Type := (Nat × vp_A) ⊕ (Nat × (Nat → Value))
/-- the heap: cells, the next address, what was made so far (cells and slots together) -/
abbrev ev_H : Type := (Nat → Option ev_E) × Nat × Nat
/-- what never changes: where the part that may be written begins, the addresses of the two static arrays, the int arrays that are only read -/
abbrev ev_B : Type := Nat × (Nat → Nat) × (Nat → Option (Nat × (Nat → Int32)))
abbrev ev_D : Type := va_G × (Nat → ClassId)
def ev_yf : MethodName := ⟨"PriceBench$Offer", "findBends", "(LPriceBench$Window;)V"⟩
/-- a private method of the class above, whatever the receiver's class -/
def ev_x : List Cond := [.selects "PriceBench$Pairing" ev_yf ev_yf, .selects "PriceBench$Told" ev_yf ev_yf, .selects "PriceBench$Tree" ev_yf ev_yf, .selects "PriceBench$Way" ev_yf ev_yf]
def ev_tb : List Cond := (ev_x ++ lw_tbl).filter goodWord
theorem ev_mem {w : Cond} (h : w ∈ lw_tbl) (g : goodWord w = true) : w ∈ ev_tb := List.mem_filter.mpr ⟨List.mem_append_right _ h, g⟩
theorem ev_memx {w : Cond} (h : w ∈ ev_x) (g : goodWord w = true) : w ∈ ev_tb := List.mem_filter.mpr ⟨List.mem_append_left _ h, g⟩
def ev_ty : Nat → FieldType := fun t => match t with
  | 0 => .int
  | 1 => .long
  | 2 => .object "PriceBench$Offer"
  | _ => .object "PriceBench$Sheet"
def ev_at (D : ev_D) (a : Nat) (e : ev_E) (H : Heap) : Prop := match e with
  | .inl x => H[a]? = some (vp_cell (D.2 x.1) x.2)
  | .inr o => ∃ r : vw_C, vwCl[o.1]? = some r ∧ t_OB a (D.1.1 o.1) r.2.2 (D.1.2 o.1) H o.2
def ev_R (B : ev_B) (D : ev_D) (h : ev_H) (H : Heap) : Prop := H.size = h.2.1 ∧ ∀ (a : Nat) (e : ev_E), h.1 a = some e → B.1 ≤ a ∧ ev_at D a e H
/-- the links of nest mates, by class and number -/
def ev_nest : List Cond := lw_tbl.filter (fun w => match w with | .methodLinkNest .. => true | .declares _ => true | _ => false)
def ev_Yc (C T : String) (U : State) : Prop := ∃ c t : ClassId, U.vm.findClass C = some c ∧ U.vm.findClass T = some t ∧ U.vm.assignable c t = true
def ev_K (D : ev_D) (s : State) : Prop := va_K D.1 vwCl [] s ∧ (∀ t : Nat, t < 4 → ArrOfT s (D.2 t) (ev_ty t) ∧ va_RA s (D.2 t) (ev_ty t)) ∧ (∀ w ∈ ev_nest, va_Nw w s) ∧
  (va_Nc "PriceBench$Tree" "PriceBench$Told" s ∧ va_Nc "PriceBench$Way" "PriceBench$Told" s ∧ va_Nc "PriceBench$Pairing" "PriceBench$Told" s) ∧ va_AO "PriceBench$Offer" s ∧ va_AO "PriceBench$Sheet" s ∧
  ∀ C ∈ ["PriceBench$Pairing", "PriceBench$Told", "PriceBench$Tree", "PriceBench$Way"], ev_Yc C "PriceBench$Offer" s
def ev_A (B : ev_B) : Nat → Prop := fun q => B.1 ≤ q
def ev_Z (B : ev_B) (s : State) (H : Heap) : Prop := va_Z "PriceBench$Acts" "KIND_ABOVE" "[I" (.ref (B.2.1 0)) (ev_A B) s H ∧ va_Z "PriceBench$Acts" "BODIES" "[I" (.ref (B.2.1 1)) (ev_A B) s H ∧
  ∀ (t N : Nat) (f : Nat → Int32), B.2.2 t = some (N, f) → va_T .int t N (fun j => .int (f j)) (ev_A B) s H
def ev_G (B : ev_B) (D : ev_D) (d : Nat) (M : ev_M) (p : Program) (R : Room) (s : State) (m : MethodId) (args : Array Value) (meth : Method) (c : Code) : Prop :=
  p.tables.exec = Jvm.exec ∧ c.code = M.2.1 ∧ c.maxLocals = M.2.2.1 ∧ meth.sig.returnType = M.2.2.2 ∧ meth.locks = false ∧ s.vm.findClass M.1.cls = some m.cls ∧ meth.name = M.1.name ∧ (∀ w ∈ ev_tb, w.before args s = true) ∧ ev_K D s ∧
  d ≤ R.frames ∧ 40 * d ≤ R.locals ∧ B.1 ≤ s.heap.size ∧ ev_Z B s s.heap
/-- the locals: a place each; none: nothing is known of it -/
def ev_L (ls : List (Option Value)) (a : Array Slot) (n : Nat) : Prop := a.size = n ∧ lv_wf a ∧ ∀ (i : Nat) (v : Value), ls[i]? = some (some v) → a[i]? = some (.val v)
def ev_Q (B : ev_B) (D : ev_D) (v : Option Value) (h' : ev_H) : Array Value → State → Outcome → State → Prop := fun _ st o t => o = .returned v ∧ ev_R B D h' t.heap ∧ va_F (ev_A B) st t
def Ev (B : ev_B) (d : Nat) (M : ev_M) (pc : Nat) (ls : List (Option Value)) (st : List Value) (h : ev_H) (v : Option Value) (h' : ev_H) : Prop :=
  h.2.2 ≤ h'.2.2 ∧ ∀ (D : ev_D) (p : Program) (l : Launch) (e : Env) (R : Room) (s : State) (m : MethodId) (args : Array Value) (below : List Frame) (meth : Method) (c : Code), ev_G B D d M p R s m args meth c →
    ∀ (H : Heap) (locs : List Loc) (a : Array Slot) (cells slots : Nat), ev_R B D h H → va_S (ev_A B) s.heap H locs → ev_L ls a M.2.2.1 → cells + (h'.2.2 - h.2.2) ≤ R.cells → slots + (h'.2.2 - h.2.2) ≤ R.slots →
      W p l e R s m args below meth c H locs cells slots (MQ below (ev_Q B D v h') args s (cells + (h'.2.2 - h.2.2)) (slots + (h'.2.2 - h.2.2)) (ev_A B)) (F0 m pc a st)
def Wp (B : ev_B) (d : Nat) (M : ev_M) (pc : Nat) (ls : List (Option Value)) (st : List Value) (h : ev_H) (Q : Option Value → ev_H → Prop) : Prop := ∃ (v : Option Value) (h' : ev_H), Ev B d M pc ls st h v h' ∧ Q v h'
theorem Wp.mono {B : ev_B} {d : Nat} {M : ev_M} {pc : Nat} {ls : List (Option Value)} {st : List Value} {h : ev_H} {Q Q' : Option Value → ev_H → Prop} (k : Wp B d M pc ls st h Q) (f : ∀ v h', Q v h' → Q' v h') : Wp B d M pc ls st h Q' := by
  obtain ⟨v, h', hE, hQ⟩ := k
  exact ⟨v, h', hE, f v h' hQ⟩
theorem Wp.eqs {B : ev_B} {d : Nat} {M : ev_M} {pc pc' : Nat} {ls ls' : List (Option Value)} {st st' : List Value} {h h' : ev_H} {Q : Option Value → ev_H → Prop} (k : Wp B d M pc' ls' st' h' Q) (e1 : pc = pc') (e2 : ls = ls') (e3 : st = st') (e4 : h = h') : Wp B d M pc ls st h Q := by
  subst e1; subst e2; subst e3; subst e4; exact k
section EV
variable {B : ev_B} {d : Nat} {M : ev_M} {pc n : Nat} {ls ls' : List (Option Value)} {st st' : List Value} {h : ev_H} {Q : Option Value → ev_H → Prop}
/-- one instruction that leaves the heap -/
theorem Wp.go {pc' : Nat} (f : ∀ (D : ev_D) (p : Program) (l : Launch) (e : Env) (R : Room) (s : State) (m : MethodId) (args : Array Value) (below : List Frame) (meth : Method) (c : Code) (H : Heap) (locs : List Loc) (a : Array Slot) (cells slots : Nat) (Qf : State → Prop),
      ev_G B D d M p R s m args meth c → ev_R B D h H → va_S (ev_A B) s.heap H locs → ev_L ls a M.2.2.1 →
      (∀ a' : Array Slot, ev_L ls' a' M.2.2.1 → W p l e R s m args below meth c H locs cells slots Qf (F0 m pc' a' st')) → W p l e R s m args below meth c H locs cells slots Qf (F0 m pc a st))
    (k : Wp B d M pc' ls' st' h Q) : Wp B d M pc ls st h Q := by
  obtain ⟨v, h', ⟨hw, hE⟩, hQ⟩ := k
  refine ⟨v, h', ⟨hw, fun D p l e R s m args below meth c hG H locs a cells slots hR hS hL h1 h2 => ?_⟩, hQ⟩
  exact f D p l e R s m args below meth c H locs a cells slots _ hG hR hS hL (fun a' hL' => hE D p l e R s m args below meth c hG H locs a' cells slots hR hS hL' h1 h2)
end EV
/-! the locals -/
def ev_pr (ls : List (Option Value)) : List (Nat × Value) := (List.range ls.length).filterMap (fun i => match ls[i]? with | some (some v) => some (i, v) | _ => none)
theorem ev_pr_mem {ls : List (Option Value)} {q : Nat × Value} : q ∈ ev_pr ls ↔ ls[q.1]? = some (some q.2) := by
  unfold ev_pr
  rw [List.mem_filterMap]
  constructor
  · rintro ⟨i, hi, h⟩
    split at h
    next v hv => cases h; exact hv
    next => cases h
  · intro h
    refine ⟨q.1, List.mem_range.mpr (List.getElem?_eq_some_iff.mp h).1, ?_⟩
    rw [h]
theorem ev_L.has {ls : List (Option Value)} {a : Array Slot} {n : Nat} (h : ev_L ls a n) : lv_has a n (ev_pr ls) := ⟨h.1, h.2.1, fun q hq => h.2.2 q.1 q.2 (ev_pr_mem.mp hq)⟩
theorem ev_L.get {ls : List (Option Value)} {a : Array Slot} {n i : Nat} {v : Value} (h : ev_L ls a n) (hi : ls[i]? = some (some v)) : a[i]? = some (.val v) := h.2.2 i v hi
def ev_cl : Option Value → Option Value
  | some (.long _) => none
  | some (.double _) => none
  | some (.int x) => some (.int x)
  | some (.float x) => some (.float x)
  | some .null => some .null
  | some (.ref x) => some (.ref x)
  | some (.retAddr x) => some (.retAddr x)
  | none => none
/-- a value of one slot is stored -/
def ev_st1 : List (Option Value) → Nat → Value → List (Option Value)
  | [], _, _ => []
  | _ :: t, 0, v => some v :: t
  | x :: t, 1, v => ev_cl x :: ev_st1 t 0 v
  | x :: t, i + 2, v => x :: ev_st1 t (i + 1) v
/-- a long is stored -/
def ev_st2 : List (Option Value) → Nat → Value → List (Option Value)
  | [], _, _ => []
  | [_], 0, _ => [none]
  | _ :: _ :: t, 0, v => some v :: none :: t
  | x :: t, 1, v => ev_cl x :: ev_st2 t 0 v
  | x :: t, i + 2, v => x :: ev_st2 t (i + 1) v
theorem ev_cl_some {x : Option Value} {w : Value} (h : ev_cl x = some w) : x = some w ∧ ¬ w.category = 2 := by
  cases x with
  | none => cases h
  | some v =>
    cases v <;> simp only [ev_cl] at h <;> cases h <;> exact ⟨rfl, by simp [Value.category]⟩
theorem ev_st1_spec : ∀ (ls : List (Option Value)) (i : Nat) (v : Value) (j : Nat) (w : Value), (ev_st1 ls i v)[j]? = some (some w) → (j = i ∧ w = v) ∨ (j ≠ i ∧ ls[j]? = some (some w) ∧ ¬ (j + 1 = i ∧ w.category = 2))
  | [], _, _, j, w, h => by simp [ev_st1] at h
  | x :: t, 0, v, 0, w, h => by
    simp [ev_st1] at h
    exact Or.inl ⟨rfl, h.symm⟩
  | x :: t, 0, v, j + 1, w, h => by
    simp [ev_st1] at h
    exact Or.inr ⟨by omega, by simpa using h, by omega⟩
  | x :: t, 1, v, 0, w, h => by
    simp [ev_st1] at h
    obtain ⟨h1, h2⟩ := ev_cl_some h
    exact Or.inr ⟨by omega, by simp [h1], fun z => h2 z.2⟩
  | x :: t, 1, v, j + 1, w, h => by
    simp only [ev_st1, List.getElem?_cons_succ] at h
    rcases ev_st1_spec t 0 v j w h with ⟨a, b⟩ | ⟨a, b, c⟩
    · exact Or.inl ⟨by omega, b⟩
    · exact Or.inr ⟨by omega, by simpa using b, by omega⟩
  | x :: t, i + 2, v, 0, w, h => by
    simp [ev_st1] at h
    exact Or.inr ⟨by omega, by simp [h], by omega⟩
  | x :: t, i + 2, v, j + 1, w, h => by
    simp only [ev_st1, List.getElem?_cons_succ] at h
    rcases ev_st1_spec t (i + 1) v j w h with ⟨a, b⟩ | ⟨a, b, c⟩
    · exact Or.inl ⟨by omega, b⟩
    · exact Or.inr ⟨by omega, by simpa using b, fun z => c ⟨by omega, z.2⟩⟩
theorem ev_st2_spec : ∀ (ls : List (Option Value)) (i : Nat) (v : Value) (j : Nat) (w : Value), (ev_st2 ls i v)[j]? = some (some w) → (j = i ∧ w = v) ∨ (j ≠ i ∧ j ≠ i + 1 ∧ ls[j]? = some (some w) ∧ ¬ (j + 1 = i ∧ w.category = 2))
  | [], _, _, j, w, h => by simp [ev_st2] at h
  | [x], 0, v, j, w, h => by
    cases j <;> simp [ev_st2] at h
  | x :: y :: t, 0, v, 0, w, h => by
    simp [ev_st2] at h
    exact Or.inl ⟨rfl, h.symm⟩
  | x :: y :: t, 0, v, 1, w, h => by simp [ev_st2] at h
  | x :: y :: t, 0, v, j + 2, w, h => by
    simp [ev_st2] at h
    exact Or.inr ⟨by omega, by omega, by simpa using h, by omega⟩
  | x :: t, 1, v, 0, w, h => by
    cases t <;> simp [ev_st2] at h <;> (obtain ⟨h1, h2⟩ := ev_cl_some h; exact Or.inr ⟨by omega, by omega, by simp [h1], fun z => h2 z.2⟩)
  | x :: t, 1, v, j + 1, w, h => by
    have h' : (ev_st2 t 0 v)[j]? = some (some w) := by cases t <;> simpa [ev_st2] using h
    rcases ev_st2_spec t 0 v j w h' with ⟨a, b⟩ | ⟨a, a2, b, c⟩
    · exact Or.inl ⟨by omega, b⟩
    · exact Or.inr ⟨by omega, by omega, by simpa using b, by omega⟩
  | x :: t, i + 2, v, 0, w, h => by
    have h' : x = some w := by cases t <;> simpa [ev_st2] using h
    exact Or.inr ⟨by omega, by omega, by simp [h'], by omega⟩
  | x :: t, i + 2, v, j + 1, w, h => by
    have h' : (ev_st2 t (i + 1) v)[j]? = some (some w) := by cases t <;> simpa [ev_st2] using h
    rcases ev_st2_spec t (i + 1) v j w h' with ⟨a, b⟩ | ⟨a, a2, b, c⟩
    · exact Or.inl ⟨by omega, b⟩
    · exact Or.inr ⟨by omega, by omega, by simpa using b, fun z => c ⟨by omega, z.2⟩⟩
theorem ev_L.st1 {ls : List (Option Value)} {a : Array Slot} {n i : Nat} {v : Value} (h : lv_has a n ((i, v) :: (ev_pr ls).filter (fun q => !(q.1 == i) && !(q.1 + 1 == i && q.2.category == 2)))) : ev_L (ev_st1 ls i v) a n := by
  refine ⟨h.1, h.2.1, fun j w hj => ?_⟩
  rcases ev_st1_spec ls i v j w hj with ⟨rfl, rfl⟩ | ⟨h1, h2, h3⟩
  · exact h.2.2 (j, w) List.mem_cons_self
  · refine h.2.2 (j, w) (List.mem_cons_of_mem _ (List.mem_filter.mpr ⟨ev_pr_mem.mpr h2, ?_⟩))
    by_cases h4 : w.category = 2
    · have : ¬ j + 1 = i := fun z => h3 ⟨z, h4⟩
      simp [h1, this]
    · simp [h1, h4]
theorem ev_L.st2 {ls : List (Option Value)} {a : Array Slot} {n i : Nat} {v : Value} (h : lv_has a n ((i, v) :: (ev_pr ls).filter (fun q => !(q.1 == i) && (!(q.1 == i + 1) && !(q.1 + 1 == i && q.2.category == 2))))) : ev_L (ev_st2 ls i v) a n := by
  refine ⟨h.1, h.2.1, fun j w hj => ?_⟩
  rcases ev_st2_spec ls i v j w hj with ⟨rfl, rfl⟩ | ⟨h1, h1', h2, h3⟩
  · exact h.2.2 (j, w) List.mem_cons_self
  · refine h.2.2 (j, w) (List.mem_cons_of_mem _ (List.mem_filter.mpr ⟨ev_pr_mem.mpr h2, ?_⟩))
    by_cases h4 : w.category = 2
    · have : ¬ j + 1 = i := fun z => h3 ⟨z, h4⟩
      simp [h1, h1', this]
    · simp [h1, h1', h4]
