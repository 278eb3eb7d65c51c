/-! calls: a method's run from its entry is a contract (Met); a call takes it at its word -/
def ev_sl : List Value → List (Option Value)
  | [] => []
  | .long x :: t => some (.long x) :: none :: ev_sl t
  | .double x :: t => some (.double x) :: none :: ev_sl t
  | .int x :: t => some (.int x) :: ev_sl t
  | .float x :: t => some (.float x) :: ev_sl t
  | .null :: t => some .null :: ev_sl t
  | .ref x :: t => some (.ref x) :: ev_sl t
  | .retAddr x :: t => some (.retAddr x) :: ev_sl t
/-- the locals with which a method begins -/
def ev_en (As : List Value) (n : Nat) : List (Option Value) := ev_sl As ++ List.replicate (n - (ev_sl As).length) none
theorem ev_sl_len (As : List Value) : (ev_sl As).length = (lg_sl As).length := by
  induction As with
  | nil => rfl
  | cons v t ih =>
    have e : lg_sl (v :: t) = lg_sl [v] ++ lg_sl t := by simp [lg_sl]
    rw [e, List.length_append, ← ih]
    cases v <;> simp [ev_sl, lg_sl, Value.category] <;> omega
theorem ev_sl_args : ∀ (As : List Value) (k i : Nat) (v : Value), (ev_sl As)[i]? = some (some v) → (k + i, v) ∈ lv_args k As
  | [], k, i, v, h => by simp [ev_sl] at h
  | w :: t, k, i, v, h => by
    have one : ∀ (x : Value), x = w → x.category ≠ 2 → ev_sl (w :: t) = some w :: ev_sl t → (k + i, v) ∈ lv_args k (w :: t) := by
      intro x hx hc he
      subst hx
      rw [he] at h
      show (k + i, v) ∈ (k, x) :: lv_args (if x.category = 2 then k + 2 else k + 1) t
      rw [if_neg hc]
      cases i with
      | zero => simp at h; subst h; exact List.mem_cons_self
      | succ i =>
        have := ev_sl_args t (k + 1) i v (by simpa using h)
        rw [show k + 1 + i = k + (i + 1) by omega] at this
        exact List.mem_cons_of_mem _ this
    have two : ∀ (x : Value), x = w → x.category = 2 → ev_sl (w :: t) = some w :: none :: ev_sl t → (k + i, v) ∈ lv_args k (w :: t) := by
      intro x hx hc he
      subst hx
      rw [he] at h
      show (k + i, v) ∈ (k, x) :: lv_args (if x.category = 2 then k + 2 else k + 1) t
      rw [if_pos hc]
      cases i with
      | zero => simp at h; subst h; exact List.mem_cons_self
      | succ i =>
        cases i with
        | zero => simp at h
        | succ i =>
          have := ev_sl_args t (k + 2) i v (by simpa using h)
          rw [show k + 2 + i = k + (i + 1 + 1) by omega] at this
          exact List.mem_cons_of_mem _ this
    cases hw : w with
    | long x => rw [← hw]; exact two w rfl (by rw [hw]; rfl) (by rw [hw]; rfl)
    | double x => rw [← hw]; exact two w rfl (by rw [hw]; rfl) (by rw [hw]; rfl)
    | int x => rw [← hw]; exact one w rfl (by rw [hw]; exact (show ¬ (1 : Nat) = 2 by decide)) (by rw [hw]; rfl)
    | float x => rw [← hw]; exact one w rfl (by rw [hw]; exact (show ¬ (1 : Nat) = 2 by decide)) (by rw [hw]; rfl)
    | null => rw [← hw]; exact one w rfl (by rw [hw]; exact (show ¬ (1 : Nat) = 2 by decide)) (by rw [hw]; rfl)
    | ref x => rw [← hw]; exact one w rfl (by rw [hw]; exact (show ¬ (1 : Nat) = 2 by decide)) (by rw [hw]; rfl)
    | retAddr x => rw [← hw]; exact one w rfl (by rw [hw]; exact (show ¬ (1 : Nat) = 2 by decide)) (by rw [hw]; rfl)
theorem ev_en_L {As : List Value} {n : Nat} {a : Array Slot} (h : lv_has a n (lv_args 0 As)) : ev_L (ev_en As n) a n := by
  refine ⟨h.1, h.2.1, fun i v hi => ?_⟩
  unfold ev_en at hi
  by_cases hl : i < (ev_sl As).length
  · rw [List.getElem?_append_left hl] at hi
    have := h.2.2 _ (ev_sl_args As 0 i v hi)
    rw [Nat.zero_add] at this
    exact this
  · rw [List.getElem?_append_right (by omega)] at hi
    have := List.eq_of_mem_replicate (List.mem_of_getElem? hi)
    cases this
/-- what a method must have to be called: its code among the words, room for its locals -/
def ev_okM (M : ev_M) (n : Nat) : Prop := plainName M.1.cls = true ∧ M.2.2.1 ≤ 21 ∧ Cond.code M.1 M.2.1 M.2.2.1 M.2.2.2 ∈ ev_tb ∧ Cond.initialized M.1.cls ∈ ev_tb ∧ (M.1.cls ≠ "java/lang/invoke/MethodHandle" ∧ M.1.cls ≠ "java/lang/invoke/VarHandle") ∧ (parseMethodDescriptor M.1.desc).map (fun d => d.parameters.length) = some n
abbrev ev_ws (M : ev_M) : List Cond := Cond.code M.1 M.2.1 M.2.2.1 M.2.2.2 :: ev_tb
abbrev ev_rm (d w : Nat) : Room := { frames := d, cells := w, slots := w, locals := 40 * d }
def ev_P (B : ev_B) (D : ev_D) (h : ev_H) (As : List Value) : Array Value → State → Prop := fun av U => av = As.toArray ∧ ev_R B D h U.heap ∧ ev_K D U ∧ B.1 ≤ U.heap.size ∧ ev_Z B U U.heap
theorem ev_good {w : Cond} (h : w ∈ ev_tb) : (w.onTables && w.keeps) = true ∨ ∃ ty, w = .arrayClass ty := good_of_word (List.mem_filter.mp h).2
theorem ev_gin {ws : List Cond} (h : ∀ w ∈ ws, w ∈ ev_tb) : GoodIn ev_tb ws := fun w hw => ⟨h w hw, ev_good (h w hw)⟩
theorem ev_met {B : ev_B} {d n : Nat} {M : ev_M} {As : List Value} {h h' : ev_H} {v : Option Value} (hE : Ev B d M 0 (ev_en As M.2.2.1) [] h v h') (hok : ev_okM M n) (hlen : (ev_sl As).length ≤ M.2.2.1) (l : Launch) (D : ev_D) :
    Met l M.1 (ev_ws M) (ev_rm d (h'.2.2 - h.2.2)) (ev_P B D h As) (ev_Q B D v h') (h'.2.2 - h.2.2) (h'.2.2 - h.2.2) (ev_A B) := by
  refine Met.ofW (cc := M.2.1) (maxL := M.2.2.1) (ret := M.2.2.2) hok.1 rfl ?_
  intro p e s m args below meth c s₁ BL hml hv
  obtain ⟨rfl, hR, hK, hB, hZ⟩ := hv
  have hts := atoms_spec (ws := ev_ws M) BL.pre
  have hl := lv_entry As (n := M.2.2.1) (by rw [← ev_sl_len]; exact hlen)
  rw [lg_entry_eq]
  generalize (lg_sl As ++ List.replicate (M.2.2.1 - (lg_sl As).length) Slot.unset).toArray = a at hl ⊢
  have key := hE.2 D p l e (ev_rm d (h'.2.2 - h.2.2)) s m As.toArray below meth c ⟨BL.exec, BL.bytes, hml, BL.returns, BL.notSynchronized, findClass_of_methodNamed BL.named, (name_of_methodNamed BL.named BL.method).1, fun w hw => hts w (List.mem_cons_of_mem _ hw), hK, Nat.le_refl _, Nat.le_refl _, hB, hZ⟩
    s.heap [] a 0 0 hR va_S.rf (ev_en_L hl) (by show 0 + _ ≤ h'.2.2 - h.2.2; omega) (by show 0 + _ ≤ h'.2.2 - h.2.2; omega)
  rw [Nat.zero_add] at key
  exact key
theorem ev_K.moved {D : ev_D} {s U : State} (hW : s.WarmedH U.vm) (h : ev_K D s) : ev_K D U := by
  have ha := hW.alike
  obtain ⟨h1, h2, h3, h4, h5, h6, h7⟩ := h
  refine ⟨va_K.moved ha h1, fun t ht => ⟨arrOfT_moved ha (h2 t ht).1, (h2 t ht).2.moved ha⟩, fun w hw => ?_, ⟨h4.1.moved ha, h4.2.1.moved ha, h4.2.2.moved ha⟩, h5.moved ha, h6.moved ha, fun C hC => ?_⟩
  · have h8 := h3 w hw
    have h9 := (List.mem_filter.mp hw).2
    cases w <;> first | exact va_Nw.warmM hW h8 | exact va_Nw.warmD hW h8 | (simp at h9)
  · obtain ⟨c, t, e1, e2, e3⟩ := h7 C hC
    exact ⟨c, t, by rw [ha.findClass]; exact e1, by rw [ha.findClass]; exact e2, by rw [ha.assignable]; exact e3⟩
theorem ev_K.same {D : ev_D} {s U : State} (hv : s.vm = U.vm) (h : ev_K D s) : ev_K D U := by
  have ha : s.vm.Alike U.vm := by rw [hv]; exact Vm.Alike.refl _
  obtain ⟨h1, h2, h3, h4, h5, h6, h7⟩ := h
  refine ⟨va_K.moved ha h1, fun t ht => ⟨arrOfT_moved ha (h2 t ht).1, (h2 t ht).2.moved ha⟩, fun w hw => ?_, ⟨h4.1.moved ha, h4.2.1.moved ha, h4.2.2.moved ha⟩, h5.moved ha, h6.moved ha, fun C hC => ?_⟩
  · have h8 := h3 w hw
    have h9 := (List.mem_filter.mp hw).2
    cases w <;> first | exact va_Nw.same rfl hv h8 | (simp at h9)
  · obtain ⟨c, t, e1, e2, e3⟩ := h7 C hC
    exact ⟨c, t, by rw [ha.findClass]; exact e1, by rw [ha.findClass]; exact e2, by rw [ha.assignable]; exact e3⟩
theorem ev_Z.moved {B : ev_B} {s U : State} {H : Heap} (ha : s.vm.Alike U.vm) (h : ev_Z B s H) : ev_Z B U H := ⟨va_Z.moved ha h.1, va_Z.moved ha h.2.1, fun t N f hf => va_T.moved ha (h.2.2 t N f hf)⟩
theorem ev_Z.kept {B : ev_B} {s : State} {H H1 : Heap} (h : ev_Z B s H) (hq : ∀ a : Nat, a < H.size → ¬ ev_A B a → H1[a]? = H[a]?) : ev_Z B s H1 := ⟨va_Z.kept h.1 hq, va_Z.kept h.2.1 hq, fun t N f hf => va_T.kept (h.2.2 t N f hf) hq⟩
theorem ev_blind {B : ev_B} {D : ev_D} {h : ev_H} {As : List Value} : FrameBlind (ev_P B D h As) := by
  intro a U g mk q
  obtain ⟨h1, h2, h3, h4, h5⟩ := q
  exact ⟨h1, h2, ev_K.same (s := U) (U := U.calling g mk a) rfl h3, h4, ev_Z.moved (U := U.calling g mk a) (Vm.Alike.refl U.vm) h5⟩
/-- the callee's start, out of the caller's state -/
theorem ev_pre {B : ev_B} {D : ev_D} {d : Nat} {M : ev_M} {p : Program} {R : Room} {s : State} {m : MethodId} {args : Array Value} {meth : Method} {c : Code} {h : ev_H} {H : Heap} {locs : List Loc} {As : List Value} (hG : ev_G B D d M p R s m args meth c) (hR : ev_R B D h H) (hS : va_S (ev_A B) s.heap H locs) :
    ∀ U : State, U.heap = H → s.WarmedH U.vm → ev_P B D h As As.toArray U := by
  obtain ⟨-, -, -, -, -, -, -, -, hK, -, -, hB, hZ⟩ := hG
  intro U hU hW
  refine ⟨rfl, by rw [hU]; exact hR, hK.moved hW, by rw [hU]; exact Nat.le_trans hB hS.1, ?_⟩
  rw [hU]
  exact (hZ.kept (fun a h1 h2 => hS.2.1 a h1 h2)).moved hW.alike
section EVC
variable {B : ev_B} {d : Nat} {M : ev_M} {pc n : Nat} {ls ls' : List (Option Value)} {st st' : List Value} {h : ev_H} {Q : Option Value → ev_H → Prop}
/-- a call, however it is linked: 'run' is the kit's row for it -/
theorem Wp.callG {dc k : Nat} {N : ev_M} {As rest : List Value} {Qc : Option Value → ev_H → Prop} (hlt : dc + 1 ≤ d) (hok : ev_okM N k) (hlen : (ev_sl As).length ≤ N.2.2.1) (hc : Wp B dc N 0 (ev_en As N.2.2.1) [] h Qc)
    (run : ∀ (D : ev_D) (p : Program) (l : Launch) (e : Env) (R : Room) (s : State) (m : MethodId) (args : Array Value) (below : List Frame) (meth : Method) (c : Code) (H : Heap) (locs : List Loc) (a : Array Slot) (cells slots w : Nat) (Pc : Array Value → State → Prop) (Qq : Array Value → State → Outcome → State → Prop),
      ev_G B D d M p R s m args meth c → ev_R B D h H → a.size = M.2.2.1 → Met l N.1 (ev_ws N) (ev_rm dc w) Pc Qq w w (ev_A B) → FrameBlind Pc → (∀ U : State, U.heap = H → s.WarmedH U.vm → Pc As.toArray U) →
      (ev_rm dc w).frames + 1 ≤ R.frames ∧ 8 + (N.2.2.1 + 11) + (ev_rm dc w).locals ≤ R.locals → cells + w ≤ R.cells ∧ slots + w ≤ R.slots →
      va_Run p l e R s m args below meth c H locs cells slots w w (F0 m pc a st) rest (Qq As.toArray) (ev_A B))
    (hn : pc + 3 = n) (kk : ∀ (v : Option Value) (h1 : ev_H), Qc v h1 → Wp B d M n ls (v.toList ++ rest) h1 Q) : Wp B d M pc ls st h Q := by
  subst hn
  obtain ⟨v1, h1, hE, hQ⟩ := hc
  obtain ⟨v, h', ⟨hw, hE2⟩, hQ2⟩ := kk v1 h1 hQ
  have hw1 := hE.1
  refine ⟨v, h', ⟨by omega, fun D p l e R s m args below meth c hG H locs a cells slots hR hS hL hc1 hc2 => ?_⟩, hQ2⟩
  have hM := ev_met hE hok hlen l D
  have hG' := hG
  obtain ⟨-, -, -, -, -, -, -, -, -, hfr, hlo, -⟩ := hG'
  have hN := hok.2.1
  have hr := run D p l e R s m args below meth c H locs a cells slots (h1.2.2 - h.2.2) _ _ hG hR hL.1 hM ev_blind (ev_pre hG hR hS) ⟨by show dc + 1 ≤ _; omega, by show 8 + (N.2.2.1 + 11) + 40 * dc ≤ _; omega⟩ ⟨by omega, by omega⟩
  intro T hT X
  obtain ⟨v0, st₀, t, T', L, h0, X', hL', e1, e2, ⟨hv, hR1, hF⟩, stp⟩ := hr T hT X
  cases hv
  have hS1 : va_S (ev_A B) s.heap T'.heap (locs ++ L) := by
    rw [e1]
    refine ⟨Nat.le_trans hS.1 (by rw [← h0]; exact hF.1), fun q g1 g2 => ?_, fun q hq => ?_⟩
    · rw [hF.2 q (by rw [h0]; exact Nat.lt_of_lt_of_le g1 hS.1) g2, h0]
      exact hS.2.1 q g1 g2
    · rcases List.mem_append.mp hq with z | z
      · exact hS.2.2 q z
      · exact hL' q z
  have key := hE2 D p l e R s m args below meth c hG T'.heap (locs ++ L) a (cells + (h1.2.2 - h.2.2)) (slots + (h1.2.2 - h.2.2)) (by rw [e1]; exact hR1) hS1 hL (by omega) (by omega)
  have ee1 : cells + (h'.2.2 - h.2.2) = (cells + (h1.2.2 - h.2.2)) + (h'.2.2 - h1.2.2) := by omega
  have ee2 : slots + (h'.2.2 - h.2.2) = (slots + (h1.2.2 - h.2.2)) + (h'.2.2 - h1.2.2) := by omega
  rw [ee1, ee2]
  obtain ⟨t2, a1, b1⟩ := key T' rfl X'
  exact ⟨t2, stp t2 a1, b1⟩
/-- an instance method, or a private one: the receiver's class declares it -/
def ev_CV (own : String) (idx ci : Nat) (N : ev_M) (k : Nat) : Prop := ev_okM N k ∧ (∃ (T : u_T) (nn : Nat), vwCl[ci]? = some (N.1.cls, T, nn)) ∧ Cond.methodLink own idx N.1 ∈ ev_tb ∧ Cond.instanceMethod N.1 ∈ ev_tb ∧ Cond.selects N.1.cls N.1 N.1 ∈ ev_tb
/-- an instance method named through a class above, or one that overrides -/
def ev_CU (own : String) (idx ci : Nat) (N : ev_M) (k : Nat) : Prop := ev_okM N k ∧ ∃ (C owner : String) (x : MethodName) (T : u_T) (nn : Nat), vwCl[ci]? = some (C, T, nn) ∧ Cond.methodLink own idx x ∈ ev_tb ∧ Cond.sameMethod x.cls owner x.name x.desc ∈ ev_tb ∧ Cond.selects C x N.1 ∈ ev_tb ∧ Cond.instanceMethod N.1 ∈ ev_tb ∧
  (owner ≠ "java/lang/invoke/MethodHandle" ∧ owner ≠ "java/lang/invoke/VarHandle") ∧ (parseMethodDescriptor x.desc).map (fun d => d.parameters.length) = some k ∧ (N.1 = ⟨owner, x.name, x.desc⟩ ∨ Cond.declares ⟨owner, x.name, x.desc⟩ ∈ ev_nest)
def ev_CS (own : String) (idx : Nat) (N : ev_M) (k : Nat) : Prop := ev_okM N k ∧ Cond.methodLink own idx N.1 ∈ ev_tb ∧ Cond.static N.1 ∈ ev_tb
def ev_CSN (own : String) (idx : Nat) (N : ev_M) (k : Nat) : Prop := ev_okM N k ∧ (∃ host : String, Cond.methodLinkNest own idx N.1 host ∈ ev_nest) ∧ Cond.static N.1 ∈ ev_tb
def ev_CI (own : String) (idx : Nat) (N : ev_M) (k : Nat) : Prop := ev_okM N k ∧ Cond.methodLink own idx N.1 ∈ ev_tb ∧ Cond.instanceMethod N.1 ∈ ev_tb ∧ N.1.name = "<init>" ∧ N.2.2.2 = none
def ev_CIN (own : String) (idx : Nat) (N : ev_M) (k : Nat) : Prop := ev_okM N k ∧ (∃ host : String, Cond.methodLinkNest own idx N.1 host ∈ ev_nest) ∧ Cond.instanceMethod N.1 ∈ ev_tb ∧ N.1.name = "<init>" ∧ N.2.2.2 = none
theorem ev_B0 {own : String} {idx k w dc : Nat} {N : ev_M} {R : Room} {s : State} {args : Array Value} (hok : ev_okM N k) (hts : ∀ x ∈ ev_tb, x.before args s = true) (hl : (Cond.methodLink own idx N.1).before args s = true) (hR : (ev_rm dc w).frames + 1 ≤ R.frames ∧ 8 + (N.2.2.1 + 11) + (ev_rm dc w).locals ≤ R.locals) :
    CallB R s args own idx N.1 N.2.1 N.2.2.1 N.2.2.2 (ev_ws N) (ev_rm dc w) w w k :=
  callB_of k hts (ev_gin (fun x hx => (List.mem_cons.mp hx).elim (fun e => by rw [e]; exact hok.2.2.1) (fun e => e))) rfl rfl rfl (hts _ hok.2.2.2.1) hl ⟨hok.2.2.2.2.1.1, hok.2.2.2.2.1.2, hok.2.2.2.2.2⟩ hR
theorem ev_pay {N : ev_M} {k : Nat} {s : State} {args : Array Value} (hok : ev_okM N k) (hts : ∀ x ∈ ev_tb, x.before args s = true) : ∀ w ∈ ev_ws N, ∀ (a' : Array Value) (U : State), s.WarmedH U.vm → w.before a' U = true :=
  pay_in hts (ev_gin (fun x hx => (List.mem_cons.mp hx).elim (fun e => by rw [e]; exact hok.2.2.1) (fun e => e)))
theorem ev_kl {N : ev_M} {k : Nat} (hok : ev_okM N k) : ∀ sig, parseMethodDescriptor N.1.desc = some sig → k = sig.parameters.length := by
  intro sig hs
  have h2 := hok.2.2.2.2.2
  rw [hs] at h2
  exact (Option.some.inj h2).symm
theorem Wp.callV {dc k idx ci b : Nat} {N : ev_M} {V : Nat → Value} {As rest : List Value} {Qc : Option Value → ev_H → Prop} (hd : decode M.2.1 pc = .ok (.invokevirtual idx, 3)) (hL : ev_CV M.1.cls idx ci N k) (hst : st = As.reverse ++ .ref b :: rest) (hlt : dc + 1 ≤ d) (hk : As.length = k) (hlen : (ev_sl (.ref b :: As)).length ≤ N.2.2.1) (hrest : (rest.map fun v => v.category).sum ≤ 8) (hb : h.1 b = some (ev_ob ci V)) (hn : pc + 3 = n) (hc : Wp B dc N 0 (ev_en (.ref b :: As) N.2.2.1) [] h Qc)
    (kk : ∀ (v : Option Value) (h1 : ev_H), Qc v h1 → Wp B d M n ls (v.toList ++ rest) h1 Q) : Wp B d M pc ls st h Q := by
  obtain ⟨hok, ⟨TT, nn, hci⟩, hl, hin, hsel⟩ := hL
  refine Wp.callG hlt hok hlen hc (fun D p l e R s m args below meth c H locs a cells slots w Pc Qq hG hR hsz hM hbl hpre hroom hf => ?_) hn kk
  have hrecv := ev_recv hG.2.2.2.2.2.2.2.2.1 hR hb hci
  obtain ⟨hx, hbb, hml, -, -, hown, hname, hts, hK, -⟩ := hG
  exact va_runV (C := N.1.cls) (As := As) (rest := rest) (n := k) ⟨hx, hbb, hml, hown, hts⟩ hM ⟨ev_B0 hok hts (hts _ hl) hroom, hts _ hin, hts _ hsel⟩ ⟨hbl, hrecv, hpre⟩ rfl hk hsz (by rw [hst]) (by show 2 * 0 + _ ≤ 8; omega) hd hf
theorem Wp.callU {dc k idx ci b : Nat} {N : ev_M} {V : Nat → Value} {As rest : List Value} {Qc : Option Value → ev_H → Prop} (hd : decode M.2.1 pc = .ok (.invokevirtual idx, 3)) (hL : ev_CU M.1.cls idx ci N k) (hst : st = As.reverse ++ .ref b :: rest) (hlt : dc + 1 ≤ d) (hk : As.length = k) (hlen : (ev_sl (.ref b :: As)).length ≤ N.2.2.1) (hrest : (rest.map fun v => v.category).sum ≤ 8) (hb : h.1 b = some (ev_ob ci V)) (hn : pc + 3 = n) (hc : Wp B dc N 0 (ev_en (.ref b :: As) N.2.2.1) [] h Qc)
    (kk : ∀ (v : Option Value) (h1 : ev_H), Qc v h1 → Wp B d M n ls (v.toList ++ rest) h1 Q) : Wp B d M pc ls st h Q := by
  obtain ⟨hok, C, owner, x, TT, nn, hci, hl, hsame, hsel, hin, hmh, hpar, hdec⟩ := hL
  refine Wp.callG hlt hok hlen hc (fun D p l e R s m args below meth c H locs a cells slots w Pc Qq hG hR hsz hM hbl hpre hroom hf => ?_) hn kk
  have hrecv := ev_recv hG.2.2.2.2.2.2.2.2.1 hR hb hci
  obtain ⟨hx, hbb, hml, -, -, hown, hname, hts, hK, -⟩ := hG
  have hcode := hok.2.2.1
  have hdd : va_Decl s ⟨owner, x.name, x.desc⟩ := by
    rcases hdec with e | e
    · rw [← e]; exact va_Decl.of (hts _ hin) (hts _ hcode)
    · exact va_Decl.abs (hK.2.2.1 _ e)
  refine va_runU (C := C) (owner := owner) (x := x) (As := As) (rest := rest) (n := k) ⟨hx, hbb, hml, hown, hts⟩ hM ⟨⟨rfl, rfl, hroom.1, hroom.2, ev_pay hok hts, List.mem_cons_self⟩, hts _ hcode, hts _ hok.2.2.2.1, hmh, ?_, hts _ hl, hts _ hsame, hdd, hts _ hsel, hts _ hin⟩ ⟨hbl, hrecv, hpre⟩ rfl hk hsz (by rw [hst]) (by show 2 * 0 + _ ≤ 8; omega) hd hf
  intro sig hs
  rw [hs] at hpar
  exact (Option.some.inj hpar).symm
theorem Wp.callS {dc k idx : Nat} {N : ev_M} {As rest : List Value} {Qc : Option Value → ev_H → Prop} (hd : decode M.2.1 pc = .ok (.invokestatic idx, 3)) (hL : ev_CS M.1.cls idx N k) (hst : st = As.reverse ++ rest) (hlt : dc + 1 ≤ d) (hk : As.length = k) (hlen : (ev_sl As).length ≤ N.2.2.1) (hrest : (rest.map fun v => v.category).sum ≤ 8) (hn : pc + 3 = n) (hc : Wp B dc N 0 (ev_en As N.2.2.1) [] h Qc)
    (kk : ∀ (v : Option Value) (h1 : ev_H), Qc v h1 → Wp B d M n ls (v.toList ++ rest) h1 Q) : Wp B d M pc ls st h Q := by
  obtain ⟨hok, hl, hstat⟩ := hL
  refine Wp.callG hlt hok hlen hc (fun D p l e R s m args below meth c H locs a cells slots w Pc Qq hG hR hsz hM hbl hpre hroom hf => ?_) hn kk
  obtain ⟨hx, hbb, hml, -, -, hown, hname, hts, hK, -⟩ := hG
  exact va_runS (As := As) (rest := rest) (n := k) ⟨hx, hbb, hml, hown, hts⟩ hM ⟨ev_B0 hok hts (hts _ hl) hroom, hts _ hstat⟩ ⟨hbl, hpre⟩ rfl hk hsz (by rw [hst]) (by show 2 * 0 + _ ≤ 8; omega) hd hf
theorem Wp.callSN {dc k idx : Nat} {N : ev_M} {As rest : List Value} {Qc : Option Value → ev_H → Prop} (hd : decode M.2.1 pc = .ok (.invokestatic idx, 3)) (hL : ev_CSN M.1.cls idx N k) (hst : st = As.reverse ++ rest) (hlt : dc + 1 ≤ d) (hk : As.length = k) (hlen : (ev_sl As).length ≤ N.2.2.1) (hrest : (rest.map fun v => v.category).sum ≤ 8) (hn : pc + 3 = n) (hc : Wp B dc N 0 (ev_en As N.2.2.1) [] h Qc)
    (kk : ∀ (v : Option Value) (h1 : ev_H), Qc v h1 → Wp B d M n ls (v.toList ++ rest) h1 Q) : Wp B d M pc ls st h Q := by
  obtain ⟨hok, ⟨host, hl⟩, hstat⟩ := hL
  refine Wp.callG hlt hok hlen hc (fun D p l e R s m args below meth c H locs a cells slots w Pc Qq hG hR hsz hM hbl hpre hroom hf => ?_) hn kk
  obtain ⟨hx, hbb, hml, -, -, hown, hname, hts, hK, -⟩ := hG
  exact va_runSN (host := host) (As := As) (rest := rest) (n := k) ⟨hx, hbb, hml, hown, hts⟩ hM ⟨⟨⟨rfl, rfl, hroom.1, hroom.2, ev_pay hok hts, List.mem_cons_self⟩, hts _ hok.2.2.1, hts _ hok.2.2.2.1, hok.2.2.2.2.1, ev_kl hok, va_Nw.use rfl (hK.2.2.1 _ hl)⟩, hts _ hstat, trivial⟩ ⟨hbl, hpre⟩ rfl hk hsz (by rw [hst]) (by show 2 * 0 + _ ≤ 8; omega) hd hf
theorem Wp.callI {dc k idx b : Nat} {N : ev_M} {As rest : List Value} {Qc : Option Value → ev_H → Prop} (hd : decode M.2.1 pc = .ok (.invokespecial idx, 3)) (hL : ev_CI M.1.cls idx N k) (hst : st = As.reverse ++ .ref b :: rest) (hlt : dc + 1 ≤ d) (hk : As.length = k) (hlen : (ev_sl (.ref b :: As)).length ≤ N.2.2.1) (hrest : (rest.map fun v => v.category).sum ≤ 8) (hn : pc + 3 = n) (hc : Wp B dc N 0 (ev_en (.ref b :: As) N.2.2.1) [] h Qc)
    (kk : ∀ (v : Option Value) (h1 : ev_H), Qc v h1 → Wp B d M n ls (v.toList ++ rest) h1 Q) : Wp B d M pc ls st h Q := by
  obtain ⟨hok, hl, hin, hnm, hret⟩ := hL
  refine Wp.callG hlt hok hlen hc (fun D p l e R s m args below meth c H locs a cells slots w Pc Qq hG hR hsz hM hbl hpre hroom hf => ?_) hn kk
  obtain ⟨hx, hbb, hml, -, -, hown, hname, hts, hK, -⟩ := hG
  have hB0 := ev_B0 hok hts (hts _ hl) hroom
  rw [hret] at hB0
  exact va_runI (As := As) (rest := rest) (n := k) ⟨hx, hbb, hml, hown, hts⟩ hM ⟨hB0, hnm, hts _ hin⟩ ⟨hbl, hpre⟩ rfl hk hsz (by rw [hst]) (by show 2 * 0 + _ ≤ 8; omega) hd hf
theorem Wp.callIN {dc k idx b : Nat} {N : ev_M} {As rest : List Value} {Qc : Option Value → ev_H → Prop} (hd : decode M.2.1 pc = .ok (.invokespecial idx, 3)) (hL : ev_CIN M.1.cls idx N k) (hst : st = As.reverse ++ .ref b :: rest) (hlt : dc + 1 ≤ d) (hk : As.length = k) (hlen : (ev_sl (.ref b :: As)).length ≤ N.2.2.1) (hrest : (rest.map fun v => v.category).sum ≤ 8) (hn : pc + 3 = n) (hc : Wp B dc N 0 (ev_en (.ref b :: As) N.2.2.1) [] h Qc)
    (kk : ∀ (v : Option Value) (h1 : ev_H), Qc v h1 → Wp B d M n ls (v.toList ++ rest) h1 Q) : Wp B d M pc ls st h Q := by
  obtain ⟨hok, ⟨host, hl⟩, hin, hnm, hret⟩ := hL
  refine Wp.callG hlt hok hlen hc (fun D p l e R s m args below meth c H locs a cells slots w Pc Qq hG hR hsz hM hbl hpre hroom hf => ?_) hn kk
  obtain ⟨hx, hbb, hml, -, -, hown, hname, hts, hK, -⟩ := hG
  have hcode := hts _ hok.2.2.1
  have hmem : Cond.code N.1 N.2.1 N.2.2.1 none ∈ ev_ws N := by rw [← hret]; exact List.mem_cons_self
  rw [hret] at hcode
  exact va_runIN (host := host) (As := As) (rest := rest) (n := k) ⟨hx, hbb, hml, hown, hts⟩ hM ⟨⟨⟨rfl, rfl, hroom.1, hroom.2, ev_pay hok hts, hmem⟩, hcode, hts _ hok.2.2.2.1, hok.2.2.2.2.1, ev_kl hok, va_Nw.use rfl (hK.2.2.1 _ hl)⟩, hnm, hts _ hin⟩ ⟨hbl, hpre⟩ rfl hk hsz (by rw [hst]) (by show 2 * 0 + _ ≤ 8; omega) hd hf
/-- Object's own constructor -/
theorem Wp.objInit {idx b : Nat} (hd : decode M.2.1 pc = .ok (.invokespecial idx, 3)) (hl : Cond.methodLink M.1.cls idx Lib.objectInit ∈ ev_tb) (hd1 : 1 ≤ d) (hrest : (st.map fun v => v.category).sum ≤ 8) (hn : pc + 3 = n) (k : Wp B d M n ls st h Q) : Wp B d M pc ls (.ref b :: st) h Q := by
  subst hn
  refine Wp.go (fun D p l e R s m args below meth c H locs sl cells slots Qf hG hR hS hL kk => ?_) k
  obtain ⟨hx, hbb, hml, -, -, hown, hname, hts, hK, hfr, hlo, -⟩ := hG
  exact W.objInit hx hbb hown (hts _ hl) (hts _ (ev_mem (by decide +kernel) rfl)) (hts _ (ev_mem (by decide +kernel) rfl)) rfl (by rw [hml]; exact hL.1) rfl hd (by omega) (by show 2 * 0 + _ + 12 ≤ _; omega) (kk _ hL)
end EVC
