/-! rows that read or write the heap -/
def ev_up (h : ev_H) (a : Nat) (e : ev_E) : ev_H := (fun q => if q = a then some e else h.1 q, h.2)
def ev_nw (h : ev_H) (e : ev_E) (k : Nat) : ev_H := (fun q => if q = h.2.1 then some e else h.1 q, h.2.1 + 1, h.2.2 + (k + 1))
theorem ev_up_s {h : ev_H} {a : Nat} {e : ev_E} : (ev_up h a e).1 a = some e := by simp [ev_up]
theorem ev_up_o {h : ev_H} {a b : Nat} {e : ev_E} (hb : b ≠ a) : (ev_up h a e).1 b = h.1 b := by simp [ev_up, hb]
theorem ev_up_w {h : ev_H} {a : Nat} {e : ev_E} : (ev_up h a e).2 = h.2 := rfl
theorem ev_nw_s {h : ev_H} {k : Nat} {e : ev_E} : (ev_nw h e k).1 h.2.1 = some e := by simp [ev_nw]
theorem ev_nw_o {h : ev_H} {b k : Nat} {e : ev_E} (hb : b ≠ h.2.1) : (ev_nw h e k).1 b = h.1 b := by simp [ev_nw, hb]
theorem ev_nw_n {h : ev_H} {k : Nat} {e : ev_E} : (ev_nw h e k).2.1 = h.2.1 + 1 := rfl
theorem ev_nw_w {h : ev_H} {k : Nat} {e : ev_E} : (ev_nw h e k).2.2 = h.2.2 + (k + 1) := rfl
/-- an int array, a long array, an array of references, an object -/
abbrev ev_ia (N : Nat) (f : Nat → Int32) : ev_E := .inl (0, N, .inl f)
abbrev ev_la (N : Nat) (f : Nat → Int64) : ev_E := .inl (1, N, .inr (.inl f))
abbrev ev_qa (t N : Nat) (f : Nat → Option Nat) : ev_E := .inl (t, N, .inr (.inr (.inr (.inr f))))
abbrev ev_ob (ci : Nat) (V : Nat → Value) : ev_E := .inr (ci, V)
theorem ev_at.kept {D : ev_D} {a : Nat} {e : ev_E} {H H1 : Heap} (h : ev_at D a e H) (hq : H1[a]? = H[a]?) : ev_at D a e H1 := by
  cases e with
  | inl x => exact hq.trans h
  | inr o =>
    obtain ⟨r, h1, h2⟩ := h
    exact ⟨r, h1, h2.kept hq⟩
theorem ev_at.lt {D : ev_D} {a : Nat} {e : ev_E} {H : Heap} (h : ev_at D a e H) : a < H.size := by
  cases e with
  | inl x => exact (Array.getElem?_eq_some_iff.mp h).1
  | inr o =>
    obtain ⟨r, h1, cell, h2, -⟩ := h
    exact (Array.getElem?_eq_some_iff.mp h2).1
theorem ev_R.up {B : ev_B} {D : ev_D} {h : ev_H} {H H1 : Heap} {a : Nat} {e0 e : ev_E} (hR : ev_R B D h H) (ha : h.1 a = some e0) (z : H1.size = H.size) (he : ev_at D a e H1) (oq : ∀ q : Nat, q ≠ a → H1[q]? = H[q]?) : ev_R B D (ev_up h a e) H1 := by
  refine ⟨z.trans hR.1, fun b x hx => ?_⟩
  by_cases hb : b = a
  · subst hb
    rw [ev_up_s] at hx
    cases hx
    exact ⟨(hR.2 _ _ ha).1, he⟩
  · rw [ev_up_o hb] at hx
    exact ⟨(hR.2 _ _ hx).1, (hR.2 _ _ hx).2.kept (oq b hb)⟩
theorem ev_R.nw {B : ev_B} {D : ev_D} {h : ev_H} {H H1 : Heap} {k : Nat} {e : ev_E} (hR : ev_R B D h H) (hb : B.1 ≤ H.size) (z : H1.size = H.size + 1) (he : ev_at D H.size e H1) (oq : ∀ q : Nat, q < H.size → H1[q]? = H[q]?) : ev_R B D (ev_nw h e k) H1 := by
  refine ⟨by rw [z, hR.1]; rfl, fun b x hx => ?_⟩
  by_cases hb' : b = h.2.1
  · subst hb'
    rw [ev_nw_s] at hx
    cases hx
    rw [← hR.1]
    exact ⟨hb, he⟩
  · rw [ev_nw_o hb'] at hx
    exact ⟨(hR.2 _ _ hx).1, (hR.2 _ _ hx).2.kept (oq b (hR.2 _ _ hx).2.lt)⟩
theorem ev_S.put {B : ev_B} {D : ev_D} {h : ev_H} {H0 H H1 : Heap} {locs : List Loc} {a k : Nat} {e0 : ev_E} (hS : va_S (ev_A B) H0 H locs) (hR : ev_R B D h H) (ha : h.1 a = some e0) (z : H1.size = H.size) (oq : ∀ q : Nat, q ≠ a → H1[q]? = H[q]?) : va_S (ev_A B) H0 H1 (locs ++ [⟨a, k⟩]) := hS.put z oq (hR.2 _ _ ha).1
theorem ev_S.nw {B : ev_B} {H0 H H1 : Heap} {locs : List Loc} (hS : va_S (ev_A B) H0 H locs) (z : H1.size = H.size + 1) (oq : ∀ q : Nat, q < H.size → H1[q]? = H[q]?) : va_S (ev_A B) H0 H1 locs :=
  ⟨Nat.le_trans hS.1 (by omega), fun x h1 h2 => (oq x (Nat.lt_of_lt_of_le h1 hS.1)).trans (hS.2.1 x h1 h2), hS.2.2⟩
/-! the links -/
def ev_FL (own : String) (idx ci k : Nat) : Prop := ∃ (ref C : String) (T : u_T) (N : Nat), vwCl[ci]? = some (C, T, N) ∧ k < N ∧ Cond.fieldLink own idx ref (T k).2.1 (T k).2.2.1 ∈ ev_tb ∧ (∀ w ∈ u_ws C T N, w ∈ ev_tb) ∧ ((T k).1 = ref ∨ Cond.sameField ref (T k).1 (T k).2.1 (T k).2.2.1 ∈ ev_tb)
def ev_FP (own : String) (idx ci k : Nat) (ty : FieldType) (fin : Bool) : Prop := ∃ (ref C : String) (T : u_T) (N : Nat) (ty0 : Nat → FieldType), vwCl[ci]? = some (C, T, N) ∧ k < N ∧ Cond.fieldLink own idx ref (T k).2.1 (T k).2.2.1 ∈ ev_tb ∧ (∀ w ∈ u_ws C T N, w ∈ ev_tb) ∧ (T k).1 = ref ∧
  (∀ k, k < N → parseFieldDescriptor (T k).2.2.1 = some (ty0 k)) ∧ (∀ a, a < N → ∀ b, b < N → a ≠ b → (T a).2.1 ≠ (T b).2.1) ∧ (T k).2.2.2 = fin ∧ (fin = true → (T k).1 = own) ∧ parseFieldDescriptor (T k).2.2.1 = some ty
def ev_NW (own : String) (idx ci N : Nat) (V0 : Nat → Value) : Prop := ∃ (C : String) (T : u_T) (ty0 : Nat → FieldType), vwCl[ci]? = some (C, T, N) ∧ (∀ w ∈ u_ws C T N, w ∈ ev_tb) ∧ (∀ k, k < N → parseFieldDescriptor (T k).2.2.1 = some (ty0 k)) ∧ Cond.classLink own idx C ∈ ev_tb ∧ Cond.instantiable C N ∈ ev_tb ∧ Cond.initialized C ∈ ev_tb ∧ ∀ j, j < N → defaultValue (ty0 j) = V0 j
theorem ev_cl_of {x : Int32} {j : Nat} (h : x.toInt = (j : Int)) : ¬ x < 0 ∧ x.toNatClampNeg = j := by
  refine ⟨fun z => ?_, ?_⟩
  · have := Int32.lt_iff_toInt_lt.mp z
    simp at this
    omega
  · show x.toInt.toNat = j
    omega
section EVH
variable {B : ev_B} {d : Nat} {M : ev_M} {pc n : Nat} {ls ls' : List (Option Value)} {st st' : List Value} {h : ev_H} {Q : Option Value → ev_H → Prop}
theorem Wp.goH {pc' : Nat} {h1 : ev_H} {dw : Nat} (hdw : h1.2.2 = h.2.2 + dw) (f : ∀ (D : ev_D) (p : Program) (l : Launch) (e : Env) (R : Room) (s : State) (m : MethodId) (args : Array Value) (below : List Frame) (meth : Method) (c : Code) (H : Heap) (locs : List Loc) (a : Array Slot) (cells slots : Nat) (Qf : State → Prop),
      ev_G B D d M p R s m args meth c → ev_R B D h H → va_S (ev_A B) s.heap H locs → ev_L ls a M.2.2.1 → cells + dw ≤ R.cells → slots + dw ≤ R.slots →
      (∀ (H1 : Heap) (locs1 : List Loc) (a' : Array Slot), ev_R B D h1 H1 → va_S (ev_A B) s.heap H1 locs1 → ev_L ls' a' M.2.2.1 → W p l e R s m args below meth c H1 locs1 (cells + dw) (slots + dw) Qf (F0 m pc' a' st')) → W p l e R s m args below meth c H locs cells slots Qf (F0 m pc a st))
    (k : Wp B d M pc' ls' st' h1 Q) : Wp B d M pc ls st h Q := by
  obtain ⟨v, h', ⟨hw, hE⟩, hQ⟩ := k
  refine ⟨v, h', ⟨by omega, fun D p l e R s m args below meth c hG H locs a cells slots hR hS hL h1' h2' => ?_⟩, hQ⟩
  refine f D p l e R s m args below meth c H locs a cells slots _ hG hR hS hL (by omega) (by omega) (fun H1 locs1 a' hR1 hS1 hL1 => ?_)
  have e1 : cells + (h'.2.2 - h.2.2) = (cells + dw) + (h'.2.2 - h1.2.2) := by omega
  have e2 : slots + (h'.2.2 - h.2.2) = (slots + dw) + (h'.2.2 - h1.2.2) := by omega
  rw [e1, e2]
  exact hE D p l e R s m args below meth c hG H1 locs1 a' _ _ hR1 hS1 hL1 (by omega) (by omega)
theorem Wp.get {a ci k idx : Nat} {V : Nat → Value} {v : Value} (hd : decode M.2.1 pc = .ok (.getfield idx, 3)) (hf : ev_FL M.1.cls idx ci k) (hh : h.1 a = some (ev_ob ci V)) (hv : V k = v) (hn : pc + 3 = n) (kk : Wp B d M n ls (v :: st) h Q) : Wp B d M pc ls (.ref a :: st) h Q := by
  subst hn
  refine Wp.go (fun D p l e R s m args below meth c H locs sl cells slots Qf hG hR hS hL kk => ?_) kk
  obtain ⟨ref, C, T, N, hc, hk, hlink, hin, hsm⟩ := hf
  obtain ⟨hx, hb, -, -, -, hown, -, hts, hK, -⟩ := hG
  obtain ⟨r, h1, cell, q1, q2, q3, q4⟩ := (hR.2 _ _ hh).2
  have hr : r = (C, T, N) := Option.some.inj (h1.symm.trans hc)
  subst hr
  obtain ⟨hSl, hfc, kC, hkC, hkind⟩ := hK.1.1 ci _ hc
  obtain ⟨cf, kf, fi, f, hi, hsl⟩ := hSl k hk
  have hi' : s.fieldFound? ref (T k).2.1 (T k).2.2.1 = some (cf, kf, fi, f) := by
    rcases hsm with e | e
    · rw [← e]; exact hi
    · exact u_same (hts _ e) _ hi
  refine W.getf hx hb hown (hts _ hlink) hi' (u_facts hfc hkC (u_lays hts hin hk) hi).1 q1 (by rw [q3]; exact fun h => by cases h) (v := v) ?_ rfl rfl hd (kk _ hL)
  rw [hsl, q4 k hk]
  show some (V k) = some v
  rw [hv]
theorem Wp.put {a ci k idx : Nat} {V : Nat → Value} {v : Value} {ty : FieldType} (hd : decode M.2.1 pc = .ok (.putfield idx, 3)) (hf : ev_FP M.1.cls idx ci k ty false) (hh : h.1 a = some (ev_ob ci V)) (hnr : narrow ty v = v) (hfit : fits ty v = true) (hn : pc + 3 = n) (kk : Wp B d M n ls st (ev_up h a (ev_ob ci (updV V k v))) Q) : Wp B d M pc ls (v :: .ref a :: st) h Q := by
  subst hn
  refine Wp.goH (h1 := ev_up h a (ev_ob ci (updV V k v))) (dw := 0) rfl (fun D p l e R s m args below meth c H locs sl cells slots Qf hG hR hS hL hc1 hc2 kk => ?_) kk
  obtain ⟨ref, C, T, N, ty0, hc, hk, hlink, hin, hsm, hty, hnm, hfin, hown', hdsc⟩ := hf
  obtain ⟨hx, hb, -, -, -, hown, -, hts, hK, -⟩ := hG
  have hap := va_apart (own := M.1.cls) hts hin ty0 hty hnm hK.1 hc
  obtain ⟨r, h1, cell, q1, q2, q3, q4⟩ := (hR.2 _ _ hh).2
  have hr : r = (C, T, N) := Option.some.inj (h1.symm.trans hc)
  subst hr
  obtain ⟨hSl, hfc, kC, hkC, hkind⟩ := hK.1.1 ci _ hc
  obtain ⟨cf, kf, fi, f, hi, hsl⟩ := hSl k hk
  have hlay := hts _ (hin _ (u_in_lay hk))
  unfold u_lay at hlay
  rw [if_neg (by rw [hfin]; decide)] at hlay
  have hst := (u_facts hfc hkC (u_lays hts hin hk) hi).1
  have h6 := u_store hfc hkC hkind hlay hi hdsc hnr hfit
  refine W.putK hx hb (f := f) ⟨hown, hts _ hlink, ⟨_, _, _, by rw [← hsm]; exact hi⟩, hst⟩ (by rw [q2]; exact h6) q1 q3 (by rw [hsl]; exact k2_hasslot (q4 k hk)) rfl rfl hd fun H' e1 e2 e3 => ?_
  rw [hsl] at e1 ⊢
  exact kk H' _ sl (hR.up hh e2 ⟨_, hc, _, e1, q2, q3, t_set q4 hap hk v⟩ e3) (ev_S.put hS hR hh e2 e3) hL
theorem Wp.putF {a ci k idx : Nat} {V : Nat → Value} {v : Value} {ty : FieldType} (hd : decode M.2.1 pc = .ok (.putfield idx, 3)) (hf : ev_FP M.1.cls idx ci k ty true) (hM : M.1.name = "<init>") (hh : h.1 a = some (ev_ob ci V)) (hnr : narrow ty v = v) (hfit : fits ty v = true) (hn : pc + 3 = n) (kk : Wp B d M n ls st (ev_up h a (ev_ob ci (updV V k v))) Q) : Wp B d M pc ls (v :: .ref a :: st) h Q := by
  subst hn
  refine Wp.goH (h1 := ev_up h a (ev_ob ci (updV V k v))) (dw := 0) rfl (fun D p l e R s m args below meth c H locs sl cells slots Qf hG hR hS hL hc1 hc2 kk => ?_) kk
  obtain ⟨ref, C, T, N, ty0, hc, hk, hlink, hin, hsm, hty, hnm, hfin, hown', hdsc⟩ := hf
  obtain ⟨hx, hb, -, -, -, hown, hname, hts, hK, -⟩ := hG
  have hap := va_apart (own := M.1.cls) hts hin ty0 hty hnm hK.1 hc
  obtain ⟨r, h1, cell, q1, q2, q3, q4⟩ := (hR.2 _ _ hh).2
  have hr : r = (C, T, N) := Option.some.inj (h1.symm.trans hc)
  subst hr
  obtain ⟨hSl, hfc, kC, hkC, hkind⟩ := hK.1.1 ci _ hc
  obtain ⟨cf, kf, fi, f, hi, hsl⟩ := hSl k hk
  have hlay := hts _ (hin _ (u_in_lay hk))
  unfold u_lay at hlay
  rw [if_pos hfin] at hlay
  have hst := (u_facts hfc hkC (u_lays hts hin hk) hi).1
  have hcf : m.cls = cf := by
    obtain ⟨_, _, c', _, _, _, -, -, hf', -, -, -, hown2, -⟩ := Cond.laysFinal_spec hlay
    have e1 : c' = cf := by have := hi.symm.trans hf'; simp at this; exact this.1.symm
    rw [hown' rfl] at hown2
    rw [← e1]; exact Option.some.inj (hown.symm.trans hown2)
  have h6 := u_fits hfc hkC hkind (Or.inr hlay) hi hdsc hnr hfit
  refine W.putFinK hx hb hown (hts _ hlink) (by rw [← hsm]; exact hi) hst hcf (by rw [hname, hM]) (by rw [q2]; exact h6) q1 q3 (by rw [hsl]; exact k2_hasslot (q4 k hk)) rfl rfl hd fun H' e1 e2 e3 => ?_
  rw [hsl] at e1 ⊢
  exact kk H' _ sl (hR.up hh e2 ⟨_, hc, _, e1, q2, q3, t_set q4 hap hk v⟩ e3) (ev_S.put hS hR hh e2 e3) hL
theorem Wp.new {ci N idx : Nat} {V0 : Nat → Value} (hd : decode M.2.1 pc = .ok (.new idx, 3)) (hf : ev_NW M.1.cls idx ci N V0) (hn : pc + 3 = n) (kk : Wp B d M n ls (.ref h.2.1 :: st) (ev_nw h (ev_ob ci V0) N) Q) : Wp B d M pc ls st h Q := by
  subst hn
  refine Wp.goH (h1 := ev_nw h (ev_ob ci V0) N) (dw := N + 1) rfl (fun D p l e R s m args below meth c H locs sl cells slots Qf hG hR hS hL hc1 hc2 kk => ?_) kk
  obtain ⟨C, T, ty0, hc, hin, hty, hcl, hinst, hini, hfs⟩ := hf
  obtain ⟨hx, hb, -, -, -, hown, hname, hts, hK, -, -, hB, -⟩ := hG
  have hKn := hK.1.1 ci _ hc
  refine W.newcK hx hb hown (hts _ hcl) (hts _ hinst) (hts _ hini) rfl hd (by omega) (by omega) hKn.2.1 rfl fun H1 kC hkC e1 z1 o1 => ?_
  refine W.widen (k := cells + (N + 1)) (n := slots + (N + 1)) (by omega) (by omega) ?_
  have e : H.size = h.2.1 := hR.1
  rw [← e] at kk
  exact kk H1 _ sl (hR.nw (Nat.le_trans hB hS.1) z1 ⟨_, hc, (u_born ty0 hts hin hKn hkC e1 hty).to hfs⟩ o1) (ev_S.nw hS z1 o1) hL
theorem ev_cls {s : State} {D : ev_D} (hK : ev_K D s) {t : Nat} (ht : t < 4) : ArrOfT s (D.2 t) (ev_ty t) := (hK.2.1 t ht).1
theorem Wp.newai {x : Int32} {N : Nat} (hd : decode M.2.1 pc = .ok (.newarray .int, 2)) (hN : x.toInt = (N : Int)) (hb : N ≤ 100000000) (hn : pc + 2 = n) (kk : Wp B d M n ls (.ref h.2.1 :: st) (ev_nw h (ev_ia N (fun _ => 0)) N) Q) : Wp B d M pc ls (.int x :: st) h Q := by
  subst hn
  refine Wp.goH (h1 := ev_nw h (ev_ia N (fun _ => 0)) N) (dw := N + 1) rfl (fun D p l e R s m args below meth c H locs sl cells slots Qf hG hR hS hL hc1 hc2 kk => ?_) kk
  obtain ⟨hx, hbb, -, -, -, hown, hname, hts, hK, -, -, hB, -⟩ := hG
  refine va_newaK hx hbb (hts _ (ev_mem (by decide +kernel) rfl)) rfl hd rfl (ev_cl_of hN).1 (ev_cl_of hN).2 (by show N * 4 ≤ _; omega) (by omega) (by omega) rfl fun H1 cA e1 z1 o1 hAr hNm => ?_
  refine W.widen (k := cells + (N + 1)) (n := slots + (N + 1)) (by omega) (by omega) ?_
  have hc : cA = D.2 0 := Option.some.inj (hNm.symm.trans (hK.2.1 0 (by decide)).2)
  subst hc
  have e : H.size = h.2.1 := hR.1
  rw [← e] at kk
  exact kk H1 _ sl (hR.nw (Nat.le_trans hB hS.1) z1 e1 o1) (ev_S.nw hS z1 o1) hL
theorem Wp.newal {x : Int32} {N : Nat} (hd : decode M.2.1 pc = .ok (.newarray .long, 2)) (hN : x.toInt = (N : Int)) (hb : N ≤ 50000000) (hn : pc + 2 = n) (kk : Wp B d M n ls (.ref h.2.1 :: st) (ev_nw h (ev_la N (fun _ => 0)) N) Q) : Wp B d M pc ls (.int x :: st) h Q := by
  subst hn
  refine Wp.goH (h1 := ev_nw h (ev_la N (fun _ => 0)) N) (dw := N + 1) rfl (fun D p l e R s m args below meth c H locs sl cells slots Qf hG hR hS hL hc1 hc2 kk => ?_) kk
  obtain ⟨hx, hbb, -, -, -, hown, hname, hts, hK, -, -, hB, -⟩ := hG
  refine va_newaK hx hbb (hts _ (ev_mem (by decide +kernel) rfl)) rfl hd rfl (ev_cl_of hN).1 (ev_cl_of hN).2 (by show N * 8 ≤ _; omega) (by omega) (by omega) rfl fun H1 cA e1 z1 o1 hAr hNm => ?_
  refine W.widen (k := cells + (N + 1)) (n := slots + (N + 1)) (by omega) (by omega) ?_
  have hc : cA = D.2 1 := Option.some.inj (hNm.symm.trans (hK.2.1 1 (by decide)).2)
  subst hc
  have e : H.size = h.2.1 := hR.1
  rw [← e] at kk
  exact kk H1 _ sl (hR.nw (Nat.le_trans hB hS.1) z1 e1 o1) (ev_S.nw hS z1 o1) hL
theorem Wp.newaq {x : Int32} {N idx t : Nat} {C : String} (hd : decode M.2.1 pc = .ok (.anewarray idx, 3)) (ht : t = 2 ∧ C = "PriceBench$Offer" ∨ t = 3 ∧ C = "PriceBench$Sheet") (hl : Cond.classLink M.1.cls idx C ∈ ev_tb) (hN : x.toInt = (N : Int)) (hb : N ≤ 100000000) (hn : pc + 3 = n) (kk : Wp B d M n ls (.ref h.2.1 :: st) (ev_nw h (ev_qa t N (fun _ => none)) N) Q) : Wp B d M pc ls (.int x :: st) h Q := by
  subst hn
  refine Wp.goH (h1 := ev_nw h (ev_qa t N (fun _ => none)) N) (dw := N + 1) rfl (fun D p l e R s m args below meth c H locs sl cells slots Qf hG hR hS hL hc1 hc2 kk => ?_) kk
  obtain ⟨hx, hbb, -, -, -, hown, hname, hts, hK, -, -, hB, -⟩ := hG
  have hN2 := (ev_cl_of hN).2
  have hAO : va_AO C s := by
    rcases ht with ⟨-, rfl⟩ | ⟨-, rfl⟩
    · exact hK.2.2.2.2.1
    · exact hK.2.2.2.2.2.1
  have hRA : ∃ (kA : Class) (comp : ClassId), s.vm.classes[D.2 t]? = some kA ∧ kA.kind = .array comp (.object C) ∧ s.vm.findClass C = some comp ∧ s.vm.findClass ("[" ++ (FieldType.object C).toString) = some (D.2 t) := by
    rcases ht with ⟨rfl, rfl⟩ | ⟨rfl, rfl⟩
    · exact (hK.2.1 2 (by decide)).2
    · exact (hK.2.1 3 (by decide)).2
  subst hN2
  refine W.anew hx hbb hown (hts _ hl) (va_AO.use hAO) rfl hd rfl (ev_cl_of hN).1 (by omega) (by omega) (by omega) fun cA kA comp f1 f2 f3 f4 => ?_
  refine W.widen (k := cells + (x.toNatClampNeg + 1)) (n := slots + (x.toNatClampNeg + 1)) (by omega) (by omega) ?_
  obtain ⟨kA', comp', g1, g2, g3, g4⟩ := hRA
  have hc : cA = D.2 t := by
    first
      | exact Option.some.inj (f4.symm.trans g4)
      | exact Option.some.inj (f1.symm.trans g4)
  subst hc
  generalize hH1 : H.push ({ cls := D.2 t, slots := Array.replicate x.toNatClampNeg .null, vm := .none } : Cell) = H1
  have z1 : H1.size = H.size + 1 := by rw [← hH1, Array.size_push]
  have e1 : H1[H.size]? = some (arrV (D.2 t) x.toNatClampNeg (fun _ => .null)) := by rw [← hH1, Array.getElem?_push_size, ← arrV_new]
  have o1 : ∀ q : Nat, q < H.size → H1[q]? = H[q]? := fun q hq => by rw [← hH1, Array.getElem?_push, if_neg (Nat.ne_of_lt hq)]
  have e : H.size = h.2.1 := hR.1
  rw [← e] at kk
  exact kk H1 _ sl (hR.nw (Nat.le_trans hB hS.1) z1 e1 o1) (ev_S.nw hS z1 o1) hL
end EVH
