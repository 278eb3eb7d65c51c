/-! the law: call for call -/
def XR (x : Nat) : Nat → Prop := fun a => x ≤ a ∧ a < x + 20
theorem MH.fx {h h' : ev_H} {x : Nat} {V : Nat → Value} {G : Nat → Nat → Int32} {Z : Nat → Nat → Int64} (hM : MH h x V G Z) (o : FX (XR x) h h') : MH h' x V G Z := by
  refine ⟨?_, hM.rf, fun k hk => ?_, fun k hk => ?_⟩
  · rw [o x ⟨Nat.le_refl _, by omega⟩]; exact hM.ob
  · rw [o _ ⟨Nat.le_add_right .., by have := mOff_lt k; omega⟩]; exact hM.ia k hk
  · rw [o _ ⟨Nat.le_add_right .., by have := mOff_lt k; omega⟩]; exact hM.la k hk
theorem PS.mv {X X' : Nat → Prop} {w0 w1 : Nat} {h h' : ev_H} {A : Nat → Nat} {C : Nat → Option ev_E} {σ : Sg} {ns ws : Nat} {cp ln : Nat → Nat} {lr j : Nat} (p : PS X w0 h A C σ ns ws cp ln lr j) (S' : CS X' h' A C) (hw : h'.2.2 + w0 ≤ w1 + h.2.2) : PS X' w1 h' A C σ ns ws cp ln lr j :=
  ⟨S', p.ben, p.net, p.win, p.row, p.act, p.ofa, p.sha, p.sh, p.fo, p.of, p.dead, p.cnt, by have := p.wt; omega⟩
theorem PSx.mv {X X' : Nat → Prop} {w0 w1 a0 j : Nat} {h h' : ev_H} {σ : Sg} (p : PSx X w0 h a0 σ j) (hs : ∀ a, a < h.2.1 → h'.1 a = h.1 a ∧ ¬ X' a) (hl : h.2.1 ≤ h'.2.1) (hX : ∀ a, X' a → a < h'.2.1) (hw : h'.2.2 + w0 ≤ w1 + h.2.2) : PSx X' w1 h' a0 σ j := by
  obtain ⟨A, C, ns, ws, cp, ln, lr, q, ha⟩ := p
  have S := q.S
  refine ⟨A, C, ns, ws, cp, ln, lr, q.mv ⟨fun t e he => ?_, S.2.1, hX⟩ hw, ha⟩
  have z := S.1 t e he
  have y := hs _ z.2.1
  exact ⟨y.1.trans z.1, by omega, y.2⟩
theorem PSx.out {x w0 a0 j : Nat} {h h' : ev_H} {σ : Sg} (p : PSx (XR x) w0 h a0 σ j) (o : Out x h h') : PSx (XR x) w0 h' a0 σ j := by
  obtain ⟨A, C, ns, ws, cp, ln, lr, q, ha⟩ := p
  have S := q.S
  have o1 := o.1
  refine ⟨A, C, ns, ws, cp, ln, lr, q.mv ⟨fun t e he => ?_, S.2.1, fun a z => by rw [o1]; exact S.2.2 a z⟩ (by rw [o1]; omega), ha⟩
  have z := S.1 t e he
  have y : A t < x ∨ x + 20 ≤ A t := by
    have nx := z.2.2
    unfold XR at nx
    omega
  exact ⟨(o.2 _ y).trans z.1, by rw [o1]; exact z.2.1, z.2.2⟩
theorem PSx.up {X : Nat → Prop} {w0 a0 j : Nat} {h : ev_H} {σ : Sg} (p : PSx X w0 h a0 σ j) (hj : j + 1 ≤ 600) : PSx X w0 h a0 σ (j + 1) := by
  obtain ⟨A, C, ns, ws, cp, ln, lr, q, ha⟩ := p
  exact ⟨A, C, ns, ws, cp, ln, lr, q.up hj, ha⟩
theorem PSx.ob {X : Nat → Prop} {w0 a0 j : Nat} {h : ev_H} {σ : Sg} (p : PSx X w0 h a0 σ j) : ∃ V, h.1 a0 = some (ev_ob 10 V) := by
  obtain ⟨A, C, ns, ws, cp, ln, lr, q, ha⟩ := p
  obtain ⟨V, hV, -⟩ := q.ben
  exact ⟨V, by rw [← ha]; exact q.S.at hV⟩
/-- what was made stays within the room -/
theorem PSx.room {X : Nat → Prop} {w0 a0 j : Nat} {h : ev_H} {σ : Sg} (p : PSx X w0 h a0 σ j) (hW : Wf σ) (hw : w0 ≤ 100000) : h.2.2 ≤ 600000 := by
  obtain ⟨A, C, ns, ws, cp, ln, lr, q, ha⟩ := p
  have h1 := q.wt
  have h2 := q.row.2
  have h3 := hW.n
  have h4 : sumF (potF cp ln) σ.n ≤ σ.n * 40732 := sumF_le σ.n (fun i hi => by
    obtain ⟨V, cs, bs, Nl, l, nb, rb, g1, g2, g3, g4, g5, g6, g7, g8, g9, -⟩ := q.of i hi
    have := g6.le
    unfold potF
    omega)
  unfold pot at h1
  omega
theorem CS.one {n k : Nat} {e : ev_E} : CS (fun _ => False) (ev_nw ((fun _ => none, n, 0) : ev_H) e k) (fun _ => n) (fun s => if s = 0 then some e else none) := by
  refine ⟨fun t e' he => ?_, fun s t hs ht _ => ?_, fun _ z => z.elim⟩
  · dsimp only at he
    by_cases c : t = 0
    · rw [if_pos c] at he
      refine ⟨?_, Nat.lt_succ_self _, fun z => z⟩
      rw [← he]
      exact if_pos (Eq.refl n)
    · rw [if_neg c] at he
      exact absurd he (by simp)
  · dsimp only at hs ht
    by_cases c : s = 0
    · by_cases c2 : t = 0
      · omega
      · rw [if_neg c2] at ht; exact absurd (Eq.refl none) ht
    · rw [if_neg c] at hs; exact absurd (Eq.refl none) hs
theorem and63 (y : Int32) : ∃ k, k < 64 ∧ y &&& nI 63 = nI k := by
  refine ⟨y.toBitVec.toNat % 64, Nat.mod_lt _ (by decide), ?_⟩
  apply Int32.toBitVec_inj.mp
  apply BitVec.eq_of_toNat_eq
  have e1 : (y &&& nI 63).toBitVec = y.toBitVec &&& BitVec.ofNat 32 63 := rfl
  have e2 : (nI (y.toBitVec.toNat % 64)).toBitVec = BitVec.ofNat 32 (y.toBitVec.toNat % 64) := rfl
  rw [e1, e2, BitVec.toNat_and, BitVec.toNat_ofNat, BitVec.toNat_ofNat, show 63 % 2 ^ 32 = 2 ^ 6 - 1 by decide, Nat.and_two_pow_sub_one_eq_mod]
  omega
theorem nI_aT {i k : Nat} (h : i + k < 2147483648) : (nI i + nI k).toInt = ((i + k : Nat) : Int) := by rw [nI_add]; exact nI_toInt h
set_option maxHeartbeats 1000000 in
theorem law_thing {B : ev_B} {b L i x a0 w0 j : Nat} {f : Nat → Int32} {h : ev_H} {V : Nat → Value} {G : Nat → Nat → Int32} {Z : Nat → Nat → Int64} {σ : Sg} {Q : Option Value → ev_H → Prop} (hsta : ev_sta B) (hb : B.2.2 b = some (L, f)) (hi : i + 6 ≤ L) (hL : L ≤ 3072) (hp : PSx (XR x) w0 h a0 σ j) (hM : MH h x V G Z) (hP : PM σ V G Z) (hW : Wf σ) (hj : j + 1 ≤ 600) (nx : ∀ (h' : ev_H) (σ' : Sg) (V' : Nat → Value) (G' : Nat → Nat → Int32) (Z' : Nat → Nat → Int64), PSx (XR x) w0 h' a0 σ' (j + 1) → MH h' x V' G' Z' → PM σ' V' G' Z' → Wf σ' → Wp B 100 M_law 1495 [some (.ref b), some (.ref a0), some (.ref x), some (.int (nI i))] [] h' Q) :
    Wp B 100 M_law 196 [some (.ref b), some (.ref a0), some (.ref x), some (.int (nI i))] [] h Q := by
  obtain ⟨Vb, hVb⟩ := hp.ob
  refine Wp.aload_n dL_law_196 rfl (by first | exact Or.inr ⟨_, rfl⟩ | exact Or.inl rfl) rfl ?_
  refine Wp.cV dL_law_197 cv_L_13 rfl (by omega) rfl (Nat.le_of_ble_eq_true rfl) (Nat.le_of_ble_eq_true rfl) hVb rfl (c_X11_thing (d := 100 - 1) hp hW hj (by omega)) ?_
  rintro _ h1 ⟨rfl, x1, hp1⟩
  have hM1 := hM.fx x1
  dsimp only [Option.toList, List.drop, List.cons_append, List.nil_append]
  refine Wp.aload_n dL_law_200 rfl (by first | exact Or.inr ⟨_, rfl⟩ | exact Or.inl rfl) rfl ?_
  refine Wp.cV dL_law_201 cv_L_17 rfl (by omega) rfl (Nat.le_of_ble_eq_true rfl) (Nat.le_of_ble_eq_true rfl) hM1.ob rfl (c_X12_thing (d := 100 - 1) hM1 hP hW (by omega)) ?_
  rintro _ h2 ⟨rfl, V2, G2, Z2, hM2, hP2, o2⟩
  have hp2 := hp1.out o2
  dsimp only [Option.toList, List.drop, List.cons_append, List.nil_append]
  refine Wp.icmp_eq (tgt := 1495) (n := 207) dL_law_204 (by decide) rfl (fun _ => ?_) (fun c_ => absurd rfl c_)
  exact nx _ _ _ _ _ hp2 hM2 hP2 (W_thing hW)
set_option maxHeartbeats 1000000 in
theorem law_line {B : ev_B} {b L i x a0 w0 j : Nat} {f : Nat → Int32} {h : ev_H} {V : Nat → Value} {G : Nat → Nat → Int32} {Z : Nat → Nat → Int64} {σ : Sg} {Q : Option Value → ev_H → Prop} (hsta : ev_sta B) (hb : B.2.2 b = some (L, f)) (hi : i + 6 ≤ L) (hL : L ≤ 3072) (hp : PSx (XR x) w0 h a0 σ j) (hM : MH h x V G Z) (hP : PM σ V G Z) (hW : Wf σ) (hj : j + 1 ≤ 600) (nx : ∀ (h' : ev_H) (σ' : Sg) (V' : Nat → Value) (G' : Nat → Nat → Int32) (Z' : Nat → Nat → Int64), PSx (XR x) w0 h' a0 σ' (j + 1) → MH h' x V' G' Z' → PM σ' V' G' Z' → Wf σ' → Wp B 100 M_law 1495 [some (.ref b), some (.ref a0), some (.ref x), some (.int (nI i))] [] h' Q) :
    Wp B 100 M_law 209 [some (.ref b), some (.ref a0), some (.ref x), some (.int (nI i))] [] h Q := by
  obtain ⟨Vb, hVb⟩ := hp.ob
  refine Wp.aload_n dL_law_209 rfl (by first | exact Or.inr ⟨_, rfl⟩ | exact Or.inl rfl) rfl ?_
  refine Wp.aload_n dL_law_210 rfl (by first | exact Or.inr ⟨_, rfl⟩ | exact Or.inl rfl) rfl ?_
  refine Wp.iload_n dL_law_211 rfl rfl ?_
  refine Wp.iconst (v := (nI 1)) dL_law_212 (by decide) rfl ?_
  refine Wp.iadd dL_law_213 rfl ?_
  refine Wp.roload dL_law_214 hb (nI_aT (by omega)) (by omega) rfl ?_
  refine Wp.aload_n dL_law_215 rfl (by first | exact Or.inr ⟨_, rfl⟩ | exact Or.inl rfl) rfl ?_
  refine Wp.iload_n dL_law_216 rfl rfl ?_
  refine Wp.iconst (v := (nI 2)) dL_law_217 (by decide) rfl ?_
  refine Wp.iadd dL_law_218 rfl ?_
  refine Wp.roload dL_law_219 hb (nI_aT (by omega)) (by omega) rfl ?_
  refine Wp.aload_n dL_law_220 rfl (by first | exact Or.inr ⟨_, rfl⟩ | exact Or.inl rfl) rfl ?_
  refine Wp.iload_n dL_law_221 rfl rfl ?_
  refine Wp.iconst (v := (nI 3)) dL_law_222 (by decide) rfl ?_
  refine Wp.iadd dL_law_223 rfl ?_
  refine Wp.roload dL_law_224 hb (nI_aT (by omega)) (by omega) rfl ?_
  refine Wp.aload_n dL_law_225 rfl (by first | exact Or.inr ⟨_, rfl⟩ | exact Or.inl rfl) rfl ?_
  refine Wp.iload_n dL_law_226 rfl rfl ?_
  refine Wp.iconst (v := (nI 4)) dL_law_227 (by decide) rfl ?_
  refine Wp.iadd dL_law_228 rfl ?_
  refine Wp.roload dL_law_229 hb (nI_aT (by omega)) (by omega) rfl ?_
  refine Wp.cV dL_law_230 cv_L_18 rfl (by omega) rfl (Nat.le_of_ble_eq_true rfl) (Nat.le_of_ble_eq_true rfl) hVb rfl (c_X11_line (d := 100 - 1) hp hW hj (by omega)) ?_
  rintro _ h1 ⟨rfl, x1, hp1⟩
  have hM1 := hM.fx x1
  dsimp only [Option.toList, List.drop, List.cons_append, List.nil_append]
  refine Wp.aload_n dL_law_233 rfl (by first | exact Or.inr ⟨_, rfl⟩ | exact Or.inl rfl) rfl ?_
  refine Wp.aload_n dL_law_234 rfl (by first | exact Or.inr ⟨_, rfl⟩ | exact Or.inl rfl) rfl ?_
  refine Wp.iload_n dL_law_235 rfl rfl ?_
  refine Wp.iconst (v := (nI 1)) dL_law_236 (by decide) rfl ?_
  refine Wp.iadd dL_law_237 rfl ?_
  refine Wp.roload dL_law_238 hb (nI_aT (by omega)) (by omega) rfl ?_
  refine Wp.aload_n dL_law_239 rfl (by first | exact Or.inr ⟨_, rfl⟩ | exact Or.inl rfl) rfl ?_
  refine Wp.iload_n dL_law_240 rfl rfl ?_
  refine Wp.iconst (v := (nI 2)) dL_law_241 (by decide) rfl ?_
  refine Wp.iadd dL_law_242 rfl ?_
  refine Wp.roload dL_law_243 hb (nI_aT (by omega)) (by omega) rfl ?_
  refine Wp.aload_n dL_law_244 rfl (by first | exact Or.inr ⟨_, rfl⟩ | exact Or.inl rfl) rfl ?_
  refine Wp.iload_n dL_law_245 rfl rfl ?_
  refine Wp.iconst (v := (nI 3)) dL_law_246 (by decide) rfl ?_
  refine Wp.iadd dL_law_247 rfl ?_
  refine Wp.roload dL_law_248 hb (nI_aT (by omega)) (by omega) rfl ?_
  refine Wp.aload_n dL_law_249 rfl (by first | exact Or.inr ⟨_, rfl⟩ | exact Or.inl rfl) rfl ?_
  refine Wp.iload_n dL_law_250 rfl rfl ?_
  refine Wp.iconst (v := (nI 4)) dL_law_251 (by decide) rfl ?_
  refine Wp.iadd dL_law_252 rfl ?_
  refine Wp.roload dL_law_253 hb (nI_aT (by omega)) (by omega) rfl ?_
  refine Wp.cV dL_law_254 cv_L_22 rfl (by omega) rfl (Nat.le_of_ble_eq_true rfl) (Nat.le_of_ble_eq_true rfl) hM1.ob rfl (c_X12_line (d := 100 - 1) hM1 hP hW (by omega)) ?_
  rintro _ h2 ⟨rfl, V2, G2, Z2, hM2, hP2, o2⟩
  have hp2 := hp1.out o2
  dsimp only [Option.toList, List.drop, List.cons_append, List.nil_append]
  refine Wp.icmp_eq (tgt := 1495) (n := 260) dL_law_257 (by decide) rfl (fun _ => ?_) (fun c_ => absurd rfl c_)
  exact nx _ _ _ _ _ hp2 hM2 hP2 (W_line hW)
set_option maxHeartbeats 1000000 in
theorem law_alter {B : ev_B} {b L i x a0 w0 j : Nat} {f : Nat → Int32} {h : ev_H} {V : Nat → Value} {G : Nat → Nat → Int32} {Z : Nat → Nat → Int64} {σ : Sg} {Q : Option Value → ev_H → Prop} (hsta : ev_sta B) (hb : B.2.2 b = some (L, f)) (hi : i + 6 ≤ L) (hL : L ≤ 3072) (hp : PSx (XR x) w0 h a0 σ j) (hM : MH h x V G Z) (hP : PM σ V G Z) (hW : Wf σ) (hj : j + 1 ≤ 600) (nx : ∀ (h' : ev_H) (σ' : Sg) (V' : Nat → Value) (G' : Nat → Nat → Int32) (Z' : Nat → Nat → Int64), PSx (XR x) w0 h' a0 σ' (j + 1) → MH h' x V' G' Z' → PM σ' V' G' Z' → Wf σ' → Wp B 100 M_law 1495 [some (.ref b), some (.ref a0), some (.ref x), some (.int (nI i))] [] h' Q) :
    Wp B 100 M_law 262 [some (.ref b), some (.ref a0), some (.ref x), some (.int (nI i))] [] h Q := by
  obtain ⟨Vb, hVb⟩ := hp.ob
  refine Wp.aload_n dL_law_262 rfl (by first | exact Or.inr ⟨_, rfl⟩ | exact Or.inl rfl) rfl ?_
  refine Wp.aload_n dL_law_263 rfl (by first | exact Or.inr ⟨_, rfl⟩ | exact Or.inl rfl) rfl ?_
  refine Wp.iload_n dL_law_264 rfl rfl ?_
  refine Wp.iconst (v := (nI 1)) dL_law_265 (by decide) rfl ?_
  refine Wp.iadd dL_law_266 rfl ?_
  refine Wp.roload dL_law_267 hb (nI_aT (by omega)) (by omega) rfl ?_
  refine Wp.aload_n dL_law_268 rfl (by first | exact Or.inr ⟨_, rfl⟩ | exact Or.inl rfl) rfl ?_
  refine Wp.iload_n dL_law_269 rfl rfl ?_
  refine Wp.iconst (v := (nI 2)) dL_law_270 (by decide) rfl ?_
  refine Wp.iadd dL_law_271 rfl ?_
  refine Wp.roload dL_law_272 hb (nI_aT (by omega)) (by omega) rfl ?_
  refine Wp.aload_n dL_law_273 rfl (by first | exact Or.inr ⟨_, rfl⟩ | exact Or.inl rfl) rfl ?_
  refine Wp.iload_n dL_law_274 rfl rfl ?_
  refine Wp.iconst (v := (nI 3)) dL_law_275 (by decide) rfl ?_
  refine Wp.iadd dL_law_276 rfl ?_
  refine Wp.roload dL_law_277 hb (nI_aT (by omega)) (by omega) rfl ?_
  refine Wp.cV dL_law_278 cv_L_23 rfl (by omega) rfl (Nat.le_of_ble_eq_true rfl) (Nat.le_of_ble_eq_true rfl) hVb rfl (c_X11_alter (d := 100 - 1) hp hW hj (by omega)) ?_
  rintro _ h1 ⟨rfl, x1, hp1⟩
  have hM1 := hM.fx x1
  dsimp only [Option.toList, List.drop, List.cons_append, List.nil_append]
  refine Wp.aload_n dL_law_281 rfl (by first | exact Or.inr ⟨_, rfl⟩ | exact Or.inl rfl) rfl ?_
  refine Wp.aload_n dL_law_282 rfl (by first | exact Or.inr ⟨_, rfl⟩ | exact Or.inl rfl) rfl ?_
  refine Wp.iload_n dL_law_283 rfl rfl ?_
  refine Wp.iconst (v := (nI 1)) dL_law_284 (by decide) rfl ?_
  refine Wp.iadd dL_law_285 rfl ?_
  refine Wp.roload dL_law_286 hb (nI_aT (by omega)) (by omega) rfl ?_
  refine Wp.aload_n dL_law_287 rfl (by first | exact Or.inr ⟨_, rfl⟩ | exact Or.inl rfl) rfl ?_
  refine Wp.iload_n dL_law_288 rfl rfl ?_
  refine Wp.iconst (v := (nI 2)) dL_law_289 (by decide) rfl ?_
  refine Wp.iadd dL_law_290 rfl ?_
  refine Wp.roload dL_law_291 hb (nI_aT (by omega)) (by omega) rfl ?_
  refine Wp.aload_n dL_law_292 rfl (by first | exact Or.inr ⟨_, rfl⟩ | exact Or.inl rfl) rfl ?_
  refine Wp.iload_n dL_law_293 rfl rfl ?_
  refine Wp.iconst (v := (nI 3)) dL_law_294 (by decide) rfl ?_
  refine Wp.iadd dL_law_295 rfl ?_
  refine Wp.roload dL_law_296 hb (nI_aT (by omega)) (by omega) rfl ?_
  refine Wp.cV dL_law_297 cv_L_27 rfl (by omega) rfl (Nat.le_of_ble_eq_true rfl) (Nat.le_of_ble_eq_true rfl) hM1.ob rfl (c_X12_alter (d := 100 - 1) hM1 hP hW (by omega)) ?_
  rintro _ h2 ⟨rfl, V2, G2, Z2, hM2, hP2, o2⟩
  have hp2 := hp1.out o2
  dsimp only [Option.toList, List.drop, List.cons_append, List.nil_append]
  refine Wp.icmp_eq (tgt := 1495) (n := 303) dL_law_300 (by decide) rfl (fun _ => ?_) (fun c_ => absurd rfl c_)
  exact nx _ _ _ _ _ hp2 hM2 hP2 (W_alter hW)
set_option maxHeartbeats 1000000 in
theorem law_close {B : ev_B} {b L i x a0 w0 j : Nat} {f : Nat → Int32} {h : ev_H} {V : Nat → Value} {G : Nat → Nat → Int32} {Z : Nat → Nat → Int64} {σ : Sg} {Q : Option Value → ev_H → Prop} (hsta : ev_sta B) (hb : B.2.2 b = some (L, f)) (hi : i + 6 ≤ L) (hL : L ≤ 3072) (hp : PSx (XR x) w0 h a0 σ j) (hM : MH h x V G Z) (hP : PM σ V G Z) (hW : Wf σ) (hj : j + 1 ≤ 600) (nx : ∀ (h' : ev_H) (σ' : Sg) (V' : Nat → Value) (G' : Nat → Nat → Int32) (Z' : Nat → Nat → Int64), PSx (XR x) w0 h' a0 σ' (j + 1) → MH h' x V' G' Z' → PM σ' V' G' Z' → Wf σ' → Wp B 100 M_law 1495 [some (.ref b), some (.ref a0), some (.ref x), some (.int (nI i))] [] h' Q) :
    Wp B 100 M_law 305 [some (.ref b), some (.ref a0), some (.ref x), some (.int (nI i))] [] h Q := by
  obtain ⟨Vb, hVb⟩ := hp.ob
  refine Wp.aload_n dL_law_305 rfl (by first | exact Or.inr ⟨_, rfl⟩ | exact Or.inl rfl) rfl ?_
  refine Wp.cV dL_law_306 cv_L_28 rfl (by omega) rfl (Nat.le_of_ble_eq_true rfl) (Nat.le_of_ble_eq_true rfl) hVb rfl (c_X11_close (d := 100 - 1) hp hW hj (by omega)) ?_
  rintro _ h1 ⟨rfl, x1, hp1⟩
  have hM1 := hM.fx x1
  dsimp only [Option.toList, List.drop, List.cons_append, List.nil_append]
  refine Wp.aload_n dL_law_309 rfl (by first | exact Or.inr ⟨_, rfl⟩ | exact Or.inl rfl) rfl ?_
  refine Wp.cV dL_law_310 cv_L_31 rfl (by omega) rfl (Nat.le_of_ble_eq_true rfl) (Nat.le_of_ble_eq_true rfl) hM1.ob rfl (c_X12_close (d := 100 - 1) hM1 hP hW (by omega)) ?_
  rintro _ h2 ⟨rfl, V2, G2, Z2, hM2, hP2, o2⟩
  have hp2 := hp1.out o2
  dsimp only [Option.toList, List.drop, List.cons_append, List.nil_append]
  refine Wp.icmp_eq (tgt := 1495) (n := 316) dL_law_313 (by decide) rfl (fun _ => ?_) (fun c_ => absurd rfl c_)
  exact nx _ _ _ _ _ hp2 hM2 hP2 (W_close hW)
set_option maxHeartbeats 1000000 in
theorem law_undo {B : ev_B} {b L i x a0 w0 j : Nat} {f : Nat → Int32} {h : ev_H} {V : Nat → Value} {G : Nat → Nat → Int32} {Z : Nat → Nat → Int64} {σ : Sg} {Q : Option Value → ev_H → Prop} (hsta : ev_sta B) (hb : B.2.2 b = some (L, f)) (hi : i + 6 ≤ L) (hL : L ≤ 3072) (hp : PSx (XR x) w0 h a0 σ j) (hM : MH h x V G Z) (hP : PM σ V G Z) (hW : Wf σ) (hj : j + 1 ≤ 600) (nx : ∀ (h' : ev_H) (σ' : Sg) (V' : Nat → Value) (G' : Nat → Nat → Int32) (Z' : Nat → Nat → Int64), PSx (XR x) w0 h' a0 σ' (j + 1) → MH h' x V' G' Z' → PM σ' V' G' Z' → Wf σ' → Wp B 100 M_law 1495 [some (.ref b), some (.ref a0), some (.ref x), some (.int (nI i))] [] h' Q) :
    Wp B 100 M_law 318 [some (.ref b), some (.ref a0), some (.ref x), some (.int (nI i))] [] h Q := by
  obtain ⟨Vb, hVb⟩ := hp.ob
  refine Wp.aload_n dL_law_318 rfl (by first | exact Or.inr ⟨_, rfl⟩ | exact Or.inl rfl) rfl ?_
  refine Wp.cV dL_law_319 cv_L_32 rfl (by omega) rfl (Nat.le_of_ble_eq_true rfl) (Nat.le_of_ble_eq_true rfl) hVb rfl (c_X11_undo (d := 100 - 1) hp hW hj (by omega)) ?_
  rintro _ h1 ⟨rfl, x1, hp1⟩
  have hM1 := hM.fx x1
  dsimp only [Option.toList, List.drop, List.cons_append, List.nil_append]
  refine Wp.aload_n dL_law_322 rfl (by first | exact Or.inr ⟨_, rfl⟩ | exact Or.inl rfl) rfl ?_
  refine Wp.cV dL_law_323 cv_L_35 rfl (by omega) rfl (Nat.le_of_ble_eq_true rfl) (Nat.le_of_ble_eq_true rfl) hM1.ob rfl (c_X12_undo (d := 100 - 1) hM1 hP hW ) ?_
  rintro _ h2 ⟨rfl, V2, G2, Z2, hM2, hP2, o2⟩
  have hp2 := hp1.out o2
  dsimp only [Option.toList, List.drop, List.cons_append, List.nil_append]
  refine Wp.icmp_eq (tgt := 1495) (n := 329) dL_law_326 (by decide) rfl (fun _ => ?_) (fun c_ => absurd rfl c_)
  exact nx _ _ _ _ _ hp2 hM2 hP2 (W_undo hW)
set_option maxHeartbeats 1000000 in
theorem law_lineTold {B : ev_B} {b L i x a0 w0 j : Nat} {f : Nat → Int32} {h : ev_H} {V : Nat → Value} {G : Nat → Nat → Int32} {Z : Nat → Nat → Int64} {σ : Sg} {Q : Option Value → ev_H → Prop} (hsta : ev_sta B) (hb : B.2.2 b = some (L, f)) (hi : i + 6 ≤ L) (hL : L ≤ 3072) (hp : PSx (XR x) w0 h a0 σ j) (hM : MH h x V G Z) (hP : PM σ V G Z) (hW : Wf σ) (hj : j + 1 ≤ 600) (nx : ∀ (h' : ev_H) (σ' : Sg) (V' : Nat → Value) (G' : Nat → Nat → Int32) (Z' : Nat → Nat → Int64), PSx (XR x) w0 h' a0 σ' (j + 1) → MH h' x V' G' Z' → PM σ' V' G' Z' → Wf σ' → Wp B 100 M_law 1495 [some (.ref b), some (.ref a0), some (.ref x), some (.int (nI i))] [] h' Q) :
    Wp B 100 M_law 331 [some (.ref b), some (.ref a0), some (.ref x), some (.int (nI i))] [] h Q := by
  obtain ⟨Vb, hVb⟩ := hp.ob
  refine Wp.aload_n dL_law_331 rfl (by first | exact Or.inr ⟨_, rfl⟩ | exact Or.inl rfl) rfl ?_
  refine Wp.aload_n dL_law_332 rfl (by first | exact Or.inr ⟨_, rfl⟩ | exact Or.inl rfl) rfl ?_
  refine Wp.iload_n dL_law_333 rfl rfl ?_
  refine Wp.iconst (v := (nI 1)) dL_law_334 (by decide) rfl ?_
  refine Wp.iadd dL_law_335 rfl ?_
  refine Wp.roload dL_law_336 hb (nI_aT (by omega)) (by omega) rfl ?_
  refine Wp.aload_n dL_law_337 rfl (by first | exact Or.inr ⟨_, rfl⟩ | exact Or.inl rfl) rfl ?_
  refine Wp.iload_n dL_law_338 rfl rfl ?_
  refine Wp.iconst (v := (nI 2)) dL_law_339 (by decide) rfl ?_
  refine Wp.iadd dL_law_340 rfl ?_
  refine Wp.roload dL_law_341 hb (nI_aT (by omega)) (by omega) rfl ?_
  refine Wp.cV dL_law_342 cv_L_36 rfl (by omega) rfl (Nat.le_of_ble_eq_true rfl) (Nat.le_of_ble_eq_true rfl) hVb rfl (c_X11_lineTold (d := 100 - 1) hp hW hj (by omega)) ?_
  rintro _ h1 ⟨rfl, x1, hp1⟩
  have hM1 := hM.fx x1
  dsimp only [Option.toList, List.drop, List.cons_append, List.nil_append]
  refine Wp.aload_n dL_law_345 rfl (by first | exact Or.inr ⟨_, rfl⟩ | exact Or.inl rfl) rfl ?_
  refine Wp.aload_n dL_law_346 rfl (by first | exact Or.inr ⟨_, rfl⟩ | exact Or.inl rfl) rfl ?_
  refine Wp.iload_n dL_law_347 rfl rfl ?_
  refine Wp.iconst (v := (nI 1)) dL_law_348 (by decide) rfl ?_
  refine Wp.iadd dL_law_349 rfl ?_
  refine Wp.roload dL_law_350 hb (nI_aT (by omega)) (by omega) rfl ?_
  refine Wp.aload_n dL_law_351 rfl (by first | exact Or.inr ⟨_, rfl⟩ | exact Or.inl rfl) rfl ?_
  refine Wp.iload_n dL_law_352 rfl rfl ?_
  refine Wp.iconst (v := (nI 2)) dL_law_353 (by decide) rfl ?_
  refine Wp.iadd dL_law_354 rfl ?_
  refine Wp.roload dL_law_355 hb (nI_aT (by omega)) (by omega) rfl ?_
  refine Wp.cV dL_law_356 cv_L_40 rfl (by omega) rfl (Nat.le_of_ble_eq_true rfl) (Nat.le_of_ble_eq_true rfl) hM1.ob rfl (c_X12_lineTold (d := 100 - 1) hM1 hP hW (by omega)) ?_
  rintro _ h2 ⟨rfl, V2, G2, Z2, hM2, hP2, o2⟩
  have hp2 := hp1.out o2
  dsimp only [Option.toList, List.drop, List.cons_append, List.nil_append]
  refine Wp.icmp_eq (tgt := 1495) (n := 362) dL_law_359 (by decide) rfl (fun _ => ?_) (fun c_ => absurd rfl c_)
  exact nx _ _ _ _ _ hp2 hM2 hP2 hW
set_option maxHeartbeats 1000000 in
theorem law_told {B : ev_B} {b L i x a0 w0 j : Nat} {f : Nat → Int32} {h : ev_H} {V : Nat → Value} {G : Nat → Nat → Int32} {Z : Nat → Nat → Int64} {σ : Sg} {Q : Option Value → ev_H → Prop} (hsta : ev_sta B) (hb : B.2.2 b = some (L, f)) (hi : i + 6 ≤ L) (hL : L ≤ 3072) (hp : PSx (XR x) w0 h a0 σ j) (hM : MH h x V G Z) (hP : PM σ V G Z) (hW : Wf σ) (hj : j + 1 ≤ 600) (nx : ∀ (h' : ev_H) (σ' : Sg) (V' : Nat → Value) (G' : Nat → Nat → Int32) (Z' : Nat → Nat → Int64), PSx (XR x) w0 h' a0 σ' (j + 1) → MH h' x V' G' Z' → PM σ' V' G' Z' → Wf σ' → Wp B 100 M_law 1495 [some (.ref b), some (.ref a0), some (.ref x), some (.int (nI i))] [] h' Q) :
    Wp B 100 M_law 364 [some (.ref b), some (.ref a0), some (.ref x), some (.int (nI i))] [] h Q := by
  obtain ⟨Vb, hVb⟩ := hp.ob
  refine Wp.aload_n dL_law_364 rfl (by first | exact Or.inr ⟨_, rfl⟩ | exact Or.inl rfl) rfl ?_
  refine Wp.cV dL_law_365 cv_L_41 rfl (by omega) rfl (Nat.le_of_ble_eq_true rfl) (Nat.le_of_ble_eq_true rfl) hVb rfl (c_X11_told (d := 100 - 1) hp hW hj (by omega)) ?_
  rintro _ h1 ⟨rfl, x1, hp1⟩
  have hM1 := hM.fx x1
  dsimp only [Option.toList, List.drop, List.cons_append, List.nil_append]
  refine Wp.aload_n dL_law_368 rfl (by first | exact Or.inr ⟨_, rfl⟩ | exact Or.inl rfl) rfl ?_
  refine Wp.cV dL_law_369 cv_L_44 rfl (by omega) rfl (Nat.le_of_ble_eq_true rfl) (Nat.le_of_ble_eq_true rfl) hM1.ob rfl (c_X12_told (d := 100 - 1) hM1 hP hW (by omega)) ?_
  rintro _ h2 ⟨rfl, V2, G2, Z2, hM2, hP2, o2⟩
  have hp2 := hp1.out o2
  dsimp only [Option.toList, List.drop, List.cons_append, List.nil_append]
  refine Wp.icmp_eq (tgt := 1495) (n := 375) dL_law_372 (by decide) rfl (fun _ => ?_) (fun c_ => absurd rfl c_)
  exact nx _ _ _ _ _ hp2 hM2 hP2 (W_made hW OfW.new0)
set_option maxHeartbeats 1000000 in
theorem law_tell {B : ev_B} {b L i x a0 w0 j : Nat} {f : Nat → Int32} {h : ev_H} {V : Nat → Value} {G : Nat → Nat → Int32} {Z : Nat → Nat → Int64} {σ : Sg} {Q : Option Value → ev_H → Prop} (hsta : ev_sta B) (hb : B.2.2 b = some (L, f)) (hi : i + 6 ≤ L) (hL : L ≤ 3072) (hp : PSx (XR x) w0 h a0 σ j) (hM : MH h x V G Z) (hP : PM σ V G Z) (hW : Wf σ) (hj : j + 1 ≤ 600) (nx : ∀ (h' : ev_H) (σ' : Sg) (V' : Nat → Value) (G' : Nat → Nat → Int32) (Z' : Nat → Nat → Int64), PSx (XR x) w0 h' a0 σ' (j + 1) → MH h' x V' G' Z' → PM σ' V' G' Z' → Wf σ' → Wp B 100 M_law 1495 [some (.ref b), some (.ref a0), some (.ref x), some (.int (nI i))] [] h' Q) :
    Wp B 100 M_law 377 [some (.ref b), some (.ref a0), some (.ref x), some (.int (nI i))] [] h Q := by
  obtain ⟨Vb, hVb⟩ := hp.ob
  refine Wp.aload_n dL_law_377 rfl (by first | exact Or.inr ⟨_, rfl⟩ | exact Or.inl rfl) rfl ?_
  refine Wp.aload_n dL_law_378 rfl (by first | exact Or.inr ⟨_, rfl⟩ | exact Or.inl rfl) rfl ?_
  refine Wp.iload_n dL_law_379 rfl rfl ?_
  refine Wp.iconst (v := (nI 1)) dL_law_380 (by decide) rfl ?_
  refine Wp.iadd dL_law_381 rfl ?_
  refine Wp.roload dL_law_382 hb (nI_aT (by omega)) (by omega) rfl ?_
  refine Wp.aload_n dL_law_383 rfl (by first | exact Or.inr ⟨_, rfl⟩ | exact Or.inl rfl) rfl ?_
  refine Wp.iload_n dL_law_384 rfl rfl ?_
  refine Wp.iconst (v := (nI 2)) dL_law_385 (by decide) rfl ?_
  refine Wp.iadd dL_law_386 rfl ?_
  refine Wp.roload dL_law_387 hb (nI_aT (by omega)) (by omega) rfl ?_
  refine Wp.cV dL_law_388 cv_L_45 rfl (by omega) rfl (Nat.le_of_ble_eq_true rfl) (Nat.le_of_ble_eq_true rfl) hVb rfl (c_X11_tell (d := 100 - 1) hp hW hj (by omega)) ?_
  rintro _ h1 ⟨rfl, x1, hp1⟩
  have hM1 := hM.fx x1
  dsimp only [Option.toList, List.drop, List.cons_append, List.nil_append]
  refine Wp.aload_n dL_law_391 rfl (by first | exact Or.inr ⟨_, rfl⟩ | exact Or.inl rfl) rfl ?_
  refine Wp.aload_n dL_law_392 rfl (by first | exact Or.inr ⟨_, rfl⟩ | exact Or.inl rfl) rfl ?_
  refine Wp.iload_n dL_law_393 rfl rfl ?_
  refine Wp.iconst (v := (nI 1)) dL_law_394 (by decide) rfl ?_
  refine Wp.iadd dL_law_395 rfl ?_
  refine Wp.roload dL_law_396 hb (nI_aT (by omega)) (by omega) rfl ?_
  refine Wp.aload_n dL_law_397 rfl (by first | exact Or.inr ⟨_, rfl⟩ | exact Or.inl rfl) rfl ?_
  refine Wp.iload_n dL_law_398 rfl rfl ?_
  refine Wp.iconst (v := (nI 2)) dL_law_399 (by decide) rfl ?_
  refine Wp.iadd dL_law_400 rfl ?_
  refine Wp.roload dL_law_401 hb (nI_aT (by omega)) (by omega) rfl ?_
  refine Wp.cV dL_law_402 cv_L_48 rfl (by omega) rfl (Nat.le_of_ble_eq_true rfl) (Nat.le_of_ble_eq_true rfl) hM1.ob rfl (c_X12_tell (d := 100 - 1) hM1 hP hW (by omega)) ?_
  rintro _ h2 ⟨rfl, V2, G2, Z2, hM2, hP2, o2⟩
  have hp2 := hp1.out o2
  dsimp only [Option.toList, List.drop, List.cons_append, List.nil_append]
  refine Wp.icmp_eq (tgt := 1495) (n := 408) dL_law_405 (by decide) rfl (fun _ => ?_) (fun c_ => absurd rfl c_)
  exact nx _ _ _ _ _ hp2 hM2 hP2 (W_tell hW)
set_option maxHeartbeats 1000000 in
theorem law_tree {B : ev_B} {b L i x a0 w0 j : Nat} {f : Nat → Int32} {h : ev_H} {V : Nat → Value} {G : Nat → Nat → Int32} {Z : Nat → Nat → Int64} {σ : Sg} {Q : Option Value → ev_H → Prop} (hsta : ev_sta B) (hb : B.2.2 b = some (L, f)) (hi : i + 6 ≤ L) (hL : L ≤ 3072) (hp : PSx (XR x) w0 h a0 σ j) (hM : MH h x V G Z) (hP : PM σ V G Z) (hW : Wf σ) (hj : j + 1 ≤ 600) (nx : ∀ (h' : ev_H) (σ' : Sg) (V' : Nat → Value) (G' : Nat → Nat → Int32) (Z' : Nat → Nat → Int64), PSx (XR x) w0 h' a0 σ' (j + 1) → MH h' x V' G' Z' → PM σ' V' G' Z' → Wf σ' → Wp B 100 M_law 1495 [some (.ref b), some (.ref a0), some (.ref x), some (.int (nI i))] [] h' Q) :
    Wp B 100 M_law 410 [some (.ref b), some (.ref a0), some (.ref x), some (.int (nI i))] [] h Q := by
  obtain ⟨Vb, hVb⟩ := hp.ob
  refine Wp.aload_n dL_law_410 rfl (by first | exact Or.inr ⟨_, rfl⟩ | exact Or.inl rfl) rfl ?_
  refine Wp.cV dL_law_411 cv_L_49 rfl (by omega) rfl (Nat.le_of_ble_eq_true rfl) (Nat.le_of_ble_eq_true rfl) hVb rfl (c_X11_tree (d := 100 - 1) hp hW hj (by omega)) ?_
  rintro _ h1 ⟨rfl, x1, hp1⟩
  have hM1 := hM.fx x1
  dsimp only [Option.toList, List.drop, List.cons_append, List.nil_append]
  refine Wp.aload_n dL_law_414 rfl (by first | exact Or.inr ⟨_, rfl⟩ | exact Or.inl rfl) rfl ?_
  refine Wp.cV dL_law_415 cv_L_52 rfl (by omega) rfl (Nat.le_of_ble_eq_true rfl) (Nat.le_of_ble_eq_true rfl) hM1.ob rfl (c_X12_tree (d := 100 - 1) hM1 hP hW (by omega)) ?_
  rintro _ h2 ⟨rfl, V2, G2, Z2, hM2, hP2, o2⟩
  have hp2 := hp1.out o2
  dsimp only [Option.toList, List.drop, List.cons_append, List.nil_append]
  refine Wp.icmp_eq (tgt := 1495) (n := 421) dL_law_418 (by decide) rfl (fun _ => ?_) (fun c_ => absurd rfl c_)
  exact nx _ _ _ _ _ hp2 hM2 hP2 (W_made hW OfW.new1)
set_option maxHeartbeats 1000000 in
theorem law_way {B : ev_B} {b L i x a0 w0 j : Nat} {f : Nat → Int32} {h : ev_H} {V : Nat → Value} {G : Nat → Nat → Int32} {Z : Nat → Nat → Int64} {σ : Sg} {Q : Option Value → ev_H → Prop} (hsta : ev_sta B) (hb : B.2.2 b = some (L, f)) (hi : i + 6 ≤ L) (hL : L ≤ 3072) (hp : PSx (XR x) w0 h a0 σ j) (hM : MH h x V G Z) (hP : PM σ V G Z) (hW : Wf σ) (hj : j + 1 ≤ 600) (nx : ∀ (h' : ev_H) (σ' : Sg) (V' : Nat → Value) (G' : Nat → Nat → Int32) (Z' : Nat → Nat → Int64), PSx (XR x) w0 h' a0 σ' (j + 1) → MH h' x V' G' Z' → PM σ' V' G' Z' → Wf σ' → Wp B 100 M_law 1495 [some (.ref b), some (.ref a0), some (.ref x), some (.int (nI i))] [] h' Q) :
    Wp B 100 M_law 423 [some (.ref b), some (.ref a0), some (.ref x), some (.int (nI i))] [] h Q := by
  obtain ⟨Vb, hVb⟩ := hp.ob
  refine Wp.aload_n dL_law_423 rfl (by first | exact Or.inr ⟨_, rfl⟩ | exact Or.inl rfl) rfl ?_
  refine Wp.aload_n dL_law_424 rfl (by first | exact Or.inr ⟨_, rfl⟩ | exact Or.inl rfl) rfl ?_
  refine Wp.iload_n dL_law_425 rfl rfl ?_
  refine Wp.iconst (v := (nI 1)) dL_law_426 (by decide) rfl ?_
  refine Wp.iadd dL_law_427 rfl ?_
  refine Wp.roload dL_law_428 hb (nI_aT (by omega)) (by omega) rfl ?_
  refine Wp.aload_n dL_law_429 rfl (by first | exact Or.inr ⟨_, rfl⟩ | exact Or.inl rfl) rfl ?_
  refine Wp.iload_n dL_law_430 rfl rfl ?_
  refine Wp.iconst (v := (nI 2)) dL_law_431 (by decide) rfl ?_
  refine Wp.iadd dL_law_432 rfl ?_
  refine Wp.roload dL_law_433 hb (nI_aT (by omega)) (by omega) rfl ?_
  refine Wp.cV dL_law_434 cv_L_53 rfl (by omega) rfl (Nat.le_of_ble_eq_true rfl) (Nat.le_of_ble_eq_true rfl) hVb rfl (c_X11_way (d := 100 - 1) hp hW hj (by omega)) ?_
  rintro _ h1 ⟨rfl, x1, hp1⟩
  have hM1 := hM.fx x1
  dsimp only [Option.toList, List.drop, List.cons_append, List.nil_append]
  refine Wp.aload_n dL_law_437 rfl (by first | exact Or.inr ⟨_, rfl⟩ | exact Or.inl rfl) rfl ?_
  refine Wp.aload_n dL_law_438 rfl (by first | exact Or.inr ⟨_, rfl⟩ | exact Or.inl rfl) rfl ?_
  refine Wp.iload_n dL_law_439 rfl rfl ?_
  refine Wp.iconst (v := (nI 1)) dL_law_440 (by decide) rfl ?_
  refine Wp.iadd dL_law_441 rfl ?_
  refine Wp.roload dL_law_442 hb (nI_aT (by omega)) (by omega) rfl ?_
  refine Wp.aload_n dL_law_443 rfl (by first | exact Or.inr ⟨_, rfl⟩ | exact Or.inl rfl) rfl ?_
  refine Wp.iload_n dL_law_444 rfl rfl ?_
  refine Wp.iconst (v := (nI 2)) dL_law_445 (by decide) rfl ?_
  refine Wp.iadd dL_law_446 rfl ?_
  refine Wp.roload dL_law_447 hb (nI_aT (by omega)) (by omega) rfl ?_
  refine Wp.cV dL_law_448 cv_L_56 rfl (by omega) rfl (Nat.le_of_ble_eq_true rfl) (Nat.le_of_ble_eq_true rfl) hM1.ob rfl (c_X12_way (d := 100 - 1) hM1 hP hW (by omega)) ?_
  rintro _ h2 ⟨rfl, V2, G2, Z2, hM2, hP2, o2⟩
  have hp2 := hp1.out o2
  dsimp only [Option.toList, List.drop, List.cons_append, List.nil_append]
  refine Wp.icmp_eq (tgt := 1495) (n := 454) dL_law_451 (by decide) rfl (fun _ => ?_) (fun c_ => absurd rfl c_)
  exact nx _ _ _ _ _ hp2 hM2 hP2 (W_way hW)
set_option maxHeartbeats 1000000 in
theorem law_pairing {B : ev_B} {b L i x a0 w0 j : Nat} {f : Nat → Int32} {h : ev_H} {V : Nat → Value} {G : Nat → Nat → Int32} {Z : Nat → Nat → Int64} {σ : Sg} {Q : Option Value → ev_H → Prop} (hsta : ev_sta B) (hb : B.2.2 b = some (L, f)) (hi : i + 6 ≤ L) (hL : L ≤ 3072) (hp : PSx (XR x) w0 h a0 σ j) (hM : MH h x V G Z) (hP : PM σ V G Z) (hW : Wf σ) (hj : j + 1 ≤ 600) (nx : ∀ (h' : ev_H) (σ' : Sg) (V' : Nat → Value) (G' : Nat → Nat → Int32) (Z' : Nat → Nat → Int64), PSx (XR x) w0 h' a0 σ' (j + 1) → MH h' x V' G' Z' → PM σ' V' G' Z' → Wf σ' → Wp B 100 M_law 1495 [some (.ref b), some (.ref a0), some (.ref x), some (.int (nI i))] [] h' Q) :
    Wp B 100 M_law 456 [some (.ref b), some (.ref a0), some (.ref x), some (.int (nI i))] [] h Q := by
  obtain ⟨Vb, hVb⟩ := hp.ob
  refine Wp.aload_n dL_law_456 rfl (by first | exact Or.inr ⟨_, rfl⟩ | exact Or.inl rfl) rfl ?_
  refine Wp.aload_n dL_law_457 rfl (by first | exact Or.inr ⟨_, rfl⟩ | exact Or.inl rfl) rfl ?_
  refine Wp.iload_n dL_law_458 rfl rfl ?_
  refine Wp.iconst (v := (nI 1)) dL_law_459 (by decide) rfl ?_
  refine Wp.iadd dL_law_460 rfl ?_
  refine Wp.roload dL_law_461 hb (nI_aT (by omega)) (by omega) rfl ?_
  refine Wp.cV dL_law_462 cv_L_57 rfl (by omega) rfl (Nat.le_of_ble_eq_true rfl) (Nat.le_of_ble_eq_true rfl) hVb rfl (c_X11_pairing (d := 100 - 1) hp hW hj (by omega)) ?_
  rintro _ h1 ⟨rfl, x1, hp1⟩
  have hM1 := hM.fx x1
  dsimp only [Option.toList, List.drop, List.cons_append, List.nil_append]
  refine Wp.aload_n dL_law_465 rfl (by first | exact Or.inr ⟨_, rfl⟩ | exact Or.inl rfl) rfl ?_
  refine Wp.aload_n dL_law_466 rfl (by first | exact Or.inr ⟨_, rfl⟩ | exact Or.inl rfl) rfl ?_
  refine Wp.iload_n dL_law_467 rfl rfl ?_
  refine Wp.iconst (v := (nI 1)) dL_law_468 (by decide) rfl ?_
  refine Wp.iadd dL_law_469 rfl ?_
  refine Wp.roload dL_law_470 hb (nI_aT (by omega)) (by omega) rfl ?_
  refine Wp.cV dL_law_471 cv_L_61 rfl (by omega) rfl (Nat.le_of_ble_eq_true rfl) (Nat.le_of_ble_eq_true rfl) hM1.ob rfl (c_X12_pairing (d := 100 - 1) hM1 hP hW (by omega)) ?_
  rintro _ h2 ⟨rfl, V2, G2, Z2, hM2, hP2, o2⟩
  have hp2 := hp1.out o2
  dsimp only [Option.toList, List.drop, List.cons_append, List.nil_append]
  refine Wp.icmp_eq (tgt := 1495) (n := 477) dL_law_474 (by decide) rfl (fun _ => ?_) (fun c_ => absurd rfl c_)
  exact nx _ _ _ _ _ hp2 hM2 hP2 (W_pairing hW)
set_option maxHeartbeats 1000000 in
theorem law_offerTold {B : ev_B} {b L i x a0 w0 j : Nat} {f : Nat → Int32} {h : ev_H} {V : Nat → Value} {G : Nat → Nat → Int32} {Z : Nat → Nat → Int64} {σ : Sg} {Q : Option Value → ev_H → Prop} (hsta : ev_sta B) (hb : B.2.2 b = some (L, f)) (hi : i + 6 ≤ L) (hL : L ≤ 3072) (hp : PSx (XR x) w0 h a0 σ j) (hM : MH h x V G Z) (hP : PM σ V G Z) (hW : Wf σ) (hj : j + 1 ≤ 600) (nx : ∀ (h' : ev_H) (σ' : Sg) (V' : Nat → Value) (G' : Nat → Nat → Int32) (Z' : Nat → Nat → Int64), PSx (XR x) w0 h' a0 σ' (j + 1) → MH h' x V' G' Z' → PM σ' V' G' Z' → Wf σ' → Wp B 100 M_law 1495 [some (.ref b), some (.ref a0), some (.ref x), some (.int (nI i))] [] h' Q) :
    Wp B 100 M_law 479 [some (.ref b), some (.ref a0), some (.ref x), some (.int (nI i))] [] h Q := by
  obtain ⟨Vb, hVb⟩ := hp.ob
  refine Wp.aload_n dL_law_479 rfl (by first | exact Or.inr ⟨_, rfl⟩ | exact Or.inl rfl) rfl ?_
  refine Wp.aload_n dL_law_480 rfl (by first | exact Or.inr ⟨_, rfl⟩ | exact Or.inl rfl) rfl ?_
  refine Wp.iload_n dL_law_481 rfl rfl ?_
  refine Wp.iconst (v := (nI 1)) dL_law_482 (by decide) rfl ?_
  refine Wp.iadd dL_law_483 rfl ?_
  refine Wp.roload dL_law_484 hb (nI_aT (by omega)) (by omega) rfl ?_
  refine Wp.aload_n dL_law_485 rfl (by first | exact Or.inr ⟨_, rfl⟩ | exact Or.inl rfl) rfl ?_
  refine Wp.iload_n dL_law_486 rfl rfl ?_
  refine Wp.iconst (v := (nI 2)) dL_law_487 (by decide) rfl ?_
  refine Wp.iadd dL_law_488 rfl ?_
  refine Wp.roload dL_law_489 hb (nI_aT (by omega)) (by omega) rfl ?_
  refine Wp.cV dL_law_490 cv_L_62 rfl (by omega) rfl (Nat.le_of_ble_eq_true rfl) (Nat.le_of_ble_eq_true rfl) hVb rfl (c_X11_offerTold (d := 100 - 1) hp hW hj (by omega)) ?_
  rintro _ h1 ⟨rfl, x1, hp1⟩
  have hM1 := hM.fx x1
  dsimp only [Option.toList, List.drop, List.cons_append, List.nil_append]
  refine Wp.aload_n dL_law_493 rfl (by first | exact Or.inr ⟨_, rfl⟩ | exact Or.inl rfl) rfl ?_
  refine Wp.aload_n dL_law_494 rfl (by first | exact Or.inr ⟨_, rfl⟩ | exact Or.inl rfl) rfl ?_
  refine Wp.iload_n dL_law_495 rfl rfl ?_
  refine Wp.iconst (v := (nI 1)) dL_law_496 (by decide) rfl ?_
  refine Wp.iadd dL_law_497 rfl ?_
  refine Wp.roload dL_law_498 hb (nI_aT (by omega)) (by omega) rfl ?_
  refine Wp.aload_n dL_law_499 rfl (by first | exact Or.inr ⟨_, rfl⟩ | exact Or.inl rfl) rfl ?_
  refine Wp.iload_n dL_law_500 rfl rfl ?_
  refine Wp.iconst (v := (nI 2)) dL_law_501 (by decide) rfl ?_
  refine Wp.iadd dL_law_502 rfl ?_
  refine Wp.roload dL_law_503 hb (nI_aT (by omega)) (by omega) rfl ?_
  refine Wp.cV dL_law_504 cv_L_65 rfl (by omega) rfl (Nat.le_of_ble_eq_true rfl) (Nat.le_of_ble_eq_true rfl) hM1.ob rfl (c_X12_offerTold (d := 100 - 1) hM1 hP hW (by omega)) ?_
  rintro _ h2 ⟨rfl, V2, G2, Z2, hM2, hP2, o2⟩
  have hp2 := hp1.out o2
  dsimp only [Option.toList, List.drop, List.cons_append, List.nil_append]
  refine Wp.icmp_eq (tgt := 1495) (n := 510) dL_law_507 (by decide) rfl (fun _ => ?_) (fun c_ => absurd rfl c_)
  exact nx _ _ _ _ _ hp2 hM2 hP2 hW
set_option maxHeartbeats 1000000 in
theorem law_choice {B : ev_B} {b L i x a0 w0 j : Nat} {f : Nat → Int32} {h : ev_H} {V : Nat → Value} {G : Nat → Nat → Int32} {Z : Nat → Nat → Int64} {σ : Sg} {Q : Option Value → ev_H → Prop} (hsta : ev_sta B) (hb : B.2.2 b = some (L, f)) (hi : i + 6 ≤ L) (hL : L ≤ 3072) (hp : PSx (XR x) w0 h a0 σ j) (hM : MH h x V G Z) (hP : PM σ V G Z) (hW : Wf σ) (hj : j + 1 ≤ 600) (nx : ∀ (h' : ev_H) (σ' : Sg) (V' : Nat → Value) (G' : Nat → Nat → Int32) (Z' : Nat → Nat → Int64), PSx (XR x) w0 h' a0 σ' (j + 1) → MH h' x V' G' Z' → PM σ' V' G' Z' → Wf σ' → Wp B 100 M_law 1495 [some (.ref b), some (.ref a0), some (.ref x), some (.int (nI i))] [] h' Q) :
    Wp B 100 M_law 512 [some (.ref b), some (.ref a0), some (.ref x), some (.int (nI i))] [] h Q := by
  obtain ⟨Vb, hVb⟩ := hp.ob
  refine Wp.aload_n dL_law_512 rfl (by first | exact Or.inr ⟨_, rfl⟩ | exact Or.inl rfl) rfl ?_
  refine Wp.aload_n dL_law_513 rfl (by first | exact Or.inr ⟨_, rfl⟩ | exact Or.inl rfl) rfl ?_
  refine Wp.iload_n dL_law_514 rfl rfl ?_
  refine Wp.iconst (v := (nI 1)) dL_law_515 (by decide) rfl ?_
  refine Wp.iadd dL_law_516 rfl ?_
  refine Wp.roload dL_law_517 hb (nI_aT (by omega)) (by omega) rfl ?_
  refine Wp.aload_n dL_law_518 rfl (by first | exact Or.inr ⟨_, rfl⟩ | exact Or.inl rfl) rfl ?_
  refine Wp.iload_n dL_law_519 rfl rfl ?_
  refine Wp.iconst (v := (nI 2)) dL_law_520 (by decide) rfl ?_
  refine Wp.iadd dL_law_521 rfl ?_
  refine Wp.roload dL_law_522 hb (nI_aT (by omega)) (by omega) rfl ?_
  refine Wp.cV dL_law_523 cv_L_66 rfl (by omega) rfl (Nat.le_of_ble_eq_true rfl) (Nat.le_of_ble_eq_true rfl) hVb rfl (c_X11_choice (d := 100 - 1) hp hW hj (by omega)) ?_
  rintro _ h1 ⟨rfl, x1, hp1⟩
  have hM1 := hM.fx x1
  dsimp only [Option.toList, List.drop, List.cons_append, List.nil_append]
  refine Wp.aload_n dL_law_526 rfl (by first | exact Or.inr ⟨_, rfl⟩ | exact Or.inl rfl) rfl ?_
  refine Wp.aload_n dL_law_527 rfl (by first | exact Or.inr ⟨_, rfl⟩ | exact Or.inl rfl) rfl ?_
  refine Wp.iload_n dL_law_528 rfl rfl ?_
  refine Wp.iconst (v := (nI 1)) dL_law_529 (by decide) rfl ?_
  refine Wp.iadd dL_law_530 rfl ?_
  refine Wp.roload dL_law_531 hb (nI_aT (by omega)) (by omega) rfl ?_
  refine Wp.aload_n dL_law_532 rfl (by first | exact Or.inr ⟨_, rfl⟩ | exact Or.inl rfl) rfl ?_
  refine Wp.iload_n dL_law_533 rfl rfl ?_
  refine Wp.iconst (v := (nI 2)) dL_law_534 (by decide) rfl ?_
  refine Wp.iadd dL_law_535 rfl ?_
  refine Wp.roload dL_law_536 hb (nI_aT (by omega)) (by omega) rfl ?_
  refine Wp.cV dL_law_537 cv_L_69 rfl (by omega) rfl (Nat.le_of_ble_eq_true rfl) (Nat.le_of_ble_eq_true rfl) hM1.ob rfl (c_X12_choice (d := 100 - 1) hM1 hP hW (by omega)) ?_
  rintro _ h2 ⟨rfl, V2, G2, Z2, hM2, hP2, o2⟩
  have hp2 := hp1.out o2
  dsimp only [Option.toList, List.drop, List.cons_append, List.nil_append]
  refine Wp.icmp_eq (tgt := 1495) (n := 543) dL_law_540 (by decide) rfl (fun _ => ?_) (fun c_ => absurd rfl c_)
  exact nx _ _ _ _ _ hp2 hM2 hP2 hW
set_option maxHeartbeats 1000000 in
theorem law_cost {B : ev_B} {b L i x a0 w0 j : Nat} {f : Nat → Int32} {h : ev_H} {V : Nat → Value} {G : Nat → Nat → Int32} {Z : Nat → Nat → Int64} {σ : Sg} {Q : Option Value → ev_H → Prop} (hsta : ev_sta B) (hb : B.2.2 b = some (L, f)) (hi : i + 6 ≤ L) (hL : L ≤ 3072) (hp : PSx (XR x) w0 h a0 σ j) (hM : MH h x V G Z) (hP : PM σ V G Z) (hW : Wf σ) (hj : j + 1 ≤ 600) (nx : ∀ (h' : ev_H) (σ' : Sg) (V' : Nat → Value) (G' : Nat → Nat → Int32) (Z' : Nat → Nat → Int64), PSx (XR x) w0 h' a0 σ' (j + 1) → MH h' x V' G' Z' → PM σ' V' G' Z' → Wf σ' → Wp B 100 M_law 1495 [some (.ref b), some (.ref a0), some (.ref x), some (.int (nI i))] [] h' Q) :
    Wp B 100 M_law 545 [some (.ref b), some (.ref a0), some (.ref x), some (.int (nI i))] [] h Q := by
  obtain ⟨Vb, hVb⟩ := hp.ob
  refine Wp.aload_n dL_law_545 rfl (by first | exact Or.inr ⟨_, rfl⟩ | exact Or.inl rfl) rfl ?_
  refine Wp.aload_n dL_law_546 rfl (by first | exact Or.inr ⟨_, rfl⟩ | exact Or.inl rfl) rfl ?_
  refine Wp.iload_n dL_law_547 rfl rfl ?_
  refine Wp.iconst (v := (nI 1)) dL_law_548 (by decide) rfl ?_
  refine Wp.iadd dL_law_549 rfl ?_
  refine Wp.roload dL_law_550 hb (nI_aT (by omega)) (by omega) rfl ?_
  refine Wp.aload_n dL_law_551 rfl (by first | exact Or.inr ⟨_, rfl⟩ | exact Or.inl rfl) rfl ?_
  refine Wp.iload_n dL_law_552 rfl rfl ?_
  refine Wp.iconst (v := (nI 2)) dL_law_553 (by decide) rfl ?_
  refine Wp.iadd dL_law_554 rfl ?_
  refine Wp.roload dL_law_555 hb (nI_aT (by omega)) (by omega) rfl ?_
  refine Wp.aload_n dL_law_556 rfl (by first | exact Or.inr ⟨_, rfl⟩ | exact Or.inl rfl) rfl ?_
  refine Wp.iload_n dL_law_557 rfl rfl ?_
  refine Wp.iconst (v := (nI 3)) dL_law_558 (by decide) rfl ?_
  refine Wp.iadd dL_law_559 rfl ?_
  refine Wp.roload dL_law_560 hb (nI_aT (by omega)) (by omega) rfl ?_
  refine Wp.aload_n dL_law_561 rfl (by first | exact Or.inr ⟨_, rfl⟩ | exact Or.inl rfl) rfl ?_
  refine Wp.iload_n dL_law_562 rfl rfl ?_
  refine Wp.iconst (v := (nI 4)) dL_law_563 (by decide) rfl ?_
  refine Wp.iadd dL_law_564 rfl ?_
  refine Wp.roload dL_law_565 hb (nI_aT (by omega)) (by omega) rfl ?_
  refine Wp.cV dL_law_566 cv_L_70 rfl (by omega) rfl (Nat.le_of_ble_eq_true rfl) (Nat.le_of_ble_eq_true rfl) hVb rfl (c_X11_cost (d := 100 - 1) hp hW hj (by omega)) ?_
  rintro _ h1 ⟨rfl, x1, hp1⟩
  have hM1 := hM.fx x1
  dsimp only [Option.toList, List.drop, List.cons_append, List.nil_append]
  refine Wp.aload_n dL_law_569 rfl (by first | exact Or.inr ⟨_, rfl⟩ | exact Or.inl rfl) rfl ?_
  refine Wp.aload_n dL_law_570 rfl (by first | exact Or.inr ⟨_, rfl⟩ | exact Or.inl rfl) rfl ?_
  refine Wp.iload_n dL_law_571 rfl rfl ?_
  refine Wp.iconst (v := (nI 1)) dL_law_572 (by decide) rfl ?_
  refine Wp.iadd dL_law_573 rfl ?_
  refine Wp.roload dL_law_574 hb (nI_aT (by omega)) (by omega) rfl ?_
  refine Wp.aload_n dL_law_575 rfl (by first | exact Or.inr ⟨_, rfl⟩ | exact Or.inl rfl) rfl ?_
  refine Wp.iload_n dL_law_576 rfl rfl ?_
  refine Wp.iconst (v := (nI 2)) dL_law_577 (by decide) rfl ?_
  refine Wp.iadd dL_law_578 rfl ?_
  refine Wp.roload dL_law_579 hb (nI_aT (by omega)) (by omega) rfl ?_
  refine Wp.aload_n dL_law_580 rfl (by first | exact Or.inr ⟨_, rfl⟩ | exact Or.inl rfl) rfl ?_
  refine Wp.iload_n dL_law_581 rfl rfl ?_
  refine Wp.iconst (v := (nI 3)) dL_law_582 (by decide) rfl ?_
  refine Wp.iadd dL_law_583 rfl ?_
  refine Wp.roload dL_law_584 hb (nI_aT (by omega)) (by omega) rfl ?_
  refine Wp.aload_n dL_law_585 rfl (by first | exact Or.inr ⟨_, rfl⟩ | exact Or.inl rfl) rfl ?_
  refine Wp.iload_n dL_law_586 rfl rfl ?_
  refine Wp.iconst (v := (nI 4)) dL_law_587 (by decide) rfl ?_
  refine Wp.iadd dL_law_588 rfl ?_
  refine Wp.roload dL_law_589 hb (nI_aT (by omega)) (by omega) rfl ?_
  refine Wp.cV dL_law_590 cv_L_74 rfl (by omega) rfl (Nat.le_of_ble_eq_true rfl) (Nat.le_of_ble_eq_true rfl) hM1.ob rfl (c_X12_cost (d := 100 - 1) hM1 hP hW (by omega)) ?_
  rintro _ h2 ⟨rfl, V2, G2, Z2, hM2, hP2, o2⟩
  have hp2 := hp1.out o2
  dsimp only [Option.toList, List.drop, List.cons_append, List.nil_append]
  refine Wp.lcmp_eq (tgt := 1495) (n := 597) dL_law_593 rfl dL_law_594 (by decide) rfl (fun _ => ?_) (fun c_ => absurd rfl c_)
  exact nx _ _ _ _ _ hp2 hM2 hP2 hW
set_option maxHeartbeats 1000000 in
theorem law_best {B : ev_B} {b L i x a0 w0 j : Nat} {f : Nat → Int32} {h : ev_H} {V : Nat → Value} {G : Nat → Nat → Int32} {Z : Nat → Nat → Int64} {σ : Sg} {Q : Option Value → ev_H → Prop} (hsta : ev_sta B) (hb : B.2.2 b = some (L, f)) (hi : i + 6 ≤ L) (hL : L ≤ 3072) (hp : PSx (XR x) w0 h a0 σ j) (hM : MH h x V G Z) (hP : PM σ V G Z) (hW : Wf σ) (hj : j + 1 ≤ 600) (nx : ∀ (h' : ev_H) (σ' : Sg) (V' : Nat → Value) (G' : Nat → Nat → Int32) (Z' : Nat → Nat → Int64), PSx (XR x) w0 h' a0 σ' (j + 1) → MH h' x V' G' Z' → PM σ' V' G' Z' → Wf σ' → Wp B 100 M_law 1495 [some (.ref b), some (.ref a0), some (.ref x), some (.int (nI i))] [] h' Q) :
    Wp B 100 M_law 599 [some (.ref b), some (.ref a0), some (.ref x), some (.int (nI i))] [] h Q := by
  obtain ⟨Vb, hVb⟩ := hp.ob
  refine Wp.aload_n dL_law_599 rfl (by first | exact Or.inr ⟨_, rfl⟩ | exact Or.inl rfl) rfl ?_
  refine Wp.aload_n dL_law_600 rfl (by first | exact Or.inr ⟨_, rfl⟩ | exact Or.inl rfl) rfl ?_
  refine Wp.iload_n dL_law_601 rfl rfl ?_
  refine Wp.iconst (v := (nI 1)) dL_law_602 (by decide) rfl ?_
  refine Wp.iadd dL_law_603 rfl ?_
  refine Wp.roload dL_law_604 hb (nI_aT (by omega)) (by omega) rfl ?_
  refine Wp.aload_n dL_law_605 rfl (by first | exact Or.inr ⟨_, rfl⟩ | exact Or.inl rfl) rfl ?_
  refine Wp.iload_n dL_law_606 rfl rfl ?_
  refine Wp.iconst (v := (nI 2)) dL_law_607 (by decide) rfl ?_
  refine Wp.iadd dL_law_608 rfl ?_
  refine Wp.roload dL_law_609 hb (nI_aT (by omega)) (by omega) rfl ?_
  refine Wp.aload_n dL_law_610 rfl (by first | exact Or.inr ⟨_, rfl⟩ | exact Or.inl rfl) rfl ?_
  refine Wp.iload_n dL_law_611 rfl rfl ?_
  refine Wp.iconst (v := (nI 3)) dL_law_612 (by decide) rfl ?_
  refine Wp.iadd dL_law_613 rfl ?_
  refine Wp.roload dL_law_614 hb (nI_aT (by omega)) (by omega) rfl ?_
  refine Wp.aload_n dL_law_615 rfl (by first | exact Or.inr ⟨_, rfl⟩ | exact Or.inl rfl) rfl ?_
  refine Wp.iload_n dL_law_616 rfl rfl ?_
  refine Wp.iconst (v := (nI 4)) dL_law_617 (by decide) rfl ?_
  refine Wp.iadd dL_law_618 rfl ?_
  refine Wp.roload dL_law_619 hb (nI_aT (by omega)) (by omega) rfl ?_
  refine Wp.cV dL_law_620 cv_L_75 rfl (by omega) rfl (Nat.le_of_ble_eq_true rfl) (Nat.le_of_ble_eq_true rfl) hVb rfl (c_X11_best (d := 100 - 1) hp hW hj (by omega)) ?_
  rintro _ h1 ⟨rfl, x1, hp1⟩
  have hM1 := hM.fx x1
  dsimp only [Option.toList, List.drop, List.cons_append, List.nil_append]
  refine Wp.aload_n dL_law_623 rfl (by first | exact Or.inr ⟨_, rfl⟩ | exact Or.inl rfl) rfl ?_
  refine Wp.aload_n dL_law_624 rfl (by first | exact Or.inr ⟨_, rfl⟩ | exact Or.inl rfl) rfl ?_
  refine Wp.iload_n dL_law_625 rfl rfl ?_
  refine Wp.iconst (v := (nI 1)) dL_law_626 (by decide) rfl ?_
  refine Wp.iadd dL_law_627 rfl ?_
  refine Wp.roload dL_law_628 hb (nI_aT (by omega)) (by omega) rfl ?_
  refine Wp.aload_n dL_law_629 rfl (by first | exact Or.inr ⟨_, rfl⟩ | exact Or.inl rfl) rfl ?_
  refine Wp.iload_n dL_law_630 rfl rfl ?_
  refine Wp.iconst (v := (nI 2)) dL_law_631 (by decide) rfl ?_
  refine Wp.iadd dL_law_632 rfl ?_
  refine Wp.roload dL_law_633 hb (nI_aT (by omega)) (by omega) rfl ?_
  refine Wp.aload_n dL_law_634 rfl (by first | exact Or.inr ⟨_, rfl⟩ | exact Or.inl rfl) rfl ?_
  refine Wp.iload_n dL_law_635 rfl rfl ?_
  refine Wp.iconst (v := (nI 3)) dL_law_636 (by decide) rfl ?_
  refine Wp.iadd dL_law_637 rfl ?_
  refine Wp.roload dL_law_638 hb (nI_aT (by omega)) (by omega) rfl ?_
  refine Wp.aload_n dL_law_639 rfl (by first | exact Or.inr ⟨_, rfl⟩ | exact Or.inl rfl) rfl ?_
  refine Wp.iload_n dL_law_640 rfl rfl ?_
  refine Wp.iconst (v := (nI 4)) dL_law_641 (by decide) rfl ?_
  refine Wp.iadd dL_law_642 rfl ?_
  refine Wp.roload dL_law_643 hb (nI_aT (by omega)) (by omega) rfl ?_
  refine Wp.cV dL_law_644 cv_L_78 rfl (by omega) rfl (Nat.le_of_ble_eq_true rfl) (Nat.le_of_ble_eq_true rfl) hM1.ob rfl (c_X12_best (d := 100 - 1) hM1 hP hW (by omega)) ?_
  rintro _ h2 ⟨rfl, V2, G2, Z2, hM2, hP2, o2⟩
  have hp2 := hp1.out o2
  dsimp only [Option.toList, List.drop, List.cons_append, List.nil_append]
  refine Wp.icmp_eq (tgt := 1495) (n := 650) dL_law_647 (by decide) rfl (fun _ => ?_) (fun c_ => absurd rfl c_)
  exact nx _ _ _ _ _ hp2 hM2 hP2 hW
set_option maxHeartbeats 1000000 in
theorem law_least {B : ev_B} {b L i x a0 w0 j : Nat} {f : Nat → Int32} {h : ev_H} {V : Nat → Value} {G : Nat → Nat → Int32} {Z : Nat → Nat → Int64} {σ : Sg} {Q : Option Value → ev_H → Prop} (hsta : ev_sta B) (hb : B.2.2 b = some (L, f)) (hi : i + 6 ≤ L) (hL : L ≤ 3072) (hp : PSx (XR x) w0 h a0 σ j) (hM : MH h x V G Z) (hP : PM σ V G Z) (hW : Wf σ) (hj : j + 1 ≤ 600) (nx : ∀ (h' : ev_H) (σ' : Sg) (V' : Nat → Value) (G' : Nat → Nat → Int32) (Z' : Nat → Nat → Int64), PSx (XR x) w0 h' a0 σ' (j + 1) → MH h' x V' G' Z' → PM σ' V' G' Z' → Wf σ' → Wp B 100 M_law 1495 [some (.ref b), some (.ref a0), some (.ref x), some (.int (nI i))] [] h' Q) :
    Wp B 100 M_law 652 [some (.ref b), some (.ref a0), some (.ref x), some (.int (nI i))] [] h Q := by
  obtain ⟨Vb, hVb⟩ := hp.ob
  refine Wp.aload_n dL_law_652 rfl (by first | exact Or.inr ⟨_, rfl⟩ | exact Or.inl rfl) rfl ?_
  refine Wp.aload_n dL_law_653 rfl (by first | exact Or.inr ⟨_, rfl⟩ | exact Or.inl rfl) rfl ?_
  refine Wp.iload_n dL_law_654 rfl rfl ?_
  refine Wp.iconst (v := (nI 1)) dL_law_655 (by decide) rfl ?_
  refine Wp.iadd dL_law_656 rfl ?_
  refine Wp.roload dL_law_657 hb (nI_aT (by omega)) (by omega) rfl ?_
  refine Wp.aload_n dL_law_658 rfl (by first | exact Or.inr ⟨_, rfl⟩ | exact Or.inl rfl) rfl ?_
  refine Wp.iload_n dL_law_659 rfl rfl ?_
  refine Wp.iconst (v := (nI 2)) dL_law_660 (by decide) rfl ?_
  refine Wp.iadd dL_law_661 rfl ?_
  refine Wp.roload dL_law_662 hb (nI_aT (by omega)) (by omega) rfl ?_
  refine Wp.aload_n dL_law_663 rfl (by first | exact Or.inr ⟨_, rfl⟩ | exact Or.inl rfl) rfl ?_
  refine Wp.iload_n dL_law_664 rfl rfl ?_
  refine Wp.iconst (v := (nI 3)) dL_law_665 (by decide) rfl ?_
  refine Wp.iadd dL_law_666 rfl ?_
  refine Wp.roload dL_law_667 hb (nI_aT (by omega)) (by omega) rfl ?_
  refine Wp.aload_n dL_law_668 rfl (by first | exact Or.inr ⟨_, rfl⟩ | exact Or.inl rfl) rfl ?_
  refine Wp.iload_n dL_law_669 rfl rfl ?_
  refine Wp.iconst (v := (nI 4)) dL_law_670 (by decide) rfl ?_
  refine Wp.iadd dL_law_671 rfl ?_
  refine Wp.roload dL_law_672 hb (nI_aT (by omega)) (by omega) rfl ?_
  refine Wp.cV dL_law_673 cv_L_79 rfl (by omega) rfl (Nat.le_of_ble_eq_true rfl) (Nat.le_of_ble_eq_true rfl) hVb rfl (c_X11_least (d := 100 - 1) hp hW hj (by omega)) ?_
  rintro _ h1 ⟨rfl, x1, hp1⟩
  have hM1 := hM.fx x1
  dsimp only [Option.toList, List.drop, List.cons_append, List.nil_append]
  refine Wp.aload_n dL_law_676 rfl (by first | exact Or.inr ⟨_, rfl⟩ | exact Or.inl rfl) rfl ?_
  refine Wp.aload_n dL_law_677 rfl (by first | exact Or.inr ⟨_, rfl⟩ | exact Or.inl rfl) rfl ?_
  refine Wp.iload_n dL_law_678 rfl rfl ?_
  refine Wp.iconst (v := (nI 1)) dL_law_679 (by decide) rfl ?_
  refine Wp.iadd dL_law_680 rfl ?_
  refine Wp.roload dL_law_681 hb (nI_aT (by omega)) (by omega) rfl ?_
  refine Wp.aload_n dL_law_682 rfl (by first | exact Or.inr ⟨_, rfl⟩ | exact Or.inl rfl) rfl ?_
  refine Wp.iload_n dL_law_683 rfl rfl ?_
  refine Wp.iconst (v := (nI 2)) dL_law_684 (by decide) rfl ?_
  refine Wp.iadd dL_law_685 rfl ?_
  refine Wp.roload dL_law_686 hb (nI_aT (by omega)) (by omega) rfl ?_
  refine Wp.aload_n dL_law_687 rfl (by first | exact Or.inr ⟨_, rfl⟩ | exact Or.inl rfl) rfl ?_
  refine Wp.iload_n dL_law_688 rfl rfl ?_
  refine Wp.iconst (v := (nI 3)) dL_law_689 (by decide) rfl ?_
  refine Wp.iadd dL_law_690 rfl ?_
  refine Wp.roload dL_law_691 hb (nI_aT (by omega)) (by omega) rfl ?_
  refine Wp.aload_n dL_law_692 rfl (by first | exact Or.inr ⟨_, rfl⟩ | exact Or.inl rfl) rfl ?_
  refine Wp.iload_n dL_law_693 rfl rfl ?_
  refine Wp.iconst (v := (nI 4)) dL_law_694 (by decide) rfl ?_
  refine Wp.iadd dL_law_695 rfl ?_
  refine Wp.roload dL_law_696 hb (nI_aT (by omega)) (by omega) rfl ?_
  refine Wp.cV dL_law_697 cv_L_82 rfl (by omega) rfl (Nat.le_of_ble_eq_true rfl) (Nat.le_of_ble_eq_true rfl) hM1.ob rfl (c_X12_least (d := 100 - 1) hM1 hP hW (by omega)) ?_
  rintro _ h2 ⟨rfl, V2, G2, Z2, hM2, hP2, o2⟩
  have hp2 := hp1.out o2
  dsimp only [Option.toList, List.drop, List.cons_append, List.nil_append]
  refine Wp.lcmp_eq (tgt := 1495) (n := 704) dL_law_700 rfl dL_law_701 (by decide) rfl (fun _ => ?_) (fun c_ => absurd rfl c_)
  exact nx _ _ _ _ _ hp2 hM2 hP2 hW
set_option maxHeartbeats 1000000 in
theorem law_window {B : ev_B} {b L i x a0 w0 j : Nat} {f : Nat → Int32} {h : ev_H} {V : Nat → Value} {G : Nat → Nat → Int32} {Z : Nat → Nat → Int64} {σ : Sg} {Q : Option Value → ev_H → Prop} (hsta : ev_sta B) (hb : B.2.2 b = some (L, f)) (hi : i + 6 ≤ L) (hL : L ≤ 3072) (hp : PSx (XR x) w0 h a0 σ j) (hM : MH h x V G Z) (hP : PM σ V G Z) (hW : Wf σ) (hj : j + 1 ≤ 600) (nx : ∀ (h' : ev_H) (σ' : Sg) (V' : Nat → Value) (G' : Nat → Nat → Int32) (Z' : Nat → Nat → Int64), PSx (XR x) w0 h' a0 σ' (j + 1) → MH h' x V' G' Z' → PM σ' V' G' Z' → Wf σ' → Wp B 100 M_law 1495 [some (.ref b), some (.ref a0), some (.ref x), some (.int (nI i))] [] h' Q) :
    Wp B 100 M_law 706 [some (.ref b), some (.ref a0), some (.ref x), some (.int (nI i))] [] h Q := by
  obtain ⟨Vb, hVb⟩ := hp.ob
  refine Wp.aload_n dL_law_706 rfl (by first | exact Or.inr ⟨_, rfl⟩ | exact Or.inl rfl) rfl ?_
  refine Wp.aload_n dL_law_707 rfl (by first | exact Or.inr ⟨_, rfl⟩ | exact Or.inl rfl) rfl ?_
  refine Wp.iload_n dL_law_708 rfl rfl ?_
  refine Wp.iconst (v := (nI 1)) dL_law_709 (by decide) rfl ?_
  refine Wp.iadd dL_law_710 rfl ?_
  refine Wp.roload dL_law_711 hb (nI_aT (by omega)) (by omega) rfl ?_
  refine Wp.aload_n dL_law_712 rfl (by first | exact Or.inr ⟨_, rfl⟩ | exact Or.inl rfl) rfl ?_
  refine Wp.iload_n dL_law_713 rfl rfl ?_
  refine Wp.iconst (v := (nI 2)) dL_law_714 (by decide) rfl ?_
  refine Wp.iadd dL_law_715 rfl ?_
  refine Wp.roload dL_law_716 hb (nI_aT (by omega)) (by omega) rfl ?_
  refine Wp.aload_n dL_law_717 rfl (by first | exact Or.inr ⟨_, rfl⟩ | exact Or.inl rfl) rfl ?_
  refine Wp.iload_n dL_law_718 rfl rfl ?_
  refine Wp.iconst (v := (nI 3)) dL_law_719 (by decide) rfl ?_
  refine Wp.iadd dL_law_720 rfl ?_
  refine Wp.roload dL_law_721 hb (nI_aT (by omega)) (by omega) rfl ?_
  refine Wp.aload_n dL_law_722 rfl (by first | exact Or.inr ⟨_, rfl⟩ | exact Or.inl rfl) rfl ?_
  refine Wp.iload_n dL_law_723 rfl rfl ?_
  refine Wp.iconst (v := (nI 4)) dL_law_724 (by decide) rfl ?_
  refine Wp.iadd dL_law_725 rfl ?_
  refine Wp.roload dL_law_726 hb (nI_aT (by omega)) (by omega) rfl ?_
  refine Wp.cV dL_law_727 cv_L_83 rfl (by omega) rfl (Nat.le_of_ble_eq_true rfl) (Nat.le_of_ble_eq_true rfl) hVb rfl (c_X11_window (d := 100 - 1) hp hW hj (by omega)) ?_
  rintro _ h1 ⟨rfl, x1, hp1⟩
  have hM1 := hM.fx x1
  dsimp only [Option.toList, List.drop, List.cons_append, List.nil_append]
  refine Wp.aload_n dL_law_730 rfl (by first | exact Or.inr ⟨_, rfl⟩ | exact Or.inl rfl) rfl ?_
  refine Wp.aload_n dL_law_731 rfl (by first | exact Or.inr ⟨_, rfl⟩ | exact Or.inl rfl) rfl ?_
  refine Wp.iload_n dL_law_732 rfl rfl ?_
  refine Wp.iconst (v := (nI 1)) dL_law_733 (by decide) rfl ?_
  refine Wp.iadd dL_law_734 rfl ?_
  refine Wp.roload dL_law_735 hb (nI_aT (by omega)) (by omega) rfl ?_
  refine Wp.aload_n dL_law_736 rfl (by first | exact Or.inr ⟨_, rfl⟩ | exact Or.inl rfl) rfl ?_
  refine Wp.iload_n dL_law_737 rfl rfl ?_
  refine Wp.iconst (v := (nI 2)) dL_law_738 (by decide) rfl ?_
  refine Wp.iadd dL_law_739 rfl ?_
  refine Wp.roload dL_law_740 hb (nI_aT (by omega)) (by omega) rfl ?_
  refine Wp.aload_n dL_law_741 rfl (by first | exact Or.inr ⟨_, rfl⟩ | exact Or.inl rfl) rfl ?_
  refine Wp.iload_n dL_law_742 rfl rfl ?_
  refine Wp.iconst (v := (nI 3)) dL_law_743 (by decide) rfl ?_
  refine Wp.iadd dL_law_744 rfl ?_
  refine Wp.roload dL_law_745 hb (nI_aT (by omega)) (by omega) rfl ?_
  refine Wp.aload_n dL_law_746 rfl (by first | exact Or.inr ⟨_, rfl⟩ | exact Or.inl rfl) rfl ?_
  refine Wp.iload_n dL_law_747 rfl rfl ?_
  refine Wp.iconst (v := (nI 4)) dL_law_748 (by decide) rfl ?_
  refine Wp.iadd dL_law_749 rfl ?_
  refine Wp.roload dL_law_750 hb (nI_aT (by omega)) (by omega) rfl ?_
  refine Wp.cV dL_law_751 cv_L_86 rfl (by omega) rfl (Nat.le_of_ble_eq_true rfl) (Nat.le_of_ble_eq_true rfl) hM1.ob rfl (c_X12_window (d := 100 - 1) hM1 hP hW (by omega)) ?_
  rintro _ h2 ⟨rfl, V2, G2, Z2, hM2, hP2, o2⟩
  have hp2 := hp1.out o2
  dsimp only [Option.toList, List.drop, List.cons_append, List.nil_append]
  refine Wp.icmp_eq (tgt := 1495) (n := 757) dL_law_754 (by decide) rfl (fun _ => ?_) (fun c_ => absurd rfl c_)
  exact nx _ _ _ _ _ hp2 hM2 hP2 (W_window hW)
set_option maxHeartbeats 1000000 in
theorem law_bends {B : ev_B} {b L i x a0 w0 j : Nat} {f : Nat → Int32} {h : ev_H} {V : Nat → Value} {G : Nat → Nat → Int32} {Z : Nat → Nat → Int64} {σ : Sg} {Q : Option Value → ev_H → Prop} (hsta : ev_sta B) (hb : B.2.2 b = some (L, f)) (hi : i + 6 ≤ L) (hL : L ≤ 3072) (hp : PSx (XR x) w0 h a0 σ j) (hM : MH h x V G Z) (hP : PM σ V G Z) (hW : Wf σ) (hj : j + 1 ≤ 600) (nx : ∀ (h' : ev_H) (σ' : Sg) (V' : Nat → Value) (G' : Nat → Nat → Int32) (Z' : Nat → Nat → Int64), PSx (XR x) w0 h' a0 σ' (j + 1) → MH h' x V' G' Z' → PM σ' V' G' Z' → Wf σ' → Wp B 100 M_law 1495 [some (.ref b), some (.ref a0), some (.ref x), some (.int (nI i))] [] h' Q) :
    Wp B 100 M_law 759 [some (.ref b), some (.ref a0), some (.ref x), some (.int (nI i))] [] h Q := by
  obtain ⟨Vb, hVb⟩ := hp.ob
  refine Wp.aload_n dL_law_759 rfl (by first | exact Or.inr ⟨_, rfl⟩ | exact Or.inl rfl) rfl ?_
  refine Wp.aload_n dL_law_760 rfl (by first | exact Or.inr ⟨_, rfl⟩ | exact Or.inl rfl) rfl ?_
  refine Wp.iload_n dL_law_761 rfl rfl ?_
  refine Wp.iconst (v := (nI 1)) dL_law_762 (by decide) rfl ?_
  refine Wp.iadd dL_law_763 rfl ?_
  refine Wp.roload dL_law_764 hb (nI_aT (by omega)) (by omega) rfl ?_
  refine Wp.cV dL_law_765 cv_L_87 rfl (by omega) rfl (Nat.le_of_ble_eq_true rfl) (Nat.le_of_ble_eq_true rfl) hVb rfl (c_X11_bends (d := 100 - 1) hp hW hj (by omega)) ?_
  rintro _ h1 ⟨rfl, x1, hp1⟩
  have hM1 := hM.fx x1
  dsimp only [Option.toList, List.drop, List.cons_append, List.nil_append]
  refine Wp.aload_n dL_law_768 rfl (by first | exact Or.inr ⟨_, rfl⟩ | exact Or.inl rfl) rfl ?_
  refine Wp.aload_n dL_law_769 rfl (by first | exact Or.inr ⟨_, rfl⟩ | exact Or.inl rfl) rfl ?_
  refine Wp.iload_n dL_law_770 rfl rfl ?_
  refine Wp.iconst (v := (nI 1)) dL_law_771 (by decide) rfl ?_
  refine Wp.iadd dL_law_772 rfl ?_
  refine Wp.roload dL_law_773 hb (nI_aT (by omega)) (by omega) rfl ?_
  refine Wp.cV dL_law_774 cv_L_90 rfl (by omega) rfl (Nat.le_of_ble_eq_true rfl) (Nat.le_of_ble_eq_true rfl) hM1.ob rfl (c_X12_bends (d := 100 - 1) hM1 hP hW (by omega)) ?_
  rintro _ h2 ⟨rfl, V2, G2, Z2, hM2, hP2, o2⟩
  have hp2 := hp1.out o2
  dsimp only [Option.toList, List.drop, List.cons_append, List.nil_append]
  refine Wp.icmp_eq (tgt := 1495) (n := 780) dL_law_777 (by decide) rfl (fun _ => ?_) (fun c_ => absurd rfl c_)
  exact nx _ _ _ _ _ hp2 hM2 hP2 hW
set_option maxHeartbeats 1000000 in
theorem law_bend {B : ev_B} {b L i x a0 w0 j : Nat} {f : Nat → Int32} {h : ev_H} {V : Nat → Value} {G : Nat → Nat → Int32} {Z : Nat → Nat → Int64} {σ : Sg} {Q : Option Value → ev_H → Prop} (hsta : ev_sta B) (hb : B.2.2 b = some (L, f)) (hi : i + 6 ≤ L) (hL : L ≤ 3072) (hp : PSx (XR x) w0 h a0 σ j) (hM : MH h x V G Z) (hP : PM σ V G Z) (hW : Wf σ) (hj : j + 1 ≤ 600) (nx : ∀ (h' : ev_H) (σ' : Sg) (V' : Nat → Value) (G' : Nat → Nat → Int32) (Z' : Nat → Nat → Int64), PSx (XR x) w0 h' a0 σ' (j + 1) → MH h' x V' G' Z' → PM σ' V' G' Z' → Wf σ' → Wp B 100 M_law 1495 [some (.ref b), some (.ref a0), some (.ref x), some (.int (nI i))] [] h' Q) :
    Wp B 100 M_law 782 [some (.ref b), some (.ref a0), some (.ref x), some (.int (nI i))] [] h Q := by
  obtain ⟨Vb, hVb⟩ := hp.ob
  refine Wp.aload_n dL_law_782 rfl (by first | exact Or.inr ⟨_, rfl⟩ | exact Or.inl rfl) rfl ?_
  refine Wp.aload_n dL_law_783 rfl (by first | exact Or.inr ⟨_, rfl⟩ | exact Or.inl rfl) rfl ?_
  refine Wp.iload_n dL_law_784 rfl rfl ?_
  refine Wp.iconst (v := (nI 1)) dL_law_785 (by decide) rfl ?_
  refine Wp.iadd dL_law_786 rfl ?_
  refine Wp.roload dL_law_787 hb (nI_aT (by omega)) (by omega) rfl ?_
  refine Wp.aload_n dL_law_788 rfl (by first | exact Or.inr ⟨_, rfl⟩ | exact Or.inl rfl) rfl ?_
  refine Wp.iload_n dL_law_789 rfl rfl ?_
  refine Wp.iconst (v := (nI 2)) dL_law_790 (by decide) rfl ?_
  refine Wp.iadd dL_law_791 rfl ?_
  refine Wp.roload dL_law_792 hb (nI_aT (by omega)) (by omega) rfl ?_
  refine Wp.aload_n dL_law_793 rfl (by first | exact Or.inr ⟨_, rfl⟩ | exact Or.inl rfl) rfl ?_
  refine Wp.iload_n dL_law_794 rfl rfl ?_
  refine Wp.iconst (v := (nI 3)) dL_law_795 (by decide) rfl ?_
  refine Wp.iadd dL_law_796 rfl ?_
  refine Wp.roload dL_law_797 hb (nI_aT (by omega)) (by omega) rfl ?_
  refine Wp.cV dL_law_798 cv_L_91 rfl (by omega) rfl (Nat.le_of_ble_eq_true rfl) (Nat.le_of_ble_eq_true rfl) hVb rfl (c_X11_bend (d := 100 - 1) hp hW hj (by omega)) ?_
  rintro _ h1 ⟨rfl, x1, hp1⟩
  have hM1 := hM.fx x1
  dsimp only [Option.toList, List.drop, List.cons_append, List.nil_append]
  refine Wp.aload_n dL_law_801 rfl (by first | exact Or.inr ⟨_, rfl⟩ | exact Or.inl rfl) rfl ?_
  refine Wp.aload_n dL_law_802 rfl (by first | exact Or.inr ⟨_, rfl⟩ | exact Or.inl rfl) rfl ?_
  refine Wp.iload_n dL_law_803 rfl rfl ?_
  refine Wp.iconst (v := (nI 1)) dL_law_804 (by decide) rfl ?_
  refine Wp.iadd dL_law_805 rfl ?_
  refine Wp.roload dL_law_806 hb (nI_aT (by omega)) (by omega) rfl ?_
  refine Wp.aload_n dL_law_807 rfl (by first | exact Or.inr ⟨_, rfl⟩ | exact Or.inl rfl) rfl ?_
  refine Wp.iload_n dL_law_808 rfl rfl ?_
  refine Wp.iconst (v := (nI 2)) dL_law_809 (by decide) rfl ?_
  refine Wp.iadd dL_law_810 rfl ?_
  refine Wp.roload dL_law_811 hb (nI_aT (by omega)) (by omega) rfl ?_
  refine Wp.aload_n dL_law_812 rfl (by first | exact Or.inr ⟨_, rfl⟩ | exact Or.inl rfl) rfl ?_
  refine Wp.iload_n dL_law_813 rfl rfl ?_
  refine Wp.iconst (v := (nI 3)) dL_law_814 (by decide) rfl ?_
  refine Wp.iadd dL_law_815 rfl ?_
  refine Wp.roload dL_law_816 hb (nI_aT (by omega)) (by omega) rfl ?_
  refine Wp.cV dL_law_817 cv_L_95 rfl (by omega) rfl (Nat.le_of_ble_eq_true rfl) (Nat.le_of_ble_eq_true rfl) hM1.ob rfl (c_X12_bend (d := 100 - 1) hM1 hP hW (by omega)) ?_
  rintro _ h2 ⟨rfl, V2, G2, Z2, hM2, hP2, o2⟩
  have hp2 := hp1.out o2
  dsimp only [Option.toList, List.drop, List.cons_append, List.nil_append]
  refine Wp.lcmp_eq (tgt := 1495) (n := 824) dL_law_820 rfl dL_law_821 (by decide) rfl (fun _ => ?_) (fun c_ => absurd rfl c_)
  exact nx _ _ _ _ _ hp2 hM2 hP2 hW
set_option maxHeartbeats 1000000 in
theorem law_span {B : ev_B} {b L i x a0 w0 j : Nat} {f : Nat → Int32} {h : ev_H} {V : Nat → Value} {G : Nat → Nat → Int32} {Z : Nat → Nat → Int64} {σ : Sg} {Q : Option Value → ev_H → Prop} (hsta : ev_sta B) (hb : B.2.2 b = some (L, f)) (hi : i + 6 ≤ L) (hL : L ≤ 3072) (hp : PSx (XR x) w0 h a0 σ j) (hM : MH h x V G Z) (hP : PM σ V G Z) (hW : Wf σ) (hj : j + 1 ≤ 600) (nx : ∀ (h' : ev_H) (σ' : Sg) (V' : Nat → Value) (G' : Nat → Nat → Int32) (Z' : Nat → Nat → Int64), PSx (XR x) w0 h' a0 σ' (j + 1) → MH h' x V' G' Z' → PM σ' V' G' Z' → Wf σ' → Wp B 100 M_law 1495 [some (.ref b), some (.ref a0), some (.ref x), some (.int (nI i))] [] h' Q) :
    Wp B 100 M_law 826 [some (.ref b), some (.ref a0), some (.ref x), some (.int (nI i))] [] h Q := by
  obtain ⟨Vb, hVb⟩ := hp.ob
  refine Wp.aload_n dL_law_826 rfl (by first | exact Or.inr ⟨_, rfl⟩ | exact Or.inl rfl) rfl ?_
  refine Wp.aload_n dL_law_827 rfl (by first | exact Or.inr ⟨_, rfl⟩ | exact Or.inl rfl) rfl ?_
  refine Wp.iload_n dL_law_828 rfl rfl ?_
  refine Wp.iconst (v := (nI 1)) dL_law_829 (by decide) rfl ?_
  refine Wp.iadd dL_law_830 rfl ?_
  refine Wp.roload dL_law_831 hb (nI_aT (by omega)) (by omega) rfl ?_
  refine Wp.aload_n dL_law_832 rfl (by first | exact Or.inr ⟨_, rfl⟩ | exact Or.inl rfl) rfl ?_
  refine Wp.iload_n dL_law_833 rfl rfl ?_
  refine Wp.iconst (v := (nI 2)) dL_law_834 (by decide) rfl ?_
  refine Wp.iadd dL_law_835 rfl ?_
  refine Wp.roload dL_law_836 hb (nI_aT (by omega)) (by omega) rfl ?_
  refine Wp.aload_n dL_law_837 rfl (by first | exact Or.inr ⟨_, rfl⟩ | exact Or.inl rfl) rfl ?_
  refine Wp.iload_n dL_law_838 rfl rfl ?_
  refine Wp.iconst (v := (nI 3)) dL_law_839 (by decide) rfl ?_
  refine Wp.iadd dL_law_840 rfl ?_
  refine Wp.roload dL_law_841 hb (nI_aT (by omega)) (by omega) rfl ?_
  refine Wp.cV dL_law_842 cv_L_96 rfl (by omega) rfl (Nat.le_of_ble_eq_true rfl) (Nat.le_of_ble_eq_true rfl) hVb rfl (c_X11_span (d := 100 - 1) hp hW hj (by omega)) ?_
  rintro _ h1 ⟨rfl, x1, hp1⟩
  have hM1 := hM.fx x1
  dsimp only [Option.toList, List.drop, List.cons_append, List.nil_append]
  refine Wp.aload_n dL_law_845 rfl (by first | exact Or.inr ⟨_, rfl⟩ | exact Or.inl rfl) rfl ?_
  refine Wp.aload_n dL_law_846 rfl (by first | exact Or.inr ⟨_, rfl⟩ | exact Or.inl rfl) rfl ?_
  refine Wp.iload_n dL_law_847 rfl rfl ?_
  refine Wp.iconst (v := (nI 1)) dL_law_848 (by decide) rfl ?_
  refine Wp.iadd dL_law_849 rfl ?_
  refine Wp.roload dL_law_850 hb (nI_aT (by omega)) (by omega) rfl ?_
  refine Wp.aload_n dL_law_851 rfl (by first | exact Or.inr ⟨_, rfl⟩ | exact Or.inl rfl) rfl ?_
  refine Wp.iload_n dL_law_852 rfl rfl ?_
  refine Wp.iconst (v := (nI 2)) dL_law_853 (by decide) rfl ?_
  refine Wp.iadd dL_law_854 rfl ?_
  refine Wp.roload dL_law_855 hb (nI_aT (by omega)) (by omega) rfl ?_
  refine Wp.aload_n dL_law_856 rfl (by first | exact Or.inr ⟨_, rfl⟩ | exact Or.inl rfl) rfl ?_
  refine Wp.iload_n dL_law_857 rfl rfl ?_
  refine Wp.iconst (v := (nI 3)) dL_law_858 (by decide) rfl ?_
  refine Wp.iadd dL_law_859 rfl ?_
  refine Wp.roload dL_law_860 hb (nI_aT (by omega)) (by omega) rfl ?_
  refine Wp.cV dL_law_861 cv_L_99 rfl (by omega) rfl (Nat.le_of_ble_eq_true rfl) (Nat.le_of_ble_eq_true rfl) hM1.ob rfl (c_X12_span (d := 100 - 1) hM1 hP hW (by omega)) ?_
  rintro _ h2 ⟨rfl, V2, G2, Z2, hM2, hP2, o2⟩
  have hp2 := hp1.out o2
  dsimp only [Option.toList, List.drop, List.cons_append, List.nil_append]
  refine Wp.lcmp_eq (tgt := 1495) (n := 868) dL_law_864 rfl dL_law_865 (by decide) rfl (fun _ => ?_) (fun c_ => absurd rfl c_)
  exact nx _ _ _ _ _ hp2 hM2 hP2 hW
set_option maxHeartbeats 1000000 in
theorem law_top {B : ev_B} {b L i x a0 w0 j : Nat} {f : Nat → Int32} {h : ev_H} {V : Nat → Value} {G : Nat → Nat → Int32} {Z : Nat → Nat → Int64} {σ : Sg} {Q : Option Value → ev_H → Prop} (hsta : ev_sta B) (hb : B.2.2 b = some (L, f)) (hi : i + 6 ≤ L) (hL : L ≤ 3072) (hp : PSx (XR x) w0 h a0 σ j) (hM : MH h x V G Z) (hP : PM σ V G Z) (hW : Wf σ) (hj : j + 1 ≤ 600) (nx : ∀ (h' : ev_H) (σ' : Sg) (V' : Nat → Value) (G' : Nat → Nat → Int32) (Z' : Nat → Nat → Int64), PSx (XR x) w0 h' a0 σ' (j + 1) → MH h' x V' G' Z' → PM σ' V' G' Z' → Wf σ' → Wp B 100 M_law 1495 [some (.ref b), some (.ref a0), some (.ref x), some (.int (nI i))] [] h' Q) :
    Wp B 100 M_law 870 [some (.ref b), some (.ref a0), some (.ref x), some (.int (nI i))] [] h Q := by
  obtain ⟨Vb, hVb⟩ := hp.ob
  refine Wp.aload_n dL_law_870 rfl (by first | exact Or.inr ⟨_, rfl⟩ | exact Or.inl rfl) rfl ?_
  refine Wp.aload_n dL_law_871 rfl (by first | exact Or.inr ⟨_, rfl⟩ | exact Or.inl rfl) rfl ?_
  refine Wp.iload_n dL_law_872 rfl rfl ?_
  refine Wp.iconst (v := (nI 1)) dL_law_873 (by decide) rfl ?_
  refine Wp.iadd dL_law_874 rfl ?_
  refine Wp.roload dL_law_875 hb (nI_aT (by omega)) (by omega) rfl ?_
  refine Wp.aload_n dL_law_876 rfl (by first | exact Or.inr ⟨_, rfl⟩ | exact Or.inl rfl) rfl ?_
  refine Wp.iload_n dL_law_877 rfl rfl ?_
  refine Wp.iconst (v := (nI 2)) dL_law_878 (by decide) rfl ?_
  refine Wp.iadd dL_law_879 rfl ?_
  refine Wp.roload dL_law_880 hb (nI_aT (by omega)) (by omega) rfl ?_
  refine Wp.cV dL_law_881 cv_L_100 rfl (by omega) rfl (Nat.le_of_ble_eq_true rfl) (Nat.le_of_ble_eq_true rfl) hVb rfl (c_X11_top (d := 100 - 1) hp hW hj (by omega)) ?_
  rintro _ h1 ⟨rfl, x1, hp1⟩
  have hM1 := hM.fx x1
  dsimp only [Option.toList, List.drop, List.cons_append, List.nil_append]
  refine Wp.aload_n dL_law_884 rfl (by first | exact Or.inr ⟨_, rfl⟩ | exact Or.inl rfl) rfl ?_
  refine Wp.aload_n dL_law_885 rfl (by first | exact Or.inr ⟨_, rfl⟩ | exact Or.inl rfl) rfl ?_
  refine Wp.iload_n dL_law_886 rfl rfl ?_
  refine Wp.iconst (v := (nI 1)) dL_law_887 (by decide) rfl ?_
  refine Wp.iadd dL_law_888 rfl ?_
  refine Wp.roload dL_law_889 hb (nI_aT (by omega)) (by omega) rfl ?_
  refine Wp.aload_n dL_law_890 rfl (by first | exact Or.inr ⟨_, rfl⟩ | exact Or.inl rfl) rfl ?_
  refine Wp.iload_n dL_law_891 rfl rfl ?_
  refine Wp.iconst (v := (nI 2)) dL_law_892 (by decide) rfl ?_
  refine Wp.iadd dL_law_893 rfl ?_
  refine Wp.roload dL_law_894 hb (nI_aT (by omega)) (by omega) rfl ?_
  refine Wp.cV dL_law_895 cv_L_104 rfl (by omega) rfl (Nat.le_of_ble_eq_true rfl) (Nat.le_of_ble_eq_true rfl) hM1.ob rfl (c_X12_top (d := 100 - 1) hM1 hP hW (by omega)) ?_
  rintro _ h2 ⟨rfl, V2, G2, Z2, hM2, hP2, o2⟩
  have hp2 := hp1.out o2
  dsimp only [Option.toList, List.drop, List.cons_append, List.nil_append]
  refine Wp.lcmp_eq (tgt := 1495) (n := 902) dL_law_898 rfl dL_law_899 (by decide) rfl (fun _ => ?_) (fun c_ => absurd rfl c_)
  exact nx _ _ _ _ _ hp2 hM2 hP2 hW
set_option maxHeartbeats 1000000 in
theorem law_ratio {B : ev_B} {b L i x a0 w0 j : Nat} {f : Nat → Int32} {h : ev_H} {V : Nat → Value} {G : Nat → Nat → Int32} {Z : Nat → Nat → Int64} {σ : Sg} {Q : Option Value → ev_H → Prop} (hsta : ev_sta B) (hb : B.2.2 b = some (L, f)) (hi : i + 6 ≤ L) (hL : L ≤ 3072) (hp : PSx (XR x) w0 h a0 σ j) (hM : MH h x V G Z) (hP : PM σ V G Z) (hW : Wf σ) (hj : j + 1 ≤ 600) (nx : ∀ (h' : ev_H) (σ' : Sg) (V' : Nat → Value) (G' : Nat → Nat → Int32) (Z' : Nat → Nat → Int64), PSx (XR x) w0 h' a0 σ' (j + 1) → MH h' x V' G' Z' → PM σ' V' G' Z' → Wf σ' → Wp B 100 M_law 1495 [some (.ref b), some (.ref a0), some (.ref x), some (.int (nI i))] [] h' Q) :
    Wp B 100 M_law 904 [some (.ref b), some (.ref a0), some (.ref x), some (.int (nI i))] [] h Q := by
  obtain ⟨Vb, hVb⟩ := hp.ob
  refine Wp.aload_n dL_law_904 rfl (by first | exact Or.inr ⟨_, rfl⟩ | exact Or.inl rfl) rfl ?_
  refine Wp.aload_n dL_law_905 rfl (by first | exact Or.inr ⟨_, rfl⟩ | exact Or.inl rfl) rfl ?_
  refine Wp.iload_n dL_law_906 rfl rfl ?_
  refine Wp.iconst (v := (nI 1)) dL_law_907 (by decide) rfl ?_
  refine Wp.iadd dL_law_908 rfl ?_
  refine Wp.roload dL_law_909 hb (nI_aT (by omega)) (by omega) rfl ?_
  refine Wp.aload_n dL_law_910 rfl (by first | exact Or.inr ⟨_, rfl⟩ | exact Or.inl rfl) rfl ?_
  refine Wp.iload_n dL_law_911 rfl rfl ?_
  refine Wp.iconst (v := (nI 2)) dL_law_912 (by decide) rfl ?_
  refine Wp.iadd dL_law_913 rfl ?_
  refine Wp.roload dL_law_914 hb (nI_aT (by omega)) (by omega) rfl ?_
  refine Wp.cV dL_law_915 cv_L_105 rfl (by omega) rfl (Nat.le_of_ble_eq_true rfl) (Nat.le_of_ble_eq_true rfl) hVb rfl (c_X11_ratio (d := 100 - 1) hp hW hj (by omega)) ?_
  rintro _ h1 ⟨rfl, x1, hp1⟩
  have hM1 := hM.fx x1
  dsimp only [Option.toList, List.drop, List.cons_append, List.nil_append]
  refine Wp.aload_n dL_law_918 rfl (by first | exact Or.inr ⟨_, rfl⟩ | exact Or.inl rfl) rfl ?_
  refine Wp.aload_n dL_law_919 rfl (by first | exact Or.inr ⟨_, rfl⟩ | exact Or.inl rfl) rfl ?_
  refine Wp.iload_n dL_law_920 rfl rfl ?_
  refine Wp.iconst (v := (nI 1)) dL_law_921 (by decide) rfl ?_
  refine Wp.iadd dL_law_922 rfl ?_
  refine Wp.roload dL_law_923 hb (nI_aT (by omega)) (by omega) rfl ?_
  refine Wp.aload_n dL_law_924 rfl (by first | exact Or.inr ⟨_, rfl⟩ | exact Or.inl rfl) rfl ?_
  refine Wp.iload_n dL_law_925 rfl rfl ?_
  refine Wp.iconst (v := (nI 2)) dL_law_926 (by decide) rfl ?_
  refine Wp.iadd dL_law_927 rfl ?_
  refine Wp.roload dL_law_928 hb (nI_aT (by omega)) (by omega) rfl ?_
  refine Wp.cV dL_law_929 cv_L_108 rfl (by omega) rfl (Nat.le_of_ble_eq_true rfl) (Nat.le_of_ble_eq_true rfl) hM1.ob rfl (c_X12_ratio (d := 100 - 1) hM1 hP hW (by omega)) ?_
  rintro _ h2 ⟨rfl, V2, G2, Z2, hM2, hP2, o2⟩
  have hp2 := hp1.out o2
  dsimp only [Option.toList, List.drop, List.cons_append, List.nil_append]
  refine Wp.lcmp_eq (tgt := 1495) (n := 936) dL_law_932 rfl dL_law_933 (by decide) rfl (fun _ => ?_) (fun c_ => absurd rfl c_)
  exact nx _ _ _ _ _ hp2 hM2 hP2 hW
set_option maxHeartbeats 1000000 in
theorem law_regret {B : ev_B} {b L i x a0 w0 j : Nat} {f : Nat → Int32} {h : ev_H} {V : Nat → Value} {G : Nat → Nat → Int32} {Z : Nat → Nat → Int64} {σ : Sg} {Q : Option Value → ev_H → Prop} (hsta : ev_sta B) (hb : B.2.2 b = some (L, f)) (hi : i + 6 ≤ L) (hL : L ≤ 3072) (hp : PSx (XR x) w0 h a0 σ j) (hM : MH h x V G Z) (hP : PM σ V G Z) (hW : Wf σ) (hj : j + 1 ≤ 600) (nx : ∀ (h' : ev_H) (σ' : Sg) (V' : Nat → Value) (G' : Nat → Nat → Int32) (Z' : Nat → Nat → Int64), PSx (XR x) w0 h' a0 σ' (j + 1) → MH h' x V' G' Z' → PM σ' V' G' Z' → Wf σ' → Wp B 100 M_law 1495 [some (.ref b), some (.ref a0), some (.ref x), some (.int (nI i))] [] h' Q) :
    Wp B 100 M_law 938 [some (.ref b), some (.ref a0), some (.ref x), some (.int (nI i))] [] h Q := by
  obtain ⟨Vb, hVb⟩ := hp.ob
  refine Wp.aload_n dL_law_938 rfl (by first | exact Or.inr ⟨_, rfl⟩ | exact Or.inl rfl) rfl ?_
  refine Wp.aload_n dL_law_939 rfl (by first | exact Or.inr ⟨_, rfl⟩ | exact Or.inl rfl) rfl ?_
  refine Wp.iload_n dL_law_940 rfl rfl ?_
  refine Wp.iconst (v := (nI 1)) dL_law_941 (by decide) rfl ?_
  refine Wp.iadd dL_law_942 rfl ?_
  refine Wp.roload dL_law_943 hb (nI_aT (by omega)) (by omega) rfl ?_
  refine Wp.aload_n dL_law_944 rfl (by first | exact Or.inr ⟨_, rfl⟩ | exact Or.inl rfl) rfl ?_
  refine Wp.iload_n dL_law_945 rfl rfl ?_
  refine Wp.iconst (v := (nI 2)) dL_law_946 (by decide) rfl ?_
  refine Wp.iadd dL_law_947 rfl ?_
  refine Wp.roload dL_law_948 hb (nI_aT (by omega)) (by omega) rfl ?_
  refine Wp.aload_n dL_law_949 rfl (by first | exact Or.inr ⟨_, rfl⟩ | exact Or.inl rfl) rfl ?_
  refine Wp.iload_n dL_law_950 rfl rfl ?_
  refine Wp.iconst (v := (nI 3)) dL_law_951 (by decide) rfl ?_
  refine Wp.iadd dL_law_952 rfl ?_
  refine Wp.roload dL_law_953 hb (nI_aT (by omega)) (by omega) rfl ?_
  refine Wp.cV dL_law_954 cv_L_109 rfl (by omega) rfl (Nat.le_of_ble_eq_true rfl) (Nat.le_of_ble_eq_true rfl) hVb rfl (c_X11_regret (d := 100 - 1) hp hW hj (by omega)) ?_
  rintro _ h1 ⟨rfl, x1, hp1⟩
  have hM1 := hM.fx x1
  dsimp only [Option.toList, List.drop, List.cons_append, List.nil_append]
  refine Wp.aload_n dL_law_957 rfl (by first | exact Or.inr ⟨_, rfl⟩ | exact Or.inl rfl) rfl ?_
  refine Wp.aload_n dL_law_958 rfl (by first | exact Or.inr ⟨_, rfl⟩ | exact Or.inl rfl) rfl ?_
  refine Wp.iload_n dL_law_959 rfl rfl ?_
  refine Wp.iconst (v := (nI 1)) dL_law_960 (by decide) rfl ?_
  refine Wp.iadd dL_law_961 rfl ?_
  refine Wp.roload dL_law_962 hb (nI_aT (by omega)) (by omega) rfl ?_
  refine Wp.aload_n dL_law_963 rfl (by first | exact Or.inr ⟨_, rfl⟩ | exact Or.inl rfl) rfl ?_
  refine Wp.iload_n dL_law_964 rfl rfl ?_
  refine Wp.iconst (v := (nI 2)) dL_law_965 (by decide) rfl ?_
  refine Wp.iadd dL_law_966 rfl ?_
  refine Wp.roload dL_law_967 hb (nI_aT (by omega)) (by omega) rfl ?_
  refine Wp.aload_n dL_law_968 rfl (by first | exact Or.inr ⟨_, rfl⟩ | exact Or.inl rfl) rfl ?_
  refine Wp.iload_n dL_law_969 rfl rfl ?_
  refine Wp.iconst (v := (nI 3)) dL_law_970 (by decide) rfl ?_
  refine Wp.iadd dL_law_971 rfl ?_
  refine Wp.roload dL_law_972 hb (nI_aT (by omega)) (by omega) rfl ?_
  refine Wp.cV dL_law_973 cv_L_112 rfl (by omega) rfl (Nat.le_of_ble_eq_true rfl) (Nat.le_of_ble_eq_true rfl) hM1.ob rfl (c_X12_regret (d := 100 - 1) hM1 hP hW (by omega)) ?_
  rintro _ h2 ⟨rfl, V2, G2, Z2, hM2, hP2, o2⟩
  have hp2 := hp1.out o2
  dsimp only [Option.toList, List.drop, List.cons_append, List.nil_append]
  refine Wp.lcmp_eq (tgt := 1495) (n := 980) dL_law_976 rfl dL_law_977 (by decide) rfl (fun _ => ?_) (fun c_ => absurd rfl c_)
  exact nx _ _ _ _ _ hp2 hM2 hP2 hW
set_option maxHeartbeats 1000000 in
theorem law_calm {B : ev_B} {b L i x a0 w0 j : Nat} {f : Nat → Int32} {h : ev_H} {V : Nat → Value} {G : Nat → Nat → Int32} {Z : Nat → Nat → Int64} {σ : Sg} {Q : Option Value → ev_H → Prop} (hsta : ev_sta B) (hb : B.2.2 b = some (L, f)) (hi : i + 6 ≤ L) (hL : L ≤ 3072) (hp : PSx (XR x) w0 h a0 σ j) (hM : MH h x V G Z) (hP : PM σ V G Z) (hW : Wf σ) (hj : j + 1 ≤ 600) (nx : ∀ (h' : ev_H) (σ' : Sg) (V' : Nat → Value) (G' : Nat → Nat → Int32) (Z' : Nat → Nat → Int64), PSx (XR x) w0 h' a0 σ' (j + 1) → MH h' x V' G' Z' → PM σ' V' G' Z' → Wf σ' → Wp B 100 M_law 1495 [some (.ref b), some (.ref a0), some (.ref x), some (.int (nI i))] [] h' Q) :
    Wp B 100 M_law 982 [some (.ref b), some (.ref a0), some (.ref x), some (.int (nI i))] [] h Q := by
  obtain ⟨Vb, hVb⟩ := hp.ob
  refine Wp.aload_n dL_law_982 rfl (by first | exact Or.inr ⟨_, rfl⟩ | exact Or.inl rfl) rfl ?_
  refine Wp.aload_n dL_law_983 rfl (by first | exact Or.inr ⟨_, rfl⟩ | exact Or.inl rfl) rfl ?_
  refine Wp.iload_n dL_law_984 rfl rfl ?_
  refine Wp.iconst (v := (nI 1)) dL_law_985 (by decide) rfl ?_
  refine Wp.iadd dL_law_986 rfl ?_
  refine Wp.roload dL_law_987 hb (nI_aT (by omega)) (by omega) rfl ?_
  refine Wp.cV dL_law_988 cv_L_113 rfl (by omega) rfl (Nat.le_of_ble_eq_true rfl) (Nat.le_of_ble_eq_true rfl) hVb rfl (c_X11_calm (d := 100 - 1) hp hW hj (by omega)) ?_
  rintro _ h1 ⟨rfl, x1, hp1⟩
  have hM1 := hM.fx x1
  dsimp only [Option.toList, List.drop, List.cons_append, List.nil_append]
  refine Wp.aload_n dL_law_991 rfl (by first | exact Or.inr ⟨_, rfl⟩ | exact Or.inl rfl) rfl ?_
  refine Wp.aload_n dL_law_992 rfl (by first | exact Or.inr ⟨_, rfl⟩ | exact Or.inl rfl) rfl ?_
  refine Wp.iload_n dL_law_993 rfl rfl ?_
  refine Wp.iconst (v := (nI 1)) dL_law_994 (by decide) rfl ?_
  refine Wp.iadd dL_law_995 rfl ?_
  refine Wp.roload dL_law_996 hb (nI_aT (by omega)) (by omega) rfl ?_
  refine Wp.cV dL_law_997 cv_L_116 rfl (by omega) rfl (Nat.le_of_ble_eq_true rfl) (Nat.le_of_ble_eq_true rfl) hM1.ob rfl (c_X12_calm (d := 100 - 1) hM1 hP hW (by omega)) ?_
  rintro _ h2 ⟨rfl, V2, G2, Z2, hM2, hP2, o2⟩
  have hp2 := hp1.out o2
  dsimp only [Option.toList, List.drop, List.cons_append, List.nil_append]
  refine Wp.icmp_eq (tgt := 1495) (n := 1003) dL_law_1000 (by decide) rfl (fun _ => ?_) (fun c_ => absurd rfl c_)
  exact nx _ _ _ _ _ hp2 hM2 hP2 hW
set_option maxHeartbeats 1000000 in
theorem law_why {B : ev_B} {b L i x a0 w0 j : Nat} {f : Nat → Int32} {h : ev_H} {V : Nat → Value} {G : Nat → Nat → Int32} {Z : Nat → Nat → Int64} {σ : Sg} {Q : Option Value → ev_H → Prop} (hsta : ev_sta B) (hb : B.2.2 b = some (L, f)) (hi : i + 6 ≤ L) (hL : L ≤ 3072) (hp : PSx (XR x) w0 h a0 σ j) (hM : MH h x V G Z) (hP : PM σ V G Z) (hW : Wf σ) (hj : j + 1 ≤ 600) (nx : ∀ (h' : ev_H) (σ' : Sg) (V' : Nat → Value) (G' : Nat → Nat → Int32) (Z' : Nat → Nat → Int64), PSx (XR x) w0 h' a0 σ' (j + 1) → MH h' x V' G' Z' → PM σ' V' G' Z' → Wf σ' → Wp B 100 M_law 1495 [some (.ref b), some (.ref a0), some (.ref x), some (.int (nI i))] [] h' Q) :
    Wp B 100 M_law 1005 [some (.ref b), some (.ref a0), some (.ref x), some (.int (nI i))] [] h Q := by
  obtain ⟨Vb, hVb⟩ := hp.ob
  refine Wp.aload_n dL_law_1005 rfl (by first | exact Or.inr ⟨_, rfl⟩ | exact Or.inl rfl) rfl ?_
  refine Wp.aload_n dL_law_1006 rfl (by first | exact Or.inr ⟨_, rfl⟩ | exact Or.inl rfl) rfl ?_
  refine Wp.iload_n dL_law_1007 rfl rfl ?_
  refine Wp.iconst (v := (nI 1)) dL_law_1008 (by decide) rfl ?_
  refine Wp.iadd dL_law_1009 rfl ?_
  refine Wp.roload dL_law_1010 hb (nI_aT (by omega)) (by omega) rfl ?_
  refine Wp.aload_n dL_law_1011 rfl (by first | exact Or.inr ⟨_, rfl⟩ | exact Or.inl rfl) rfl ?_
  refine Wp.iload_n dL_law_1012 rfl rfl ?_
  refine Wp.iconst (v := (nI 2)) dL_law_1013 (by decide) rfl ?_
  refine Wp.iadd dL_law_1014 rfl ?_
  refine Wp.roload dL_law_1015 hb (nI_aT (by omega)) (by omega) rfl ?_
  refine Wp.aload_n dL_law_1016 rfl (by first | exact Or.inr ⟨_, rfl⟩ | exact Or.inl rfl) rfl ?_
  refine Wp.iload_n dL_law_1017 rfl rfl ?_
  refine Wp.iconst (v := (nI 3)) dL_law_1018 (by decide) rfl ?_
  refine Wp.iadd dL_law_1019 rfl ?_
  refine Wp.roload dL_law_1020 hb (nI_aT (by omega)) (by omega) rfl ?_
  refine Wp.aload_n dL_law_1021 rfl (by first | exact Or.inr ⟨_, rfl⟩ | exact Or.inl rfl) rfl ?_
  refine Wp.iload_n dL_law_1022 rfl rfl ?_
  refine Wp.iconst (v := (nI 4)) dL_law_1023 (by decide) rfl ?_
  refine Wp.iadd dL_law_1024 rfl ?_
  refine Wp.roload dL_law_1025 hb (nI_aT (by omega)) (by omega) rfl ?_
  refine Wp.cV dL_law_1026 cv_L_117 rfl (by omega) rfl (Nat.le_of_ble_eq_true rfl) (Nat.le_of_ble_eq_true rfl) hVb rfl (c_X11_why (d := 100 - 1) hp hW hj (by omega)) ?_
  rintro _ h1 ⟨rfl, x1, hp1⟩
  have hM1 := hM.fx x1
  dsimp only [Option.toList, List.drop, List.cons_append, List.nil_append]
  refine Wp.aload_n dL_law_1029 rfl (by first | exact Or.inr ⟨_, rfl⟩ | exact Or.inl rfl) rfl ?_
  refine Wp.aload_n dL_law_1030 rfl (by first | exact Or.inr ⟨_, rfl⟩ | exact Or.inl rfl) rfl ?_
  refine Wp.iload_n dL_law_1031 rfl rfl ?_
  refine Wp.iconst (v := (nI 1)) dL_law_1032 (by decide) rfl ?_
  refine Wp.iadd dL_law_1033 rfl ?_
  refine Wp.roload dL_law_1034 hb (nI_aT (by omega)) (by omega) rfl ?_
  refine Wp.aload_n dL_law_1035 rfl (by first | exact Or.inr ⟨_, rfl⟩ | exact Or.inl rfl) rfl ?_
  refine Wp.iload_n dL_law_1036 rfl rfl ?_
  refine Wp.iconst (v := (nI 2)) dL_law_1037 (by decide) rfl ?_
  refine Wp.iadd dL_law_1038 rfl ?_
  refine Wp.roload dL_law_1039 hb (nI_aT (by omega)) (by omega) rfl ?_
  refine Wp.aload_n dL_law_1040 rfl (by first | exact Or.inr ⟨_, rfl⟩ | exact Or.inl rfl) rfl ?_
  refine Wp.iload_n dL_law_1041 rfl rfl ?_
  refine Wp.iconst (v := (nI 3)) dL_law_1042 (by decide) rfl ?_
  refine Wp.iadd dL_law_1043 rfl ?_
  refine Wp.roload dL_law_1044 hb (nI_aT (by omega)) (by omega) rfl ?_
  refine Wp.aload_n dL_law_1045 rfl (by first | exact Or.inr ⟨_, rfl⟩ | exact Or.inl rfl) rfl ?_
  refine Wp.iload_n dL_law_1046 rfl rfl ?_
  refine Wp.iconst (v := (nI 4)) dL_law_1047 (by decide) rfl ?_
  refine Wp.iadd dL_law_1048 rfl ?_
  refine Wp.roload dL_law_1049 hb (nI_aT (by omega)) (by omega) rfl ?_
  refine Wp.cV dL_law_1050 cv_L_120 rfl (by omega) rfl (Nat.le_of_ble_eq_true rfl) (Nat.le_of_ble_eq_true rfl) hM1.ob rfl (c_X12_why (d := 100 - 1) hM1 hP hW (TrP_ok hW.net) (by omega)) ?_
  rintro _ h2 ⟨rfl, V2, G2, Z2, hM2, hP2, o2⟩
  have hp2 := hp1.out o2
  dsimp only [Option.toList, List.drop, List.cons_append, List.nil_append]
  refine Wp.icmp_eq (tgt := 1495) (n := 1056) dL_law_1053 (by decide) rfl (fun _ => ?_) (fun c_ => absurd rfl c_)
  exact nx _ _ _ _ _ hp2 hM2 hP2 hW
set_option maxHeartbeats 1000000 in
theorem law_write {B : ev_B} {b L i x a0 w0 j : Nat} {f : Nat → Int32} {h : ev_H} {V : Nat → Value} {G : Nat → Nat → Int32} {Z : Nat → Nat → Int64} {σ : Sg} {Q : Option Value → ev_H → Prop} (hsta : ev_sta B) (hb : B.2.2 b = some (L, f)) (hi : i + 6 ≤ L) (hL : L ≤ 3072) (hp : PSx (XR x) w0 h a0 σ j) (hM : MH h x V G Z) (hP : PM σ V G Z) (hW : Wf σ) (hj : j + 1 ≤ 600) (nx : ∀ (h' : ev_H) (σ' : Sg) (V' : Nat → Value) (G' : Nat → Nat → Int32) (Z' : Nat → Nat → Int64), PSx (XR x) w0 h' a0 σ' (j + 1) → MH h' x V' G' Z' → PM σ' V' G' Z' → Wf σ' → Wp B 100 M_law 1495 [some (.ref b), some (.ref a0), some (.ref x), some (.int (nI i))] [] h' Q) :
    Wp B 100 M_law 1058 [some (.ref b), some (.ref a0), some (.ref x), some (.int (nI i))] [] h Q := by
  obtain ⟨Vb, hVb⟩ := hp.ob
  refine Wp.aload_n dL_law_1058 rfl (by first | exact Or.inr ⟨_, rfl⟩ | exact Or.inl rfl) rfl ?_
  refine Wp.aload_n dL_law_1059 rfl (by first | exact Or.inr ⟨_, rfl⟩ | exact Or.inl rfl) rfl ?_
  refine Wp.iload_n dL_law_1060 rfl rfl ?_
  refine Wp.iconst (v := (nI 1)) dL_law_1061 (by decide) rfl ?_
  refine Wp.iadd dL_law_1062 rfl ?_
  refine Wp.roload dL_law_1063 hb (nI_aT (by omega)) (by omega) rfl ?_
  refine Wp.cV dL_law_1064 cv_L_121 rfl (by omega) rfl (Nat.le_of_ble_eq_true rfl) (Nat.le_of_ble_eq_true rfl) hVb rfl (c_X11_write (d := 100 - 1) hp hW hj (by omega)) ?_
  rintro _ h1 ⟨rfl, x1, hp1⟩
  have hM1 := hM.fx x1
  dsimp only [Option.toList, List.drop, List.cons_append, List.nil_append]
  refine Wp.aload_n dL_law_1067 rfl (by first | exact Or.inr ⟨_, rfl⟩ | exact Or.inl rfl) rfl ?_
  refine Wp.aload_n dL_law_1068 rfl (by first | exact Or.inr ⟨_, rfl⟩ | exact Or.inl rfl) rfl ?_
  refine Wp.iload_n dL_law_1069 rfl rfl ?_
  refine Wp.iconst (v := (nI 1)) dL_law_1070 (by decide) rfl ?_
  refine Wp.iadd dL_law_1071 rfl ?_
  refine Wp.roload dL_law_1072 hb (nI_aT (by omega)) (by omega) rfl ?_
  refine Wp.cV dL_law_1073 cv_L_124 rfl (by omega) rfl (Nat.le_of_ble_eq_true rfl) (Nat.le_of_ble_eq_true rfl) hM1.ob rfl (c_X12_write (d := 100 - 1) hM1 hP hW (by omega)) ?_
  rintro _ h2 ⟨rfl, V2, G2, Z2, hM2, hP2, o2⟩
  have hp2 := hp1.out o2
  dsimp only [Option.toList, List.drop, List.cons_append, List.nil_append]
  refine Wp.icmp_eq (tgt := 1495) (n := 1079) dL_law_1076 (by decide) rfl (fun _ => ?_) (fun c_ => absurd rfl c_)
  exact nx _ _ _ _ _ hp2 hM2 hP2 (W_write hW)
set_option maxHeartbeats 1000000 in
theorem law_row {B : ev_B} {b L i x a0 w0 j : Nat} {f : Nat → Int32} {h : ev_H} {V : Nat → Value} {G : Nat → Nat → Int32} {Z : Nat → Nat → Int64} {σ : Sg} {Q : Option Value → ev_H → Prop} (hsta : ev_sta B) (hb : B.2.2 b = some (L, f)) (hi : i + 6 ≤ L) (hL : L ≤ 3072) (hp : PSx (XR x) w0 h a0 σ j) (hM : MH h x V G Z) (hP : PM σ V G Z) (hW : Wf σ) (hj : j + 1 ≤ 600) (nx : ∀ (h' : ev_H) (σ' : Sg) (V' : Nat → Value) (G' : Nat → Nat → Int32) (Z' : Nat → Nat → Int64), PSx (XR x) w0 h' a0 σ' (j + 1) → MH h' x V' G' Z' → PM σ' V' G' Z' → Wf σ' → Wp B 100 M_law 1495 [some (.ref b), some (.ref a0), some (.ref x), some (.int (nI i))] [] h' Q) :
    Wp B 100 M_law 1081 [some (.ref b), some (.ref a0), some (.ref x), some (.int (nI i))] [] h Q := by
  obtain ⟨Vb, hVb⟩ := hp.ob
  refine Wp.aload_n dL_law_1081 rfl (by first | exact Or.inr ⟨_, rfl⟩ | exact Or.inl rfl) rfl ?_
  refine Wp.aload_n dL_law_1082 rfl (by first | exact Or.inr ⟨_, rfl⟩ | exact Or.inl rfl) rfl ?_
  refine Wp.iload_n dL_law_1083 rfl rfl ?_
  refine Wp.iconst (v := (nI 1)) dL_law_1084 (by decide) rfl ?_
  refine Wp.iadd dL_law_1085 rfl ?_
  refine Wp.roload dL_law_1086 hb (nI_aT (by omega)) (by omega) rfl ?_
  refine Wp.aload_n dL_law_1087 rfl (by first | exact Or.inr ⟨_, rfl⟩ | exact Or.inl rfl) rfl ?_
  refine Wp.iload_n dL_law_1088 rfl rfl ?_
  refine Wp.iconst (v := (nI 2)) dL_law_1089 (by decide) rfl ?_
  refine Wp.iadd dL_law_1090 rfl ?_
  refine Wp.roload dL_law_1091 hb (nI_aT (by omega)) (by omega) rfl ?_
  refine Wp.cV dL_law_1092 cv_L_125 rfl (by omega) rfl (Nat.le_of_ble_eq_true rfl) (Nat.le_of_ble_eq_true rfl) hVb rfl (c_X11_row (d := 100 - 1) hp hW hj (by omega)) ?_
  rintro _ h1 ⟨rfl, x1, hp1⟩
  have hM1 := hM.fx x1
  dsimp only [Option.toList, List.drop, List.cons_append, List.nil_append]
  refine Wp.aload_n dL_law_1095 rfl (by first | exact Or.inr ⟨_, rfl⟩ | exact Or.inl rfl) rfl ?_
  refine Wp.aload_n dL_law_1096 rfl (by first | exact Or.inr ⟨_, rfl⟩ | exact Or.inl rfl) rfl ?_
  refine Wp.iload_n dL_law_1097 rfl rfl ?_
  refine Wp.iconst (v := (nI 1)) dL_law_1098 (by decide) rfl ?_
  refine Wp.iadd dL_law_1099 rfl ?_
  refine Wp.roload dL_law_1100 hb (nI_aT (by omega)) (by omega) rfl ?_
  refine Wp.aload_n dL_law_1101 rfl (by first | exact Or.inr ⟨_, rfl⟩ | exact Or.inl rfl) rfl ?_
  refine Wp.iload_n dL_law_1102 rfl rfl ?_
  refine Wp.iconst (v := (nI 2)) dL_law_1103 (by decide) rfl ?_
  refine Wp.iadd dL_law_1104 rfl ?_
  refine Wp.roload dL_law_1105 hb (nI_aT (by omega)) (by omega) rfl ?_
  refine Wp.cV dL_law_1106 cv_L_128 rfl (by omega) rfl (Nat.le_of_ble_eq_true rfl) (Nat.le_of_ble_eq_true rfl) hM1.ob rfl (c_X12_row (d := 100 - 1) hM1 hP hW (by omega)) ?_
  rintro _ h2 ⟨rfl, V2, G2, Z2, hM2, hP2, o2⟩
  have hp2 := hp1.out o2
  dsimp only [Option.toList, List.drop, List.cons_append, List.nil_append]
  refine Wp.lcmp_eq (tgt := 1495) (n := 1113) dL_law_1109 rfl dL_law_1110 (by decide) rfl (fun _ => ?_) (fun c_ => absurd rfl c_)
  exact nx _ _ _ _ _ hp2 hM2 hP2 hW
set_option maxHeartbeats 1000000 in
theorem law_forge {B : ev_B} {b L i x a0 w0 j : Nat} {f : Nat → Int32} {h : ev_H} {V : Nat → Value} {G : Nat → Nat → Int32} {Z : Nat → Nat → Int64} {σ : Sg} {Q : Option Value → ev_H → Prop} (hsta : ev_sta B) (hb : B.2.2 b = some (L, f)) (hi : i + 6 ≤ L) (hL : L ≤ 3072) (hp : PSx (XR x) w0 h a0 σ j) (hM : MH h x V G Z) (hP : PM σ V G Z) (hW : Wf σ) (hj : j + 1 ≤ 600) (nx : ∀ (h' : ev_H) (σ' : Sg) (V' : Nat → Value) (G' : Nat → Nat → Int32) (Z' : Nat → Nat → Int64), PSx (XR x) w0 h' a0 σ' (j + 1) → MH h' x V' G' Z' → PM σ' V' G' Z' → Wf σ' → Wp B 100 M_law 1495 [some (.ref b), some (.ref a0), some (.ref x), some (.int (nI i))] [] h' Q) :
    Wp B 100 M_law 1115 [some (.ref b), some (.ref a0), some (.ref x), some (.int (nI i))] [] h Q := by
  obtain ⟨Vb, hVb⟩ := hp.ob
  refine Wp.aload_n dL_law_1115 rfl (by first | exact Or.inr ⟨_, rfl⟩ | exact Or.inl rfl) rfl ?_
  refine Wp.aload_n dL_law_1116 rfl (by first | exact Or.inr ⟨_, rfl⟩ | exact Or.inl rfl) rfl ?_
  refine Wp.iload_n dL_law_1117 rfl rfl ?_
  refine Wp.iconst (v := (nI 1)) dL_law_1118 (by decide) rfl ?_
  refine Wp.iadd dL_law_1119 rfl ?_
  refine Wp.roload dL_law_1120 hb (nI_aT (by omega)) (by omega) rfl ?_
  refine Wp.aload_n dL_law_1121 rfl (by first | exact Or.inr ⟨_, rfl⟩ | exact Or.inl rfl) rfl ?_
  refine Wp.iload_n dL_law_1122 rfl rfl ?_
  refine Wp.iconst (v := (nI 2)) dL_law_1123 (by decide) rfl ?_
  refine Wp.iadd dL_law_1124 rfl ?_
  refine Wp.roload dL_law_1125 hb (nI_aT (by omega)) (by omega) rfl ?_
  refine Wp.aload_n dL_law_1126 rfl (by first | exact Or.inr ⟨_, rfl⟩ | exact Or.inl rfl) rfl ?_
  refine Wp.iload_n dL_law_1127 rfl rfl ?_
  refine Wp.iconst (v := (nI 3)) dL_law_1128 (by decide) rfl ?_
  refine Wp.iadd dL_law_1129 rfl ?_
  refine Wp.roload dL_law_1130 hb (nI_aT (by omega)) (by omega) rfl ?_
  refine Wp.cV dL_law_1131 cv_L_129 rfl (by omega) rfl (Nat.le_of_ble_eq_true rfl) (Nat.le_of_ble_eq_true rfl) hVb rfl (c_X11_forge (d := 100 - 1) hp hW hj (by omega)) ?_
  rintro _ h1 ⟨rfl, x1, hp1⟩
  have hM1 := hM.fx x1
  dsimp only [Option.toList, List.drop, List.cons_append, List.nil_append]
  refine Wp.aload_n dL_law_1134 rfl (by first | exact Or.inr ⟨_, rfl⟩ | exact Or.inl rfl) rfl ?_
  refine Wp.aload_n dL_law_1135 rfl (by first | exact Or.inr ⟨_, rfl⟩ | exact Or.inl rfl) rfl ?_
  refine Wp.iload_n dL_law_1136 rfl rfl ?_
  refine Wp.iconst (v := (nI 1)) dL_law_1137 (by decide) rfl ?_
  refine Wp.iadd dL_law_1138 rfl ?_
  refine Wp.roload dL_law_1139 hb (nI_aT (by omega)) (by omega) rfl ?_
  refine Wp.aload_n dL_law_1140 rfl (by first | exact Or.inr ⟨_, rfl⟩ | exact Or.inl rfl) rfl ?_
  refine Wp.iload_n dL_law_1141 rfl rfl ?_
  refine Wp.iconst (v := (nI 2)) dL_law_1142 (by decide) rfl ?_
  refine Wp.iadd dL_law_1143 rfl ?_
  refine Wp.roload dL_law_1144 hb (nI_aT (by omega)) (by omega) rfl ?_
  refine Wp.aload_n dL_law_1145 rfl (by first | exact Or.inr ⟨_, rfl⟩ | exact Or.inl rfl) rfl ?_
  refine Wp.iload_n dL_law_1146 rfl rfl ?_
  refine Wp.iconst (v := (nI 3)) dL_law_1147 (by decide) rfl ?_
  refine Wp.iadd dL_law_1148 rfl ?_
  refine Wp.roload dL_law_1149 hb (nI_aT (by omega)) (by omega) rfl ?_
  refine Wp.cV dL_law_1150 cv_L_132 rfl (by omega) rfl (Nat.le_of_ble_eq_true rfl) (Nat.le_of_ble_eq_true rfl) hM1.ob rfl (c_X12_forge (d := 100 - 1) hM1 hP hW (by omega)) ?_
  rintro _ h2 ⟨rfl, V2, G2, Z2, hM2, hP2, o2⟩
  have hp2 := hp1.out o2
  dsimp only [Option.toList, List.drop, List.cons_append, List.nil_append]
  refine Wp.icmp_eq (tgt := 1495) (n := 1156) dL_law_1153 (by decide) rfl (fun _ => ?_) (fun c_ => absurd rfl c_)
  exact nx _ _ _ _ _ hp2 hM2 hP2 (W_forge hW)
set_option maxHeartbeats 1000000 in
theorem law_check {B : ev_B} {b L i x a0 w0 j : Nat} {f : Nat → Int32} {h : ev_H} {V : Nat → Value} {G : Nat → Nat → Int32} {Z : Nat → Nat → Int64} {σ : Sg} {Q : Option Value → ev_H → Prop} (hsta : ev_sta B) (hb : B.2.2 b = some (L, f)) (hi : i + 6 ≤ L) (hL : L ≤ 3072) (hp : PSx (XR x) w0 h a0 σ j) (hM : MH h x V G Z) (hP : PM σ V G Z) (hW : Wf σ) (hj : j + 1 ≤ 600) (nx : ∀ (h' : ev_H) (σ' : Sg) (V' : Nat → Value) (G' : Nat → Nat → Int32) (Z' : Nat → Nat → Int64), PSx (XR x) w0 h' a0 σ' (j + 1) → MH h' x V' G' Z' → PM σ' V' G' Z' → Wf σ' → Wp B 100 M_law 1495 [some (.ref b), some (.ref a0), some (.ref x), some (.int (nI i))] [] h' Q) :
    Wp B 100 M_law 1158 [some (.ref b), some (.ref a0), some (.ref x), some (.int (nI i))] [] h Q := by
  obtain ⟨Vb, hVb⟩ := hp.ob
  refine Wp.aload_n dL_law_1158 rfl (by first | exact Or.inr ⟨_, rfl⟩ | exact Or.inl rfl) rfl ?_
  refine Wp.aload_n dL_law_1159 rfl (by first | exact Or.inr ⟨_, rfl⟩ | exact Or.inl rfl) rfl ?_
  refine Wp.iload_n dL_law_1160 rfl rfl ?_
  refine Wp.iconst (v := (nI 1)) dL_law_1161 (by decide) rfl ?_
  refine Wp.iadd dL_law_1162 rfl ?_
  refine Wp.roload dL_law_1163 hb (nI_aT (by omega)) (by omega) rfl ?_
  refine Wp.cV dL_law_1164 cv_L_133 rfl (by omega) rfl (Nat.le_of_ble_eq_true rfl) (Nat.le_of_ble_eq_true rfl) hVb rfl (c_X11_check (d := 100 - 1) hp hW hj (by omega)) ?_
  rintro _ h1 ⟨rfl, x1, hp1⟩
  have hM1 := hM.fx x1
  dsimp only [Option.toList, List.drop, List.cons_append, List.nil_append]
  refine Wp.aload_n dL_law_1167 rfl (by first | exact Or.inr ⟨_, rfl⟩ | exact Or.inl rfl) rfl ?_
  refine Wp.aload_n dL_law_1168 rfl (by first | exact Or.inr ⟨_, rfl⟩ | exact Or.inl rfl) rfl ?_
  refine Wp.iload_n dL_law_1169 rfl rfl ?_
  refine Wp.iconst (v := (nI 1)) dL_law_1170 (by decide) rfl ?_
  refine Wp.iadd dL_law_1171 rfl ?_
  refine Wp.roload dL_law_1172 hb (nI_aT (by omega)) (by omega) rfl ?_
  refine Wp.cV dL_law_1173 cv_L_136 rfl (by omega) rfl (Nat.le_of_ble_eq_true rfl) (Nat.le_of_ble_eq_true rfl) hM1.ob rfl (c_X12_check (d := 100 - 1) hM1 hP hW (by omega)) ?_
  rintro _ h2 ⟨rfl, V2, G2, Z2, hM2, hP2, o2⟩
  have hp2 := hp1.out o2
  dsimp only [Option.toList, List.drop, List.cons_append, List.nil_append]
  refine Wp.icmp_eq (tgt := 1495) (n := 1179) dL_law_1176 (by decide) rfl (fun _ => ?_) (fun c_ => absurd rfl c_)
  exact nx _ _ _ _ _ hp2 hM2 hP2 hW
set_option maxHeartbeats 1000000 in
theorem law_act {B : ev_B} {b L i x a0 w0 j : Nat} {f : Nat → Int32} {h : ev_H} {V : Nat → Value} {G : Nat → Nat → Int32} {Z : Nat → Nat → Int64} {σ : Sg} {Q : Option Value → ev_H → Prop} (hsta : ev_sta B) (hb : B.2.2 b = some (L, f)) (hi : i + 6 ≤ L) (hL : L ≤ 3072) (hp : PSx (XR x) w0 h a0 σ j) (hM : MH h x V G Z) (hP : PM σ V G Z) (hW : Wf σ) (hj : j + 1 ≤ 600) (nx : ∀ (h' : ev_H) (σ' : Sg) (V' : Nat → Value) (G' : Nat → Nat → Int32) (Z' : Nat → Nat → Int64), PSx (XR x) w0 h' a0 σ' (j + 1) → MH h' x V' G' Z' → PM σ' V' G' Z' → Wf σ' → Wp B 100 M_law 1495 [some (.ref b), some (.ref a0), some (.ref x), some (.int (nI i))] [] h' Q) :
    Wp B 100 M_law 1181 [some (.ref b), some (.ref a0), some (.ref x), some (.int (nI i))] [] h Q := by
  obtain ⟨Vb, hVb⟩ := hp.ob
  refine Wp.aload_n dL_law_1181 rfl (by first | exact Or.inr ⟨_, rfl⟩ | exact Or.inl rfl) rfl ?_
  refine Wp.aload_n dL_law_1182 rfl (by first | exact Or.inr ⟨_, rfl⟩ | exact Or.inl rfl) rfl ?_
  refine Wp.iload_n dL_law_1183 rfl rfl ?_
  refine Wp.iconst (v := (nI 1)) dL_law_1184 (by decide) rfl ?_
  refine Wp.iadd dL_law_1185 rfl ?_
  refine Wp.roload dL_law_1186 hb (nI_aT (by omega)) (by omega) rfl ?_
  refine Wp.aload_n dL_law_1187 rfl (by first | exact Or.inr ⟨_, rfl⟩ | exact Or.inl rfl) rfl ?_
  refine Wp.iload_n dL_law_1188 rfl rfl ?_
  refine Wp.iconst (v := (nI 2)) dL_law_1189 (by decide) rfl ?_
  refine Wp.iadd dL_law_1190 rfl ?_
  refine Wp.roload dL_law_1191 hb (nI_aT (by omega)) (by omega) rfl ?_
  refine Wp.aload_n dL_law_1192 rfl (by first | exact Or.inr ⟨_, rfl⟩ | exact Or.inl rfl) rfl ?_
  refine Wp.iload_n dL_law_1193 rfl rfl ?_
  refine Wp.iconst (v := (nI 3)) dL_law_1194 (by decide) rfl ?_
  refine Wp.iadd dL_law_1195 rfl ?_
  refine Wp.roload dL_law_1196 hb (nI_aT (by omega)) (by omega) rfl ?_
  refine Wp.cV dL_law_1197 cv_L_137 rfl (by omega) rfl (Nat.le_of_ble_eq_true rfl) (Nat.le_of_ble_eq_true rfl) hVb rfl (c_X11_act (d := 100 - 1) hp hW hj hsta (by omega)) ?_
  rintro _ h1 ⟨rfl, x1, hp1⟩
  have hM1 := hM.fx x1
  dsimp only [Option.toList, List.drop, List.cons_append, List.nil_append]
  refine Wp.aload_n dL_law_1200 rfl (by first | exact Or.inr ⟨_, rfl⟩ | exact Or.inl rfl) rfl ?_
  refine Wp.aload_n dL_law_1201 rfl (by first | exact Or.inr ⟨_, rfl⟩ | exact Or.inl rfl) rfl ?_
  refine Wp.iload_n dL_law_1202 rfl rfl ?_
  refine Wp.iconst (v := (nI 1)) dL_law_1203 (by decide) rfl ?_
  refine Wp.iadd dL_law_1204 rfl ?_
  refine Wp.roload dL_law_1205 hb (nI_aT (by omega)) (by omega) rfl ?_
  refine Wp.aload_n dL_law_1206 rfl (by first | exact Or.inr ⟨_, rfl⟩ | exact Or.inl rfl) rfl ?_
  refine Wp.iload_n dL_law_1207 rfl rfl ?_
  refine Wp.iconst (v := (nI 2)) dL_law_1208 (by decide) rfl ?_
  refine Wp.iadd dL_law_1209 rfl ?_
  refine Wp.roload dL_law_1210 hb (nI_aT (by omega)) (by omega) rfl ?_
  refine Wp.aload_n dL_law_1211 rfl (by first | exact Or.inr ⟨_, rfl⟩ | exact Or.inl rfl) rfl ?_
  refine Wp.iload_n dL_law_1212 rfl rfl ?_
  refine Wp.iconst (v := (nI 3)) dL_law_1213 (by decide) rfl ?_
  refine Wp.iadd dL_law_1214 rfl ?_
  refine Wp.roload dL_law_1215 hb (nI_aT (by omega)) (by omega) rfl ?_
  refine Wp.cV dL_law_1216 cv_L_140 rfl (by omega) rfl (Nat.le_of_ble_eq_true rfl) (Nat.le_of_ble_eq_true rfl) hM1.ob rfl (c_X12_act (d := 100 - 1) hM1 hP hW (by omega)) ?_
  rintro _ h2 ⟨rfl, V2, G2, Z2, hM2, hP2, o2⟩
  have hp2 := hp1.out o2
  dsimp only [Option.toList, List.drop, List.cons_append, List.nil_append]
  refine Wp.icmp_eq (tgt := 1495) (n := 1222) dL_law_1219 (by decide) rfl (fun _ => ?_) (fun c_ => absurd rfl c_)
  exact nx _ _ _ _ _ hp2 hM2 hP2 (W_act hW)
set_option maxHeartbeats 1000000 in
theorem law_trace {B : ev_B} {b L i x a0 w0 j : Nat} {f : Nat → Int32} {h : ev_H} {V : Nat → Value} {G : Nat → Nat → Int32} {Z : Nat → Nat → Int64} {σ : Sg} {Q : Option Value → ev_H → Prop} (hsta : ev_sta B) (hb : B.2.2 b = some (L, f)) (hi : i + 6 ≤ L) (hL : L ≤ 3072) (hp : PSx (XR x) w0 h a0 σ j) (hM : MH h x V G Z) (hP : PM σ V G Z) (hW : Wf σ) (hj : j + 1 ≤ 600) (nx : ∀ (h' : ev_H) (σ' : Sg) (V' : Nat → Value) (G' : Nat → Nat → Int32) (Z' : Nat → Nat → Int64), PSx (XR x) w0 h' a0 σ' (j + 1) → MH h' x V' G' Z' → PM σ' V' G' Z' → Wf σ' → Wp B 100 M_law 1495 [some (.ref b), some (.ref a0), some (.ref x), some (.int (nI i))] [] h' Q) :
    Wp B 100 M_law 1224 [some (.ref b), some (.ref a0), some (.ref x), some (.int (nI i))] [] h Q := by
  obtain ⟨Vb, hVb⟩ := hp.ob
  refine Wp.aload_n dL_law_1224 rfl (by first | exact Or.inr ⟨_, rfl⟩ | exact Or.inl rfl) rfl ?_
  refine Wp.aload_n dL_law_1225 rfl (by first | exact Or.inr ⟨_, rfl⟩ | exact Or.inl rfl) rfl ?_
  refine Wp.iload_n dL_law_1226 rfl rfl ?_
  refine Wp.iconst (v := (nI 1)) dL_law_1227 (by decide) rfl ?_
  refine Wp.iadd dL_law_1228 rfl ?_
  refine Wp.roload dL_law_1229 hb (nI_aT (by omega)) (by omega) rfl ?_
  refine Wp.cV dL_law_1230 cv_L_141 rfl (by omega) rfl (Nat.le_of_ble_eq_true rfl) (Nat.le_of_ble_eq_true rfl) hVb rfl (c_X11_trace (d := 100 - 1) hp hW hj (by omega)) ?_
  rintro _ h1 ⟨rfl, x1, hp1⟩
  have hM1 := hM.fx x1
  dsimp only [Option.toList, List.drop, List.cons_append, List.nil_append]
  refine Wp.aload_n dL_law_1233 rfl (by first | exact Or.inr ⟨_, rfl⟩ | exact Or.inl rfl) rfl ?_
  refine Wp.aload_n dL_law_1234 rfl (by first | exact Or.inr ⟨_, rfl⟩ | exact Or.inl rfl) rfl ?_
  refine Wp.iload_n dL_law_1235 rfl rfl ?_
  refine Wp.iconst (v := (nI 1)) dL_law_1236 (by decide) rfl ?_
  refine Wp.iadd dL_law_1237 rfl ?_
  refine Wp.roload dL_law_1238 hb (nI_aT (by omega)) (by omega) rfl ?_
  refine Wp.cV dL_law_1239 cv_L_144 rfl (by omega) rfl (Nat.le_of_ble_eq_true rfl) (Nat.le_of_ble_eq_true rfl) hM1.ob rfl (c_X12_trace (d := 100 - 1) hM1 hP hW (by omega)) ?_
  rintro _ h2 ⟨rfl, V2, G2, Z2, hM2, hP2, o2⟩
  have hp2 := hp1.out o2
  dsimp only [Option.toList, List.drop, List.cons_append, List.nil_append]
  refine Wp.icmp_eq (tgt := 1495) (n := 1245) dL_law_1242 (by decide) rfl (fun _ => ?_) (fun c_ => absurd rfl c_)
  exact nx _ _ _ _ _ hp2 hM2 hP2 hW
set_option maxHeartbeats 1000000 in
theorem law_count {B : ev_B} {b L i x a0 w0 j : Nat} {f : Nat → Int32} {h : ev_H} {V : Nat → Value} {G : Nat → Nat → Int32} {Z : Nat → Nat → Int64} {σ : Sg} {Q : Option Value → ev_H → Prop} (hsta : ev_sta B) (hb : B.2.2 b = some (L, f)) (hi : i + 6 ≤ L) (hL : L ≤ 3072) (hp : PSx (XR x) w0 h a0 σ j) (hM : MH h x V G Z) (hP : PM σ V G Z) (hW : Wf σ) (hj : j + 1 ≤ 600) (nx : ∀ (h' : ev_H) (σ' : Sg) (V' : Nat → Value) (G' : Nat → Nat → Int32) (Z' : Nat → Nat → Int64), PSx (XR x) w0 h' a0 σ' (j + 1) → MH h' x V' G' Z' → PM σ' V' G' Z' → Wf σ' → Wp B 100 M_law 1495 [some (.ref b), some (.ref a0), some (.ref x), some (.int (nI i))] [] h' Q) :
    Wp B 100 M_law 1247 [some (.ref b), some (.ref a0), some (.ref x), some (.int (nI i))] [] h Q := by
  obtain ⟨Vb, hVb⟩ := hp.ob
  refine Wp.aload_n dL_law_1247 rfl (by first | exact Or.inr ⟨_, rfl⟩ | exact Or.inl rfl) rfl ?_
  refine Wp.aload_n dL_law_1248 rfl (by first | exact Or.inr ⟨_, rfl⟩ | exact Or.inl rfl) rfl ?_
  refine Wp.iload_n dL_law_1249 rfl rfl ?_
  refine Wp.iconst (v := (nI 1)) dL_law_1250 (by decide) rfl ?_
  refine Wp.iadd dL_law_1251 rfl ?_
  refine Wp.roload dL_law_1252 hb (nI_aT (by omega)) (by omega) rfl ?_
  refine Wp.cV dL_law_1253 cv_L_145 rfl (by omega) rfl (Nat.le_of_ble_eq_true rfl) (Nat.le_of_ble_eq_true rfl) hVb rfl (c_X11_count (d := 100 - 1) hp hW hj (by omega)) ?_
  rintro _ h1 ⟨rfl, x1, hp1⟩
  have hM1 := hM.fx x1
  dsimp only [Option.toList, List.drop, List.cons_append, List.nil_append]
  refine Wp.aload_n dL_law_1256 rfl (by first | exact Or.inr ⟨_, rfl⟩ | exact Or.inl rfl) rfl ?_
  refine Wp.aload_n dL_law_1257 rfl (by first | exact Or.inr ⟨_, rfl⟩ | exact Or.inl rfl) rfl ?_
  refine Wp.iload_n dL_law_1258 rfl rfl ?_
  refine Wp.iconst (v := (nI 1)) dL_law_1259 (by decide) rfl ?_
  refine Wp.iadd dL_law_1260 rfl ?_
  refine Wp.roload dL_law_1261 hb (nI_aT (by omega)) (by omega) rfl ?_
  refine Wp.cV dL_law_1262 cv_L_148 rfl (by omega) rfl (Nat.le_of_ble_eq_true rfl) (Nat.le_of_ble_eq_true rfl) hM1.ob rfl (c_X12_count (d := 100 - 1) hM1 hP hW (by omega)) ?_
  rintro _ h2 ⟨rfl, V2, G2, Z2, hM2, hP2, o2⟩
  have hp2 := hp1.out o2
  dsimp only [Option.toList, List.drop, List.cons_append, List.nil_append]
  refine Wp.icmp_eq (tgt := 1495) (n := 1268) dL_law_1265 (by decide) rfl (fun _ => ?_) (fun c_ => absurd rfl c_)
  exact nx _ _ _ _ _ hp2 hM2 hP2 hW
set_option maxHeartbeats 1000000 in
theorem law_sheet {B : ev_B} {b L i x a0 w0 j : Nat} {f : Nat → Int32} {h : ev_H} {V : Nat → Value} {G : Nat → Nat → Int32} {Z : Nat → Nat → Int64} {σ : Sg} {Q : Option Value → ev_H → Prop} (hsta : ev_sta B) (hb : B.2.2 b = some (L, f)) (hi : i + 6 ≤ L) (hL : L ≤ 3072) (hp : PSx (XR x) w0 h a0 σ j) (hM : MH h x V G Z) (hP : PM σ V G Z) (hW : Wf σ) (hj : j + 1 ≤ 600) (nx : ∀ (h' : ev_H) (σ' : Sg) (V' : Nat → Value) (G' : Nat → Nat → Int32) (Z' : Nat → Nat → Int64), PSx (XR x) w0 h' a0 σ' (j + 1) → MH h' x V' G' Z' → PM σ' V' G' Z' → Wf σ' → Wp B 100 M_law 1495 [some (.ref b), some (.ref a0), some (.ref x), some (.int (nI i))] [] h' Q) :
    Wp B 100 M_law 1270 [some (.ref b), some (.ref a0), some (.ref x), some (.int (nI i))] [] h Q := by
  obtain ⟨Vb, hVb⟩ := hp.ob
  refine Wp.aload_n dL_law_1270 rfl (by first | exact Or.inr ⟨_, rfl⟩ | exact Or.inl rfl) rfl ?_
  refine Wp.aload_n dL_law_1271 rfl (by first | exact Or.inr ⟨_, rfl⟩ | exact Or.inl rfl) rfl ?_
  refine Wp.iload_n dL_law_1272 rfl rfl ?_
  refine Wp.iconst (v := (nI 1)) dL_law_1273 (by decide) rfl ?_
  refine Wp.iadd dL_law_1274 rfl ?_
  refine Wp.roload dL_law_1275 hb (nI_aT (by omega)) (by omega) rfl ?_
  refine Wp.aload_n dL_law_1276 rfl (by first | exact Or.inr ⟨_, rfl⟩ | exact Or.inl rfl) rfl ?_
  refine Wp.iload_n dL_law_1277 rfl rfl ?_
  refine Wp.iconst (v := (nI 2)) dL_law_1278 (by decide) rfl ?_
  refine Wp.iadd dL_law_1279 rfl ?_
  refine Wp.roload dL_law_1280 hb (nI_aT (by omega)) (by omega) rfl ?_
  refine Wp.aload_n dL_law_1281 rfl (by first | exact Or.inr ⟨_, rfl⟩ | exact Or.inl rfl) rfl ?_
  refine Wp.iload_n dL_law_1282 rfl rfl ?_
  refine Wp.iconst (v := (nI 3)) dL_law_1283 (by decide) rfl ?_
  refine Wp.iadd dL_law_1284 rfl ?_
  refine Wp.roload dL_law_1285 hb (nI_aT (by omega)) (by omega) rfl ?_
  refine Wp.cV dL_law_1286 cv_L_149 rfl (by omega) rfl (Nat.le_of_ble_eq_true rfl) (Nat.le_of_ble_eq_true rfl) hVb rfl (c_X11_sheet (d := 100 - 1) hp hW hj (by omega)) ?_
  rintro _ h1 ⟨rfl, x1, hp1⟩
  have hM1 := hM.fx x1
  dsimp only [Option.toList, List.drop, List.cons_append, List.nil_append]
  refine Wp.aload_n dL_law_1289 rfl (by first | exact Or.inr ⟨_, rfl⟩ | exact Or.inl rfl) rfl ?_
  refine Wp.aload_n dL_law_1290 rfl (by first | exact Or.inr ⟨_, rfl⟩ | exact Or.inl rfl) rfl ?_
  refine Wp.iload_n dL_law_1291 rfl rfl ?_
  refine Wp.iconst (v := (nI 1)) dL_law_1292 (by decide) rfl ?_
  refine Wp.iadd dL_law_1293 rfl ?_
  refine Wp.roload dL_law_1294 hb (nI_aT (by omega)) (by omega) rfl ?_
  refine Wp.aload_n dL_law_1295 rfl (by first | exact Or.inr ⟨_, rfl⟩ | exact Or.inl rfl) rfl ?_
  refine Wp.iload_n dL_law_1296 rfl rfl ?_
  refine Wp.iconst (v := (nI 2)) dL_law_1297 (by decide) rfl ?_
  refine Wp.iadd dL_law_1298 rfl ?_
  refine Wp.roload dL_law_1299 hb (nI_aT (by omega)) (by omega) rfl ?_
  refine Wp.aload_n dL_law_1300 rfl (by first | exact Or.inr ⟨_, rfl⟩ | exact Or.inl rfl) rfl ?_
  refine Wp.iload_n dL_law_1301 rfl rfl ?_
  refine Wp.iconst (v := (nI 3)) dL_law_1302 (by decide) rfl ?_
  refine Wp.iadd dL_law_1303 rfl ?_
  refine Wp.roload dL_law_1304 hb (nI_aT (by omega)) (by omega) rfl ?_
  refine Wp.cV dL_law_1305 cv_L_152 rfl (by omega) rfl (Nat.le_of_ble_eq_true rfl) (Nat.le_of_ble_eq_true rfl) hM1.ob rfl (c_X12_sheet (d := 100 - 1) hM1 hP hW (by omega)) ?_
  rintro _ h2 ⟨rfl, V2, G2, Z2, hM2, hP2, o2⟩
  have hp2 := hp1.out o2
  dsimp only [Option.toList, List.drop, List.cons_append, List.nil_append]
  refine Wp.icmp_eq (tgt := 1495) (n := 1311) dL_law_1308 (by decide) rfl (fun _ => ?_) (fun c_ => absurd rfl c_)
  exact nx _ _ _ _ _ hp2 hM2 hP2 (W_sheet hW)
set_option maxHeartbeats 1000000 in
theorem law_cell {B : ev_B} {b L i x a0 w0 j : Nat} {f : Nat → Int32} {h : ev_H} {V : Nat → Value} {G : Nat → Nat → Int32} {Z : Nat → Nat → Int64} {σ : Sg} {Q : Option Value → ev_H → Prop} (hsta : ev_sta B) (hb : B.2.2 b = some (L, f)) (hi : i + 6 ≤ L) (hL : L ≤ 3072) (hp : PSx (XR x) w0 h a0 σ j) (hM : MH h x V G Z) (hP : PM σ V G Z) (hW : Wf σ) (hj : j + 1 ≤ 600) (nx : ∀ (h' : ev_H) (σ' : Sg) (V' : Nat → Value) (G' : Nat → Nat → Int32) (Z' : Nat → Nat → Int64), PSx (XR x) w0 h' a0 σ' (j + 1) → MH h' x V' G' Z' → PM σ' V' G' Z' → Wf σ' → Wp B 100 M_law 1495 [some (.ref b), some (.ref a0), some (.ref x), some (.int (nI i))] [] h' Q) :
    Wp B 100 M_law 1313 [some (.ref b), some (.ref a0), some (.ref x), some (.int (nI i))] [] h Q := by
  obtain ⟨Vb, hVb⟩ := hp.ob
  refine Wp.aload_n dL_law_1313 rfl (by first | exact Or.inr ⟨_, rfl⟩ | exact Or.inl rfl) rfl ?_
  refine Wp.aload_n dL_law_1314 rfl (by first | exact Or.inr ⟨_, rfl⟩ | exact Or.inl rfl) rfl ?_
  refine Wp.iload_n dL_law_1315 rfl rfl ?_
  refine Wp.iconst (v := (nI 1)) dL_law_1316 (by decide) rfl ?_
  refine Wp.iadd dL_law_1317 rfl ?_
  refine Wp.roload dL_law_1318 hb (nI_aT (by omega)) (by omega) rfl ?_
  refine Wp.aload_n dL_law_1319 rfl (by first | exact Or.inr ⟨_, rfl⟩ | exact Or.inl rfl) rfl ?_
  refine Wp.iload_n dL_law_1320 rfl rfl ?_
  refine Wp.iconst (v := (nI 2)) dL_law_1321 (by decide) rfl ?_
  refine Wp.iadd dL_law_1322 rfl ?_
  refine Wp.roload dL_law_1323 hb (nI_aT (by omega)) (by omega) rfl ?_
  refine Wp.aload_n dL_law_1324 rfl (by first | exact Or.inr ⟨_, rfl⟩ | exact Or.inl rfl) rfl ?_
  refine Wp.iload_n dL_law_1325 rfl rfl ?_
  refine Wp.iconst (v := (nI 3)) dL_law_1326 (by decide) rfl ?_
  refine Wp.iadd dL_law_1327 rfl ?_
  refine Wp.roload dL_law_1328 hb (nI_aT (by omega)) (by omega) rfl ?_
  refine Wp.cV dL_law_1329 cv_L_153 rfl (by omega) rfl (Nat.le_of_ble_eq_true rfl) (Nat.le_of_ble_eq_true rfl) hVb rfl (c_X11_cell (d := 100 - 1) hp hW hj (by omega)) ?_
  rintro _ h1 ⟨rfl, x1, hp1⟩
  have hM1 := hM.fx x1
  dsimp only [Option.toList, List.drop, List.cons_append, List.nil_append]
  refine Wp.aload_n dL_law_1332 rfl (by first | exact Or.inr ⟨_, rfl⟩ | exact Or.inl rfl) rfl ?_
  refine Wp.aload_n dL_law_1333 rfl (by first | exact Or.inr ⟨_, rfl⟩ | exact Or.inl rfl) rfl ?_
  refine Wp.iload_n dL_law_1334 rfl rfl ?_
  refine Wp.iconst (v := (nI 1)) dL_law_1335 (by decide) rfl ?_
  refine Wp.iadd dL_law_1336 rfl ?_
  refine Wp.roload dL_law_1337 hb (nI_aT (by omega)) (by omega) rfl ?_
  refine Wp.aload_n dL_law_1338 rfl (by first | exact Or.inr ⟨_, rfl⟩ | exact Or.inl rfl) rfl ?_
  refine Wp.iload_n dL_law_1339 rfl rfl ?_
  refine Wp.iconst (v := (nI 2)) dL_law_1340 (by decide) rfl ?_
  refine Wp.iadd dL_law_1341 rfl ?_
  refine Wp.roload dL_law_1342 hb (nI_aT (by omega)) (by omega) rfl ?_
  refine Wp.aload_n dL_law_1343 rfl (by first | exact Or.inr ⟨_, rfl⟩ | exact Or.inl rfl) rfl ?_
  refine Wp.iload_n dL_law_1344 rfl rfl ?_
  refine Wp.iconst (v := (nI 3)) dL_law_1345 (by decide) rfl ?_
  refine Wp.iadd dL_law_1346 rfl ?_
  refine Wp.roload dL_law_1347 hb (nI_aT (by omega)) (by omega) rfl ?_
  refine Wp.cV dL_law_1348 cv_L_156 rfl (by omega) rfl (Nat.le_of_ble_eq_true rfl) (Nat.le_of_ble_eq_true rfl) hM1.ob rfl (c_X12_cell (d := 100 - 1) hM1 hP hW (by omega)) ?_
  rintro _ h2 ⟨rfl, V2, G2, Z2, hM2, hP2, o2⟩
  have hp2 := hp1.out o2
  dsimp only [Option.toList, List.drop, List.cons_append, List.nil_append]
  refine Wp.icmp_eq (tgt := 1495) (n := 1354) dL_law_1351 (by decide) rfl (fun _ => ?_) (fun c_ => absurd rfl c_)
  exact nx _ _ _ _ _ hp2 hM2 hP2 (W_cell hW)
set_option maxHeartbeats 1000000 in
theorem law_lay {B : ev_B} {b L i x a0 w0 j : Nat} {f : Nat → Int32} {h : ev_H} {V : Nat → Value} {G : Nat → Nat → Int32} {Z : Nat → Nat → Int64} {σ : Sg} {Q : Option Value → ev_H → Prop} (hsta : ev_sta B) (hb : B.2.2 b = some (L, f)) (hi : i + 6 ≤ L) (hL : L ≤ 3072) (hp : PSx (XR x) w0 h a0 σ j) (hM : MH h x V G Z) (hP : PM σ V G Z) (hW : Wf σ) (hj : j + 1 ≤ 600) (nx : ∀ (h' : ev_H) (σ' : Sg) (V' : Nat → Value) (G' : Nat → Nat → Int32) (Z' : Nat → Nat → Int64), PSx (XR x) w0 h' a0 σ' (j + 1) → MH h' x V' G' Z' → PM σ' V' G' Z' → Wf σ' → Wp B 100 M_law 1495 [some (.ref b), some (.ref a0), some (.ref x), some (.int (nI i))] [] h' Q) :
    Wp B 100 M_law 1356 [some (.ref b), some (.ref a0), some (.ref x), some (.int (nI i))] [] h Q := by
  obtain ⟨Vb, hVb⟩ := hp.ob
  refine Wp.aload_n dL_law_1356 rfl (by first | exact Or.inr ⟨_, rfl⟩ | exact Or.inl rfl) rfl ?_
  refine Wp.aload_n dL_law_1357 rfl (by first | exact Or.inr ⟨_, rfl⟩ | exact Or.inl rfl) rfl ?_
  refine Wp.iload_n dL_law_1358 rfl rfl ?_
  refine Wp.iconst (v := (nI 1)) dL_law_1359 (by decide) rfl ?_
  refine Wp.iadd dL_law_1360 rfl ?_
  refine Wp.roload dL_law_1361 hb (nI_aT (by omega)) (by omega) rfl ?_
  refine Wp.aload_n dL_law_1362 rfl (by first | exact Or.inr ⟨_, rfl⟩ | exact Or.inl rfl) rfl ?_
  refine Wp.iload_n dL_law_1363 rfl rfl ?_
  refine Wp.iconst (v := (nI 2)) dL_law_1364 (by decide) rfl ?_
  refine Wp.iadd dL_law_1365 rfl ?_
  refine Wp.roload dL_law_1366 hb (nI_aT (by omega)) (by omega) rfl ?_
  refine Wp.aload_n dL_law_1367 rfl (by first | exact Or.inr ⟨_, rfl⟩ | exact Or.inl rfl) rfl ?_
  refine Wp.iload_n dL_law_1368 rfl rfl ?_
  refine Wp.iconst (v := (nI 3)) dL_law_1369 (by decide) rfl ?_
  refine Wp.iadd dL_law_1370 rfl ?_
  refine Wp.roload dL_law_1371 hb (nI_aT (by omega)) (by omega) rfl ?_
  refine Wp.cV dL_law_1372 cv_L_157 rfl (by omega) rfl (Nat.le_of_ble_eq_true rfl) (Nat.le_of_ble_eq_true rfl) hVb rfl (c_X11_lay (d := 100 - 1) hp hW hj (by omega)) ?_
  rintro _ h1 ⟨rfl, x1, hp1⟩
  have hM1 := hM.fx x1
  dsimp only [Option.toList, List.drop, List.cons_append, List.nil_append]
  refine Wp.aload_n dL_law_1375 rfl (by first | exact Or.inr ⟨_, rfl⟩ | exact Or.inl rfl) rfl ?_
  refine Wp.aload_n dL_law_1376 rfl (by first | exact Or.inr ⟨_, rfl⟩ | exact Or.inl rfl) rfl ?_
  refine Wp.iload_n dL_law_1377 rfl rfl ?_
  refine Wp.iconst (v := (nI 1)) dL_law_1378 (by decide) rfl ?_
  refine Wp.iadd dL_law_1379 rfl ?_
  refine Wp.roload dL_law_1380 hb (nI_aT (by omega)) (by omega) rfl ?_
  refine Wp.aload_n dL_law_1381 rfl (by first | exact Or.inr ⟨_, rfl⟩ | exact Or.inl rfl) rfl ?_
  refine Wp.iload_n dL_law_1382 rfl rfl ?_
  refine Wp.iconst (v := (nI 2)) dL_law_1383 (by decide) rfl ?_
  refine Wp.iadd dL_law_1384 rfl ?_
  refine Wp.roload dL_law_1385 hb (nI_aT (by omega)) (by omega) rfl ?_
  refine Wp.aload_n dL_law_1386 rfl (by first | exact Or.inr ⟨_, rfl⟩ | exact Or.inl rfl) rfl ?_
  refine Wp.iload_n dL_law_1387 rfl rfl ?_
  refine Wp.iconst (v := (nI 3)) dL_law_1388 (by decide) rfl ?_
  refine Wp.iadd dL_law_1389 rfl ?_
  refine Wp.roload dL_law_1390 hb (nI_aT (by omega)) (by omega) rfl ?_
  refine Wp.cV dL_law_1391 cv_L_160 rfl (by omega) rfl (Nat.le_of_ble_eq_true rfl) (Nat.le_of_ble_eq_true rfl) hM1.ob rfl (c_X12_lay (d := 100 - 1) hM1 hP hW (by omega)) ?_
  rintro _ h2 ⟨rfl, V2, G2, Z2, hM2, hP2, o2⟩
  have hp2 := hp1.out o2
  dsimp only [Option.toList, List.drop, List.cons_append, List.nil_append]
  refine Wp.icmp_eq (tgt := 1495) (n := 1397) dL_law_1394 (by decide) rfl (fun _ => ?_) (fun c_ => absurd rfl c_)
  exact nx _ _ _ _ _ hp2 hM2 hP2 (W_lay hW)
set_option maxHeartbeats 1000000 in
theorem law_copy {B : ev_B} {b L i x a0 w0 j : Nat} {f : Nat → Int32} {h : ev_H} {V : Nat → Value} {G : Nat → Nat → Int32} {Z : Nat → Nat → Int64} {σ : Sg} {Q : Option Value → ev_H → Prop} (hsta : ev_sta B) (hb : B.2.2 b = some (L, f)) (hi : i + 6 ≤ L) (hL : L ≤ 3072) (hp : PSx (XR x) w0 h a0 σ j) (hM : MH h x V G Z) (hP : PM σ V G Z) (hW : Wf σ) (hj : j + 1 ≤ 600) (nx : ∀ (h' : ev_H) (σ' : Sg) (V' : Nat → Value) (G' : Nat → Nat → Int32) (Z' : Nat → Nat → Int64), PSx (XR x) w0 h' a0 σ' (j + 1) → MH h' x V' G' Z' → PM σ' V' G' Z' → Wf σ' → Wp B 100 M_law 1495 [some (.ref b), some (.ref a0), some (.ref x), some (.int (nI i))] [] h' Q) :
    Wp B 100 M_law 1399 [some (.ref b), some (.ref a0), some (.ref x), some (.int (nI i))] [] h Q := by
  obtain ⟨Vb, hVb⟩ := hp.ob
  refine Wp.aload_n dL_law_1399 rfl (by first | exact Or.inr ⟨_, rfl⟩ | exact Or.inl rfl) rfl ?_
  refine Wp.aload_n dL_law_1400 rfl (by first | exact Or.inr ⟨_, rfl⟩ | exact Or.inl rfl) rfl ?_
  refine Wp.iload_n dL_law_1401 rfl rfl ?_
  refine Wp.iconst (v := (nI 1)) dL_law_1402 (by decide) rfl ?_
  refine Wp.iadd dL_law_1403 rfl ?_
  refine Wp.roload dL_law_1404 hb (nI_aT (by omega)) (by omega) rfl ?_
  refine Wp.aload_n dL_law_1405 rfl (by first | exact Or.inr ⟨_, rfl⟩ | exact Or.inl rfl) rfl ?_
  refine Wp.iload_n dL_law_1406 rfl rfl ?_
  refine Wp.iconst (v := (nI 2)) dL_law_1407 (by decide) rfl ?_
  refine Wp.iadd dL_law_1408 rfl ?_
  refine Wp.roload dL_law_1409 hb (nI_aT (by omega)) (by omega) rfl ?_
  refine Wp.aload_n dL_law_1410 rfl (by first | exact Or.inr ⟨_, rfl⟩ | exact Or.inl rfl) rfl ?_
  refine Wp.iload_n dL_law_1411 rfl rfl ?_
  refine Wp.iconst (v := (nI 3)) dL_law_1412 (by decide) rfl ?_
  refine Wp.iadd dL_law_1413 rfl ?_
  refine Wp.roload dL_law_1414 hb (nI_aT (by omega)) (by omega) rfl ?_
  refine Wp.aload_n dL_law_1415 rfl (by first | exact Or.inr ⟨_, rfl⟩ | exact Or.inl rfl) rfl ?_
  refine Wp.iload_n dL_law_1416 rfl rfl ?_
  refine Wp.iconst (v := (nI 4)) dL_law_1417 (by decide) rfl ?_
  refine Wp.iadd dL_law_1418 rfl ?_
  refine Wp.roload dL_law_1419 hb (nI_aT (by omega)) (by omega) rfl ?_
  refine Wp.aload_n dL_law_1420 rfl (by first | exact Or.inr ⟨_, rfl⟩ | exact Or.inl rfl) rfl ?_
  refine Wp.iload_n dL_law_1421 rfl rfl ?_
  refine Wp.iconst (v := (nI 5)) dL_law_1422 (by decide) rfl ?_
  refine Wp.iadd dL_law_1423 rfl ?_
  refine Wp.roload dL_law_1424 hb (nI_aT (by omega)) (by omega) rfl ?_
  refine Wp.cV dL_law_1425 cv_L_161 rfl (by omega) rfl (Nat.le_of_ble_eq_true rfl) (Nat.le_of_ble_eq_true rfl) hVb rfl (c_X11_copy (d := 100 - 1) hp hW hj (by omega)) ?_
  rintro _ h1 ⟨rfl, x1, hp1⟩
  have hM1 := hM.fx x1
  dsimp only [Option.toList, List.drop, List.cons_append, List.nil_append]
  refine Wp.aload_n dL_law_1428 rfl (by first | exact Or.inr ⟨_, rfl⟩ | exact Or.inl rfl) rfl ?_
  refine Wp.aload_n dL_law_1429 rfl (by first | exact Or.inr ⟨_, rfl⟩ | exact Or.inl rfl) rfl ?_
  refine Wp.iload_n dL_law_1430 rfl rfl ?_
  refine Wp.iconst (v := (nI 1)) dL_law_1431 (by decide) rfl ?_
  refine Wp.iadd dL_law_1432 rfl ?_
  refine Wp.roload dL_law_1433 hb (nI_aT (by omega)) (by omega) rfl ?_
  refine Wp.aload_n dL_law_1434 rfl (by first | exact Or.inr ⟨_, rfl⟩ | exact Or.inl rfl) rfl ?_
  refine Wp.iload_n dL_law_1435 rfl rfl ?_
  refine Wp.iconst (v := (nI 2)) dL_law_1436 (by decide) rfl ?_
  refine Wp.iadd dL_law_1437 rfl ?_
  refine Wp.roload dL_law_1438 hb (nI_aT (by omega)) (by omega) rfl ?_
  refine Wp.aload_n dL_law_1439 rfl (by first | exact Or.inr ⟨_, rfl⟩ | exact Or.inl rfl) rfl ?_
  refine Wp.iload_n dL_law_1440 rfl rfl ?_
  refine Wp.iconst (v := (nI 3)) dL_law_1441 (by decide) rfl ?_
  refine Wp.iadd dL_law_1442 rfl ?_
  refine Wp.roload dL_law_1443 hb (nI_aT (by omega)) (by omega) rfl ?_
  refine Wp.aload_n dL_law_1444 rfl (by first | exact Or.inr ⟨_, rfl⟩ | exact Or.inl rfl) rfl ?_
  refine Wp.iload_n dL_law_1445 rfl rfl ?_
  refine Wp.iconst (v := (nI 4)) dL_law_1446 (by decide) rfl ?_
  refine Wp.iadd dL_law_1447 rfl ?_
  refine Wp.roload dL_law_1448 hb (nI_aT (by omega)) (by omega) rfl ?_
  refine Wp.aload_n dL_law_1449 rfl (by first | exact Or.inr ⟨_, rfl⟩ | exact Or.inl rfl) rfl ?_
  refine Wp.iload_n dL_law_1450 rfl rfl ?_
  refine Wp.iconst (v := (nI 5)) dL_law_1451 (by decide) rfl ?_
  refine Wp.iadd dL_law_1452 rfl ?_
  refine Wp.roload dL_law_1453 hb (nI_aT (by omega)) (by omega) rfl ?_
  refine Wp.cV dL_law_1454 cv_L_165 rfl (by omega) rfl (Nat.le_of_ble_eq_true rfl) (Nat.le_of_ble_eq_true rfl) hM1.ob rfl (c_X12_copy (d := 100 - 1) hM1 hP hW (by omega)) ?_
  rintro _ h2 ⟨rfl, V2, G2, Z2, hM2, hP2, o2⟩
  have hp2 := hp1.out o2
  dsimp only [Option.toList, List.drop, List.cons_append, List.nil_append]
  refine Wp.icmp_eq (tgt := 1495) (n := 1460) dL_law_1457 (by decide) rfl (fun _ => ?_) (fun c_ => absurd rfl c_)
  exact nx _ _ _ _ _ hp2 hM2 hP2 (W_copy hW)
set_option maxHeartbeats 1000000 in
theorem law_taken {B : ev_B} {b L i x a0 w0 j : Nat} {f : Nat → Int32} {h : ev_H} {V : Nat → Value} {G : Nat → Nat → Int32} {Z : Nat → Nat → Int64} {σ : Sg} {Q : Option Value → ev_H → Prop} (hsta : ev_sta B) (hb : B.2.2 b = some (L, f)) (hi : i + 6 ≤ L) (hL : L ≤ 3072) (hp : PSx (XR x) w0 h a0 σ j) (hM : MH h x V G Z) (hP : PM σ V G Z) (hW : Wf σ) (hj : j + 1 ≤ 600) (nx : ∀ (h' : ev_H) (σ' : Sg) (V' : Nat → Value) (G' : Nat → Nat → Int32) (Z' : Nat → Nat → Int64), PSx (XR x) w0 h' a0 σ' (j + 1) → MH h' x V' G' Z' → PM σ' V' G' Z' → Wf σ' → Wp B 100 M_law 1495 [some (.ref b), some (.ref a0), some (.ref x), some (.int (nI i))] [] h' Q) :
    Wp B 100 M_law 1462 [some (.ref b), some (.ref a0), some (.ref x), some (.int (nI i))] [] h Q := by
  obtain ⟨Vb, hVb⟩ := hp.ob
  refine Wp.aload_n dL_law_1462 rfl (by first | exact Or.inr ⟨_, rfl⟩ | exact Or.inl rfl) rfl ?_
  refine Wp.aload_n dL_law_1463 rfl (by first | exact Or.inr ⟨_, rfl⟩ | exact Or.inl rfl) rfl ?_
  refine Wp.iload_n dL_law_1464 rfl rfl ?_
  refine Wp.iconst (v := (nI 1)) dL_law_1465 (by decide) rfl ?_
  refine Wp.iadd dL_law_1466 rfl ?_
  refine Wp.roload dL_law_1467 hb (nI_aT (by omega)) (by omega) rfl ?_
  refine Wp.aload_n dL_law_1468 rfl (by first | exact Or.inr ⟨_, rfl⟩ | exact Or.inl rfl) rfl ?_
  refine Wp.iload_n dL_law_1469 rfl rfl ?_
  refine Wp.iconst (v := (nI 2)) dL_law_1470 (by decide) rfl ?_
  refine Wp.iadd dL_law_1471 rfl ?_
  refine Wp.roload dL_law_1472 hb (nI_aT (by omega)) (by omega) rfl ?_
  refine Wp.cV dL_law_1473 cv_L_166 rfl (by omega) rfl (Nat.le_of_ble_eq_true rfl) (Nat.le_of_ble_eq_true rfl) hVb rfl (c_X11_taken (d := 100 - 1) hp hW hj (by omega) hsta) ?_
  rintro _ h1 ⟨rfl, x1, hp1⟩
  have hM1 := hM.fx x1
  dsimp only [Option.toList, List.drop, List.cons_append, List.nil_append]
  refine Wp.aload_n dL_law_1476 rfl (by first | exact Or.inr ⟨_, rfl⟩ | exact Or.inl rfl) rfl ?_
  refine Wp.aload_n dL_law_1477 rfl (by first | exact Or.inr ⟨_, rfl⟩ | exact Or.inl rfl) rfl ?_
  refine Wp.iload_n dL_law_1478 rfl rfl ?_
  refine Wp.iconst (v := (nI 1)) dL_law_1479 (by decide) rfl ?_
  refine Wp.iadd dL_law_1480 rfl ?_
  refine Wp.roload dL_law_1481 hb (nI_aT (by omega)) (by omega) rfl ?_
  refine Wp.aload_n dL_law_1482 rfl (by first | exact Or.inr ⟨_, rfl⟩ | exact Or.inl rfl) rfl ?_
  refine Wp.iload_n dL_law_1483 rfl rfl ?_
  refine Wp.iconst (v := (nI 2)) dL_law_1484 (by decide) rfl ?_
  refine Wp.iadd dL_law_1485 rfl ?_
  refine Wp.roload dL_law_1486 hb (nI_aT (by omega)) (by omega) rfl ?_
  refine Wp.cV dL_law_1487 cv_L_169 rfl (by omega) rfl (Nat.le_of_ble_eq_true rfl) (Nat.le_of_ble_eq_true rfl) hM1.ob rfl (c_X12_taken (d := 100 - 1) hM1 hP hW (by omega)) ?_
  rintro _ h2 ⟨rfl, V2, G2, Z2, hM2, hP2, o2⟩
  have hp2 := hp1.out o2
  dsimp only [Option.toList, List.drop, List.cons_append, List.nil_append]
  refine Wp.icmp_eq (tgt := 1495) (n := 1493) dL_law_1490 (by decide) rfl (fun _ => ?_) (fun c_ => absurd rfl c_)
  exact nx _ _ _ _ _ hp2 hM2 hP2 hW
set_option maxHeartbeats 2000000 in
theorem law_loop {B : ev_B} {b L x a0 w0 : Nat} {f : Nat → Int32} {Q : Option Value → ev_H → Prop} (hsta : ev_sta B) (hb : B.2.2 b = some (L, f)) (hL : L ≤ 3072) (hw : w0 ≤ 100000) (hQ : ∀ h : ev_H, h.2.2 ≤ 600000 → Q (some (.int (nI 1))) h) :
    ∀ t, t ≤ L / 6 → ∀ (h : ev_H) (σ : Sg) (V : Nat → Value) (G : Nat → Nat → Int32) (Z : Nat → Nat → Int64), PSx (XR x) w0 h a0 σ t → MH h x V G Z → PM σ V G Z → Wf σ → Wp B 100 M_law 18 [some (.ref b), some (.ref a0), some (.ref x), some (.int (nI (6 * t)))] [] h Q := by
  refine ev_upl (L / 6) (fun t ht ih => ?_) ?_
  · intro h σ V G Z hp hM hP hW
    refine Wp.iload_n dL_law_18 rfl rfl ?_
    refine Wp.aload_n dL_law_19 rfl (by first | exact Or.inr ⟨_, rfl⟩ | exact Or.inl rfl) rfl ?_
    refine Wp.rolen dL_law_20 hb rfl ?_
    rw [show Int32.ofNat L = nI L from rfl]
    refine Wp.bipush (v := (nI 6)) dL_law_21 (by decide) rfl ?_
    refine Wp.isub dL_law_23 rfl ?_
    rw [nI_iI L, nI_iI 6, iI_sub]
    refine Wp.icmp_gt (tgt := 1501) (n := 27) dL_law_24 (by decide) rfl (fun c_24 => ?_) (fun c_24 => ?_)
    · try simp (disch := omega) only [nI_bit0, nI_bit1, Bool.not_eq_false, Bool.not_eq_true] at c_24
      try simp (disch := omega) only [i_lt, i_le, i_eq, l_lt, l_le, l_eq, i_0, i_m1, l_0, nI_tI, iI_tI, lI_tI, Int.not_lt, Int.not_le] at c_24
      omega
    · try simp (disch := omega) only [nI_bit0, nI_bit1, Bool.not_eq_false, Bool.not_eq_true] at c_24
      try simp (disch := omega) only [i_lt, i_le, i_eq, l_lt, l_le, l_eq, i_0, i_m1, l_0, nI_tI, iI_tI, lI_tI, Int.not_lt, Int.not_le] at c_24
      refine Wp.aload_n dL_law_27 rfl (by first | exact Or.inr ⟨_, rfl⟩ | exact Or.inl rfl) rfl ?_
      refine Wp.iload_n dL_law_28 rfl rfl ?_
      refine Wp.roload dL_law_29 hb (nI_toInt (by omega)) (by omega) rfl ?_
      refine Wp.bipush (v := (nI 63)) dL_law_30 (by decide) rfl ?_
      refine Wp.iand dL_law_32 rfl ?_
      obtain ⟨k, hk64, hk⟩ := and63 (f (6 * t))
      rw [hk]
      have nx : ∀ (h' : ev_H) (σ' : Sg) (V' : Nat → Value) (G' : Nat → Nat → Int32) (Z' : Nat → Nat → Int64), PSx (XR x) w0 h' a0 σ' (t + 1) → MH h' x V' G' Z' → PM σ' V' G' Z' → Wf σ' → Wp B 100 M_law 1495 [some (.ref b), some (.ref a0), some (.ref x), some (.int (nI (6 * t)))] [] h' Q := by
        intro h' σ' V' G' Z' p1 m1 q1 w1
        refine Wp.iinc (v := _ + (nI 6)) dL_law_1495 rfl rfl (Nat.le_of_ble_eq_true rfl) (by dsimp only [ev_st1, ev_cl] <;> rfl) rfl ?_
        refine Wp.goto (n := 18) dL_law_1498 (by decide) ?_
        rw [nI_add, show 6 * t + 6 = 6 * (t + 1) by omega]
        exact ih h' σ' V' G' Z' p1 m1 q1 w1
      have hkk : k = 0 ∨ k = 1 ∨ k = 2 ∨ k = 3 ∨ k = 4 ∨ k = 5 ∨ k = 6 ∨ k = 7 ∨ k = 8 ∨ k = 9 ∨ k = 10 ∨ k = 11 ∨ k = 12 ∨ k = 13 ∨ k = 14 ∨ k = 15 ∨ k = 16 ∨ k = 17 ∨ k = 18 ∨ k = 19 ∨ k = 20 ∨ k = 21 ∨ k = 22 ∨ k = 23 ∨ k = 24 ∨ k = 25 ∨ k = 26 ∨ k = 27 ∨ k = 28 ∨ k = 29 ∨ k = 30 ∨ k = 31 ∨ k = 32 ∨ k = 33 ∨ k = 34 ∨ k = 35 ∨ k = 36 ∨ 37 ≤ k := by omega
      rcases hkk with rfl | rfl | rfl | rfl | rfl | rfl | rfl | rfl | rfl | rfl | rfl | rfl | rfl | rfl | rfl | rfl | rfl | rfl | rfl | rfl | rfl | rfl | rfl | rfl | rfl | rfl | rfl | rfl | rfl | rfl | rfl | rfl | rfl | rfl | rfl | rfl | rfl | hk37
      · refine Wp.tswIn (off := 163) (n := 196) dL_law_33 (by decide) (by decide) (by decide) (by decide) ?_
        exact law_thing hsta hb (by omega) hL hp hM hP hW (by omega) nx
      · refine Wp.tswIn (off := 176) (n := 209) dL_law_33 (by decide) (by decide) (by decide) (by decide) ?_
        exact law_line hsta hb (by omega) hL hp hM hP hW (by omega) nx
      · refine Wp.tswIn (off := 229) (n := 262) dL_law_33 (by decide) (by decide) (by decide) (by decide) ?_
        exact law_alter hsta hb (by omega) hL hp hM hP hW (by omega) nx
      · refine Wp.tswIn (off := 272) (n := 305) dL_law_33 (by decide) (by decide) (by decide) (by decide) ?_
        exact law_close hsta hb (by omega) hL hp hM hP hW (by omega) nx
      · refine Wp.tswIn (off := 285) (n := 318) dL_law_33 (by decide) (by decide) (by decide) (by decide) ?_
        exact law_undo hsta hb (by omega) hL hp hM hP hW (by omega) nx
      · refine Wp.tswIn (off := 298) (n := 331) dL_law_33 (by decide) (by decide) (by decide) (by decide) ?_
        exact law_lineTold hsta hb (by omega) hL hp hM hP hW (by omega) nx
      · refine Wp.tswIn (off := 331) (n := 364) dL_law_33 (by decide) (by decide) (by decide) (by decide) ?_
        exact law_told hsta hb (by omega) hL hp hM hP hW (by omega) nx
      · refine Wp.tswIn (off := 344) (n := 377) dL_law_33 (by decide) (by decide) (by decide) (by decide) ?_
        exact law_tell hsta hb (by omega) hL hp hM hP hW (by omega) nx
      · refine Wp.tswIn (off := 377) (n := 410) dL_law_33 (by decide) (by decide) (by decide) (by decide) ?_
        exact law_tree hsta hb (by omega) hL hp hM hP hW (by omega) nx
      · refine Wp.tswIn (off := 390) (n := 423) dL_law_33 (by decide) (by decide) (by decide) (by decide) ?_
        exact law_way hsta hb (by omega) hL hp hM hP hW (by omega) nx
      · refine Wp.tswIn (off := 423) (n := 456) dL_law_33 (by decide) (by decide) (by decide) (by decide) ?_
        exact law_pairing hsta hb (by omega) hL hp hM hP hW (by omega) nx
      · refine Wp.tswIn (off := 446) (n := 479) dL_law_33 (by decide) (by decide) (by decide) (by decide) ?_
        exact law_offerTold hsta hb (by omega) hL hp hM hP hW (by omega) nx
      · refine Wp.tswIn (off := 479) (n := 512) dL_law_33 (by decide) (by decide) (by decide) (by decide) ?_
        exact law_choice hsta hb (by omega) hL hp hM hP hW (by omega) nx
      · refine Wp.tswIn (off := 512) (n := 545) dL_law_33 (by decide) (by decide) (by decide) (by decide) ?_
        exact law_cost hsta hb (by omega) hL hp hM hP hW (by omega) nx
      · refine Wp.tswIn (off := 566) (n := 599) dL_law_33 (by decide) (by decide) (by decide) (by decide) ?_
        exact law_best hsta hb (by omega) hL hp hM hP hW (by omega) nx
      · refine Wp.tswIn (off := 619) (n := 652) dL_law_33 (by decide) (by decide) (by decide) (by decide) ?_
        exact law_least hsta hb (by omega) hL hp hM hP hW (by omega) nx
      · refine Wp.tswIn (off := 673) (n := 706) dL_law_33 (by decide) (by decide) (by decide) (by decide) ?_
        exact law_window hsta hb (by omega) hL hp hM hP hW (by omega) nx
      · refine Wp.tswIn (off := 726) (n := 759) dL_law_33 (by decide) (by decide) (by decide) (by decide) ?_
        exact law_bends hsta hb (by omega) hL hp hM hP hW (by omega) nx
      · refine Wp.tswIn (off := 749) (n := 782) dL_law_33 (by decide) (by decide) (by decide) (by decide) ?_
        exact law_bend hsta hb (by omega) hL hp hM hP hW (by omega) nx
      · refine Wp.tswIn (off := 793) (n := 826) dL_law_33 (by decide) (by decide) (by decide) (by decide) ?_
        exact law_span hsta hb (by omega) hL hp hM hP hW (by omega) nx
      · refine Wp.tswIn (off := 837) (n := 870) dL_law_33 (by decide) (by decide) (by decide) (by decide) ?_
        exact law_top hsta hb (by omega) hL hp hM hP hW (by omega) nx
      · refine Wp.tswIn (off := 871) (n := 904) dL_law_33 (by decide) (by decide) (by decide) (by decide) ?_
        exact law_ratio hsta hb (by omega) hL hp hM hP hW (by omega) nx
      · refine Wp.tswIn (off := 905) (n := 938) dL_law_33 (by decide) (by decide) (by decide) (by decide) ?_
        exact law_regret hsta hb (by omega) hL hp hM hP hW (by omega) nx
      · refine Wp.tswIn (off := 949) (n := 982) dL_law_33 (by decide) (by decide) (by decide) (by decide) ?_
        exact law_calm hsta hb (by omega) hL hp hM hP hW (by omega) nx
      · refine Wp.tswIn (off := 972) (n := 1005) dL_law_33 (by decide) (by decide) (by decide) (by decide) ?_
        exact law_why hsta hb (by omega) hL hp hM hP hW (by omega) nx
      · refine Wp.tswIn (off := 1025) (n := 1058) dL_law_33 (by decide) (by decide) (by decide) (by decide) ?_
        exact law_write hsta hb (by omega) hL hp hM hP hW (by omega) nx
      · refine Wp.tswIn (off := 1048) (n := 1081) dL_law_33 (by decide) (by decide) (by decide) (by decide) ?_
        exact law_row hsta hb (by omega) hL hp hM hP hW (by omega) nx
      · refine Wp.tswIn (off := 1082) (n := 1115) dL_law_33 (by decide) (by decide) (by decide) (by decide) ?_
        exact law_forge hsta hb (by omega) hL hp hM hP hW (by omega) nx
      · refine Wp.tswIn (off := 1125) (n := 1158) dL_law_33 (by decide) (by decide) (by decide) (by decide) ?_
        exact law_check hsta hb (by omega) hL hp hM hP hW (by omega) nx
      · refine Wp.tswIn (off := 1148) (n := 1181) dL_law_33 (by decide) (by decide) (by decide) (by decide) ?_
        exact law_act hsta hb (by omega) hL hp hM hP hW (by omega) nx
      · refine Wp.tswIn (off := 1191) (n := 1224) dL_law_33 (by decide) (by decide) (by decide) (by decide) ?_
        exact law_trace hsta hb (by omega) hL hp hM hP hW (by omega) nx
      · refine Wp.tswIn (off := 1214) (n := 1247) dL_law_33 (by decide) (by decide) (by decide) (by decide) ?_
        exact law_count hsta hb (by omega) hL hp hM hP hW (by omega) nx
      · refine Wp.tswIn (off := 1237) (n := 1270) dL_law_33 (by decide) (by decide) (by decide) (by decide) ?_
        exact law_sheet hsta hb (by omega) hL hp hM hP hW (by omega) nx
      · refine Wp.tswIn (off := 1280) (n := 1313) dL_law_33 (by decide) (by decide) (by decide) (by decide) ?_
        exact law_cell hsta hb (by omega) hL hp hM hP hW (by omega) nx
      · refine Wp.tswIn (off := 1323) (n := 1356) dL_law_33 (by decide) (by decide) (by decide) (by decide) ?_
        exact law_lay hsta hb (by omega) hL hp hM hP hW (by omega) nx
      · refine Wp.tswIn (off := 1366) (n := 1399) dL_law_33 (by decide) (by decide) (by decide) (by decide) ?_
        exact law_copy hsta hb (by omega) hL hp hM hP hW (by omega) nx
      · refine Wp.tswIn (off := 1429) (n := 1462) dL_law_33 (by decide) (by decide) (by decide) (by decide) ?_
        exact law_taken hsta hb (by omega) hL hp hM hP hW (by omega) nx
      · refine Wp.tswOut (n := 1495) dL_law_33 (Or.inr (by rw [nI_toInt (by omega)]; omega)) (by decide) ?_
        exact nx h σ V G Z (hp.up (by omega)) hM hP hW
  · intro h σ V G Z hp hM hP hW
    refine Wp.iload_n dL_law_18 rfl rfl ?_
    refine Wp.aload_n dL_law_19 rfl (by first | exact Or.inr ⟨_, rfl⟩ | exact Or.inl rfl) rfl ?_
    refine Wp.rolen dL_law_20 hb rfl ?_
    rw [show Int32.ofNat L = nI L from rfl]
    refine Wp.bipush (v := (nI 6)) dL_law_21 (by decide) rfl ?_
    refine Wp.isub dL_law_23 rfl ?_
    rw [nI_iI L, nI_iI 6, iI_sub]
    refine Wp.icmp_gt (tgt := 1501) (n := 27) dL_law_24 (by decide) rfl (fun c_24 => ?_) (fun c_24 => ?_)
    · try simp (disch := omega) only [nI_bit0, nI_bit1, Bool.not_eq_false, Bool.not_eq_true] at c_24
      try simp (disch := omega) only [i_lt, i_le, i_eq, l_lt, l_le, l_eq, i_0, i_m1, l_0, nI_tI, iI_tI, lI_tI, Int.not_lt, Int.not_le] at c_24
      refine Wp.iconst (v := (nI 1)) dL_law_1501 (by decide) rfl ?_
      exact Wp.zret dL_law_1502 rfl (by decide) (hQ h (hp.room hW hw))
    · try simp (disch := omega) only [nI_bit0, nI_bit1, Bool.not_eq_false, Bool.not_eq_true] at c_24
      try simp (disch := omega) only [i_lt, i_le, i_eq, l_lt, l_le, l_eq, i_0, i_m1, l_0, nI_tI, iI_tI, lI_tI, Int.not_lt, Int.not_le] at c_24
      omega
set_option maxHeartbeats 2000000 in
theorem law_ok  :
    ev_law := by
  intro B b L f n hsta hb hL
  refine Wp.new dL_law_0 nw_L_7 rfl ?_
  refine Wp.dup dL_law_3 rfl rfl ?_
  refine Wp.cI dL_law_4 ci_L_9 rfl (by omega) rfl (Nat.le_of_ble_eq_true rfl) (Nat.le_of_ble_eq_true rfl) rfl (c_X11_init (d := 100 - 1) (X := fun _ => False) (A := fun _ => n) (C := fun s => if s = 0 then some (ev_ob 10 ev_v10) else none) CS.one (Eq.refl n) (if_pos (Eq.refl 0)) (fun s hs => if_neg (by omega)) (by omega)) ?_
  rintro _ h1 ⟨rfl, -, hp1⟩
  dsimp only [Option.toList, List.drop, List.cons_append, List.nil_append]
  refine Wp.astore_n dL_law_7 (by first | exact Or.inr ⟨_, rfl⟩ | exact Or.inl rfl) (Nat.le_of_ble_eq_true rfl) (by dsimp only [ev_st1, ev_cl] <;> rfl) rfl ?_
  refine Wp.new dL_law_8 nw_L_10 rfl ?_
  refine Wp.dup dL_law_11 rfl rfl ?_
  refine Wp.cI dL_law_12 ci_L_12 rfl (by omega) rfl (Nat.le_of_ble_eq_true rfl) (Nat.le_of_ble_eq_true rfl) rfl (c_X12_init (d := 100 - 1) (x := h1.2.1) (if_pos (Eq.refl h1.2.1)) (Eq.refl _) (by omega)) ?_
  rintro _ h2 ⟨rfl, V0, G0, hM0, hP0, e1, e2, e3⟩
  dsimp only [Option.toList, List.drop, List.cons_append, List.nil_append]
  refine Wp.astore_n dL_law_15 (by first | exact Or.inr ⟨_, rfl⟩ | exact Or.inl rfl) (Nat.le_of_ble_eq_true rfl) (by dsimp only [ev_st1, ev_cl] <;> rfl) rfl ?_
  refine Wp.iconst (v := (nI 0)) dL_law_16 (by decide) rfl ?_
  refine Wp.istore_n dL_law_17 (Nat.le_of_ble_eq_true rfl) (by dsimp only [ev_st1, ev_st2, ev_cl] <;> rfl) rfl ?_
  have e3' : h2.2.2 = h1.2.2 + 37 + 16275 := e3
  have hp2 : PSx (XR h1.2.1) 100000 h2 n Sg.new 0 := hp1.mv (fun a ha => ⟨(e2 a ha).trans (if_neg (by omega)), fun z => by have := z.1; omega⟩) (by omega) (fun a z => by have := z.2; omega) (by rw [e3']; show h1.2.2 + 37 + 16275 + (0 + (8 + 1) + 400) ≤ 100000 + h1.2.2; omega)
  exact law_loop hsta hb hL (Nat.le_refl _) (fun h hh => ⟨rfl, hh⟩) 0 (Nat.zero_le _) h2 Sg.new V0 G0 _ hp2 hM0 hP0 Wf.new
