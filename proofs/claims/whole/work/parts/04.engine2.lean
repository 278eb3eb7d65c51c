theorem ev_lc_eq {x y : Int64} : (lg_cmp x y = 0) ↔ x = y := by
  unfold lg_cmp
  by_cases h1 : x > y
  · rw [if_pos h1]; exact ⟨fun z => absurd z (by decide), fun z => by subst z; exact absurd h1 (by simp)⟩
  · rw [if_neg h1]
    by_cases h2 : x = y
    · rw [if_pos h2]; simp [h2]
    · rw [if_neg h2]; exact ⟨fun z => absurd z (by decide), fun z => absurd z h2⟩
theorem ev_lc_ne {x y : Int64} : (¬ lg_cmp x y = 0) ↔ ¬ x = y := not_congr ev_lc_eq
theorem ev_lc_ge {x y : Int64} : (0 ≤ lg_cmp x y) ↔ y ≤ x := lg_cmp_ge x y
theorem ev_lc_le {x y : Int64} : (lg_cmp x y ≤ 0) ↔ x ≤ y := lg_cmp_le x y
theorem ev_lc_lt {x y : Int64} : (lg_cmp x y < 0) ↔ x < y := by
  have h := @ev_lc_ge x y
  constructor
  · intro z
    refine Int64.not_le.mp fun q => ?_
    exact absurd (h.mpr q) (Int32.not_le.mpr z)
  · intro z
    refine Int32.not_le.mp fun q => ?_
    exact absurd (h.mp q) (Int64.not_le.mpr z)
theorem ev_lc_gt {x y : Int64} : (0 < lg_cmp x y) ↔ y < x := by
  have h := @ev_lc_le x y
  constructor
  · intro z
    refine Int64.not_le.mp fun q => ?_
    exact absurd (h.mpr q) (Int32.not_le.mpr z)
  · intro z
    refine Int32.not_le.mp fun q => ?_
    exact absurd (h.mp q) (Int64.not_le.mpr z)
/-! one row an instruction: those that leave the heap -/
def ev_isr (v : Value) : Prop := v = .null ∨ ∃ a : Nat, v = .ref a
section EVI
variable {B : ev_B} {d : Nat} {M : ev_M} {pc n : Nat} {ls ls' : List (Option Value)} {st st' : List Value} {h : ev_H} {Q : Option Value → ev_H → Prop}
theorem Wp.iadd {x y : Int32} (hd : decode M.2.1 pc = .ok (.iadd, 1)) (hn : pc + 1 = n) (k : Wp B d M n ls (.int (x + y) :: st) h Q) : Wp B d M pc ls (.int y :: .int x :: st) h Q := by
  subst hn
  exact Wp.go (fun D p l e R s m args below meth c H locs a cells slots Qf hG hR hS hL kk => lv_iadd hG.1 hG.2.1 hd (kk a hL)) k
theorem Wp.isub {x y : Int32} (hd : decode M.2.1 pc = .ok (.isub, 1)) (hn : pc + 1 = n) (k : Wp B d M n ls (.int (x - y) :: st) h Q) : Wp B d M pc ls (.int y :: .int x :: st) h Q := by
  subst hn
  exact Wp.go (fun D p l e R s m args below meth c H locs a cells slots Qf hG hR hS hL kk => lv_isub hG.1 hG.2.1 hd (kk a hL)) k
theorem Wp.imul {x y : Int32} (hd : decode M.2.1 pc = .ok (.imul, 1)) (hn : pc + 1 = n) (k : Wp B d M n ls (.int (x * y) :: st) h Q) : Wp B d M pc ls (.int y :: .int x :: st) h Q := by
  subst hn
  exact Wp.go (fun D p l e R s m args below meth c H locs a cells slots Qf hG hR hS hL kk => lv_imul hG.1 hG.2.1 hd (kk a hL)) k
theorem Wp.iand {x y : Int32} (hd : decode M.2.1 pc = .ok (.iand, 1)) (hn : pc + 1 = n) (k : Wp B d M n ls (.int (x &&& y) :: st) h Q) : Wp B d M pc ls (.int y :: .int x :: st) h Q := by
  subst hn
  exact Wp.go (fun D p l e R s m args below meth c H locs a cells slots Qf hG hR hS hL kk => lv_iand hG.1 hG.2.1 hd (kk a hL)) k
theorem Wp.ior {x y : Int32} (hd : decode M.2.1 pc = .ok (.ior, 1)) (hn : pc + 1 = n) (k : Wp B d M n ls (.int (x ||| y) :: st) h Q) : Wp B d M pc ls (.int y :: .int x :: st) h Q := by
  subst hn
  exact Wp.go (fun D p l e R s m args below meth c H locs a cells slots Qf hG hR hS hL kk => lv_ior hG.1 hG.2.1 hd (kk a hL)) k
theorem Wp.ixor {x y : Int32} (hd : decode M.2.1 pc = .ok (.ixor, 1)) (hn : pc + 1 = n) (k : Wp B d M n ls (.int (x ^^^ y) :: st) h Q) : Wp B d M pc ls (.int y :: .int x :: st) h Q := by
  subst hn
  exact Wp.go (fun D p l e R s m args below meth c H locs a cells slots Qf hG hR hS hL kk => lv_ixor hG.1 hG.2.1 hd (kk a hL)) k
theorem Wp.ishl {x y : Int32} (hd : decode M.2.1 pc = .ok (.ishl, 1)) (hn : pc + 1 = n) (k : Wp B d M n ls (.int (x <<< (y &&& 31)) :: st) h Q) : Wp B d M pc ls (.int y :: .int x :: st) h Q := by
  subst hn
  exact Wp.go (fun D p l e R s m args below meth c H locs a cells slots Qf hG hR hS hL kk => lv_ishl hG.1 hG.2.1 hd (kk a hL)) k
theorem Wp.ishr {x y : Int32} (hd : decode M.2.1 pc = .ok (.ishr, 1)) (hn : pc + 1 = n) (k : Wp B d M n ls (.int (x >>> (y &&& 31)) :: st) h Q) : Wp B d M pc ls (.int y :: .int x :: st) h Q := by
  subst hn
  exact Wp.go (fun D p l e R s m args below meth c H locs a cells slots Qf hG hR hS hL kk => lv_ishr hG.1 hG.2.1 hd (kk a hL)) k
theorem Wp.irem {x y : Int32} (hd : decode M.2.1 pc = .ok (.irem, 1)) (hne : ¬ y = 0) (hn : pc + 1 = n) (k : Wp B d M n ls (.int (x - x / y * y) :: st) h Q) : Wp B d M pc ls (.int y :: .int x :: st) h Q := by
  subst hn
  exact Wp.go (fun D p l e R s m args below meth c H locs a cells slots Qf hG hR hS hL kk => lv_irem hG.1 hG.2.1 hd hne (kk a hL)) k
theorem Wp.ladd {x y : Int64} (hd : decode M.2.1 pc = .ok (.ladd, 1)) (hn : pc + 1 = n) (k : Wp B d M n ls (.long (x + y) :: st) h Q) : Wp B d M pc ls (.long y :: .long x :: st) h Q := by
  subst hn
  exact Wp.go (fun D p l e R s m args below meth c H locs a cells slots Qf hG hR hS hL kk => lv_ladd hG.1 hG.2.1 hd (kk a hL)) k
theorem Wp.lsub {x y : Int64} (hd : decode M.2.1 pc = .ok (.lsub, 1)) (hn : pc + 1 = n) (k : Wp B d M n ls (.long (x - y) :: st) h Q) : Wp B d M pc ls (.long y :: .long x :: st) h Q := by
  subst hn
  exact Wp.go (fun D p l e R s m args below meth c H locs a cells slots Qf hG hR hS hL kk => lv_lsub hG.1 hG.2.1 hd (kk a hL)) k
theorem Wp.lmul {x y : Int64} (hd : decode M.2.1 pc = .ok (.lmul, 1)) (hn : pc + 1 = n) (k : Wp B d M n ls (.long (x * y) :: st) h Q) : Wp B d M pc ls (.long y :: .long x :: st) h Q := by
  subst hn
  exact Wp.go (fun D p l e R s m args below meth c H locs a cells slots Qf hG hR hS hL kk => lv_lmul hG.1 hG.2.1 hd (kk a hL)) k
theorem Wp.ldiv {x y : Int64} (hd : decode M.2.1 pc = .ok (.ldiv, 1)) (hne : ¬ y = 0) (hn : pc + 1 = n) (k : Wp B d M n ls (.long (x / y) :: st) h Q) : Wp B d M pc ls (.long y :: .long x :: st) h Q := by
  subst hn
  exact Wp.go (fun D p l e R s m args below meth c H locs a cells slots Qf hG hR hS hL kk => lv_ldiv hG.1 hG.2.1 hd hne (kk a hL)) k
theorem Wp.lrem {x y : Int64} (hd : decode M.2.1 pc = .ok (.lrem, 1)) (hne : ¬ y = 0) (hn : pc + 1 = n) (k : Wp B d M n ls (.long (x - x / y * y) :: st) h Q) : Wp B d M pc ls (.long y :: .long x :: st) h Q := by
  subst hn
  exact Wp.go (fun D p l e R s m args below meth c H locs a cells slots Qf hG hR hS hL kk => lv_lrem hG.1 hG.2.1 hd hne (kk a hL)) k
theorem Wp.iushr {x y : Int32} (hd : decode M.2.1 pc = .ok (.iushr, 1)) (hn : pc + 1 = n) (k : Wp B d M n ls (.int ((x.toUInt32 >>> (y.toUInt32 &&& Int32.toUInt32 31)).toInt32) :: st) h Q) : Wp B d M pc ls (.int y :: .int x :: st) h Q := by
  subst hn
  exact Wp.go (fun D p l e R s m args below meth c H locs a cells slots Qf hG hR hS hL kk => lv_iushr hG.1 hG.2.1 hd rfl (kk a hL)) k
theorem Wp.ineg {x : Int32} (hd : decode M.2.1 pc = .ok (.ineg, 1)) (hn : pc + 1 = n) (k : Wp B d M n ls (.int (-x) :: st) h Q) : Wp B d M pc ls (.int x :: st) h Q := by
  subst hn
  exact Wp.go (fun D p l e R s m args below meth c H locs a cells slots Qf hG hR hS hL kk => lv_ineg hG.1 hG.2.1 hd (kk a hL)) k
theorem Wp.lneg {x : Int64} (hd : decode M.2.1 pc = .ok (.lneg, 1)) (hn : pc + 1 = n) (k : Wp B d M n ls (.long (-x) :: st) h Q) : Wp B d M pc ls (.long x :: st) h Q := by
  subst hn
  exact Wp.go (fun D p l e R s m args below meth c H locs a cells slots Qf hG hR hS hL kk => lv_lneg hG.1 hG.2.1 hd (kk a hL)) k
theorem Wp.i2l {x : Int32} (hd : decode M.2.1 pc = .ok (.i2l, 1)) (hn : pc + 1 = n) (k : Wp B d M n ls (.long x.toInt64 :: st) h Q) : Wp B d M pc ls (.int x :: st) h Q := by
  subst hn
  exact Wp.go (fun D p l e R s m args below meth c H locs a cells slots Qf hG hR hS hL kk => lv_i2l hG.1 hG.2.1 hd rfl (kk a hL)) k
theorem Wp.l2i {x : Int64} (hd : decode M.2.1 pc = .ok (.l2i, 1)) (hn : pc + 1 = n) (k : Wp B d M n ls (.int x.toInt32 :: st) h Q) : Wp B d M pc ls (.long x :: st) h Q := by
  subst hn
  exact Wp.go (fun D p l e R s m args below meth c H locs a cells slots Qf hG hR hS hL kk => lv_l2i hG.1 hG.2.1 hd rfl (kk a hL)) k
theorem Wp.i2b {x : Int32} (hd : decode M.2.1 pc = .ok (.i2b, 1)) (hn : pc + 1 = n) (k : Wp B d M n ls (.int x.toInt8.toInt32 :: st) h Q) : Wp B d M pc ls (.int x :: st) h Q := by
  subst hn
  exact Wp.go (fun D p l e R s m args below meth c H locs a cells slots Qf hG hR hS hL kk => lv_i2b hG.1 hG.2.1 hd rfl (kk a hL)) k
theorem Wp.lcmp {x y : Int64} (hd : decode M.2.1 pc = .ok (.lcmp, 1)) (hn : pc + 1 = n) (k : Wp B d M n ls (.int (lg_cmp x y) :: st) h Q) : Wp B d M pc ls (.long y :: .long x :: st) h Q := by
  subst hn
  exact Wp.go (fun D p l e R s m args below meth c H locs a cells slots Qf hG hR hS hL kk => W.lcmp hG.1 hG.2.1 hd (kk a hL)) k
theorem Wp.iconst {i : Int} {v : Int32} (hd : decode M.2.1 pc = .ok (.iconst i, 1)) (hv : Int32.ofInt i = v) (hn : pc + 1 = n) (k : Wp B d M n ls (.int v :: st) h Q) : Wp B d M pc ls st h Q := by
  subst hn
  exact Wp.go (fun D p l e R s m args below meth c H locs a cells slots Qf hG hR hS hL kk => lv_iconst hG.1 hG.2.1 hd hv (kk a hL)) k
theorem Wp.bipush {i : Int} {v : Int32} (hd : decode M.2.1 pc = .ok (.bipush i, 2)) (hv : (Int8.ofInt i).toInt32 = v) (hn : pc + 2 = n) (k : Wp B d M n ls (.int v :: st) h Q) : Wp B d M pc ls st h Q := by
  subst hn
  exact Wp.go (fun D p l e R s m args below meth c H locs a cells slots Qf hG hR hS hL kk => lv_bipush hG.1 hG.2.1 hd hv (kk a hL)) k
theorem Wp.sipush {i : Int} {v : Int32} (hd : decode M.2.1 pc = .ok (.sipush i, 3)) (hv : (Int16.ofInt i).toInt32 = v) (hn : pc + 3 = n) (k : Wp B d M n ls (.int v :: st) h Q) : Wp B d M pc ls st h Q := by
  subst hn
  exact Wp.go (fun D p l e R s m args below meth c H locs a cells slots Qf hG hR hS hL kk => lv_sipush hG.1 hG.2.1 hd hv (kk a hL)) k
theorem Wp.lconst {i : Fin 2} {v : Int64} (hd : decode M.2.1 pc = .ok (.lconst i, 1)) (hv : Int64.ofNat (i : Nat) = v) (hn : pc + 1 = n) (k : Wp B d M n ls (.long v :: st) h Q) : Wp B d M pc ls st h Q := by
  subst hn
  exact Wp.go (fun D p l e R s m args below meth c H locs a cells slots Qf hG hR hS hL kk => lv_lconst hG.1 hG.2.1 hd hv (kk a hL)) k
theorem Wp.aconst_null (hd : decode M.2.1 pc = .ok (.aconst_null, 1)) (hn : pc + 1 = n) (k : Wp B d M n ls (.null :: st) h Q) : Wp B d M pc ls st h Q := by
  subst hn
  exact Wp.go (fun D p l e R s m args below meth c H locs a cells slots Qf hG hR hS hL kk => lv_null hG.1 hG.2.1 hd (kk a hL)) k
theorem Wp.dup {x : Value} (hd : decode M.2.1 pc = .ok (.dup, 1)) (hx : x.category = 1) (hn : pc + 1 = n) (k : Wp B d M n ls (x :: x :: st) h Q) : Wp B d M pc ls (x :: st) h Q := by
  subst hn
  exact Wp.go (fun D p l e R s m args below meth c H locs a cells slots Qf hG hR hS hL kk => lv_dup hG.1 hG.2.1 hd hx (kk a hL)) k
theorem Wp.pop {x : Value} (hd : decode M.2.1 pc = .ok (.pop, 1)) (hx : x.category = 1) (hn : pc + 1 = n) (k : Wp B d M n ls st h Q) : Wp B d M pc ls (x :: st) h Q := by
  subst hn
  exact Wp.go (fun D p l e R s m args below meth c H locs a cells slots Qf hG hR hS hL kk => lv_pop hG.1 hG.2.1 hd hx (kk a hL)) k
theorem Wp.dup_x1 {x y : Value} (hd : decode M.2.1 pc = .ok (.dup_x1, 1)) (hx : x.category = 1) (hy : y.category = 1) (hn : pc + 1 = n) (k : Wp B d M n ls (x :: y :: x :: st) h Q) : Wp B d M pc ls (x :: y :: st) h Q := by
  subst hn
  exact Wp.go (fun D p l e R s m args below meth c H locs a cells slots Qf hG hR hS hL kk => lv_dup_x1 hG.1 hG.2.1 hd hx hy (kk a hL)) k
theorem Wp.dup2 {x y : Value} (hd : decode M.2.1 pc = .ok (.dup2, 1)) (hx : x.category = 1) (hy : y.category = 1) (hn : pc + 1 = n) (k : Wp B d M n ls (x :: y :: x :: y :: st) h Q) : Wp B d M pc ls (x :: y :: st) h Q := by
  subst hn
  exact Wp.go (fun D p l e R s m args below meth c H locs a cells slots Qf hG hR hS hL kk => lv_dup2_11 hG.1 hG.2.1 hd hx hy (kk a hL)) k
theorem Wp.iload_n {k : Fin 4} {x : Int32} (hd : decode M.2.1 pc = .ok (.iload_n k, 1)) (hl : ls[(k : Nat)]? = some (some (.int x))) (hn : pc + 1 = n) (k : Wp B d M n ls (.int x :: st) h Q) : Wp B d M pc ls st h Q := by
  subst hn
  exact Wp.go (fun D p l e R s m args below meth c H locs a cells slots Qf hG hR hS hL kk => lv_iload_n hG.1 hG.2.1 hd rfl (hL.get hl) (kk a hL)) k
theorem Wp.iload {i : Nat} {x : Int32} (hd : decode M.2.1 pc = .ok (.iload i, 2)) (hl : ls[i]? = some (some (.int x))) (hn : pc + 2 = n) (k : Wp B d M n ls (.int x :: st) h Q) : Wp B d M pc ls st h Q := by
  subst hn
  exact Wp.go (fun D p l e R s m args below meth c H locs a cells slots Qf hG hR hS hL kk => lv_iload hG.1 hG.2.1 hd (hL.get hl) (kk a hL)) k
theorem Wp.lload_n {k : Fin 4} {x : Int64} (hd : decode M.2.1 pc = .ok (.lload_n k, 1)) (hl : ls[(k : Nat)]? = some (some (.long x))) (hn : pc + 1 = n) (k : Wp B d M n ls (.long x :: st) h Q) : Wp B d M pc ls st h Q := by
  subst hn
  exact Wp.go (fun D p l e R s m args below meth c H locs a cells slots Qf hG hR hS hL kk => lv_lload_n hG.1 hG.2.1 hd rfl (hL.get hl) (kk a hL)) k
theorem Wp.lload {i : Nat} {x : Int64} (hd : decode M.2.1 pc = .ok (.lload i, 2)) (hl : ls[i]? = some (some (.long x))) (hn : pc + 2 = n) (k : Wp B d M n ls (.long x :: st) h Q) : Wp B d M pc ls st h Q := by
  subst hn
  exact Wp.go (fun D p l e R s m args below meth c H locs a cells slots Qf hG hR hS hL kk => lv_lload hG.1 hG.2.1 hd (hL.get hl) (kk a hL)) k
theorem Wp.aload_n {k : Fin 4} {x : Value} (hd : decode M.2.1 pc = .ok (.aload_n k, 1)) (hl : ls[(k : Nat)]? = some (some x)) (hx : ev_isr x) (hn : pc + 1 = n) (k' : Wp B d M n ls (x :: st) h Q) : Wp B d M pc ls st h Q := by
  subst hn
  rcases hx with rfl | ⟨b, rfl⟩
  · exact Wp.go (fun D p l e R s m args below meth c H locs a cells slots Qf hG hR hS hL kk => lv_aload_nN hG.1 hG.2.1 hd rfl (hL.get hl) (kk a hL)) k'
  · exact Wp.go (fun D p l e R s m args below meth c H locs a cells slots Qf hG hR hS hL kk => lv_aload_n hG.1 hG.2.1 hd rfl (hL.get hl) (kk a hL)) k'
theorem Wp.aload {i : Nat} {x : Value} (hd : decode M.2.1 pc = .ok (.aload i, 2)) (hl : ls[i]? = some (some x)) (hx : ev_isr x) (hn : pc + 2 = n) (k' : Wp B d M n ls (x :: st) h Q) : Wp B d M pc ls st h Q := by
  subst hn
  rcases hx with rfl | ⟨b, rfl⟩
  · exact Wp.go (fun D p l e R s m args below meth c H locs a cells slots Qf hG hR hS hL kk => lv_aloadN hG.1 hG.2.1 hd (hL.get hl) (kk a hL)) k'
  · exact Wp.go (fun D p l e R s m args below meth c H locs a cells slots Qf hG hR hS hL kk => lv_aload hG.1 hG.2.1 hd (hL.get hl) (kk a hL)) k'
theorem Wp.istore_n {i : Fin 4} {x : Int32} (hd : decode M.2.1 pc = .ok (.istore_n i, 1)) (hi : (i : Nat) < M.2.2.1) (hl : ev_st1 ls (i : Nat) (.int x) = ls') (hn : pc + 1 = n) (k : Wp B d M n ls' st h Q) : Wp B d M pc ls (.int x :: st) h Q := by
  subst hn; subst hl
  exact Wp.go (fun D p l e R s m args below meth c H locs a cells slots Qf hG hR hS hL kk => lv_istore_n hG.1 hG.2.1 hd rfl hL.has hi rfl (fun a' h' => kk a' (ev_L.st1 h'))) k
theorem Wp.istore {i : Nat} {x : Int32} (hd : decode M.2.1 pc = .ok (.istore i, 2)) (hi : i < M.2.2.1) (hl : ev_st1 ls i (.int x) = ls') (hn : pc + 2 = n) (k : Wp B d M n ls' st h Q) : Wp B d M pc ls (.int x :: st) h Q := by
  subst hn; subst hl
  exact Wp.go (fun D p l e R s m args below meth c H locs a cells slots Qf hG hR hS hL kk => lv_istore hG.1 hG.2.1 hd hL.has hi rfl (fun a' h' => kk a' (ev_L.st1 h'))) k
theorem Wp.lstore_n {i : Fin 4} {x : Int64} (hd : decode M.2.1 pc = .ok (.lstore_n i, 1)) (hi : (i : Nat) + 1 < M.2.2.1) (hl : ev_st2 ls (i : Nat) (.long x) = ls') (hn : pc + 1 = n) (k : Wp B d M n ls' st h Q) : Wp B d M pc ls (.long x :: st) h Q := by
  subst hn; subst hl
  exact Wp.go (fun D p l e R s m args below meth c H locs a cells slots Qf hG hR hS hL kk => lv_lstore_n hG.1 hG.2.1 hd rfl hL.has hi rfl (fun a' h' => kk a' (ev_L.st2 h'))) k
theorem Wp.lstore {i : Nat} {x : Int64} (hd : decode M.2.1 pc = .ok (.lstore i, 2)) (hi : i + 1 < M.2.2.1) (hl : ev_st2 ls i (.long x) = ls') (hn : pc + 2 = n) (k : Wp B d M n ls' st h Q) : Wp B d M pc ls (.long x :: st) h Q := by
  subst hn; subst hl
  exact Wp.go (fun D p l e R s m args below meth c H locs a cells slots Qf hG hR hS hL kk => lv_lstore hG.1 hG.2.1 hd hL.has hi rfl (fun a' h' => kk a' (ev_L.st2 h'))) k
theorem Wp.astore_n {i : Fin 4} {x : Value} (hd : decode M.2.1 pc = .ok (.astore_n i, 1)) (hx : ev_isr x) (hi : (i : Nat) < M.2.2.1) (hl : ev_st1 ls (i : Nat) x = ls') (hn : pc + 1 = n) (k : Wp B d M n ls' st h Q) : Wp B d M pc ls (x :: st) h Q := by
  subst hn; subst hl
  rcases hx with rfl | ⟨b, rfl⟩
  · exact Wp.go (fun D p l e R s m args below meth c H locs a cells slots Qf hG hR hS hL kk => lv_astore_nN hG.1 hG.2.1 hd rfl hL.has hi rfl (fun a' h' => kk a' (ev_L.st1 h'))) k
  · exact Wp.go (fun D p l e R s m args below meth c H locs a cells slots Qf hG hR hS hL kk => lv_astore_n hG.1 hG.2.1 hd rfl hL.has hi rfl (fun a' h' => kk a' (ev_L.st1 h'))) k
theorem Wp.astore {i : Nat} {x : Value} (hd : decode M.2.1 pc = .ok (.astore i, 2)) (hx : ev_isr x) (hi : i < M.2.2.1) (hl : ev_st1 ls i x = ls') (hn : pc + 2 = n) (k : Wp B d M n ls' st h Q) : Wp B d M pc ls (x :: st) h Q := by
  subst hn; subst hl
  rcases hx with rfl | ⟨b, rfl⟩
  · exact Wp.go (fun D p l e R s m args below meth c H locs a cells slots Qf hG hR hS hL kk => lv_astoreN hG.1 hG.2.1 hd hL.has hi rfl (fun a' h' => kk a' (ev_L.st1 h'))) k
  · exact Wp.go (fun D p l e R s m args below meth c H locs a cells slots Qf hG hR hS hL kk => lv_astore hG.1 hG.2.1 hd hL.has hi rfl (fun a' h' => kk a' (ev_L.st1 h'))) k
theorem Wp.iinc {i : Nat} {z : Int} {x v : Int32} (hd : decode M.2.1 pc = .ok (.iinc i z, 3)) (hx : ls[i]? = some (some (.int x))) (hv : x + Int32.ofInt z = v) (hi : i < M.2.2.1) (hl : ev_st1 ls i (.int v) = ls') (hn : pc + 3 = n) (k : Wp B d M n ls' st h Q) : Wp B d M pc ls st h Q := by
  subst hn; subst hl
  refine Wp.go (fun D p l e R s m args below meth c H locs a cells slots Qf hG hR hS hL kk => ?_) k
  obtain ⟨j, hj⟩ := List.getElem?_of_mem (ev_pr_mem (q := (i, .int x)).mpr hx)
  exact lv_iinc hG.1 hG.2.1 hd hL.has hj hv hi rfl (fun a' h' => kk a' (ev_L.st1 h'))
theorem Wp.goto {off : Int} (hd : decode M.2.1 pc = .ok (.goto off, 3)) (ht : (pc : Int) + off = (n : Int)) (k : Wp B d M n ls st h Q) : Wp B d M pc ls st h Q :=
  Wp.go (fun D p l e R s m args below meth c H locs a cells slots Qf hG hR hS hL kk => lv_goto hG.1 hG.2.1 hd ht (kk a hL)) k
theorem Wp.icmp_eq {x y : Int32} {off : Int} {tgt : Nat} (hd : decode M.2.1 pc = .ok (.if_icmp .eq off, 3)) (ht : (pc : Int) + off = (tgt : Int)) (hn : pc + 3 = n) (kt : x = y → Wp B d M tgt ls st h Q) (kf : ¬ x = y → Wp B d M n ls st h Q) : Wp B d M pc ls (.int y :: .int x :: st) h Q := by
  subst hn
  by_cases hc : x = y
  · exact Wp.go (fun D p l e R s m args below meth c H locs a cells slots Qf hG hR hS hL kk => lv_icmp_eq hG.1 hG.2.1 hd ht (fun _ => kk a hL) (fun z => absurd hc z)) (kt hc)
  · exact Wp.go (fun D p l e R s m args below meth c H locs a cells slots Qf hG hR hS hL kk => lv_icmp_eq hG.1 hG.2.1 hd ht (fun z => absurd z hc) (fun _ => kk a hL)) (kf hc)
theorem Wp.if_eq {x : Int32} {off : Int} {tgt : Nat} (hd : decode M.2.1 pc = .ok (.ifCond .eq off, 3)) (ht : (pc : Int) + off = (tgt : Int)) (hn : pc + 3 = n) (kt : x = 0 → Wp B d M tgt ls st h Q) (kf : ¬ x = 0 → Wp B d M n ls st h Q) : Wp B d M pc ls (.int x :: st) h Q := by
  subst hn
  by_cases hc : x = 0
  · exact Wp.go (fun D p l e R s m args below meth c H locs a cells slots Qf hG hR hS hL kk => lv_if_eq hG.1 hG.2.1 hd ht (fun _ => kk a hL) (fun z => absurd hc z)) (kt hc)
  · exact Wp.go (fun D p l e R s m args below meth c H locs a cells slots Qf hG hR hS hL kk => lv_if_eq hG.1 hG.2.1 hd ht (fun z => absurd z hc) (fun _ => kk a hL)) (kf hc)
theorem Wp.icmp_ne {x y : Int32} {off : Int} {tgt : Nat} (hd : decode M.2.1 pc = .ok (.if_icmp .ne off, 3)) (ht : (pc : Int) + off = (tgt : Int)) (hn : pc + 3 = n) (kt : ¬ x = y → Wp B d M tgt ls st h Q) (kf : x = y → Wp B d M n ls st h Q) : Wp B d M pc ls (.int y :: .int x :: st) h Q := by
  subst hn
  by_cases hc : ¬ x = y
  · exact Wp.go (fun D p l e R s m args below meth c H locs a cells slots Qf hG hR hS hL kk => lv_icmp_ne hG.1 hG.2.1 hd ht (fun _ => kk a hL) (fun z => absurd z hc)) (kt hc)
  · exact Wp.go (fun D p l e R s m args below meth c H locs a cells slots Qf hG hR hS hL kk => lv_icmp_ne hG.1 hG.2.1 hd ht (fun z => absurd z hc) (fun _ => kk a hL)) (kf (Classical.not_not.mp hc))
theorem Wp.if_ne {x : Int32} {off : Int} {tgt : Nat} (hd : decode M.2.1 pc = .ok (.ifCond .ne off, 3)) (ht : (pc : Int) + off = (tgt : Int)) (hn : pc + 3 = n) (kt : ¬ x = 0 → Wp B d M tgt ls st h Q) (kf : x = 0 → Wp B d M n ls st h Q) : Wp B d M pc ls (.int x :: st) h Q := by
  subst hn
  by_cases hc : ¬ x = 0
  · exact Wp.go (fun D p l e R s m args below meth c H locs a cells slots Qf hG hR hS hL kk => lv_if_ne hG.1 hG.2.1 hd ht (fun _ => kk a hL) (fun z => absurd z hc)) (kt hc)
  · exact Wp.go (fun D p l e R s m args below meth c H locs a cells slots Qf hG hR hS hL kk => lv_if_ne hG.1 hG.2.1 hd ht (fun z => absurd z hc) (fun _ => kk a hL)) (kf (Classical.not_not.mp hc))
theorem Wp.icmp_lt {x y : Int32} {off : Int} {tgt : Nat} (hd : decode M.2.1 pc = .ok (.if_icmp .lt off, 3)) (ht : (pc : Int) + off = (tgt : Int)) (hn : pc + 3 = n) (kt : x < y → Wp B d M tgt ls st h Q) (kf : ¬ x < y → Wp B d M n ls st h Q) : Wp B d M pc ls (.int y :: .int x :: st) h Q := by
  subst hn
  by_cases hc : x < y
  · exact Wp.go (fun D p l e R s m args below meth c H locs a cells slots Qf hG hR hS hL kk => lv_icmp_lt hG.1 hG.2.1 hd ht (fun _ => kk a hL) (fun z => absurd hc z)) (kt hc)
  · exact Wp.go (fun D p l e R s m args below meth c H locs a cells slots Qf hG hR hS hL kk => lv_icmp_lt hG.1 hG.2.1 hd ht (fun z => absurd z hc) (fun _ => kk a hL)) (kf hc)
theorem Wp.if_lt {x : Int32} {off : Int} {tgt : Nat} (hd : decode M.2.1 pc = .ok (.ifCond .lt off, 3)) (ht : (pc : Int) + off = (tgt : Int)) (hn : pc + 3 = n) (kt : x < 0 → Wp B d M tgt ls st h Q) (kf : ¬ x < 0 → Wp B d M n ls st h Q) : Wp B d M pc ls (.int x :: st) h Q := by
  subst hn
  by_cases hc : x < 0
  · exact Wp.go (fun D p l e R s m args below meth c H locs a cells slots Qf hG hR hS hL kk => lv_if_lt hG.1 hG.2.1 hd ht (fun _ => kk a hL) (fun z => absurd hc z)) (kt hc)
  · exact Wp.go (fun D p l e R s m args below meth c H locs a cells slots Qf hG hR hS hL kk => lv_if_lt hG.1 hG.2.1 hd ht (fun z => absurd z hc) (fun _ => kk a hL)) (kf hc)
theorem Wp.icmp_ge {x y : Int32} {off : Int} {tgt : Nat} (hd : decode M.2.1 pc = .ok (.if_icmp .ge off, 3)) (ht : (pc : Int) + off = (tgt : Int)) (hn : pc + 3 = n) (kt : y ≤ x → Wp B d M tgt ls st h Q) (kf : ¬ y ≤ x → Wp B d M n ls st h Q) : Wp B d M pc ls (.int y :: .int x :: st) h Q := by
  subst hn
  by_cases hc : y ≤ x
  · exact Wp.go (fun D p l e R s m args below meth c H locs a cells slots Qf hG hR hS hL kk => lv_icmp_ge hG.1 hG.2.1 hd ht (fun _ => kk a hL) (fun z => absurd hc z)) (kt hc)
  · exact Wp.go (fun D p l e R s m args below meth c H locs a cells slots Qf hG hR hS hL kk => lv_icmp_ge hG.1 hG.2.1 hd ht (fun z => absurd z hc) (fun _ => kk a hL)) (kf hc)
theorem Wp.if_ge {x : Int32} {off : Int} {tgt : Nat} (hd : decode M.2.1 pc = .ok (.ifCond .ge off, 3)) (ht : (pc : Int) + off = (tgt : Int)) (hn : pc + 3 = n) (kt : 0 ≤ x → Wp B d M tgt ls st h Q) (kf : ¬ 0 ≤ x → Wp B d M n ls st h Q) : Wp B d M pc ls (.int x :: st) h Q := by
  subst hn
  by_cases hc : 0 ≤ x
  · exact Wp.go (fun D p l e R s m args below meth c H locs a cells slots Qf hG hR hS hL kk => lv_if_ge hG.1 hG.2.1 hd ht (fun _ => kk a hL) (fun z => absurd hc z)) (kt hc)
  · exact Wp.go (fun D p l e R s m args below meth c H locs a cells slots Qf hG hR hS hL kk => lv_if_ge hG.1 hG.2.1 hd ht (fun z => absurd z hc) (fun _ => kk a hL)) (kf hc)
theorem Wp.icmp_gt {x y : Int32} {off : Int} {tgt : Nat} (hd : decode M.2.1 pc = .ok (.if_icmp .gt off, 3)) (ht : (pc : Int) + off = (tgt : Int)) (hn : pc + 3 = n) (kt : y < x → Wp B d M tgt ls st h Q) (kf : ¬ y < x → Wp B d M n ls st h Q) : Wp B d M pc ls (.int y :: .int x :: st) h Q := by
  subst hn
  by_cases hc : y < x
  · exact Wp.go (fun D p l e R s m args below meth c H locs a cells slots Qf hG hR hS hL kk => lv_icmp_gt hG.1 hG.2.1 hd ht (fun _ => kk a hL) (fun z => absurd hc z)) (kt hc)
  · exact Wp.go (fun D p l e R s m args below meth c H locs a cells slots Qf hG hR hS hL kk => lv_icmp_gt hG.1 hG.2.1 hd ht (fun z => absurd z hc) (fun _ => kk a hL)) (kf hc)
theorem Wp.if_gt {x : Int32} {off : Int} {tgt : Nat} (hd : decode M.2.1 pc = .ok (.ifCond .gt off, 3)) (ht : (pc : Int) + off = (tgt : Int)) (hn : pc + 3 = n) (kt : 0 < x → Wp B d M tgt ls st h Q) (kf : ¬ 0 < x → Wp B d M n ls st h Q) : Wp B d M pc ls (.int x :: st) h Q := by
  subst hn
  by_cases hc : 0 < x
  · exact Wp.go (fun D p l e R s m args below meth c H locs a cells slots Qf hG hR hS hL kk => lv_if_gt hG.1 hG.2.1 hd ht (fun _ => kk a hL) (fun z => absurd hc z)) (kt hc)
  · exact Wp.go (fun D p l e R s m args below meth c H locs a cells slots Qf hG hR hS hL kk => lv_if_gt hG.1 hG.2.1 hd ht (fun z => absurd z hc) (fun _ => kk a hL)) (kf hc)
theorem Wp.icmp_le {x y : Int32} {off : Int} {tgt : Nat} (hd : decode M.2.1 pc = .ok (.if_icmp .le off, 3)) (ht : (pc : Int) + off = (tgt : Int)) (hn : pc + 3 = n) (kt : x ≤ y → Wp B d M tgt ls st h Q) (kf : ¬ x ≤ y → Wp B d M n ls st h Q) : Wp B d M pc ls (.int y :: .int x :: st) h Q := by
  subst hn
  by_cases hc : x ≤ y
  · exact Wp.go (fun D p l e R s m args below meth c H locs a cells slots Qf hG hR hS hL kk => lv_icmp_le hG.1 hG.2.1 hd ht (fun _ => kk a hL) (fun z => absurd hc z)) (kt hc)
  · exact Wp.go (fun D p l e R s m args below meth c H locs a cells slots Qf hG hR hS hL kk => lv_icmp_le hG.1 hG.2.1 hd ht (fun z => absurd z hc) (fun _ => kk a hL)) (kf hc)
theorem Wp.if_le {x : Int32} {off : Int} {tgt : Nat} (hd : decode M.2.1 pc = .ok (.ifCond .le off, 3)) (ht : (pc : Int) + off = (tgt : Int)) (hn : pc + 3 = n) (kt : x ≤ 0 → Wp B d M tgt ls st h Q) (kf : ¬ x ≤ 0 → Wp B d M n ls st h Q) : Wp B d M pc ls (.int x :: st) h Q := by
  subst hn
  by_cases hc : x ≤ 0
  · exact Wp.go (fun D p l e R s m args below meth c H locs a cells slots Qf hG hR hS hL kk => lv_if_le hG.1 hG.2.1 hd ht (fun _ => kk a hL) (fun z => absurd hc z)) (kt hc)
  · exact Wp.go (fun D p l e R s m args below meth c H locs a cells slots Qf hG hR hS hL kk => lv_if_le hG.1 hG.2.1 hd ht (fun z => absurd z hc) (fun _ => kk a hL)) (kf hc)
theorem Wp.lcmp_eq {x y : Int64} {off : Int} {tgt pc1 : Nat} (hd0 : decode M.2.1 pc = .ok (.lcmp, 1)) (h1 : pc + 1 = pc1) (hd : decode M.2.1 pc1 = .ok (.ifCond .eq off, 3)) (ht : (pc1 : Int) + off = (tgt : Int)) (hn : pc1 + 3 = n) (kt : x = y → Wp B d M tgt ls st h Q) (kf : ¬ x = y → Wp B d M n ls st h Q) : Wp B d M pc ls (.long y :: .long x :: st) h Q :=
  Wp.lcmp hd0 h1 (Wp.if_eq hd ht hn (fun z => kt (ev_lc_eq.mp z)) (fun z => kf (fun q => z (ev_lc_eq.mpr q))))
theorem Wp.lcmp_ne {x y : Int64} {off : Int} {tgt pc1 : Nat} (hd0 : decode M.2.1 pc = .ok (.lcmp, 1)) (h1 : pc + 1 = pc1) (hd : decode M.2.1 pc1 = .ok (.ifCond .ne off, 3)) (ht : (pc1 : Int) + off = (tgt : Int)) (hn : pc1 + 3 = n) (kt : ¬ x = y → Wp B d M tgt ls st h Q) (kf : x = y → Wp B d M n ls st h Q) : Wp B d M pc ls (.long y :: .long x :: st) h Q :=
  Wp.lcmp hd0 h1 (Wp.if_ne hd ht hn (fun z => kt (ev_lc_ne.mp z)) (fun z => kf (ev_lc_eq.mp z)))
theorem Wp.lcmp_lt {x y : Int64} {off : Int} {tgt pc1 : Nat} (hd0 : decode M.2.1 pc = .ok (.lcmp, 1)) (h1 : pc + 1 = pc1) (hd : decode M.2.1 pc1 = .ok (.ifCond .lt off, 3)) (ht : (pc1 : Int) + off = (tgt : Int)) (hn : pc1 + 3 = n) (kt : x < y → Wp B d M tgt ls st h Q) (kf : ¬ x < y → Wp B d M n ls st h Q) : Wp B d M pc ls (.long y :: .long x :: st) h Q :=
  Wp.lcmp hd0 h1 (Wp.if_lt hd ht hn (fun z => kt (ev_lc_lt.mp z)) (fun z => kf (fun q => z (ev_lc_lt.mpr q))))
theorem Wp.lcmp_ge {x y : Int64} {off : Int} {tgt pc1 : Nat} (hd0 : decode M.2.1 pc = .ok (.lcmp, 1)) (h1 : pc + 1 = pc1) (hd : decode M.2.1 pc1 = .ok (.ifCond .ge off, 3)) (ht : (pc1 : Int) + off = (tgt : Int)) (hn : pc1 + 3 = n) (kt : y ≤ x → Wp B d M tgt ls st h Q) (kf : ¬ y ≤ x → Wp B d M n ls st h Q) : Wp B d M pc ls (.long y :: .long x :: st) h Q :=
  Wp.lcmp hd0 h1 (Wp.if_ge hd ht hn (fun z => kt (ev_lc_ge.mp z)) (fun z => kf (fun q => z (ev_lc_ge.mpr q))))
theorem Wp.lcmp_gt {x y : Int64} {off : Int} {tgt pc1 : Nat} (hd0 : decode M.2.1 pc = .ok (.lcmp, 1)) (h1 : pc + 1 = pc1) (hd : decode M.2.1 pc1 = .ok (.ifCond .gt off, 3)) (ht : (pc1 : Int) + off = (tgt : Int)) (hn : pc1 + 3 = n) (kt : y < x → Wp B d M tgt ls st h Q) (kf : ¬ y < x → Wp B d M n ls st h Q) : Wp B d M pc ls (.long y :: .long x :: st) h Q :=
  Wp.lcmp hd0 h1 (Wp.if_gt hd ht hn (fun z => kt (ev_lc_gt.mp z)) (fun z => kf (fun q => z (ev_lc_gt.mpr q))))
theorem Wp.lcmp_le {x y : Int64} {off : Int} {tgt pc1 : Nat} (hd0 : decode M.2.1 pc = .ok (.lcmp, 1)) (h1 : pc + 1 = pc1) (hd : decode M.2.1 pc1 = .ok (.ifCond .le off, 3)) (ht : (pc1 : Int) + off = (tgt : Int)) (hn : pc1 + 3 = n) (kt : x ≤ y → Wp B d M tgt ls st h Q) (kf : ¬ x ≤ y → Wp B d M n ls st h Q) : Wp B d M pc ls (.long y :: .long x :: st) h Q :=
  Wp.lcmp hd0 h1 (Wp.if_le hd ht hn (fun z => kt (ev_lc_le.mp z)) (fun z => kf (fun q => z (ev_lc_le.mpr q))))
theorem Wp.tswIn {dflt lo hi : Int} {offs : Array Int} {len : Nat} {x : Int32} {off : Int} (hd : decode M.2.1 pc = .ok (.tableswitch dflt lo hi offs, len)) (h1 : ¬ x.toInt < lo) (h2 : ¬ hi < x.toInt) (ho : offs[(x.toInt - lo).toNat]? = some off) (ht : (pc : Int) + off = (n : Int)) (k : Wp B d M n ls st h Q) : Wp B d M pc ls (.int x :: st) h Q :=
  Wp.go (fun D p l e R s m args below meth c H locs a cells slots Qf hG hR hS hL kk => lv_tableIn hG.1 hG.2.1 hd h1 h2 ho ht (kk a hL)) k
theorem Wp.tswOut {dflt lo hi : Int} {offs : Array Int} {len : Nat} {x : Int32} (hd : decode M.2.1 pc = .ok (.tableswitch dflt lo hi offs, len)) (h1 : x.toInt < lo ∨ hi < x.toInt) (ht : (pc : Int) + dflt = (n : Int)) (k : Wp B d M n ls st h Q) : Wp B d M pc ls (.int x :: st) h Q :=
  Wp.go (fun D p l e R s m args below meth c H locs a cells slots Qf hG hR hS hL kk => lv_tableOut hG.1 hG.2.1 hd h1 ht (kk a hL)) k
theorem Wp.lsw {dflt : Int} {ps : Array (Int × Int)} {len : Nat} {x : Int32} {off : Int} (hd : decode M.2.1 pc = .ok (.lookupswitch dflt ps, len)) (hp : (ps.toList.zip (ps.toList.drop 1)).all (fun (a, next) => a.1 < next.1) = true) (ho : Op.lookupswitch.offset ps.toList dflt x.toInt = off) (ht : (pc : Int) + off = (n : Int)) (k : Wp B d M n ls st h Q) : Wp B d M pc ls (.int x :: st) h Q :=
  Wp.go (fun D p l e R s m args below meth c H locs a cells slots Qf hG hR hS hL kk => lv_lookup hG.1 hG.2.1 hd hp ho ht (kk a hL)) k
theorem Wp.ifnull {x : Nat} {off : Int} (hd : decode M.2.1 pc = .ok (.ifnull off, 3)) (hn : pc + 3 = n) (k : Wp B d M n ls st h Q) : Wp B d M pc ls (.ref x :: st) h Q := by
  subst hn
  exact Wp.go (fun D p l e R s m args below meth c H locs a cells slots Qf hG hR hS hL kk => lv_ifnull hG.1 hG.2.1 hd (kk a hL)) k
theorem Wp.ifnullN {off : Int} (hd : decode M.2.1 pc = .ok (.ifnull off, 3)) (ht : (pc : Int) + off = (n : Int)) (k : Wp B d M n ls st h Q) : Wp B d M pc ls (.null :: st) h Q :=
  Wp.go (fun D p l e R s m args below meth c H locs a cells slots Qf hG hR hS hL kk => lv_ifnullN hG.1 hG.2.1 hd ht (kk a hL)) k
theorem Wp.ifnonnull {x : Nat} {off : Int} (hd : decode M.2.1 pc = .ok (.ifnonnull off, 3)) (ht : (pc : Int) + off = (n : Int)) (k : Wp B d M n ls st h Q) : Wp B d M pc ls (.ref x :: st) h Q :=
  Wp.go (fun D p l e R s m args below meth c H locs a cells slots Qf hG hR hS hL kk => lv_ifnonnull hG.1 hG.2.1 hd ht (kk a hL)) k
theorem Wp.ifnonnullN {off : Int} (hd : decode M.2.1 pc = .ok (.ifnonnull off, 3)) (hn : pc + 3 = n) (k : Wp B d M n ls st h Q) : Wp B d M pc ls (.null :: st) h Q := by
  subst hn
  exact Wp.go (fun D p l e R s m args below meth c H locs a cells slots Qf hG hR hS hL kk => lv_ifnonnullN hG.1 hG.2.1 hd (kk a hL)) k
theorem Wp.ldc {i : Nat} {v : Int32} (hc : Cond.constant M.1.cls i v ∈ lw_tbl) (hd : decode M.2.1 pc = .ok (.ldc i, 2)) (hn : pc + 2 = n) (k : Wp B d M n ls (.int v :: st) h Q) : Wp B d M pc ls st h Q := by
  subst hn
  exact Wp.go (fun D p l e R s m args below meth c H locs a cells slots Qf hG hR hS hL kk => lv_ldc hG.1 hG.2.1 hG.2.2.2.2.2.1 (hG.2.2.2.2.2.2.2.1 _ (ev_mem hc rfl)) hd (kk a hL)) k
theorem Wp.ldc_w {i : Nat} {v : Int32} (hc : Cond.constant M.1.cls i v ∈ lw_tbl) (hd : decode M.2.1 pc = .ok (.ldc_w i, 3)) (hn : pc + 3 = n) (k : Wp B d M n ls (.int v :: st) h Q) : Wp B d M pc ls st h Q := by
  subst hn
  exact Wp.go (fun D p l e R s m args below meth c H locs a cells slots Qf hG hR hS hL kk => lv_ldcw hG.1 hG.2.1 hG.2.2.2.2.2.1 (hG.2.2.2.2.2.2.2.1 _ (ev_mem hc rfl)) hd (kk a hL)) k
theorem Wp.ldc2 {i : Nat} {v : Int64} (hc : Cond.constantLong M.1.cls i v ∈ lw_tbl) (hd : decode M.2.1 pc = .ok (.ldc2_w i, 3)) (hn : pc + 3 = n) (k : Wp B d M n ls (.long v :: st) h Q) : Wp B d M pc ls st h Q := by
  subst hn
  exact Wp.go (fun D p l e R s m args below meth c H locs a cells slots Qf hG hR hS hL kk => lv_ldc2 hG.1 hG.2.1 hG.2.2.2.2.2.1 (hG.2.2.2.2.2.2.2.1 _ (ev_mem hc rfl)) hd (kk a hL)) k
end EVI
