section ZROWS
variable {E : zE} {sh : zSh} {C : zC} {cc : ByteArray} {own : String} {nL f : Nat} {ret : Option FieldType} {ro : Int32 × zS} {t : zS} {pc : Nat} {lv : List (Nat × Value)} {rest : List Value}
theorem z_iconst {n : Int} {v : Int32} (hd : decode cc pc = .ok (.iconst n, 1)) (hv : Int32.ofInt n = v) (k : zJ E sh C cc own nL f ret ro t (pc + 1) lv (.int v :: rest)) : zJ E sh C cc own nL f ret ro t pc lv rest := by
  obtain ⟨p, e, s, m, args, below, meth, c, R⟩ := C
  exact fun ok H locs ls hP hS hl => lv_iconst ok.1 ok.2.1 hd hv (k ok H locs ls hP hS hl)
theorem z_bipush {n : Int} {v : Int32} (hd : decode cc pc = .ok (.bipush n, 2)) (hv : (Int8.ofInt n).toInt32 = v) (k : zJ E sh C cc own nL f ret ro t (pc + 2) lv (.int v :: rest)) : zJ E sh C cc own nL f ret ro t pc lv rest := by
  obtain ⟨p, e, s, m, args, below, meth, c, R⟩ := C
  exact fun ok H locs ls hP hS hl => lv_bipush ok.1 ok.2.1 hd hv (k ok H locs ls hP hS hl)
theorem z_sipush {n : Int} {v : Int32} (hd : decode cc pc = .ok (.sipush n, 3)) (hv : (Int16.ofInt n).toInt32 = v) (k : zJ E sh C cc own nL f ret ro t (pc + 3) lv (.int v :: rest)) : zJ E sh C cc own nL f ret ro t pc lv rest := by
  obtain ⟨p, e, s, m, args, below, meth, c, R⟩ := C
  exact fun ok H locs ls hP hS hl => lv_sipush ok.1 ok.2.1 hd hv (k ok H locs ls hP hS hl)
theorem z_ldc {idx : Nat} {v : Int32} (hw : Cond.constant own idx v ∈ zGT) (hd : decode cc pc = .ok (.ldc idx, 2)) (k : zJ E sh C cc own nL f ret ro t (pc + 2) lv (.int v :: rest)) : zJ E sh C cc own nL f ret ro t pc lv rest := by
  obtain ⟨p, e, s, m, args, below, meth, c, R⟩ := C
  exact fun ok H locs ls hP hS hl => lv_ldc ok.1 ok.2.1 ok.2.2.2.1 (ok.2.2.2.2.1 _ hw) hd (k ok H locs ls hP hS hl)
theorem z_ldc2 {idx : Nat} {v : Int64} (hw : Cond.constantLong own idx v ∈ zGT) (hd : decode cc pc = .ok (.ldc2_w idx, 3)) (k : zJ E sh C cc own nL f ret ro t (pc + 3) lv (.long v :: rest)) : zJ E sh C cc own nL f ret ro t pc lv rest := by
  obtain ⟨p, e, s, m, args, below, meth, c, R⟩ := C
  exact fun ok H locs ls hP hS hl => lv_ldc2 ok.1 ok.2.1 ok.2.2.2.1 (ok.2.2.2.2.1 _ hw) hd (k ok H locs ls hP hS hl)
theorem z_lconst {n : Fin 2} {v : Int64} (hd : decode cc pc = .ok (.lconst n, 1)) (hv : Int64.ofNat (n : Nat) = v) (k : zJ E sh C cc own nL f ret ro t (pc + 1) lv (.long v :: rest)) : zJ E sh C cc own nL f ret ro t pc lv rest := by
  obtain ⟨p, e, s, m, args, below, meth, c, R⟩ := C
  exact fun ok H locs ls hP hS hl => lv_lconst ok.1 ok.2.1 hd hv (k ok H locs ls hP hS hl)
theorem z_iload_n {k : Fin 4} {i : Nat} {x : Int32} (q : Nat) (hd : decode cc pc = .ok (.iload_n k, 1)) (hi : (k : Nat) = i) (hq : lv[q]? = some (i, .int x)) (kk : zJ E sh C cc own nL f ret ro t (pc + 1) lv (.int x :: rest)) : zJ E sh C cc own nL f ret ro t pc lv rest := by
  obtain ⟨p, e, s, m, args, below, meth, c, R⟩ := C
  exact fun ok H locs ls hP hS hl => lv_iload_n ok.1 ok.2.1 hd hi (lv_at hl q hq) (kk ok H locs ls hP hS hl)
theorem z_iload {i : Nat} {x : Int32} (q : Nat) (hd : decode cc pc = .ok (.iload i, 2)) (hq : lv[q]? = some (i, .int x)) (kk : zJ E sh C cc own nL f ret ro t (pc + 2) lv (.int x :: rest)) : zJ E sh C cc own nL f ret ro t pc lv rest := by
  obtain ⟨p, e, s, m, args, below, meth, c, R⟩ := C
  exact fun ok H locs ls hP hS hl => lv_iload ok.1 ok.2.1 hd (lv_at hl q hq) (kk ok H locs ls hP hS hl)
theorem z_lload_n {k : Fin 4} {i : Nat} {x : Int64} (q : Nat) (hd : decode cc pc = .ok (.lload_n k, 1)) (hi : (k : Nat) = i) (hq : lv[q]? = some (i, .long x)) (kk : zJ E sh C cc own nL f ret ro t (pc + 1) lv (.long x :: rest)) : zJ E sh C cc own nL f ret ro t pc lv rest := by
  obtain ⟨p, e, s, m, args, below, meth, c, R⟩ := C
  exact fun ok H locs ls hP hS hl => lv_lload_n ok.1 ok.2.1 hd hi (lv_at hl q hq) (kk ok H locs ls hP hS hl)
theorem z_lload {i : Nat} {x : Int64} (q : Nat) (hd : decode cc pc = .ok (.lload i, 2)) (hq : lv[q]? = some (i, .long x)) (kk : zJ E sh C cc own nL f ret ro t (pc + 2) lv (.long x :: rest)) : zJ E sh C cc own nL f ret ro t pc lv rest := by
  obtain ⟨p, e, s, m, args, below, meth, c, R⟩ := C
  exact fun ok H locs ls hP hS hl => lv_lload ok.1 ok.2.1 hd (lv_at hl q hq) (kk ok H locs ls hP hS hl)
theorem z_aload_n {k : Fin 4} {i : Nat} {x : Nat} (q : Nat) (hd : decode cc pc = .ok (.aload_n k, 1)) (hi : (k : Nat) = i) (hq : lv[q]? = some (i, .ref x)) (kk : zJ E sh C cc own nL f ret ro t (pc + 1) lv (.ref x :: rest)) : zJ E sh C cc own nL f ret ro t pc lv rest := by
  obtain ⟨p, e, s, m, args, below, meth, c, R⟩ := C
  exact fun ok H locs ls hP hS hl => lv_aload_n ok.1 ok.2.1 hd hi (lv_at hl q hq) (kk ok H locs ls hP hS hl)
theorem z_aload {i : Nat} {x : Nat} (q : Nat) (hd : decode cc pc = .ok (.aload i, 2)) (hq : lv[q]? = some (i, .ref x)) (kk : zJ E sh C cc own nL f ret ro t (pc + 2) lv (.ref x :: rest)) : zJ E sh C cc own nL f ret ro t pc lv rest := by
  obtain ⟨p, e, s, m, args, below, meth, c, R⟩ := C
  exact fun ok H locs ls hP hS hl => lv_aload ok.1 ok.2.1 hd (lv_at hl q hq) (kk ok H locs ls hP hS hl)
theorem z_istore_n {k : Fin 4} {i : Nat} {x : Int32} {lv' : List (Nat × Value)} (hd : decode cc pc = .ok (.istore_n k, 1)) (hi : (k : Nat) = i) (hn : i < nL) (hl' : (i, Value.int x) :: lv.filter (fun q => !(q.1 == i) && !(q.1 + 1 == i && q.2.category == 2)) = lv') (kk : zJ E sh C cc own nL f ret ro t (pc + 1) lv' rest) : zJ E sh C cc own nL f ret ro t pc lv (.int x :: rest) := by
  obtain ⟨p, e, s, m, args, below, meth, c, R⟩ := C
  exact fun ok H locs ls hP hS hl => lv_istore_n ok.1 ok.2.1 hd hi hl hn hl' (fun ls h => kk ok H locs ls hP hS h)
theorem z_istore {i : Nat} {x : Int32} {lv' : List (Nat × Value)} (hd : decode cc pc = .ok (.istore i, 2)) (hn : i < nL) (hl' : (i, Value.int x) :: lv.filter (fun q => !(q.1 == i) && !(q.1 + 1 == i && q.2.category == 2)) = lv') (kk : zJ E sh C cc own nL f ret ro t (pc + 2) lv' rest) : zJ E sh C cc own nL f ret ro t pc lv (.int x :: rest) := by
  obtain ⟨p, e, s, m, args, below, meth, c, R⟩ := C
  exact fun ok H locs ls hP hS hl => lv_istore ok.1 ok.2.1 hd hl hn hl' (fun ls h => kk ok H locs ls hP hS h)
theorem z_iinc {i k : Nat} {n : Int} {x v : Int32} {lv' : List (Nat × Value)} (hd : decode cc pc = .ok (.iinc i n, 3)) (hk : lv[k]? = some (i, .int x)) (hv : x + Int32.ofInt n = v) (hn : i < nL) (hl' : (i, Value.int v) :: lv.filter (fun q => !(q.1 == i) && !(q.1 + 1 == i && q.2.category == 2)) = lv') (kk : zJ E sh C cc own nL f ret ro t (pc + 3) lv' rest) : zJ E sh C cc own nL f ret ro t pc lv rest := by
  obtain ⟨p, e, s, m, args, below, meth, c, R⟩ := C
  exact fun ok H locs ls hP hS hl => lv_iinc ok.1 ok.2.1 hd hl hk hv hn hl' (fun ls h => kk ok H locs ls hP hS h)
theorem z_sub {lv' : List (Nat × Value)} (ks : List Nat) (h : lv_pick lv ks = lv') {st : List Value} (kk : zJ E sh C cc own nL f ret ro t pc lv' st) : zJ E sh C cc own nL f ret ro t pc lv st := by
  obtain ⟨p, e, s, m, args, below, meth, c, R⟩ := C
  exact fun ok H locs ls hP hS hl => kk ok H locs ls hP hS (lv_sub hl ks h)
theorem z_topi {x : Int32} (k : ∀ y : Int32, y = x → zJ E sh C cc own nL f ret ro t pc lv (.int y :: rest)) : zJ E sh C cc own nL f ret ro t pc lv (.int x :: rest) := k x rfl
theorem z_iadd {x y : Int32} (hd : decode cc pc = .ok (.iadd, 1)) (k : zJ E sh C cc own nL f ret ro t (pc + 1) lv (.int (x + y) :: rest)) : zJ E sh C cc own nL f ret ro t pc lv (.int y :: .int x :: rest) := by
  obtain ⟨p, e, s, m, args, below, meth, c, R⟩ := C
  exact fun ok H locs ls hP hS hl => lv_iadd ok.1 ok.2.1 hd (k ok H locs ls hP hS hl)
theorem z_isub {x y : Int32} (hd : decode cc pc = .ok (.isub, 1)) (k : zJ E sh C cc own nL f ret ro t (pc + 1) lv (.int (x - y) :: rest)) : zJ E sh C cc own nL f ret ro t pc lv (.int y :: .int x :: rest) := by
  obtain ⟨p, e, s, m, args, below, meth, c, R⟩ := C
  exact fun ok H locs ls hP hS hl => lv_isub ok.1 ok.2.1 hd (k ok H locs ls hP hS hl)
theorem z_imul {x y : Int32} (hd : decode cc pc = .ok (.imul, 1)) (k : zJ E sh C cc own nL f ret ro t (pc + 1) lv (.int (x * y) :: rest)) : zJ E sh C cc own nL f ret ro t pc lv (.int y :: .int x :: rest) := by
  obtain ⟨p, e, s, m, args, below, meth, c, R⟩ := C
  exact fun ok H locs ls hP hS hl => lv_imul ok.1 ok.2.1 hd (k ok H locs ls hP hS hl)
theorem z_idiv {x y : Int32} (hd : decode cc pc = .ok (.idiv, 1)) (hne : ¬ y = 0) (k : zJ E sh C cc own nL f ret ro t (pc + 1) lv (.int (x / y) :: rest)) : zJ E sh C cc own nL f ret ro t pc lv (.int y :: .int x :: rest) := by
  obtain ⟨p, e, s, m, args, below, meth, c, R⟩ := C
  exact fun ok H locs ls hP hS hl => lv_idiv ok.1 ok.2.1 hd hne (k ok H locs ls hP hS hl)
theorem z_irem {x y : Int32} (hd : decode cc pc = .ok (.irem, 1)) (hne : ¬ y = 0) (k : zJ E sh C cc own nL f ret ro t (pc + 1) lv (.int (x - x / y * y) :: rest)) : zJ E sh C cc own nL f ret ro t pc lv (.int y :: .int x :: rest) := by
  obtain ⟨p, e, s, m, args, below, meth, c, R⟩ := C
  exact fun ok H locs ls hP hS hl => lv_irem ok.1 ok.2.1 hd hne (k ok H locs ls hP hS hl)
theorem z_iand {x y : Int32} (hd : decode cc pc = .ok (.iand, 1)) (k : zJ E sh C cc own nL f ret ro t (pc + 1) lv (.int (x &&& y) :: rest)) : zJ E sh C cc own nL f ret ro t pc lv (.int y :: .int x :: rest) := by
  obtain ⟨p, e, s, m, args, below, meth, c, R⟩ := C
  exact fun ok H locs ls hP hS hl => lv_iand ok.1 ok.2.1 hd (k ok H locs ls hP hS hl)
theorem z_ixor {x y : Int32} (hd : decode cc pc = .ok (.ixor, 1)) (k : zJ E sh C cc own nL f ret ro t (pc + 1) lv (.int (x ^^^ y) :: rest)) : zJ E sh C cc own nL f ret ro t pc lv (.int y :: .int x :: rest) := by
  obtain ⟨p, e, s, m, args, below, meth, c, R⟩ := C
  exact fun ok H locs ls hP hS hl => lv_ixor ok.1 ok.2.1 hd (k ok H locs ls hP hS hl)
theorem z_ineg {x : Int32} (hd : decode cc pc = .ok (.ineg, 1)) (k : zJ E sh C cc own nL f ret ro t (pc + 1) lv (.int (-x) :: rest)) : zJ E sh C cc own nL f ret ro t pc lv (.int x :: rest) := by
  obtain ⟨p, e, s, m, args, below, meth, c, R⟩ := C
  exact fun ok H locs ls hP hS hl => lv_ineg ok.1 ok.2.1 hd (k ok H locs ls hP hS hl)
theorem z_ishr {x y : Int32} (hd : decode cc pc = .ok (.ishr, 1)) (k : zJ E sh C cc own nL f ret ro t (pc + 1) lv (.int (x >>> (y &&& 31)) :: rest)) : zJ E sh C cc own nL f ret ro t pc lv (.int y :: .int x :: rest) := by
  obtain ⟨p, e, s, m, args, below, meth, c, R⟩ := C
  exact fun ok H locs ls hP hS hl => lv_ishr ok.1 ok.2.1 hd (k ok H locs ls hP hS hl)
theorem z_iushr {x y v : Int32} (hd : decode cc pc = .ok (.iushr, 1)) (hv : (x.toUInt32 >>> (y.toUInt32 &&& Int32.toUInt32 31)).toInt32 = v) (k : zJ E sh C cc own nL f ret ro t (pc + 1) lv (.int v :: rest)) : zJ E sh C cc own nL f ret ro t pc lv (.int y :: .int x :: rest) := by
  obtain ⟨p, e, s, m, args, below, meth, c, R⟩ := C
  exact fun ok H locs ls hP hS hl => lv_iushr ok.1 ok.2.1 hd hv (k ok H locs ls hP hS hl)
theorem z_i2l {x : Int32} (hd : decode cc pc = .ok (.i2l, 1)) (k : zJ E sh C cc own nL f ret ro t (pc + 1) lv (.long x.toInt64 :: rest)) : zJ E sh C cc own nL f ret ro t pc lv (.int x :: rest) := by
  obtain ⟨p, e, s, m, args, below, meth, c, R⟩ := C
  exact fun ok H locs ls hP hS hl => lv_i2l ok.1 ok.2.1 hd rfl (k ok H locs ls hP hS hl)
theorem z_i2c {x v : Int32} (hd : decode cc pc = .ok (.i2c, 1)) (hv : (x.toUInt32 % 65536).toInt32 = v) (k : zJ E sh C cc own nL f ret ro t (pc + 1) lv (.int v :: rest)) : zJ E sh C cc own nL f ret ro t pc lv (.int x :: rest) := by
  obtain ⟨p, e, s, m, args, below, meth, c, R⟩ := C
  exact fun ok H locs ls hP hS hl => lv_i2c ok.1 ok.2.1 hd hv (k ok H locs ls hP hS hl)
theorem z_lcmp {x y : Int64} (hd : decode cc pc = .ok (.lcmp, 1)) (k : zJ E sh C cc own nL f ret ro t (pc + 1) lv (.int (lg_cmp x y) :: rest)) : zJ E sh C cc own nL f ret ro t pc lv (.long y :: .long x :: rest) := by
  obtain ⟨p, e, s, m, args, below, meth, c, R⟩ := C
  exact fun ok H locs ls hP hS hl => W.lcmp ok.1 ok.2.1 hd (k ok H locs ls hP hS hl)
theorem z_pop {v : Value} (hd : decode cc pc = .ok (.pop, 1)) (hv : v.category = 1) (k : zJ E sh C cc own nL f ret ro t (pc + 1) lv rest) : zJ E sh C cc own nL f ret ro t pc lv (v :: rest) := by
  obtain ⟨p, e, s, m, args, below, meth, c, R⟩ := C
  exact fun ok H locs ls hP hS hl => lv_pop ok.1 ok.2.1 hd hv (k ok H locs ls hP hS hl)
theorem z_dup {v : Value} (hd : decode cc pc = .ok (.dup, 1)) (hv : v.category = 1) (k : zJ E sh C cc own nL f ret ro t (pc + 1) lv (v :: v :: rest)) : zJ E sh C cc own nL f ret ro t pc lv (v :: rest) := by
  obtain ⟨p, e, s, m, args, below, meth, c, R⟩ := C
  exact fun ok H locs ls hP hS hl => lv_dup ok.1 ok.2.1 hd hv (k ok H locs ls hP hS hl)
theorem z_dup_x1 {va vb : Value} (hd : decode cc pc = .ok (.dup_x1, 1)) (hva : va.category = 1) (hvb : vb.category = 1) (k : zJ E sh C cc own nL f ret ro t (pc + 1) lv (va :: vb :: va :: rest)) : zJ E sh C cc own nL f ret ro t pc lv (va :: vb :: rest) := by
  obtain ⟨p, e, s, m, args, below, meth, c, R⟩ := C
  exact fun ok H locs ls hP hS hl => lv_dup_x1 ok.1 ok.2.1 hd hva hvb (k ok H locs ls hP hS hl)
theorem z_dup2 {va vb : Value} (hd : decode cc pc = .ok (.dup2, 1)) (hva : va.category = 1) (hvb : vb.category = 1) (k : zJ E sh C cc own nL f ret ro t (pc + 1) lv (va :: vb :: va :: vb :: rest)) : zJ E sh C cc own nL f ret ro t pc lv (va :: vb :: rest) := by
  obtain ⟨p, e, s, m, args, below, meth, c, R⟩ := C
  exact fun ok H locs ls hP hS hl => lv_dup2_11 ok.1 ok.2.1 hd hva hvb (k ok H locs ls hP hS hl)
theorem z_goto {off : Int} {tgt : Nat} {st : List Value} (hd : decode cc pc = .ok (.goto off, 3)) (ht : (pc : Int) + off = (tgt : Int)) (k : zJ E sh C cc own nL f ret ro t tgt lv st) : zJ E sh C cc own nL f ret ro t pc lv st := by
  obtain ⟨p, e, s, m, args, below, meth, c, R⟩ := C
  exact fun ok H locs ls hP hS hl => lv_goto ok.1 ok.2.1 hd ht (k ok H locs ls hP hS hl)
theorem z_if_eq {x : Int32} {off : Int} {tgt : Nat} (hd : decode cc pc = .ok (.ifCond .eq off, 3)) (ht : (pc : Int) + off = (tgt : Int)) (kt : x = 0 → zJ E sh C cc own nL f ret ro t tgt lv rest) (kf : ¬ x = 0 → zJ E sh C cc own nL f ret ro t (pc + 3) lv rest) : zJ E sh C cc own nL f ret ro t pc lv (.int x :: rest) := by
  obtain ⟨p, e, s, m, args, below, meth, c, R⟩ := C
  exact fun ok H locs ls hP hS hl => lv_if_eq ok.1 ok.2.1 hd ht (fun h => kt h ok H locs ls hP hS hl) (fun h => kf h ok H locs ls hP hS hl)
theorem z_if_ne {x : Int32} {off : Int} {tgt : Nat} (hd : decode cc pc = .ok (.ifCond .ne off, 3)) (ht : (pc : Int) + off = (tgt : Int)) (kt : ¬ x = 0 → zJ E sh C cc own nL f ret ro t tgt lv rest) (kf : x = 0 → zJ E sh C cc own nL f ret ro t (pc + 3) lv rest) : zJ E sh C cc own nL f ret ro t pc lv (.int x :: rest) := by
  obtain ⟨p, e, s, m, args, below, meth, c, R⟩ := C
  exact fun ok H locs ls hP hS hl => lv_if_ne ok.1 ok.2.1 hd ht (fun h => kt h ok H locs ls hP hS hl) (fun h => kf h ok H locs ls hP hS hl)
theorem z_if_lt {x : Int32} {off : Int} {tgt : Nat} (hd : decode cc pc = .ok (.ifCond .lt off, 3)) (ht : (pc : Int) + off = (tgt : Int)) (kt : x < 0 → zJ E sh C cc own nL f ret ro t tgt lv rest) (kf : ¬ x < 0 → zJ E sh C cc own nL f ret ro t (pc + 3) lv rest) : zJ E sh C cc own nL f ret ro t pc lv (.int x :: rest) := by
  obtain ⟨p, e, s, m, args, below, meth, c, R⟩ := C
  exact fun ok H locs ls hP hS hl => lv_if_lt ok.1 ok.2.1 hd ht (fun h => kt h ok H locs ls hP hS hl) (fun h => kf h ok H locs ls hP hS hl)
theorem z_if_ge {x : Int32} {off : Int} {tgt : Nat} (hd : decode cc pc = .ok (.ifCond .ge off, 3)) (ht : (pc : Int) + off = (tgt : Int)) (kt : 0 ≤ x → zJ E sh C cc own nL f ret ro t tgt lv rest) (kf : ¬ 0 ≤ x → zJ E sh C cc own nL f ret ro t (pc + 3) lv rest) : zJ E sh C cc own nL f ret ro t pc lv (.int x :: rest) := by
  obtain ⟨p, e, s, m, args, below, meth, c, R⟩ := C
  exact fun ok H locs ls hP hS hl => lv_if_ge ok.1 ok.2.1 hd ht (fun h => kt h ok H locs ls hP hS hl) (fun h => kf h ok H locs ls hP hS hl)
theorem z_if_gt {x : Int32} {off : Int} {tgt : Nat} (hd : decode cc pc = .ok (.ifCond .gt off, 3)) (ht : (pc : Int) + off = (tgt : Int)) (kt : 0 < x → zJ E sh C cc own nL f ret ro t tgt lv rest) (kf : ¬ 0 < x → zJ E sh C cc own nL f ret ro t (pc + 3) lv rest) : zJ E sh C cc own nL f ret ro t pc lv (.int x :: rest) := by
  obtain ⟨p, e, s, m, args, below, meth, c, R⟩ := C
  exact fun ok H locs ls hP hS hl => lv_if_gt ok.1 ok.2.1 hd ht (fun h => kt h ok H locs ls hP hS hl) (fun h => kf h ok H locs ls hP hS hl)
theorem z_if_le {x : Int32} {off : Int} {tgt : Nat} (hd : decode cc pc = .ok (.ifCond .le off, 3)) (ht : (pc : Int) + off = (tgt : Int)) (kt : x ≤ 0 → zJ E sh C cc own nL f ret ro t tgt lv rest) (kf : ¬ x ≤ 0 → zJ E sh C cc own nL f ret ro t (pc + 3) lv rest) : zJ E sh C cc own nL f ret ro t pc lv (.int x :: rest) := by
  obtain ⟨p, e, s, m, args, below, meth, c, R⟩ := C
  exact fun ok H locs ls hP hS hl => lv_if_le ok.1 ok.2.1 hd ht (fun h => kt h ok H locs ls hP hS hl) (fun h => kf h ok H locs ls hP hS hl)
theorem z_icmp_eq {x y : Int32} {off : Int} {tgt : Nat} (hd : decode cc pc = .ok (.if_icmp .eq off, 3)) (ht : (pc : Int) + off = (tgt : Int)) (kt : x = y → zJ E sh C cc own nL f ret ro t tgt lv rest) (kf : ¬ x = y → zJ E sh C cc own nL f ret ro t (pc + 3) lv rest) : zJ E sh C cc own nL f ret ro t pc lv (.int y :: .int x :: rest) := by
  obtain ⟨p, e, s, m, args, below, meth, c, R⟩ := C
  exact fun ok H locs ls hP hS hl => lv_icmp_eq ok.1 ok.2.1 hd ht (fun h => kt h ok H locs ls hP hS hl) (fun h => kf h ok H locs ls hP hS hl)
theorem z_icmp_ne {x y : Int32} {off : Int} {tgt : Nat} (hd : decode cc pc = .ok (.if_icmp .ne off, 3)) (ht : (pc : Int) + off = (tgt : Int)) (kt : ¬ x = y → zJ E sh C cc own nL f ret ro t tgt lv rest) (kf : x = y → zJ E sh C cc own nL f ret ro t (pc + 3) lv rest) : zJ E sh C cc own nL f ret ro t pc lv (.int y :: .int x :: rest) := by
  obtain ⟨p, e, s, m, args, below, meth, c, R⟩ := C
  exact fun ok H locs ls hP hS hl => lv_icmp_ne ok.1 ok.2.1 hd ht (fun h => kt h ok H locs ls hP hS hl) (fun h => kf h ok H locs ls hP hS hl)
theorem z_icmp_lt {x y : Int32} {off : Int} {tgt : Nat} (hd : decode cc pc = .ok (.if_icmp .lt off, 3)) (ht : (pc : Int) + off = (tgt : Int)) (kt : x < y → zJ E sh C cc own nL f ret ro t tgt lv rest) (kf : ¬ x < y → zJ E sh C cc own nL f ret ro t (pc + 3) lv rest) : zJ E sh C cc own nL f ret ro t pc lv (.int y :: .int x :: rest) := by
  obtain ⟨p, e, s, m, args, below, meth, c, R⟩ := C
  exact fun ok H locs ls hP hS hl => lv_icmp_lt ok.1 ok.2.1 hd ht (fun h => kt h ok H locs ls hP hS hl) (fun h => kf h ok H locs ls hP hS hl)
theorem z_icmp_ge {x y : Int32} {off : Int} {tgt : Nat} (hd : decode cc pc = .ok (.if_icmp .ge off, 3)) (ht : (pc : Int) + off = (tgt : Int)) (kt : y ≤ x → zJ E sh C cc own nL f ret ro t tgt lv rest) (kf : ¬ y ≤ x → zJ E sh C cc own nL f ret ro t (pc + 3) lv rest) : zJ E sh C cc own nL f ret ro t pc lv (.int y :: .int x :: rest) := by
  obtain ⟨p, e, s, m, args, below, meth, c, R⟩ := C
  exact fun ok H locs ls hP hS hl => lv_icmp_ge ok.1 ok.2.1 hd ht (fun h => kt h ok H locs ls hP hS hl) (fun h => kf h ok H locs ls hP hS hl)
theorem z_icmp_gt {x y : Int32} {off : Int} {tgt : Nat} (hd : decode cc pc = .ok (.if_icmp .gt off, 3)) (ht : (pc : Int) + off = (tgt : Int)) (kt : y < x → zJ E sh C cc own nL f ret ro t tgt lv rest) (kf : ¬ y < x → zJ E sh C cc own nL f ret ro t (pc + 3) lv rest) : zJ E sh C cc own nL f ret ro t pc lv (.int y :: .int x :: rest) := by
  obtain ⟨p, e, s, m, args, below, meth, c, R⟩ := C
  exact fun ok H locs ls hP hS hl => lv_icmp_gt ok.1 ok.2.1 hd ht (fun h => kt h ok H locs ls hP hS hl) (fun h => kf h ok H locs ls hP hS hl)
theorem z_icmp_le {x y : Int32} {off : Int} {tgt : Nat} (hd : decode cc pc = .ok (.if_icmp .le off, 3)) (ht : (pc : Int) + off = (tgt : Int)) (kt : x ≤ y → zJ E sh C cc own nL f ret ro t tgt lv rest) (kf : ¬ x ≤ y → zJ E sh C cc own nL f ret ro t (pc + 3) lv rest) : zJ E sh C cc own nL f ret ro t pc lv (.int y :: .int x :: rest) := by
  obtain ⟨p, e, s, m, args, below, meth, c, R⟩ := C
  exact fun ok H locs ls hP hS hl => lv_icmp_le ok.1 ok.2.1 hd ht (fun h => kt h ok H locs ls hP hS hl) (fun h => kf h ok H locs ls hP hS hl)
/-- what a field's use needs: the cell k is an object with an int field j, which the reference idx of own names -/
def zFi (sh : zSh) (own : String) (idx k j : Nat) : Prop := ∃ (ci : Nat) (fs : List (Option Nat)) (q : vw_C), sh[k]? = some (.inr (ci, fs)) ∧ fs[j]? = some none ∧ zcl[ci]? = some q ∧ j < q.2.2 ∧ Cond.fieldLink own idx (q.2.1 j).1 (q.2.1 j).2.1 (q.2.1 j).2.2.1 ∈ zGT ∧ (∀ w ∈ u_ws q.1 q.2.1 q.2.2, w ∈ zGT)
def zFr (sh : zSh) (own : String) (idx k j k' : Nat) : Prop := ∃ (ci : Nat) (fs : List (Option Nat)) (q : vw_C), sh[k]? = some (.inr (ci, fs)) ∧ fs[j]? = some (some k') ∧ zcl[ci]? = some q ∧ j < q.2.2 ∧ Cond.fieldLink own idx (q.2.1 j).1 (q.2.1 j).2.1 (q.2.1 j).2.2.1 ∈ zGT ∧ (∀ w ∈ u_ws q.1 q.2.1 q.2.2, w ∈ zGT)
def zFp (q : vw_C) (j : Nat) (ty0 : Nat → FieldType) (ty : FieldType) : Prop := (∀ k, k < q.2.2 → parseFieldDescriptor (q.2.1 k).2.2.1 = some (ty0 k)) ∧ (∀ a, a < q.2.2 → ∀ b, b < q.2.2 → a ≠ b → (q.2.1 a).2.1 ≠ (q.2.1 b).2.1) ∧ (q.2.1 j).2.2.2 = false ∧ parseFieldDescriptor (q.2.1 j).2.2.1 = some ty
theorem z_geti {idx k j : Nat} (F : zFi sh own idx k j) (hd : decode cc pc = .ok (.getfield idx, 3)) (kk : zJ E sh C cc own nL f ret ro t (pc + 3) lv (.int (t k j) :: rest)) : zJ E sh C cc own nL f ret ro t pc lv (.ref (za E k) :: rest) := by
  obtain ⟨p, e, s, m, args, below, meth, c, R⟩ := C
  obtain ⟨ci, fs, q, h1, h2, h3, h4, h5, h6⟩ := F
  exact fun ok H locs ls hP hS hl => va_get (v := .int (t k j)) ok.1 ok.2.1 ok.2.2.2.2.1 h6 ok.2.2.2.1 ok.2.2.2.2.2.1 hP k (zw_at h1) h3 j h4 (ok.2.2.2.2.1 _ h5) (fun _ h => h) (by rw [List.getElem?_mapIdx, h2]; rfl) hd (kk ok H locs ls hP hS hl)
theorem z_getr {idx k j k' : Nat} (F : zFr sh own idx k j k') (hd : decode cc pc = .ok (.getfield idx, 3)) (kk : zJ E sh C cc own nL f ret ro t (pc + 3) lv (.ref (za E k') :: rest)) : zJ E sh C cc own nL f ret ro t pc lv (.ref (za E k) :: rest) := by
  obtain ⟨p, e, s, m, args, below, meth, c, R⟩ := C
  obtain ⟨ci, fs, q, h1, h2, h3, h4, h5, h6⟩ := F
  exact fun ok H locs ls hP hS hl => va_get (v := .ref (za E k')) ok.1 ok.2.1 ok.2.2.2.2.1 h6 ok.2.2.2.1 ok.2.2.2.2.2.1 hP k (zw_at h1) h3 j h4 (ok.2.2.2.2.1 _ h5) (fun _ h => h) (by rw [List.getElem?_mapIdx, h2]; rfl) hd (kk ok H locs ls hP hS hl)
theorem z_putV {ci : Nat} {fs : List (Option Nat)} {q : vw_C} {idx k j : Nat} {ty0 : Nat → FieldType} {ty : FieldType} {v : Int32} (h1 : sh[k]? = some (.inr (ci, fs))) (h2 : fs[j]? = some none) (h3 : zcl[ci]? = some q) (h4 : j < q.2.2) (h5 : Cond.fieldLink own idx (q.2.1 j).1 (q.2.1 j).2.1 (q.2.1 j).2.2.1 ∈ zGT) (h6 : ∀ w ∈ u_ws q.1 q.2.1 q.2.2, w ∈ zGT) (F : zFp q j ty0 ty) (hn : narrow ty (.int v) = .int v) (hfit : fits ty (.int v) = true) (hd : decode cc pc = .ok (.putfield idx, 3)) (kk : ∀ t2 : zS, t2 = zu t k j v → zJ E sh C cc own nL f ret ro t2 (pc + 3) lv rest) : zJ E sh C cc own nL f ret ro t pc lv (.int v :: .ref (za E k) :: rest) := by
  obtain ⟨p, e, s, m, args, below, meth, c, R⟩ := C
  have hl0 : j < (fs.mapIdx (zval E.2.2.2.1 (t k))).length := by simpa using (List.getElem?_eq_some_iff.mp h2).1
  exact fun ok H locs ls hP hS hl => va_put (v := .int v) ok.1 ok.2.1 ok.2.2.2.2.1 h6 ty0 F.1 F.2.1 ok.2.2.2.1 ok.2.2.2.2.2.1 hP (zw_D ok.2.2.2.2.2.2.1) hS k (zw_at h1) h3 j h4 (ok.2.2.2.2.1 _ h5) (fun _ h => h) F.2.2.1 F.2.2.2 hn hfit hl0 hd (fun H1 locs1 hP1 _ hS1 => kk _ rfl ok H1 locs1 ls (by rw [← zw_setO h1 h2]; exact hP1) hS1 hl)
/-- an int field that may be written -/
def zFw (sh : zSh) (own : String) (idx k j : Nat) (ty : FieldType) : Prop := ∃ (ci : Nat) (fs : List (Option Nat)) (q : vw_C) (ty0 : Nat → FieldType), sh[k]? = some (.inr (ci, fs)) ∧ fs[j]? = some none ∧ zcl[ci]? = some q ∧ j < q.2.2 ∧ Cond.fieldLink own idx (q.2.1 j).1 (q.2.1 j).2.1 (q.2.1 j).2.2.1 ∈ zGT ∧ (∀ w ∈ u_ws q.1 q.2.1 q.2.2, w ∈ zGT) ∧ zFp q j ty0 ty
theorem z_puti {idx k j : Nat} {v : Int32} (F : zFw sh own idx k j .int) (hd : decode cc pc = .ok (.putfield idx, 3)) (kk : ∀ t2 : zS, t2 = zu t k j v → zJ E sh C cc own nL f ret ro t2 (pc + 3) lv rest) : zJ E sh C cc own nL f ret ro t pc lv (.int v :: .ref (za E k) :: rest) := by
  obtain ⟨ci, fs, q, ty0, h1, h2, h3, h4, h5, h6, h7⟩ := F
  exact z_putV h1 h2 h3 h4 h5 h6 h7 rfl rfl hd kk
theorem z_putz {idx k j : Nat} {v : Int32} (F : zFw sh own idx k j .boolean) (hv : v = 0 ∨ v = 1) (hd : decode cc pc = .ok (.putfield idx, 3)) (kk : ∀ t2 : zS, t2 = zu t k j v → zJ E sh C cc own nL f ret ro t2 (pc + 3) lv rest) : zJ E sh C cc own nL f ret ro t pc lv (.int v :: .ref (za E k) :: rest) := by
  obtain ⟨ci, fs, q, ty0, h1, h2, h3, h4, h5, h6, h7⟩ := F
  exact z_putV h1 h2 h3 h4 h5 h6 h7 (by rcases hv with rfl | rfl <;> rfl) (by rcases hv with rfl | rfl <;> rfl) hd kk
def zin (i : Int32) (n : Nat) : Prop := 0 ≤ i ∧ i.toNatClampNeg < n
theorem zin_vp {i : Int32} {n : Nat} (h : zin i n) : vp_in i n := by
  intro q
  rcases q with q | q
  · exact Int32.not_lt.mpr h.1 q
  · exact Nat.not_le.mpr h.2 q
theorem z_iald {k n : Nat} {i : Int32} (h1 : sh[k]? = some (.inl (0, n))) (hi : zin i n) (hd : decode cc pc = .ok (.iaload, 1)) (kk : zJ E sh C cc own nL f ret ro t (pc + 1) lv (.int (t k i.toNatClampNeg) :: rest)) : zJ E sh C cc own nL f ret ro t pc lv (.int i :: .ref (za E k) :: rest) := by
  obtain ⟨p, e, s, m, args, below, meth, c, R⟩ := C
  exact fun ok H locs ls hP hS hl => va_iald (f := t k) ok.1 ok.2.1 ok.2.2.2.2.2.1 hP k 0 (zw_at h1) rfl (zin_vp hi) hd (kk ok H locs ls hP hS hl)
theorem z_iast {k n : Nat} {i v : Int32} (h1 : sh[k]? = some (.inl (0, n))) (hi : zin i n) (hd : decode cc pc = .ok (.iastore, 1)) (kk : ∀ t2 : zS, t2 = zu t k i.toNatClampNeg v → zJ E sh C cc own nL f ret ro t2 (pc + 1) lv rest) : zJ E sh C cc own nL f ret ro t pc lv (.int v :: .int i :: .ref (za E k) :: rest) := by
  obtain ⟨p, e, s, m, args, below, meth, c, R⟩ := C
  exact fun ok H locs ls hP hS hl => va_iast (f := t k) ok.1 ok.2.1 ok.2.2.2.2.2.1 hP (zw_D ok.2.2.2.2.2.2.1) hS k 0 (zw_at h1) rfl (zin_vp hi) hd (fun H1 locs1 hP1 _ hS1 => kk _ rfl ok H1 locs1 ls (by rw [← zw_setA h1]; exact hP1) hS1 hl)
theorem z_zald {k n : Nat} {i : Int32} (h1 : sh[k]? = some (.inl (1, n))) (hi : zin i n) (hd : decode cc pc = .ok (.baload, 1)) (kk : zJ E sh C cc own nL f ret ro t (pc + 1) lv (.int (t k i.toNatClampNeg) :: rest)) : zJ E sh C cc own nL f ret ro t pc lv (.int i :: .ref (za E k) :: rest) := by
  obtain ⟨p, e, s, m, args, below, meth, c, R⟩ := C
  exact fun ok H locs ls hP hS hl => va_zald (f := t k) ok.1 ok.2.1 ok.2.2.2.2.2.1 hP k 1 (zw_at h1) rfl (zin_vp hi) hd (kk ok H locs ls hP hS hl)
theorem z_zast {k n : Nat} {i v : Int32} (h1 : sh[k]? = some (.inl (1, n))) (hi : zin i n) (hv : v = 0 ∨ v = 1) (hd : decode cc pc = .ok (.bastore, 1)) (kk : ∀ t2 : zS, t2 = zu t k i.toNatClampNeg v → zJ E sh C cc own nL f ret ro t2 (pc + 1) lv rest) : zJ E sh C cc own nL f ret ro t pc lv (.int v :: .int i :: .ref (za E k) :: rest) := by
  obtain ⟨p, e, s, m, args, below, meth, c, R⟩ := C
  have hz : vp_nar .boolean v = v := by rcases hv with rfl | rfl <;> decide
  exact fun ok H locs ls hP hS hl => va_zast (f := t k) ok.1 ok.2.1 ok.2.2.2.2.2.1 hP (zw_D ok.2.2.2.2.2.2.1) hS k 1 (zw_at h1) rfl (zin_vp hi) hd (fun H1 locs1 hP1 _ hS1 => kk _ rfl ok H1 locs1 ls (by rw [← zw_setA h1, ← hz, hz]; rw [hz] at hP1; exact hP1) hS1 hl)
theorem z_alen {k a n : Nat} {v : Int32} (h1 : sh[k]? = some (.inl (a, n))) (ha : a = 0) (hv : Int32.ofNat n = v) (hd : decode cc pc = .ok (.arraylength, 1)) (kk : zJ E sh C cc own nL f ret ro t (pc + 1) lv (.int v :: rest)) : zJ E sh C cc own nL f ret ro t pc lv (.ref (za E k) :: rest) := by
  obtain ⟨p, e, s, m, args, below, meth, c, R⟩ := C
  subst ha
  exact fun ok H locs ls hP hS hl => va_alen ok.1 ok.2.1 ok.2.2.2.2.2.1 hP k 0 (zw_at h1) (ty := .int) rfl hv hd (kk ok H locs ls hP hS hl)
theorem z_iret {v : Int32} (h : some (v, t) = some ro) (hd : decode cc pc = .ok (.ireturn, 1)) : zJ E sh C cc own nL f (some .int) ro t pc lv [.int v] := by
  obtain ⟨p, e, s, m, args, below, meth, c, R⟩ := C
  cases h
  exact fun ok H locs ls hP hS hl => W.iret (v := v) ok.1 ok.2.1 ok.2.2.2.2.2.2.2.1 (fun t ht hW => ⟨⟨rfl, by rw [ht]; exact hP⟩, hS.F ht⟩) hS.2.2 hd ok.2.2.2.2.2.2.2.2.1
theorem z_zret {v : Int32} (h : some (v, t) = some ro) (hv : v = 0 ∨ v = 1) (hd : decode cc pc = .ok (.ireturn, 1)) : zJ E sh C cc own nL f (some .boolean) ro t pc lv [.int v] := by
  obtain ⟨p, e, s, m, args, below, meth, c, R⟩ := C
  cases h
  exact fun ok H locs ls hP hS hl => W.zret (v := v) (ty := .boolean) ok.1 ok.2.1 ok.2.2.2.2.2.2.2.1 (by rcases hv with rfl | rfl <;> rfl) (fun t ht hW => ⟨⟨rfl, by rw [ht]; exact hP⟩, hS.F ht⟩) hS.2.2 hd ok.2.2.2.2.2.2.2.2.1
theorem z_vret (h : some ((0 : Int32), t) = some ro) (hd : decode cc pc = .ok (.return_, 1)) : zJ E sh C cc own nL f none ro t pc lv [] := by
  obtain ⟨p, e, s, m, args, below, meth, c, R⟩ := C
  cases h
  exact fun ok H locs ls hP hS hl => W.vret ok.1 ok.2.1 ok.2.2.2.2.2.2.2.1 (fun t ht hW => ⟨⟨rfl, by rw [ht]; exact hP⟩, hS.F ht⟩) hS.2.2 hd ok.2.2.2.2.2.2.2.2.1
end ZROWS
