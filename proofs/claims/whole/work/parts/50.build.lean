/-! constructors: a world of cells that grows -/
def zbA (E : zE) (ws : va_W) (sz : Nat) : Nat → Prop := va_A ws sz
def zNst : List (String × Nat × MethodName × String) := [(RX7, 11, yX10_init, "SessionHouse"), (RX4, 11, yX0_init, "SessionHouse"), (RX4, 20, yX8_init, "SessionHouse"), (RX11, 27, yX2_init, "SessionHouse"), (RX11, 30, yX3_init, "SessionHouse"), (RX11, 33, yX9_init, "SessionHouse"), (RX11, 36, yX6_init, "SessionHouse")]
/-- the links to private constructors of nest mates -/
def zNW (U : State) : Prop := ∀ q ∈ zNst, va_Nw (.methodLinkNest q.1 q.2.1 q.2.2.1 q.2.2.2) U
theorem zNW_warm {s U : State} (hW : s.WarmedH U.vm) (h : zNW s) : zNW U := fun q hq => va_Nw.warmM hW (h q hq)
theorem zNW_same {s U : State} (hv : s.vm = U.vm) (h : zNW s) : zNW U := fun q hq => va_Nw.same rfl hv (h q hq)
def zCon (E : zE) (y : MethodName) (cc : ByteArray) (nL f mc ms : Nat) (vs : List Value) (w0 : va_W) (Pw : va_W → Prop) : Prop := ∀ sz : Nat,
  Met E.1 y (Cond.code y cc nL none :: zGT) { frames := f, cells := mc, slots := ms, locals := 40 * f } (va_Pc vs (fun U => U.heap.size = sz ∧ va_P E.2.1 zcl w0 U.heap ∧ va_K E.2.1 zcl (ztys E.2.2.1) U ∧ va_D (fun _ => True) w0 ∧ zNW U))
    (va_Qv (fun _ : Unit => True) (fun _ t => ∃ w1, Pw w1 ∧ va_P E.2.1 zcl w1 t.heap ∧ va_D (va_A w0 sz) w1) (va_A w0 sz)) mc ms (va_A w0 sz)
def zbok (E : zE) (C : zC) (cc : ByteArray) (own : String) (nL f mc ms : Nat) (A : Nat → Prop) : Prop := match C with
  | (p, _, s, m, args, _, meth, c, R) => p.tables.exec = Jvm.exec ∧ c.code = cc ∧ c.maxLocals = nL ∧ s.vm.findClass own = some m.cls ∧ (∀ w ∈ zGT, w.before args s = true) ∧ va_K E.2.1 zcl (ztys E.2.2.1) s ∧ (∀ q : Nat, s.heap.size ≤ q → A q) ∧ meth.sig.returnType = none ∧ meth.locks = false ∧ f ≤ R.frames ∧ 40 * f ≤ R.locals ∧ mc ≤ R.cells ∧ ms ≤ R.slots ∧ meth.name = "<init>" ∧ zNW s
def zB (E : zE) (C : zC) (cc : ByteArray) (own : String) (nL f mc ms : Nat) (A : Nat → Prop) (Pw : va_W → Prop) (ws : va_W) (k n : Nat) (pc : Nat) (lv : List (Nat × Value)) (st : List Value) : Prop := match C with
  | (p, e, s, m, args, below, meth, c, R) => zbok E C cc own nL f mc ms A → ∀ (H : Heap) (locs : List Loc) (ls : Array Slot), va_P E.2.1 zcl ws H → va_D A ws → va_S A s.heap H locs → lv_has ls nL lv →
    W p E.1 e R s m args below meth c H locs k n (MQ below (va_Qv (fun _ : Unit => True) (fun _ t => ∃ w1, Pw w1 ∧ va_P E.2.1 zcl w1 t.heap ∧ va_D A w1) A) args s mc ms A) (F0 m pc ls st)
theorem zCon_of {E : zE} {y : MethodName} {cc : ByteArray} {nL f mc ms : Nat} {vs : List Value} {w0 : va_W} {Pw : va_W → Prop} (hy : plainName y.cls = true) (hi : y.name = "<init>") (hn : (lg_sl vs).length ≤ nL)
    (h : ∀ (C : zC) (A : Nat → Prop), zB E C cc y.cls nL f mc ms A Pw w0 0 0 0 (lv_args 0 vs) []) : zCon E y cc nL f mc ms vs w0 Pw := by
  intro sz
  refine Met.ofW (cc := cc) (maxL := nL) (ret := none) hy rfl ?_
  intro p e s m args below meth c s₁ B hml hv
  obtain ⟨rfl, hsz, hP, hK, hD, hNW⟩ := hv
  subst hsz
  have hts := atoms_spec (ws := Cond.code y cc nL none :: zGT) B.pre
  have hl := lv_entry vs (n := nL) hn
  rw [lg_entry_eq]
  have hnm : meth.name = "<init>" := ((name_of_methodNamed B.named B.method).1).trans hi
  exact h (p, e, s, m, vs.toArray, below, meth, c, { frames := f, cells := mc, slots := ms, locals := 40 * f }) _ ⟨B.exec, B.bytes, hml, findClass_of_methodNamed B.named, fun w hw => hts w (List.mem_cons_of_mem _ hw), hK, fun q h => Or.inr h, B.returns, B.notSynchronized, Nat.le_refl f, Nat.le_refl _, Nat.le_refl _, Nat.le_refl _, hnm, hNW⟩ s.heap [] _ hP (hD.self) va_S.rf hl
section ZB
variable {E : zE} {C : zC} {cc : ByteArray} {own : String} {nL f mc ms : Nat} {A : Nat → Prop} {Pw : va_W → Prop} {ws : va_W} {k n : Nat} {pc : Nat} {lv : List (Nat × Value)} {rest : List Value}
theorem zb_aload_n {i2 : Fin 4} {i : Nat} {x : Nat} (q : Nat) (hd : decode cc pc = .ok (.aload_n i2, 1)) (hi : (i2 : Nat) = i) (hq : lv[q]? = some (i, .ref x)) (kk : zB E C cc own nL f mc ms A Pw ws k n (pc + 1) lv (.ref x :: rest)) : zB E C cc own nL f mc ms A Pw ws k n pc lv rest := by
  obtain ⟨p, e, s, m, args, below, meth, c, R⟩ := C
  exact fun ok H locs ls hP hD hS hl => lv_aload_n ok.1 ok.2.1 hd hi (lv_at hl q hq) (kk ok H locs ls hP hD hS hl)
theorem zb_aload {i : Nat} {x : Nat} (q : Nat) (hd : decode cc pc = .ok (.aload i, 2)) (hq : lv[q]? = some (i, .ref x)) (kk : zB E C cc own nL f mc ms A Pw ws k n (pc + 2) lv (.ref x :: rest)) : zB E C cc own nL f mc ms A Pw ws k n pc lv rest := by
  obtain ⟨p, e, s, m, args, below, meth, c, R⟩ := C
  exact fun ok H locs ls hP hD hS hl => lv_aload ok.1 ok.2.1 hd (lv_at hl q hq) (kk ok H locs ls hP hD hS hl)
theorem zb_iload_n {i2 : Fin 4} {i : Nat} {x : Int32} (q : Nat) (hd : decode cc pc = .ok (.iload_n i2, 1)) (hi : (i2 : Nat) = i) (hq : lv[q]? = some (i, .int x)) (kk : zB E C cc own nL f mc ms A Pw ws k n (pc + 1) lv (.int x :: rest)) : zB E C cc own nL f mc ms A Pw ws k n pc lv rest := by
  obtain ⟨p, e, s, m, args, below, meth, c, R⟩ := C
  exact fun ok H locs ls hP hD hS hl => lv_iload_n ok.1 ok.2.1 hd hi (lv_at hl q hq) (kk ok H locs ls hP hD hS hl)
theorem zb_astore_n {i2 : Fin 4} {i x : Nat} {lv' : List (Nat × Value)} (hd : decode cc pc = .ok (.astore_n i2, 1)) (hi : (i2 : Nat) = i) (hn : i < nL) (hl' : (i, Value.ref x) :: lv.filter (fun q => !(q.1 == i) && !(q.1 + 1 == i && q.2.category == 2)) = lv') (kk : zB E C cc own nL f mc ms A Pw ws k n (pc + 1) lv' rest) : zB E C cc own nL f mc ms A Pw ws k n pc lv (.ref x :: rest) := by
  obtain ⟨p, e, s, m, args, below, meth, c, R⟩ := C
  exact fun ok H locs ls hP hD hS hl => lv_astore_n ok.1 ok.2.1 hd hi hl hn hl' (fun ls h => kk ok H locs ls hP hD hS h)
theorem zb_astore {i x : Nat} {lv' : List (Nat × Value)} (hd : decode cc pc = .ok (.astore i, 2)) (hn : i < nL) (hl' : (i, Value.ref x) :: lv.filter (fun q => !(q.1 == i) && !(q.1 + 1 == i && q.2.category == 2)) = lv') (kk : zB E C cc own nL f mc ms A Pw ws k n (pc + 2) lv' rest) : zB E C cc own nL f mc ms A Pw ws k n pc lv (.ref x :: rest) := by
  obtain ⟨p, e, s, m, args, below, meth, c, R⟩ := C
  exact fun ok H locs ls hP hD hS hl => lv_astore ok.1 ok.2.1 hd hl hn hl' (fun ls h => kk ok H locs ls hP hD hS h)
theorem zb_iconst {z : Int} {v : Int32} (hd : decode cc pc = .ok (.iconst z, 1)) (hv : Int32.ofInt z = v) (kk : zB E C cc own nL f mc ms A Pw ws k n (pc + 1) lv (.int v :: rest)) : zB E C cc own nL f mc ms A Pw ws k n pc lv rest := by
  obtain ⟨p, e, s, m, args, below, meth, c, R⟩ := C
  exact fun ok H locs ls hP hD hS hl => lv_iconst ok.1 ok.2.1 hd hv (kk ok H locs ls hP hD hS hl)
theorem zb_bipush {z : Int} {v : Int32} (hd : decode cc pc = .ok (.bipush z, 2)) (hv : (Int8.ofInt z).toInt32 = v) (kk : zB E C cc own nL f mc ms A Pw ws k n (pc + 2) lv (.int v :: rest)) : zB E C cc own nL f mc ms A Pw ws k n pc lv rest := by
  obtain ⟨p, e, s, m, args, below, meth, c, R⟩ := C
  exact fun ok H locs ls hP hD hS hl => lv_bipush ok.1 ok.2.1 hd hv (kk ok H locs ls hP hD hS hl)
theorem zb_sipush {z : Int} {v : Int32} (hd : decode cc pc = .ok (.sipush z, 3)) (hv : (Int16.ofInt z).toInt32 = v) (kk : zB E C cc own nL f mc ms A Pw ws k n (pc + 3) lv (.int v :: rest)) : zB E C cc own nL f mc ms A Pw ws k n pc lv rest := by
  obtain ⟨p, e, s, m, args, below, meth, c, R⟩ := C
  exact fun ok H locs ls hP hD hS hl => lv_sipush ok.1 ok.2.1 hd hv (kk ok H locs ls hP hD hS hl)
theorem zb_ldc {idx : Nat} {v : Int32} (hw : Cond.constant own idx v ∈ zGT) (hd : decode cc pc = .ok (.ldc idx, 2)) (kk : zB E C cc own nL f mc ms A Pw ws k n (pc + 2) lv (.int v :: rest)) : zB E C cc own nL f mc ms A Pw ws k n pc lv rest := by
  obtain ⟨p, e, s, m, args, below, meth, c, R⟩ := C
  exact fun ok H locs ls hP hD hS hl => lv_ldc ok.1 ok.2.1 ok.2.2.2.1 (ok.2.2.2.2.1 _ hw) hd (kk ok H locs ls hP hD hS hl)
theorem zb_dup {v : Value} (hd : decode cc pc = .ok (.dup, 1)) (hv : v.category = 1) (kk : zB E C cc own nL f mc ms A Pw ws k n (pc + 1) lv (v :: v :: rest)) : zB E C cc own nL f mc ms A Pw ws k n pc lv (v :: rest) := by
  obtain ⟨p, e, s, m, args, below, meth, c, R⟩ := C
  exact fun ok H locs ls hP hD hS hl => lv_dup ok.1 ok.2.1 hd hv (kk ok H locs ls hP hD hS hl)
theorem zb_max {idx : Nat} {x y v : Int32} (hlk : Cond.methodLink own idx Lib.Math.max.name ∈ zGT) (hf : 1 ≤ f) (hr : (rest.map fun v => v.category).sum ≤ 8) (hv : (if x < y then y else x) = v) (hk : k ≤ mc) (hm : n ≤ ms) (hd : decode cc pc = .ok (.invokestatic idx, 3)) (kk : zB E C cc own nL f mc ms A Pw ws k n (pc + 3) lv (.int v :: rest)) : zB E C cc own nL f mc ms A Pw ws k n pc lv (.int y :: .int x :: rest) := by
  obtain ⟨p, e, s, m, args, below, meth, c, R⟩ := C
  subst hv
  intro ok H locs ls hP hD hS hl
  have ok0 := ok
  obtain ⟨x1, x2, x3, x4, x5, x6, x7, x8, x9, x10, x11, x12, x13, x14, x15⟩ := ok
  exact va_mmax x1 x2 (x3.trans hl.1.symm) x4 (x5 _ hlk) (x5 _ mm1_max) (x5 _ mm2) (x5 _ mm3_max) (by omega) (by omega) (by omega) (by omega) hd (kk ok0 H locs ls hP hD hS hl)
theorem zb_obj {idx a : Nat} (hlk : Cond.methodLink own idx Lib.objectInit ∈ zGT) (w1 : Cond.instanceMethod Lib.objectInit ∈ zGT) (w2 : Cond.code Lib.objectInit ⟨#[0xb1]⟩ 1 none ∈ zGT) (hf : 1 ≤ f) (hr : (rest.map fun v => v.category).sum ≤ 8) (hd : decode cc pc = .ok (.invokespecial idx, 3)) (kk : zB E C cc own nL f mc ms A Pw ws k n (pc + 3) lv rest) : zB E C cc own nL f mc ms A Pw ws k n pc lv (.ref a :: rest) := by
  obtain ⟨p, e, s, m, args, below, meth, c, R⟩ := C
  intro ok H locs ls hP hD hS hl
  have ok0 := ok
  obtain ⟨x1, x2, x3, x4, x5, x6, x7, x8, x9, x10, x11, x12, x13, x14, x15⟩ := ok
  refine W.objInit x1 x2 x4 (x5 _ hlk) (x5 _ w1) (x5 _ w2) rfl (hl.1.trans x3.symm) rfl hd (by omega) ?_ (kk ok0 H locs ls hP hD hS hl)
  show 2 * 0 + _ + 12 ≤ _
  omega
/-- the class of int arrays is one -/
theorem zca_eq {s : State} {E : zE} {cA : ClassId} (hK : va_K E.2.1 zcl (ztys E.2.2.1) s) (h : va_K E.2.1 zcl (ztys E.2.2.1 ++ [(cA, .int)]) s) : cA = E.2.2.1 0 := by
  have h1 := (hK.2 0 _ rfl).2
  have h2 := (h.2 2 (cA, .int) rfl).2
  exact Option.some.inj (h2.symm.trans h1)
theorem zcz_eq {s : State} {E : zE} {cA : ClassId} (hK : va_K E.2.1 zcl (ztys E.2.2.1) s) (h : va_K E.2.1 zcl (ztys E.2.2.1 ++ [(cA, .boolean)]) s) : cA = E.2.2.1 1 := by
  have h1 := (hK.2 1 _ rfl).2
  have h2 := (h.2 2 (cA, .boolean) rfl).2
  exact Option.some.inj (h2.symm.trans h1)
theorem zb_newi {v : Int32} {N : Nat} (harr : Cond.arrayClass (newarray.typeOf .int) ∈ zGT) (hn : ¬ v < 0) (hN : v.toNatClampNeg = N) (hb : N * componentBytes .int ≤ 536870912) (hk : k + 1 ≤ mc) (hm : n + N ≤ ms) (hd : decode cc pc = .ok (.newarray .int, 2)) (kk : ∀ q : Nat, zB E C cc own nL f mc ms A Pw (ws ++ [(q, .inl (E.2.2.1 0, N, .inl (fun _ => 0)))]) (k + 1) (n + N) (pc + 2) lv (.ref q :: rest)) : zB E C cc own nL f mc ms A Pw ws k n pc lv (.int v :: rest) := by
  obtain ⟨p, e, s, m, args, below, meth, c, R⟩ := C
  intro ok H locs ls hP hD hS hl
  have ok0 := ok
  obtain ⟨x1, x2, x3, x4, x5, x6, x7, x8, x9, x10, x11, x12, x13, x14, x15⟩ := ok
  refine va_newa (a0 := (N, .inl (fun _ => 0))) (ty := .int) x1 x2 (x5 _ harr) rfl x6 hP hD hS x7 (fun cA => by rw [vp_cell_i]; rfl) hn hN hb (by omega) (by omega) hd (fun q cA H1 hK1 hP1 hD1 hS1 => ?_)
  have e := zca_eq x6 hK1
  subst e
  exact kk q ok0 H1 locs ls hP1 hD1 hS1 hl
theorem zb_newz {v : Int32} {N : Nat} (harr : Cond.arrayClass (newarray.typeOf .boolean) ∈ zGT) (hn : ¬ v < 0) (hN : v.toNatClampNeg = N) (hb : N * componentBytes .boolean ≤ 536870912) (hk : k + 1 ≤ mc) (hm : n + N ≤ ms) (hd : decode cc pc = .ok (.newarray .boolean, 2)) (kk : ∀ q : Nat, zB E C cc own nL f mc ms A Pw (ws ++ [(q, .inl (E.2.2.1 1, N, .inl (fun _ => 0)))]) (k + 1) (n + N) (pc + 2) lv (.ref q :: rest)) : zB E C cc own nL f mc ms A Pw ws k n pc lv (.int v :: rest) := by
  obtain ⟨p, e, s, m, args, below, meth, c, R⟩ := C
  intro ok H locs ls hP hD hS hl
  have ok0 := ok
  obtain ⟨x1, x2, x3, x4, x5, x6, x7, x8, x9, x10, x11, x12, x13, x14, x15⟩ := ok
  refine va_newa (a0 := (N, .inl (fun _ => 0))) (ty := .boolean) x1 x2 (x5 _ harr) rfl x6 hP hD hS x7 (fun cA => by rw [vp_cell_i]; rfl) hn hN hb (by omega) (by omega) hd (fun q cA H1 hK1 hP1 hD1 hS1 => ?_)
  have e := zcz_eq x6 hK1
  subst e
  exact kk q ok0 H1 locs ls hP1 hD1 hS1 hl
/-- what a class needs to be made -/
def zMk (own : String) (idx ci : Nat) (fs : List Value) (N : Nat) : Prop := ∃ (q : vw_C) (ty : Nat → FieldType), zcl[ci]? = some q ∧ q.2.2 = N ∧ (∀ w ∈ u_ws q.1 q.2.1 q.2.2, w ∈ zGT) ∧ (∀ k, k < q.2.2 → parseFieldDescriptor (q.2.1 k).2.2.1 = some (ty k)) ∧ Cond.classLink own idx q.1 ∈ zGT ∧ Cond.instantiable q.1 q.2.2 ∈ zGT ∧ Cond.initialized q.1 ∈ zGT ∧ (∀ j, j < q.2.2 → defaultValue (ty j) = vp_V fs j)
theorem zb_new {idx ci N : Nat} {fs : List Value} (F : zMk own idx ci fs N) (hk : k + 1 ≤ mc) (hm : n + N ≤ ms) (hd : decode cc pc = .ok (.new idx, 3)) (kk : ∀ q : Nat, zB E C cc own nL f mc ms A Pw (ws ++ [(q, .inr (ci, fs))]) (k + 1) (n + N) (pc + 3) lv (.ref q :: rest)) : zB E C cc own nL f mc ms A Pw ws k n pc lv rest := by
  obtain ⟨p, e, s, m, args, below, meth, c, R⟩ := C
  intro ok H locs ls hP hD hS hl
  have ok0 := ok
  obtain ⟨x1, x2, x3, x4, x5, x6, x7, x8, x9, x10, x11, x12, x13, x14, x15⟩ := ok
  obtain ⟨q, ty, f1, f2, f3, f4, f5, f6, f7, f8⟩ := F
  subst f2
  exact va_new x1 x2 x5 f3 ty f4 x4 (x5 _ f5) (x5 _ f6) (x5 _ f7) x6 hP hD hS x7 f1 f8 (by omega) (by omega) hd (fun q H1 hP1 hD1 hS1 => kk q ok0 H1 locs ls hP1 hD1 hS1 hl)
/-- what a final field needs to be set in a constructor -/
def zPf (own : String) (idx ci j : Nat) (fin : Bool) (v : Value) : Prop := ∃ (q : vw_C) (ty : Nat → FieldType) (ty1 : FieldType), zcl[ci]? = some q ∧ (∀ w ∈ u_ws q.1 q.2.1 q.2.2, w ∈ zGT) ∧ (∀ k, k < q.2.2 → parseFieldDescriptor (q.2.1 k).2.2.1 = some (ty k)) ∧ (∀ a, a < q.2.2 → ∀ b, b < q.2.2 → a ≠ b → (q.2.1 a).2.1 ≠ (q.2.1 b).2.1) ∧ j < q.2.2 ∧ Cond.fieldLink own idx (q.2.1 j).1 (q.2.1 j).2.1 (q.2.1 j).2.2.1 ∈ zGT ∧ (q.2.1 j).2.2.2 = fin ∧ (q.2.1 j).1 = own ∧ parseFieldDescriptor (q.2.1 j).2.2.1 = some ty1 ∧ narrow ty1 v = v ∧ fits ty1 v = true
theorem zb_putF {idx ci j a q0 : Nat} {v : Value} {fs : List Value} (F : zPf own idx ci j true v) (he : ws[q0]? = some (a, .inr (ci, fs))) (hl0 : j < fs.length) (hd : decode cc pc = .ok (.putfield idx, 3)) (kk : zB E C cc own nL f mc ms A Pw (ws.set q0 (a, .inr (ci, fs.set j v))) k n (pc + 3) lv rest) : zB E C cc own nL f mc ms A Pw ws k n pc lv (v :: .ref a :: rest) := by
  obtain ⟨p, e, s, m, args, below, meth, c, R⟩ := C
  intro ok H locs ls hP hD hS hl
  have ok0 := ok
  obtain ⟨x1, x2, x3, x4, x5, x6, x7, x8, x9, x10, x11, x12, x13, x14, x15⟩ := ok
  obtain ⟨q, ty, ty1, f1, f2, f3, f4, f5, f6, f7, f8, f9, f10, f11⟩ := F
  exact va_putF x1 x2 x5 f2 ty f3 f4 x4 x6 hP hD hS q0 he f1 j f5 (x5 _ f6) (fun _ h => h) f7 x14 f8 f9 f10 f11 hl0 hd (fun H1 locs1 hP1 hD1 hS1 => kk ok0 H1 locs1 ls hP1 hD1 hS1 hl)
theorem zb_put {idx ci j a q0 : Nat} {v : Value} {fs : List Value} (F : zPf own idx ci j false v) (he : ws[q0]? = some (a, .inr (ci, fs))) (hl0 : j < fs.length) (hd : decode cc pc = .ok (.putfield idx, 3)) (kk : zB E C cc own nL f mc ms A Pw (ws.set q0 (a, .inr (ci, fs.set j v))) k n (pc + 3) lv rest) : zB E C cc own nL f mc ms A Pw ws k n pc lv (v :: .ref a :: rest) := by
  obtain ⟨p, e, s, m, args, below, meth, c, R⟩ := C
  intro ok H locs ls hP hD hS hl
  have ok0 := ok
  obtain ⟨x1, x2, x3, x4, x5, x6, x7, x8, x9, x10, x11, x12, x13, x14, x15⟩ := ok
  obtain ⟨q, ty, ty1, f1, f2, f3, f4, f5, f6, f7, f8, f9, f10, f11⟩ := F
  exact va_put x1 x2 x5 f2 ty f3 f4 x4 x6 hP hD hS q0 he f1 j f5 (x5 _ f6) (fun _ h => h) f7 f9 f10 f11 hl0 hd (fun H1 locs1 hP1 hD1 hS1 => kk ok0 H1 locs1 ls hP1 hD1 hS1 hl)
def zpk (ws : va_W) (is : List Nat) : va_W := is.filterMap (fun i => ws[i]?)
/-- a constructor's call: the cells at isC are the callee's, those at isR stay -/
def zLi (own : String) (idx : Nat) (y : MethodName) : Prop := Cond.methodLink own idx y ∈ zGT ∨ ∃ host, (own, idx, y, host) ∈ zNst
theorem zb_call {f2 idx a n2 nL2 mc2 ms2 : Nat} {y : MethodName} {c2 : ByteArray} {As st : List Value} {w0 : va_W} {Pw2 : va_W → Prop} (hM : zCon E y c2 nL2 f2 mc2 ms2 (.ref a :: As) w0 Pw2) (hY : zY y c2 nL2 none n2) (hi : y.name = "<init>") (hin : Cond.instanceMethod y ∈ zGT) (hlk : zLi own idx y) (hf : f2 + 1 ≤ f) (hn : As.length = n2) (hst : st = As.reverse ++ .ref a :: rest) (hr : (rest.map fun v => v.category).sum ≤ 8) (isC isR : List Nat) (hC : isC.map (fun i => ws[i]?) = w0.map some) (hR : isR.map (fun i => ws[i]?) = (zpk ws isR).map some) (hnd : va_nd isC = true) (hnr : va_nd isR = true) (hdis : ∀ i ∈ isR, i ∉ isC) (hk : k + mc2 ≤ mc) (hm : n + ms2 ≤ ms) (hd : decode cc pc = .ok (.invokespecial idx, 3))
    (kk : ∀ w1 : va_W, Pw2 w1 → zB E C cc own nL f mc ms A Pw (zpk ws isR ++ w1) (k + mc2) (n + ms2) (pc + 3) lv rest) : zB E C cc own nL f mc ms A Pw ws k n pc lv st := by
  obtain ⟨p, e, s, m, args, below, meth, c, R⟩ := C
  obtain ⟨y1, y2, y3, y4, y5, y6⟩ := hY
  intro ok H locs ls hP hD hS hl
  have ok0 := ok
  obtain ⟨x1, x2, x3, x4, x5, x6, x7, x8, x9, x10, x11, x12, x13, x14, x15⟩ := ok
  have hw0 : isC.filterMap (fun i => ws[i]?) = w0 := by
    have h9 : ∀ (l : List Nat) (w : va_W), l.map (fun i => ws[i]?) = w.map some → l.filterMap (fun i => ws[i]?) = w := by
      intro l
      induction l with
      | nil => intro w h; cases w with
        | nil => rfl
        | cons b w => cases h
      | cons a l ih => intro w h; cases w with
        | nil => cases h
        | cons b w =>
          simp only [List.map_cons, List.cons.injEq] at h
          rw [List.filterMap_cons, h.1]
          simp only
          rw [ih w h.2]
    exact h9 isC w0 hC
  have hPc := hP.sub (ws' := w0) isC hw0
  have hDc := hD.sub (ws' := w0) isC hnd hC
  have hFc := va_free (wc := w0) hD hS x7 isC hC
  have hR1 : ({ frames := f2, cells := mc2, slots := ms2, locals := 40 * f2 } : Room).frames + 1 ≤ R.frames ∧ 8 + (nL2 + 11) + ({ frames := f2, cells := mc2, slots := ms2, locals := 40 * f2 } : Room).locals ≤ R.locals := ⟨by show f2 + 1 ≤ R.frames; omega, by show 8 + (nL2 + 11) + 40 * f2 ≤ R.locals; omega⟩
  have hblind : FrameBlind (va_Pc (.ref a :: As) (fun U => U.heap.size = H.size ∧ va_P E.2.1 zcl w0 U.heap ∧ va_K E.2.1 zcl (ztys E.2.2.1) U ∧ va_D (fun _ => True) w0 ∧ zNW U)) :=
    fun b U g mk q => ⟨q.1, q.2.1, q.2.2.1, va_K.moved (u := U) (U := U.calling g mk b) (Vm.Alike.refl U.vm) q.2.2.2.1, q.2.2.2.2.1, zNW_same rfl q.2.2.2.2.2⟩
  have hpre : PreS s H (va_Pc (.ref a :: As) (fun U => U.heap.size = H.size ∧ va_P E.2.1 zcl w0 U.heap ∧ va_K E.2.1 zcl (ztys E.2.2.1) U ∧ va_D (fun _ => True) w0 ∧ zNW U)) (.ref a :: As) :=
    ⟨hblind, fun U hU hW => ⟨rfl, by rw [hU], by rw [hU]; exact hPc, va_K.moved hW.alike x6, hDc.weaken (fun _ _ _ _ => trivial), zNW_warm hW x15⟩⟩
  have hrun : va_Run p E.1 e R s m args below meth c H locs k n mc2 ms2 (F0 m pc ls st) rest (va_Qv (fun _ : Unit => True) (fun _ t => ∃ w1, Pw2 w1 ∧ va_P E.2.1 zcl w1 t.heap ∧ va_D (va_A w0 H.size) w1) (va_A w0 H.size) (Value.ref a :: As).toArray) (va_A w0 H.size) := by
    rcases hlk with h | ⟨host, h⟩
    · exact va_runI (g := F0 m pc ls st) (rest := rest) ⟨x1, x2, x3, x4, x5⟩ (hM H.size) (cwI n2 x5 (zGood y1) rfl rfl rfl (x5 _ y2) (x5 _ h) (x5 _ hin) hi ⟨y3, y4, y5⟩ hR1) hpre rfl hn hl.1 hst (lv_room hr) hd ⟨by omega, by omega⟩
    · exact va_runIN (g := F0 m pc ls st) (rest := rest) ⟨x1, x2, x3, x4, x5⟩ (hM H.size) ⟨va_cnB n2 x5 (zGood y1) rfl rfl rfl (x15 _ h) (x5 _ y2) ⟨y3, y4, y5⟩ hR1, hi, x5 _ hin⟩ hpre rfl hn hl.1 hst (lv_room hr) hd ⟨by omega, by omega⟩
  refine va_callv hrun hS (fun q _ h => hFc q h) hFc (fun u t H1 locs1 ht hvm hw hB hz1 hk1 hS1 => ?_)
  obtain ⟨w1, hw1, hP1, hD1⟩ := hB
  rw [ht] at hP1
  obtain ⟨hP2, hD2⟩ := va_join (wr := zpk ws isR) (w1 := w1) hP hD isC isR hC hR hnr hdis hk1 hFc hP1 hD1
  exact kk w1 hw1 ok0 H1 locs1 ls hP2 hD2 hS1 hl
theorem zb_eq {ws' : va_W} {st : List Value} (h : ws = ws') (kk : zB E C cc own nL f mc ms A Pw ws' k n pc lv st) : zB E C cc own nL f mc ms A Pw ws k n pc lv st := by subst h; exact kk
theorem zb_num {k' n' : Nat} {st : List Value} (h : k = k') (h2 : n = n') (kk : zB E C cc own nL f mc ms A Pw ws k' n' pc lv st) : zB E C cc own nL f mc ms A Pw ws k n pc lv st := by subst h; subst h2; exact kk
theorem zb_vret (hw : Pw ws) (hk : k ≤ mc) (hm : n ≤ ms) (hd : decode cc pc = .ok (.return_, 1)) : zB E C cc own nL f mc ms A Pw ws k n pc lv [] := by
  obtain ⟨p, e, s, m, args, below, meth, c, R⟩ := C
  intro ok H locs ls hP hD hS hl
  refine W.widen hk hm ?_
  exact W.vret ok.1 ok.2.1 ok.2.2.2.2.2.2.2.1 (fun t ht hW => ⟨⟨(), rfl, trivial, ws, hw, by rw [ht]; exact hP, hD⟩, hS.F ht⟩) hS.2.2 hd ok.2.2.2.2.2.2.2.2.1
end ZB
