section ZCALLS
/-- what is known of a method that is called -/
def zY (y : MethodName) (cc : ByteArray) (nL : Nat) (ret : Option FieldType) (n : Nat) : Prop := Cond.code y cc nL ret ∈ zGT ∧ Cond.initialized y.cls ∈ zGT ∧ y.cls ≠ "java/lang/invoke/MethodHandle" ∧ y.cls ≠ "java/lang/invoke/VarHandle" ∧ (parseMethodDescriptor y.desc).map (fun d => d.parameters.length) = some n ∧ nL ≤ 21
def zYv (y : MethodName) : Prop := Cond.instanceMethod y ∈ zGT ∧ Cond.selects y.cls y y ∈ zGT
def zres (ret : Option FieldType) (v : Int32) : List Value := match ret with
  | none => []
  | some _ => [.int v]
variable {p : Program} {e : Env} {R : Room} {s : State} {m : MethodId} {args : Array Value} {below : List Frame} {meth : Method} {c : Code} {H : Heap} {locs : List Loc} {Q : State → Prop}
theorem z_go {E : zE} {sh : zSh} {ret : Option FieldType} {ro : Int32 × zS} {pc : Nat} {ls : Array Slot} {st0 rest : List Value} {H0 : Heap} {a : Array Value} (hr : va_Run p E.1 e R s m args below meth c H locs 0 0 0 0 (F0 m pc ls st0) rest (zQ E sh ret ro a) (zA E.2.2.2.1 sh)) (hS : va_S (zA E.2.2.2.1 sh) H0 H locs)
    (kk : ∀ (H1 : Heap) (locs1 : List Loc), va_P E.2.1 zcl (zw E.2.2.2.1 E.2.2.1 sh ro.2) H1 → va_S (zA E.2.2.2.1 sh) H0 H1 locs1 → W p E.1 e R s m args below meth c H1 locs1 0 0 Q (F0 m (pc + 3) ls (zres ret ro.1 ++ rest))) : W p E.1 e R s m args below meth c H locs 0 0 Q (F0 m pc ls st0) := by
  intro T hT X
  obtain ⟨v, st₀, t, T', L, h0, X', hL, e1, e2, ⟨⟨hv, hp⟩, hz, hk⟩, st⟩ := hr T hT X
  rw [h0] at hz hk
  have hS' : va_S (zA E.2.2.2.1 sh) H0 T'.heap (locs ++ L) := ⟨Nat.le_trans hS.1 (by rw [e1]; exact hz), fun q h1 h2 => by rw [e1, hk q (Nat.lt_of_lt_of_le h1 hS.1) h2]; exact hS.2.1 q h1 h2, fun q hq => by
      rcases List.mem_append.mp hq with h | h
      · exact hS.2.2 q h
      · exact hL q h⟩
  obtain ⟨t2, a1, b1⟩ := kk T'.heap (locs ++ L) (by rw [e1]; exact hp) hS' T' rfl X'
  refine ⟨t2, st t2 ?_, b1⟩
  have hvv : v.toList = zres ret ro.1 := by
    have := Outcome.returned.inj hv
    rw [this]
    cases ret <;> rfl
  rw [hvv]
  exact a1
theorem zGood {y : MethodName} {cc : ByteArray} {nL : Nat} {ret : Option FieldType} (h : Cond.code y cc nL ret ∈ zGT) : GoodIn zGT (Cond.code y cc nL ret :: zGT) := by
  intro w hw
  rcases List.mem_cons.mp hw with h1 | h1
  · subst h1; exact ⟨h, zGT_good h⟩
  · exact ⟨h1, zGT_good h1⟩
theorem zBlind {E : zE} {sh : zSh} {vs : List Value} {t : zS} : FrameBlind (va_Pc vs (fun U => va_P E.2.1 zcl (zw E.2.2.2.1 E.2.2.1 sh t) U.heap ∧ va_K E.2.1 zcl (ztys E.2.2.1) U ∧ zHx E sh U)) :=
  fun a U g mk q => ⟨q.1, q.2.1, va_K.moved (u := U) (U := U.calling g mk a) (Vm.Alike.refl U.vm) q.2.2.1, zHx_same rfl rfl q.2.2.2⟩
end ZCALLS
section ZCALLS2
variable {E : zE} {sh : zSh} {C : zC} {cc : ByteArray} {own : String} {nL f : Nat} {ret : Option FieldType} {ro : Int32 × zS} {t : zS} {pc : Nat} {lv : List (Nat × Value)} {rest : List Value}
/-- the cell k is an object of this class -/
def zObj (sh : zSh) (k : Nat) (cn : String) : Prop := ∃ (ci : Nat) (fs : List (Option Nat)) (q : vw_C), sh[k]? = some (.inr (ci, fs)) ∧ zcl[ci]? = some q ∧ q.1 = cn
theorem z_callV {f2 idx k n nL2 : Nat} {y : MethodName} {c2 : ByteArray} {ret2 : Option FieldType} {As : List Value} {st : List Value} {ro2 : Int32 × zS} (hM : zM E sh f2 y c2 nL2 ret2 (.ref (za E k) :: As) t ro2) (hY : zY y c2 nL2 ret2 n) (hv : zYv y) (hO : zObj sh k y.cls) (hlk : Cond.methodLink own idx y ∈ zGT) (hf : f2 + 1 ≤ f) (hn : As.length = n) (hst : st = As.reverse ++ .ref (za E k) :: rest) (hr : (rest.map fun v => v.category).sum ≤ 8) (hd : decode cc pc = .ok (.invokevirtual idx, 3))
    (kk : zJ E sh C cc own nL f ret ro ro2.2 (pc + 3) lv (zres ret2 ro2.1 ++ rest)) : zJ E sh C cc own nL f ret ro t pc lv st := by
  obtain ⟨p, e, s, m, args, below, meth, c, R⟩ := C
  obtain ⟨y1, y2, y3, y4, y5, y6⟩ := hY
  obtain ⟨ci, fs, q, o1, o2, o3⟩ := hO
  intro ok H locs ls hP hS hl
  obtain ⟨x1, x2, x3, x4, x5, x6, x7, x8, x9, x10, x11, x12⟩ := ok
  have hB : CallB R s args own idx y c2 nL2 ret2 (Cond.code y c2 nL2 ret2 :: zGT) (zrm f2) 0 0 n := callB_of n x5 (zGood y1) rfl rfl rfl (x5 _ y2) (x5 _ hlk) ⟨y3, y4, y5⟩ ⟨by show f2 + 1 ≤ R.frames; omega, by show 8 + (nL2 + 11) + 40 * f2 ≤ R.locals; omega⟩
  have hrv := va_recv x6 hP o2 (zw_at o1)
  rw [o3] at hrv
  have hrun := va_runV (e := e) (below := below) (meth := meth) (locs := locs) (cells := 0) (slots := 0) (g := F0 m pc ls st) (rest := rest) ⟨x1, x2, x3, x4, x5⟩ (hM x7) ⟨hB, x5 _ hv.1, x5 _ hv.2⟩ ⟨zBlind, hrv, fun U hU hW => ⟨rfl, by rw [hU]; exact hP, va_K.moved hW.alike x6, zHx_go hW hU hS x12⟩⟩ rfl hn hl.1 hst (lv_room hr) hd ⟨Nat.zero_le _, Nat.zero_le _⟩
  exact z_go hrun hS (fun H1 locs1 hP1 hS1 => kk ⟨x1, x2, x3, x4, x5, x6, x7, x8, x9, x10, x11, x12⟩ H1 locs1 ls hP1 hS1 hl)
theorem z_callS {f2 idx n nL2 : Nat} {y : MethodName} {c2 : ByteArray} {ret2 : Option FieldType} {As : List Value} {st : List Value} {ro2 : Int32 × zS} (hM : zM E sh f2 y c2 nL2 ret2 As t ro2) (hY : zY y c2 nL2 ret2 n) (hv : Cond.static y ∈ zGT) (hlk : Cond.methodLink own idx y ∈ zGT) (hf : f2 + 1 ≤ f) (hn : As.length = n) (hst : st = As.reverse ++ rest) (hr : (rest.map fun v => v.category).sum ≤ 8) (hd : decode cc pc = .ok (.invokestatic idx, 3))
    (kk : zJ E sh C cc own nL f ret ro ro2.2 (pc + 3) lv (zres ret2 ro2.1 ++ rest)) : zJ E sh C cc own nL f ret ro t pc lv st := by
  obtain ⟨p, e, s, m, args, below, meth, c, R⟩ := C
  obtain ⟨y1, y2, y3, y4, y5, y6⟩ := hY
  intro ok H locs ls hP hS hl
  obtain ⟨x1, x2, x3, x4, x5, x6, x7, x8, x9, x10, x11, x12⟩ := ok
  have hB : CallB R s args own idx y c2 nL2 ret2 (Cond.code y c2 nL2 ret2 :: zGT) (zrm f2) 0 0 n := callB_of n x5 (zGood y1) rfl rfl rfl (x5 _ y2) (x5 _ hlk) ⟨y3, y4, y5⟩ ⟨by show f2 + 1 ≤ R.frames; omega, by show 8 + (nL2 + 11) + 40 * f2 ≤ R.locals; omega⟩
  have hrun := va_runS (e := e) (below := below) (meth := meth) (locs := locs) (cells := 0) (slots := 0) (g := F0 m pc ls st) (rest := rest) ⟨x1, x2, x3, x4, x5⟩ (hM x7) ⟨hB, x5 _ hv⟩ ⟨zBlind, fun U hU hW => ⟨rfl, by rw [hU]; exact hP, va_K.moved hW.alike x6, zHx_go hW hU hS x12⟩⟩ rfl hn hl.1 hst (lv_room hr) hd ⟨Nat.zero_le _, Nat.zero_le _⟩
  exact z_go hrun hS (fun H1 locs1 hP1 hS1 => kk ⟨x1, x2, x3, x4, x5, x6, x7, x8, x9, x10, x11, x12⟩ H1 locs1 ls hP1 hS1 hl)
theorem z_tabIn {dflt lo hi : Int} {offs : Array Int} {len : Nat} {x : Int32} {off : Int} {tgt : Nat} (hd : decode cc pc = .ok (.tableswitch dflt lo hi offs, len)) (h1 : ¬ x.toInt < lo) (h2 : ¬ hi < x.toInt) (ho : offs[(x.toInt - lo).toNat]? = some off) (ht : (pc : Int) + off = (tgt : Int)) (k : zJ E sh C cc own nL f ret ro t tgt lv rest) : zJ E sh C cc own nL f ret ro t pc lv (.int x :: rest) := by
  obtain ⟨p, e, s, m, args, below, meth, c, R⟩ := C
  exact fun ok H locs ls hP hS hl => lv_tableIn ok.1 ok.2.1 hd h1 h2 ho ht (k ok H locs ls hP hS hl)
theorem z_tabOut {dflt lo hi : Int} {offs : Array Int} {len : Nat} {x : Int32} {tgt : Nat} (hd : decode cc pc = .ok (.tableswitch dflt lo hi offs, len)) (h : x.toInt < lo ∨ hi < x.toInt) (ht : (pc : Int) + dflt = (tgt : Int)) (k : zJ E sh C cc own nL f ret ro t tgt lv rest) : zJ E sh C cc own nL f ret ro t pc lv (.int x :: rest) := by
  obtain ⟨p, e, s, m, args, below, meth, c, R⟩ := C
  exact fun ok H locs ls hP hS hl => lv_tableOut ok.1 ok.2.1 hd h ht (k ok H locs ls hP hS hl)
theorem z_lookup {dflt : Int} {ps : Array (Int × Int)} {len : Nat} {x : Int32} {off : Int} {tgt : Nat} (hd : decode cc pc = .ok (.lookupswitch dflt ps, len)) (hp : (ps.toList.zip (ps.toList.drop 1)).all (fun (a, next) => a.1 < next.1) = true) (ho : Op.lookupswitch.offset ps.toList dflt x.toInt = off) (ht : (pc : Int) + off = (tgt : Int)) (k : zJ E sh C cc own nL f ret ro t tgt lv rest) : zJ E sh C cc own nL f ret ro t pc lv (.int x :: rest) := by
  obtain ⟨p, e, s, m, args, below, meth, c, R⟩ := C
  exact fun ok H locs ls hP hS hl => lv_lookup ok.1 ok.2.1 hd hp ho ht (k ok H locs ls hP hS hl)
theorem z_max {idx : Nat} {x y : Int32} (hlk : Cond.methodLink own idx Lib.Math.max.name ∈ zGT) (w1 : Cond.static Lib.Math.max.name ∈ zGT) (w2 : Cond.initialized "java/lang/Math" ∈ zGT) (w3 : Cond.code Lib.Math.max.name Lib.Math.max.code 2 (some .int) ∈ zGT) (hf : 1 ≤ f) (hr : (rest.map fun v => v.category).sum ≤ 8) (hd : decode cc pc = .ok (.invokestatic idx, 3)) (kk : zJ E sh C cc own nL f ret ro t (pc + 3) lv (.int (if x < y then y else x) :: rest)) : zJ E sh C cc own nL f ret ro t pc lv (.int y :: .int x :: rest) := by
  obtain ⟨p, e, s, m, args, below, meth, c, R⟩ := C
  intro ok H locs ls hP hS hl
  have ok0 := ok
  obtain ⟨x1, x2, x3, x4, x5, x6, x7, x8, x9, x10, x11, x12⟩ := ok
  exact va_mmax x1 x2 (x3.trans hl.1.symm) x4 (x5 _ hlk) (x5 _ w1) (x5 _ w2) (x5 _ w3) (by omega) (by omega) (Nat.zero_le _) (Nat.zero_le _) hd (kk ok0 H locs ls hP hS hl)
theorem z_min {idx : Nat} {x y : Int32} (hlk : Cond.methodLink own idx Lib.Math.min.name ∈ zGT) (w1 : Cond.static Lib.Math.min.name ∈ zGT) (w2 : Cond.initialized "java/lang/Math" ∈ zGT) (w3 : Cond.code Lib.Math.min.name Lib.Math.min.code 2 (some .int) ∈ zGT) (hf : 1 ≤ f) (hr : (rest.map fun v => v.category).sum ≤ 8) (hd : decode cc pc = .ok (.invokestatic idx, 3)) (kk : zJ E sh C cc own nL f ret ro t (pc + 3) lv (.int (if y < x then y else x) :: rest)) : zJ E sh C cc own nL f ret ro t pc lv (.int y :: .int x :: rest) := by
  obtain ⟨p, e, s, m, args, below, meth, c, R⟩ := C
  intro ok H locs ls hP hS hl
  have ok0 := ok
  obtain ⟨x1, x2, x3, x4, x5, x6, x7, x8, x9, x10, x11, x12⟩ := ok
  exact va_mmin x1 x2 (x3.trans hl.1.symm) x4 (x5 _ hlk) (x5 _ w1) (x5 _ w2) (x5 _ w3) (by omega) (by omega) (Nat.zero_le _) (Nat.zero_le _) hd (kk ok0 H locs ls hP hS hl)
theorem z_callVi {f2 idx k n nL2 : Nat} {y : MethodName} {c2 : ByteArray} {ty : FieldType} {As : List Value} {st : List Value} {r2 : Int32} {t2 : zS} (hM : zM E sh f2 y c2 nL2 (some ty) (.ref (za E k) :: As) t (r2, t2)) (hY : zY y c2 nL2 (some ty) n) (hv : zYv y) (hO : zObj sh k y.cls) (hlk : Cond.methodLink own idx y ∈ zGT) (hf : f2 + 1 ≤ f) (hn : As.length = n) (hst : st = As.reverse ++ .ref (za E k) :: rest) (hr : (rest.map fun v => v.category).sum ≤ 8) (hd : decode cc pc = .ok (.invokevirtual idx, 3)) (kk : zJ E sh C cc own nL f ret ro t2 (pc + 3) lv (.int r2 :: rest)) : zJ E sh C cc own nL f ret ro t pc lv st := z_callV hM hY hv hO hlk hf hn hst hr hd kk
theorem z_callVv {f2 idx k n nL2 : Nat} {y : MethodName} {c2 : ByteArray} {As : List Value} {st : List Value} {r2 : Int32} {t2 : zS} (hM : zM E sh f2 y c2 nL2 none (.ref (za E k) :: As) t (r2, t2)) (hY : zY y c2 nL2 none n) (hv : zYv y) (hO : zObj sh k y.cls) (hlk : Cond.methodLink own idx y ∈ zGT) (hf : f2 + 1 ≤ f) (hn : As.length = n) (hst : st = As.reverse ++ .ref (za E k) :: rest) (hr : (rest.map fun v => v.category).sum ≤ 8) (hd : decode cc pc = .ok (.invokevirtual idx, 3)) (kk : zJ E sh C cc own nL f ret ro t2 (pc + 3) lv rest) : zJ E sh C cc own nL f ret ro t pc lv st := z_callV hM hY hv hO hlk hf hn hst hr hd kk
theorem z_callSi {f2 idx n nL2 : Nat} {y : MethodName} {c2 : ByteArray} {ty : FieldType} {As : List Value} {st : List Value} {r2 : Int32} {t2 : zS} (hM : zM E sh f2 y c2 nL2 (some ty) As t (r2, t2)) (hY : zY y c2 nL2 (some ty) n) (hv : Cond.static y ∈ zGT) (hlk : Cond.methodLink own idx y ∈ zGT) (hf : f2 + 1 ≤ f) (hn : As.length = n) (hst : st = As.reverse ++ rest) (hr : (rest.map fun v => v.category).sum ≤ 8) (hd : decode cc pc = .ok (.invokestatic idx, 3)) (kk : zJ E sh C cc own nL f ret ro t2 (pc + 3) lv (.int r2 :: rest)) : zJ E sh C cc own nL f ret ro t pc lv st := z_callS hM hY hv hlk hf hn hst hr hd kk
/-- a stretch of an array onto another stretch of it -/
def zcp (t : zS) (k a b m : Nat) : zS := fun k' j => if k' = k then va_cpy (t k) (t k) a b m j else t k' j
theorem zw_cpy {adr : Nat → Nat} {ca : Nat → ClassId} {sh : zSh} {t : zS} {k y n a b m : Nat} (h : sh[k]? = some (.inl (y, n))) : (zw adr ca sh t).set k (adr k, .inl (ca y, n, .inl (va_cpy (t k) (t k) a b m))) = zw adr ca sh (zcp t k a b m) := by
  apply zw_ext (k := 0)
  · simp [zw]
  · intro i x hx
    rw [List.getElem?_set]
    by_cases hik : k = i
    · subst hik
      have hz : x = .inl (y, n) := Option.some.inj (hx.symm.trans h)
      subst hz
      rw [if_pos rfl, if_pos (by simp [zw]; exact zlt h)]
      have e : va_cpy (t k) (t k) a b m = zcp t k a b m k := by funext q; simp [zcp]
      simp only [zcell, e]
    · rw [if_neg hik, zw_at hx]
      have e : zcp t k a b m i = t i := by funext b; exact if_neg (fun e => hik (Eq.symm e))
      congr 1
      cases x with
      | inl q => simp only [zcell, e]
      | inr q => simp only [zcell, e]
def zcOK (n : Nat) (a b m : Int32) : Prop := 0 ≤ a ∧ 0 ≤ b ∧ 0 ≤ m ∧ a.toNatClampNeg + m.toNatClampNeg ≤ n ∧ b.toNatClampNeg + m.toNatClampNeg ≤ n
theorem z_acopy {idx k n : Nat} {a b m : Int32} (h1 : sh[k]? = some (.inl (0, n))) (hc : zcOK n a b m) (hlk : Cond.methodLink own idx arraycopyName ∈ zGT) (w0 : Cond.native arraycopyName ∈ zGT) (w1 : Cond.static arraycopyName ∈ zGT) (w2 : Cond.initialized "java/lang/System" ∈ zGT) (hf : 1 ≤ f) (hr : (rest.map fun v => v.category).sum ≤ 8) (hd : decode cc pc = .ok (.invokestatic idx, 3)) (kk : ∀ t2 : zS, t2 = zcp t k a.toNatClampNeg b.toNatClampNeg m.toNatClampNeg → zJ E sh C cc own nL f ret ro t2 (pc + 3) lv rest) : zJ E sh C cc own nL f ret ro t pc lv (.int m :: .int b :: .ref (za E k) :: .int a :: .ref (za E k) :: rest) := by
  obtain ⟨p, e, s, mm, args, below, meth, c, R⟩ := C
  intro ok H locs ls hP hS hl
  have ok0 := ok
  obtain ⟨x1, x2, x3, x4, x5, x6, x7, x8, x9, x10, x11, x12⟩ := ok
  obtain ⟨c1, c2, c3, c4, c5⟩ := hc
  have hw : nativeFrameWords "java/lang/System" "arraycopy" 5 + 11 ≤ 32 := by decide
  exact va_copyi (f := t k) (g := t k) (ty := .int) x1 x2 (x3.trans hl.1.symm) x4 (x5 _ hlk) (x5 _ w0) (x5 _ w1) (x5 _ w2) x6 hP (zw_D x7) hS k k 0 0 (zw_at h1) (zw_at h1) rfl rfl rfl (Int32.not_lt.mpr c1) (Int32.not_lt.mpr c2) (Int32.not_lt.mpr c3) c4 c5 (fun _ _ => rfl) (by omega) (by omega) hd
    (fun H1 locs1 hP1 _ hS1 => kk _ rfl ok0 H1 locs1 ls (by rw [← zw_cpy h1]; exact hP1) hS1 hl)
end ZCALLS2
/-! the words of the printed functions -/
abbrev zR : Type := Option (Int32 × zS)
def zFU : Nat := 1000000
def zlet {a b : Type} (x : a) (k : a → b) : b := k x
def zbd (o : zR) (k : Int32 → zS → zR) : zR := match o with
  | none => none
  | some q => k q.1 q.2
def zrd (t : zS) (c n : Nat) (i : Int32) (k : Int32 → zR) : zR := if 0 ≤ i ∧ i.toNatClampNeg < n then k (t c i.toNatClampNeg) else none
def zwr (t : zS) (c n : Nat) (i v : Int32) (k : zS → zR) : zR := if 0 ≤ i ∧ i.toNatClampNeg < n then k (zu t c i.toNatClampNeg v) else none
def zpt (t : zS) (c j : Nat) (v : Int32) (k : zS → zR) : zR := k (zu t c j v)
def zck (p : Prop) (d : Decidable p) (k : zR) : zR := if p then k else none
def z01 (v : Int32) (k : zR) : zR := if v = 0 ∨ v = 1 then k else none
def znz (v : Int32) (k : zR) : zR := if v = 0 then none else k
theorem zlet_at {a : Type} {x y : a} {k : a → zR} {o : zR} (h : y = x) (hF : zlet x k = o) : k y = o := by subst h; exact hF
theorem zbd_at {o : zR} {k : Int32 → zS → zR} {ro : Int32 × zS} (h : zbd o k = some ro) : ∃ (r : Int32) (t : zS), o = some (r, t) ∧ k r t = some ro := by
  cases o with
  | none => cases h
  | some q => exact ⟨q.1, q.2, rfl, h⟩
theorem zrd_at {t : zS} {c n : Nat} {i : Int32} {k : Int32 → zR} {ro : Int32 × zS} (h : zrd t c n i k = some ro) : zin i n ∧ k (t c i.toNatClampNeg) = some ro := by
  unfold zrd at h
  by_cases q : 0 ≤ i ∧ i.toNatClampNeg < n
  · rw [if_pos q] at h; exact ⟨q, h⟩
  · rw [if_neg q] at h; cases h
theorem zwr_at {t : zS} {c n : Nat} {i v : Int32} {k : zS → zR} {ro : Int32 × zS} (h : zwr t c n i v k = some ro) : zin i n ∧ ∀ t2, t2 = zu t c i.toNatClampNeg v → k t2 = some ro := by
  unfold zwr at h
  by_cases q : 0 ≤ i ∧ i.toNatClampNeg < n
  · rw [if_pos q] at h; exact ⟨q, fun _ e => by rw [e]; exact h⟩
  · rw [if_neg q] at h; cases h
theorem zpt_at {t : zS} {c j : Nat} {v : Int32} {k : zS → zR} {ro : Int32 × zS} (h : zpt t c j v k = some ro) : ∀ t2, t2 = zu t c j v → k t2 = some ro := fun _ e => by rw [e]; exact h
theorem z01_at {v : Int32} {k : zR} {ro : Int32 × zS} (h : z01 v k = some ro) : (v = 0 ∨ v = 1) ∧ k = some ro := by
  unfold z01 at h
  by_cases q : v = 0 ∨ v = 1
  · rw [if_pos q] at h; exact ⟨q, h⟩
  · rw [if_neg q] at h; cases h
theorem znz_at {v : Int32} {k : zR} {ro : Int32 × zS} (h : znz v k = some ro) : ¬ v = 0 ∧ k = some ro := by
  unfold znz at h
  by_cases q : v = 0
  · rw [if_pos q] at h; cases h
  · rw [if_neg q] at h; exact ⟨q, h⟩
theorem zif_t {p : Prop} {d : Decidable p} {a b o : zR} (h : p) (hF : (@ite _ p d a b) = o) : a = o := by rw [if_pos h] at hF; exact hF
theorem zif_f {p : Prop} {d : Decidable p} {a b o : zR} (h : ¬ p) (hF : (@ite _ p d a b) = o) : b = o := by rw [if_neg h] at hF; exact hF
def zac (t : zS) (k n : Nat) (a b m : Int32) (c : zS → zR) : zR := if 0 ≤ a ∧ 0 ≤ b ∧ 0 ≤ m ∧ a.toNatClampNeg + m.toNatClampNeg ≤ n ∧ b.toNatClampNeg + m.toNatClampNeg ≤ n then c (zcp t k a.toNatClampNeg b.toNatClampNeg m.toNatClampNeg) else none
theorem zac_at {t : zS} {k n : Nat} {a b m : Int32} {c : zS → zR} {ro : Int32 × zS} (h : zac t k n a b m c = some ro) : zcOK n a b m ∧ ∀ t2, t2 = zcp t k a.toNatClampNeg b.toNatClampNeg m.toNatClampNeg → c t2 = some ro := by
  unfold zac at h
  by_cases q : 0 ≤ a ∧ 0 ≤ b ∧ 0 ≤ m ∧ a.toNatClampNeg + m.toNatClampNeg ≤ n ∧ b.toNatClampNeg + m.toNatClampNeg ≤ n
  · rw [if_pos q] at h; exact ⟨q, fun _ e => by rw [e]; exact h⟩
  · rw [if_neg q] at h; cases h
