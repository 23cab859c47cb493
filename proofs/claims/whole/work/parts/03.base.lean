/-! A store of ints over a fixed graph of cells, and the machine's judgement over it -/
def zGT : List Cond := lw_tbl.filter goodWord
theorem zGT_mem {w : Cond} (i : Nat) (h : lw_tbl[i]? = some w) (g : goodWord w = true) : w ∈ zGT := List.mem_filter.mpr ⟨List.mem_of_getElem? h, g⟩
theorem zGT_good {w : Cond} (h : w ∈ zGT) : (w.onTables && w.keeps) = true ∨ ∃ ty, w = .arrayClass ty := good_of_word (List.mem_filter.mp h).2
theorem zGT_lw {w : Cond} (h : w ∈ zGT) : w ∈ lw_tbl := (List.mem_filter.mp h).1
theorem zGT_all {ws : List Cond} (ps : List Nat) (h : ps.map (fun i => lw_tbl[i]?) = ws.map some) (g : ws.all goodWord = true) : ∀ w ∈ ws, w ∈ zGT := by
  intro w hw
  have h1 : some w ∈ ws.map some := List.mem_map.mpr ⟨w, hw, rfl⟩
  rw [← h] at h1
  obtain ⟨i, -, hi⟩ := List.mem_map.mp h1
  exact zGT_mem i hi (List.all_eq_true.mp g w hw)
abbrev zcl : List vw_C := [(RX0, TX0, 10), (RX1, TX1, 7), (RX2, TX2, 16), (RX3, TX3, 9), (RX4, TX4, 17), (RX5, TX5, 1), (RX6, TX6, 11), (RX7, TX7, 15), (RX8, TX8, 18), (RX9, TX9, 17), (RX10, TX10, 7), (RX11, TX11, 10), (RX12, TX12, 110)]
abbrev zS : Type := Nat → Nat → Int32
abbrev zCe : Type := (Nat × Nat) ⊕ (Nat × List (Option Nat))
abbrev zSh : Type := List zCe
def zu (t : zS) (k j : Nat) (v : Int32) : zS := fun k' j' => if k' = k ∧ j' = j then v else t k' j'
theorem zu_same (t : zS) (k j : Nat) (v : Int32) : zu t k j v k j = v := by simp [zu]
theorem zu_ne1 {t : zS} {k j k' j' : Nat} {v : Int32} (h : k' ≠ k) : zu t k j v k' j' = t k' j' := by simp [zu, h]
theorem zu_ne2 {t : zS} {k j k' j' : Nat} {v : Int32} (h : j' ≠ j) : zu t k j v k' j' = t k' j' := by simp [zu, h]
def zval (adr : Nat → Nat) (f : Nat → Int32) (j : Nat) (r : Option Nat) : Value := match r with
  | none => .int (f j)
  | some k => .ref (adr k)
def zcell (adr : Nat → Nat) (ca : Nat → ClassId) (t : zS) (k : Nat) (x : zCe) : Nat × va_E := match x with
  | .inl q => (adr k, .inl (ca q.1, q.2, .inl (t k)))
  | .inr q => (adr k, .inr (q.1, q.2.mapIdx (zval adr (t k))))
def zw (adr : Nat → Nat) (ca : Nat → ClassId) (sh : zSh) (t : zS) : va_W := sh.mapIdx (zcell adr ca t)
theorem zw_at {adr : Nat → Nat} {ca : Nat → ClassId} {sh : zSh} {t : zS} {k : Nat} {x : zCe} (h : sh[k]? = some x) : (zw adr ca sh t)[k]? = some (zcell adr ca t k x) := by
  simp [zw, List.getElem?_mapIdx, h]
theorem zw_of {adr : Nat → Nat} {ca : Nat → ClassId} {sh : zSh} {t : zS} {k : Nat} {q : Nat × va_E} (h : (zw adr ca sh t)[k]? = some q) : ∃ x, sh[k]? = some x ∧ q = zcell adr ca t k x := by
  simp only [zw, List.getElem?_mapIdx] at h
  cases hx : sh[k]? with
  | none => rw [hx] at h; cases h
  | some x => rw [hx] at h; exact ⟨x, rfl, (Option.some.inj h).symm⟩
theorem zcell_adr {adr : Nat → Nat} {ca : Nat → ClassId} {t : zS} {k : Nat} {x : zCe} : (zcell adr ca t k x).1 = adr k := by cases x <;> rfl
theorem zw_ext {adr : Nat → Nat} {ca : Nat → ClassId} {sh : zSh} {t : zS} {k : Nat} {w : va_W} (hl : w.length = sh.length) (h : ∀ i x, sh[i]? = some x → w[i]? = some (zcell adr ca t i x)) : w = zw adr ca sh t := by
  apply List.ext_getElem?
  intro i
  cases hx : sh[i]? with
  | none =>
    have h1 : sh.length ≤ i := List.getElem?_eq_none_iff.mp hx
    rw [List.getElem?_eq_none_iff.mpr (by omega), List.getElem?_eq_none_iff.mpr (by simp [zw]; exact h1)]
  | some x => rw [h i x hx, zw_at hx]
def zA (adr : Nat → Nat) (sh : zSh) : Nat → Prop := fun q => ∃ k, k < sh.length ∧ adr k = q
def zinj (adr : Nat → Nat) (sh : zSh) : Prop := ∀ i j, i < sh.length → j < sh.length → adr i = adr j → i = j
theorem zlt {sh : zSh} {k : Nat} {x : zCe} (h : sh[k]? = some x) : k < sh.length := (List.getElem?_eq_some_iff.mp h).1
theorem zw_D {adr : Nat → Nat} {ca : Nat → ClassId} {sh : zSh} {t : zS} (hi : zinj adr sh) : va_D (zA adr sh) (zw adr ca sh t) := by
  constructor
  · intro i j p q hp hq he
    obtain ⟨x, hx, rfl⟩ := zw_of hp
    obtain ⟨y, hy, rfl⟩ := zw_of hq
    rw [zcell_adr, zcell_adr] at he
    exact hi i j (zlt hx) (zlt hy) he
  · intro k q hq
    obtain ⟨x, hx, rfl⟩ := zw_of hq
    exact ⟨k, zlt hx, zcell_adr.symm⟩
/-- an array's cell written -/
theorem zw_setA {adr : Nat → Nat} {ca : Nat → ClassId} {sh : zSh} {t : zS} {k a n j : Nat} {v : Int32} (h : sh[k]? = some (.inl (a, n))) : (zw adr ca sh t).set k (adr k, .inl (ca a, n, .inl (upd (t k) j v))) = zw adr ca sh (zu t k j v) := by
  apply zw_ext (k := 0)
  · simp [zw]
  · intro i x hx
    rw [List.getElem?_set]
    by_cases hik : k = i
    · subst hik
      have hz : x = .inl (a, n) := Option.some.inj (hx.symm.trans h)
      subst hz
      rw [if_pos rfl, if_pos (by simp [zw]; exact zlt h)]
      have e : upd (t k) j v = zu t k j v k := by funext q; simp [upd, zu]
      simp only [zcell, e]
    · rw [if_neg hik, zw_at hx]
      have e : zu t k j v i = t i := by funext b; exact zu_ne1 (fun e => hik e.symm)
      congr 1
      cases x with
      | inl q => simp only [zcell, e]
      | inr q => simp only [zcell, e]
theorem zset_mapIdx {adr : Nat → Nat} {f : Nat → Int32} {fs : List (Option Nat)} {j : Nat} {v : Int32} (h : fs[j]? = some none) : (fs.mapIdx (zval adr f)).set j (.int v) = fs.mapIdx (zval adr (fun q => if q = j then v else f q)) := by
  apply List.ext_getElem?
  intro i
  rw [List.getElem?_set]
  by_cases hij : j = i
  · subst hij
    have hl : j < fs.length := (List.getElem?_eq_some_iff.mp h).1
    rw [if_pos rfl, if_pos (by simpa using hl), List.getElem?_mapIdx, h]
    simp [zval]
  · rw [if_neg hij, List.getElem?_mapIdx, List.getElem?_mapIdx]
    cases fs[i]? with
    | none => rfl
    | some r =>
      cases r with
      | none =>
        have : ¬ i = j := fun e => hij e.symm
        simp [zval, this]
      | some q => rfl
/-- an object's int field written -/
theorem zw_setO {adr : Nat → Nat} {ca : Nat → ClassId} {sh : zSh} {t : zS} {k ci j : Nat} {fs : List (Option Nat)} {v : Int32} (h : sh[k]? = some (.inr (ci, fs))) (hj : fs[j]? = some none) : (zw adr ca sh t).set k (adr k, .inr (ci, (fs.mapIdx (zval adr (t k))).set j (.int v))) = zw adr ca sh (zu t k j v) := by
  rw [zset_mapIdx hj]
  apply zw_ext (k := 0)
  · simp [zw]
  · intro i x hx
    rw [List.getElem?_set]
    by_cases hik : k = i
    · subst hik
      have hz : x = .inr (ci, fs) := Option.some.inj (hx.symm.trans h)
      subst hz
      rw [if_pos rfl, if_pos (by simp [zw]; exact zlt h)]
      have e : (fun q => if q = j then v else t k q) = zu t k j v k := by funext q; simp [zu]
      simp only [zcell, e]
    · rw [if_neg hik, zw_at hx]
      have e : zu t k j v i = t i := by funext b; exact zu_ne1 (fun e => hik e.symm)
      congr 1
      cases x with
      | inl q => simp only [zcell, e]
      | inr q => simp only [zcell, e]
def zrm (f : Nat) : Room := { frames := f, cells := 0, slots := 0, locals := 40 * f }
/-- launch, classes and slots, classes of arrays, addresses of the cells, of the two String constants and of their bytes -/
abbrev zE : Type := Launch × va_G × (Nat → ClassId) × (Nat → Nat) × (Nat → Nat) × (Nat → Nat)
abbrev zC : Type := Program × Env × State × MethodId × Array Value × List Frame × Method × Code × Room
def za (E : zE) (k : Nat) : Nat := E.2.2.2.1 k
def zsb (w : Nat) : List Int32 := if w = 0 then [116, 121, 112, 101, 32, 112, 114, 111, 99, 32, 115, 101, 110, 100, 32, 114, 101, 99, 118, 32, 112, 97, 115, 115, 32, 116, 97, 107, 101, 32, 112, 105, 99, 107, 32, 99, 97, 115, 101, 32, 115, 112, 97, 119, 110, 32, 98, 101, 99, 111, 109, 101, 32, 105, 102, 32, 101, 108, 115, 101, 32, 119, 104, 105, 108, 101, 32, 112, 117, 116, 32, 103, 101, 116, 32, 105, 110, 116, 32, 101, 110, 100, 32, 109, 97, 105, 110, 32] else [59, 61, 40, 41, 123, 125, 44, 58, 33, 63, 43, 38, 126, 45, 42, 47, 37, 60]
def zbyt : List (List Int32) := [zsb 0, zsb 1]
def zlen : List Nat := [88, 18]
def ztx0 : String := "type proc send recv pass take pick case spawn become if else while put get int end main "
def ztx1 : String := ";=(){},:!?+&~-*/%<"
/-- the two String constants, as the start has them, outside of our cells; and the two statics that the JDK's methods read -/
def zHx (E : zE) (sh : zSh) (U : State) : Prop := vk_R RX10 75 ztx0 (E.2.2.2.2.1 0) U ∧ vk_R RX10 90 ztx1 (E.2.2.2.2.1 1) U ∧ vk_S 2 zlen zbyt E.2.2.2.2.1 E.2.2.2.2.2 (zA E.2.2.2.1 sh) U U.heap ∧ va_Z "java/lang/String" "COMPACT_STRINGS" "Z" (.int 1) (zA E.2.2.2.1 sh) U U.heap ∧ va_Zq "jdk/internal/util/Preconditions" "SIOOBE_FORMATTER" "Ljava/util/function/BiFunction;" (zA E.2.2.2.1 sh) U U.heap
theorem zHx_go {E : zE} {sh : zSh} {s U : State} {H : Heap} {locs : List Loc} (hW : s.WarmedH U.vm) (hH : U.heap = H) (hS : va_S (zA E.2.2.2.1 sh) s.heap H locs) (h : zHx E sh s) : zHx E sh U := by
  obtain ⟨h1, h2, h3, h4, h5⟩ := h
  refine ⟨vk_R.warm hW h1, vk_R.warm hW h2, ?_, ?_, ?_⟩
  · rw [hH]; exact (h3.moved hW.alike).kept hS.2.1
  · rw [hH]; exact (h4.moved hW.alike).kept hS.2.1
  · rw [hH]; exact (h5.moved hW.alike).kept hS.2.1
theorem zHx_same {E : zE} {sh : zSh} {u U : State} (hv : U.vm = u.vm) (hh : U.heap = u.heap) (h : zHx E sh u) : zHx E sh U := by
  obtain ⟨h1, h2, h3, h4, h5⟩ := h
  have al : u.vm.Alike U.vm := by rw [hv]; exact Vm.Alike.refl u.vm
  refine ⟨vk_R.same hv h1, vk_R.same hv h2, ?_, ?_, ?_⟩
  · rw [hh]; exact h3.moved al
  · rw [hh]; exact h4.moved al
  · rw [hh]; exact h5.moved al
def ztys (ca : Nat → ClassId) : List (ClassId × FieldType) := [(ca 0, .int), (ca 1, .boolean)]
def zQ (E : zE) (sh : zSh) (ret : Option FieldType) (ro : Int32 × zS) : Array Value → State → Outcome → State → Prop := fun _ st oc t =>
  (oc = .returned (ret.map fun _ => .int ro.1) ∧ va_P E.2.1 zcl (zw E.2.2.2.1 E.2.2.1 sh ro.2) t.heap) ∧ va_F (zA E.2.2.2.1 sh) st t
/-- a method's contract: from the store t with these arguments it returns ro.1, the store is ro.2 -/
def zM (E : zE) (sh : zSh) (f : Nat) (y : MethodName) (cc : ByteArray) (nL : Nat) (ret : Option FieldType) (vs : List Value) (t : zS) (ro : Int32 × zS) : Prop :=
  zinj E.2.2.2.1 sh → Met E.1 y (Cond.code y cc nL ret :: zGT) (zrm f) (va_Pc vs (fun U => va_P E.2.1 zcl (zw E.2.2.2.1 E.2.2.1 sh t) U.heap ∧ va_K E.2.1 zcl (ztys E.2.2.1) U ∧ zHx E sh U)) (zQ E sh ret ro) 0 0 (zA E.2.2.2.1 sh)
def zok (E : zE) (sh : zSh) (C : zC) (cc : ByteArray) (own : String) (nL f : Nat) (ret : Option FieldType) : Prop := match C with
  | (p, _, s, m, args, _, meth, c, R) => p.tables.exec = Jvm.exec ∧ c.code = cc ∧ c.maxLocals = nL ∧ s.vm.findClass own = some m.cls ∧ (∀ w ∈ zGT, w.before args s = true) ∧ va_K E.2.1 zcl (ztys E.2.2.1) s ∧ zinj E.2.2.2.1 sh ∧ meth.sig.returnType = ret ∧ meth.locks = false ∧ f ≤ R.frames ∧ 40 * f ≤ R.locals ∧ zHx E sh s
def zJ (E : zE) (sh : zSh) (C : zC) (cc : ByteArray) (own : String) (nL f : Nat) (ret : Option FieldType) (ro : Int32 × zS) (t : zS) (pc : Nat) (lv : List (Nat × Value)) (st : List Value) : Prop := match C with
  | (p, e, s, m, args, below, meth, c, R) => zok E sh C cc own nL f ret → ∀ (H : Heap) (locs : List Loc) (ls : Array Slot), va_P E.2.1 zcl (zw E.2.2.2.1 E.2.2.1 sh t) H → va_S (zA E.2.2.2.1 sh) s.heap H locs → lv_has ls nL lv →
    W p E.1 e R s m args below meth c H locs 0 0 (MQ below (zQ E sh ret ro) args s 0 0 (zA E.2.2.2.1 sh)) (F0 m pc ls st)
/-- a contract out of a walk from the entry -/
theorem zM_of {E : zE} {sh : zSh} {f : Nat} {y : MethodName} {cc : ByteArray} {nL : Nat} {ret : Option FieldType} {vs : List Value} {t : zS} {ro : Int32 × zS} (hy : plainName y.cls = true) (hn : (lg_sl vs).length ≤ nL)
    (h : ∀ C : zC, zJ E sh C cc y.cls nL f ret ro t 0 (lv_args 0 vs) []) : zM E sh f y cc nL ret vs t ro := by
  intro hinj
  refine Met.ofW (cc := cc) (maxL := nL) (ret := ret) hy rfl ?_
  intro p e s m args below meth c s₁ B hml hv
  obtain ⟨rfl, hP, hK, hE⟩ := hv
  have hts := atoms_spec (ws := Cond.code y cc nL ret :: zGT) B.pre
  have hl := lv_entry vs (n := nL) hn
  rw [lg_entry_eq]
  exact h (p, e, s, m, vs.toArray, below, meth, c, (zrm f)) ⟨B.exec, B.bytes, hml, findClass_of_methodNamed B.named, fun w hw => hts w (List.mem_cons_of_mem _ hw), hK, hinj, B.returns, B.notSynchronized, Nat.le_refl f, Nat.le_refl _, hE⟩ s.heap [] _ hP va_S.rf hl
