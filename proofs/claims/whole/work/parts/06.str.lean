/-! the two String constants, and the JDK's own methods over them -/
def zsixF (c : Int32) : List Int32 → Nat → Int32
  | [], _ => -1
  | b :: l, k => if b = c then Int32.ofNat k else zsixF c l (k + 1)
/-- String.indexOf -/
def zsix (w : Nat) (c : Int32) : Int32 := zsixF c (zsb w) 0
def zsc (w : Nat) (i : Int32) (k : Int32 → zR) : zR := if 0 ≤ i ∧ i.toNatClampNeg < (zsb w).length then k ((zsb w).getD i.toNatClampNeg 0) else none
theorem zsc_at {w : Nat} {i : Int32} {k : Int32 → zR} {ro : Int32 × zS} (h : zsc w i k = some ro) : zin i (zsb w).length ∧ k ((zsb w).getD i.toNatClampNeg 0) = some ro := by
  unfold zsc at h
  by_cases q : 0 ≤ i ∧ i.toNatClampNeg < (zsb w).length
  · rw [if_pos q] at h; exact ⟨q, h⟩
  · rw [if_neg q] at h; cases h
def zsk (E : zE) (w : Nat) : Nat := E.2.2.2.2.1 w
def zsv (E : zE) (w : Nat) : Nat := E.2.2.2.2.2 w
theorem zlen_eq {w : Nat} (h : w < 2) : zlen.getD w 0 = (zsb w).length := by
  rcases (show w = 0 ∨ w = 1 by omega) with rfl | rfl <;> decide
theorem zbyt_eq {w : Nat} (h : w < 2) : zbyt.getD w [] = zsb w := by
  rcases (show w = 0 ∨ w = 1 by omega) with rfl | rfl <;> rfl
section ZSTR
variable {E : zE} {sh : zSh} {C : zC} {cc : ByteArray} {own : String} {nL f : Nat} {ret : Option FieldType} {ro : Int32 × zS} {t : zS} {pc : Nat} {lv : List (Nat × Value)} {rest : List Value}
theorem z_ldcS0 (ho : own = RX10) (hd : decode cc pc = .ok (.ldc 75, 2)) (kk : zJ E sh C cc own nL f ret ro t (pc + 2) lv (.ref (zsk E 0) :: rest)) : zJ E sh C cc own nL f ret ro t pc lv rest := by
  obtain ⟨p, e, s, m, args, below, meth, c, R⟩ := C
  subst ho
  exact fun ok H locs ls hP hS hl => va_ldcS ok.1 ok.2.1 ok.2.2.2.1 ok.2.2.2.2.2.2.2.2.2.2.2.1 hd (kk ok H locs ls hP hS hl)
theorem z_ldcS1 (ho : own = RX10) (hd : decode cc pc = .ok (.ldc 90, 2)) (kk : zJ E sh C cc own nL f ret ro t (pc + 2) lv (.ref (zsk E 1) :: rest)) : zJ E sh C cc own nL f ret ro t pc lv rest := by
  obtain ⟨p, e, s, m, args, below, meth, c, R⟩ := C
  subst ho
  exact fun ok H locs ls hP hS hl => va_ldcS ok.1 ok.2.1 ok.2.2.2.1 ok.2.2.2.2.2.2.2.2.2.2.2.2.1 hd (kk ok H locs ls hP hS hl)
theorem z_gets {idx : Nat} (hw : Cond.fieldLink own idx "java/lang/String" "COMPACT_STRINGS" "Z" ∈ zGT) (hd : decode cc pc = .ok (.getstatic idx, 3)) (kk : zJ E sh C cc own nL f ret ro t (pc + 3) lv (.int 1 :: rest)) : zJ E sh C cc own nL f ret ro t pc lv rest := by
  obtain ⟨p, e, s, m, args, below, meth, c, R⟩ := C
  exact fun ok H locs ls hP hS hl => va_gets ok.1 ok.2.1 ok.2.2.2.2.2.2.2.2.2.2.2.2.2.2.1 hS ok.2.2.2.1 (ok.2.2.2.2.1 _ hw) (fun _ h => h) hd (kk ok H locs ls hP hS hl)
theorem z_getq {idx : Nat} (hw : Cond.fieldLink own idx "jdk/internal/util/Preconditions" "SIOOBE_FORMATTER" "Ljava/util/function/BiFunction;" ∈ zGT) (hd : decode cc pc = .ok (.getstatic idx, 3)) (kk : ∀ v : Value, (v = .null ∨ ∃ q, v = .ref q) → zJ E sh C cc own nL f ret ro t (pc + 3) lv (v :: rest)) : zJ E sh C cc own nL f ret ro t pc lv rest := by
  obtain ⟨p, e, s, m, args, below, meth, c, R⟩ := C
  intro ok H locs ls hP hS hl
  rcases ok.2.2.2.2.2.2.2.2.2.2.2.2.2.2.2 with h | ⟨q, h⟩
  · exact va_gets ok.1 ok.2.1 h hS ok.2.2.2.1 (ok.2.2.2.2.1 _ hw) (fun _ h => h) hd (kk .null (Or.inl rfl) ok H locs ls hP hS hl)
  · exact va_gets ok.1 ok.2.1 h hS ok.2.2.2.1 (ok.2.2.2.2.1 _ hw) (fun _ h => h) hd (kk (.ref q) (Or.inr ⟨q, rfl⟩) ok H locs ls hP hS hl)
theorem z_sval {idx w : Nat} (hw2 : w < 2) (hw : Cond.fieldLink own idx "java/lang/String" "value" "[B" ∈ zGT) (hd : decode cc pc = .ok (.getfield idx, 3)) (kk : zJ E sh C cc own nL f ret ro t (pc + 3) lv (.ref (zsv E w) :: rest)) : zJ E sh C cc own nL f ret ro t pc lv (.ref (zsk E w) :: rest) := by
  obtain ⟨p, e, s, m, args, below, meth, c, R⟩ := C
  exact fun ok H locs ls hP hS hl => vk_getf ok.1 ok.2.1 (ok.2.2.2.2.2.2.2.2.2.2.2.2.2.1.1 w hw2).2.2.1 hS ok.2.2.2.1 (ok.2.2.2.2.1 _ hw) (fun _ h => h) hd (kk ok H locs ls hP hS hl)
theorem z_scod {idx w : Nat} (hw2 : w < 2) (hw : Cond.fieldLink own idx "java/lang/String" "coder" "B" ∈ zGT) (hd : decode cc pc = .ok (.getfield idx, 3)) (kk : zJ E sh C cc own nL f ret ro t (pc + 3) lv (.int 0 :: rest)) : zJ E sh C cc own nL f ret ro t pc lv (.ref (zsk E w) :: rest) := by
  obtain ⟨p, e, s, m, args, below, meth, c, R⟩ := C
  exact fun ok H locs ls hP hS hl => vk_getf ok.1 ok.2.1 (ok.2.2.2.2.2.2.2.2.2.2.2.2.2.1.1 w hw2).2.1 hS ok.2.2.2.1 (ok.2.2.2.2.1 _ hw) (fun _ h => h) hd (kk ok H locs ls hP hS hl)
theorem z_slenA {w : Nat} {v : Int32} (hw2 : w < 2) (hv : Int32.ofNat (zsb w).length = v) (hd : decode cc pc = .ok (.arraylength, 1)) (kk : zJ E sh C cc own nL f ret ro t (pc + 1) lv (.int v :: rest)) : zJ E sh C cc own nL f ret ro t pc lv (.ref (zsv E w) :: rest) := by
  obtain ⟨p, e, s, m, args, below, meth, c, R⟩ := C
  exact fun ok H locs ls hP hS hl => va_tlen ok.1 ok.2.1 (ok.2.2.2.2.2.2.2.2.2.2.2.2.2.1.1 w hw2).2.2.2 hS (by rw [zlen_eq hw2]; exact hv) hd (kk ok H locs ls hP hS hl)
theorem z_sld {w : Nat} {i : Int32} (hw2 : w < 2) (hi : zin i (zsb w).length) (hd : decode cc pc = .ok (.baload, 1)) (kk : zJ E sh C cc own nL f ret ro t (pc + 1) lv (.int ((zsb w).getD i.toNatClampNeg 0) :: rest)) : zJ E sh C cc own nL f ret ro t pc lv (.int i :: .ref (zsv E w) :: rest) := by
  obtain ⟨p, e, s, m, args, below, meth, c, R⟩ := C
  exact fun ok H locs ls hP hS hl => va_tb ok.1 ok.2.1 (ok.2.2.2.2.2.2.2.2.2.2.2.2.2.1.1 w hw2).2.2.2 hS (zin_vp (by rw [zlen_eq hw2]; exact hi)) (by rw [zbyt_eq hw2]) hd (kk ok H locs ls hP hS hl)
/-- a call of a String constant's method -/
theorem z_callVs {f2 idx w n nL2 : Nat} {y : MethodName} {c2 : ByteArray} {ty : FieldType} {As : List Value} {st : List Value} {r2 : Int32} {t2 : zS} (hw2 : w < 2) (hy : y.cls = "java/lang/String") (hM : zM E sh f2 y c2 nL2 (some ty) (.ref (zsk E w) :: As) t (r2, t2)) (hY : zY y c2 nL2 (some ty) n) (hv : zYv y) (hlk : Cond.methodLink own idx y ∈ zGT) (hf : f2 + 1 ≤ f) (hn : As.length = n) (hst : st = As.reverse ++ .ref (zsk E w) :: rest) (hr : (rest.map fun v => v.category).sum ≤ 8) (hd : decode cc pc = .ok (.invokevirtual idx, 3))
    (kk : zJ E sh C cc own nL f ret ro t2 (pc + 3) lv (.int r2 :: rest)) : zJ E sh C cc own nL f ret ro t pc lv st := by
  obtain ⟨p, e, s, m, args, below, meth, c, R⟩ := C
  obtain ⟨y1, y2, y3, y4, y5, y6⟩ := hY
  intro ok H locs ls hP hS hl
  have ok0 := ok
  obtain ⟨x1, x2, x3, x4, x5, x6, x7, x8, x9, x10, x11, x12⟩ := ok
  have hB : CallB R s args own idx y c2 nL2 (some ty) (Cond.code y c2 nL2 (some ty) :: zGT) (zrm f2) 0 0 n := callB_of n x5 (zGood y1) rfl rfl rfl (x5 _ y2) (x5 _ hlk) ⟨y3, y4, y5⟩ ⟨by show f2 + 1 ≤ R.frames; omega, by show 8 + (nL2 + 11) + 40 * f2 ≤ R.locals; omega⟩
  have hrv := vk_recv x12.2.2.1 hw2 hS
  rw [← hy] at hrv
  have hrun := va_runV (e := e) (below := below) (meth := meth) (locs := locs) (cells := 0) (slots := 0) (g := F0 m pc ls st) (rest := rest) ⟨x1, x2, x3, x4, x5⟩ (hM x7) ⟨hB, x5 _ hv.1, x5 _ hv.2⟩ ⟨zBlind, hrv, fun U hU hW => ⟨rfl, by rw [hU]; exact hP, va_K.moved hW.alike x6, zHx_go hW hU hS x12⟩⟩ rfl hn hl.1 hst (lv_room hr) hd ⟨Nat.zero_le _, Nat.zero_le _⟩
  exact z_go hrun hS (fun H1 locs1 hP1 hS1 => kk ok0 H1 locs1 ls hP1 hS1 hl)
theorem z_callSv {f2 idx n nL2 : Nat} {y : MethodName} {c2 : ByteArray} {As : List Value} {st : List Value} {r2 : Int32} {t2 : zS} (hM : zM E sh f2 y c2 nL2 none As t (r2, t2)) (hY : zY y c2 nL2 none n) (hv : Cond.static y ∈ zGT) (hlk : Cond.methodLink own idx y ∈ zGT) (hf : f2 + 1 ≤ f) (hn : As.length = n) (hst : st = As.reverse ++ rest) (hr : (rest.map fun v => v.category).sum ≤ 8) (hd : decode cc pc = .ok (.invokestatic idx, 3)) (kk : zJ E sh C cc own nL f ret ro t2 (pc + 3) lv rest) : zJ E sh C cc own nL f ret ro t pc lv st := z_callS hM hY hv hlk hf hn hst hr hd kk
theorem z_nret {v : Int32} {ty : FieldType} (h : some (v, t) = some ro) (hv : narrow ty (.int v) = .int v) (hd : decode cc pc = .ok (.ireturn, 1)) : zJ E sh C cc own nL f (some ty) ro t pc lv [.int v] := by
  obtain ⟨p, e, s, m, args, below, meth, c, R⟩ := C
  cases h
  exact fun ok H locs ls hP hS hl => W.zret (v := v) (ty := ty) ok.1 ok.2.1 ok.2.2.2.2.2.2.2.1 hv (fun t ht hW => ⟨⟨rfl, by rw [ht]; exact hP⟩, hS.F ht⟩) hS.2.2 hd ok.2.2.2.2.2.2.2.2.1
theorem z_i2b {x v : Int32} (hd : decode cc pc = .ok (.i2b, 1)) (hv : x.toInt8.toInt32 = v) (k : zJ E sh C cc own nL f ret ro t (pc + 1) lv (.int v :: rest)) : zJ E sh C cc own nL f ret ro t pc lv (.int x :: rest) := by
  obtain ⟨p, e, s, m, args, below, meth, c, R⟩ := C
  exact fun ok H locs ls hP hS hl => lv_i2b ok.1 ok.2.1 hd hv (k ok H locs ls hP hS hl)
end ZSTR
