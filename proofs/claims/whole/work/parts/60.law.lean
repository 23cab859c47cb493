/-! the law's loop, over both stores; what the stores do is a premise here -/
def zHy (E : zE) (A : Nat → Prop) (U : State) : Prop := vk_R RX10 75 ztx0 (E.2.2.2.2.1 0) U ∧ vk_R RX10 90 ztx1 (E.2.2.2.2.1 1) U ∧ vk_S 2 zlen zbyt E.2.2.2.2.1 E.2.2.2.2.2 A U U.heap ∧ va_Z "java/lang/String" "COMPACT_STRINGS" "Z" (.int 1) A U U.heap ∧ va_Zq "jdk/internal/util/Preconditions" "SIOOBE_FORMATTER" "Ljava/util/function/BiFunction;" A U U.heap
theorem zHy_go {E : zE} {sh : zSh} {A : Nat → Prop} {s U : State} {H : Heap} {locs : List Loc} (hA : ∀ q, zA E.2.2.2.1 sh q → A q) (hW : s.WarmedH U.vm) (hH : U.heap = H) (hS : va_S A s.heap H locs) (h : zHy E A s) : zHx E sh U := by
  obtain ⟨h1, h2, h3, h4, h5⟩ := h
  refine ⟨vk_R.warm hW h1, vk_R.warm hW h2, ?_, ?_, ?_⟩
  · rw [hH]; exact ((h3.moved hW.alike).kept hS.2.1).narrow hA
  · rw [hH]; exact ((h4.moved hW.alike).kept hS.2.1).narrow hA
  · rw [hH]; exact ((h5.moved hW.alike).kept hS.2.1).narrow hA
abbrev zLC : Type := Program × Env × State × MethodId × List Frame × Method × Code × Nat × Nat × (Nat → Int32)
/-- what holds all through the law: E is the class's, F the reference's -/
def zlok (E F : zE) (K : zLC) : Prop := match K with
  | (p, _, s, m, _, meth, c, b, L, xs) => p.tables.exec = Jvm.exec ∧ c.code = code ∧ meth.sig.returnType = ret ∧ c.maxLocals = 4 ∧ s.vm.findClass RL = some m.cls ∧ (∀ w ∈ zGT, w.before #[Value.ref b] s = true) ∧ va_X b L xs s s.heap ∧ b < s.heap.size ∧ meth.locks = false ∧ va_K E.2.1 zcl (ztys E.2.2.1) s ∧ zinj E.2.2.2.1 shC ∧ zinj F.2.2.2.1 shM ∧ (∀ q, zA E.2.2.2.1 shC q → s.heap.size ≤ q ∧ ¬ zA F.2.2.2.1 shM q) ∧ (∀ q, zA F.2.2.2.1 shM q → s.heap.size ≤ q) ∧ F.1 = E.1 ∧ F.2.1 = E.2.1 ∧ F.2.2.1 = E.2.2.1 ∧ zHy E (fun q => s.heap.size ≤ q) s ∧ zHy F (fun q => s.heap.size ≤ q) s ∧ L ≤ 3072
def zL (E F : zE) (K : zLC) (t u : zS) (pc : Nat) (lv : List (Nat × Value)) (st : List Value) : Prop := match K with
  | (p, e, s, m, below, meth, c, b, _, _) => zlok E F K → ∀ (H : Heap) (locs : List Loc) (ls : Array Slot), va_P E.2.1 zcl (zw E.2.2.2.1 E.2.2.1 shC t) H → va_P E.2.1 zcl (zw F.2.2.2.1 E.2.2.1 shM u) H → va_S (fun q : Nat => s.heap.size ≤ q) s.heap H locs → lv_has ls 4 lv →
    W p E.1 e room_1 s m #[Value.ref b] below meth c H locs 600000 7302250 (lw_Z below #[Value.ref b] s) (F0 m pc ls st)
def zlb (K : zLC) : Nat := K.2.2.2.2.2.2.2.1
def zlL (K : zLC) : Nat := K.2.2.2.2.2.2.2.2.1
def zlx (K : zLC) : Nat → Int32 := K.2.2.2.2.2.2.2.2.2
section ZL
variable {E F : zE} {K : zLC} {t u : zS} {pc : Nat} {lv : List (Nat × Value)} {rest : List Value}
theorem zl_iload_n {i2 : Fin 4} {i : Nat} {x : Int32} (q : Nat) (hd : decode code pc = .ok (.iload_n i2, 1)) (hi : (i2 : Nat) = i) (hq : lv[q]? = some (i, .int x)) (kk : zL E F K t u (pc + 1) lv (.int x :: rest)) : zL E F K t u pc lv rest := by
  obtain ⟨p, e, s, m, below, meth, c, b, L, xs⟩ := K
  exact fun ok H locs ls hP hU hS hl => lv_iload_n ok.1 ok.2.1 hd hi (lv_at hl q hq) (kk ok H locs ls hP hU hS hl)
theorem zl_aload_n {i2 : Fin 4} {i x : Nat} (q : Nat) (hd : decode code pc = .ok (.aload_n i2, 1)) (hi : (i2 : Nat) = i) (hq : lv[q]? = some (i, .ref x)) (kk : zL E F K t u (pc + 1) lv (.ref x :: rest)) : zL E F K t u pc lv rest := by
  obtain ⟨p, e, s, m, below, meth, c, b, L, xs⟩ := K
  exact fun ok H locs ls hP hU hS hl => lv_aload_n ok.1 ok.2.1 hd hi (lv_at hl q hq) (kk ok H locs ls hP hU hS hl)
theorem zl_iconst {z : Int} {v : Int32} (hd : decode code pc = .ok (.iconst z, 1)) (hv : Int32.ofInt z = v) (kk : zL E F K t u (pc + 1) lv (.int v :: rest)) : zL E F K t u pc lv rest := by
  obtain ⟨p, e, s, m, below, meth, c, b, L, xs⟩ := K
  exact fun ok H locs ls hP hU hS hl => lv_iconst ok.1 ok.2.1 hd hv (kk ok H locs ls hP hU hS hl)
theorem zl_bipush {z : Int} {v : Int32} (hd : decode code pc = .ok (.bipush z, 2)) (hv : (Int8.ofInt z).toInt32 = v) (kk : zL E F K t u (pc + 2) lv (.int v :: rest)) : zL E F K t u pc lv rest := by
  obtain ⟨p, e, s, m, below, meth, c, b, L, xs⟩ := K
  exact fun ok H locs ls hP hU hS hl => lv_bipush ok.1 ok.2.1 hd hv (kk ok H locs ls hP hU hS hl)
theorem zl_iadd {x y : Int32} (hd : decode code pc = .ok (.iadd, 1)) (kk : zL E F K t u (pc + 1) lv (.int (x + y) :: rest)) : zL E F K t u pc lv (.int y :: .int x :: rest) := by
  obtain ⟨p, e, s, m, below, meth, c, b, L, xs⟩ := K
  exact fun ok H locs ls hP hU hS hl => lv_iadd ok.1 ok.2.1 hd (kk ok H locs ls hP hU hS hl)
theorem zl_isub {x y : Int32} (hd : decode code pc = .ok (.isub, 1)) (kk : zL E F K t u (pc + 1) lv (.int (x - y) :: rest)) : zL E F K t u pc lv (.int y :: .int x :: rest) := by
  obtain ⟨p, e, s, m, below, meth, c, b, L, xs⟩ := K
  exact fun ok H locs ls hP hU hS hl => lv_isub ok.1 ok.2.1 hd (kk ok H locs ls hP hU hS hl)
theorem zl_iand {x y : Int32} (hd : decode code pc = .ok (.iand, 1)) (kk : zL E F K t u (pc + 1) lv (.int (x &&& y) :: rest)) : zL E F K t u pc lv (.int y :: .int x :: rest) := by
  obtain ⟨p, e, s, m, below, meth, c, b, L, xs⟩ := K
  exact fun ok H locs ls hP hU hS hl => lv_iand ok.1 ok.2.1 hd (kk ok H locs ls hP hU hS hl)
theorem zl_len {v : Int32} (hv : Int32.ofNat (zlL K) = v) (hd : decode code pc = .ok (.arraylength, 1)) (kk : zL E F K t u (pc + 1) lv (.int v :: rest)) : zL E F K t u pc lv (.ref (zlb K) :: rest) := by
  obtain ⟨p, e, s, m, below, meth, c, b, L, xs⟩ := K
  subst hv
  exact fun ok H locs ls hP hU hS hl => va_slen ok.1 ok.2.1 ok.2.2.2.2.2.2.1 ok.2.2.2.2.2.2.2.1 (Nat.not_le.mpr ok.2.2.2.2.2.2.2.1) hS hd (kk ok H locs ls hP hU hS hl)
theorem zl_ald {i : Int32} (hi : zin i (zlL K)) (hd : decode code pc = .ok (.iaload, 1)) (kk : zL E F K t u (pc + 1) lv (.int (zlx K i.toNatClampNeg) :: rest)) : zL E F K t u pc lv (.int i :: .ref (zlb K) :: rest) := by
  obtain ⟨p, e, s, m, below, meth, c, b, L, xs⟩ := K
  exact fun ok H locs ls hP hU hS hl => va_sld ok.1 ok.2.1 ok.2.2.2.2.2.2.1 ok.2.2.2.2.2.2.2.1 (Nat.not_le.mpr ok.2.2.2.2.2.2.2.1) hS (zin_vp hi) hd (kk ok H locs ls hP hU hS hl)
theorem zl_icmp_gt {x y : Int32} {off : Int} {tgt : Nat} (hd : decode code pc = .ok (.if_icmp .gt off, 3)) (ht : (pc : Int) + off = (tgt : Int)) (kt : y < x → zL E F K t u tgt lv rest) (kf : ¬ y < x → zL E F K t u (pc + 3) lv rest) : zL E F K t u pc lv (.int y :: .int x :: rest) := by
  obtain ⟨p, e, s, m, below, meth, c, b, L, xs⟩ := K
  exact fun ok H locs ls hP hU hS hl => lv_icmp_gt ok.1 ok.2.1 hd ht (fun h => kt h ok H locs ls hP hU hS hl) (fun h => kf h ok H locs ls hP hU hS hl)
theorem zl_icmp_eq {x y : Int32} {off : Int} {tgt : Nat} (hd : decode code pc = .ok (.if_icmp .eq off, 3)) (ht : (pc : Int) + off = (tgt : Int)) (h : x = y) (kt : zL E F K t u tgt lv rest) : zL E F K t u pc lv (.int y :: .int x :: rest) := by
  obtain ⟨p, e, s, m, below, meth, c, b, L, xs⟩ := K
  exact fun ok H locs ls hP hU hS hl => lv_icmp_eq ok.1 ok.2.1 hd ht (fun _ => kt ok H locs ls hP hU hS hl) (fun q => absurd h q)
theorem zl_goto {off : Int} {tgt : Nat} {st : List Value} (hd : decode code pc = .ok (.goto off, 3)) (ht : (pc : Int) + off = (tgt : Int)) (kk : zL E F K t u tgt lv st) : zL E F K t u pc lv st := by
  obtain ⟨p, e, s, m, below, meth, c, b, L, xs⟩ := K
  exact fun ok H locs ls hP hU hS hl => lv_goto ok.1 ok.2.1 hd ht (kk ok H locs ls hP hU hS hl)
theorem zl_iinc {i q : Nat} {z : Int} {x v : Int32} {lv' : List (Nat × Value)} (hd : decode code pc = .ok (.iinc i z, 3)) (hk : lv[q]? = some (i, .int x)) (hv : x + Int32.ofInt z = v) (hn : i < 4) (hl' : (i, Value.int v) :: lv.filter (fun q => !(q.1 == i) && !(q.1 + 1 == i && q.2.category == 2)) = lv') (kk : zL E F K t u (pc + 3) lv' rest) : zL E F K t u pc lv rest := by
  obtain ⟨p, e, s, m, below, meth, c, b, L, xs⟩ := K
  exact fun ok H locs ls hP hU hS hl => lv_iinc ok.1 ok.2.1 hd hl hk hv hn hl' (fun ls h => kk ok H locs ls hP hU hS h)
theorem zl_tabIn {dflt lo hi : Int} {offs : Array Int} {len : Nat} {x : Int32} {off : Int} {tgt : Nat} (hd : decode code pc = .ok (.tableswitch dflt lo hi offs, len)) (h1 : ¬ x.toInt < lo) (h2 : ¬ hi < x.toInt) (ho : offs[(x.toInt - lo).toNat]? = some off) (ht : (pc : Int) + off = (tgt : Int)) (kk : zL E F K t u tgt lv rest) : zL E F K t u pc lv (.int x :: rest) := by
  obtain ⟨p, e, s, m, below, meth, c, b, L, xs⟩ := K
  exact fun ok H locs ls hP hU hS hl => lv_tableIn ok.1 ok.2.1 hd h1 h2 ho ht (kk ok H locs ls hP hU hS hl)
theorem zl_tabOut {dflt lo hi : Int} {offs : Array Int} {len : Nat} {x : Int32} {tgt : Nat} (hd : decode code pc = .ok (.tableswitch dflt lo hi offs, len)) (h : x.toInt < lo ∨ hi < x.toInt) (ht : (pc : Int) + dflt = (tgt : Int)) (kk : zL E F K t u tgt lv rest) : zL E F K t u pc lv (.int x :: rest) := by
  obtain ⟨p, e, s, m, below, meth, c, b, L, xs⟩ := K
  exact fun ok H locs ls hP hU hS hl => lv_tableOut ok.1 ok.2.1 hd h ht (kk ok H locs ls hP hU hS hl)
theorem zl_ret (hd : decode code pc = .ok (.ireturn, 1)) : zL E F K t u pc lv [.int 1] := by
  obtain ⟨p, e, s, m, below, meth, c, b, L, xs⟩ := K
  exact fun ok H locs ls hP hU hS hl => va_forget hS.2.2 (lw_ret ok.1 ok.2.1 ok.2.2.1 ok.2.2.2.2.2.2.2.2.1 hd)
theorem zl_callC {f2 idx n nL2 : Nat} {y : MethodName} {c2 : ByteArray} {As st : List Value} {r2 : Int32} {t2 : zS} (hM : zM E shC f2 y c2 nL2 (some .int) (.ref (za E 0) :: As) t (r2, t2)) (hY : zY y c2 nL2 (some .int) n) (hv : zYv y) (hO : zObj shC 0 y.cls) (hlk : Cond.methodLink RL idx y ∈ zGT) (hf : f2 + 1 ≤ 2000) (hn : As.length = n) (hst : st = As.reverse ++ .ref (za E 0) :: rest) (hr : (rest.map fun v => v.category).sum ≤ 8) (hd : decode code pc = .ok (.invokevirtual idx, 3))
    (kk : zL E F K t2 u (pc + 3) lv (.int r2 :: rest)) : zL E F K t u pc lv st := by
  obtain ⟨p, e, s, m, below, meth, c, b, L, xs⟩ := K
  obtain ⟨y1, y2, y3, y4, y5, y6⟩ := hY
  obtain ⟨ci, fs, q, o1, o2, o3⟩ := hO
  intro ok H locs ls hP hU hS hl
  have ok0 := ok
  obtain ⟨x1, x2, x3, x4, x5, x6, x7, x8, x9, x10, x11, x12, x13, x14, x15, x16, x17, x18, x19, x20⟩ := ok
  have hB : CallB room_1 s #[Value.ref b] RL idx y c2 nL2 (some .int) (Cond.code y c2 nL2 (some .int) :: zGT) (zrm f2) 0 0 n := callB_of n x6 (zGood y1) rfl rfl rfl (x6 _ y2) (x6 _ hlk) ⟨y3, y4, y5⟩ ⟨by show f2 + 1 ≤ 2048; omega, by show 8 + (nL2 + 11) + 40 * f2 ≤ 84000; omega⟩
  have hrv := va_recv x10 hP o2 (zw_at o1)
  rw [o3] at hrv
  have hrun := va_runV (e := e) (below := below) (meth := meth) (locs := locs) (cells := 600000) (slots := 7302250) (g := F0 m pc ls st) (rest := rest) ⟨x1, x2, x4, x5, x6⟩ (hM x11) ⟨hB, x6 _ hv.1, x6 _ hv.2⟩ ⟨zBlind, hrv, fun U hU1 hW => ⟨rfl, by rw [hU1]; exact hP, va_K.moved hW.alike x10, zHy_go (fun q h => (x13 q h).1) hW hU1 hS x18⟩⟩ rfl hn hl.1 hst (lv_room hr) hd ⟨Nat.le_refl _, Nat.le_refl _⟩
  intro T hT X
  obtain ⟨v, st₀, t', T', L', h0, X', hL, e1, e2, ⟨⟨hv', hp⟩, hz, hk⟩, stp⟩ := hrun T hT X
  rw [h0] at hz hk
  have hS' : va_S (fun q : Nat => s.heap.size ≤ q) s.heap T'.heap (locs ++ L') := ⟨Nat.le_trans hS.1 (by rw [e1]; exact hz), fun q h1 h2 => by rw [e1, hk q (Nat.lt_of_lt_of_le h1 hS.1) (fun z => h2 (x13 q z).1)]; exact hS.2.1 q h1 h2, fun q hq => by
      rcases List.mem_append.mp hq with h | h
      · exact hS.2.2 q h
      · exact (x13 _ (hL q h)).1⟩
  have hU' : va_P E.2.1 zcl (zw F.2.2.2.1 E.2.2.1 shM u) T'.heap := by
    refine hU.kept (fun k x hx => ?_)
    obtain ⟨z, hz1, rfl⟩ := zw_of hx
    have hlt := (hU k _ hx).lt
    rw [e1]
    refine hk _ hlt (fun hc => (x13 _ hc).2 ⟨k, zlt hz1, zcell_adr.symm⟩)
  have hr' : v = some (.int r2) := Outcome.returned.inj hv'
  subst hr'
  obtain ⟨t3, a1, b1⟩ := kk ok0 T'.heap (locs ++ L') ls (by rw [e1]; exact hp) hU' hS' hl T' rfl X'
  exact ⟨t3, stp t3 a1, b1⟩
theorem zl_callM {f2 idx n nL2 : Nat} {y : MethodName} {c2 : ByteArray} {As st : List Value} {r2 : Int32} {u2 : zS} (hM : zM F shM f2 y c2 nL2 (some .int) (.ref (za F 0) :: As) u (r2, u2)) (hY : zY y c2 nL2 (some .int) n) (hv : zYv y) (hO : zObj shM 0 y.cls) (hlk : Cond.methodLink RL idx y ∈ zGT) (hf : f2 + 1 ≤ 2000) (hn : As.length = n) (hst : st = As.reverse ++ .ref (za F 0) :: rest) (hr : (rest.map fun v => v.category).sum ≤ 8) (hd : decode code pc = .ok (.invokevirtual idx, 3))
    (kk : zL E F K t u2 (pc + 3) lv (.int r2 :: rest)) : zL E F K t u pc lv st := by
  obtain ⟨p, e, s, m, below, meth, c, b, L, xs⟩ := K
  obtain ⟨y1, y2, y3, y4, y5, y6⟩ := hY
  obtain ⟨ci, fs, q, o1, o2, o3⟩ := hO
  obtain ⟨l1, D1, ca1, aE, kE, vE⟩ := E
  obtain ⟨l2, D2, ca2, aF, kF, vF⟩ := F
  intro ok H locs ls hP hU hS hl
  have ok0 := ok
  obtain ⟨x1, x2, x3, x4, x5, x6, x7, x8, x9, x10, x11, x12, x13, x14, x15, x16, x17, x18, x19, x20⟩ := ok
  dsimp only at x15 x16 x17
  subst x15; subst x16; subst x17
  have hB : CallB room_1 s #[Value.ref b] RL idx y c2 nL2 (some .int) (Cond.code y c2 nL2 (some .int) :: zGT) (zrm f2) 0 0 n := callB_of n x6 (zGood y1) rfl rfl rfl (x6 _ y2) (x6 _ hlk) ⟨y3, y4, y5⟩ ⟨by show f2 + 1 ≤ 2048; omega, by show 8 + (nL2 + 11) + 40 * f2 ≤ 84000; omega⟩
  have hrv := va_recv x10 hU o2 (zw_at o1)
  rw [o3] at hrv
  have hrun := va_runV (e := e) (below := below) (meth := meth) (locs := locs) (cells := 600000) (slots := 7302250) (g := F0 m pc ls st) (rest := rest) ⟨x1, x2, x4, x5, x6⟩ (hM x12) ⟨hB, x6 _ hv.1, x6 _ hv.2⟩ ⟨zBlind, hrv, fun U hU1 hW => ⟨rfl, by rw [hU1]; exact hU, va_K.moved hW.alike x10, zHy_go (fun q h => x14 q h) hW hU1 hS x19⟩⟩ rfl hn hl.1 hst (lv_room hr) hd ⟨Nat.le_refl _, Nat.le_refl _⟩
  intro T hT X
  obtain ⟨v, st₀, t', T', L', h0, X', hL, e1, e2, ⟨⟨hv', hp⟩, hz, hk⟩, stp⟩ := hrun T hT X
  rw [h0] at hz hk
  have hS' : va_S (fun q : Nat => s.heap.size ≤ q) s.heap T'.heap (locs ++ L') := ⟨Nat.le_trans hS.1 (by rw [e1]; exact hz), fun q h1 h2 => by rw [e1, hk q (Nat.lt_of_lt_of_le h1 hS.1) (fun z => h2 (x14 q z))]; exact hS.2.1 q h1 h2, fun q hq => by
      rcases List.mem_append.mp hq with h | h
      · exact hS.2.2 q h
      · exact x14 _ (hL q h)⟩
  have hP' : va_P D2 zcl (zw aE ca2 shC t) T'.heap := by
    refine hP.kept (fun k x hx => ?_)
    obtain ⟨z, hz1, rfl⟩ := zw_of hx
    have hlt := (hP k _ hx).lt
    rw [e1]
    refine hk _ hlt (fun hc => (x13 _ ⟨k, zlt hz1, zcell_adr.symm⟩).2 hc)
  have hr' : v = some (.int r2) := Outcome.returned.inj hv'
  subst hr'
  obtain ⟨t3, a1, b1⟩ := kk ok0 T'.heap (locs ++ L') ls hP' (by rw [e1]; exact hp) hS' hl T' rfl X'
  exact ⟨t3, stp t3 a1, b1⟩
end ZL
