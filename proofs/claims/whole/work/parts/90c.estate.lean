/-! EXPRESSIONS: both readers' state -/
theorem zEX_trans {p b n F C n2 F2 C2 n3 F3 C3 : Nat} {t u t2 u2 t3 u3 : zS} (h : zEX p b n F C n2 F2 C2 t u t2 u2) (k : zEX p b n2 F2 C2 n3 F3 C3 t2 u2 t3 u3) : zEX p b n F C n3 F3 C3 t u t3 u3 := by
  obtain ⟨a1, a2, a3, a4, a5, a6, a7, a8, a9, a10, a11⟩ := h
  obtain ⟨b1, b2, b3, b4, b5, b6, b7, b8, b9, b10, b11⟩ := k
  refine ⟨by omega, by omega, by omega, zFP_trans a4 b4, zFP_trans a5 b5, fun q hq => (b6 q hq).trans (a6 q hq), fun q hq => (b7 q hq).trans (a7 q hq), fun k hk => (b8 k (by omega)).trans (a8 k hk), fun k hk => ?_, fun c hc => (b10 c (by omega)).trans (a10 c hc), b11.trans a11⟩
  exact ⟨(b9 k (by omega)).1.trans (a9 k hk).1, (b9 k (by omega)).2.trans (a9 k hk).2⟩
theorem zFP_eS {t t2 : zS} (h : zSf t t2) : zFP zpEC t t2 := by
  intro k j q
  by_cases e : k = 5
  · subst e; cases q
  · rw [h.1 k e]
theorem zFP_eN {u u2 : zS} (h : zMf u u2) : zFP zpEM u u2 := by
  intro k j q
  by_cases e : k = 0
  · subst e
    refine h.2 j ?_
    unfold zpEM at q
    rw [if_pos rfl] at q
    simp only [Bool.not_eq_true', Bool.or_eq_false_iff, Bool.and_eq_false_iff, beq_eq_false_iff_ne, decide_eq_false_iff_not] at q
    omega
  · by_cases e3 : k = 3
    · subst e3; cases q
    · by_cases e4 : k = 4
      · subst e4; cases q
      · rw [h.1 k e e3 e4]
theorem zEX_fr {p b n F C : Nat} {t u t2 u2 : zS} (hs : zSf t t2) (hm : zMf u u2) : zEX p b n F C n F C t u t2 u2 := by
  have e : ∀ k, k ≠ 5 → t2 k = t k := hs.1
  have g : ∀ k, k ≠ 0 → k ≠ 3 → k ≠ 4 → u2 k = u k := hm.1
  refine ⟨Nat.le_refl _, Nat.le_refl _, Nat.le_refl _, zFP_eS hs, zFP_eN hm, fun q _ => by rw [e 39 (by decide)], fun q _ => by rw [g 31 (by decide) (by decide) (by decide)], fun q _ => by rw [g 33 (by decide) (by decide) (by decide)], fun q _ => ⟨by rw [e 75 (by decide)], by rw [e 77 (by decide)]⟩, fun q _ => by rw [g 27 (by decide) (by decide) (by decide)], hs.2⟩
theorem zEB_fr {G : zTxt} {i i2 d d2 p b n F C : Nat} {t u t2 u2 : zS} (h : zEB G i d p b n F C t u) (ha : zAt G i2 t2 u2) (hi : i ≤ i2) (h13 : t2 5 13 = Int32.ofNat d2) (h10 : u2 0 10 = Int32.ofNat d2) (hs : zSf t t2) (hm : zMf u u2) : zEB G i2 d2 p b n F C t2 u2 := by
  obtain ⟨a1, a2, a3, a4, a5, a6⟩ := h
  have e : ∀ k, k ≠ 5 → t2 k = t k := hs.1
  have g : ∀ k, k ≠ 0 → k ≠ 3 → k ≠ 4 → u2 k = u k := hm.1
  exact ⟨ha, h13, h10, zSl_of a4 hi (by rw [e 4 (by decide)]) (hm.2 60 (by decide)) (e 39 (by decide)) (e 47 (by decide)) (e 49 (by decide)) (g 31 (by decide) (by decide) (by decide)) (g 33 (by decide) (by decide) (by decide)), by rw [e 51 (by decide)]; exact a5, by rw [hm.2 42 (by decide)]; exact a6⟩
theorem zEB_step {G : zTxt} {i d p b n F C : Nat} {t u : zS} (h : zEB G i d p b n F C t u) (hi : ¬ t 5 9 = 19) : ∃ t2 u2, mX7_step t = some (0, t2) ∧ mX12_next u = some (0, u2) ∧ zEB G (i + 1) d p b n F C t2 u2 ∧ zEX p b n F C n F C t u t2 u2 ∧ zSf t t2 ∧ zMf u u2 := by
  obtain ⟨t2, u2, r1, r2, r3, r4, r5⟩ := zAt_step h.1 hi
  exact ⟨t2, u2, r1, r2, zEB_fr h r3 (by omega) (by rw [r4.2 13 (by decide) (by decide) (by decide) (by decide)]; exact h.2.1) (by rw [r5.2 10 (by decide) (by decide) (by decide) (by decide) (by decide) (by decide)]; exact h.2.2.1) (zSf_of r4) (zMf_of r5), zEX_fr (zSf_of r4) (zMf_of r5), zSf_of r4, zMf_of r5⟩
/-- something went wrong inside an EXPRESSION -/
def zEE (cb : Nat) (t u t2 u2 : zS) : Prop := zEr t2 u2 ∧ (∃ C, u2 0 42 = Int32.ofNat C ∧ C ≤ cb) ∧ zFP zpEC t t2 ∧ zFP zpEM u u2
theorem zEE_mono {cb cb2 : Nat} {t u t2 u2 : zS} (h : zEE cb t u t2 u2) (hc : cb ≤ cb2) : zEE cb2 t u t2 u2 := by
  obtain ⟨a1, ⟨C, b1, b2⟩, a3⟩ := h
  exact ⟨a1, ⟨C, b1, by omega⟩, a3⟩
theorem zEE_pre {cb : Nat} {t u t1 u1 t2 u2 : zS} (h : zEE cb t1 u1 t2 u2) (h1 : zFP zpEC t t1) (h2 : zFP zpEM u u1) : zEE cb t u t2 u2 := ⟨h.1, h.2.1, zFP_trans h1 h.2.2.1, zFP_trans h2 h.2.2.2⟩
theorem zEE_fr {G : zTxt} {i d p b n F C cb : Nat} {t u t2 u2 : zS} (h : zEB G i d p b n F C t u) (hC : C ≤ cb) (he : zEr t2 u2) (hs : zSf t t2) (hm : zMf u u2) : zEE cb t u t2 u2 :=
  ⟨he, ⟨C, by rw [hm.2 42 (by decide)]; exact h.2.2.2.2.2, hC⟩, zFP_eS hs, zFP_eN hm⟩
theorem zc_add {t : zS} {F : Nat} {x v : Int32} (h : t 51 6 = Int32.ofNat F) (hF : F < 3000) : mX3_add x v t = some (0, zu (zu (zu t 75 F x) 77 F v) 51 6 (Int32.ofNat (F + 1))) := by
  simp (disch := first | omega | decide | assumption) only [zu_same, zu_ne1, zu_ne2, zu_row, pl_bd, pl_pt, pl_let, zn_set, zn_get, zn_rd, zn_wr, zn_1, zn_m, Nat.reduceAdd, mX3_add, h]
theorem zm_put {u : zS} {C : Nat} {x : Int32} (h : u 0 42 = Int32.ofNat C) (hC : C < 9000) : mX12_put x u = some (0, zu (zu u 27 C x) 0 42 (Int32.ofNat (C + 1))) := by
  simp (disch := first | omega | decide | assumption) only [zu_same, zu_ne1, zu_ne2, zu_row, pl_bd, pl_pt, pl_let, zn_set, zn_get, zn_rd, zn_wr, zn_1, zn_m, Nat.reduceAdd, mX12_put, h]
def zpE5 (k j : Nat) : Bool := k == 5 || zpEC k j
theorem zFP_E5 {t t2 : zS} (h : zFP zpE5 t t2) : zFP zpEC t t2 ∧ t2 5 = t 5 :=
  ⟨zFP_mono h (fun k j q => by unfold zpE5; rw [q, Bool.or_true]), zFP_row 5 h (fun _ => rfl)⟩
theorem zT_add {t : zS} {x v : Int32} : ∃ t2, mX3_add x v t = some (0, t2) ∧ zFP zpE5 t t2 := by
  unfold mX3_add
  obtain ⟨t1, a1, a2⟩ := pl_setF (p := zpE5) (c := 74) (n := 3000) (x := t 51 6) (v := x) (t := t) (by decide) (fun _ => rfl)
  rw [a1, pl_bd]
  obtain ⟨t2, b1, b2⟩ := pl_setF (p := zpE5) (c := 76) (n := 3000) (x := t1 51 6) (v := v) (t := t1) (by decide) (fun _ => rfl)
  rw [b1, pl_bd, pl_pt]
  exact ⟨_, rfl, zFP_zu (zFP_trans a2 b2) rfl⟩
/-- both go on behind a fault -/
theorem zEE_add {cb : Nat} {t u t2 u2 : zS} {x v y : Int32} (h : zEE cb t u t2 u2) (hcb : cb < 8999) : ∃ t3 u3, mX3_add x v t2 = some (0, t3) ∧ mX12_put y u2 = some (0, u3) ∧ zEE (cb + 1) t u t3 u3 := by
  obtain ⟨a1, ⟨C, b1, b2⟩, a3, a4⟩ := h
  obtain ⟨t3, c1, c2⟩ := zT_add (t := t2) (x := x) (v := v)
  obtain ⟨d1, d2⟩ := zFP_E5 c2
  refine ⟨t3, _, c1, zm_put b1 (by omega), zEr_of a1 (zEc_of (zEr_c a1) d2) (by rw [d2]) (by simp (disch := first | omega | decide | assumption) only [zu_same, zu_ne1, zu_ne2, zu_row, pl_bd, pl_pt, pl_let, zn_set, zn_get, zn_rd, zn_wr, zn_1, zn_m, Nat.reduceAdd]), ⟨C + 1, by simp (disch := first | omega | decide | assumption) only [zu_same, zu_ne1, zu_ne2, zu_row, pl_bd, pl_pt, pl_let, zn_set, zn_get, zn_rd, zn_wr, zn_1, zn_m, Nat.reduceAdd], by omega⟩, zFP_trans a3 d1, zFP_zu (zFP_zu a4 rfl) rfl⟩
theorem zEB_c {G : zTxt} {i d p b n F C : Nat} {t u : zS} {x v : Int32} (h : zEB G i d p b n F C t u) : zEB G i d p b n (F + 1) C (zu (zu (zu t 75 F x) 77 F v) 51 6 (Int32.ofNat (F + 1))) u := by
  obtain ⟨a1, a2, a3, a4, a5, a6⟩ := h
  refine ⟨zAt_of a1 (fun j _ _ => by simp (disch := first | omega | decide | assumption) only [zu_same, zu_ne1, zu_ne2, zu_row, pl_bd, pl_pt, pl_let, zn_set, zn_get, zn_rd, zn_wr, zn_1, zn_m, Nat.reduceAdd]) (by simp (disch := first | omega | decide | assumption) only [zu_same, zu_ne1, zu_ne2, zu_row, pl_bd, pl_pt, pl_let, zn_set, zn_get, zn_rd, zn_wr, zn_1, zn_m, Nat.reduceAdd]) (by simp (disch := first | omega | decide | assumption) only [zu_same, zu_ne1, zu_ne2, zu_row, pl_bd, pl_pt, pl_let, zn_set, zn_get, zn_rd, zn_wr, zn_1, zn_m, Nat.reduceAdd]) (fun _ _ _ => rfl) rfl rfl rfl, by simp (disch := first | omega | decide | assumption) only [zu_same, zu_ne1, zu_ne2, zu_row, pl_bd, pl_pt, pl_let, zn_set, zn_get, zn_rd, zn_wr, zn_1, zn_m, Nat.reduceAdd, a2], a3, zSl_of a4 (Nat.le_refl _) (by simp (disch := first | omega | decide | assumption) only [zu_same, zu_ne1, zu_ne2, zu_row, pl_bd, pl_pt, pl_let, zn_set, zn_get, zn_rd, zn_wr, zn_1, zn_m, Nat.reduceAdd]) rfl (by simp (disch := first | omega | decide | assumption) only [zu_same, zu_ne1, zu_ne2, zu_row, pl_bd, pl_pt, pl_let, zn_set, zn_get, zn_rd, zn_wr, zn_1, zn_m, Nat.reduceAdd]) (by simp (disch := first | omega | decide | assumption) only [zu_same, zu_ne1, zu_ne2, zu_row, pl_bd, pl_pt, pl_let, zn_set, zn_get, zn_rd, zn_wr, zn_1, zn_m, Nat.reduceAdd]) (by simp (disch := first | omega | decide | assumption) only [zu_same, zu_ne1, zu_ne2, zu_row, pl_bd, pl_pt, pl_let, zn_set, zn_get, zn_rd, zn_wr, zn_1, zn_m, Nat.reduceAdd]) rfl rfl, by simp (disch := first | omega | decide | assumption) only [zu_same, zu_ne1, zu_ne2, zu_row, pl_bd, pl_pt, pl_let, zn_set, zn_get, zn_rd, zn_wr, zn_1, zn_m, Nat.reduceAdd], a6⟩
theorem zEB_m {G : zTxt} {i d p b n F C : Nat} {t u : zS} {x : Int32} (h : zEB G i d p b n F C t u) : zEB G i d p b n F (C + 1) t (zu (zu u 27 C x) 0 42 (Int32.ofNat (C + 1))) := by
  obtain ⟨a1, a2, a3, a4, a5, a6⟩ := h
  refine ⟨zAt_of a1 (fun _ _ _ => rfl) rfl rfl (fun j _ _ => by simp (disch := first | omega | decide | assumption) only [zu_same, zu_ne1, zu_ne2, zu_row, pl_bd, pl_pt, pl_let, zn_set, zn_get, zn_rd, zn_wr, zn_1, zn_m, Nat.reduceAdd]) (by simp (disch := first | omega | decide | assumption) only [zu_same, zu_ne1, zu_ne2, zu_row, pl_bd, pl_pt, pl_let, zn_set, zn_get, zn_rd, zn_wr, zn_1, zn_m, Nat.reduceAdd]) (by simp (disch := first | omega | decide | assumption) only [zu_same, zu_ne1, zu_ne2, zu_row, pl_bd, pl_pt, pl_let, zn_set, zn_get, zn_rd, zn_wr, zn_1, zn_m, Nat.reduceAdd]) (by simp (disch := first | omega | decide | assumption) only [zu_same, zu_ne1, zu_ne2, zu_row, pl_bd, pl_pt, pl_let, zn_set, zn_get, zn_rd, zn_wr, zn_1, zn_m, Nat.reduceAdd]), a2, by simp (disch := first | omega | decide | assumption) only [zu_same, zu_ne1, zu_ne2, zu_row, pl_bd, pl_pt, pl_let, zn_set, zn_get, zn_rd, zn_wr, zn_1, zn_m, Nat.reduceAdd, a3], zSl_of a4 (Nat.le_refl _) rfl (by simp (disch := first | omega | decide | assumption) only [zu_same, zu_ne1, zu_ne2, zu_row, pl_bd, pl_pt, pl_let, zn_set, zn_get, zn_rd, zn_wr, zn_1, zn_m, Nat.reduceAdd]) rfl rfl rfl (by simp (disch := first | omega | decide | assumption) only [zu_same, zu_ne1, zu_ne2, zu_row, pl_bd, pl_pt, pl_let, zn_set, zn_get, zn_rd, zn_wr, zn_1, zn_m, Nat.reduceAdd]) (by simp (disch := first | omega | decide | assumption) only [zu_same, zu_ne1, zu_ne2, zu_row, pl_bd, pl_pt, pl_let, zn_set, zn_get, zn_rd, zn_wr, zn_1, zn_m, Nat.reduceAdd]), a5, by simp (disch := first | omega | decide | assumption) only [zu_same, zu_ne1, zu_ne2, zu_row, pl_bd, pl_pt, pl_let, zn_set, zn_get, zn_rd, zn_wr, zn_1, zn_m, Nat.reduceAdd]⟩
theorem zEX_c {p b n0 F0 C0 n F C : Nat} {t0 u0 t u : zS} {x v : Int32} (h : zEX p b n0 F0 C0 n F C t0 u0 t u) : zEX p b n0 F0 C0 n (F + 1) C t0 u0 (zu (zu (zu t 75 F x) 77 F v) 51 6 (Int32.ofNat (F + 1))) u := by
  obtain ⟨a1, a2, a3, a4, a5, a6, a7, a8, a9, a10, a11⟩ := h
  refine ⟨a1, by omega, a3, zFP_zu (zFP_zu (zFP_zu a4 rfl) rfl) rfl, a5, fun q hq => ?_, a7, a8, fun k hk => ?_, a10, ?_⟩
  · rw [← a6 q hq]; simp (disch := first | omega | decide | assumption) only [zu_same, zu_ne1, zu_ne2, zu_row, pl_bd, pl_pt, pl_let, zn_set, zn_get, zn_rd, zn_wr, zn_1, zn_m, Nat.reduceAdd]
  · rw [← (a9 k hk).1, ← (a9 k hk).2]
    constructor <;> simp (disch := first | omega | decide | assumption) only [zu_same, zu_ne1, zu_ne2, zu_row, pl_bd, pl_pt, pl_let, zn_set, zn_get, zn_rd, zn_wr, zn_1, zn_m, Nat.reduceAdd]
  · rw [← a11]; simp (disch := first | omega | decide | assumption) only [zu_same, zu_ne1, zu_ne2, zu_row, pl_bd, pl_pt, pl_let, zn_set, zn_get, zn_rd, zn_wr, zn_1, zn_m, Nat.reduceAdd]
theorem zEX_m {p b n0 F0 C0 n F C : Nat} {t0 u0 t u : zS} {x : Int32} (h : zEX p b n0 F0 C0 n F C t0 u0 t u) : zEX p b n0 F0 C0 n F (C + 1) t0 u0 t (zu (zu u 27 C x) 0 42 (Int32.ofNat (C + 1))) := by
  obtain ⟨a1, a2, a3, a4, a5, a6, a7, a8, a9, a10, a11⟩ := h
  refine ⟨a1, a2, by omega, a4, zFP_zu (zFP_zu a5 rfl) rfl, a6, fun q hq => ?_, fun k hk => ?_, a9, fun c hc => ?_, a11⟩
  · rw [← a7 q hq]; simp (disch := first | omega | decide | assumption) only [zu_same, zu_ne1, zu_ne2, zu_row, pl_bd, pl_pt, pl_let, zn_set, zn_get, zn_rd, zn_wr, zn_1, zn_m, Nat.reduceAdd]
  · rw [← a8 k hk]; simp (disch := first | omega | decide | assumption) only [zu_same, zu_ne1, zu_ne2, zu_row, pl_bd, pl_pt, pl_let, zn_set, zn_get, zn_rd, zn_wr, zn_1, zn_m, Nat.reduceAdd]
  · rw [← a10 c hc]; simp (disch := first | omega | decide | assumption) only [zu_same, zu_ne1, zu_ne2, zu_row, pl_bd, pl_pt, pl_let, zn_set, zn_get, zn_rd, zn_wr, zn_1, zn_m, Nat.reduceAdd]
/-- what has been read so far of an EXPRESSION -/
def zXok (G : zTxt) (d nd p b i0 n0 F0 C0 : Nat) (t0 u0 : zS) (i n F C : Nat) (t u : zS) : Prop := zES G i d p b n F C t u ∧ zEX p b n0 F0 C0 n F C t0 u0 t u ∧ i0 < i ∧ ∃ l, F = F0 + l ∧ 0 < l ∧ F + i0 ≤ F0 + i ∧ C + 2 * i0 ≤ C0 + 2 * i ∧ n + i0 ≤ n0 + i ∧ (∀ h hb, h + nd ≤ hb → zSg (t 75) (t 77) (u 27) n hb l F0 C0 h C (h + 1)) ∧ ((i = i0 + 1 ∧ l = 1 ∧ (t0 5 9 = 17 → t 75 F0 = 17)) ∨ (i0 + 2 ≤ i ∧ (t0 5 9 = 17 → 2 ≤ l)))
def zPX (d nd cb : Nat) (fc fm : zS → zR) : Prop := ∀ (G : zTxt) (p b i n F C : Nat) (t u : zS), zES G i d p b n F C t u → ∃ r t2 r' u2, fc t = some (r, t2) ∧ fm u = some (r', u2) ∧ ((∃ i2 n2 F2 C2, zXok G d nd p b i n F C t u i2 n2 F2 C2 t2 u2) ∨ zEE cb t u t2 u2)
/-- an operator and what stands behind it -/
theorem zIter {fc fm : zS → zR} {kc km : zS → zR} {op code : Int32} {G : zTxt} {d nd nd2 cb p b i0 n0 F0 C0 i n F C : Nat} {t0 u0 t u : zS} (hs : zPX d nd2 cb fc fm) (h : zXok G d nd p b i0 n0 F0 C0 t0 u0 i n F C t u) (hnd : nd2 + 1 ≤ nd) (hcb : cb < 8999) (h9 : ¬ t 5 9 = 19) (ho : zOp op code) :
    ∃ t3 u3, (zbd (mX7_step t) fun _ t1 => zbd (fc t1) fun _ t2 => zbd (mX3_add op 0 t2) fun _ t3 => kc t3) = kc t3 ∧ (zbd (mX12_next u) fun _ u1 => zbd (fm u1) fun _ u2 => zbd (mX12_put code u2) fun _ u3 => km u3) = km u3 ∧ ((∃ i2 n2 F2 C2, i + 2 ≤ i2 ∧ zXok G d nd p b i0 n0 F0 C0 t0 u0 i2 n2 F2 C2 t3 u3) ∨ zEE (cb + 1) t0 u0 t3 u3) := by
  obtain ⟨⟨hB, n1, n2, n3⟩, hX, hi, l, l1, l2, l3, l4, l5, l6, l7⟩ := h
  obtain ⟨t1, u1, r1, r2, r3, r4, _⟩ := zEB_step hB h9
  obtain ⟨r, t2, r', u2, s1, s2, s3⟩ := hs G p b (i + 1) n F C t1 u1 ⟨r3, by omega, by omega, by omega⟩
  rw [r1, pl_bd, r2, pl_bd, s1, pl_bd, s2, pl_bd]
  have X1 := zEX_trans hX r4
  rcases s3 with ⟨i2, n2', F2, C2, ⟨hB2, m1, m2, m3⟩, X2, g1, l', g2, g3, g4, g5, g6, g7, g8⟩ | e
  · have hl := zAt_lt hB2.1
    have X3 := zEX_trans X1 X2
    rw [zc_add hB2.2.2.2.2.1 (by omega), pl_bd, zm_put hB2.2.2.2.2.2 (by omega), pl_bd]
    refine ⟨_, _, rfl, rfl, Or.inl ⟨i2, n2', F2 + 1, C2 + 1, by omega, ⟨zEB_m (zEB_c hB2), by omega, by omega, by omega⟩, zEX_m (zEX_c X3), by omega, l + (l' + 1), by omega, by omega, by omega, by omega, by omega, fun h hb hh => ?_, Or.inr ⟨by omega, fun _ => by omega⟩⟩⟩
    have z1 := l6 h hb hh
    have z2 := g7 (h + 1) hb (by omega)
    have e75 : ∀ j, j < F2 → zu (zu (zu t2 75 F2 op) 77 F2 0) 51 6 (Int32.ofNat (F2 + 1)) 75 j = t2 75 j ∧ zu (zu (zu t2 75 F2 op) 77 F2 0) 51 6 (Int32.ofNat (F2 + 1)) 77 j = t2 77 j := fun j hj => by
      constructor <;> simp (disch := first | omega | decide | assumption) only [zu_same, zu_ne1, zu_ne2, zu_row, pl_bd, pl_pt, pl_let, zn_set, zn_get, zn_rd, zn_wr, zn_1, zn_m, Nat.reduceAdd]
    have e27 : ∀ j, j < C2 → zu (zu u2 27 C2 code) 0 42 (Int32.ofNat (C2 + 1)) 27 j = u2 27 j := fun j hj => by simp (disch := first | omega | decide | assumption) only [zu_same, zu_ne1, zu_ne2, zu_row, pl_bd, pl_pt, pl_let, zn_set, zn_get, zn_rd, zn_wr, zn_1, zn_m, Nat.reduceAdd]
    have hle := zSg_le l z1
    have hle2 := zSg_le l' z2
    have x9 := (zEX_trans r4 X2).2.2.2.2.2.2.2.2.1
    have x10 := (zEX_trans r4 X2).2.2.2.2.2.2.2.2.2.1
    refine zSg_app l (zSg_of X2.1 (Nat.le_refl _) l z1 (fun j j1 j2 => ?_) (fun j j1 j2 => ?_)) ?_
    · rw [(e75 j (by omega)).1, (e75 j (by omega)).2]; exact x9 j (by omega)
    · rw [e27 j (by omega)]; exact x10 j (by omega)
    · rw [← l1]
      refine zSg_app l' (zSg_of (Nat.le_refl _) (Nat.le_refl _) l' z2 (fun j j1 j2 => e75 j (by omega)) (fun j j1 j2 => e27 j (by omega))) ?_
      rw [← g2]
      refine zSg_1 (Or.inr (Or.inr (Or.inr ⟨?_, by omega, rfl, rfl⟩)))
      have a : zu (zu (zu t2 75 F2 op) 77 F2 0) 51 6 (Int32.ofNat (F2 + 1)) 75 F2 = op := by simp (disch := first | omega | decide | assumption) only [zu_same, zu_ne1, zu_ne2, zu_row, pl_bd, pl_pt, pl_let, zn_set, zn_get, zn_rd, zn_wr, zn_1, zn_m, Nat.reduceAdd]
      have b : zu (zu u2 27 C2 code) 0 42 (Int32.ofNat (C2 + 1)) 27 C2 = code := by simp (disch := first | omega | decide | assumption) only [zu_same, zu_ne1, zu_ne2, zu_row, pl_bd, pl_pt, pl_let, zn_set, zn_get, zn_rd, zn_wr, zn_1, zn_m, Nat.reduceAdd]
      rw [a, b]; exact ho
  · obtain ⟨t3, u3, a1, a2, a3⟩ := zEE_add (x := op) (v := 0) (y := code) e hcb
    rw [a1, pl_bd, a2, pl_bd]
    exact ⟨t3, u3, rfl, rfl, Or.inr (zEE_pre a3 X1.2.2.2.1 X1.2.2.2.2.1)⟩
