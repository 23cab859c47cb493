/-! a node more -/
def zcn (t : zS) (N : Nat) (x y b : Int32) : zS := zu (zu (zu (zu t 9 N x) 11 N y) 13 N b) 3 13 (Int32.ofNat (N + 1))
def zmn (u : zS) (M : Nat) (x y z : Int32) : zS := zu (zu (zu (zu (zu u 5 M x) 6 M y) 7 M z) 8 M 0) 0 14 (Int32.ofNat (M + 1))
theorem zcn_at {t : zS} {N : Nat} {x y b : Int32} : zcn t N x y b 9 N = x ∧ zcn t N x y b 11 N = y ∧ zcn t N x y b 13 N = b ∧ zcn t N x y b 3 13 = Int32.ofNat (N + 1) := by
  unfold zcn
  refine ⟨?_, ?_, ?_, ?_⟩ <;> simp (disch := first | omega | decide | assumption) only [zu_same, zu_ne1, zu_ne2, zu_row, pl_bd, pl_pt, pl_let, zn_set, zn_get, zn_rd, zn_wr, zn_1, zn_m, Nat.reduceAdd]
theorem zcn_lt {t : zS} {N c : Nat} {x y b : Int32} (h : ¬ c = N) : zcn t N x y b 9 c = t 9 c ∧ zcn t N x y b 11 c = t 11 c ∧ zcn t N x y b 13 c = t 13 c := by
  unfold zcn
  refine ⟨?_, ?_, ?_⟩ <;> simp (disch := first | omega | decide | assumption) only [zu_same, zu_ne1, zu_ne2, zu_row, pl_bd, pl_pt, pl_let, zn_set, zn_get, zn_rd, zn_wr, zn_1, zn_m, Nat.reduceAdd]
theorem zcn_row {t : zS} {N k : Nat} {x y b : Int32} (h : ¬ (k = 3 ∨ k = 9 ∨ k = 11 ∨ k = 13)) : zcn t N x y b k = t k := by
  unfold zcn
  simp (disch := first | omega | decide | assumption) only [zu_same, zu_ne1, zu_ne2, zu_row, pl_bd, pl_pt, pl_let, zn_set, zn_get, zn_rd, zn_wr, zn_1, zn_m, Nat.reduceAdd]
theorem zcn_3 {t : zS} {N j : Nat} {x y b : Int32} (h : ¬ j = 13) : zcn t N x y b 3 j = t 3 j := by
  unfold zcn
  simp (disch := first | omega | decide | assumption) only [zu_same, zu_ne1, zu_ne2, zu_row, pl_bd, pl_pt, pl_let, zn_set, zn_get, zn_rd, zn_wr, zn_1, zn_m, Nat.reduceAdd]
theorem zmn_at {u : zS} {M : Nat} {x y z : Int32} : zmn u M x y z 5 M = x ∧ zmn u M x y z 6 M = y ∧ zmn u M x y z 7 M = z ∧ zmn u M x y z 8 M = 0 ∧ zmn u M x y z 0 14 = Int32.ofNat (M + 1) := by
  unfold zmn
  refine ⟨?_, ?_, ?_, ?_, ?_⟩ <;> simp (disch := first | omega | decide | assumption) only [zu_same, zu_ne1, zu_ne2, zu_row, pl_bd, pl_pt, pl_let, zn_set, zn_get, zn_rd, zn_wr, zn_1, zn_m, Nat.reduceAdd]
theorem zmn_lt {u : zS} {M c : Nat} {x y z : Int32} (h : ¬ c = M) : zmn u M x y z 5 c = u 5 c ∧ zmn u M x y z 6 c = u 6 c ∧ zmn u M x y z 7 c = u 7 c ∧ zmn u M x y z 8 c = u 8 c := by
  unfold zmn
  refine ⟨?_, ?_, ?_, ?_⟩ <;> simp (disch := first | omega | decide | assumption) only [zu_same, zu_ne1, zu_ne2, zu_row, pl_bd, pl_pt, pl_let, zn_set, zn_get, zn_rd, zn_wr, zn_1, zn_m, Nat.reduceAdd]
theorem zmn_row {u : zS} {M k : Nat} {x y z : Int32} (h : ¬ (k = 0 ∨ k = 5 ∨ k = 6 ∨ k = 7 ∨ k = 8)) : zmn u M x y z k = u k := by
  unfold zmn
  simp (disch := first | omega | decide | assumption) only [zu_same, zu_ne1, zu_ne2, zu_row, pl_bd, pl_pt, pl_let, zn_set, zn_get, zn_rd, zn_wr, zn_1, zn_m, Nat.reduceAdd]
theorem zmn_0 {u : zS} {M j : Nat} {x y z : Int32} (h : ¬ j = 14) : zmn u M x y z 0 j = u 0 j := by
  unfold zmn
  simp (disch := first | omega | decide | assumption) only [zu_same, zu_ne1, zu_ne2, zu_row, pl_bd, pl_pt, pl_let, zn_set, zn_get, zn_rd, zn_wr, zn_1, zn_m, Nat.reduceAdd]
theorem zup_at (f : Nat → Nat) (a b : Nat) : zup f a b a = b := by unfold zup; rw [if_pos rfl]
theorem zup_ne {f : Nat → Nat} {a b c : Nat} (h : ¬ c = a) : zup f a b c = f c := by unfold zup; rw [if_neg h]
/-- the reference's node alone -/
theorem zTB_addM {G : zTxt} {S H i d : Nat} {f : Nat → Nat} {X : List Nat} {N M P A q : Nat} {t u : zS} {x y z : Int32} (h : zTB G S H i d f X N M P A q t u) : zTB G S H i d f X N (M + 1) P A q t (zmn u M x y z) := by
  obtain ⟨a1, a2, a3, ⟨b1, b2, b3, b4, b5, b6, b7⟩, ⟨c1, c2, c3, c4⟩, a6⟩ := h
  refine ⟨zAt_of a1 (fun _ _ _ => rfl) rfl rfl (fun j j1 j2 => zmn_0 (by omega)) (zmn_row (by omega)) (zmn_row (by omega)) (zmn_row (by omega)), a2, ?_, ⟨b1, zmn_at.2.2.2.2, b3, ?_, fun c hc => ?_, b6, fun c h1 h2 => ?_⟩, ⟨c1, ?_, fun k hk => ?_, ?_⟩, ?_⟩
  · rw [zmn_0 (by omega)]; exact a3
  · rw [zmn_0 (by omega)]; exact b4
  · have := b5 c hc; omega
  · have hlt := b5 c h1
    obtain ⟨e1, e2, e3, e4⟩ := zmn_lt (u := u) (x := x) (y := y) (z := z) (show ¬ f c = M by omega)
    exact zTL_ext (b7 c h1 h2) (Nat.le_refl _) (Nat.le_refl _) (Nat.le_refl _) h1 (fun _ _ => rfl) (fun _ _ => rfl) rfl rfl rfl (fun _ _ _ => ⟨rfl, rfl, rfl⟩) e1 e2 e3 e4 (fun a _ => ⟨by rw [zmn_row (by omega)], by rw [zmn_row (by omega)]⟩)
  · rw [zmn_0 (by omega)]; exact c2
  · obtain ⟨p1, v, w, p2, p3, p4, p5⟩ := c3 k hk
    unfold zA1
    rw [zmn_row (k := 36) (by omega), zmn_row (k := 35) (by omega), zmn_row (k := 37) (by omega), zmn_row (k := 38) (by omega)]
    refine ⟨p1, v, w, p2, p3, p4, ?_⟩
    rcases p5 with ⟨r1, r2, m, r3, r4, r5, r6⟩ | r
    · obtain ⟨e1, e2, e3, e4⟩ := zmn_lt (u := u) (x := x) (y := y) (z := z) (show ¬ m = M by omega)
      exact Or.inl ⟨r1, r2, m, by omega, r4, by rw [e2]; exact r5, by rw [e1]; exact r6⟩
    · exact Or.inr r
  · rw [zmn_row (k := 37) (by omega), zmn_row (k := 38) (by omega)]; exact c4
  · rw [zmn_0 (by omega)]; exact a6
theorem zTX_addM {f f0 : Nat → Nat} {N0 M0 P0 A0 H N M P A : Nat} {t0 u0 t u : zS} {x y z : Int32} (h : zTX f0 f N0 M0 P0 A0 H N M P A t0 u0 t u) : zTX f0 f N0 M0 P0 A0 H N (M + 1) P A t0 u0 t (zmn u M x y z) := by
  obtain ⟨a1, a2, a3, a4, a5, a6, a7, a8, a9, a10, a11, a12⟩ := h
  refine ⟨a1, by omega, a3, a4, a5, a6, a7, fun m hm => ?_, fun a ha => ?_, fun k hk => ?_, a11, ?_⟩
  · obtain ⟨e1, e2, e3, e4⟩ := zmn_lt (u := u) (x := x) (y := y) (z := z) (show ¬ m = M by omega)
    rw [e1, e2, e3, e4]; exact a8 m hm
  · rw [zmn_row (k := 9) (by omega), zmn_row (k := 10) (by omega)]; exact a9 a ha
  · rw [zmn_row (k := 39) (by omega)]; exact a10 k hk
  · unfold zmn
    exact zFP_zu (zFP_zu (zFP_zu (zFP_zu (zFP_zu a12 rfl) rfl) rfl) rfl) rfl
/-- the class's node, bound to one of the reference's -/
theorem zTB_addC {G : zTxt} {S H i d : Nat} {f : Nat → Nat} {X X2 : List Nat} {N M P A q m : Nat} {t u : zS} {x y b : Int32} (h : zTB G S H i d f X N M P A q t u) (hN : N < 3000) (hm : m < M) (hfr : ∀ c, c < N → ¬ f c = m) (hX : ∀ c, c ∈ X → c ∈ X2) (hk : x = 2 ∨ x = 3 → ∃ k, k < q ∧ u 37 k = 0 ∧ u 38 k = Int32.ofNat m) (hl : ¬ N ∈ X2 → zTL (zBk G) (zNm (zBk G)) (zup f N m) (N + 1) P A (zcn t N x y b) u N) : zTB G S H i d (zup f N m) X2 (N + 1) M P A q (zcn t N x y b) u := by
  obtain ⟨a1, a2, a3, ⟨b1, b2, b3, b4, b5, b6, b7⟩, ⟨c1, c2, c3, c4⟩, a6⟩ := h
  have hf : ∀ c, c < N → zup f N m c = f c := fun c hc => zup_ne (by omega)
  refine ⟨zAt_of a1 (fun j _ _ => by rw [zcn_row (by omega)]) (zcn_row (by omega)) (by rw [zcn_row (by omega)]) (fun _ _ _ => rfl) rfl rfl rfl, by rw [zcn_row (by omega)]; exact a2, a3, ⟨zcn_at.2.2.2, b2, by rw [zcn_3 (by omega)]; exact b3, b4, fun c hc => ?_, fun c c' hc hc' he => ?_, fun c h1 h2 => ?_⟩, ⟨by rw [zcn_row (by omega)]; exact c1, c2, fun k hk => ?_, fun c hc hk2 => ?_, by rw [zcn_row (by omega)]; exact c4.2⟩, a6⟩
  · by_cases e : c = N
    · rw [e, zup_at]; exact hm
    · rw [zup_ne e]; exact b5 c (by omega)
  · by_cases e : c = N
    · by_cases e' : c' = N
      · omega
      · rw [e, zup_at, zup_ne e'] at he; exact absurd he.symm (hfr c' (by omega))
    · by_cases e' : c' = N
      · rw [e', zup_at, zup_ne e] at he; exact absurd he (hfr c (by omega))
      · rw [zup_ne e, zup_ne e'] at he; exact b6 c c' (by omega) (by omega) he
  · by_cases e : c = N
    · rw [e] at h2 ⊢; exact hl h2
    · obtain ⟨e1, e2, e3⟩ := zcn_lt (t := t) (x := x) (y := y) (b := b) e
      exact zTL_ext (b7 c (by omega) (fun w => h2 (hX c w))) (by omega) (Nat.le_refl _) (Nat.le_refl _) (by omega) hf (fun k _ => zup_ne (by omega)) e1 e2 e3 (fun k _ _ => ⟨by rw [zcn_row (by omega)], by rw [zcn_row (by omega)], by rw [zcn_row (by omega)]⟩) rfl rfl rfl rfl (fun _ _ => ⟨rfl, rfl⟩)
  · have := c3 k hk
    unfold zA1 at this ⊢
    rw [zcn_row (k := 54) (by omega), zcn_row (k := 56) (by omega), zcn_row (k := 93) (by omega), zcn_row (k := 87) (by omega)]
    exact this
  · by_cases e : c = N
    · rw [e, zcn_at.1] at hk2
      rw [e, zup_at]; exact hk hk2
    · rw [(zcn_lt e).1] at hk2
      rw [zup_ne e]; exact c4.1 c (by omega) hk2
theorem zTX_addC {f f0 : Nat → Nat} {N0 M0 P0 A0 H N M P A m : Nat} {t0 u0 t u : zS} {x y b : Int32} (h : zTX f0 f N0 M0 P0 A0 H N M P A t0 u0 t u) (hN : N < 3000) (hm : M0 ≤ m) : zTX f0 (zup f N m) N0 M0 P0 A0 H (N + 1) M P A t0 u0 (zcn t N x y b) u := by
  obtain ⟨a1, a2, a3, a4, a5, a6, a7, a8, a9, a10, a11, a12⟩ := h
  refine ⟨by omega, a2, a3, a4, fun c hc => ?_, fun c h1 h2 => ?_, fun k hk => ?_, a8, a9, a10, ?_, a12⟩
  · obtain ⟨e1, e2, e3⟩ := zcn_lt (t := t) (x := x) (y := y) (b := b) (show ¬ c = N by omega)
    rw [e1, e2, e3, zup_ne (by omega)]; exact a5 c hc
  · by_cases e : c = N
    · rw [e, zup_at]; exact hm
    · rw [zup_ne e]; exact a6 c h1 (by omega)
  · rw [zcn_row (k := 15) (by omega), zcn_row (k := 17) (by omega), zcn_row (k := 19) (by omega), zup_ne (by omega)]; exact a7 k hk
  · unfold zcn
    exact zFP_zu (zFP_zu (zFP_zu (zFP_zu a11 rfl) rfl) rfl) rfl
theorem zW_add {t : zS} {N : Nat} {x y b : Int32} : zW (zcn t N x y b 9) (zcn t N x y b 13) (N + 1) = zW (t 9) (t 13) N + (if x = 4 ∨ x = 5 then 1 else if x = 6 ∨ x = 7 then 2 else if x = 8 ∨ x = 9 then b.toNatClampNeg else 0) := by
  conv => lhs; unfold zW
  rw [zcn_at.1, zcn_at.2.2.1, zW_congr N (fun c hc => ⟨(zcn_lt (by omega)).1, fun _ => (zcn_lt (by omega)).2.2⟩)]
/-- a mention and an ask more -/
def zcm (t : zS) (k : Nat) (x : Int32) : zS := zu (zu (zu t 54 k (t 5 10)) 56 k x) 5 7 (Int32.ofNat (k + 1))
def zmk (u : zS) (k : Nat) (x : Int32) : zS := zu (zu (zu (zu (zu u 35 k (u 0 8)) 36 k (u 0 6)) 37 k 0) 38 k x) 0 52 (Int32.ofNat (k + 1))
/-- a word's place isn't negative -/
theorem zAt_0le {G : zTxt} {i : Nat} {t u : zS} (h : zAt G i t u) : 0 ≤ t 5 10 := by
  rw [(zAt_w h).2.2.1]
  have h3 := h.2.2.2.1
  refine zn_0le ?_
  rcases Nat.lt_or_ge i G.2.2.1 with q | q
  · have := (h.1.2.2.1 i q).1
    omega
  · have e : i = G.2.2.1 := by have := h.2.2.2.2.1; omega
    rw [e, h.1.1]
    omega
theorem zTB_ask {G : zTxt} {S H i d : Nat} {f : Nat → Nat} {X : List Nat} {N M P A q m v w : Nat} {t u : zS} (h : zTB G S H i d f X N M P A q t u) (hm : m < M) (hv : v < 1600) (h8 : u 0 8 = Int32.ofNat w) (hw : (zBk G)[w]? = some v) (h5 : u 5 m = 1 ∨ u 5 m = 2) (h6 : u 6 m = Int32.ofNat w) : zTB G S H i d f X N M P A (q + 1) (zcm t q (Int32.ofNat (2 * v))) (zmk u q (Int32.ofNat m)) ∧ zmk u q (Int32.ofNat m) 37 q = 0 ∧ zmk u q (Int32.ofNat m) 38 q = Int32.ofNat m := by
  have hpl := (zAt_w h.1).2.1
  have hpl0 := zAt_0le h.1
  obtain ⟨a1, a2, a3, b, ⟨c1, c2, c3, c4⟩, a6⟩ := h
  have rc : ∀ k, ¬ (k = 5 ∨ k = 54 ∨ k = 56) → zcm t q (Int32.ofNat (2 * v)) k = t k := fun k hk => by unfold zcm; simp (disch := first | omega | decide | assumption) only [zu_same, zu_ne1, zu_ne2, zu_row, pl_bd, pl_pt, pl_let, zn_set, zn_get, zn_rd, zn_wr, zn_1, zn_m, Nat.reduceAdd]
  have r5 : ∀ j, ¬ j = 7 → zcm t q (Int32.ofNat (2 * v)) 5 j = t 5 j := fun j hj => by unfold zcm; simp (disch := first | omega | decide | assumption) only [zu_same, zu_ne1, zu_ne2, zu_row, pl_bd, pl_pt, pl_let, zn_set, zn_get, zn_rd, zn_wr, zn_1, zn_m, Nat.reduceAdd]
  have rm : ∀ k, ¬ (k = 0 ∨ k = 35 ∨ k = 36 ∨ k = 37 ∨ k = 38) → zmk u q (Int32.ofNat m) k = u k := fun k hk => by unfold zmk; simp (disch := first | omega | decide | assumption) only [zu_same, zu_ne1, zu_ne2, zu_row, pl_bd, pl_pt, pl_let, zn_set, zn_get, zn_rd, zn_wr, zn_1, zn_m, Nat.reduceAdd]
  have r0 : ∀ j, ¬ j = 52 → zmk u q (Int32.ofNat m) 0 j = u 0 j := fun j hj => by unfold zmk; simp (disch := first | omega | decide | assumption) only [zu_same, zu_ne1, zu_ne2, zu_row, pl_bd, pl_pt, pl_let, zn_set, zn_get, zn_rd, zn_wr, zn_1, zn_m, Nat.reduceAdd]
  have k37 : zmk u q (Int32.ofNat m) 37 q = 0 := by unfold zmk; simp (disch := first | omega | decide | assumption) only [zu_same, zu_ne1, zu_ne2, zu_row, pl_bd, pl_pt, pl_let, zn_set, zn_get, zn_rd, zn_wr, zn_1, zn_m, Nat.reduceAdd]
  have k38 : zmk u q (Int32.ofNat m) 38 q = Int32.ofNat m := by unfold zmk; simp (disch := first | omega | decide | assumption) only [zu_same, zu_ne1, zu_ne2, zu_row, pl_bd, pl_pt, pl_let, zn_set, zn_get, zn_rd, zn_wr, zn_1, zn_m, Nat.reduceAdd]
  have lt : ∀ k, k < q → zcm t q (Int32.ofNat (2 * v)) 54 k = t 54 k ∧ zcm t q (Int32.ofNat (2 * v)) 56 k = t 56 k ∧ zmk u q (Int32.ofNat m) 35 k = u 35 k ∧ zmk u q (Int32.ofNat m) 36 k = u 36 k ∧ zmk u q (Int32.ofNat m) 37 k = u 37 k ∧ zmk u q (Int32.ofNat m) 38 k = u 38 k := fun k hk => by
    unfold zcm zmk
    refine ⟨?_, ?_, ?_, ?_, ?_, ?_⟩ <;> simp (disch := first | omega | decide | assumption) only [zu_same, zu_ne1, zu_ne2, zu_row, pl_bd, pl_pt, pl_let, zn_set, zn_get, zn_rd, zn_wr, zn_1, zn_m, Nat.reduceAdd]
  refine ⟨⟨zAt_of a1 (fun j _ _ => r5 j (by omega)) (rc 67 (by omega)) (by rw [rc 50 (by omega)]) (fun j j1 _ => r0 j (by omega)) (rm 2 (by omega)) (rm 3 (by omega)) (rm 4 (by omega)), by rw [r5 13 (by omega)]; exact a2, by rw [r0 10 (by omega)]; exact a3, zTD_of b (by rw [rc 3 (by omega)]) (by rw [rc 3 (by omega)]) (r0 14 (by omega)) (r0 19 (by omega)) (rc 9 (by omega)) (rc 11 (by omega)) (rc 13 (by omega)) (rc 15 (by omega)) (rc 17 (by omega)) (rc 19 (by omega)) (rm 5 (by omega)) (rm 6 (by omega)) (rm 7 (by omega)) (rm 8 (by omega)) (rm 9 (by omega)) (rm 10 (by omega)), ⟨by unfold zcm; simp (disch := first | omega | decide | assumption) only [zu_same, zu_ne1, zu_ne2, zu_row, pl_bd, pl_pt, pl_let, zn_set, zn_get, zn_rd, zn_wr, zn_1, zn_m, Nat.reduceAdd], by unfold zmk; simp (disch := first | omega | decide | assumption) only [zu_same, zu_ne1, zu_ne2, zu_row, pl_bd, pl_pt, pl_let, zn_set, zn_get, zn_rd, zn_wr, zn_1, zn_m, Nat.reduceAdd], fun k hk => ?_, fun c hc hk => ?_, fun s hs hk => ?_⟩, by rw [r0 59 (by omega)]; exact a6⟩, k37, k38⟩
  · unfold zA1
    rw [rm 5 (by omega), rm 6 (by omega), rc 93 (by omega), rc 87 (by omega)]
    by_cases e : k = q
    · subst e
      rw [k37, k38]
      refine ⟨⟨by unfold zcm zmk; simp (disch := first | omega | decide | assumption) only [zu_same, zu_ne1, zu_ne2, zu_row, pl_bd, pl_pt, pl_let, zn_set, zn_get, zn_rd, zn_wr, zn_1, zn_m, Nat.reduceAdd, hpl], by unfold zcm; simp (disch := first | omega | decide | assumption) only [zu_same, zu_ne1, zu_ne2, zu_row, pl_bd, pl_pt, pl_let, zn_set, zn_get, zn_rd, zn_wr, zn_1, zn_m, Nat.reduceAdd]; exact hpl0⟩, v, w, hv, hw, by unfold zmk; simp (disch := first | omega | decide | assumption) only [zu_same, zu_ne1, zu_ne2, zu_row, pl_bd, pl_pt, pl_let, zn_set, zn_get, zn_rd, zn_wr, zn_1, zn_m, Nat.reduceAdd, h8], Or.inl ⟨by unfold zcm; simp (disch := first | omega | decide | assumption) only [zu_same, zu_ne1, zu_ne2, zu_row, pl_bd, pl_pt, pl_let, zn_set, zn_get, zn_rd, zn_wr, zn_1, zn_m, Nat.reduceAdd], rfl, m, hm, rfl, h6, h5⟩⟩
    · obtain ⟨e1, e2, e3, e4, e5, e6⟩ := lt k (by omega)
      rw [e1, e2, e3, e4, e5, e6]
      exact c3 k (by omega)
  · rw [rc 9 (by omega)] at hk
    obtain ⟨k, k1, k2, k3⟩ := c4.1 c hc hk
    obtain ⟨e1, e2, e3, e4, e5, e6⟩ := lt k k1
    exact ⟨k, by omega, by rw [e5]; exact k2, by rw [e6]; exact k3⟩
  · rw [rc 87 (by omega)] at hk
    obtain ⟨k, k1, k2, k3⟩ := c4.2 s hs hk
    obtain ⟨e1, e2, e3, e4, e5, e6⟩ := lt k k1
    exact ⟨k, by omega, by rw [e5]; exact k2, by rw [e6]; exact k3⟩
theorem zTX_ask {f f0 : Nat → Nat} {N0 M0 P0 A0 H N M P A q : Nat} {t0 u0 t u : zS} {x y : Int32} (h : zTX f0 f N0 M0 P0 A0 H N M P A t0 u0 t u) : zTX f0 f N0 M0 P0 A0 H N M P A t0 u0 (zcm t q x) (zmk u q y) := by
  obtain ⟨a1, a2, a3, a4, a5, a6, a7, a8, a9, a10, a11, a12⟩ := h
  have rc : ∀ k, ¬ (k = 5 ∨ k = 54 ∨ k = 56) → zcm t q x k = t k := fun k hk => by unfold zcm; simp (disch := first | omega | decide | assumption) only [zu_same, zu_ne1, zu_ne2, zu_row, pl_bd, pl_pt, pl_let, zn_set, zn_get, zn_rd, zn_wr, zn_1, zn_m, Nat.reduceAdd]
  have rm : ∀ k, ¬ (k = 0 ∨ k = 35 ∨ k = 36 ∨ k = 37 ∨ k = 38) → zmk u q y k = u k := fun k hk => by unfold zmk; simp (disch := first | omega | decide | assumption) only [zu_same, zu_ne1, zu_ne2, zu_row, pl_bd, pl_pt, pl_let, zn_set, zn_get, zn_rd, zn_wr, zn_1, zn_m, Nat.reduceAdd]
  rw [zTX, rc 9 (by omega), rc 11 (by omega), rc 13 (by omega), rc 15 (by omega), rc 17 (by omega), rc 19 (by omega), rm 5 (by omega), rm 6 (by omega), rm 7 (by omega), rm 8 (by omega), rm 9 (by omega), rm 10 (by omega), rm 39 (by omega)]
  refine ⟨a1, a2, a3, a4, a5, a6, a7, a8, a9, a10, ?_, ?_⟩
  · unfold zcm
    exact zFP_zu (zFP_zu (zFP_zu a11 rfl) rfl) rfl
  · unfold zmk
    exact zFP_zu (zFP_zu (zFP_zu (zFP_zu (zFP_zu a12 rfl) rfl) rfl) rfl) rfl
theorem zc_nd {t : zS} {N : Nat} {x y : Int32} (h : t 3 13 = Int32.ofNat N) (hN : N < 3000) : mX2_node x y t = some (Int32.ofNat N, zcn t N x y (if x < 8 then -1 else 0)) := zc_node h hN
theorem zm_nd {u : zS} {M : Nat} {x y z : Int32} (h : u 0 14 = Int32.ofNat M) (hM : M < 3100) : mX12_node x y z u = some (Int32.ofNat M, zmn u M x y z) := zm_node h hM
theorem zc_mn {t : zS} {k : Nat} {x : Int32} (h : t 5 7 = Int32.ofNat k) (hN : k < 1600) : mX7_mentionName x t = some (0, zcm t k (2 * t 5 11 + x)) := zc_mention h hN
theorem zm_ak {u : zS} {k : Nat} {x : Int32} (h : u 0 52 = Int32.ofNat k) (hM : k < 3000) : mX12_ask 0 x u = some (0, zmk u k x) := zm_ask h hM
