/-! end, NAMES and ~ NAMES -/
theorem zHb_pre {G : zTxt} {z y p S H i i1 d : Nat} {f : Nat → Nat} {X : List Nat} {N M P A : Nat} {t u t1 u1 t2 : zS} {rc : Int32} {g : GgX12_type} {k6 : Int32 → Int32 → Int32 → zS → zR} {x1 x2 : Int32} {b : zR} (xx : zTX f f N M P A H N M P A t u t1 u1) (hi : i ≤ i1) (h : zHb G z y p S H i1 d f X N M P A t1 u1 t2 rc g k6 x1 x2 b) : zHb G z y p S H i d f X N M P A t u t2 rc g k6 x1 x2 b := by
  rcases h with ⟨rm, more, u2, e, i2, f2, N2, M2, P2, A2, q2, c, o1, o2, o3, o4, o5, o6, o7, o8⟩ | ⟨rm, u2, e, w⟩ | ⟨rm, more, u2, e, w⟩
  · refine Or.inl ⟨rm, more, u2, e, i2, f2, N2, M2, P2, A2, q2, c, by omega, zTX_trans xx o2 (Nat.le_refl _), o3, o4, o5, o6, o7, ?_⟩
    rcases o8 with o | ⟨o8, o9, o10⟩
    · exact Or.inl o
    · exact Or.inr ⟨o8, by omega, o10⟩
  · exact Or.inr (Or.inl ⟨rm, u2, e, zXE_pre w (zTX_C xx) (zTX_M xx)⟩)
  · exact Or.inr (Or.inr ⟨rm, more, u2, e, zXE_pre w (zTX_C xx) (zTX_M xx)⟩)
theorem zEnd {gM : GgX12_type} {k6 : Int32 → Int32 → Int32 → zS → zR} {x1 x2 : Int32} {G : zTxt} {z y p S H i d : Nat} {f : Nat → Nat} {X : List Nat} {N M P A q : Nat} {t u : zS} (h : zTS G z y p S H i d f X N M P A q t u) (hq : 2 * q ≤ i) (h9 : t 5 9 = 16) : ∃ rc t2, (zbd (mX7_step t) fun _ t1 => zbd (mX2_node 0 (-1) t1) fun r t2 => some (r, t2)) = some (rc, t2) ∧ zHb G z y p S H i d f X N M P A t u t2 rc gM k6 x1 x2 (zbd (mX12_next u) fun _ u1 => zbd (mX12_node 0 (-1) (-1) u1) fun r u2 => bX12_type_306 gM k6 x1 x2 0 r u2) := by
  obtain ⟨t1, u1, r1, r2, h1, xx, v9, v13, _⟩ := zTB_step h.1 (by rw [h9]; decide)
  obtain ⟨_, n1, n2, n3, n4, n5⟩ := h
  have hl1 := zAt_lt h1.1
  have b5 := h1.2.2.2.1.2.2.2.2.1
  rw [r1, pl_bd, r2, pl_bd, zc_nd h1.2.2.2.1.1 (by omega), pl_bd, zm_nd h1.2.2.2.1.2.1 (by omega), pl_bd, if_pos (by decide)]
  have hB := zTB_addC (X2 := X) (x := 0) (y := -1) (b := -1) (zTB_addM (x := 0) (y := -1) (z := -1) h1) (by omega) (Nat.lt_succ_self M) (fun c hc => by have := b5 c hc; omega) (fun c hc => hc) (fun e => absurd e (by decide)) (fun _ => Or.inl ⟨zcn_at.1, by rw [zup_at]; exact zmn_at.1⟩)
  refine ⟨_, _, rfl, Or.inl ⟨_, _, _, rfl, i + 1, zup f N M, N + 1, M + 1, P, A, q, N, by omega, zTX_addC (zTX_addM xx) (by omega) (Nat.le_refl _), Nat.le_refl _, by omega, rfl, by rw [zup_at], by omega, Or.inl ⟨rfl, ⟨hB, by omega, by omega, by omega, by omega, ?_⟩, by omega, Or.inl zcn_at.1⟩⟩⟩
  rw [zW_add, if_neg (by decide), if_neg (by decide), if_neg (by decide), v9, v13]
  omega
theorem zNamed {gM : GgX12_type} {k6 : Int32 → Int32 → Int32 → zS → zR} {x1 x2 x x5 b1 : Int32} {G : zTxt} {z y p S H i d : Nat} {f : Nat → Nat} {X : List Nat} {N M P A q : Nat} {t u : zS} (h : zTS G z y p S H i d f X N M P A q t u) (hq : 2 * q ≤ i) (hx : (x = 2 ∧ x5 = 0 ∧ b1 = 1) ∨ (x = 3 ∧ x5 = 1 ∧ b1 = 2)) : ∃ rc t2, mX7_readNamed x t = some (rc, t2) ∧ zHb G z y p S H i d f X N M P A t u t2 rc gM k6 x1 x2 (bX12_type_211 gM k6 x1 x2 0 x5 u) := by
  have hm1 := zAt_m1 h.1.1
  have hnm := zAt_nm h.1.1
  unfold mX7_readNamed bX12_type_211
  by_cases q17 : t 5 9 = 17
  · rw [if_pos q17, if_pos (hnm.mpr q17), if_pos (by rw [hm1.2]; decide)]
    obtain ⟨v, w, v1, v2, v3, v4, v5⟩ := zAt_nmv h.1.1 q17
    have hl : i + 1 ≤ 3000 := by
      obtain ⟨t1, u1, r1, r2, h1, _⟩ := zTB_step h.1 (by rw [q17]; decide)
      exact zAt_lt h1.1
    have hb := h.1
    obtain ⟨_, n1, n2, n3, n4, n5⟩ := h
    have b5 := hb.2.2.2.1.2.2.2.2.1
    have eM : ∀ g : zR, (if x5 = 0 then bX12_type_246 gM k6 x1 x2 0 1 u else bX12_type_246 gM k6 x1 x2 0 2 u) = bX12_type_246 gM k6 x1 x2 0 b1 u := fun _ => by
      rcases hx with e | e
      · rw [e.2.1, e.2.2, if_pos rfl]
      · rw [e.2.1, e.2.2, if_neg pl_10]
    rw [eM none]
    unfold bX12_type_246
    have hbM := zTB_addM (x := b1) (y := u 0 8) (z := -1) hb
    obtain ⟨hA, a37, a38⟩ := zTB_ask hbM (Nat.lt_succ_self M) v4 (by rw [zmn_0 (by omega)]; exact v2) v5 (by rw [zmn_at.1]; rcases hx with e | e <;> rw [e.2.2] <;> decide) (by rw [zmn_at.2.1]; exact v2)
    have e2 : 2 * t 5 11 + 0 = Int32.ofNat (2 * v) := by
      rw [v1]
      show Int32.ofNat 2 * Int32.ofNat v + Int32.ofNat 0 = _
      rw [zn_mul, zn_add]; rfl
    have l2 : (if x < 8 then (-1 : Int32) else 0) = -1 := by rcases hx with e | e <;> rw [e.1] <;> decide
    have c11 : zcm t q (Int32.ofNat (2 * v)) 5 11 = Int32.ofNat v := by unfold zcm; simp (disch := first | omega | decide | assumption) only [zu_same, zu_ne1, zu_ne2, zu_row, pl_bd, pl_pt, pl_let, zn_set, zn_get, zn_rd, zn_wr, zn_1, zn_m, Nat.reduceAdd, v1]
    rw [zc_mn hb.2.2.2.2.1.1 (by omega), pl_bd, e2, c11, zc_nd hA.2.2.2.1.1 (by omega), pl_bd, zm_nd hb.2.2.2.1.2.1 (by omega), pl_bd, zm_ak (by rw [zmn_0 (by omega)]; exact hb.2.2.2.2.1.2.1) (by omega), pl_bd, l2]
    have hB := zTB_addC (m := M) (X2 := X) (x := x) (y := Int32.ofNat v) (b := -1) hA (by omega) (Nat.lt_succ_self M) (fun c hc => by have := b5 c hc; omega) (fun c hc => hc) (fun _ => ⟨q, by omega, a37, a38⟩) (fun _ => by
      refine Or.inr (Or.inl ⟨?_, ?_⟩)
      · rw [zcn_at.1, zup_at]
        have : zmk (zmn u M b1 (u 0 8) (-1)) q (Int32.ofNat M) 5 M = b1 := by
          unfold zmk; simp (disch := first | omega | decide | assumption) only [zu_same, zu_ne1, zu_ne2, zu_row, pl_bd, pl_pt, pl_let, zn_set, zn_get, zn_rd, zn_wr, zn_1, zn_m, Nat.reduceAdd]; exact zmn_at.1
        rw [this]
        rcases hx with e | e
        · exact Or.inl ⟨e.1, e.2.2⟩
        · exact Or.inr ⟨e.1, e.2.2⟩
      · rw [zcn_at.2.1, zup_at]
        have : zmk (zmn u M b1 (u 0 8) (-1)) q (Int32.ofNat M) 6 M = Int32.ofNat w := by
          unfold zmk; simp (disch := first | omega | decide | assumption) only [zu_same, zu_ne1, zu_ne2, zu_row, pl_bd, pl_pt, pl_let, zn_set, zn_get, zn_rd, zn_wr, zn_1, zn_m, Nat.reduceAdd]; rw [zmn_at.2.1]; exact v2
        rw [this]
        exact ⟨v, w, v4, rfl, rfl, v5⟩)
    have xx : zTX f f N M P A H N (M + 1) P A t u (zcm t q (Int32.ofNat (2 * v))) (zmk (zmn u M b1 (u 0 8) (-1)) q (Int32.ofNat M)) := zTX_ask (zTX_addM zTX_refl)
    have xx2 := zTX_addC (x := x) (y := Int32.ofNat v) (b := -1) xx (by omega) (Nat.le_refl M)
    have q17' : zcn (zcm t q (Int32.ofNat (2 * v))) N x (Int32.ofNat v) (-1) 5 9 = 17 := by
      rw [zcn_row (by omega)]; unfold zcm; simp (disch := first | omega | decide | assumption) only [zu_same, zu_ne1, zu_ne2, zu_row, pl_bd, pl_pt, pl_let, zn_set, zn_get, zn_rd, zn_wr, zn_1, zn_m, Nat.reduceAdd, q17]
    obtain ⟨t1, u1, r1, r2, h1, xx3, v9, v13, _⟩ := zTB_step hB (by rw [q17']; decide)
    rw [r1, pl_bd, r2, pl_bd]
    have x4 : ¬ (x = 4 ∨ x = 5) := by rcases hx with e | e <;> rw [e.1] <;> decide
    have x6 : ¬ (x = 6 ∨ x = 7) := by rcases hx with e | e <;> rw [e.1] <;> decide
    have x8 : ¬ (x = 8 ∨ x = 9) := by rcases hx with e | e <;> rw [e.1] <;> decide
    refine ⟨_, _, rfl, Or.inl ⟨_, _, _, rfl, i + 1, zup f N M, N + 1, M + 1, P, A, q + 1, N, by omega, zTX_trans xx2 xx3 (Nat.le_refl _), Nat.le_refl _, by omega, rfl, by rw [zup_at], by omega, Or.inl ⟨rfl, ⟨h1, by omega, by omega, by omega, by omega, ?_⟩, by omega, ?_⟩⟩⟩
    · rw [v9, v13, zW_add, if_neg x4, if_neg x6, if_neg x8]
      have c9 : zcm t q (Int32.ofNat (2 * v)) 9 = t 9 := by unfold zcm; simp (disch := first | omega | decide | assumption) only [zu_same, zu_ne1, zu_ne2, zu_row, pl_bd, pl_pt, pl_let, zn_set, zn_get, zn_rd, zn_wr, zn_1, zn_m, Nat.reduceAdd]
      have c13 : zcm t q (Int32.ofNat (2 * v)) 13 = t 13 := by unfold zcm; simp (disch := first | omega | decide | assumption) only [zu_same, zu_ne1, zu_ne2, zu_row, pl_bd, pl_pt, pl_let, zn_set, zn_get, zn_rd, zn_wr, zn_1, zn_m, Nat.reduceAdd]
      rw [c9, c13]; omega
    · rw [v9, zcn_at.1]
      rcases hx with e | e
      · exact Or.inr (Or.inl e.1)
      · exact Or.inr (Or.inr (Or.inl e.1))
  · obtain ⟨t2, u2, r1, r2, r3⟩ := zTS_no h
    rw [if_neg q17, if_neg (fun e => q17 (hnm.mp e)), r1, pl_bd]
    unfold bX12_type_226
    rw [r2, pl_bd]
    exact ⟨_, _, rfl, Or.inr (Or.inl ⟨_, _, rfl, r3⟩)⟩
