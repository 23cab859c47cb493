/-! a whole TYPE in lockstep -/
theorem zChoice {gC : GgX7_readForm} {gM : GgX12_type} {G : zTxt} {z y p S H i d : Nat} {f : Nat → Nat} {X : List Nat} {N M P A q : Nat} {x xr ch : Int32} {t u : zS} (h : zTS G z y p S H i d f X N M P A q t u) (hq : 2 * q ≤ i) (hd : d ≤ 40) (hF : d < 40 → zPF (d + 1) gC.1 gM.1) (hx : (x = 8 ∧ xr = 7 ∧ ch = 43) ∨ (x = 9 ∧ xr = 8 ∧ ch = 38)) (h9 : t 5 9 = ch) :
    ∃ rc t2 rm u2, mX7_readChoice gC x t = some (rc, t2) ∧ mX12_choices gM u = some (rm, u2) ∧ (zHok G z y p S H i d f X N M P A t u t2 u2 rc rm 0 ∨ zXE z H t u t2 u2) := by
  have hl := zAt_lt h.1.1
  have hsg := zAt_sg h.1.1 (show (43 : Int32) ∈ zSgs by decide)
  have n5 := h.2.2.2.2.2
  have n1 := h.2.1
  have n2 := h.2.2.1
  have n3 := h.2.2.2.1
  have n4 := h.2.2.2.2.1
  have eM : mX12_choices gM u = bX12_choices_17 gM xr u := by
    unfold mX12_choices
    rw [hsg, pl_bd, h9]
    rcases hx with e | e
    · rw [e.2.2, e.2.1, if_pos rfl, if_neg pl_10]
    · rw [e.2.2, e.2.1, if_neg (show ¬ (38 : Int32) = 43 by decide), if_pos rfl]
  have hB0 := zTB_addM (x := xr) (y := -1) (z := -1) h.1
  have xx0 : zTX f f N M P A H N (M + 1) P A t u t (zmn u M xr (-1) (-1)) := zTX_addM zTX_refl
  have w5 : zmn u M xr (-1) (-1) 5 M = xr := zmn_at.1
  rw [eM]
  unfold mX7_readChoice bX12_choices_17
  rw [zm_nd h.1.2.2.2.1.2.1 (by omega), pl_bd]
  generalize zmn u M xr (-1) (-1) = ua at *
  obtain ⟨t1, u1, r1, r2, h1, x1', v9, v13, _, vm⟩ := zTB_step hB0 (by rw [h9]; rcases hx with e | e <;> rw [e.2.2] <;> decide)
  have hl1 := zAt_lt h1.1
  rw [r1, pl_bd, r2, pl_bd, zAt_sg h1.1 (c := 123) (by decide), pl_bd]
  have h1' : zTS G z y p S H (i + 1) d f X N (M + 1) P A q t1 u1 := ⟨h1, by omega, by omega, by omega, by omega, by rw [v9, v13]; omega⟩
  obtain ⟨t2, r, u2, s1, s2, s3⟩ := zTS_enter h1' hd (c := 123) (by decide)
  rw [s1, pl_bd, s2, pl_bd]
  have xx1 := zTX_trans xx0 x1' (Nat.le_refl _)
  rcases s3 with ⟨rfl, s4, s5, s6⟩ | ⟨rfl, s4⟩
  · rw [if_neg pl_10, if_neg pl_10]
    have hl2 := zAt_lt s5.1.1
    have xx2 := zTX_trans xx1 s6 (Nat.le_refl _)
    have b5 := s5.1.2.2.2.1.2.2.2.2.1
    have hfN : ∀ c, c < N → ¬ f c = M := fun c hc => by have := h.1.2.2.2.1.2.2.2.2.1 c hc; omega
    have kx : x = 8 ∨ x = 9 := by
      rcases hx with e | e
      · exact Or.inl e.1
      · exact Or.inr e.1
    have l8 : (if x < 8 then (-1 : Int32) else 0) = 0 := by rcases kx with e | e <;> rw [e] <;> decide
    have hB := zTB_addC (m := M) (X2 := N :: X) (x := x) (y := -1) (b := 0) s5.1 (by omega) (Nat.lt_succ_self M) hfN (fun c hc => List.mem_cons_of_mem _ hc) (fun e => by exfalso; rcases kx with w | w <;> rw [w] at e <;> revert e <;> decide) (fun w => absurd List.mem_cons_self w)
    have xx3 := zTX_addC (x := x) (y := -1) (b := 0) xx2 (by omega) (Nat.le_refl M)
    rw [zc_nd s5.1.2.2.2.1.1 (by omega), pl_bd, pl_let, l8, s5.1.2.2.2.2.2]
    have hCL : zCL G z y p S H (i + 1 + 1) d (zup f N M) X N M x xr P (N + 1) (M + 1) P A q 0 (fun _ => 0) (zcn t2 N x (-1) 0) u2 := by
      refine ⟨hB, by omega, by omega, by omega, ?_, by omega, zup_at _ _ _, zcn_at.1, ?_, zcn_at.2.2.1, ⟨by rw [zcn_at.2.1, if_pos rfl], fun j hj => by omega⟩, fun j hj => by omega, fun j k h1 h2 => by omega, fun j hj => by omega⟩
      · rw [zW_add, if_neg (by rcases kx with w | w <;> rw [w] <;> decide), if_neg (by rcases kx with w | w <;> rw [w] <;> decide), if_pos kx]
        have e0 : (0 : Int32).toNatClampNeg = 0 := by decide
        rw [e0]
        have := s5.2.2.2.2.2
        omega
      · rw [(s6.2.2.2.2.2.2.2.1 M (by omega)).1, vm.1 5 (by decide) (by decide) (by decide)]
        exact w5
    obtain ⟨rc, t3, rm, u3, d1, d2, d3⟩ := zChL (x := x) (xr := xr) s4 (hF s4) (by rcases hx with e | e; exact Or.inl ⟨e.1, e.2.1⟩; exact Or.inr ⟨e.1, e.2.1⟩) (Nat.le_refl N) (Nat.le_refl M) 3001 (i + 1 + 1) (zFU - 3002) (zFU - 3003) (zup f N M) (N + 1) (M + 1) P A q 0 (fun _ => 0) (-1) (zcn t2 N x (-1) 0) u2 (by omega) rfl xx3 hCL (by omega) (by omega)
    rw [show zFU - 3002 + 3001 + 1 = zFU by unfold zFU; omega] at d1
    rw [show zFU - 3003 + 3001 + 2 = zFU by unfold zFU; omega] at d2
    refine ⟨rc, t3, rm, u3, d1, d2, ?_⟩
    rcases d3 with ⟨b3, b4, i3, f3, N3, M3, P3, A3, q3, c1, c2, c3, c4, c5, c6, c7, c8⟩ | b3
    · refine Or.inl ⟨i3, f3, N3, M3, P3, A3, q3, N, by omega, c2, Nat.le_refl _, c6, b3, by rw [b4, c7], c4, Or.inl ⟨rfl, c3, by omega, ?_⟩⟩
      rw [c8]
      rcases kx with w | w
      · exact Or.inr (Or.inr (Or.inr (Or.inl w)))
      · exact Or.inr (Or.inr (Or.inr (Or.inr w)))
    · exact Or.inr b3
  · rw [if_pos rfl, if_pos rfl]
    exact ⟨_, _, _, _, rfl, rfl, Or.inr (zXE_pre s4 (zTX_C xx1) (zTX_M xx1))⟩
/-- any first word -/
theorem zHead {gC g2 : GgX7_readForm} {gM m2 : GgX12_type} {k6 : Int32 → Int32 → Int32 → zS → zR} {x1 x2 : Int32} {G : zTxt} {z y p S H i d : Nat} {f : Nat → Nat} {X : List Nat} {N M P A q : Nat} {t u : zS} (h : zTS G z y p S H i d f X N M P A q t u) (hq : 2 * q ≤ i) (hd : d ≤ 40) (hF : d < 40 → zPF (d + 1) g2.1 gM.1) (hF2 : d < 40 → zPF (d + 1) g2.1 m2.1) (e1 : gC.2.2.1 = mX7_readMessage g2) (e2 : gC.2.2.2 = mX7_readChoice g2) (e3 : gM.2 = mX12_choices m2) :
    ∃ rc t2, mX7_readHead gC t = some (rc, t2) ∧ zHb G z y p S H i d f X N M P A t u t2 rc gM k6 x1 x2 (bX12_type_6 gM k6 x1 x2 1 u) := by
  have hm1 := zAt_m1 h.1.1
  have s33 := zAt_sg h.1.1 (show (33 : Int32) ∈ zSgs by decide)
  have s63 := zAt_sg h.1.1 (show (63 : Int32) ∈ zSgs by decide)
  have s126 := zAt_sg h.1.1 (show (126 : Int32) ∈ zSgs by decide)
  have s43 := zAt_sg h.1.1 (show (43 : Int32) ∈ zSgs by decide)
  have s38 := zAt_sg h.1.1 (show (38 : Int32) ∈ zSgs by decide)
  have k17 : mX12_isKey 17 u = some ((if t 5 9 = 16 then 1 else 0), u) := zAt_ky h.1.1 (k := 16) (by decide)
  have hnm := zAt_nm h.1.1
  unfold bX12_type_6
  rw [if_neg pl_10, if_neg (by rw [hm1.2]; decide), s33, pl_bd]
  unfold mX7_readHead bX12_type_38
  rw [pl_let]
  have nom : ¬ t 5 9 = 33 → ¬ t 5 9 = 63 → (if (if t 5 9 = 33 then (1 : Int32) else 0) = 0 then zbd (mX12_isSign 63 u) fun r t' => if r = 0 then bX12_type_43 gM k6 x1 x2 0 t' else bX12_type_43 gM k6 x1 x2 1 t' else bX12_type_43 gM k6 x1 x2 1 u) = bX12_type_43 gM k6 x1 x2 0 u := by
    intro a b
    rw [if_neg a, if_pos rfl, s63, pl_bd, if_neg b, if_pos rfl]
  by_cases q16 : t 5 9 = 16
  · rw [if_pos q16, nom (by rw [q16]; decide) (by rw [q16]; decide)]
    unfold bX12_type_43
    rw [if_pos rfl, k17, pl_bd, if_pos q16, if_neg pl_10]
    exact zEnd h hq q16
  rw [if_neg q16]
  by_cases q17 : t 5 9 = 17
  · rw [if_pos q17, nom (by rw [q17]; decide) (by rw [q17]; decide)]
    unfold bX12_type_43 bX12_type_194
    rw [if_pos rfl, k17, pl_bd, if_neg q16, if_pos rfl, s126, pl_bd, if_neg (show ¬ t 5 9 = 126 by rw [q17]; decide), if_pos rfl, if_pos (hnm.mpr q17), s126, pl_bd, if_neg (show ¬ t 5 9 = 126 by rw [q17]; decide), if_pos rfl]
    obtain ⟨rc, t2, a1, a2⟩ := zNamed (gM := gM) (k6 := k6) (x1 := x1) (x2 := x2) (x := 2) (x5 := 0) (b1 := 1) h hq (Or.inl ⟨rfl, rfl, rfl⟩)
    rw [a1, pl_bd]
    exact ⟨rc, t2, rfl, a2⟩
  rw [if_neg q17]
  by_cases q33 : t 5 9 = 33
  · rw [if_pos q33, if_pos q33, if_neg pl_10, e1]
    obtain ⟨rc, t2, a1, a2⟩ := zMsg (gC := g2) (gM := gM) (k6 := k6) (x1 := x1) (x2 := x2) (sd := 0) (a4 := 4) (a6 := 6) (b3 := 3) (b5 := 5) h hq hd hF (Or.inl ⟨rfl, rfl, rfl, rfl, rfl, rfl⟩) q33
    rw [a1, pl_bd]
    exact ⟨rc, t2, rfl, a2⟩
  rw [if_neg q33]
  by_cases q38 : t 5 9 = 38
  · rw [if_pos q38, nom q33 (by rw [q38]; decide), e2]
    unfold bX12_type_43 bX12_type_288
    rw [if_pos rfl, k17, pl_bd, if_neg q16, if_pos rfl, s126, pl_bd, if_neg (show ¬ t 5 9 = 126 by rw [q38]; decide), if_pos rfl, if_neg (fun w => q17 (hnm.mp w)), s43, pl_bd, if_neg (show ¬ t 5 9 = 43 by rw [q38]; decide), if_pos rfl, s38, pl_bd, if_pos q38, if_neg pl_10, e3]
    obtain ⟨rc, t2, rm, u2, a1, a2, a3⟩ := zChoice (gC := g2) (gM := m2) (x := 9) (xr := 8) (ch := 38) h hq hd hF2 (Or.inr ⟨rfl, rfl, rfl⟩) q38
    rw [a1, pl_bd, a2, pl_bd]
    rcases a3 with a3 | a3
    · exact ⟨_, _, rfl, Or.inl ⟨_, _, _, rfl, a3⟩⟩
    · exact ⟨_, _, rfl, Or.inr (Or.inr ⟨_, _, _, rfl, a3⟩)⟩
  rw [if_neg q38]
  by_cases q43 : t 5 9 = 43
  · rw [if_pos q43, nom q33 (by rw [q43]; decide), e2]
    unfold bX12_type_43 bX12_type_288
    rw [if_pos rfl, k17, pl_bd, if_neg q16, if_pos rfl, s126, pl_bd, if_neg (show ¬ t 5 9 = 126 by rw [q43]; decide), if_pos rfl, if_neg (fun w => q17 (hnm.mp w)), s43, pl_bd, if_pos q43, if_neg pl_10, e3]
    obtain ⟨rc, t2, rm, u2, a1, a2, a3⟩ := zChoice (gC := g2) (gM := m2) (x := 8) (xr := 7) (ch := 43) h hq hd hF2 (Or.inl ⟨rfl, rfl, rfl⟩) q43
    rw [a1, pl_bd, a2, pl_bd]
    rcases a3 with a3 | a3
    · exact ⟨_, _, rfl, Or.inl ⟨_, _, _, rfl, a3⟩⟩
    · exact ⟨_, _, rfl, Or.inr (Or.inr ⟨_, _, _, rfl, a3⟩)⟩
  rw [if_neg q43]
  by_cases q63 : t 5 9 = 63
  · rw [if_pos q63, if_neg q33, if_pos rfl, s63, pl_bd, if_pos q63, if_neg pl_10, e1]
    obtain ⟨rc, t2, a1, a2⟩ := zMsg (gC := g2) (gM := gM) (k6 := k6) (x1 := x1) (x2 := x2) (sd := 1) (a4 := 5) (a6 := 7) (b3 := 4) (b5 := 6) h hq hd hF (Or.inr ⟨rfl, rfl, rfl, rfl, rfl, rfl⟩) q63
    rw [a1, pl_bd]
    exact ⟨rc, t2, rfl, a2⟩
  rw [if_neg q63]
  by_cases q126 : t 5 9 = 126
  · rw [if_pos q126, nom q33 q63]
    unfold bX12_type_43 bX12_type_194
    rw [if_pos rfl, k17, pl_bd, if_neg q16, if_pos rfl, s126, pl_bd, if_pos q126, if_neg pl_10, s126, pl_bd, if_pos q126, if_neg pl_10]
    obtain ⟨t1, u1, r1, r2, h1, x1'⟩ := zTS_step h (by rw [q126]; decide)
    rw [r1, pl_bd, r2, pl_bd]
    obtain ⟨rc, t2, a1, a2⟩ := zNamed (gM := gM) (k6 := k6) (x1 := x1) (x2 := x2) (x := 3) (x5 := 1) (b1 := 2) h1 (by omega) (Or.inr ⟨rfl, rfl, rfl⟩)
    rw [a1, pl_bd]
    exact ⟨rc, t2, rfl, zHb_pre x1' (by omega) a2⟩
  rw [if_neg q126, nom q33 q63]
  unfold bX12_type_43
  obtain ⟨t1, u1, r1, r2, r3⟩ := zTS_no h
  rw [if_pos rfl, k17, pl_bd, if_neg q16, if_pos rfl, s126, pl_bd, if_neg q126, if_pos rfl, if_neg (fun w => q17 (hnm.mp w)), s43, pl_bd, if_neg q43, if_pos rfl, s38, pl_bd, if_neg q38, if_pos rfl, r1, pl_bd, r2, pl_bd]
  exact ⟨_, _, rfl, Or.inr (Or.inl ⟨_, _, rfl, r3⟩)⟩
