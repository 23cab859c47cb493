/-! ACT spawn: a channel opens -/
theorem zSpB {G : zTxt} {f : Nat → Nat} {N M P A T Q Pa bb S F C R W V : Nat} {o : Nat → Nat × Nat} {w : Nat → Nat} {t0 u0 g : zS} {pm m c y x p0 a m1 cc c0 : Nat} {Rg : Nat → Nat} {pq fp ql Y fq : Nat → Nat} {fr fd fc fk rw mem lim : Nat} {sp ac : Nat → Int32} {num H MC MR : zS} {t u t1 u1 : zS} (hg : zGd G f N M P A T Q Pa bb S F C R W V o w t0 u0 g) (hv : zLv t0 t) (hm : zLvM S t0 u0 u) (h : zDyn G f N Q t0 g pm m Rg pq fr fd fp sp ac num H Y ql MC MR fc fk rw fq mem lim t u) (hc : c < m) (hy : sp (Rg c) = Int32.ofNat y) (hy2 : y < 2147483648) (h16 : t 7 16 = 0 ∧ u 0 72 = 0) (f1 : zFt t t1) (f2 : zFtM u u1)
    (hx : x < Q) (h35 : t0 35 x = Int32.ofNat p0) (h37 : t0 37 x = Int32.ofNat (1 + m1)) (hsm : 1 + m1 ≤ zNq t0 x) (hpk : p0 + (1 + m1) ≤ 1500) (h95 : t0 95 y = Int32.ofNat a) (h97 : t0 97 y = Int32.ofNat (a + m1)) (h19 : u 19 y = Int32.ofNat a) (h20 : u 20 y = Int32.ofNat m1) (ham : a + m1 ≤ 1500) (h29 : u0 29 x = t0 41 x) (h0 : g (6000 + y) 0 = 0)
    (harg : ∀ k, a ≤ k → k < a + m1 → zArg t0 u0 (pq (Rg c)) F C k) (hst : ∀ i, i < m1 → t0 45 (p0 + (1 + i)) = -1 ∨ ∃ x c, t0 83 (a + i) = Int32.ofNat (zJa t0 a i) ∧ zJa t0 a i < 3000 ∧ zGrw t0 p0 a 1 i (g y) (zJa t0 a i) = Int32.ofNat x ∧ zV N t0 x ∧ c < N ∧ t0 45 (p0 + (1 + i)) = Int32.ofNat (2 * c) ∧ zEq (zD t0) x (zSg2 t0 (2 * c)))
    (told : ∀ i', i' < m1 → (0 ≤ t0 45 (p0 + (1 + i')) → t1 62 (1 + i') = H (Rg c) (zJa t0 a i') ∧ u1 60 i' = H (Rg c) (zJa t0 a i') ∧ u1 59 i' = 0) ∧ (¬ 0 ≤ t0 45 (p0 + (1 + i')) → t1 62 (1 + i') = u1 59 i' ∧ u1 60 i' = -1)) (hl : mem + (4 + zNq t0 x + 1 * (4 + 2 * rw)) ≤ lim)
    (hu16 : u0 16 y = Int32.ofNat cc) (hcc : cc < zNq t0 (pq (Rg c))) (hc0 : c0 < N) (h45 : t0 45 p0 = Int32.ofNat (2 * c0)) (hkd : ¬ (zD t0).kd (zSg2 t0 (2 * c0)) = 0) (hout : g (2000 + y) = zur (zGrw t0 p0 a 1 m1 (g y)) cc (Int32.ofNat (zSg2 t0 (2 * c0 + 1)))) :
    zAo G f N Q t0 g (pm + 1) m Rg t u (zbd (zbd (mX8_join (Int32.ofNat x) (Int32.ofNat (zNq t0 x)) (t1 41 x) (zu t1 7 14 (Int32.ofNat (mem + (4 + zNq t0 x + 1 * (4 + 2 * rw)))))) fun r2159 t2160 => zbd (mX4_handOver r2159 (Int32.ofNat x) (Int32.ofNat 1) t2160) fun r2162 t2163 => zbd (mX4_giveAway (Int32.ofNat (Rg c)) (Int32.ofNat y) (Int32.ofNat x) (Int32.ofNat 1) t2163) fun r2165 t2166 => zKsp (Int32.ofNat (Rg c)) (Int32.ofNat y) (Int32.ofNat cc) 1 r2159 t2166) fun r t => z01 r (some (r, t))) (zbd (lX12_calls_303 zFU (Int32.ofNat (Rg c)) (Int32.ofNat y) (Int32.ofNat x) 0 (Int32.ofNat 1) (Int32.ofNat (zF f (zSg2 t0 (2 * c0)))) (Int32.ofNat 1) (Int32.ofNat (4 + zNq t0 x + 1 * (4 + 2 * rw))) 0 u1) fun r t => z01 r (some (r, t))) := by
  obtain ⟨w1, w2, w3, w4, w5, w6, w7, w8, w9, w10, w11, w12, w13⟩ := zWho hg h hc hy hy2
  have hQ : Q ≤ 300 := hg.1.2.2.2.2.2.2.2.2.1
  have r0 : ∀ k, 8 ≤ k → k ≤ 115 → ¬ (k = 29 ∨ k = 31 ∨ k = 51 ∨ k = 58 ∨ k = 59 ∨ k = 60 ∨ k = 62 ∨ k = 64 ∨ k = 66 ∨ k = 85) → t k = t0 k := hv.1
  have q0 : ∀ k, 5 ≤ k → k ≤ 39 → ¬ (k = 19 ∨ k = 20 ∨ k = 21 ∨ k = 24) → u k = u0 k := hm.1
  have u2s := hm.2.2 y w4
  have hdyn := h
  obtain ⟨a1, a2, a3, a4, a5, a6, a7, a8, a9, a10, a11, a12⟩ := h
  obtain ⟨j1, j2, j3, j4, j5, j6, j7⟩ := zTold (H := H) (Y := Y) (p := Rg c) (T62 := t1 62) (TE := u1 60) (TN := u1 59) (fc := fc) hg w1 ham harg hst w13 told
  obtain ⟨k1, k2, k3, k4⟩ := zRoomFor (x := x) a10 a3 a6.1 (Or.inr rfl) hl
  obtain ⟨n1, n2, n3⟩ := zNw_new a3 k1
  have hne : ¬ Rg c = zNw fr fd fp := n2 c hc
  obtain ⟨tC, eC⟩ : ∃ tC, tC = zu t1 7 14 (Int32.ofNat (mem + (4 + zNq t0 x + 1 * (4 + 2 * rw)))) := ⟨_, rfl⟩
  have rC : ∀ k, ¬ (k = 7 ∨ k = 51 ∨ k = 62 ∨ k = 85) → tC k = t k := fun k hk => by rw [eC, zu_row (by omega), f1 k (by omega)]
  have rC7 : ∀ j, ¬ j = 14 → tC 7 j = t 7 j := fun j hj => by rw [eC, zu_ne2 hj, f1 7 (by decide)]
  obtain ⟨t2, b1, b2, b3, b4⟩ := zSpawnC (Q := Q) (mr := m) (m := m1) (p := Rg c) (x := x) (y := y) (sk := 1) (a := a) (p0 := p0) (t0 := t0) (t := tC) (TN := u1 59) (TE := u1 60) (J := zJa t0 a) (blk := t1 41 x) (zAC_of a1 (rC 60 (by decide)) (fun k x1 x2 => rC k (by omega))) a3 k1 k2 w3 w2 w5 (by omega) hsm (fun k hk => by rw [rC k (by omega)]; exact r0 k (by omega) (by omega) (by omega)) h35 h37 h95 h97 ham hpk (by omega) (fun i hi => by rw [eC, zu_ne1 (by decide)]; exact j2 i hi) (fun i hi => ⟨(j3 i hi).1, fun w => ⟨((j3 i hi).2 w).1, ((j3 i hi).2 w).2.2⟩⟩) (zKsp (Int32.ofNat (Rg c)) (Int32.ofNat y) (Int32.ofNat cc) 1)
  obtain ⟨u2, d1, d2, d3, d4, d5, d6⟩ := zSpawnR (Q := Q) (mr := m) (m := m1) (p := Rg c) (x := x) (y := y) (sk := 1) (a := a) (u := u1) (J := zJa t0 a) (x8 := Int32.ofNat (zF f (zSg2 t0 (2 * c0)))) (x9 := Int32.ofNat 1) (x10 := Int32.ofNat (4 + zNq t0 x + 1 * (4 + 2 * rw))) (zAR_of a2 (fun j hj => f2.2 j (by omega)) (fun k x1 x2 => f2.1 k (by omega))) a3 k1 k2 w3 w2 w5 hx hQ (by rw [f2.1 31 (by decide)]; exact zSt31 hg hm) hsm (by rw [f2.1 19 (by decide)]; exact h19) (by rw [f2.1 20 (by decide)]; exact h20) ham (by omega) (fun i hi w => by
    obtain ⟨z1, z2, z3⟩ := (j3 i hi).2 w
    exact ⟨by rw [f2.1 26 (by decide), q0 26 (by decide) (by decide) (by decide)]; exact z2, z3⟩)
  have s21 : u1 21 y = t0 103 y := by rw [f2.1 21 (by decide)]; exact u2s.1
  have s29 : u1 29 x = t0 41 x := by rw [f2.1 29 (by decide), q0 29 (by decide) (by decide) (by decide)]; exact h29
  have s41 : t1 41 x = t0 41 x := by rw [f1 41 (by decide), r0 41 (by decide) (by decide) (by decide)]
  obtain ⟨r, er⟩ : ∃ r, r = zNw fr fd fp := ⟨_, rfl⟩
  rw [← er] at n1 n2 n3 hne b1 b2 d1 d2
  rw [s21, s29] at d2
  rw [s41, zSpawnE hne] at b2
  rw [← eC, b1]
  have tg := zTG_live hg hm
  have hN := hg.1.1.2.2.2.1
  have hf := (zRw_bd a6.2.2.2.1 a6.2.1).1
  have fl : 2 * c0 + 1 = zflp (2 * c0) := by unfold zflp; omega
  have ys : zSg2 t0 (2 * c0 + 1) = zflp (zSg2 t0 (2 * c0)) := by rw [fl]; exact zSg2_fl
  have vs : zV N t0 (zSg2 t0 (2 * c0)) := zV_sg hg.1.1 (by omega)
  have vs' : zV N t0 (zflp (zSg2 t0 (2 * c0))) := by rw [← ys]; exact zV_sg hg.1.1 (by omega)
  have hkd' : ¬ (zD t0).kd (zflp (zSg2 t0 (2 * c0))) = 0 := fun w => hkd ((zV_fk hg.1.1 vs).1.mp w)
  obtain ⟨yy, ey⟩ : ∃ yy, yy = zSg2 t0 (2 * c0) := ⟨_, rfl⟩
  rw [← ey] at vs vs' hkd hkd' ys d1 ⊢
  have hf2 : fk = 0 → fc < 1667 := fun z => by
    have := zRw_bd (k3 rfl z) a6.2.1
    omega
  have hfq : ∀ j, j < fk → fq j < fc := fun j hj => (a6.2.2.2.2.1 j hj).1
  obtain ⟨ch, t3, ec, m1', m2, m3, m4, m5⟩ := zMakC (y := yy) (y' := zflp yy) (t := t2) (zBC_of a4 (fun j hj => by rw [b4 59 (by decide), rC 59 (by decide)]) (fun k x1 x2 => by rw [b4 k (by omega), rC k (by omega)])) (by omega) hf2 a6.1 hfq a6.2.1 hkd hkd'
  have rU1 : ∀ k, ¬ (k = 0 ∨ (46 ≤ k ∧ k ≤ 53) ∨ (58 ≤ k ∧ k ≤ 60)) → u2 k = u k := fun k hk => by rw [d6 k (by omega), f2.1 k (by omega)]
  have rU10 : ∀ j, ¬ (j = 79 ∨ j = 80 ∨ j = 85 ∨ j = 88 ∨ j = 94 ∨ j = 105 ∨ j = 107) → u2 0 j = u 0 j := fun j hj => by rw [d5 j (by omega), f2.2 j (by omega)]
  obtain ⟨ch', u3, ec', l1, l2, l3, l4, l5, l6⟩ := zNewR (G := G) (f := f) (N := N) (M := M) (P := P) (A := A) (T := T) (t := t0) (u := u2) (y := yy) (fun v hv1 hv2 => zTG_of tg (zTr_refl t0) ⟨by rw [hv1 5 (by decide) (by decide), rU1 5 (by decide)], by rw [hv1 6 (by decide) (by decide), rU1 6 (by decide)], by rw [hv1 7 (by decide) (by decide), rU1 7 (by decide)], by rw [hv1 8 (by decide) (by decide), rU1 8 (by decide)], by rw [hv1 9 (by decide) (by decide), rU1 9 (by decide)], by rw [hv1 10 (by decide) (by decide), rU1 10 (by decide)], by rw [hv1 11 (by decide) (by decide), rU1 11 (by decide)], by rw [hv1 12 (by decide) (by decide), rU1 12 (by decide)], by rw [hv1 13 (by decide) (by decide), rU1 13 (by decide)], by rw [hv2 14 (by decide), rU10 14 (by decide)], by rw [hv2 19 (by decide), rU10 19 (by decide)], by rw [hv2 22 (by decide), rU10 22 (by decide)]⟩) (zBR_of a5 (fun j hj => rU10 j (by omega)) (fun k x1 x2 => rU1 k (by omega))) (by omega) hf2 a6.1 hfq vs hkd hkd'
  have ech : ch' = ch := ec'.trans ec.symm
  subst ech
  have chl : ch' < (if fk = 0 then fc + 1 else fc) ∧ ch' < 1667 := by
    rw [ec]
    by_cases z : fk = 0
    · rw [if_pos z, if_pos z]; have := hf2 z; omega
    · rw [if_neg z, if_neg z]; have := hfq (fk - 1) (by omega); omega
  have inr : zIn (m + 1) (zfu Rg m r) r := ⟨m, by omega, zfu_same⟩
  have inp : zIn (m + 1) (zfu Rg m r) (Rg c) := ⟨c, by omega, zfu_ne (by omega)⟩
  have pqr : zfu pq r x r = x := zfu_same
  have pqp : zfu pq r x (Rg c) = pq (Rg c) := zfu_ne hne
  -- the class: two ends
  obtain ⟨t4, g1, g2, g3⟩ := zAC_ch (v := Int32.ofNat (2 * ch')) (zAC_of b2 (t2 := t3) (m5 60 (by decide)) (fun k x1 x2 => m5 k (by omega))) inr (by omega) (show 0 < zNq t0 (zfu pq r x r) by rw [pqr]; omega)
  obtain ⟨t5, g4, g5, g6⟩ := zAC_ch (v := Int32.ofNat (2 * ch' + 1)) g2 inp w2 (show cc < zNq t0 (zfu pq r x (Rg c)) by rw [pqp]; exact hcc)
  have A2 := zAC_sp (p := Rg c) (v := t0 103 y) g5
  rw [zSpE hne] at A2
  have rT5 : ∀ k, ¬ (k = 7 ∨ k = 51 ∨ k = 59 ∨ k = 60 ∨ k = 62 ∨ k = 85 ∨ 116 ≤ k) → t5 k = t k := fun k hk => by rw [g6 k (by omega), g3 k (by omega), m5 k (by omega), b4 k (by omega), rC k (by omega)]
  have xr : Int32.ofNat (2 * ch') ^^^ 1 = Int32.ofNat (2 * ch' + 1) := by
    rw [(zb_x _ (by omega)).1]
    congr 1
    unfold zflp; omega
  have fin : zKsp (Int32.ofNat (Rg c)) (Int32.ofNat y) (Int32.ofNat cc) 1 (Int32.ofNat r) t2 = some (1, zu t5 129 (Rg c) (t0 103 y)) := by
    unfold zKsp bX4_spawn_203
    rw [show Int32.ofNat 0 = 0 from rfl] at g1
    rw [if_neg (show ¬ Int32.ofNat 1 = 0 by decide), m1', pl_bd, g1, pl_bd, xr, g4, pl_bd, zn_get w5 (by decide), pl_bd, rT5 103 (by decide), r0 103 (by decide) (by decide) (by decide), zn_set w2 (by decide), pl_bd]
  -- the reference: two ends
  have R3 : zAR (zNq t0) (m + 1) (zfu Rg m r) (zfu pq r x) (if fd = 0 then fr + 1 else fr) (fd - 1) fp (zfu (zfu sp (Rg c) (t0 103 y)) r (t0 41 x)) (zfu ac r 0) _ _ u3 := zAR_of d2 (fun j hj => l5 j (by omega)) (fun k x1 x2 => l6 k (by omega))
  obtain ⟨br, y1, y2, _, y4, _⟩ := zAR_at R3 inr
  have R4 := y4 0 (Int32.ofNat (2 * ch')) (by rw [pqr]; omega)
  obtain ⟨bp, z1, z2, _, z4, _⟩ := zAR_at R4 inp
  have R5 := z4 cc (Int32.ofNat (2 * ch' + 1)) (by rw [pqp]; exact hcc)
  rw [pqr] at y2
  rw [pqp] at z2
  obtain ⟨u5, e5⟩ : ∃ u5, u5 = zu (zu u3 53 (br + 0) (Int32.ofNat (2 * ch'))) 53 (bp + cc) (Int32.ofNat (2 * ch' + 1)) := ⟨_, rfl⟩
  rw [← e5] at R5
  have finM : zCY (Int32.ofNat (Rg c)) (Int32.ofNat y) (Int32.ofNat (zF f yy)) (Int32.ofNat 1) (Int32.ofNat r) u2 = some (1, u5) := by
    unfold zCY
    rw [if_neg (show ¬ Int32.ofNat 1 = 0 by decide), l1, pl_bd, zn_rd (by omega) (by decide), y1, zn_wr (by omega) (by decide), zn_rd (by omega) (by decide), show zu u3 53 br (Int32.ofNat (2 * ch')) = zu u3 53 (br + 0) (Int32.ofNat (2 * ch')) from rfl, z1, zn_rd (by omega) (by decide), zu_ne1 (show (16 : Nat) ≠ 53 by decide), l6 16 (by decide), rU1 16 (by decide), q0 16 (by decide) (by decide) (by decide), hu16, zn_add, zn_1, zn_wr (by omega) (by decide), ← e5]
  rw [fin, d1, finM, pl_bd, pl_bd]
  have rT : ∀ k, ¬ (k = 7 ∨ k = 51 ∨ k = 59 ∨ k = 60 ∨ k = 62 ∨ k = 85 ∨ 116 ≤ k) → zu t5 129 (Rg c) (t0 103 y) k = t k := fun k hk => by rw [zu_row (by omega), rT5 k hk]
  have r7 : zu t5 129 (Rg c) (t0 103 y) 7 = tC 7 := by rw [zu_row (by decide), g6 7 (by decide), g3 7 (by decide), m5 7 (by decide), b4 7 (by decide)]
  have rT7 : ∀ j, ¬ j = 14 → zu t5 129 (Rg c) (t0 103 y) 7 j = t 7 j := fun j hj => by rw [r7, rC7 j hj]
  have r59 : ∀ j, zu t5 129 (Rg c) (t0 103 y) 59 j = t3 59 j := fun j => by rw [zu_row (by decide), g6 59 (by decide), g3 59 (by decide)]
  have rU : ∀ k, ¬ (k = 0 ∨ (46 ≤ k ∧ k ≤ 53) ∨ (55 ≤ k ∧ k ≤ 60)) → u5 k = u k := fun k hk => by rw [e5, zu_row (by omega), zu_row (by omega), l6 k (by omega), rU1 k (by omega)]
  have rU3 : ∀ j, u5 0 j = u3 0 j := fun j => by rw [e5, zu_ne1 (by decide), zu_ne1 (by decide)]
  have rU0 : ∀ j, ¬ (j = 79 ∨ j = 80 ∨ j = 85 ∨ j = 88 ∨ j = 94 ∨ j = 97 ∨ j = 98 ∨ j = 100 ∨ j = 105 ∨ j = 107) → u5 0 j = u 0 j := fun j hj => by rw [rU3, l5 j (by omega), rU10 j (by omega)]
  have hHs := zHH_sp (sk := 1) a8 hne j6 j7
  obtain ⟨Hs, eHs⟩ : ∃ Hs, Hs = zHn (fun r' k => if r' = r then -1 else zGa H (Rg c) (zJa t0 a) (u1 60) m1 r' k) r 1 (u1 60) m1 := ⟨_, rfl⟩
  rw [← eHs] at hHs A2 R5
  have nH := zNc_not a6 (by omega) a8 ec
  have nHs := zNc_not a6 (by omega) hHs ec
  have sR : ∀ p' k, ¬ p' = Rg c → ¬ p' = r → Hs p' k = H p' k := fun p' k hp1 hp2 => by
    rw [eHs, zHn_row hp2]
    show (if p' = r then -1 else zGa H (Rg c) (zJa t0 a) (u1 60) m1 p' k) = _
    rw [if_neg hp2, zGa_row hp1]
  obtain ⟨H2, eH2⟩ : ∃ H2, H2 = zu (zu Hs r 0 (Int32.ofNat (2 * ch'))) (Rg c) cc (Int32.ofNat (2 * ch' + 1)) := ⟨_, rfl⟩
  rw [← eH2] at A2 R5
  have hY : ∀ e, ¬ (e = 2 * ch' ∨ e = 2 * ch' + 1) → zfu (zfu Y (2 * ch') yy) (2 * ch' + 1) (zflp yy) e = Y e := fun e he => by rw [zfu_ne (by omega), zfu_ne (by omega)]
  have Y0 : zfu (zfu Y (2 * ch') yy) (2 * ch' + 1) (zflp yy) (2 * ch') = yy := by rw [zfu_ne (by omega), zfu_same]
  have Y1 : zfu (zfu Y (2 * ch') yy) (2 * ch' + 1) (zflp yy) (2 * ch' + 1) = zflp yy := zfu_same
  have fc2 : fc ≤ (if fk = 0 then fc + 1 else fc) ∧ (if fk = 0 then fc + 1 else fc) ≤ 1667 := by
    by_cases z : fk = 0
    · rw [if_pos z]; have := hf2 z; omega
    · rw [if_neg z]; omega
  refine ⟨1, _, _, m + 1, zfu Rg m r, rfl, rfl, Or.inr rfl, zFa_of (fun k hk => rT k (by omega)) (rT7 13 (by decide)), zFb_of (fun k x1 x2 => rU k (by omega)) (fun j x1 x2 => rU0 j (by omega)) (rU0 86 (by decide)), by omega, fun i hi => zfu_ne (by omega), by rw [rT7 16 (by decide), rU0 72 (by decide), h16.1, h16.2], Or.inl (rT7 16 (by decide)), _, _, _, _, _, _, _, _, _, _, _, _, _, _, _, _, _, _, zDyn_pm (zSpDone (p0 := p0) (k0 := 1 + m1) (mem2 := mem + (4 + zNq t0 x + 1 * (4 + 2 * rw))) hg hdyn hc hy hy2 hx (by omega) n2 A2 R5 (er ▸ zAP_join a3 k1 hx) (zBC_of m2 (fun j _ => r59 j) (fun k x1 x2 => by rw [zu_row (by omega), g6 k (by omega), g3 k (by omega)])) (zBR_of l2 (fun j _ => rU3 j) (fun k x1 x2 => by rw [e5, zu_row (by omega), zu_row (by omega)])) (zBP_new a6 ec (k3 rfl) vs vs') (zBT_new tg a7 ec a6.1 hfq vs nH (fun e => ?_)) ?_ h35 h37 ⟨by omega, by omega⟩ (fun k hk => ?_) h0 (fun k hk => ?_) (fun p' k hp1 hp2 _ => ?_) (fun p' k e x1 x2 => hY e (nH p' k e x1 x2)) ?_ ?_ ?_) (by omega)⟩
  · rw [eH2, zu_row (by omega), zu_row (by omega)]
    funext k
    exact sR _ k (by omega) (by omega)
  · rw [eH2]
    have h1 := zHH_put (a := r) (b := 0) (e := 2 * ch') (zHH_new (c := ch') (y := yy) (y' := zflp yy) hHs (by omega) fc2.1 nHs) (by omega) (by omega) (by rw [Y0]; exact hkd) (fun x y w => nHs x y _ w (by omega) (Or.inl rfl))
    refine zHH_put h1 (by omega) (by omega) (by rw [Y1]; exact hkd') (fun x y w => ?_)
    by_cases q1 : x = r
    · subst q1
      by_cases q2 : y = 0
      · subst q2
        rw [zu_same] at w
        have := (zn_inj (by omega) (by omega)).mp w
        omega
      · rw [zu_ne2 q2] at w; exact nHs x y _ w (by omega) (Or.inr rfl)
    · rw [zu_ne1 q1] at w; exact nHs x y _ w (by omega) (Or.inr rfl)
  · rw [eH2, zu_ne1 (fun w => hne w.symm)]
    by_cases q : k = 0
    · subst q
      rw [zu_same]
      unfold zRz
      rw [show p0 + 0 = p0 from rfl, h45, if_pos ⟨by omega, zn_0le (by omega)⟩, show (Int32.ofNat (2 * c0)).toNatClampNeg = 2 * c0 from pl_clamp (pl_ofn (by omega)), ← ey]
      unfold zHo
      rw [if_neg hkd]
      exact Or.inr ⟨2 * ch', yy, rfl, by omega, rfl, vs, by rw [Y0]; exact zEqv_eq.rf _⟩
    · rw [zu_ne2 q]
      refine zHld_Y ?_ (fun e x1 x2 => hY e (nHs r k e x1 x2))
      rw [eHs]
      exact zChild tg (by omega) a8 j1 j5 (fun j => by show (if r = r then -1 else _) = -1; rw [if_pos rfl]) k (by omega)
  · rw [hout, ys, eH2]
    unfold zur
    by_cases q : k = cc
    · rw [if_pos q, q, zu_same]
      exact Or.inr ⟨2 * ch' + 1, zflp yy, rfl, by omega, rfl, vs', by rw [Y1]; exact zEqv_eq.rf _⟩
    · rw [if_neg q, zu_ne2 q, zu_ne1 hne]
      refine zHld_Y ?_ (fun e x1 x2 => hY e (nHs (Rg c) k e x1 x2))
      rw [eHs, zHn_row hne]
      show zHld N t0 Y _ (if Rg c = r then -1 else zGa H (Rg c) (zJa t0 a) (u1 60) m1 (Rg c) k)
      rw [if_neg hne]
      exact j4 k hk
  · rw [eH2, zu_ne1 hp1, zu_ne1 hp2]
    exact sR p' k hp1 hp2
  · refine ⟨by rw [r7, eC, zu_same], ?_, by rw [rT7 15 (by decide)]; exact a10.2.2.1, by rw [rU0 74 (by decide)]; exact a10.2.2.2.1, a10.2.2.2.2.1, hl, ?_⟩
    · rw [rU3, l4, d4, f2.2 80 (by decide), a10.2.1, rU10 73 (by decide), a5.2.2.1, zCells, zn_add, zn_add, Nat.one_mul, Nat.add_assoc]
    · have e1 := k4 r n2
      have e2 : (if fk = 0 then fc + 1 else fc) - (fk - 1) = fc - fk + 1 := by
        have := a6.1
        by_cases z : fk = 0
        · rw [if_pos z]; omega
        · rw [if_neg z]; omega
      rw [e2]; exact e1
  · obtain ⟨c1, c2, c3, c4, c5, kp, c6, c7, c8, c9⟩ := a11
    refine ⟨by rw [rT7 11 (by decide), rU0 77 (by decide)]; exact c1, by rw [rT7 12 (by decide), rU0 78 (by decide)]; exact c2, ?_, ?_, ?_, kp, c6, by rw [rT7 10 (by decide)]; exact c7, by rw [rU0 81 (by decide)]; exact c8, by rw [rT 66 (by decide), rU 44 (by decide)]; exact c9⟩
    · rw [zu_row (by decide), g6 60 (by decide), g3 60 (by decide), m5 60 (by decide), b3, rC 60 (by decide), rU3, l5 79 (by decide), d3, f2.2 79 (by decide), c3]
    · rw [r59, m3, b4 59 (by decide), rC 59 (by decide), rU3, l3, rU10 100 (by decide), c4]
    · rw [r59, m4 9 (by decide), b4 59 (by decide), rC 59 (by decide), rU0 101 (by decide), c5]
  · exact zInp_of2 a12 (rT7 8 (by decide)) (rT7 9 (by decide)) (rT 64 (by decide)) (rU0 83 (by decide)) (rU 45 (by decide))
theorem zActSpawn {G : zTxt} {f : Nat → Nat} {N M P A T Q Pa bb S F C R W V : Nat} {o : Nat → Nat × Nat} {w : Nat → Nat} {t0 u0 g : zS} {pm m c y : Nat} {Rg : Nat → Nat} {pq fp ql Y fq : Nat → Nat} {fr fd fc fk rw mem lim : Nat} {sp ac : Nat → Int32} {num H MC MR : zS} {t u : zS} (hg : zGd G f N M P A T Q Pa bb S F C R W V o w t0 u0 g) (hv : zLv t0 t) (hm : zLvM S t0 u0 u) (h : zDyn G f N Q t0 g pm m Rg pq fr fd fp sp ac num H Y ql MC MR fc fk rw fq mem lim t u) (hc : c < m) (hy : sp (Rg c) = Int32.ofNat y) (hy2 : y < 2147483648) (h16 : t 7 16 = 0 ∧ u 0 72 = 0) (hk : t0 87 y = 8) : zAo G f N Q t0 g (pm + 1) m Rg t u (mX4_act (Int32.ofNat (Rg c)) (Int32.ofNat y) t) (mX12_act (Int32.ofNat (Rg c)) (Int32.ofNat y) u) := by
  obtain ⟨w1, w2, w3, w4, w5, w6, w7, w8, w9, w10, w11, w12, w13⟩ := zWho hg h hc hy hy2
  obtain ⟨n1, n2⟩ := zNq_at hg w1
  have hQ : Q ≤ 300 := hg.1.2.2.2.2.2.2.2.2.1
  have hN := hg.1.1.2.2.2.1
  have r0 : ∀ k, 8 ≤ k → k ≤ 115 → ¬ (k = 29 ∨ k = 31 ∨ k = 51 ∨ k = 58 ∨ k = 59 ∨ k = 60 ∨ k = 62 ∨ k = 64 ∨ k = 66 ∨ k = 85) → t k = t0 k := hv.1
  have q0 : ∀ k, 5 ≤ k → k ≤ 39 → ¬ (k = 19 ∨ k = 20 ∨ k = 21 ∨ k = 24) → u k = u0 k := hm.1
  obtain ⟨v, x, p0, b0, a, m1, sk, c1, c2, c3, c4, c5, c6, c7, c8, c9, c10, c11, c12, c13, c14, c15, c16, c17, c18, c19, c20, c21, c22, c23, c24, c25⟩ := zCallF hg hm w1 w4 w6 w8 w9 (Or.inl hk)
  rw [if_neg (by rw [hk]; decide)] at c24
  have kinds : (∃ kk, u0 14 y = kk ∧ ((kk = 7 ∧ sk = 0 ∧ (0 : Int32) = 0) ∨ (kk = 8 ∧ sk = 1 ∧ (0 : Int32) = 0) ∨ (kk = 9 ∧ sk = 0 ∧ (0 : Int32) = 1))) ∧ (u0 16 y = -1 ∨ ∃ cc, u0 16 y = Int32.ofNat cc ∧ cc < zNq t0 (pq (Rg c))) := by
    rcases c25 with ⟨e1, _, e3, ⟨_, e4⟩ | ⟨e4, _⟩, _⟩ | ⟨e1, _, e2, cc, c0, _, e5, e6, _⟩
    · exact ⟨⟨7, e4, Or.inl ⟨rfl, e1, rfl⟩⟩, Or.inl e3⟩
    · rw [hk] at e4; exact absurd e4 (by decide)
    · exact ⟨⟨8, e2, Or.inr (Or.inl ⟨rfl, e1, rfl⟩)⟩, Or.inr ⟨cc, e5, e6⟩⟩
  obtain ⟨⟨kk, k1, k2⟩, k3⟩ := kinds
  have goM := zCallM (S := S) (t0 := t0) (u0 := u0) (x := x) (b0 := b0) (sk := sk) (x5 := 0) hm h.2.1 w3 w2 w5 (by omega) w12 k1 k2 k3 c20 c5 c8
  obtain ⟨op, x4, x8, o1, o2, o3, o4⟩ := zSpPre (p := Rg c) (b0 := b0) (a := a) (m := m1) (sk := sk) (nq := zNq t0 (pq (Rg c))) hg hv hm w5 c1 c2 c3 c4 c12 c9 c13 n2 (by
    rcases c25 with ⟨e1, e2, _, _, e5, _⟩ | ⟨e1, _, _, e5⟩
    · exact Or.inl ⟨e1, e2, e5⟩
    · exact Or.inr ⟨e1, e5⟩)
  have goC : mX4_act (Int32.ofNat (Rg c)) (Int32.ofNat y) t = zbd (mX4_spawn (Int32.ofNat (Rg c)) (Int32.ofNat y) t) fun r t => z01 r (some (r, t)) := by
    unfold mX4_act
    rw [zn_get w5 (by decide), pl_bd, r0 87 (by decide) (by decide) (by decide), hk]
    rfl
  obtain ⟨t1, u1, f1, f2, res⟩ := zTell (t0 := t0) (u0 := u0) (tS := t) (uS := u) (m := m1) (q := pq (Rg c)) (p0 := p0) (b0 := b0) (sk := sk) (x := x) (a := a) (x4 := Int32.ofNat sk) (x5 := 0) h.1 h.2.1 w3 w2 w5 (by omega) hg.1.2.2.2.2.2.1 hg.1.2.2.2.2.2.2.1 n1 n2 (fun k hk => r0 k (by omega) (by omega) (by omega)) (fun k hk => q0 k (by omega) (by omega) (by omega)) c15 c16 c17 c18 c10 c13 (by omega) (by omega) (fun i hi => by
    rcases c23 i hi with e | ⟨x', c', e1, e2, e3, e4, e5, e6, e7⟩
    · left
      rcases c21 (sk + i) (by omega) with ⟨z1, z2⟩ | ⟨c', z1, z2, z3⟩
      · exact ⟨z1, z2⟩
      · rw [e] at z2; exact absurd (show (0 : Int32) ≤ -1 by rw [z2]; exact zn_0le (by omega)) zn_m1
    · right
      have pos : 0 ≤ t0 45 (p0 + (sk + i)) := by rw [e6]; exact zn_0le (by omega)
      refine ⟨pos, ?_, e1, e2⟩
      rcases c21 (sk + i) (by omega) with ⟨z1, z2⟩ | ⟨c'', z1, z2, z3⟩
      · rw [z1] at pos; exact absurd pos (by decide)
      · rw [z3]
        have := (zF_lt hg.1.1 (s := 2 * c'') (by omega)).2.2
        rw [show 2 * c'' / 2 = c'' by omega] at this
        exact zn_0le (by omega)) c22 m1 0 (zFU - m1 - 1) (zFU - m1 - 1) t u (by omega) (fun _ _ => rfl) ⟨fun _ _ => rfl, fun _ _ => rfl⟩ (fun i' hi' => absurd hi' (Nat.not_lt_zero _))
  rw [show zFU - m1 - 1 + m1 + 1 = zFU by unfold zFU; omega, Nat.add_zero, show Int32.ofNat 0 = 0 from rfl] at res
  have tell : mX4_tellAll (Int32.ofNat (Rg c)) (Int32.ofNat y) (Int32.ofNat x) (Int32.ofNat sk) t = lX4_tellAll_17 zFU (Int32.ofNat (Rg c)) (Int32.ofNat y) (Int32.ofNat x) (Int32.ofNat sk) (Int32.ofNat a) (Int32.ofNat a) t := by
    unfold mX4_tellAll
    rw [zn_get w5 (by decide), pl_bd, r0 95 (by decide) (by decide) (by decide), c14]
  have d1 : zDyn G f N Q t0 g pm m Rg pq fr fd fp sp ac num H Y ql MC MR fc fk rw fq mem lim t1 u1 := zDyn_of h (fun k hk => f1 k (by omega)) (fun j _ => by rw [f1 7 (by decide)]) (fun k hk => f2.1 k (by omega)) (fun j hj => f2.2 j (by omega))
  rw [goC, goM, o2]
  have stop : ∀ vv : Int32, ¬ vv = 0 → zAo G f N Q t0 g (pm + 1) m Rg t u (some (0, zu t1 7 16 vv)) (some (0, zu u1 0 72 vv)) := fun vv hvv => ⟨0, _, _, m, Rg, rfl, rfl, Or.inl rfl, zFa_of (fun k hk => by rw [zu_row (by omega), f1 k (by omega)]) (by rw [zu_ne2 (by decide), f1 7 (by decide)]), zFb_of (fun k k1 k2 => by rw [zu_row (by omega), f2.1 k (by omega)]) (fun j j1 j2 => by rw [zu_ne2 (by omega), f2.2 j (by omega)]) (by rw [zu_ne2 (by decide), f2.2 86 (by decide)]), Nat.le_refl _, fun _ _ => rfl, by rw [zu_same, zu_same], Or.inr ⟨rfl, by rw [zu_same]; exact hvv⟩, _, _, _, _, _, _, _, _, _, _, _, _, _, _, _, _, _, _, zDyn_pm (zDyn_o d1) (by omega)⟩
  rcases res with ⟨g1, g2, told⟩ | ⟨g1, g2⟩
  · have dd := d1
    obtain ⟨a1, a2, a3, a4, a5, a6, a7, a8, a9, a10, a11, a12⟩ := dd
    have sC := zSp68 (p := Rg c) (y := y) (x := x) (sk := sk) (op := op) (nx := zNq t0 x) (rw := rw) (mem := mem) (lim := lim) (x4 := x4) o1 (tell.trans g1) (by omega) (by rw [f1 39 (by decide), r0 39 (by decide) (by decide) (by decide)]; exact c6) a4.2.2.1 a10.1 a10.2.2.1
    obtain ⟨b1, s1, s2, s3⟩ := zSt31 hg hm x c1
    have sM := zCl237 (u := u1) (p := Rg c) (y := y) (x := x) (sk := sk) (op := op) (nx := zNq t0 x) (rw := rw) (x8 := x8) o1 (pl_own (by omega) (by rw [f2.1 31 (by decide)]; exact s1) (by rw [f2.1 31 (by decide)]; exact s2) (by omega)) a5.2.2.1
    rw [a10.2.1, a10.2.2.2.1, zn_add] at sM
    rw [sC, g2, o3 u1 f2, sM]
    have rl : rw ≤ 8 := a6.2.2.1
    have m10 : lim ≤ 10000 ∧ mem ≤ lim := ⟨a10.2.2.2.2.1, a10.2.2.2.2.2.1⟩
    have cost : 4 + zNq t0 x + op * (4 + 2 * rw) ≤ 2000 := by
      rcases o1 with e | e <;> subst e <;> omega
    by_cases fit : mem + (4 + zNq t0 x + op * (4 + 2 * rw)) ≤ lim
    · have fit' := (zn_le (a := mem + (4 + zNq t0 x + op * (4 + 2 * rw))) (b := lim) (by omega) (by omega)).mpr fit
      rw [if_pos fit', if_pos fit']
      rcases o4 with ⟨e1, e2, e3⟩ | ⟨e1, e2, cc, c0, z1, z2, z3, z4, z5, z6, z7, z8⟩
      · subst e1
        exact zSpA hg hv hm h hc hy hy2 h16 f1 f2 c1 c10 c11 c12 c13 c14 c15 c16 c17 c18 c19 c24 c22 c23 told fit e2 e3
      · subst e1; subst e2; subst z1; subst z2
        exact zSpB hg hv hm h hc hy hy2 h16 f1 f2 c1 c10 c11 c12 c13 c14 c15 c16 c17 c18 c19 c24 c22 c23 told fit z3 z4 z5 z6 z7 z8
    · have fit' : ¬ Int32.ofNat (mem + (4 + zNq t0 x + op * (4 + 2 * rw))) ≤ Int32.ofNat lim := fun w => fit ((zn_le (by omega) (by omega)).mp w)
      rw [if_neg fit', if_neg fit', pl_bd, pl_bd]
      exact stop 4 (by decide)
  · have sC : bX4_spawn_68 (Int32.ofNat (Rg c)) (Int32.ofNat y) (Int32.ofNat x) x4 (Int32.ofNat sk) (Int32.ofNat op) t = some (0, zu t1 7 16 3) := by
      unfold bX4_spawn_68
      rw [tell, g1, pl_bd, if_pos rfl]
    rw [sC, g2, pl_bd, pl_bd]
    exact stop 3 (by decide)
