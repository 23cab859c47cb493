/-! ACT spawn: does a channel open? -/
theorem zSpPre {G : zTxt} {f : Nat → Nat} {N M P A T Q Pa bb S F C R W V : Nat} {o : Nat → Nat × Nat} {w : Nat → Nat} {t0 u0 g : zS} {y x v p0 b0 a m sk p nq : Nat} {t u : zS} (hg : zGd G f N M P A T Q Pa bb S F C R W V o w t0 u0 g) (hv : zLv t0 t) (hm : zLvM S t0 u0 u) (hy : y < 1000) (hx : x < Q) (hv16 : v < 1600) (h93 : t0 93 y = Int32.ofNat v) (h33 : t0 33 v = Int32.ofNat x) (hsm : sk + m ≤ zNq t0 x) (hb0 : b0 + zNq t0 x ≤ 3000) (hpk : p0 + (sk + m) ≤ 1500) (hnq : nq ≤ 1100)
    (last : (sk = 0 ∧ t0 91 y = -1 ∧ g (2000 + y) = zGrw t0 p0 a 0 m (g y)) ∨ (sk = 1 ∧ ∃ cc c0, t0 91 y = Int32.ofNat cc ∧ u0 16 y = Int32.ofNat cc ∧ cc < nq ∧ c0 < N ∧ t0 45 p0 = Int32.ofNat (2 * c0) ∧ u0 34 b0 = Int32.ofNat (f c0) ∧ zGrw t0 p0 a 1 m (g y) cc = -1 ∧ t0 107 y = zCz (zD t0) (zSg2 t0 (2 * c0 + 1)) ∧ g (2000 + y) = zur (zGrw t0 p0 a 1 m (g y)) cc (zHo (zD t0) (zSg2 t0 (2 * c0 + 1))))) :
    ∃ (op : Nat) (x4 x8 : Int32), (op = 0 ∨ op = 1) ∧ mX4_spawn (Int32.ofNat p) (Int32.ofNat y) t = bX4_spawn_68 (Int32.ofNat p) (Int32.ofNat y) (Int32.ofNat x) x4 (Int32.ofNat sk) (Int32.ofNat op) t ∧ (∀ u1, zFtM u u1 → zCX (Int32.ofNat p) (Int32.ofNat y) (Int32.ofNat x) (Int32.ofNat sk) 0 (Int32.ofNat sk) (Int32.ofNat b0) u1 = bX12_calls_237 (Int32.ofNat p) (Int32.ofNat y) (Int32.ofNat x) 0 (Int32.ofNat sk) x8 (Int32.ofNat op) u1) ∧ ((op = 0 ∧ (∀ k, g (2000 + y) k = zGrw t0 p0 a sk m (g y) k) ∧ ∀ k', k' < sk → zRz (zD t0) t0 p0 (sk + m) k' = -1) ∨ (op = 1 ∧ sk = 1 ∧ ∃ cc c0, x4 = Int32.ofNat cc ∧ x8 = Int32.ofNat (zF f (zSg2 t0 (2 * c0))) ∧ u0 16 y = Int32.ofNat cc ∧ cc < nq ∧ c0 < N ∧ t0 45 p0 = Int32.ofNat (2 * c0) ∧ ¬ (zD t0).kd (zSg2 t0 (2 * c0)) = 0 ∧ g (2000 + y) = zur (zGrw t0 p0 a 1 m (g y)) cc (Int32.ofNat (zSg2 t0 (2 * c0 + 1))))) := by
  have hQ : Q ≤ 300 := hg.1.2.2.2.2.2.2.2.2.1
  have hN := hg.1.1.2.2.2.1
  have r : ∀ k, 8 ≤ k → k ≤ 115 → ¬ (k = 29 ∨ k = 31 ∨ k = 51 ∨ k = 58 ∨ k = 59 ∨ k = 60 ∨ k = 62 ∨ k = 64 ∨ k = 66 ∨ k = 85) → t k = t0 k := hv.1
  have pre : mX4_spawn (Int32.ofNat p) (Int32.ofNat y) t = if t0 91 y < 0 then bX4_spawn_42 (Int32.ofNat p) (Int32.ofNat y) (Int32.ofNat x) (t0 91 y) 0 t else bX4_spawn_42 (Int32.ofNat p) (Int32.ofNat y) (Int32.ofNat x) (t0 91 y) 1 t := by
    unfold mX4_spawn mX6_find
    rw [zn_get hy (by decide), pl_bd, r 93 (by decide) (by decide) (by decide), h93, zn_get hv16 (by decide), pl_bd, pl_bd, r 33 (by decide) (by decide) (by decide), h33, zn_get hy (by decide), pl_bd, r 91 (by decide) (by decide) (by decide)]
  rcases last with ⟨e1, e2, e3⟩ | ⟨e1, cc, c0, e2, e3, e4, e5, e6, e7, e8, e9, e10⟩
  · subst e1
    refine ⟨0, -1, -1, Or.inl rfl, ?_, fun u1 _ => ?_, Or.inl ⟨rfl, fun k => by rw [e3], fun k' hk => absurd hk (Nat.not_lt_zero _)⟩⟩
    · rw [pre, e2]
      rfl
    · unfold zCX
      rw [if_pos (show Int32.ofNat 0 = 0 from rfl)]
      rfl
  · subst e1
    have fl : 2 * c0 + 1 = zflp (2 * c0) := by unfold zflp; omega
    have vs : zV N t0 (zSg2 t0 (2 * c0)) := zV_sg hg.1.1 (by omega)
    have kk : (zD t0).kd (zSg2 t0 (2 * c0 + 1)) = 0 ↔ (zD t0).kd (zSg2 t0 (2 * c0)) = 0 := by
      rw [fl, zSg2_fl]
      exact (zV_fk hg.1.1 vs).1
    have s42 : bX4_spawn_42 (Int32.ofNat p) (Int32.ofNat y) (Int32.ofNat x) (Int32.ofNat cc) 1 t = if zCz (zD t0) (zSg2 t0 (2 * c0 + 1)) = 0 then bX4_spawn_68 (Int32.ofNat p) (Int32.ofNat y) (Int32.ofNat x) (Int32.ofNat cc) 1 1 t else bX4_spawn_67 (Int32.ofNat p) (Int32.ofNat y) (Int32.ofNat x) (Int32.ofNat cc) 1 t := by
      unfold bX4_spawn_42
      rw [if_neg (zn_neg (by omega)), zn_get hy (by decide), pl_bd, r 107 (by decide) (by decide) (by decide), e9]
    have cx : ∀ u1, zFtM u u1 → zCX (Int32.ofNat p) (Int32.ofNat y) (Int32.ofNat x) (Int32.ofNat 1) 0 (Int32.ofNat 1) (Int32.ofNat b0) u1 = if zKm ((zD t0).kd (zSg2 t0 (2 * c0))) = 0 then bX12_calls_236 (Int32.ofNat p) (Int32.ofNat y) (Int32.ofNat x) 0 (Int32.ofNat 1) (Int32.ofNat (zF f (zSg2 t0 (2 * c0)))) u1 else bX12_calls_237 (Int32.ofNat p) (Int32.ofNat y) (Int32.ofNat x) 0 (Int32.ofNat 1) (Int32.ofNat (zF f (zSg2 t0 (2 * c0)))) 1 u1 := fun u1 f1 => by
      have hm1 : zLvM S t0 u0 u1 := zLvM_b hm (zFb_of (fun k k1 k2 => f1.1 k (by omega)) (fun j j1 _ => f1.2 j (by omega)) (f1.2 86 (by decide)))
      have tg := zTG_live hg hm1
      unfold zCX bX12_calls_216
      rw [if_neg (show ¬ Int32.ofNat 1 = 0 by decide), zn_rd (by omega) (by decide), hm1.1 34 (by decide) (by decide) (by decide), e7, zn_dbl0, ← zF_dbl, pl_plain tg (by omega), pl_bd, if_neg (show ¬ Int32.ofNat 1 = 0 by decide), pl_isOf tg vs, pl_bd]
    have km := zKm_0 hg.1.1 vs
    by_cases c : (zD t0).kd (zSg2 t0 (2 * c0)) = 0
    · refine ⟨0, Int32.ofNat cc, Int32.ofNat (zF f (zSg2 t0 (2 * c0))), Or.inl rfl, ?_, fun u1 f1 => ?_, Or.inl ⟨rfl, fun k => ?_, fun k' hk' => ?_⟩⟩
      · rw [pre, e2, if_neg (zn_neg (by omega)), s42]
        unfold zCz
        rw [if_pos (kk.mpr c)]
        rfl
      · rw [cx u1 f1, if_pos (km.mpr c)]
        rfl
      · rw [e10]
        unfold zur zHo
        rw [if_pos (kk.mpr c)]
        by_cases q : k = cc
        · rw [if_pos q, q, e8]
        · rw [if_neg q]
      · have : k' = 0 := by omega
        subst this
        unfold zRz
        rw [Nat.add_zero, e6, if_pos ⟨by omega, zn_0le (by omega)⟩, show (Int32.ofNat (2 * c0)).toNatClampNeg = 2 * c0 from pl_clamp (pl_ofn (by omega))]
        unfold zHo
        rw [if_pos c]
    · refine ⟨1, Int32.ofNat cc, Int32.ofNat (zF f (zSg2 t0 (2 * c0))), Or.inr rfl, ?_, fun u1 f1 => ?_, Or.inr ⟨rfl, rfl, cc, c0, rfl, rfl, e3, e4, e5, e6, c, ?_⟩⟩
      · rw [pre, e2, if_neg (zn_neg (by omega)), s42]
        unfold zCz
        rw [if_neg (fun w => c (kk.mp w))]
        rfl
      · rw [cx u1 f1, if_neg (fun w => c (km.mp w))]
        rfl
      · rw [e10]
        unfold zHo
        rw [if_neg (fun w => c (kk.mp w))]
/-- no channel opens -/
theorem zSpA {G : zTxt} {f : Nat → Nat} {N M P A T Q Pa bb S F C R W V : Nat} {o : Nat → Nat × Nat} {w : Nat → Nat} {t0 u0 g : zS} {pm m c y x p0 a m1 sk : Nat} {Rg : Nat → Nat} {pq fp ql Y fq : Nat → Nat} {fr fd fc fk rw mem lim : Nat} {sp ac : Nat → Int32} {num H MC MR : zS} {t u t1 u1 : zS} {x4 x8 : Int32} (hg : zGd G f N M P A T Q Pa bb S F C R W V o w t0 u0 g) (hv : zLv t0 t) (hm : zLvM S t0 u0 u) (h : zDyn G f N Q t0 g pm m Rg pq fr fd fp sp ac num H Y ql MC MR fc fk rw fq mem lim t u) (hc : c < m) (hy : sp (Rg c) = Int32.ofNat y) (hy2 : y < 2147483648) (h16 : t 7 16 = 0 ∧ u 0 72 = 0) (f1 : zFt t t1) (f2 : zFtM u u1)
    (hx : x < Q) (h35 : t0 35 x = Int32.ofNat p0) (h37 : t0 37 x = Int32.ofNat (sk + m1)) (hsm : sk + m1 ≤ zNq t0 x) (hpk : p0 + (sk + m1) ≤ 1500) (h95 : t0 95 y = Int32.ofNat a) (h97 : t0 97 y = Int32.ofNat (a + m1)) (h19 : u 19 y = Int32.ofNat a) (h20 : u 20 y = Int32.ofNat m1) (ham : a + m1 ≤ 1500) (h29 : u0 29 x = t0 41 x) (h0 : g (6000 + y) 0 = 0)
    (harg : ∀ k, a ≤ k → k < a + m1 → zArg t0 u0 (pq (Rg c)) F C k) (hst : ∀ i, i < m1 → t0 45 (p0 + (sk + i)) = -1 ∨ ∃ x c, t0 83 (a + i) = Int32.ofNat (zJa t0 a i) ∧ zJa t0 a i < 3000 ∧ zGrw t0 p0 a sk i (g y) (zJa t0 a i) = Int32.ofNat x ∧ zV N t0 x ∧ c < N ∧ t0 45 (p0 + (sk + i)) = Int32.ofNat (2 * c) ∧ zEq (zD t0) x (zSg2 t0 (2 * c)))
    (told : ∀ i', i' < m1 → (0 ≤ t0 45 (p0 + (sk + i')) → t1 62 (sk + i') = H (Rg c) (zJa t0 a i') ∧ u1 60 i' = H (Rg c) (zJa t0 a i') ∧ u1 59 i' = 0) ∧ (¬ 0 ≤ t0 45 (p0 + (sk + i')) → t1 62 (sk + i') = u1 59 i' ∧ u1 60 i' = -1)) (hl : mem + (4 + zNq t0 x + 0 * (4 + 2 * rw)) ≤ lim)
    (hout : ∀ k, g (2000 + y) k = zGrw t0 p0 a sk m1 (g y) k) (hfirst : ∀ k', k' < sk → zRz (zD t0) t0 p0 (sk + m1) k' = -1) :
    zAo G f N Q t0 g (pm + 1) m Rg t u (zbd (zbd (mX8_join (Int32.ofNat x) (Int32.ofNat (zNq t0 x)) (t1 41 x) (zu t1 7 14 (Int32.ofNat (mem + (4 + zNq t0 x + 0 * (4 + 2 * rw)))))) fun r2159 t2160 => zbd (mX4_handOver r2159 (Int32.ofNat x) (Int32.ofNat sk) t2160) fun r2162 t2163 => zbd (mX4_giveAway (Int32.ofNat (Rg c)) (Int32.ofNat y) (Int32.ofNat x) (Int32.ofNat sk) t2163) fun r2165 t2166 => zKsp (Int32.ofNat (Rg c)) (Int32.ofNat y) x4 0 r2159 t2166) fun r t => z01 r (some (r, t))) (zbd (lX12_calls_303 zFU (Int32.ofNat (Rg c)) (Int32.ofNat y) (Int32.ofNat x) 0 (Int32.ofNat sk) x8 (Int32.ofNat 0) (Int32.ofNat (4 + zNq t0 x + 0 * (4 + 2 * rw))) 0 u1) fun r t => z01 r (some (r, t))) := by
  obtain ⟨w1, w2, w3, w4, w5, w6, w7, w8, w9, w10, w11, w12, w13⟩ := zWho hg h hc hy hy2
  have hQ : Q ≤ 300 := hg.1.2.2.2.2.2.2.2.2.1
  have r0 : ∀ k, 8 ≤ k → k ≤ 115 → ¬ (k = 29 ∨ k = 31 ∨ k = 51 ∨ k = 58 ∨ k = 59 ∨ k = 60 ∨ k = 62 ∨ k = 64 ∨ k = 66 ∨ k = 85) → t k = t0 k := hv.1
  have q0 : ∀ k, 5 ≤ k → k ≤ 39 → ¬ (k = 19 ∨ k = 20 ∨ k = 21 ∨ k = 24) → u k = u0 k := hm.1
  have u2s := hm.2.2 y w4
  have hdyn := h
  obtain ⟨a1, a2, a3, a4, a5, a6, a7, a8, a9, a10, a11, a12⟩ := h
  obtain ⟨j1, j2, j3, j4, j5, j6, j7⟩ := zTold (H := H) (Y := Y) (p := Rg c) (T62 := t1 62) (TE := u1 60) (TN := u1 59) (fc := fc) hg w1 ham harg hst w13 told
  obtain ⟨k1, k2, k3, k4⟩ := zRoomFor (x := x) a10 a3 a6.1 (Or.inl rfl) hl
  obtain ⟨n1, n2, n3⟩ := zNw_new a3 k1
  have hne : ¬ Rg c = zNw fr fd fp := n2 c hc
  obtain ⟨tC, eC⟩ : ∃ tC, tC = zu t1 7 14 (Int32.ofNat (mem + (4 + zNq t0 x + 0 * (4 + 2 * rw)))) := ⟨_, rfl⟩
  have rC : ∀ k, ¬ (k = 7 ∨ k = 51 ∨ k = 62 ∨ k = 85) → tC k = t k := fun k hk => by rw [eC, zu_row (by omega), f1 k (by omega)]
  have rC7 : ∀ j, ¬ j = 14 → tC 7 j = t 7 j := fun j hj => by rw [eC, zu_ne2 hj, f1 7 (by decide)]
  obtain ⟨t2, b1, b2, b3, b4⟩ := zSpawnC (Q := Q) (mr := m) (m := m1) (p := Rg c) (x := x) (y := y) (sk := sk) (a := a) (p0 := p0) (t0 := t0) (t := tC) (TN := u1 59) (TE := u1 60) (J := zJa t0 a) (blk := t1 41 x) (zAC_of a1 (rC 60 (by decide)) (fun k x1 x2 => rC k (by omega))) a3 k1 k2 w3 w2 w5 (by omega) hsm (fun k hk => by rw [rC k (by omega)]; exact r0 k (by omega) (by omega) (by omega)) h35 h37 h95 h97 ham hpk (by omega) (fun i hi => by rw [eC, zu_ne1 (by decide)]; exact j2 i hi) (fun i hi => ⟨(j3 i hi).1, fun w => ⟨((j3 i hi).2 w).1, ((j3 i hi).2 w).2.2⟩⟩) (zKsp (Int32.ofNat (Rg c)) (Int32.ofNat y) x4 0)
  obtain ⟨u2, d1, d2, d3, d4, d5, d6⟩ := zSpawnR (Q := Q) (mr := m) (m := m1) (p := Rg c) (x := x) (y := y) (sk := sk) (a := a) (u := u1) (J := zJa t0 a) (x8 := x8) (x9 := Int32.ofNat 0) (x10 := Int32.ofNat (4 + zNq t0 x + 0 * (4 + 2 * rw))) (zAR_of a2 (fun j hj => f2.2 j (by omega)) (fun k x1 x2 => f2.1 k (by omega))) a3 k1 k2 w3 w2 w5 hx hQ (by rw [f2.1 31 (by decide)]; exact zSt31 hg hm) hsm (by rw [f2.1 19 (by decide)]; exact h19) (by rw [f2.1 20 (by decide)]; exact h20) ham (by omega) (fun i hi w => by
    obtain ⟨z1, z2, z3⟩ := (j3 i hi).2 w
    exact ⟨by rw [f2.1 26 (by decide), q0 26 (by decide) (by decide) (by decide)]; exact z2, z3⟩)
  have s21 : u1 21 y = t0 103 y := by rw [f2.1 21 (by decide)]; exact u2s.1
  have s29 : u1 29 x = t0 41 x := by rw [f2.1 29 (by decide), q0 29 (by decide) (by decide) (by decide)]; exact h29
  have s41 : t1 41 x = t0 41 x := by rw [f1 41 (by decide), r0 41 (by decide) (by decide) (by decide)]
  obtain ⟨r, er⟩ : ∃ r, r = zNw fr fd fp := ⟨_, rfl⟩
  rw [← er] at n1 n2 n3 hne b1 b2 d1 d2
  rw [s21, s29] at d2
  rw [s41, zSpawnE hne] at b2
  rw [← eC, b1]
  have A2 := zAC_sp (p := Rg c) (v := t0 103 y) b2
  rw [zSpE hne] at A2
  have e103 : t2 103 y = t0 103 y := by rw [b4 103 (by decide), rC 103 (by decide), r0 103 (by decide) (by decide) (by decide)]
  have fin : zKsp (Int32.ofNat (Rg c)) (Int32.ofNat y) x4 0 (Int32.ofNat r) t2 = some (1, zu t2 129 (Rg c) (t0 103 y)) := by
    unfold zKsp bX4_spawn_203
    rw [if_pos (show Int32.ofNat 0 = 0 from rfl), zn_get w5 (by decide), pl_bd, e103, zn_set w2 (by decide), pl_bd]
  have finM : zCY (Int32.ofNat (Rg c)) (Int32.ofNat y) x8 (Int32.ofNat 0) (Int32.ofNat r) u2 = some (1, u2) := by
    unfold zCY
    rw [if_pos (show Int32.ofNat 0 = 0 from rfl)]
  rw [fin, d1, finM, pl_bd, pl_bd]
  have rT : ∀ k, ¬ (k = 7 ∨ k = 51 ∨ k = 60 ∨ k = 62 ∨ k = 85 ∨ 126 ≤ k) → zu t2 129 (Rg c) (t0 103 y) k = t k := fun k hk => by rw [zu_row (by omega), b4 k (by omega), rC k (by omega)]
  have rT7 : ∀ j, ¬ j = 14 → zu t2 129 (Rg c) (t0 103 y) 7 j = t 7 j := fun j hj => by rw [zu_row (by decide), b4 7 (by decide), rC7 j hj]
  have rU : ∀ k, ¬ (k = 0 ∨ (46 ≤ k ∧ k ≤ 53) ∨ (58 ≤ k ∧ k ≤ 60)) → u2 k = u k := fun k hk => by rw [d6 k (by omega), f2.1 k (by omega)]
  have rU0 : ∀ j, ¬ (j = 79 ∨ j = 80 ∨ j = 85 ∨ j = 88 ∨ j = 94 ∨ j = 105 ∨ j = 107) → u2 0 j = u 0 j := fun j hj => by rw [d5 j (by omega), f2.2 j (by omega)]
  have tg := zTG_live hg hm
  have hf := (zRw_bd a6.2.2.2.1 a6.2.1).1
  refine ⟨1, _, _, m + 1, zfu Rg m r, rfl, rfl, Or.inr rfl, zFa_of (fun k hk => rT k (by omega)) (rT7 13 (by decide)), zFb_of (fun k x1 x2 => rU k (by omega)) (fun j x1 x2 => rU0 j (by omega)) (rU0 86 (by decide)), by omega, fun i hi => zfu_ne (by omega), by rw [rT7 16 (by decide), rU0 72 (by decide), h16.1, h16.2], Or.inl (rT7 16 (by decide)), _, _, _, _, _, _, _, _, _, _, _, _, _, _, _, _, _, _, zDyn_pm (zSpDone (p0 := p0) (k0 := sk + m1) (mem2 := mem + (4 + zNq t0 x + 0 * (4 + 2 * rw))) hg hdyn hc hy hy2 hx (by omega) n2 A2 d2 (er ▸ zAP_join a3 k1 hx) (zBC_of a4 (fun j hj => by rw [rT 59 (by decide)]) (fun k x1 x2 => rT k (by omega))) (zBR_of a5 (fun j hj => rU0 j (by omega)) (fun k x1 x2 => rU k (by omega))) a6 ?_ (zHH_sp a8 hne j6 j7) h35 h37 ⟨by omega, by omega⟩ (fun k hk => ?_) h0 (fun k hk => ?_) (fun p' k hp1 hp2 _ => ?_) (fun _ _ _ _ _ => rfl) ?_ ?_ ?_) (by omega)⟩
  · intro e he ho
    have hh : ∀ e, zHn (fun r' k => if r' = r then -1 else zGa H (Rg c) (zJa t0 a) (u1 60) m1 r' k) r sk (u1 60) m1 (10000 + e) = H (10000 + e) := fun e => by
      rw [zHn_row (by omega)]
      funext j
      show (if 10000 + e = r then -1 else zGa H (Rg c) (zJa t0 a) (u1 60) m1 (10000 + e) j) = _
      rw [if_neg (by omega), zGa_row (by omega)]
    rw [hh, hh]
    exact a7 e he ho
  · by_cases q : k < sk
    · rw [hfirst k q, zHn_at, if_neg (by omega)]
      show zHld N t0 Y (-1) (if r = r then -1 else _)
      rw [if_pos rfl]
      exact Or.inl ⟨rfl, rfl⟩
    · exact zChild tg (by omega) a8 j1 j5 (fun j => by show (if r = r then -1 else _) = -1; rw [if_pos rfl]) k (by omega)
  · rw [hout k, zHn_row hne]
    show zHld N t0 Y _ (if Rg c = r then -1 else zGa H (Rg c) (zJa t0 a) (u1 60) m1 (Rg c) k)
    rw [if_neg hne]
    exact j4 k hk
  · rw [zHn_row hp2]
    show (if p' = r then -1 else zGa H (Rg c) (zJa t0 a) (u1 60) m1 p' k) = _
    rw [if_neg hp2, zGa_row hp1]
  · refine ⟨by rw [zu_row (by decide), b4 7 (by decide), eC, zu_same], by rw [d4, f2.2 80 (by decide), a10.2.1, zn_add, Nat.zero_mul, Nat.add_zero], by rw [rT7 15 (by decide)]; exact a10.2.2.1, by rw [rU0 74 (by decide)]; exact a10.2.2.2.1, a10.2.2.2.2.1, hl, ?_⟩
    have := k4 r n2
    rw [Nat.add_zero] at this
    exact this
  · obtain ⟨c1, c2, c3, c4, c5, kp, c6, c7, c8, c9⟩ := a11
    refine ⟨by rw [rT7 11 (by decide), rU0 77 (by decide)]; exact c1, by rw [rT7 12 (by decide), rU0 78 (by decide)]; exact c2, ?_, by rw [rT 59 (by decide), rU0 100 (by decide)]; exact c4, by rw [rT 59 (by decide), rU0 101 (by decide)]; exact c5, kp, c6, by rw [rT7 10 (by decide)]; exact c7, by rw [rU0 81 (by decide)]; exact c8, by rw [rT 66 (by decide), rU 44 (by decide)]; exact c9⟩
    rw [zu_row (by decide), b3, rC 60 (by decide), d3, f2.2 79 (by decide), c3]
  · exact zInp_of2 a12 (rT7 8 (by decide)) (rT7 9 (by decide)) (rT 64 (by decide)) (rU0 83 (by decide)) (rU 45 (by decide))
