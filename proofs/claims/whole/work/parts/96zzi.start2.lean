/-! START, both sides -/
theorem zStartB {G : zTxt} {f : Nat → Nat} {N M P A T Q Pa bb S F C R W V : Nat} {o : Nat → Nat × Nat} {w : Nat → Nat} {t0 u0 g : zS} {t u : zS} (hg : zGd G f N M P A T Q Pa bb S F C R W V o w t0 u0 g) (hM : zMain Q t0 u0) (hv : zLv t0 t) (hm : zLvM S t0 u0 u) (hZ : zSize t u) (hI : zInp t u) (h57 : ¬ u 0 57 = 0) : ∃ r t2 u2, mX4_begin (t 0 7) (t 0 8) t = some (r, t2) ∧ mX12_start u = some (r, u2) ∧ zFa2 t t2 ∧ (∀ j, (j ≤ 70 ∨ j = 75 ∨ j = 76 ∨ j = 83) → u2 0 j = u 0 j) ∧ (∀ k, 1 ≤ k → k ≤ 45 → u2 k = u k) ∧ u2 0 71 = 1 ∧ zRv G f N Q t0 g 0 t2 u2 := by
  obtain ⟨x, x1, x2, x3, x4⟩ := hM
  have hQ : Q ≤ 300 := hg.1.2.2.2.2.2.2.2.2.1
  have hN := hg.1.1.2.2.2.1
  obtain ⟨n1, n2⟩ := zNq_at hg x1
  have r0 : ∀ k, 8 ≤ k → k ≤ 115 → ¬ (k = 29 ∨ k = 31 ∨ k = 51 ∨ k = 58 ∨ k = 59 ∨ k = 60 ∨ k = 62 ∨ k = 64 ∨ k = 66 ∨ k = 85) → t k = t0 k := hv.1
  have q0 : ∀ k, 5 ≤ k → k ≤ 39 → ¬ (k = 19 ∨ k = 20 ∨ k = 21 ∨ k = 24) → u k = u0 k := hm.1
  obtain ⟨z1, z2, z3, z4, z5, z6⟩ := hZ
  have i0 : (0 : Int32).toInt = 0 := by decide
  have i1 : (1 : Int32).toInt = 1 := by decide
  have i10 : (10 : Int32).toInt = 10 := by decide
  have p7 : 0 ≤ t 0 7 := Int32.le_iff_toInt_le.mpr (by have := Int32.le_iff_toInt_le.mp z3; omega)
  have p8 : 0 ≤ t 0 8 := Int32.le_iff_toInt_le.mpr (by have := Int32.le_iff_toInt_le.mp z5; omega)
  obtain ⟨rw, w1, w2, w3⟩ := zNatOf p7
  obtain ⟨lim, l1, l2, l3⟩ := zNatOf p8
  have hrw : 1 ≤ rw ∧ rw ≤ 8 := by
    have a := Int32.le_iff_toInt_le.mp z3
    have b := Int32.le_iff_toInt_le.mp z4
    have e1 : (1 : Int32).toInt = 1 := by decide
    have e8 : (8 : Int32).toInt = 8 := by decide
    omega
  have hlim : lim ≤ 10000 := by
    have b := Int32.le_iff_toInt_le.mp z6
    have e8 : (10000 : Int32).toInt = 10000 := by decide
    omega
  have hst := zSt31 hg hm
  obtain ⟨tB, b1, b2, b3, b4, b5, b6, b7, b8, b9, b10, b11, b12, b13, b14, b15, b16, b17, b18, b19, b20, b21, b22, b23⟩ := pl_begin (x := 0) (x1 := t 0 7) (x2 := t 0 8) (t := t) (xn := x) (nx := zNq t0 x) (by omega) (by rw [r0 33 (by decide) (by decide) (by decide)]; exact x2) (by rw [r0 39 (by decide) (by decide) (by decide)]; exact n1)
  obtain ⟨uB, c1, c2, c3, c4, c5, c6, c7, c8⟩ := pl_startM (u := u) (xn := x) (nx := zNq t0 x) h57 (by rw [hm.2.1 62 (by decide)]; exact x3) (fun v hv' => by
    obtain ⟨b, y1, y2, y3⟩ := hst x x1
    exact pl_own (by omega) (by rw [hv']; exact y1) (by rw [hv']; exact y2) (by omega))
  rw [b1, c1, ← z2, l1]
  have A0 : ∀ tt : zS, tt 60 = tB 60 → zAC (zNq t0) 0 (fun _ => 0) (fun _ => 0) 0 0 (fun _ => 0) (fun _ => 0) (fun _ => 0) (fun _ _ => 0) (fun _ _ => -1) tt := fun tt h60 => by
    refine ⟨⟨by rw [h60]; exact b10, by rw [h60]; exact b11, fun i hi => absurd hi (Nat.not_lt_zero _)⟩, by rw [h60]; exact b16, by rw [h60]; exact b13, by rw [h60]; exact b12, fun j hj => absurd hj (Nat.not_lt_zero _), fun i hi => absurd hi (Nat.not_lt_zero _), 0, 0, fun _ => 0, Or.inl rfl, by rw [h60]; exact b14, by rw [h60]; exact b15, by omega, fun p hp => ?_, fun p p' hp => ?_⟩
    · obtain ⟨i, hi, _⟩ := hp; exact absurd hi (Nat.not_lt_zero _)
    · obtain ⟨i, hi, _⟩ := hp; exact absurd hi (Nat.not_lt_zero _)
  have R0 : zAR (zNq t0) 0 (fun _ => 0) (fun _ => 0) 0 0 (fun _ => 0) (fun _ => 0) (fun _ => 0) (fun _ _ => 0) (fun _ _ => -1) uB := by
    refine ⟨c6 85 (by decide), c6 105 (by decide), c6 88 (by decide), fun j hj => absurd hj (Nat.not_lt_zero _), fun i hi => absurd hi (Nat.not_lt_zero _), 0, fun _ => 0, c6 94 (by decide), by omega, fun p hp => ?_, fun p p' hp => ?_⟩
    · obtain ⟨i, hi, _⟩ := hp; exact absurd hi (Nat.not_lt_zero _)
    · obtain ⟨i, hi, _⟩ := hp; exact absurd hi (Nat.not_lt_zero _)
  have P0 : zAP Q 0 (fun _ => 0) (fun _ => 0) 0 0 (fun _ => 0) := ⟨fun i hi => absurd hi (Nat.not_lt_zero _), fun i j hi => absurd hi (Nat.not_lt_zero _), rfl, by omega, fun j hj => absurd hj (Nat.not_lt_zero _), fun j l hj => absurd hj (Nat.not_lt_zero _)⟩
  have BC : ∀ tt : zS, tt 59 = tB 59 → zBC (zD t0) (fun _ => 0) (fun _ => 0) (fun _ _ => 0) 0 0 rw (fun _ => 0) tt := fun tt h59 => ⟨by rw [h59]; exact b20, by rw [h59]; exact b19, by rw [h59, b18]; exact w1, fun j hj => absurd hj (Nat.not_lt_zero _), fun c hc => absurd hc (Nat.not_lt_zero _), fun e he => absurd he (by omega)⟩
  have BR : ∀ v : zS, (∀ j, (j = 73 ∨ j = 97 ∨ j = 98) → v 0 j = uB 0 j) → zBR (zD t0) f (fun _ => 0) (fun _ => 0) (fun _ _ => 0) 0 0 rw (fun _ => 0) v := fun v h0 => ⟨by rw [h0 97 (by decide)]; exact c6 97 (by decide), by rw [h0 98 (by decide)]; exact c6 98 (by decide), by rw [h0 73 (by decide), c3, ← z1]; exact w1, fun j hj => absurd hj (Nat.not_lt_zero _), fun e he => absurd he (by omega)⟩
  have BP : zBP (zD t0) N t0 (fun _ => 0) (fun _ => 0) 0 0 rw (fun _ => 0) := ⟨by omega, hrw.1, hrw.2, by omega, fun j hj => absurd hj (Nat.not_lt_zero _), fun j l hj => absurd hj (Nat.not_lt_zero _), fun e he => absurd he (by omega)⟩
  have BT : ∀ HH, zBT t0 (zBk G) (fun _ => 0) (fun _ => 0) (fun _ _ => 0) (fun _ _ => 0) HH 0 := fun HH e he => absurd he (by omega)
  have inp : ∀ tt v : zS, tt 7 8 = tB 7 8 → tt 7 9 = tB 7 9 → tt 64 = tB 64 → v 0 83 = uB 0 83 → v 45 = uB 45 → zInp tt v := fun tt v h1 h2 h3 h4 h5 => zInp_of2 hI (by rw [h1]; exact b8) (by rw [h2]; exact b9) (by rw [h3]; exact b23 64 (by decide)) (by rw [h4]; exact c7 83 (by decide)) (by rw [h5]; exact c8 45 (by decide))
  by_cases c : 4 + zNq t0 x ≤ lim
  · have c' := (zn_le (a := 4 + zNq t0 x) (b := lim) (by omega) (by omega)).mpr c
    rw [if_pos c', if_pos c']
    obtain ⟨t1, j1, j2, j3, j4⟩ := zJoinC (x := x) (blk := t 41 x) (A0 (zu tB 7 14 (Int32.ofNat (4 + zNq t0 x))) (zu_row (by decide))) P0 (fun _ => by omega) (by show 0 + zNq t0 x ≤ 12000; omega)
    obtain ⟨u1, k1, k2, k3, k4, k5, k6⟩ := zNewP (x := x) R0 P0 (fun _ => by omega) x1 hQ (by rw [c8 31 (by decide)]; exact hst) (by show 0 + zNq t0 x ≤ 12000; omega)
    have e29 : uB 29 x = t 41 x := by
      rw [c8 29 (by decide), q0 29 (by decide) (by decide) (by decide), r0 41 (by decide) (by decide) (by decide)]
      obtain ⟨_, _, _, _, _, _, _, _, _, _, _, _, _, _, d11, _⟩ := hg.1.2.2.2.1.2.2.2.2.2.2.1 x x1
      rcases d11 with ⟨y1, y2⟩ | ⟨_, _, y1, y2, _⟩
      · rw [y1, y2]
      · rw [y1, y2]
    rw [e29] at k2
    have nw : zNw 0 0 (fun _ => 0) = 0 := rfl
    rw [nw] at j1 j2 k1 k2
    have hH : (fun r k => if r = 0 then -1 else (fun (_ _ : Nat) => (-1 : Int32)) r k) = (fun _ _ => -1 : zS) := by
      funext r k
      show (if r = 0 then (-1 : Int32) else -1) = -1
      split <;> rfl
    rw [hH] at j2 k2
    rw [j1, pl_bd, pl_pt, pl_pt, zu_same, k1, pl_bd]
    obtain ⟨t2, e2⟩ : ∃ t2, t2 = zu (zu t1 7 13 (Int32.ofNat 0)) 7 16 0 := ⟨_, rfl⟩
    rw [← e2]
    have rT : ∀ k, ¬ k = 7 → t2 k = t1 k := fun k hk => by rw [e2, zu_row hk, zu_row hk]
    have rT0 : ∀ k, ¬ (k = 7 ∨ k = 59 ∨ k = 60 ∨ 126 ≤ k) → t2 k = t k := fun k hk => by rw [rT k (by omega), j4 k (by omega), zu_row (by omega), b23 k (by omega)]
    have rT7 : ∀ j, ¬ (j = 13 ∨ j = 14 ∨ j = 16) → t2 7 j = tB 7 j := fun j hj => by rw [e2, zu_ne2 (by omega), zu_ne2 (by omega), j4 7 (by decide), zu_ne2 (by omega)]
    have r59 : t2 59 = tB 59 := by rw [rT 59 (by decide), j4 59 (by decide), zu_row (by decide)]
    have rU0 : ∀ j, ¬ (j = 79 ∨ j = 80 ∨ j = 85 ∨ j = 88 ∨ j = 94 ∨ j = 105) → u1 0 j = uB 0 j := k5
    refine ⟨0, t2, u1, rfl, rfl, zFa2_of (fun k hk => rT0 k (by omega)), fun j hj => by rw [rU0 j (by omega)]; exact c7 j hj, fun k y1 y2 => by rw [k6 k (by omega), c8 k (by omega)], by rw [rU0 71 (by decide)]; exact c2, 1, zfu (fun _ => 0) 0 0, ⟨_, _, _, _, _, _, _, _, fun _ => 0, fun _ => 0, fun _ _ => 0, fun _ _ => 0, 0, 0, rw, fun _ => 0, 4 + zNq t0 x, lim, zAC_of j2 (rT 60 (by decide)) (fun k y1 y2 => rT k (by omega)), k2, zAP_join P0 (fun _ => by omega) x1, BC t2 r59, BR u1 (fun j hj => rU0 j (by omega)), BP, BT _, ⟨fun a b c d _ h0 => absurd (show (0 : Int32) ≤ -1 from h0) zn_m1, fun a b => Or.inl rfl⟩, fun i hi => ?_, ⟨?_, ?_, ?_, ?_, hlim, c, ?_⟩, ⟨?_, ?_, ?_, ?_, ?_, 0, by omega, ?_, ?_, fun j _ hj => absurd hj (Nat.not_lt_zero _)⟩, inp t2 u1 (rT7 8 (by decide)) (rT7 9 (by decide)) (by rw [rT 64 (by decide), j4 64 (by decide), zu_row (by decide)]) (rU0 83 (by decide)) (k6 45 (by decide))⟩, ?_, fun _ => ⟨0, by omega, ?_, ?_⟩⟩
    · have : i = 0 := by omega
      subst this
      rw [zfu_same, zfu_same, zfu_same, r0 41 (by decide) (by decide) (by decide)]
      obtain ⟨_, _, kk, a, _, _, _, _, d5, _, _, d8, d9, _⟩ := hg.1.2.2.2.1.2.2.2.2.2.2.1 x x1
      have hPa : Pa ≤ 1500 := hg.1.2.2.2.2.2.2.2.2.2.2.2.2.2
      refine zTp_go hN (zGo_0 hg x1 n1 (by omega) (k := 0) x4 d8 (by omega) (by omega)) (fun k _ => ?_)
      unfold zRz
      rw [if_neg (fun w => absurd w.1 (Nat.not_lt_zero _))]
      exact Or.inl ⟨rfl, rfl⟩
    · rw [e2, zu_ne2 (by decide), zu_ne2 (by decide), j4 7 (by decide), zu_same]
    · rw [k4, c6 80 (by decide), Int32.zero_add]
    · rw [rT7 15 (by decide), b7]; exact l1
    · rw [rU0 74 (by decide), c4, ← z2]; exact l1
    · show 4 + zNq t0 x = 0 + (4 + zNq t0 (zfu (fun _ => 0) 0 x (zfu (fun _ => 0) 0 0 0))) + 0 * _
      rw [zfu_same, zfu_same]
      omega
    · rw [rT7 11 (by decide), b4, rU0 77 (by decide), c6 77 (by decide)]
    · rw [rT7 12 (by decide), b5, rU0 78 (by decide), c6 78 (by decide)]
    · rw [rT 60 (by decide), j3, zu_ne1 (by decide), b17, k3, c6 79 (by decide)]
    · rw [r59, b21, rU0 100 (by decide), c6 100 (by decide)]
    · rw [r59, b22, rU0 101 (by decide), c6 101 (by decide)]
    · rw [rT7 10 (by decide), b3]; rfl
    · rw [rU0 81 (by decide), c6 81 (by decide)]; rfl
    · rw [e2, zu_same, rU0 72 (by decide), c5]
    · rw [e2, zu_ne2 (by decide), zu_same, zfu_same]
    · rw [rU0 86 (by decide), c6 86 (by decide)]; rfl
  · have c' : ¬ Int32.ofNat (4 + zNq t0 x) ≤ Int32.ofNat lim := fun v => c ((zn_le (by omega) (by omega)).mp v)
    rw [if_neg c', if_neg c']
    refine ⟨4, zu tB 7 16 4, zu uB 0 72 4, rfl, rfl, zFa2_of (fun k hk => by rw [zu_row (by omega), b23 k (by omega)]), fun j hj => by rw [zu_ne2 (by omega)]; exact c7 j hj, fun k y1 y2 => by rw [zu_row (by omega), c8 k (by omega)], by rw [zu_ne2 (by decide)]; exact c2, 0, fun _ => 0, ⟨fun _ => 0, 0, 0, fun _ => 0, fun _ => 0, fun _ => 0, fun _ _ => 0, fun _ _ => -1, fun _ => 0, fun _ => 0, fun _ _ => 0, fun _ _ => 0, 0, 0, rw, fun _ => 0, 0, lim, A0 _ (zu_row (by decide)), zAR_of R0 (fun j hj => zu_ne2 (by omega)) (fun k y1 y2 => zu_row (by omega)), P0, BC _ (zu_row (by decide)), BR _ (fun j hj => zu_ne2 (by omega)), BP, BT _, ⟨fun a b c d _ h0 => absurd (show (0 : Int32) ≤ -1 from h0) zn_m1, fun a b => Or.inl rfl⟩, fun i hi => absurd hi (Nat.not_lt_zero _), ⟨?_, ?_, ?_, ?_, hlim, by omega, ?_⟩, ⟨?_, ?_, ?_, ?_, ?_, 0, by omega, ?_, ?_, fun j _ hj => absurd hj (Nat.not_lt_zero _)⟩, inp _ _ (zu_ne2 (by decide)) (zu_ne2 (by decide)) (zu_row (by decide)) (zu_ne2 (by decide)) (zu_row (by decide))⟩, ?_, fun h0 => ?_⟩
    · rw [zu_ne2 (by decide), b6]; rfl
    · rw [zu_ne2 (by decide), c6 80 (by decide)]; rfl
    · rw [zu_ne2 (by decide), b7]; exact l1
    · rw [zu_ne2 (by decide), c4, ← z2]; exact l1
    · show 0 = 0 + 0 * _
      omega
    · rw [zu_ne2 (by decide), b4, zu_ne2 (by decide), c6 77 (by decide)]
    · rw [zu_ne2 (by decide), b5, zu_ne2 (by decide), c6 78 (by decide)]
    · rw [zu_ne1 (by decide), b17, zu_ne2 (by decide), c6 79 (by decide)]
    · rw [zu_ne1 (by decide), b21, zu_ne2 (by decide), c6 100 (by decide)]
    · rw [zu_ne1 (by decide), b22, zu_ne2 (by decide), c6 101 (by decide)]
    · rw [zu_ne2 (by decide), b3]; rfl
    · rw [zu_ne2 (by decide), c6 81 (by decide)]; rfl
    · rw [zu_same, zu_same]
    · rw [zu_same] at h0; exact absurd h0 (by decide)
/-- the step START -/
theorem st_start {n : Nat} {t u : zS} (hn : n < 1000) (h : zR4 (fun t u => zCnt t u ∧ zPr n t u) t u) : zStp (fun t u => zCnt t u ∧ zPr (n + 1) t u) (mX11_start t) (mX12_start u) := by
  obtain ⟨hT, hZ, hI, hC, hP⟩ := h
  have hC : zCnt t u := hC
  have hP' := zPr_u hP hI
  unfold mX11_start
  by_cases l1 : t 0 9 = 0
  · have : mX12_start u = some (-1, u) := by
      unfold mX12_start
      rw [if_pos (by rw [← hC.1.1]; exact l1)]
    rw [if_pos l1, this]
    exact ⟨_, t, u, rfl, rfl, hT, hZ, hI, hC, zPr_mono hP (by omega)⟩
  · rw [if_neg l1]
    rcases hP' with ⟨q, _⟩ | ⟨p0, G, f, N, M, P, A, T, Q, Pa, bb, S, F, C, R, W, V, o, w, t0, u0, g, h1, h2, h3, h4, h5, _⟩
    · exact absurd q l1
    · obtain ⟨r, t2, u2, b1, b2, b3, b4, b5, b6, b7⟩ := zStartB h1 h2 h3 h4 hZ hI (by rw [← hC.1.1]; exact l1)
      rw [b1, b2, pl_bd]
      have hI2 : zInp t2 u2 := by
        obtain ⟨_, _, ⟨e1, e2, e3, e4, e5, e6, e7, e8, e9, e10, e11, e12, e13, e14, e15, e16, e17, e18, z6⟩, _⟩ := b7
        exact z6.2.2.2.2.2.2.2.2.2.2.2
      have r09 : t2 0 9 = t 0 9 := by rw [b3.2 0 (by decide)]
      refine ⟨r, t2, u2, rfl, rfl, zTape_of hT (by rw [b3.2 0 (by decide)]) (b4 1 (by decide)) (b3.2 2 (by decide)) (b5 1 (by decide) (by decide)), zSize_of hZ (by rw [b3.2 0 (by decide)]) (by rw [b3.2 0 (by decide)]) (b4 75 (by decide)) (b4 76 (by decide)), hI2, ?_, ?_⟩
      · have : zCnt t2 u2 := ⟨by rw [r09, b4 57 (by decide)]; exact hC.1, Or.inr ⟨b6, zRv_cnt b7 (by omega)⟩⟩
        exact this
      · have lm : zLvM S t0 u0 u2 := by
          refine ⟨fun k k1 k2 k3 => by rw [b5 k (by omega) (by omega)]; exact h4.1 k k1 k2 k3, fun j hj => by rw [b4 j (by omega)]; exact h4.2.1 j hj, fun s hs => ?_⟩
          have := h4.2.2 s hs
          unfold zU2 at *
          rw [b5 19 (by decide) (by decide), b5 20 (by decide) (by decide), b5 21 (by decide) (by decide), b5 24 (by decide) (by decide)]
          exact this
        refine zPr_c (Or.inr ⟨by rw [r09]; exact p0, G, f, N, M, P, A, T, Q, Pa, bb, S, F, C, R, W, V, o, w, t0, u0, g, h1, h2, zLv_trans h3 b3.1, lm, ?_, Or.inr ⟨b6, zRv_pm b7 (by omega)⟩⟩)
        have l := b3.1
        exact zKp_of h5 ⟨l.1 9 (by decide) (by decide) (by decide), l.1 11 (by decide) (by decide) (by decide), l.1 13 (by decide) (by decide) (by decide), l.1 15 (by decide) (by decide) (by decide), l.1 17 (by decide) (by decide) (by decide), l.1 19 (by decide) (by decide) (by decide), l.1 21 (by decide) (by decide) (by decide), l.1 23 (by decide) (by decide) (by decide), l.1 25 (by decide) (by decide) (by decide), l.2.1 13 (by decide), l.2.1 14 (by decide), l.2.1 15 (by decide)⟩ (b3.2 29 (by decide))
