/-! ACT spawn -/
theorem zSt31 {G : zTxt} {f : Nat → Nat} {N M P A T Q Pa bb S F C R W V : Nat} {o : Nat → Nat × Nat} {w : Nat → Nat} {t0 u0 g : zS} {u : zS} (hg : zGd G f N M P A T Q Pa bb S F C R W V o w t0 u0 g) (hm : zLvM S t0 u0 u) : ∀ q, q < Q → ∃ b, u 31 q = Int32.ofNat b ∧ u 31 (q + 1) = Int32.ofNat (b + zNq t0 q) ∧ b + zNq t0 q ≤ 3000 := by
  intro q hq
  have hbb : bb ≤ 3000 := hg.1.2.2.2.2.2.2.2.2.2.2.2.2.1
  obtain ⟨nx, b0, _, _, d1, d2, d3, d4, _⟩ := hg.1.2.2.2.1.2.2.2.2.2.2.1 q hq
  obtain ⟨n1, n2⟩ := zNq_at hg hq
  have en : nx = zNq t0 q := by rw [n1] at d1; exact ((zn_inj (by omega) (by omega)).mp d1).symm
  subst en
  rw [hm.1 31 (by decide) (by decide) (by decide)]
  exact ⟨b0, d2, d3, by omega⟩
theorem zTold {G : zTxt} {f : Nat → Nat} {N M P A T Q Pa bb S F C R W V : Nat} {o : Nat → Nat × Nat} {w : Nat → Nat} {t0 u0 g : zS} {q p p0 sk a m : Nat} {Y : Nat → Nat} {fc : Nat} {H : zS} {r : Nat → Int32} {TE TN T62 : Nat → Int32} (hg : zGd G f N M P A T Q Pa bb S F C R W V o w t0 u0 g) (hq : q < Q) (hm15 : a + m ≤ 1500) (harg : ∀ k, a ≤ k → k < a + m → zArg t0 u0 q F C k) (hst : ∀ i, i < m → t0 45 (p0 + (sk + i)) = -1 ∨ ∃ x c, t0 83 (a + i) = Int32.ofNat (zJa t0 a i) ∧ zJa t0 a i < 3000 ∧ zGrw t0 p0 a sk i r (zJa t0 a i) = Int32.ofNat x ∧ zV N t0 x ∧ c < N ∧ t0 45 (p0 + (sk + i)) = Int32.ofNat (2 * c) ∧ zEq (zD t0) x (zSg2 t0 (2 * c))) (hh : ∀ k', k' < zNq t0 q → zHld N t0 Y (r k') (H p k')) (told : ∀ i', i' < m → (0 ≤ t0 45 (p0 + (sk + i')) → T62 (sk + i') = H p (zJa t0 a i') ∧ TE i' = H p (zJa t0 a i') ∧ TN i' = 0) ∧ (¬ 0 ≤ t0 45 (p0 + (sk + i')) → T62 (sk + i') = TN i' ∧ TE i' = -1)) :
    (∀ i, i < m → (0 ≤ t0 45 (p0 + (sk + i)) → TE i = H p (zJa t0 a i)) ∧ (¬ 0 ≤ t0 45 (p0 + (sk + i)) → TE i = -1)) ∧ (∀ i, i < m → (0 ≤ t0 45 (p0 + (sk + i)) → T62 (sk + i) = TE i ∧ TN i = 0) ∧ (¬ 0 ≤ t0 45 (p0 + (sk + i)) → T62 (sk + i) = TN i ∧ TE i = -1)) ∧ (∀ i, i < m → (0 ≤ t0 45 (p0 + (sk + i)) ↔ 0 ≤ TE i) ∧ (0 ≤ TE i → t0 83 (a + i) = Int32.ofNat (zJa t0 a i) ∧ u0 26 (a + i) = Int32.ofNat (zJa t0 a i) ∧ zJa t0 a i < zNq t0 q)) ∧ (∀ k', k' < zNq t0 q → zHld N t0 Y (zGrw t0 p0 a sk m r k') (zGa H p (zJa t0 a) TE m p k')) ∧ (∀ l, l < m → 0 ≤ t0 45 (p0 + (sk + l)) → ∃ e x c, H p (zJa t0 a l) = Int32.ofNat e ∧ e < 4000 ∧ zV N t0 x ∧ zEq (zD t0) x (Y e) ∧ c < N ∧ t0 45 (p0 + (sk + l)) = Int32.ofNat (2 * c) ∧ zEq (zD t0) x (zSg2 t0 (2 * c))) ∧ (∀ i, i < m → TE i = -1 ∨ TE i = H p (zJa t0 a i)) ∧ ∀ i l, i < m → l < m → 0 ≤ TE i → 0 ≤ TE l → zJa t0 a i = zJa t0 a l → i = l := by
  have hN := hg.1.1.2.2.2.1
  obtain ⟨n1, n2⟩ := zNq_at hg hq
  have hTE : ∀ i, i < m → (0 ≤ t0 45 (p0 + (sk + i)) → TE i = H p (zJa t0 a i)) ∧ (¬ 0 ≤ t0 45 (p0 + (sk + i)) → TE i = -1) := fun i hi => ⟨fun w => ((told i hi).1 w).2.1, fun w => ((told i hi).2 w).2⟩
  have key : ∀ i, i < m → 0 ≤ t0 45 (p0 + (sk + i)) → t0 83 (a + i) = Int32.ofNat (zJa t0 a i) ∧ u0 26 (a + i) = Int32.ofNat (zJa t0 a i) ∧ zJa t0 a i < zNq t0 q := fun i hi hp => by
    rcases hst i hi with c1 | ⟨_, _, c3, c4, _⟩
    · rw [c1] at hp; exact absurd hp (by decide)
    · obtain ⟨kk, x1, x2, x3⟩ : ∃ kk, kk < zNq t0 q ∧ t0 83 (a + i) = Int32.ofNat kk ∧ u0 26 (a + i) = Int32.ofNat kk := by
        rcases (harg (a + i) (by omega) (by omega)).2 with ⟨x1, _⟩ | x1
        · rw [c3] at x1
          exact absurd (show (0 : Int32) ≤ -1 by rw [← x1]; exact zn_0le (by omega)) zn_m1
        · exact zSo_k x1 n1 (by omega)
      have ekk : kk = zJa t0 a i := by
        rw [c3] at x2
        exact ((zn_inj (by omega) (by omega)).mp x2).symm
      subst ekk
      exact ⟨x2, x3, x1⟩
  obtain ⟨g1, g2⟩ := zGiven hN hst (fun i hi hp => (key i hi hp).2.2) hTE hh m (Nat.le_refl _)
  have iff : ∀ i, i < m → (0 ≤ t0 45 (p0 + (sk + i)) ↔ 0 ≤ TE i) := fun i hi => by
    by_cases c : 0 ≤ t0 45 (p0 + (sk + i))
    · obtain ⟨e, _, _, e1, e2, _⟩ := g2 i hi c
      refine ⟨fun _ => ?_, fun _ => c⟩
      rw [(hTE i hi).1 c, e1]; exact zn_0le (by omega)
    · refine ⟨fun w => absurd w c, fun w => ?_⟩
      rw [(hTE i hi).2 c] at w; exact absurd w (by decide)
  refine ⟨hTE, fun i hi => ⟨fun c => ?_, (told i hi).2⟩, fun i hi => ⟨iff i hi, fun c => key i hi ((iff i hi).mpr c)⟩, g1, g2, fun i hi => ?_, fun i l hi hl h1 h2 => zGiv_inj hN hst i l hi hl ((iff i hi).mpr h1) ((iff l hl).mpr h2)⟩
  · obtain ⟨x1, x2, x3⟩ := (told i hi).1 c
    exact ⟨by rw [x1, x2], x3⟩
  · by_cases c : 0 ≤ t0 45 (p0 + (sk + i))
    · exact Or.inr ((hTE i hi).1 c)
    · exact Or.inl ((hTE i hi).2 c)
/-- one more process runs -/
theorem zSpDone {G : zTxt} {f : Nat → Nat} {N M P A T Q Pa bb S F C R W V : Nat} {o : Nat → Nat × Nat} {w : Nat → Nat} {t0 u0 g : zS} {pm m c y x r p0 k0 fr2 fd2 fc2 fk2 mem2 : Nat} {Rg Y2 ql2 : Nat → Nat} {pq fp ql Y fq : Nat → Nat} {fr fd fc fk rw mem lim : Nat} {sp ac : Nat → Int32} {num H MC MR : zS} {t u t2 u2 num2 H2 : zS} (hg : zGd G f N M P A T Q Pa bb S F C R W V o w t0 u0 g) (h : zDyn G f N Q t0 g pm m Rg pq fr fd fp sp ac num H Y ql MC MR fc fk rw fq mem lim t u) (hc : c < m) (hy : sp (Rg c) = Int32.ofNat y) (hy2 : y < 2147483648) (hx : x < Q) (hr : r < 2501) (hnew : ∀ i, i < m → ¬ Rg i = r)
    (hA : zAC (zNq t0) (m + 1) (zfu Rg m r) (zfu pq r x) fr2 fd2 fp (zfu (zfu sp (Rg c) (t0 103 y)) r (t0 41 x)) (zfu ac r 0) num2 H2 t2) (hR : zAR (zNq t0) (m + 1) (zfu Rg m r) (zfu pq r x) fr2 fd2 fp (zfu (zfu sp (Rg c) (t0 103 y)) r (t0 41 x)) (zfu ac r 0) num2 H2 u2) (hP : zAP Q (m + 1) (zfu Rg m r) (zfu pq r x) fr2 fd2 fp)
    (hB : zBC (zD t0) Y2 ql2 MC fc2 fk2 rw fq t2) (hBR : zBR (zD t0) f Y2 ql2 MR fc2 fk2 rw fq u2) (hBP : zBP (zD t0) N t0 Y2 ql2 fc2 fk2 rw fq) (hBT : zBT t0 (zBk G) Y2 ql2 MC MR H2 fc2) (hHH : zHH (zD t0) Y2 fc2 H2)
    (h35 : t0 35 x = Int32.ofNat p0) (h37 : t0 37 x = Int32.ofNat k0) (hb : k0 ≤ 3000 ∧ p0 ≤ 3000) (hchild : ∀ k, k < zNq t0 x → zHld N t0 Y2 (zRz (zD t0) t0 p0 k0 k) (H2 r k)) (h0 : g (6000 + y) 0 = 0) (hpar : ∀ k, k < zNq t0 (pq (Rg c)) → zHld N t0 Y2 (g (2000 + y) k) (H2 (Rg c) k)) (hoth : ∀ p k, ¬ p = Rg c → ¬ p = r → p < 2501 → H2 p k = H p k) (hY : ∀ p k e, H p k = Int32.ofNat e → e < 4000 → Y2 e = Y e)
    (hMe : zMe (zNq t0) (m + 1) (zfu Rg m r) (zfu pq r x) fc2 fk2 rw mem2 lim t2 u2) (hCn : zCn pm t2 u2) (hIn : zInp t2 u2) : zDyn G f N Q t0 g pm (m + 1) (zfu Rg m r) (zfu pq r x) fr2 fd2 fp (zfu (zfu sp (Rg c) (t0 103 y)) r (t0 41 x)) (zfu ac r 0) num2 H2 Y2 ql2 MC MR fc2 fk2 rw fq mem2 lim t2 u2 := by
  obtain ⟨w1, w2, w3, w4, w5, w6, w7, w8, w9, w10, w11, w12, w13⟩ := zWho hg h hc hy hy2
  obtain ⟨a1, a2, a3, a4, a5, a6, a7, a8, a9, a10, a11, a12⟩ := h
  obtain ⟨n1, n2⟩ := zNq_at hg w1
  obtain ⟨n3, n4⟩ := zNq_at hg hx
  have hN := hg.1.1.2.2.2.1
  refine ⟨hA, hR, hP, hB, hBR, hBP, hBT, hHH, fun i hi => ?_, hMe, hCn, hIn⟩
  by_cases e : i = m
  · rw [e, zfu_same, zfu_same, zfu_same]
    exact zTp_go hN (zGo_0 hg hx n3 (by omega) h37 h35 hb.1 hb.2) hchild
  · have ne := hnew i (by omega)
    rw [zfu_ne e, zfu_ne ne, zfu_ne ne]
    by_cases e2 : i = c
    · rw [e2, zfu_same]
      exact zTp_go hN (zAft hg w1 n1 (by omega) (y + 1) y (by omega) w7 h0) hpar
    · have ne2 : ¬ Rg i = Rg c := fun w => e2 (a3.2.1 i c (by omega) hc w)
      have l25 : Rg i < 2501 := by have := (a3.1 i (by omega)).1; have := a3.2.2.2.1; omega
      rw [zfu_ne ne2]
      exact zTp_Y (a9 i (by omega)) (fun k _ => hoth _ k ne2 ne l25) (fun k e' _ q1 q2 => hY _ k e' q1 q2)
/-- the reference comes to its ARGUMENTS -/
theorem zCallM {S : Nat} {t0 u0 : zS} {n : Nat → Nat} {m p y x b0 sk : Nat} {R1 pq : Nat → Nat} {fr fd : Nat} {fp : Nat → Nat} {sp ac : Nat → Int32} {num H u : zS} {kk x5 : Int32} (hm : zLvM S t0 u0 u) (hR : zAR n m R1 pq fr fd fp sp ac num H u) (hp : zIn m R1 p) (hp2 : p < 2501) (hy : y < 1000) (hx : x < 300) (h49 : u 49 p = Int32.ofNat y) (h14 : u0 14 y = kk) (hkk : (kk = 7 ∧ sk = 0 ∧ x5 = 0) ∨ (kk = 8 ∧ sk = 1 ∧ x5 = 0) ∨ (kk = 9 ∧ sk = 0 ∧ x5 = 1)) (h16 : u0 16 y = -1 ∨ ∃ cc, u0 16 y = Int32.ofNat cc ∧ cc < n (pq p)) (h18 : u0 18 y = -1) (h17 : u0 17 y = Int32.ofNat x) (h31 : u0 31 x = Int32.ofNat b0) : mX12_act (Int32.ofNat p) (Int32.ofNat y) u = zbd (lX12_calls_73 zFU (Int32.ofNat p) (Int32.ofNat y) (Int32.ofNat x) (Int32.ofNat sk) x5 (Int32.ofNat sk) (Int32.ofNat b0) 0 u) fun r t => z01 r (some (r, t)) := by
  obtain ⟨b, b1, b2, b3, _⟩ := zAR_at hR hp
  have q : ∀ k, 5 ≤ k → k ≤ 39 → ¬ (k = 19 ∨ k = 20 ∨ k = 21 ∨ k = 24) → u k = u0 k := hm.1
  obtain ⟨ua, ea⟩ : ∃ ua, ua = zu u 49 p (u 21 y) := ⟨_, rfl⟩
  have ra : ∀ k, ¬ k = 49 → ua k = u k := fun k hk => by rw [ea, zu_row hk]
  have back : zu ua 49 p (Int32.ofNat y) = u := by
    rw [ea]
    have e1 : zu (zu u 49 p (u 21 y)) 49 p (Int32.ofNat y) = zu u 49 p (Int32.ofNat y) := by
      funext k j
      by_cases c1 : k = 49
      · subst c1
        by_cases c2 : j = p
        · subst c2; rw [zu_same, zu_same]
        · rw [zu_ne2 c2, zu_ne2 c2, zu_ne2 c2]
      · rw [zu_ne1 c1, zu_ne1 c1, zu_ne1 c1]
    rw [e1]; exact zu_self h49
  have calls : mX12_calls (Int32.ofNat p) (Int32.ofNat y) ua = lX12_calls_73 zFU (Int32.ofNat p) (Int32.ofNat y) (Int32.ofNat x) (Int32.ofNat sk) x5 (Int32.ofNat sk) (Int32.ofNat b0) 0 u := by
    have c53 : ∀ x4 x5 y0, bX12_calls_53 (Int32.ofNat p) (Int32.ofNat y) (Int32.ofNat x) x4 x5 y0 ua = lX12_calls_73 zFU (Int32.ofNat p) (Int32.ofNat y) (Int32.ofNat x) x4 x5 y0 (Int32.ofNat b0) 0 u := fun x4 x5 y0 => by
      unfold bX12_calls_53
      rw [zn_rd (by omega) (by decide), ra 31 (by decide), q 31 (by decide) (by decide) (by decide), h31, zn_wr (by omega) (by decide), back]
    have c23 : ∀ y0, bX12_calls_23 (Int32.ofNat p) (Int32.ofNat y) (Int32.ofNat x) y0 ua = if kk = 9 then bX12_calls_41 (Int32.ofNat p) (Int32.ofNat y) (Int32.ofNat x) y0 1 ua else bX12_calls_41 (Int32.ofNat p) (Int32.ofNat y) (Int32.ofNat x) y0 0 ua := fun y0 => by
      unfold bX12_calls_23
      rw [zn_rd (by omega) (by decide), ra 14 (by decide), q 14 (by decide) (by decide) (by decide), h14]
    unfold mX12_calls
    rw [zn_rd (by omega) (by decide), ra 17 (by decide), q 17 (by decide) (by decide) (by decide), h17, zn_rd (by omega) (by decide), ra 14 (by decide), q 14 (by decide) (by decide) (by decide), h14, c23, c23]
    unfold bX12_calls_41
    rw [c53, c53, c53, c53, c53, c53, c53, c53]
    rcases hkk with ⟨e1, e2, e3⟩ | ⟨e1, e2, e3⟩ | ⟨e1, e2, e3⟩ <;> rw [e1, e2, e3] <;> rfl
  have a148 : ∀ X, bX12_act_110 (Int32.ofNat p) (Int32.ofNat y) (Int32.ofNat b) X kk u = zbd (mX12_calls (Int32.ofNat p) (Int32.ofNat y) ua) fun r t => z01 r (some (r, t)) := fun X => by
    unfold bX12_act_110 bX12_act_148
    rw [zn_rd (by omega) (by decide), q 18 (by decide) (by decide) (by decide), h18, if_pos (by decide), zn_rd (by omega) (by decide), zn_wr (by omega) (by decide), ← ea]
    rcases hkk with ⟨e1, _⟩ | ⟨e1, _⟩ | ⟨e1, _⟩ <;> rw [e1] <;> rfl
  have a33 : ∀ X, bX12_act_33 (Int32.ofNat p) (Int32.ofNat y) (Int32.ofNat b) X u = bX12_act_110 (Int32.ofNat p) (Int32.ofNat y) (Int32.ofNat b) X kk u := fun X => by
    unfold bX12_act_33 bX12_act_79
    rw [zn_rd (by omega) (by decide), q 14 (by decide) (by decide) (by decide), h14]
    rcases hkk with ⟨e1, _⟩ | ⟨e1, _⟩ | ⟨e1, _⟩ <;> rw [e1] <;> rfl
  unfold mX12_act
  rw [zn_rd (by omega) (by decide), b1, zn_rd (by omega) (by decide), q 16 (by decide) (by decide) (by decide)]
  rcases h16 with c1 | ⟨cc, c1, c2⟩
  · rw [c1, if_pos (by decide), a33, a148, calls]
  · rw [c1, if_neg (zn_neg (by omega)), zn_rd (by omega) (by decide), q 16 (by decide) (by decide) (by decide), c1, zn_add, zn_rd (by omega) (by decide), a33, a148, calls]
