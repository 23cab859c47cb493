/-! a call in a run: what is known of it -/
theorem zKd_call {G : zTxt} {o : Nat → Nat × Nat} {w : Nat → Nat} {S F C R W V s : Nat} {t u : zS} (h : zStm G o w S F C R W V t u s) (hk : t 87 s = 8 ∨ t 87 s = 9) : ((t 87 s = 8 ∧ u 14 s = 7 ∧ t 91 s = -1 ∧ u 16 s = -1) ∨ (t 87 s = 8 ∧ u 14 s = 8 ∧ zSo t (o s).2 (t 91 s) (u 16 s)) ∨ (t 87 s = 9 ∧ u 14 s = 9 ∧ t 91 s = -1 ∧ u 16 s = -1)) ∧ u 18 s = -1 ∧ zCl t u (o s).2 F C R s := by
  rcases h.2 with ⟨⟨q, _⟩ | ⟨q, _⟩, _⟩ | ⟨q, _⟩ | ⟨⟨q, _⟩ | ⟨q, _⟩ | ⟨q, _⟩, _⟩ | ⟨q, _⟩ | ⟨q, _⟩ | ⟨q, _⟩ | ⟨q, z⟩ | ⟨q, _⟩ | ⟨q, _⟩
  all_goals first
    | exact ⟨q, z⟩
    | (rw [q] at hk; exact absurd hk (by decide))
theorem zSs_4 {f : Nat → Nat} : ∀ m, zSs (fun i => 4 + f i) m = 4 * m + zSs f m := by
  intro m
  induction m with
  | zero => rfl
  | succ m ih =>
    show zSs (fun i => 4 + f i) m + (4 + f m) = 4 * (m + 1) + (zSs f m + f m)
    omega
theorem zCallF {G : zTxt} {f : Nat → Nat} {N M P A T Q Pa bb S F C R W V : Nat} {o : Nat → Nat × Nat} {w : Nat → Nat} {t0 u0 g : zS} {q y : Nat} {u : zS} (hg : zGd G f N M P A T Q Pa bb S F C R W V o w t0 u0 g) (hm : zLvM S t0 u0 u) (hq : q < Q) (hy : y < S) (ho : (o y).2 = q) (hs : zStm G o w S F C R W V t0 u0 y) (ha : zAn (zD t0) N Q (zNq t0 q) t0 g y) (hk : t0 87 y = 8 ∨ t0 87 y = 9) :
    ∃ v x p0 b0 a m sk, x < Q ∧ v < 1600 ∧ t0 93 y = Int32.ofNat v ∧ t0 33 v = Int32.ofNat x ∧ u0 17 y = Int32.ofNat x ∧ t0 39 x = Int32.ofNat (zNq t0 x) ∧ zNq t0 x ≤ 1100 ∧ u0 31 x = Int32.ofNat b0 ∧ b0 + zNq t0 x ≤ 3000 ∧ t0 35 x = Int32.ofNat p0 ∧ t0 37 x = Int32.ofNat (sk + m) ∧ sk + m ≤ zNq t0 x ∧ p0 + (sk + m) ≤ 1500 ∧ t0 95 y = Int32.ofNat a ∧ t0 97 y = Int32.ofNat (a + m) ∧ u 19 y = Int32.ofNat a ∧ u 20 y = Int32.ofNat m ∧ a + m ≤ 1500 ∧ u0 29 x = t0 41 x ∧ u0 18 y = -1 ∧ (∀ j, j < sk + m → zPm f N (t0 45 (p0 + j)) (u0 34 (b0 + j))) ∧ (∀ k, a ≤ k → k < a + m → zArg t0 u0 q F C k) ∧
      (∀ i, i < m → t0 45 (p0 + (sk + i)) = -1 ∨ ∃ x c, t0 83 (a + i) = Int32.ofNat (zJa t0 a i) ∧ zJa t0 a i < 3000 ∧ zGrw t0 p0 a sk i (g y) (zJa t0 a i) = Int32.ofNat x ∧ zV N t0 x ∧ c < N ∧ t0 45 (p0 + (sk + i)) = Int32.ofNat (2 * c) ∧ zEq (zD t0) x (zSg2 t0 (2 * c))) ∧ g (6000 + y) 0 = (if t0 87 y = 9 then 1 else 0) ∧
      ((sk = 0 ∧ t0 91 y = -1 ∧ u0 16 y = -1 ∧ ((t0 87 y = 8 ∧ u0 14 y = 7) ∨ (t0 87 y = 9 ∧ u0 14 y = 9)) ∧ g (2000 + y) = zGrw t0 p0 a 0 m (g y) ∧ (t0 87 y = 9 → ∀ k, k < zNq t0 q → g (2000 + y) k = -1)) ∨
       (sk = 1 ∧ t0 87 y = 8 ∧ u0 14 y = 8 ∧ ∃ cc c0, t0 91 y = Int32.ofNat cc ∧ u0 16 y = Int32.ofNat cc ∧ cc < zNq t0 q ∧ c0 < N ∧ t0 45 p0 = Int32.ofNat (2 * c0) ∧ u0 34 b0 = Int32.ofNat (f c0) ∧ zGrw t0 p0 a 1 m (g y) cc = -1 ∧ t0 107 y = zCz (zD t0) (zSg2 t0 (2 * c0 + 1)) ∧ g (2000 + y) = zur (zGrw t0 p0 a 1 m (g y)) cc (zHo (zD t0) (zSg2 t0 (2 * c0 + 1))))) := by
  have hN := hg.1.1.2.2.2.1
  have hQ : Q ≤ 300 := hg.1.2.2.2.2.2.2.2.2.1
  have hR : R ≤ 1500 := hg.1.2.2.2.2.2.2.2.2.2.1
  have hbb : bb ≤ 3000 := hg.1.2.2.2.2.2.2.2.2.2.2.2.2.1
  have hPa : Pa ≤ 1500 := hg.1.2.2.2.2.2.2.2.2.2.2.2.2.2
  obtain ⟨k1, k2, v, a, m, l1, l2, l3, l4, l5, l6, l7, l8⟩ := zKd_call hs hk
  obtain ⟨⟨v', x, p0, np, a', m', s1, ⟨s2, s3, s4, s4'⟩, s5, s6, s7, s8, s9, s10, s11⟩, s12⟩ := ha.1.2.1 hk
  obtain ⟨v3, kx, r1, r2, r3, r4, r5⟩ := hg.1.2.2.2.2.1 y hy hk
  have ev : v' = v := by rw [l1] at s1; exact ((zn_inj (by omega) (by omega)).mp s1).symm
  have ev3 : v3 = v := by rw [l1] at r2; exact ((zn_inj (by omega) (by omega)).mp r2).symm
  subst ev3; subst ev
  have ekx : kx = x := by rw [s5] at r3; exact ((zn_inj (by omega) (by omega)).mp r3).symm
  subst ekx
  have ea : a' = a := by rw [l3] at s9; exact ((zn_inj (by omega) (by omega)).mp s9).symm
  subst ea
  have em : m' = m := by
    rw [l4] at s10
    have := (zn_inj (by omega) (by omega)).mp s10
    omega
  subst em
  obtain ⟨nx, b0, kk, ax, d1, d2, d3, d4, d5, d6, d7, d8, d9, d10, d11, _⟩ := hg.1.2.2.2.1.2.2.2.2.2.2.1 kx s6
  obtain ⟨n1, n2⟩ := zNq_at hg s6
  have en : nx = zNq t0 kx := by rw [n1] at d1; exact ((zn_inj (by omega) (by omega)).mp d1).symm
  subst en
  have ek : kk = np := by rw [s8] at d5; exact ((zn_inj (by omega) (by omega)).mp d5).symm
  subst ek
  have eax : ax = p0 := by rw [s7] at d8; exact ((zn_inj (by omega) (by omega)).mp d8).symm
  subst eax
  have u2s := hm.2.2 y hy
  have n10 : ¬ u0 14 y = 10 := by
    rcases k1 with ⟨_, w, _⟩ | ⟨_, w, _⟩ | ⟨_, w, _⟩ <;> rw [w] <;> decide
  have blk : u0 29 kx = t0 41 kx := by
    rcases d11 with ⟨w1, w2⟩ | ⟨_, _, w1, w2, _⟩
    · rw [w1, w2]
    · rw [w1, w2]
  rw [ho] at l8
  rcases s11 with ⟨z1, z2, z3, z4⟩ | ⟨cc, c0, r1', z0, z1, z2, z3, z4, z5, z6, z7, z8, z9⟩
  · subst z2
    obtain ⟨y1, y2⟩ := zGv_steps hN _ _ _ _ _ z3
    refine ⟨v', kx, ax, b0, a', kk, 0, s6, l2, l1, s5, r4, n1, n2, d2, by omega, s7, by rw [Nat.zero_add]; exact s8, by omega, by omega, l3, l4, by rw [(u2s.2.2.1 n10).1]; exact l5, by rw [(u2s.2.2.1 n10).2]; exact l6, by omega, blk, k2, by rw [Nat.zero_add]; exact d10, l8, y1, s12, Or.inl ⟨rfl, z1, ?_, ?_, y2, z4⟩⟩
    · rcases k1 with ⟨_, _, _, w⟩ | ⟨_, _, w⟩ | ⟨_, _, _, w⟩
      · exact w
      · obtain ⟨_, _, w1, _, _, w4, w5⟩ := w
        rw [z1] at w1
        exact absurd (show (0 : Int32) ≤ -1 by rw [w1]; exact zn_0le (by omega)) zn_m1
      · exact w
    · rcases k1 with ⟨w1, w2, _, _⟩ | ⟨w1, w2, w⟩ | ⟨w1, w2, _, _⟩
      · exact Or.inl ⟨w1, w2⟩
      · obtain ⟨_, _, w3, _, _, w4, w5⟩ := w
        rw [z1] at w3
        exact absurd (show (0 : Int32) ≤ -1 by rw [w3]; exact zn_0le (by omega)) zn_m1
      · exact Or.inr ⟨w1, w2⟩
  · subst z3
    obtain ⟨y1, y2⟩ := zGv_steps hN _ _ _ _ _ z6
    subst y2
    obtain ⟨nq1, nq2⟩ := zNq_at hg hq
    have hpm0 := d10 0 (by omega)
    refine ⟨v', kx, ax, b0, a', m', 1, s6, l2, l1, s5, r4, n1, n2, d2, by omega, s7, by rw [Nat.add_comm]; exact s8, by omega, by omega, l3, l4, by rw [(u2s.2.2.1 n10).1]; exact l5, by rw [(u2s.2.2.1 n10).2]; exact l6, by omega, blk, k2, by rw [Nat.add_comm 1 m']; exact d10, l8, y1, s12, Or.inr ⟨rfl, z0, ?_, cc, c0, z1, ?_, z2, z4, z5, ?_, z7, z8, z9⟩⟩
    · rcases k1 with ⟨_, _, w, _⟩ | ⟨_, w, _⟩ | ⟨w, _⟩
      · rw [z1] at w; exact absurd (show (0 : Int32) ≤ -1 by rw [← w]; exact zn_0le (by omega)) zn_m1
      · exact w
      · rw [z0] at w; exact absurd w (by decide)
    · rcases k1 with ⟨_, _, w, _⟩ | ⟨_, _, w⟩ | ⟨w, _⟩
      · rw [z1] at w; exact absurd (show (0 : Int32) ≤ -1 by rw [← w]; exact zn_0le (by omega)) zn_m1
      · rw [ho] at w
        obtain ⟨k, x1, x2, x3⟩ := zSo_k w nq1 (by omega)
        rw [z1] at x2
        rw [x3, x2]
      · rw [z0] at w; exact absurd w (by decide)
    · rw [Nat.add_zero, Nat.add_zero] at hpm0
      rcases hpm0 with ⟨w, _⟩ | ⟨c1, w1, w2, w3⟩
      · rw [z5] at w; exact absurd (show (0 : Int32) ≤ -1 by rw [← w]; exact zn_0le (by omega)) zn_m1
      · rw [z5] at w2
        have := (zn_inj (by omega) (by omega)).mp w2
        rw [w3, show c0 = c1 by omega]
/-! a new channel -/
theorem zNc_not {D : zCo} {N : Nat} {t0 : zS} {Y ql : Nat → Nat} {fc fk rw c : Nat} {fq : Nat → Nat} {H : zS} (h : zBP D N t0 Y ql fc fk rw fq) (hf : fc ≤ 2000) (hH : zHH D Y fc H) (hc : c = if fk = 0 then fc else fq (fk - 1)) : ∀ a b e, H a b = Int32.ofNat e → e < 4000 → ¬ (e = 2 * c ∨ e = 2 * c + 1) := by
  intro a b e h1 h2 w
  obtain ⟨x1, x2⟩ := zHH_of hH hf h1 h2
  by_cases z : fk = 0
  · rw [if_pos z] at hc; omega
  · rw [if_neg z] at hc
    obtain ⟨_, y1, y2⟩ := h.2.2.2.2.1 (fk - 1) (by omega)
    rw [← hc] at y1 y2
    rcases w with w | w
    · rw [w] at x2; exact x2 y1
    · rw [w] at x2; exact x2 y2
theorem zBP_new {D : zCo} {N : Nat} {t0 : zS} {Y ql : Nat → Nat} {fc fk rw c y y' : Nat} {fq : Nat → Nat} (h : zBP D N t0 Y ql fc fk rw fq) (hc : c = if fk = 0 then fc else fq (fk - 1)) (hf : fk = 0 → (fc + 1) * (4 + 2 * rw) ≤ 10000) (hy : zV N t0 y) (hy' : zV N t0 y') : zBP D N t0 (zfu (zfu Y (2 * c) y) (2 * c + 1) y') (zfu (zfu ql (2 * c) 0) (2 * c + 1) 0) (if fk = 0 then fc + 1 else fc) (fk - 1) rw fq := by
  obtain ⟨a1, a2, a3, a4, a5, a6, a7⟩ := h
  have vv : ∀ e, e < 2 * (if fk = 0 then fc + 1 else fc) → zV N t0 (zfu (zfu Y (2 * c) y) (2 * c + 1) y' e) ∧ zfu (zfu ql (2 * c) 0) (2 * c + 1) 0 e ≤ rw := fun e he => by
    by_cases q1 : e = 2 * c + 1
    · rw [q1, zfu_same, zfu_same]; exact ⟨hy', by omega⟩
    · rw [zfu_ne q1, zfu_ne q1]
      by_cases q2 : e = 2 * c
      · rw [q2, zfu_same, zfu_same]; exact ⟨hy, by omega⟩
      · rw [zfu_ne q2, zfu_ne q2]
        refine a7 e ?_
        by_cases z : fk = 0
        · rw [if_pos z] at he hc; omega
        · rw [if_neg z] at he; exact he
  refine ⟨by split <;> omega, a2, a3, ?_, fun j hj => ?_, fun j l hj hl w => a6 j l (by omega) (by omega) w, vv⟩
  · split
    · rename_i z; exact hf z
    · exact a4
  · obtain ⟨x1, x2, x3⟩ := a5 j (by omega)
    have ne : ¬ fq j = c := fun w => by
      rw [if_neg (by omega)] at hc
      have := a6 j (fk - 1) (by omega) (by omega) (w.trans hc)
      omega
    rw [zfu_ne (by omega), zfu_ne (by omega), zfu_ne (by omega), zfu_ne (by omega)]
    exact ⟨by split <;> omega, x2, x3⟩
theorem zBT_new {G : zTxt} {f : Nat → Nat} {N M P A T : Nat} {t u : zS} {B : List Nat} {Y ql : Nat → Nat} {MC MR H H2 : zS} {fc fk c y : Nat} {fq : Nat → Nat} (hT : zTG G f N M P A T t u) (h : zBT t B Y ql MC MR H fc) (hc : c = if fk = 0 then fc else fq (fk - 1)) (hk : fk ≤ fc) (hq : ∀ j, j < fk → fq j < fc) (hy : zV N t y) (hn : ∀ a b e, H a b = Int32.ofNat e → e < 4000 → ¬ (e = 2 * c ∨ e = 2 * c + 1)) (hH : ∀ e, H2 (10000 + e) = H (10000 + e)) : zBT t B (zfu (zfu Y (2 * c) y) (2 * c + 1) (zflp y)) (zfu (zfu ql (2 * c) 0) (2 * c + 1) 0) MC MR H2 (if fk = 0 then fc + 1 else fc) := by
  intro e he ho
  have fe : zflp (2 * c) = 2 * c + 1 := by unfold zflp; omega
  have fe' : zflp (2 * c + 1) = 2 * c := by unfold zflp; omega
  have rfl1 : zEq (zD t) (zflp y) (zflp y) := zEqv_eq.rf _
  by_cases q1 : e = 2 * c + 1
  · subst q1
    rw [fe', zfu_same, zfu_ne (show ¬ 2 * c = 2 * c + 1 by omega), zfu_same, zfu_same, zfu_ne (show ¬ 2 * c = 2 * c + 1 by omega), zfu_same]
    exact ⟨zflp y, y, rfl, rfl, by unfold zDl; rw [(zflp_2 y).2.2]; exact zEqv_eq.rf _⟩
  · by_cases q2 : e = 2 * c
    · subst q2
      rw [fe, zfu_same, zfu_ne (show ¬ 2 * c = 2 * c + 1 by omega), zfu_same, zfu_same, zfu_ne (show ¬ 2 * c = 2 * c + 1 by omega), zfu_same]
      exact ⟨y, zflp y, rfl, rfl, rfl1⟩
    · have le : e < 2 * fc := by
        by_cases z : fk = 0
        · rw [if_pos z] at he hc; omega
        · rw [if_neg z] at he; exact he
      have q3 : ¬ zflp e = 2 * c + 1 := by unfold zflp; omega
      have q4 : ¬ zflp e = 2 * c := by unfold zflp; omega
      rw [zfu_ne q1, zfu_ne q2, zfu_ne q3, zfu_ne q4] at ho ⊢
      rw [zfu_ne q1, zfu_ne q2, zfu_ne q3, zfu_ne q4, hH, hH]
      obtain ⟨z, z', y1, y2, y3⟩ := h e le ho
      have hY : ∀ a j e', H a j = Int32.ofNat e' → e' < 4000 → zfu (zfu Y (2 * c) y) (2 * c + 1) (zflp y) e' = Y e' := fun a j e' w1 w2 => by
        have := hn a j e' w1 w2
        rw [zfu_ne (by omega), zfu_ne (by omega)]
      exact ⟨z, z', zQu_Y _ _ _ _ _ _ (fun j e' _ => hY _ j e') y1, zQu_Y _ _ _ _ _ _ (fun j e' _ => hY _ j e') y2, y3⟩
