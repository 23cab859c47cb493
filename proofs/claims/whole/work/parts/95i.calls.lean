/-! CHECK: spawn and become in lockstep -/
def zSt2 (D : zCo) (N Q n : Nat) (t : zS) (s : Nat) (r r2 : Nat → Int32) : Prop :=
  ∃ v x p0 np a m, t 93 s = Int32.ofNat v ∧ (v < 1600 ∧ a + m ≤ 3000 ∧ p0 ≤ 3000 ∧ np ≤ 3000) ∧ t 33 v = Int32.ofNat x ∧ x < Q ∧ t 35 x = Int32.ofNat p0 ∧ t 37 x = Int32.ofNat np ∧ t 95 s = Int32.ofNat a ∧ t 97 s = Int32.ofNat (a + m) ∧
    ((t 91 s = -1 ∧ np = m ∧ zGv D N t p0 m a 0 r r2 ∧ (t 87 s = 9 → ∀ k, k < n → r2 k = -1)) ∨
     ∃ c c0 r1, t 87 s = 8 ∧ t 91 s = Int32.ofNat c ∧ c < n ∧ np = m + 1 ∧ c0 < N ∧ t 45 p0 = Int32.ofNat (2 * c0) ∧ zGv D N t p0 m a 1 r r1 ∧ r1 c = -1 ∧ t 107 s = zCz D (zSg2 t (2 * c0 + 1)) ∧ r2 = zur r1 c (zHo D (zSg2 t (2 * c0 + 1))))
theorem zGv_of {D : zCo} {N b : Nat} {t t2 : zS} (tr : zTr t t2) (h45 : t2 45 = t 45) (h83 : t2 83 = t 83) : ∀ m a k r r2, zGv D N t b m a k r r2 → zGv D N t2 b m a k r r2 := by
  intro m
  induction m with
  | zero => intro a k r r2 h; exact h
  | succ m ih =>
    intro a k r r2 h
    rcases h with ⟨h1, h2⟩ | ⟨j, x, c, h1, h2, h3, h4, h5, h6, h7⟩
    · exact Or.inl ⟨by rw [h45]; exact h1, ih _ _ _ _ h2⟩
    · exact Or.inr ⟨j, x, c, by rw [h83]; exact h1, h2, (zV_of tr _).mpr h3, h4, by rw [h45]; exact h5, by rw [zSg2_of tr]; exact h6, ih _ _ _ _ h7⟩
theorem zCallC {G : zTxt} {f : Nat → Nat} {N M P A T Q Pa bb S F C R W V n d q s : Nat} {o : Nat → Nat × Nat} {w : Nat → Nat} {t u : zS} (hx : zCx G f N M P A T Q Pa bb S F C R W V o w t u) (hk : zCk f N n d q t u) (hs : s < S) (hq : (o s).2 = q) (hqQ : q < Q) (hkd : t 87 s = 8 ∨ t 87 s = 9) : ∃ b b' t2 u2, (∀ g x2, bX1_checkStatement_24 g (Int32.ofNat s) x2 (t 87 s) t = bX1_checkStatement_145 g (Int32.ofNat s) x2 (t 87 s) b t2) ∧ mX12_checkCall (Int32.ofNat s) (Int32.ofNat d) u = some (b', u2) ∧ zC1 N n d s t u t2 u2 ∧ u2 0 67 = -1 ∧ ((b = 0 ∧ b' = 0) ∨ (b = 1 ∧ zRw f N n d t2 u2 ∧ zSt2 (zD t) N Q n t2 s (t 58) (t2 58) ∧ ((b' = 1 ∧ ¬ (t 87 s = 9 ∧ 0 ≤ t 99 s)) ∨ (b' = 0 ∧ t 87 s = 9 ∧ 0 ≤ t 99 s)))) := by
  have hx0 := hx
  have hk0 := hk
  obtain ⟨hg, hb, hK, hP, hCp, hF, hC, hS, hQ, hR2, hW, hV, hbb, hPa⟩ := hx
  obtain ⟨k1, k2, k3, k4, k5, k6, k7, k8⟩ := hk
  have hN := hg.2.2.2.1
  obtain ⟨⟨⟨p1, p2⟩, hst⟩, hLn, _, _⟩ := hP.2.2.2.2.2.2.2.2.2.2.2.2.2.2.2 s hs
  have hs1 : s < 1000 := by omega
  have hs16 : s < 1600 := by omega
  have r1 : zC1 N n d s t u t u := zC1_refl hK
  obtain ⟨v, x, v1, v2, v3, v4, v5⟩ := hCp s hs hkd
  obtain ⟨nx, b0, np, p0, q1, q2, q3, q4, q5, q6, q7, q8, q9, q10, _⟩ := hP.2.2.2.2.2.2.1 x v5
  -- the statement
  have hcall : ((t 87 s = 8 ∧ u 14 s = 7 ∧ t 91 s = -1 ∧ u 16 s = -1) ∨ (t 87 s = 8 ∧ u 14 s = 8 ∧ zSo t q (t 91 s) (u 16 s)) ∨ (t 87 s = 9 ∧ u 14 s = 9 ∧ t 91 s = -1 ∧ u 16 s = -1)) ∧ zCl t u q F C R s := by
    rw [hq] at hst
    rcases hst with ⟨e1, _⟩ | ⟨e1, _⟩ | ⟨e1, _⟩ | ⟨e1, _⟩ | ⟨e1, _⟩ | ⟨e1, _⟩ | ⟨e1, _, e3⟩ | ⟨e1, _⟩ | ⟨e1, _⟩
    · exact absurd hkd (by rcases e1 with e | e <;> rw [e.1] <;> decide)
    · exact absurd hkd (by rw [e1]; decide)
    · exact absurd hkd (by rcases e1 with e | e | e <;> rw [e.1] <;> decide)
    · exact absurd hkd (by rw [e1]; decide)
    · exact absurd hkd (by rw [e1]; decide)
    · exact absurd hkd (by rw [e1]; decide)
    · exact ⟨e1, e3⟩
    · exact absurd hkd (by rw [e1]; decide)
    · exact absurd hkd (by rw [e1]; decide)
  obtain ⟨hc1, v', a, m, w1, w2, w3, w4, w5, w6, w7, w8⟩ := hcall
  have g92 : ∀ t' : zS, t' 93 = t 93 → mX5_get 92 1000 (Int32.ofNat s) t' = some (Int32.ofNat v, t') := fun t' e => by rw [← v2, ← e]; exact zn_get hs1 (by decide)
  have gf : ∀ t' : zS, t' 33 = t 33 → mX6_find (Int32.ofNat v) t' = some (Int32.ofNat x, t') := fun t' e => by
    unfold mX6_find
    rw [show mX5_get 32 1600 (Int32.ofNat v) t' = some (Int32.ofNat x, t') by rw [← v3, ← e]; exact zn_get v1 (by decide), pl_bd]
  have g96 : mX5_get 96 1000 (Int32.ofNat s) t = some (Int32.ofNat (a + m), t) := by rw [← w4]; exact zn_get hs1 (by decide)
  have g94 : mX5_get 94 1000 (Int32.ofNat s) t = some (Int32.ofNat a, t) := by rw [← w3]; exact zn_get hs1 (by decide)
  have g90 : ∀ t' : zS, t' 91 = t 91 → mX5_get 90 1000 (Int32.ofNat s) t' = some (t 91 s, t') := fun t' e => by rw [← e]; exact zn_get hs1 (by decide)
  have g36 : mX5_get 36 400 (Int32.ofNat x) t = some (Int32.ofNat np, t) := by rw [← q5]; exact zn_get (by omega) (by decide)
  have esub : Int32.ofNat (a + m) - Int32.ofNat a = Int32.ofNat m := by rw [zn_sub (by omega) (by omega), show a + m - a = m by omega]
  have gform : ∀ t' : zS, t' 35 = t 35 → t' 45 = t 45 → mX6_form (Int32.ofNat x) 0 t' = some (t 45 (p0 + 0), t') := fun t' e1 e2 => by
    unfold mX6_form
    rw [show mX5_get 34 400 (Int32.ofNat x) t' = some (Int32.ofNat p0, t') by rw [← q8, ← e1]; exact zn_get (by omega) (by decide), pl_bd, show Int32.ofNat p0 + 0 = Int32.ofNat (p0 + 0) from zn_add p0 0, show mX5_get 44 1600 (Int32.ofNat (p0 + 0)) t' = some (t 45 (p0 + 0), t') by rw [← e2]; exact zn_get (by omega) (by decide), pl_bd]
  -- no good
  have bad : ∀ (g : GgX1_checkBlock) (x2 : Int32) (t' : zS), bX1_checkStatement_65 g (Int32.ofNat s) x2 (t 87 s) t' = bX1_checkStatement_145 g (Int32.ofNat s) x2 (t 87 s) 0 t' := fun _ _ _ => rfl
  have good : ∀ (g : GgX1_checkBlock) (x2 : Int32) (t' : zS), bX1_checkStatement_61 g (Int32.ofNat s) x2 (t 87 s) t' = bX1_checkStatement_145 g (Int32.ofNat s) x2 (t 87 s) 1 t' := fun _ _ _ => rfl
  have mCall : ∀ (to : Int32) (sk : Nat), (to = 0 ∧ sk = 0 ∧ ¬ u 14 s = 8) ∨ (to = 1 ∧ sk = 1 ∧ u 14 s = 8) → mX12_checkCall (Int32.ofNat s) (Int32.ofNat d) u = if np = m + sk then if to = 0 then lX12_checkCall_79 zFU (Int32.ofNat s) (Int32.ofNat d) (Int32.ofNat x) to (Int32.ofNat sk) (Int32.ofNat 0) u else if 0 ≤ u 34 (b0 + 0) then lX12_checkCall_79 zFU (Int32.ofNat s) (Int32.ofNat d) (Int32.ofNat x) to (Int32.ofNat sk) (Int32.ofNat 0) u else some (0, u) else some (0, u) := fun to sk h => by
    have e35 : mX12_checkCall (Int32.ofNat s) (Int32.ofNat d) u = bX12_checkCall_35 (Int32.ofNat s) (Int32.ofNat d) (Int32.ofNat x) to (Int32.ofNat sk) u := by
      unfold mX12_checkCall bX12_checkCall_23
      rw [zn_rd hs16 (by decide), zn_rd hs16 (by decide), v4]
      rcases h with ⟨h1, h2, h3⟩ | ⟨h1, h2, h3⟩
      · rw [if_neg h3, if_pos rfl, h1, h2]; rfl
      · rw [if_pos h3, if_neg pl_10, h1, h2]; rfl
    rw [e35]
    unfold bX12_checkCall_35 bX12_checkCall_76
    rw [zn_rd (by omega) (by decide), zn_rd hs16 (by decide), q6, w6, zn_add]
    by_cases c : np = m + sk
    · rw [if_pos c, if_pos (by rw [c])]
      rcases h with ⟨h1, h2, h3⟩ | ⟨h1, h2, h3⟩
      · subst h1 h2
        rw [if_pos rfl, if_pos rfl]
        rfl
      · subst h1 h2
        rw [if_neg pl_10, if_neg pl_10, zn_rd (by omega) (by decide), q2, zn_rd (by omega) (by decide)]
        rfl
    · rw [if_neg c, if_neg (fun w => c ((zn_inj (by omega) (by omega)).mp w))]
  -- what happens when all ARGUMENTS are looked at
  have args := fun (sk : Nat) (to : Int32) (hnp : np = m + sk) => zArgsC (to := to) (sk := sk) hx0 hk0 hs w4 w5 w6 w7 w8 v5 q8 q2 hnp q9 (by omega) q10 m 0 (zFU - m - 1) (zFU - m - 1) t u (by omega) r1 k3 k8
  have hfu : zFU - m - 1 + m + 1 = zFU := by unfold zFU; omega
  have lnx : (t 99 s = -1 ∧ u 22 s = -1) ∨ ∃ r, r < 1000 ∧ t 99 s = Int32.ofNat r ∧ u 22 s = Int32.ofNat r := by
    rcases hLn with ⟨a1, a2, _⟩ | ⟨r, a1, a2, _, _, a5, _⟩
    · exact Or.inl ⟨a1, a2⟩
    · exact Or.inr ⟨r, by omega, a1, a2⟩
  rcases hc1 with ⟨c1, c2, c3, c4⟩ | ⟨c1, c2, c3⟩ | ⟨c1, c2, c3, c4⟩
  · -- spawn
    have MC := mCall 0 0 (Or.inl ⟨rfl, rfl, by rw [c2]; decide⟩)
    have fit : mX1_fitsParameters (Int32.ofNat s) t = some (if np = m then 1 else 0, t) := by
      unfold mX1_fitsParameters
      rw [g92 t rfl, pl_bd, gf t rfl, pl_bd, g96, pl_bd, g94, pl_bd, pl_let, g90 t rfl, pl_bd, c3, if_neg zn_m1, g36, pl_bd, esub]
      by_cases c : np = m
      · rw [if_pos c, if_pos (by rw [c])]
      · rw [if_neg c, if_neg (fun w => c ((zn_inj (by omega) (by omega)).mp w).symm)]
    by_cases hnp : np = m
    · obtain ⟨b, t2, u2, z1, z2, z3, z4⟩ := args 0 0 hnp
      rw [hfu] at z1 z4
      have giv : mX1_givesArguments (Int32.ofNat s) t = some (b, t2) := by
        unfold mX1_givesArguments bX1_givesArguments_38
        rw [g92 t rfl, pl_bd, gf t rfl, pl_bd, g90 t rfl, pl_bd, c3, if_pos (by decide), g94, pl_bd]
        exact z1
      rw [MC, if_pos (show np = m + 0 from hnp), if_pos rfl]
      rcases z4 with ⟨z4, z5⟩ | ⟨z4, z5, z6, z7⟩
      · refine ⟨0, 0, t2, u2, fun g x2 => ?_, z5, z2, z3, Or.inl ⟨rfl, rfl⟩⟩
        unfold bX1_checkStatement_24
        rw [fit, if_pos hnp, pl_bd, if_neg pl_10, giv, pl_bd, z4, if_pos rfl, bad]
      · have opn : mX1_opensChannel (Int32.ofNat s) t2 = some (1, t2) := by
          unfold mX1_opensChannel
          rw [g90 t2 (z2.1.2.2 91 (by decide)), pl_bd, c3, if_neg zn_m1]
        have fin : lX12_checkCall_79 (zFU - m - 1 + 1) (Int32.ofNat s) (Int32.ofNat d) (Int32.ofNat x) 0 (Int32.ofNat 0) (Int32.ofNat m) u2 = some (1, u2) := by
          show bX12_checkCall_79 _ _ _ _ _ _ _ u2 = _
          unfold bX12_checkCall_79 bX12_checkCall_257 bX12_checkCall_285
          rw [zn_rd hs16 (by decide), z2.2.1.2 20 (by decide), w6, if_pos ((zn_le (by omega) (by omega)).mpr (Nat.le_refl _)), if_pos rfl, zn_rd hs16 (by decide), z2.2.1.2 14 (by decide), c2, if_neg (by decide)]
        refine ⟨1, 1, t2, u2, fun g x2 => ?_, z5.trans fin, z2, z3, Or.inr ⟨rfl, z6, ?_, Or.inl ⟨rfl, fun w => ?_⟩⟩⟩
        · unfold bX1_checkStatement_24
          rw [fit, if_pos hnp, pl_bd, if_neg pl_10, giv, pl_bd, z4, if_neg pl_10, opn, pl_bd, if_neg pl_10, if_pos c1, good]
        · have tr := zTr_f z2.1
          refine ⟨v, x, p0, np, a, m, by rw [z2.1.2.2 93 (by decide)]; exact v2, ⟨v1, by omega, by omega, by omega⟩, by rw [z2.1.2.2 33 (by decide)]; exact v3, v5, by rw [z2.1.2.2 35 (by decide)]; exact q8, by rw [z2.1.2.2 37 (by decide)]; exact q5, by rw [z2.1.2.2 95 (by decide)]; exact w3, by rw [z2.1.2.2 97 (by decide)]; exact w4, Or.inl ⟨by rw [z2.1.2.2 91 (by decide)]; exact c3, hnp, zGv_of tr (z2.1.2.2 45 (by decide)) (z2.1.2.2 83 (by decide)) _ _ _ _ _ z7, fun w => ?_⟩⟩
          rw [z2.1.2.2 87 (by decide), c1] at w
          exact absurd w (by decide)
        · rw [c1] at w
          exact absurd w.1 (by decide)
    · rw [MC, if_neg (show ¬ np = m + 0 from hnp)]
      refine ⟨0, 0, t, u, fun g x2 => ?_, rfl, r1, k3, Or.inl ⟨rfl, rfl⟩⟩
      unfold bX1_checkStatement_24
      rw [fit, if_neg hnp, pl_bd, if_pos rfl, bad]
  · -- spawn with a NAME
    obtain ⟨c, d1, d2, d3⟩ := zSo_n c3 k5 k6
    have MC := mCall 1 1 (Or.inr ⟨rfl, rfl, c2⟩)
    by_cases hnp : np = m + 1
    · have fit : mX1_fitsParameters (Int32.ofNat s) t = some (if t 45 (p0 + 0) < 0 then 0 else 1, t) := by
        unfold mX1_fitsParameters
        rw [g92 t rfl, pl_bd, gf t rfl, pl_bd, g96, pl_bd, g94, pl_bd, pl_let, g90 t rfl, pl_bd, d2, if_pos (zn_0le (by omega)), g36, pl_bd, esub, zn_1, if_pos (by rw [hnp]), gform t rfl rfl, pl_bd]
        by_cases q : t 45 (p0 + 0) < 0
        · rw [if_pos q, if_pos q]
        · rw [if_neg q, if_neg q]
      rcases q10 0 (by omega) with ⟨m1, m2⟩ | ⟨c0, m0, m1, m2⟩
      · rw [MC, if_pos hnp, if_neg pl_10, if_neg (by rw [m2]; decide)]
        refine ⟨0, 0, t, u, fun g x2 => ?_, rfl, r1, k3, Or.inl ⟨rfl, rfl⟩⟩
        unfold bX1_checkStatement_24
        rw [fit, if_pos (by rw [m1]; decide), pl_bd, if_pos rfl, bad]
      · have hfc := hg.1.2.2.2.2.1 c0 m0
        have hM := hg.2.2.2.2.1
        obtain ⟨b, t2, u2, z1, z2, z3, z4⟩ := args 1 1 hnp
        rw [hfu] at z1 z4
        have giv : mX1_givesArguments (Int32.ofNat s) t = some (b, t2) := by
          unfold mX1_givesArguments bX1_givesArguments_38
          rw [g92 t rfl, pl_bd, gf t rfl, pl_bd, g90 t rfl, pl_bd, d2, if_neg (zn_neg (by omega)), g94, pl_bd]
          exact z1
        rw [MC, if_pos hnp, if_neg pl_10, if_pos (by rw [m2]; exact zn_0le (by omega))]
        have nf : ¬ t 45 (p0 + 0) < 0 := by rw [m1]; exact zn_neg (by omega)
        rcases z4 with ⟨z4, z5⟩ | ⟨z4, z5, z6, z7⟩
        · refine ⟨0, 0, t2, u2, fun g x2 => ?_, z5, z2, z3, Or.inl ⟨rfl, rfl⟩⟩
          unfold bX1_checkStatement_24
          rw [fit, if_neg nf, pl_bd, if_neg pl_10, giv, pl_bd, z4, if_pos rfl, bad]
        · have hx2 := zCx_of hx0 z2.1 z2.2.1 z2.2.2.1
          have hk2 := zCk_of hk0 z2 z3 z6
          have tr := zTr_f z2.1
          have eD := zD_of tr
          have g57 : mX5_get 57 80000 (Int32.ofNat c) t2 = some (t2 58 c, t2) := zn_get (by omega) (by decide)
          have fin0 : lX12_checkCall_79 (zFU - m - 1 + 1) (Int32.ofNat s) (Int32.ofNat d) (Int32.ofNat x) 1 (Int32.ofNat 1) (Int32.ofNat m) u2 = if u2 42 (1500 * d + c) < 0 then zbd (mX12_plain ((2 * u 34 (b0 + 0)) + 1) u2) fun r3791 t3792 => zbd (mX12_setChannel (Int32.ofNat d) (Int32.ofNat c) r3791 t3792) fun r3794 t3795 => bX12_checkCall_257 (Int32.ofNat s) (Int32.ofNat d) t3795 else some (0, u2) := by
            show bX12_checkCall_79 _ _ _ _ _ _ _ u2 = _
            unfold bX12_checkCall_79
            rw [zn_rd hs16 (by decide), z2.2.1.2 20 (by decide), w6, if_pos ((zn_le (by omega) (by omega)).mpr (Nat.le_refl _)), if_neg pl_10, zn_rd hs16 (by decide), z2.2.1.2 16 (by decide), d3, pl_channel (by omega) (by omega), pl_bd, zn_rd hs16 (by decide), z2.2.1.2 16 (by decide), d3, zn_rd (by omega) (by decide), z2.2.1.2 31 (by decide), q2, zn_rd (by omega) (by decide), z2.2.1.2 34 (by decide)]
            rfl
          rcases zRs_neg hx2.1 (z6 c d1) with ⟨n1, n2, _, _, n3, _⟩ | ⟨n1, n2, _⟩
          · have e01 : (2 * c0 + 1) / 2 = c0 := by omega
            have vy := zV_sg (s := 2 * c0 + 1) hx2.1 (by omega)
            have eF : zF f (2 * c0 + 1) = 2 * f c0 + 1 := by
              unfold zF
              rw [e01]
              omega
            have ex : t 45 (p0 + 0) ^^^ 1 = Int32.ofNat (2 * c0 + 1) := by
              rw [m1, (zb_x (2 * c0) (by omega)).1]
              congr 1
              unfold zflp
              omega
            have opn : mX1_opensChannel (Int32.ofNat s) t2 = some (1, zu (zu t2 58 c (zHo (zD t2) (zSg2 t2 (2 * c0 + 1)))) 107 s (zCz (zD t2) (zSg2 t2 (2 * c0 + 1)))) := by
              unfold mX1_opensChannel
              rw [g90 t2 (z2.1.2.2 91 (by decide)), pl_bd, d2, if_pos (zn_0le (by omega)), g57, pl_bd, if_pos n1, g92 t2 (z2.1.2.2 93 (by decide)), pl_bd, gf t2 (z2.1.2.2 33 (by decide)), pl_bd, gform t2 (z2.1.2.2 35 (by decide)) (z2.1.2.2 45 (by decide)), pl_bd, ex, pl_hold hx2.1 hx2.2.1 (by omega) (by omega), pl_bd, zn_set hs1 (by decide), pl_bd]
              rfl
            obtain ⟨y1, y2, y3, y4⟩ := zGc (s := s) hx2 hk2 d1 vy vy (zEqv_eq.rf _) (by rw [z2.1.2.2 87 (by decide), c1]; decide)
            have fin : lX12_checkCall_79 (zFU - m - 1 + 1) (Int32.ofNat s) (Int32.ofNat d) (Int32.ofNat x) 1 (Int32.ofNat 1) (Int32.ofNat m) u2 = some (1, zu u2 42 (1500 * d + c) (if (zD t2).kd (zSg2 t2 (2 * c0 + 1)) = 0 then -1 else Int32.ofNat (zF f (zSg2 t2 (2 * c0 + 1))))) := by
              have hp := pl_plain (s := 2 * c0 + 1) hx2.1 (by omega)
              rw [eF] at hp
              rw [fin0, if_pos n2, m2, zn_dbl0, zn_1, hp, pl_bd, pl_setCh hx2.1 (by omega) (by omega) vy, pl_bd]
              unfold bX12_checkCall_257 bX12_checkCall_285
              rw [zn_rd hs16 (by decide), zu_ne1 (by decide), z2.2.1.2 14 (by decide), c2, if_neg (by decide)]
            have zz := zC1_trans z2 y1
            refine ⟨1, 1, _, _, fun g x2 => ?_, z5.trans fin, zz, by rw [zu_ne1 (by decide)]; exact z3, Or.inr ⟨rfl, y2, ?_, Or.inl ⟨rfl, fun w => ?_⟩⟩⟩
            · unfold bX1_checkStatement_24
              rw [fit, if_neg nf, pl_bd, if_neg pl_10, giv, pl_bd, z4, if_neg pl_10, opn, pl_bd, if_neg pl_10, if_pos c1, good]
            · have tr2 := zTr_f zz.1
              refine ⟨v, x, p0, np, a, m, by rw [zz.1.2.2 93 (by decide)]; exact v2, ⟨v1, by omega, by omega, by omega⟩, by rw [zz.1.2.2 33 (by decide)]; exact v3, v5, by rw [zz.1.2.2 35 (by decide)]; exact q8, by rw [zz.1.2.2 37 (by decide)]; exact q5, by rw [zz.1.2.2 95 (by decide)]; exact w3, by rw [zz.1.2.2 97 (by decide)]; exact w4, Or.inr ⟨c, c0, t2 58, by rw [zz.1.2.2 87 (by decide)]; exact c1, by rw [zz.1.2.2 91 (by decide)]; exact d2, d1, hnp, m0, by rw [zz.1.2.2 45 (by decide)]; exact m1, zGv_of tr2 (zz.1.2.2 45 (by decide)) (zz.1.2.2 83 (by decide)) _ _ _ _ _ z7, n3, ?_, ?_⟩⟩
              · rw [y4, zSg2_of tr2, zSg2_of tr, eD]
              · rw [y3, zSg2_of tr2, zSg2_of tr, eD]
            · rw [c1] at w
              exact absurd w.1 (by decide)
          · have opn : mX1_opensChannel (Int32.ofNat s) t2 = some (0, t2) := by
              unfold mX1_opensChannel
              rw [g90 t2 (z2.1.2.2 91 (by decide)), pl_bd, d2, if_pos (zn_0le (by omega)), g57, pl_bd, if_neg n1]
            refine ⟨0, 0, t2, u2, fun g x2 => ?_, z5.trans (by rw [fin0, if_neg n2]), z2, z3, Or.inl ⟨rfl, rfl⟩⟩
            unfold bX1_checkStatement_24
            rw [fit, if_neg nf, pl_bd, if_neg pl_10, giv, pl_bd, z4, if_neg pl_10, opn, pl_bd, if_pos rfl, bad]
    · have fit : mX1_fitsParameters (Int32.ofNat s) t = some (0, t) := by
        unfold mX1_fitsParameters
        rw [g92 t rfl, pl_bd, gf t rfl, pl_bd, g96, pl_bd, g94, pl_bd, pl_let, g90 t rfl, pl_bd, d2, if_pos (zn_0le (by omega)), g36, pl_bd, esub, zn_1, if_neg (fun w => hnp ((zn_inj (by omega) (by omega)).mp w).symm)]
      rw [MC, if_neg hnp]
      refine ⟨0, 0, t, u, fun g x2 => ?_, rfl, r1, k3, Or.inl ⟨rfl, rfl⟩⟩
      unfold bX1_checkStatement_24
      rw [fit, pl_bd, if_pos rfl, bad]
  · -- become
    have MC := mCall 0 0 (Or.inl ⟨rfl, rfl, by rw [c2]; decide⟩)
    have fit : mX1_fitsParameters (Int32.ofNat s) t = some (if np = m then 1 else 0, t) := by
      unfold mX1_fitsParameters
      rw [g92 t rfl, pl_bd, gf t rfl, pl_bd, g96, pl_bd, g94, pl_bd, pl_let, g90 t rfl, pl_bd, c3, if_neg zn_m1, g36, pl_bd, esub]
      by_cases c : np = m
      · rw [if_pos c, if_pos (by rw [c])]
      · rw [if_neg c, if_neg (fun w => c ((zn_inj (by omega) (by omega)).mp w).symm)]
    by_cases hnp : np = m
    · obtain ⟨b, t2, u2, z1, z2, z3, z4⟩ := args 0 0 hnp
      rw [hfu] at z1 z4
      have giv : mX1_givesArguments (Int32.ofNat s) t = some (b, t2) := by
        unfold mX1_givesArguments bX1_givesArguments_38
        rw [g92 t rfl, pl_bd, gf t rfl, pl_bd, g90 t rfl, pl_bd, c3, if_pos (by decide), g94, pl_bd]
        exact z1
      rw [MC, if_pos (show np = m + 0 from hnp), if_pos rfl]
      rcases z4 with ⟨z4, z5⟩ | ⟨z4, z5, z6, z7⟩
      · refine ⟨0, 0, t2, u2, fun g x2 => ?_, z5, z2, z3, Or.inl ⟨rfl, rfl⟩⟩
        unfold bX1_checkStatement_24
        rw [fit, if_pos hnp, pl_bd, if_neg pl_10, giv, pl_bd, z4, if_pos rfl, bad]
      · have hx2 := zCx_of hx0 z2.1 z2.2.1 z2.2.2.1
        have hk2 := zCk_of hk0 z2 z3 z6
        obtain ⟨hb2, y1, y2, y3⟩ := zHas hx2 hk2 hqQ
        have opn : mX1_opensChannel (Int32.ofNat s) t2 = some (1, t2) := by
          unfold mX1_opensChannel
          rw [g90 t2 (z2.1.2.2 91 (by decide)), pl_bd, c3, if_neg zn_m1]
        have fin : lX12_checkCall_79 (zFU - m - 1 + 1) (Int32.ofNat s) (Int32.ofNat d) (Int32.ofNat x) 0 (Int32.ofNat 0) (Int32.ofNat m) u2 = if hb2 = 0 then if 0 ≤ u 22 s then some (0, u2) else some (1, u2) else some (0, u2) := by
          show bX12_checkCall_79 _ _ _ _ _ _ _ u2 = _
          unfold bX12_checkCall_79 bX12_checkCall_257 bX12_checkCall_285
          rw [zn_rd hs16 (by decide), z2.2.1.2 20 (by decide), w6, if_pos ((zn_le (by omega) (by omega)).mpr (Nat.le_refl _)), if_pos rfl, zn_rd hs16 (by decide), z2.2.1.2 14 (by decide), c2, if_pos rfl, y2, pl_bd, zn_rd hs16 (by decide), z2.2.1.2 22 (by decide)]
        rcases y3 with ⟨y3, y4⟩ | ⟨y3, y4⟩
        · have cls : ∀ g x2, bX1_checkStatement_24 g (Int32.ofNat s) x2 (t 87 s) t = bX1_checkStatement_145 g (Int32.ofNat s) x2 (t 87 s) 1 t2 := fun g x2 => by
            unfold bX1_checkStatement_24
            rw [fit, if_pos hnp, pl_bd, if_neg pl_10, giv, pl_bd, z4, if_neg pl_10, opn, pl_bd, if_neg pl_10, if_neg (by rw [c1]; decide), y1, pl_bd, y3, if_pos rfl, good]
          have st2 : zSt2 (zD t) N Q n t2 s (t 58) (t2 58) := by
            have tr := zTr_f z2.1
            exact ⟨v, x, p0, np, a, m, by rw [z2.1.2.2 93 (by decide)]; exact v2, ⟨v1, by omega, by omega, by omega⟩, by rw [z2.1.2.2 33 (by decide)]; exact v3, v5, by rw [z2.1.2.2 35 (by decide)]; exact q8, by rw [z2.1.2.2 37 (by decide)]; exact q5, by rw [z2.1.2.2 95 (by decide)]; exact w3, by rw [z2.1.2.2 97 (by decide)]; exact w4, Or.inl ⟨by rw [z2.1.2.2 91 (by decide)]; exact c3, hnp, zGv_of tr (z2.1.2.2 45 (by decide)) (z2.1.2.2 83 (by decide)) _ _ _ _ _ z7, fun _ => y4⟩⟩
          rcases lnx with ⟨l1, l2⟩ | ⟨r, l0, l1, l2⟩
          · refine ⟨1, 1, t2, u2, cls, z5.trans (by rw [fin, y3, if_pos rfl, l2, if_neg zn_m1]), z2, z3, Or.inr ⟨rfl, z6, st2, Or.inl ⟨rfl, fun w => ?_⟩⟩⟩
            rw [l1] at w
            exact absurd w.2 zn_m1
          · exact ⟨1, 0, t2, u2, cls, z5.trans (by rw [fin, y3, if_pos rfl, l2, if_pos (zn_0le (by omega))]), z2, z3, Or.inr ⟨rfl, z6, st2, Or.inr ⟨rfl, c1, by rw [l1]; exact zn_0le (by omega)⟩⟩⟩
        · refine ⟨0, 0, t2, u2, fun g x2 => ?_, z5.trans (by rw [fin, y3, if_neg pl_10]), z2, z3, Or.inl ⟨rfl, rfl⟩⟩
          unfold bX1_checkStatement_24
          rw [fit, if_pos hnp, pl_bd, if_neg pl_10, giv, pl_bd, z4, if_neg pl_10, opn, pl_bd, if_neg pl_10, if_neg (by rw [c1]; decide), y1, pl_bd, y3, if_neg pl_10, bad]
    · rw [MC, if_neg (show ¬ np = m + 0 from hnp)]
      refine ⟨0, 0, t, u, fun g x2 => ?_, rfl, r1, k3, Or.inl ⟨rfl, rfl⟩⟩
      unfold bX1_checkStatement_24
      rw [fit, if_neg hnp, pl_bd, if_pos rfl, bad]
