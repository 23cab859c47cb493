/-! RUN, and what a store of a program owes -/
theorem zFa2_refl (t : zS) : zFa2 t t := ⟨zLv_refl t, fun _ _ => rfl⟩
theorem zFb2_refl (u : zS) : zFb2 u u := ⟨fun _ _ _ => rfl, fun _ _ _ => rfl⟩
theorem zRv_pm {G : zTxt} {f : Nat → Nat} {N Q : Nat} {t0 g : zS} {pm pm2 : Nat} {t u : zS} (h : zRv G f N Q t0 g pm t u) (hp : pm ≤ pm2) : zRv G f N Q t0 g pm2 t u := by
  obtain ⟨m2, R2, ⟨e1, e2, e3, e4, e5, e6, e7, e8, e9, e10, e11, e12, e13, e14, e15, e16, e17, e18, z6⟩, z7⟩ := h
  exact ⟨m2, R2, ⟨e1, e2, e3, e4, e5, e6, e7, e8, e9, e10, e11, e12, e13, e14, e15, e16, e17, e18, zDyn_pm z6 hp⟩, z7⟩
theorem zRunL {G : zTxt} {f : Nat → Nat} {N M P A T Q Pa bb S F C R W V : Nat} {o : Nat → Nat × Nat} {w : Nat → Nat} {t0 u0 g : zS} {K : Nat} (hg : zGd G f N M P A T Q Pa bb S F C R W V o w t0 u0 g) (hK : K ≤ 20000) : ∀ (d i fu fv pm : Nat) (t u : zS), i + d = K → pm + d < 2000000000 → zLv t0 t → zLvM S t0 u0 u → zRv G f N Q t0 g pm t u → ∃ r t2 u2, lX11_run_15 (fu + d + 1) (Int32.ofNat K) (Int32.ofNat i) t = some (r, t2) ∧ lX12_run_23 (fv + d + 1) (Int32.ofNat K) (Int32.ofNat i) u = some (r, u2) ∧ zFa2 t t2 ∧ zFb2 u u2 ∧ zRv G f N Q t0 g (pm + d) t2 u2 := by
  intro d
  induction d with
  | zero =>
    intro i fu fv pm t u hi _ hv hm h
    have : i = K := by omega
    subst this
    refine ⟨t 7 16, t, u, ?_, ?_, zFa2_refl t, zFb2_refl u, h⟩
    · show bX11_run_15 _ _ _ t = _
      unfold bX11_run_15
      rw [if_pos (Int32.le_refl _)]
    · show bX12_run_23 _ _ _ u = _
      unfold bX12_run_23
      obtain ⟨_, _, _, e, _⟩ := h
      rw [if_pos (Int32.le_refl _), e]
  | succ d ih =>
    intro i fu fv pm t u hi hp hv hm h
    have nle : ¬ Int32.ofNat K ≤ Int32.ofNat i := fun w => by have := (zn_le (by omega) (by omega)).mp w; omega
    have e : t 7 16 = u 0 72 := by obtain ⟨_, _, _, e, _⟩ := h; exact e
    by_cases z : t 7 16 = 0
    · obtain ⟨t1, u1, a1, a2, a3, a4, a5⟩ := zVisit hg hv hm h (by omega) z
      obtain ⟨r, t2, u2, b1, b2, b3, b4, b5⟩ := ih (i + 1) fu fv (pm + 1) t1 u1 (by omega) (by omega) (zLv_trans hv a3.1) (zLvM_b2 hm a4) a5
      refine ⟨r, t2, u2, ?_, ?_, zFa2_trans a3 b3, zFb2_trans a4 b4, ?_⟩
      · rw [← b1]
        show bX11_run_15 (lX11_run_15 (fu + d + 1)) _ _ t = _
        unfold bX11_run_15
        rw [if_neg nle, if_pos z, a1, pl_bd, pl_let, zn_1]
      · rw [← b2]
        show bX12_run_23 (lX12_run_23 (fv + d + 1)) _ _ u = _
        unfold bX12_run_23
        rw [if_neg nle, ← e, if_pos z, a2, pl_bd, pl_let, zn_1]
      · rw [show pm + (d + 1) = pm + 1 + d by omega]; exact b5
    · refine ⟨t 7 16, t, u, ?_, ?_, zFa2_refl t, zFb2_refl u, zRv_pm h (by omega)⟩
      · show bX11_run_15 (lX11_run_15 (fu + d + 1)) _ _ t = _
        unfold bX11_run_15
        rw [if_neg nle, if_neg z]
      · show bX12_run_23 (lX12_run_23 (fv + d + 1)) _ _ u = _
        unfold bX12_run_23
        rw [if_neg nle, ← e, if_neg z]
/-- the program, as both hold it, and its run -/
def zPr (n : Nat) (t u : zS) : Prop := (t 0 9 = 0 ∧ u 0 71 = 0) ∨ (t 0 9 = 1 ∧ ∃ G f N M P A T Q Pa bb S F C R W V o w t0 u0 g, zGd G f N M P A T Q Pa bb S F C R W V o w t0 u0 g ∧ zMain Q t0 u0 ∧ zLv t0 t ∧ zLvM S t0 u0 u ∧ zKp N t ∧ (u 0 71 = 0 ∨ (u 0 71 = 1 ∧ zRv G f N Q t0 g (20000 * n) t u)))
theorem zPr_mono {n m : Nat} {t u : zS} (h : zPr n t u) (hn : n ≤ m) : zPr m t u := by
  rcases h with h | ⟨h0, G, f, N, M, P, A, T, Q, Pa, bb, S, F, C, R, W, V, o, w, t0, u0, g, h1, h2, h3, h4, h5, h6⟩
  · exact Or.inl h
  · refine Or.inr ⟨h0, G, f, N, M, P, A, T, Q, Pa, bb, S, F, C, R, W, V, o, w, t0, u0, g, h1, h2, h3, h4, h5, ?_⟩
    rcases h6 with h6 | ⟨h6, h7⟩
    · exact Or.inl h6
    · exact Or.inr ⟨h6, zRv_pm h7 (by omega)⟩
theorem zDyn_in {G : zTxt} {f : Nat → Nat} {N Q pm m : Nat} {Rg : Nat → Nat} {pq fp ql Y fq : Nat → Nat} {fr fd fc fk rw mem lim : Nat} {sp ac : Nat → Int32} {num H MC MR : zS} {t0 g t u t2 u2 : zS} (h : zDyn G f N Q t0 g pm m Rg pq fr fd fp sp ac num H Y ql MC MR fc fk rw fq mem lim t u) (hr : ∀ k, (k = 59 ∨ k = 60 ∨ k = 66 ∨ 116 ≤ k) → t2 k = t k) (h7 : ∀ j, (10 ≤ j ∧ j ≤ 15) → t2 7 j = t 7 j) (hu : ∀ k, (k = 44 ∨ (46 ≤ k ∧ k ≤ 57)) → u2 k = u k) (h0 : ∀ j, (j = 73 ∨ j = 74 ∨ (77 ≤ j ∧ j ≤ 105 ∧ ¬ j = 83)) → u2 0 j = u 0 j) (hI : zInp t2 u2) : zDyn G f N Q t0 g pm m Rg pq fr fd fp sp ac num H Y ql MC MR fc fk rw fq mem lim t2 u2 := by
  obtain ⟨a1, a2, a3, a4, a5, a6, a7, a8, a9, a10, a11, a12⟩ := h
  exact ⟨zAC_of a1 (hr 60 (by decide)) (fun k k1 k2 => hr k (by omega)), zAR_of a2 (fun j hj => h0 j (by omega)) (fun k k1 k2 => hu k (by omega)), a3, zBC_of a4 (fun j hj => by rw [hr 59 (by decide)]) (fun k k1 k2 => hr k (by omega)), zBR_of a5 (fun j hj => h0 j (by omega)) (fun k k1 k2 => hu k (by omega)), a6, a7, a8, a9, zMe_of a10 (h7 14 (by decide)) (h7 15 (by decide)) (h0 80 (by decide)) (h0 74 (by decide)), zCn_of a11 (Nat.le_refl _) (fun j hj => h7 j (by omega)) (by rw [hr 60 (by decide)]) (by rw [hr 59 (by decide)]; exact ⟨rfl, rfl⟩) (hr 66 (by decide)) (fun j hj => h0 j (by omega)) (hu 44 (by decide)), hI⟩
theorem zPr_tr {n : Nat} {t u t2 u2 : zS} (h : zPr n t u) (ht : ∀ k j, ¬ (k = 2 ∨ k = 64 ∨ (k = 0 ∧ (j = 6 ∨ j = 7 ∨ j = 8)) ∨ (k = 7 ∧ (j = 8 ∨ j = 9))) → t2 k j = t k j) (hu : ∀ k j, ¬ (k = 1 ∨ k = 45 ∨ (k = 0 ∧ (j = 1 ∨ j = 75 ∨ j = 76 ∨ j = 83))) → u2 k j = u k j) (hI : zInp t2 u2) : zPr n t2 u2 := by
  have rt : ∀ k, ¬ (k = 0 ∨ k = 2 ∨ k = 7 ∨ k = 64) → t2 k = t k := fun k hk => by funext j; exact ht k j (by omega)
  have ru : ∀ k, ¬ (k = 0 ∨ k = 1 ∨ k = 45) → u2 k = u k := fun k hk => by funext j; exact hu k j (by omega)
  rcases h with ⟨h1, h2⟩ | ⟨h0, G, f, N, M, P, A, T, Q, Pa, bb, S, F, C, R, W, V, o, w, t0, u0, g, h1, h2, h3, h4, h5, h6⟩
  · exact Or.inl ⟨by rw [ht 0 9 (by omega)]; exact h1, by rw [hu 0 71 (by omega)]; exact h2⟩
  · refine Or.inr ⟨by rw [ht 0 9 (by omega)]; exact h0, G, f, N, M, P, A, T, Q, Pa, bb, S, F, C, R, W, V, o, w, t0, u0, g, h1, h2, ?_, ?_, ?_, ?_⟩
    · exact ⟨fun k k1 k2 k3 => by rw [rt k (by omega)]; exact h3.1 k k1 k2 k3, fun j hj => by rw [rt 3 (by decide)]; exact h3.2.1 j hj, by rw [rt 4 (by decide)]; exact h3.2.2⟩
    · refine ⟨fun k k1 k2 k3 => by rw [ru k (by omega)]; exact h4.1 k k1 k2 k3, fun j hj => by rw [hu 0 j (by omega)]; exact h4.2.1 j hj, fun s hs => ?_⟩
      have := h4.2.2 s hs
      unfold zU2 at *
      rw [ru 19 (by decide), ru 20 (by decide), ru 21 (by decide), ru 24 (by decide)]
      exact this
    · exact zKp_of h5 ⟨rt 9 (by decide), rt 11 (by decide), rt 13 (by decide), rt 15 (by decide), rt 17 (by decide), rt 19 (by decide), rt 21 (by decide), rt 23 (by decide), rt 25 (by decide), by rw [rt 3 (by decide)], by rw [rt 3 (by decide)], by rw [rt 3 (by decide)]⟩ (rt 29 (by decide))
    · rw [hu 0 71 (by omega)]
      rcases h6 with h6 | ⟨h6, m, Rg, ⟨e1, e2, e3, e4, e5, e6, e7, e8, e9, e10, e11, e12, e13, e14, e15, e16, e17, e18, z6⟩, z7, z8⟩
      · exact Or.inl h6
      · refine Or.inr ⟨h6, m, Rg, ⟨e1, e2, e3, e4, e5, e6, e7, e8, e9, e10, e11, e12, e13, e14, e15, e16, e17, e18, zDyn_in z6 (fun k hk => rt k (by omega)) (fun j hj => ht 7 j (by omega)) (fun k hk => ru k (by omega)) (fun j hj => hu 0 j (by omega)) hI⟩, ?_, ?_⟩
        · rw [ht 7 16 (by omega), hu 0 72 (by omega)]; exact z7
        · rw [ht 7 16 (by omega), ht 7 13 (by omega), hu 0 86 (by omega)]; exact z8
theorem zInp_c (t u : zS) : zInp (zcC t) (zcM u) := by
  refine ⟨rfl, (by decide : (0 : Int32) ≤ 0), (by decide : (0 : Int32) ≤ 300), (by decide : (0 : Int32) ≤ 0), (by decide : (0 : Int32) < 300), fun j hj => ?_⟩
  have : (zcC t 7 9).toInt = 0 := by rw [show zcC t 7 9 = 0 from rfl]; decide
  omega
theorem zPr_c {n : Nat} {t u : zS} (h : zPr n t u) : zPr n (zcC t) (zcM u) := zPr_tr h (fun k j hk => by unfold zcC; rw [if_neg hk]) (fun k j hk => by unfold zcM; rw [if_neg hk]) (zInp_c t u)
theorem zPr_u {n : Nat} {t u : zS} (h : zPr n (zcC t) (zcM u)) (hI : zInp t u) : zPr n t u := zPr_tr h (fun k j hk => by unfold zcC; rw [if_neg hk]) (fun k j hk => by unfold zcM; rw [if_neg hk]) hI
/-- counters, from a run -/
theorem zRv_cnt {G : zTxt} {f : Nat → Nat} {N Q : Nat} {t0 g : zS} {pm : Nat} {t u : zS} (h : zRv G f N Q t0 g pm t u) (hp : pm < 2147483648) : t 7 16 = u 0 72 ∧ t 7 11 = u 0 77 ∧ t 7 12 = u 0 78 ∧ t 60 16 = u 0 85 ∧ t 60 17 = u 0 79 ∧ t 7 14 = u 0 80 ∧ t 59 8 = u 0 100 ∧ t 59 9 = u 0 101 ∧ t 7 10 = u 0 81 ∧ 0 ≤ t 7 10 ∧ ∀ j : Nat, j < 500 → (j : Int) < (t 7 10).toInt → t 66 j = u 44 j := by
  obtain ⟨m, Rg, ⟨e1, e2, e3, e4, e5, e6, e7, e8, e9, e10, e11, e12, e13, e14, e15, e16, e17, e18, a1, a2, a3, a4, a5, a6, a7, a8, a9, a10, ⟨c1, c2, c3, c4, c5, k, c6, c7, c8, c9⟩, a12⟩, z7, _⟩ := h
  refine ⟨z7, c1, c2, by rw [a1.2.1, a2.1], c3, by rw [a10.1, a10.2.1], c4, c5, by rw [c7, c8], by rw [c7]; exact zn_0le (by omega), fun j hj h1 => c9 j hj ?_⟩
  rw [c7, pl_ofn (by omega)] at h1
  omega
theorem zNatOf {x : Int32} (h : 0 ≤ x) : ∃ k, x = Int32.ofNat k ∧ k < 2147483648 ∧ (k : Int) = x.toInt := by
  have e := pl_nat h
  have l := Int32.toInt_lt x
  refine ⟨x.toNatClampNeg, Int32.toInt_inj.mp ?_, by omega, e⟩
  rw [pl_ofn (by omega)]; exact e.symm
/-- the step RUN -/
theorem st_run {n : Nat} {t u : zS} (hn : n < 1000) (h : zR4 (fun t u => zCnt t u ∧ zPr n t u) t u) (x : Int32) : zStp (fun t u => zCnt t u ∧ zPr (n + 1) t u) (mX11_run x t) (mX12_run x u) := by
  obtain ⟨hT, hZ, hI, hC, hP⟩ := h
  have hC : zCnt t u := hC
  have hP' := zPr_u hP hI
  have same : ∀ r : Int32, zStp (fun t u => zCnt t u ∧ zPr (n + 1) t u) (some (r, t)) (some (r, u)) := fun r => ⟨r, t, u, rfl, rfl, hT, hZ, hI, hC, zPr_mono hP (by omega)⟩
  have e0 : (0 : Int64).toInt = 0 := by decide
  have e2 : (20000 : Int64).toInt = 20000 := by decide
  have i0 : (0 : Int32).toInt = 0 := by decide
  have i2 : (20000 : Int32).toInt = 20000 := by decide
  unfold mX11_run mX12_run
  by_cases l1 : x < 0
  · have l1' := Int32.lt_iff_toInt_lt.mp l1
    rw [if_pos l1]
    split
    · exact same _
    · rw [pl_inf (by omega), pl_bd, if_pos rfl]
      exact same _
  · have l1' : ¬ x.toInt < 0 := fun w => l1 (Int32.lt_iff_toInt_lt.mpr (by omega))
    rw [if_neg l1]
    by_cases l2 : x ≤ 20000
    · have l2' := Int32.le_iff_toInt_le.mp l2
      rw [if_pos l2]
      obtain ⟨K, k1, k2, k3⟩ := zNatOf (Int32.not_lt.mp l1)
      have hK : K ≤ 20000 := by omega
      rcases hC with ⟨c0, ⟨c1, c2, _⟩ | ⟨c1, c2⟩⟩
      · rw [if_pos c1]
        have : lX11_run_15 zFU x 0 t = some (-1, t) := by
          rw [show zFU = zFU - 1 + 1 from rfl]
          show bX11_run_15 _ _ _ t = _
          unfold bX11_run_15
          rw [c2]
          split
          · rfl
          · rfl
        rw [this]
        exact same _
      · rw [if_neg (by rw [c1]; decide), pl_int (by omega), pl_bd, if_neg pl_10, k1]
        rcases hP' with ⟨_, q⟩ | ⟨p0, G, f, N, M, P, A, T, Q, Pa, bb, S, F, C, R, W, V, o, w, t0, u0, g, h1, h2, h3, h4, h5, h6⟩
        · rw [c1] at q; exact absurd q (by decide)
        · rcases h6 with h6 | ⟨_, h6⟩
          · rw [c1] at h6; exact absurd h6 (by decide)
          · obtain ⟨r, t2, u2, b1, b2, b3, b4, b5⟩ := zRunL h1 hK K 0 (zFU - K - 1) (zFU - K - 1) (20000 * n) t u (by omega) (by omega) h3 h4 h6
            rw [show zFU - K - 1 + K + 1 = zFU by unfold zFU; omega, show Int32.ofNat 0 = 0 from rfl] at b1 b2
            have hI2 : zInp t2 u2 := by
              obtain ⟨_, _, ⟨e1, e2, e3, e4, e5, e6, e7, e8, e9, e10, e11, e12, e13, e14, e15, e16, e17, e18, z6⟩, _⟩ := b5
              exact z6.2.2.2.2.2.2.2.2.2.2.2
            have r71 : u2 0 71 = 1 := by rw [b4.1 71 (by decide) (by decide)]; exact c1
            have r09 : t2 0 9 = t 0 9 := by rw [b3.2 0 (by decide)]
            refine ⟨r, t2, u2, b1, b2, zTape_of hT (by rw [b3.2 0 (by decide)]) (b4.1 1 (by decide) (by decide)) (b3.2 2 (by decide)) (b4.2 1 (by decide) (by decide)), zSize_of hZ (by rw [b3.2 0 (by decide)]) (by rw [b3.2 0 (by decide)]) (b4.1 75 (by decide) (by decide)) (b4.1 76 (by decide) (by decide)), hI2, ?_, ?_⟩
            · have : zCnt t2 u2 := ⟨by rw [r09, b4.1 57 (by decide) (by decide)]; exact c0, Or.inr ⟨r71, zRv_cnt b5 (by omega)⟩⟩
              exact this
            · refine zPr_c (Or.inr ⟨by rw [r09]; exact p0, G, f, N, M, P, A, T, Q, Pa, bb, S, F, C, R, W, V, o, w, t0, u0, g, h1, h2, zLv_trans h3 b3.1, zLvM_b2 h4 b4, ?_, Or.inr ⟨r71, zRv_pm b5 (by omega)⟩⟩)
              have l := b3.1
              exact zKp_of h5 ⟨l.1 9 (by decide) (by decide) (by decide), l.1 11 (by decide) (by decide) (by decide), l.1 13 (by decide) (by decide) (by decide), l.1 15 (by decide) (by decide) (by decide), l.1 17 (by decide) (by decide) (by decide), l.1 19 (by decide) (by decide) (by decide), l.1 21 (by decide) (by decide) (by decide), l.1 23 (by decide) (by decide) (by decide), l.1 25 (by decide) (by decide) (by decide), l.2.1 13 (by decide), l.2.1 14 (by decide), l.2.1 15 (by decide)⟩ (b3.2 29 (by decide))
    · have l2' : ¬ x.toInt ≤ 20000 := fun w => l2 (Int32.le_iff_toInt_le.mpr (by omega))
      rw [if_neg l2]
      split
      · exact same _
      · rw [pl_inf (by omega), pl_bd, if_pos rfl]
        exact same _
