/-! TYPES: are two of the same kind? -/
theorem zTypes {G : zTxt} {f : Nat → Nat} {N M P A T Q Pa bb S F C R W V : Nat} {o : Nat → Nat × Nat} {w : Nat → Nat} {t0 u0 g : zS} {k1 k2 e : Nat} {t u : zS} (hg : zGd G f N M P A T Q Pa bb S F C R W V o w t0 u0 g) (hv : zLv t0 t) (hm : zLvM S t0 u0 u) (hK : zKp N t) (h1 : k1 < T) (h2 : k2 < T) (he : e = 0 ∨ e = 1) : ∃ r t2 u2, (zbd (mX5_get 26 400 (Int32.ofNat k1) t) fun r2475 t2476 => zbd (mX5_get 26 400 (Int32.ofNat k2) t2476) fun r2478 t2479 => zbd (mX2_equal r2475 (r2478 ^^^ (Int32.ofNat e)) t2479) fun r2481 t2482 => if r2481 = 0 then some (0, t2482) else some (1, t2482)) = some (r, t2) ∧ (zrd u 13 400 (Int32.ofNat k1) fun v4942 => zrd u 13 400 (Int32.ofNat k2) fun v4944 => zbd (mX12_areEqual (2 * v4942) ((2 * v4944) + Int32.ofNat e) u) fun r4946 t4947 => if r4946 = 0 then some (0, t4947) else some (1, t4947)) = some (r, u2) ∧ zFc t t2 ∧ zFm2 u u2 ∧ zKp N t2 := by
  have tr : zTr t0 t := ⟨hv.1 9 (by decide) (by decide) (by decide), hv.1 11 (by decide) (by decide) (by decide), hv.1 13 (by decide) (by decide) (by decide), hv.1 15 (by decide) (by decide) (by decide), hv.1 17 (by decide) (by decide) (by decide), hv.1 19 (by decide) (by decide) (by decide), hv.1 21 (by decide) (by decide) (by decide), hv.1 23 (by decide) (by decide) (by decide), hv.1 25 (by decide) (by decide) (by decide), hv.2.1 13 (by decide), hv.2.1 14 (by decide), hv.2.1 15 (by decide)⟩
  have tg : zTG G f N M P A T t u := zTG_of hg.1.1 tr ⟨hm.1 5 (by decide) (by decide) (by decide), hm.1 6 (by decide) (by decide) (by decide), hm.1 7 (by decide) (by decide) (by decide), hm.1 8 (by decide) (by decide) (by decide), hm.1 9 (by decide) (by decide) (by decide), hm.1 10 (by decide) (by decide) (by decide), hm.1 11 (by decide) (by decide) (by decide), hm.1 12 (by decide) (by decide) (by decide), hm.1 13 (by decide) (by decide) (by decide), hm.2.1 14 (by decide), hm.2.1 19 (by decide), hm.2.1 22 (by decide)⟩
  have bg : zBg T t := zBg_of hg.1.2.1 tr (hv.1 27 (by decide) (by decide) (by decide))
  have hN := tg.2.2.2.1
  have hT := tg.2.2.2.2.2.1
  obtain ⟨c1, a1, a2, a3, a4, _⟩ := zNx_at tg.1 tg.2.1 h1 hN (by omega)
  obtain ⟨c2, b1, b2, b3, b4, _⟩ := zNx_at tg.1 tg.2.1 h2 hN (by omega)
  have g1 : t 27 k1 = Int32.ofNat (zSg2 t (2 * c1)) := by
    rw [bg k1 h1, a3, show (Int32.ofNat c1).toNatClampNeg = c1 from pl_clamp (pl_ofn (by omega))]
  have g2 : t 27 k2 = Int32.ofNat (zSg2 t (2 * c2)) := by
    rw [bg k2 h2, b3, show (Int32.ofNat c2).toNatClampNeg = c2 from pl_clamp (pl_ofn (by omega))]
  have v1 : zV N t (zSg2 t (2 * c1)) := zV_sg tg (by omega)
  have v2 : zV N t (zSg2 t (2 * c2 + e)) := zV_sg tg (by omega)
  have v2' : zV N t (zSg2 t (2 * c2)) := zV_sg tg (by omega)
  have l2 := v2'.1
  have x2 : Int32.ofNat (zSg2 t (2 * c2)) ^^^ Int32.ofNat e = Int32.ofNat (zSg2 t (2 * c2 + e)) := by
    rcases he with e0 | e0
    · subst e0
      exact (zb_x _ (by omega)).2
    · subst e0
      rw [show Int32.ofNat 1 = 1 from rfl, (zb_x _ (by omega)).1, show 2 * c2 + 1 = zflp (2 * c2) by unfold zflp; omega, zSg2_fl]
  have f1 : (2 : Int32) * Int32.ofNat (f c1) = Int32.ofNat (zF f (2 * c1)) := by rw [zn_dbl0, zF_dbl]
  have f2 : (2 : Int32) * Int32.ofNat (f c2) + Int32.ofNat e = Int32.ofNat (zF f (2 * c2 + e)) := by
    rw [zn_dbl0, zn_add]
    congr 1
    unfold zF
    rcases he with e0 | e0
    · subst e0; rw [show (2 * c2 + 0) / 2 = c2 by omega, show (2 * c2 + 0) % 2 = 0 by omega]
    · subst e0; rw [show (2 * c2 + 1) / 2 = c2 by omega, show (2 * c2 + 1) % 2 = 1 by omega]
  obtain ⟨t2, t2K, t2F, t2E⟩ := zEqual (o1 := zSg2 t (2 * c1)) (o2 := zSg2 t (2 * c2 + e)) tg bg hK v1.1 v2.1
  obtain ⟨u2, u2F, u2E⟩ := zEqualM (o1 := 2 * c1) (o2 := 2 * c2 + e) tg (by omega) (by omega)
  rw [zV_self v1, zV_self v2] at t2E
  rw [zn_get (by omega) (by decide), pl_bd, g1, zn_get (by omega) (by decide), pl_bd, g2, x2, zn_rd (by omega) (by decide), a4, f1, zn_rd (by omega) (by decide), b4, f2]
  rcases t2E with ⟨p1, p2⟩ | ⟨p1, p2⟩
  · rcases u2E with ⟨q1, q2⟩ | ⟨q1, q2⟩
    · rw [p1, q1, pl_bd, pl_bd, if_neg pl_10, if_neg pl_10]
      exact ⟨1, t2, u2, rfl, rfl, t2F, u2F, t2K⟩
    · exact absurd p2 q2
  · rcases u2E with ⟨q1, q2⟩ | ⟨q1, q2⟩
    · exact absurd q2 p2
    · rw [p1, q1, pl_bd, pl_bd, if_pos rfl, if_pos rfl]
      exact ⟨0, t2, u2, rfl, rfl, t2F, u2F, t2K⟩
/-- the step TYPES -/
theorem st_types {n : Nat} {t u : zS} (h : zR4 (fun t u => zCnt t u ∧ zPr n t u) t u) (x y z : Int32) : zStp (fun t u => zCnt t u ∧ zPr (n + 1) t u) (mX11_types x y z t) (mX12_types x y z u) := by
  obtain ⟨hT, hZ, hI, hC, hP⟩ := h
  have hC : zCnt t u := hC
  have hP' := zPr_u hP hI
  have e0 : (0 : Int64).toInt = 0 := by decide
  have e1 : (1 : Int64).toInt = 1 := by decide
  have i0 : (0 : Int32).toInt = 0 := by decide
  have i1 : (1 : Int32).toInt = 1 := by decide
  have bad34 : bX11_types_34 x y z t = some (-1, t) := by
    unfold bX11_types_34 bX11_types_35
    split
    · rfl
    · rfl
  have no : mX11_types x y z t = some (-1, t) → mX12_types x y z u = some (-1, u) → zStp (fun t u => zCnt t u ∧ zPr (n + 1) t u) (mX11_types x y z t) (mX12_types x y z u) := fun h1 h2 => by
    rw [h1, h2]
    exact ⟨_, t, u, rfl, rfl, hT, hZ, hI, hC, zPr_mono hP (by omega)⟩
  by_cases l0 : t 0 9 = 0
  · refine no ?_ ?_
    · unfold mX11_types
      rw [bad34]
      have : bX11_types_35 x y z 1 t = some (-1, t) := by unfold bX11_types_35; rw [if_pos l0]
      rw [this]
      split
      · rfl
      · split
        · rfl
        · split
          · rfl
          · split
            · rfl
            · rfl
    · unfold mX12_types
      rw [if_pos (by rw [← hC.1.1]; exact l0)]
  · rcases hP' with ⟨q, _⟩ | ⟨p0, G, f, N, M, P, A, T, Q, Pa, bb, S, F, C, R, W, V, o, w, t0, u0, g, h1, h2, h3, h4, h5, h6⟩
    · exact absurd q l0
    · have hTT : T ≤ 390 := h1.1.1.2.2.2.2.2.1
      have t315 : t 3 15 = Int32.ofNat T := by rw [h3.2.1 15 (by decide)]; exact h1.1.1.2.1.1
      have u22 : u 0 22 = Int32.ofNat T := by rw [h4.2.1 22 (by decide)]; exact h1.1.1.2.1.2.1
      have last : (Int32.toInt64 (u 0 22 - 1)).toInt = (T : Int) - 1 := by
        rw [pl_64, u22]
        by_cases z0 : T = 0
        · rw [z0]; decide
        · rw [show Int32.ofNat T - 1 = Int32.ofNat (T - 1) from zn_sub (b := 1) (by omega) (by omega), pl_ofn (by omega)]
          omega
      have ge : ∀ v : Int32, ¬ v < 0 → (Int32.ofNat T ≤ v ↔ (T : Int) ≤ v.toInt) := fun v _ => by rw [Int32.le_iff_toInt_le, pl_ofn (by omega)]
      have ng : ∀ v : Int32, v < 0 ↔ v.toInt < 0 := fun v => by rw [Int32.lt_iff_toInt_lt, i0]
      have h57 : ¬ u 0 57 = 0 := by rw [← hC.1.1]; exact l0
      by_cases c1 : 0 ≤ x.toInt ∧ x.toInt < (T : Int)
      · by_cases c2 : 0 ≤ y.toInt ∧ y.toInt < (T : Int)
        · by_cases c3 : 0 ≤ z.toInt ∧ z.toInt ≤ 1
          · have nx : ¬ x < 0 := fun w => by have := (ng x).mp w; omega
            have ny : ¬ y < 0 := fun w => by have := (ng y).mp w; omega
            have nz : ¬ z < 0 := fun w => by have := (ng z).mp w; omega
            obtain ⟨k1, a1, a2, a3⟩ := zNatOf (Int32.not_lt.mp nx)
            obtain ⟨k2, b1, b2, b3⟩ := zNatOf (Int32.not_lt.mp ny)
            obtain ⟨e, d1, d2, d3⟩ := zNatOf (Int32.not_lt.mp nz)
            obtain ⟨r, t2, u2, y1, y2, y3, y4, y5⟩ := zTypes (k1 := k1) (k2 := k2) (e := e) h1 h3 h4 h5 (by omega) (by omega) (by omega)
            have goC : mX11_types x y z t = some (r, t2) := by
              unfold mX11_types bX11_types_35
              rw [if_neg nx, t315, if_neg (fun w => by have := (ge x nx).mp w; omega), if_neg ny, if_neg (fun w => by have := (ge y ny).mp w; omega), if_neg l0, if_neg pl_10, if_neg nz, if_pos (Int32.le_iff_toInt_le.mpr (by omega)), a1, b1, d1]
              exact y1
            have goM : mX12_types x y z u = some (r, u2) := by
              unfold mX12_types
              rw [if_neg h57, pl_int (by rw [last]; omega), pl_bd, if_neg pl_10, pl_int (by rw [last]; omega), pl_bd, if_neg pl_10, pl_int (by omega), pl_bd, if_neg pl_10, a1, b1, d1]
              exact y2
            rw [goC, goM]
            have rt : ∀ k, ¬ (k = 3 ∨ k = 29 ∨ k = 31) → t2 k = t k := y3.2
            have ru : ∀ k, ¬ (k = 0 ∨ k = 40 ∨ k = 41) → u2 k = u k := y4.2
            have ru0 : ∀ j, ¬ j = 65 → u2 0 j = u 0 j := y4.1
            have hI2 : zInp t2 u2 := zInp_of2 hI (by rw [rt 7 (by decide)]) (by rw [rt 7 (by decide)]) (rt 64 (by decide)) (ru0 83 (by decide)) (ru 45 (by decide))
            refine ⟨r, t2, u2, rfl, rfl, zTape_of hT (by rw [rt 0 (by decide)]) (ru0 1 (by decide)) (rt 2 (by decide)) (ru 1 (by decide)), zSize_of hZ (by rw [rt 0 (by decide)]) (by rw [rt 0 (by decide)]) (ru0 75 (by decide)) (ru0 76 (by decide)), hI2, ?_, ?_⟩
            · have : zCnt t2 u2 := by
                unfold zCnt at *
                rw [rt 0 (by decide), rt 7 (by decide), rt 60 (by decide), rt 59 (by decide), rt 66 (by decide), ru 44 (by decide), ru0 57 (by decide), ru0 71 (by decide), ru0 72 (by decide), ru0 77 (by decide), ru0 78 (by decide), ru0 85 (by decide), ru0 79 (by decide), ru0 80 (by decide), ru0 100 (by decide), ru0 101 (by decide), ru0 81 (by decide)]
                exact hC
              exact this
            · refine zPr_c (Or.inr ⟨by rw [rt 0 (by decide)]; exact p0, G, f, N, M, P, A, T, Q, Pa, bb, S, F, C, R, W, V, o, w, t0, u0, g, h1, h2, ⟨fun k k1 k2 k3 => by rw [rt k (by omega)]; exact h3.1 k k1 k2 k3, fun j hj => by rw [y3.1 j hj]; exact h3.2.1 j hj, by rw [rt 4 (by decide)]; exact h3.2.2⟩, ?_, y5, ?_⟩)
              · refine ⟨fun k k1 k2 k3 => by rw [ru k (by omega)]; exact h4.1 k k1 k2 k3, fun j hj => by rw [ru0 j (by omega)]; exact h4.2.1 j hj, fun s hs => ?_⟩
                have := h4.2.2 s hs
                unfold zU2 at *
                rw [ru 19 (by decide), ru 20 (by decide), ru 21 (by decide), ru 24 (by decide)]
                exact this
              · rw [ru0 71 (by decide)]
                rcases h6 with h6 | ⟨h6, m, Rg, ⟨e1, e2, e3, e4, e5, e6, e7, e8, e9, e10, e11, e12, e13, e14, e15, e16, e17, e18, z6⟩, z7, z8⟩
                · exact Or.inl h6
                · refine Or.inr ⟨h6, m, Rg, ⟨e1, e2, e3, e4, e5, e6, e7, e8, e9, e10, e11, e12, e13, e14, e15, e16, e17, e18, zDyn_pm (zDyn_in z6 (fun k hk => rt k (by omega)) (fun j hj => by rw [rt 7 (by decide)]) (fun k hk => ru k (by omega)) (fun j hj => ru0 j (by omega)) hI2) (by omega)⟩, ?_, ?_⟩
                  · rw [rt 7 (by decide), ru0 72 (by decide)]; exact z7
                  · rw [rt 7 (by decide), ru0 86 (by decide)]; exact z8
          · have nx : ¬ x < 0 := fun w => by have := (ng x).mp w; omega
            have ny : ¬ y < 0 := fun w => by have := (ng y).mp w; omega
            refine no ?_ ?_
            · unfold mX11_types bX11_types_35
              rw [if_neg nx, t315, if_neg (fun w => by have := (ge x nx).mp w; omega), if_neg ny, if_neg (fun w => by have := (ge y ny).mp w; omega), if_neg l0, if_neg pl_10]
              by_cases nz : z < 0
              · rw [if_pos nz]
              · rw [if_neg nz, if_neg (fun w => by have a := Int32.le_iff_toInt_le.mp w; have b : ¬ z.toInt < 0 := fun v => nz ((ng z).mpr v); omega)]
            · unfold mX12_types
              rw [if_neg h57, pl_int (by rw [last]; omega), pl_bd, if_neg pl_10, pl_int (by rw [last]; omega), pl_bd, if_neg pl_10, pl_inf (by omega), pl_bd, if_pos rfl]
        · have nx : ¬ x < 0 := fun w => by have := (ng x).mp w; omega
          refine no ?_ ?_
          · unfold mX11_types
            rw [if_neg nx, t315, if_neg (fun w => by have := (ge x nx).mp w; omega), bad34]
            by_cases ny : y < 0
            · rw [if_pos ny]
            · rw [if_neg ny, if_pos ((ge y ny).mpr (by have : ¬ y.toInt < 0 := fun v => ny ((ng y).mpr v); omega))]
          · unfold mX12_types
            rw [if_neg h57, pl_int (by rw [last]; omega), pl_bd, if_neg pl_10, pl_inf (by rw [last]; omega), pl_bd, if_pos rfl]
      · refine no ?_ ?_
        · unfold mX11_types
          rw [bad34, t315]
          by_cases nx : x < 0
          · rw [if_pos nx]
          · rw [if_neg nx, if_pos ((ge x nx).mpr (by have : ¬ x.toInt < 0 := fun v => nx ((ng x).mpr v); omega))]
        · unfold mX12_types
          rw [if_neg h57, pl_inf (by rw [last]; omega), pl_bd, if_pos rfl]
