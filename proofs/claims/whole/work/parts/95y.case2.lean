/-! CHECK: case, its BLOCKS -/
/-- the notes of a BLOCK stay while others are checked -/
theorem zBr_gn {D : zCo} {N n s : Nat} {t g g2 : zS} {fb bF bF2 : Int32} {r ρ ρ2 r0 : Nat → Int32} (hs : s < 1000) (h : zBr D N n t (zGn g s r ρ bF) s fb r0) (hne : ∀ x j y, fb = Int32.ofNat x → x < 1000 → zNxt t j x y → y < 1000 ∧ ¬ y = s ∧ zGs g g2 y) (hc : bF = 1 ∨ (bF2 = bF ∧ ∀ k, k < n → ρ2 k = ρ k)) : zBr D N n t (zGn g2 s r ρ2 bF2) s fb r0 := by
  obtain ⟨a1, a2, a3, a4⟩ := zGn_at (g := g) (r := r) (r2 := ρ) (b := bF) hs
  obtain ⟨b1, b2, b3, b4⟩ := zGn_at (g := g2) (r := r) (r2 := ρ2) (b := bF2) hs
  have gg : ∀ x j y, fb = Int32.ofNat x → x < 1000 → zNxt t j x y → zGs (zGn g s r ρ bF) (zGn g2 s r ρ2 bF2) y := fun x j y q1 q2 q3 => by
    obtain ⟨c1, c2, c3⟩ := hne x j y q1 q2 q3
    have d1 := zGn_ne (g := g) (r := r) (r2 := ρ) (b := bF) hs c1 c2
    have d2 := zGn_ne (g := g2) (r := r) (r2 := ρ2) (b := bF2) hs c1 c2
    exact ⟨by rw [d2.1, c3.1, d1.1], by rw [d2.2.1, c3.2.1, d1.2.1], by rw [d2.2.2, c3.2.2, d1.2.2]⟩
  rcases h with ⟨h1, h2, h3⟩ | ⟨x, h1, h2, h3, h4, h5⟩
  · rw [a3] at h2
    rcases hc with hc | ⟨c1, c2⟩
    · rw [h2] at hc; exact absurd hc (by decide)
    · refine Or.inl ⟨h1, by rw [b3, c1]; exact h2, fun k hk => ?_⟩
      have := h3 k hk
      rw [a2] at this
      rw [b2, c2 k hk]; exact this
  · have gx := gg x 0 x h1 h2 rfl
    refine Or.inr ⟨x, h1, h2, by unfold zVis; rw [gx.2.2]; exact h3, fun k hk => by rw [gx.1]; exact h4 k hk, fun j y q1 q2 => ?_⟩
    have gy := gg x j y h1 h2 q1
    rw [gy.2.2, gy.2.1, b2, b3]
    rcases h5 j y q1 q2 with w | ⟨w1, w2, w3⟩
    · exact Or.inl w
    · rw [a3] at w2
      rcases hc with hc | ⟨c1, c2⟩
      · rw [w2] at hc; exact absurd hc (by decide)
      · refine Or.inr ⟨w1, by rw [c1]; exact w2, fun k hk => ?_⟩
        have := w3 k hk
        rw [a2] at this
        rw [c2 k hk]; exact this
/-- what a BLOCK of case starts with -/
theorem zEntC {G : zTxt} {f : Nat → Nat} {N M P A T Q Pa bb S F C R W V n d q kp kq s c e y y' : Nat} {o : Nat → Nat × Nat} {w : Nat → Nat} {t u g t1 u1 g1 : zS} {Dn : Nat → Prop} (hx : zCx G f N M P A T Q Pa bb S F C R W V o w t u) (hc : zCk f N n d q t u) (hI : zBI w N Q S n d kp s t u g t1 u1 g1 Dn) (hcn : c < n) (he : w e = s) (hy : zV N t y) (hy' : zV N t y') (hq : zEq (zD t) y y') (t0 u0 : zS) (et : t0 = zu (zu (zmv t1 58 (n * (1 + 2 * d)) 58 0 n) 58 c (zHo (zD t) y)) 113 e (zCz (zD t) y)) (eu : u0 = zu (zmv u1 42 (1500 * d) 42 (1500 * (d + 1)) n) 42 (1500 * (d + 1) + c) (if (zD t).kd y' = 0 then -1 else Int32.ofNat (zF f y'))) : zFrC w n d kq (fun x => x = s) t1 u1 g1 t0 u0 g1 ∧ zKp N t0 ∧ (∀ k, k < n → t0 58 k = zur (t 58) c (zHo (zD t) y) k) ∧ (∀ k, k < n → zRs (zD t) N t f (t0 58 k) (u0 42 (1500 * (d + 1) + k))) ∧ (∀ k, n ≤ k → t0 58 k = t1 58 k) ∧ (∀ k, k < 1500 * (d + 1) → u0 42 k = u1 42 k) ∧ t0 113 e = zCz (zD t) y ∧ (∀ j, ¬ j = e → t0 113 j = t1 113 j) ∧ u0 43 = u1 43 := by
  obtain ⟨k1, k2, k3, k4, k5, k6, k7, k8⟩ := hc
  obtain ⟨n1, n2, n3, n4, n5, n6⟩ := zEnt (kq := kq) k8 k6 hI
  have r58 : ∀ k, t0 58 k = if k = c then zHo (zD t) y else (zmv t1 58 (n * (1 + 2 * d)) 58 0 n) 58 k := fun k => by
    rw [et, zu_ne1 (by decide)]
    by_cases ck : k = c
    · rw [if_pos ck, ck, zu_same]
    · rw [if_neg ck, zu_ne2 ck]
  have r42 : ∀ k, u0 42 k = if k = 1500 * (d + 1) + c then (if (zD t).kd y' = 0 then -1 else Int32.ofNat (zF f y')) else (zmv u1 42 (1500 * d) 42 (1500 * (d + 1)) n) 42 k := fun k => by
    rw [eu]
    by_cases ck : k = 1500 * (d + 1) + c
    · rw [if_pos ck, ck, zu_same]
    · rw [if_neg ck, zu_ne2 ck]
  have ff : zCf (zmv t1 58 (n * (1 + 2 * d)) 58 0 n) t0 := by rw [et]; exact zCf_trans (zCf_zu (Or.inl rfl)) (zCf_zu (Or.inr (Or.inr (Or.inl rfl))))
  have mm : zCm (zmv u1 42 (1500 * d) 42 (1500 * (d + 1)) n) u0 := by rw [eu]; exact zCm_zu (Or.inl rfl)
  obtain ⟨a1, a2, a3, a4, a5, a6, a7, a8, a9, a10, a11⟩ := n1
  have row : ∀ k, ¬ (k = 58 ∨ k = 113) → t0 k = (zmv t1 58 (n * (1 + 2 * d)) 58 0 n) k := fun k hk => by rw [et, zu_row (by omega), zu_row (by omega)]
  have rowu : ∀ k, ¬ k = 42 → u0 k = (zmv u1 42 (1500 * d) 42 (1500 * (d + 1)) n) k := fun k hk => by rw [eu, zu_row hk]
  have e113 : ∀ j, ¬ j = e → t0 113 j = t1 113 j := fun j hj => by rw [et, zu_ne2 hj, zu_ne1 (by decide), zmv_row (by decide)]
  refine ⟨⟨zCf_trans a1 ff, zCm_trans a2 mm, by rw [row 6 (by decide)]; exact a3, by rw [rowu 0 (by decide)]; exact a4, by rw [rowu 0 (by decide)]; exact a5, by rw [rowu 0 (by decide)]; exact a6, fun k b1 b2 => ?_, fun k b1 => ?_, fun k b1 => by rw [rowu 43 (by decide)]; exact a9 k b1, fun x b1 b2 => ⟨by rw [row 107 (by decide)]; exact (a10 x b1 b2).1, (a10 x b1 b2).2⟩, fun j b1 b2 => ?_⟩, zKp_of n2 (zTr_f ff) (row 29 (by decide)), fun k hk => ?_, fun k hk => ?_, fun k hk => ?_, fun k hk => ?_, ?_, e113, ?_⟩
  · rw [r58, if_neg (by omega)]; exact a7 k b1 b2
  · rw [r42, if_neg (by omega)]; exact a8 k b1
  · exact e113 j (fun q => b2 (by rw [q]; exact he))
  · rw [r58]
    unfold zur
    by_cases ck : k = c
    · rw [if_pos ck, if_pos ck]
    · rw [if_neg ck, if_neg ck]; exact n3 k hk
  · rw [r58, r42]
    by_cases ck : k = c
    · rw [if_pos ck, if_pos (by omega)]
      exact zRs_new hy hy' hq
    · rw [if_neg ck, if_neg (by omega)]; exact n4 k hk
  · rw [r58, if_neg (by omega)]; exact n5 k hk
  · rw [r42, if_neg (by omega)]; exact n6 k hk
  · rw [et, zu_same]
  · rw [rowu 43 (by decide), zmv_row (by decide)]
