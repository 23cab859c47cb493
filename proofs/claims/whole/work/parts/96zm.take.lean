/-! ACTS: take -/
theorem zActTake {G : zTxt} {f : Nat → Nat} {N M P A T Q Pa bb S F C R W V : Nat} {o : Nat → Nat × Nat} {w : Nat → Nat} {t0 u0 g : zS} {pm m c y : Nat} {Rg : Nat → Nat} {pq fp ql Y fq : Nat → Nat} {fr fd fc fk rw mem lim : Nat} {sp ac : Nat → Int32} {num H MC MR : zS} {t u : zS} (hg : zGd G f N M P A T Q Pa bb S F C R W V o w t0 u0 g) (hv : zLv t0 t) (hm : zLvM S t0 u0 u) (h : zDyn G f N Q t0 g pm m Rg pq fr fd fp sp ac num H Y ql MC MR fc fk rw fq mem lim t u) (hc : c < m) (hy : sp (Rg c) = Int32.ofNat y) (hy2 : y < 2147483648) (h16 : t 7 16 = 0 ∧ u 0 72 = 0) (hk : t0 87 y = 5) : zAo G f N Q t0 g pm m Rg t u (mX4_act (Int32.ofNat (Rg c)) (Int32.ofNat y) t) (mX12_act (Int32.ofNat (Rg c)) (Int32.ofNat y) u) := by
  obtain ⟨w1, w2, w3, w4, w5, w6, w7, w8, w9, w10, w11, w12, w13⟩ := zWho hg h hc hy hy2
  obtain ⟨n1, n2⟩ := zNq_at hg w1
  have hN := hg.1.1.2.2.2.1
  obtain ⟨s1, s2, s3, s4⟩ := (zKd_say w8).2.2.2.1 hk
  rw [w6] at s2 s3
  obtain ⟨k, k1, k2, k3⟩ := zSo_k s2 n1 (by omega)
  obtain ⟨l, l1, l2, l3⟩ := zSo_k s3 n1 (by omega)
  have r : ∀ k, 8 ≤ k → k ≤ 115 → ¬ (k = 29 ∨ k = 31 ∨ k = 51 ∨ k = 58 ∨ k = 59 ∨ k = 60 ∨ k = 62 ∨ k = 64 ∨ k = 66 ∨ k = 85) → t k = t0 k := hv.1
  have q : ∀ k, 5 ≤ k → k ≤ 39 → ¬ (k = 19 ∨ k = 20 ∨ k = 21 ∨ k = 24) → u k = u0 k := hm.1
  have u2s := hm.2.2 y w4
  have hd := h
  obtain ⟨a1, a2, a3, a4, a5, a6, a7, a8, a9, a10, a11, a12⟩ := h
  have a60 := a6
  obtain ⟨p1, p2, p3, p4, p5, p6, p7⟩ := a6
  have hfc := (zRw_bd p4 p2).1
  obtain ⟨st, g0⟩ := w9.1.1 (by rw [hk]; decide)
  obtain ⟨a, va, ka, ra, rl, c107, rr2⟩ : ∃ a, zV N t0 a ∧ (zD t0).kd a = 7 ∧ g y k = Int32.ofNat a ∧ g y l = -1 ∧ t0 107 y = zCz (zD t0) ((zD t0).bh a) ∧ g (2000 + y) = zur (zur (g y) l (zHo (zD t0) ((zD t0).inn a))) k (zHo (zD t0) ((zD t0).bh a)) := by
    rcases st with ⟨e, _⟩ | ⟨e, _⟩ | ⟨e, _⟩ | ⟨e, _⟩ | ⟨e, _⟩ | ⟨_, cc, ee, a, ⟨e1, e2⟩, ⟨e8, e9⟩, e10, e3, e4, e5, e6, e7⟩ | ⟨e, _⟩
    · rcases e with e | e <;> rw [hk] at e <;> exact absurd e (by decide)
    · rw [hk] at e; exact absurd e (by decide)
    · rw [hk] at e; exact absurd e (by decide)
    · rw [hk] at e; exact absurd e (by decide)
    · rw [hk] at e; exact absurd e (by decide)
    · rw [k2] at e1
      have := (zn_inj (by omega) (by omega)).mp e1
      subst this
      rw [l2] at e8
      have := (zn_inj (by omega) (by omega)).mp e8
      subst this
      exact ⟨a, e4, e5, e3, e10, e6, e7⟩
    all_goals (rw [hk] at e; exact absurd e (by decide))
  have kl : ¬ l = k := fun w => by
    rw [w, ra] at rl
    have := va.1
    exact absurd (show (0 : Int32) ≤ -1 by rw [← rl]; exact zn_0le (by omega)) zn_m1
  obtain ⟨e, i1, i2, i3, i4, i5⟩ := zEndP hN (by omega) a8 w13 k1 ra va
  have ke : (zD t0).kd (Y e) = 7 := by rw [← (zEq_sm i5).1]; exact ka
  have hT := zTG_live hg hm
  have vY := (p7 e i3).1
  have vz := zV_bh hT vY (Or.inr (Or.inr (Or.inr ke)))
  have ez : zEq (zD t0) ((zD t0).bh a) ((zD t0).bh (Y e)) := ((zEq_sm i5).2.2.1 (Or.inr ka)).2
  obtain ⟨b, b1, b2, b3, b4, b5⟩ := zAR_at a2 w3
  rw [pl_hearC a1 a4 w3 w2 w5 (by rw [r 87 (by decide) (by decide) (by decide)]; exact hk) (Or.inr rfl) (by rw [r 91 (by decide) (by decide) (by decide)]; exact k2) k1 i1 i3 hfc (p7 _ i3).2 p3, pl_hearM (b := b) (k := k) (e := e) (l := ql e) (kk := 4) (by omega) w5 b1 (by rw [q 16 (by decide) (by decide) (by decide)]; exact k3) (by omega) (by rw [(b3 k k1).2]; exact i1) (by omega) (by rw [q 14 (by decide) (by decide) (by decide)]; exact s1) (Or.inr (Or.inl rfl)) (by rw [q 18 (by decide) (by decide) (by decide)]; exact s4) (a5.2.2.2.2 _ i3).2.1 (by have := (p7 _ i3).2; omega)]
  by_cases empty : ql e = 0
  · rw [if_pos empty, if_pos empty]
    exact zWait hd h16
  · rw [if_neg empty, if_neg empty]
    obtain ⟨ln, eln⟩ : ∃ ln, ql e = ln + 1 := ⟨ql e - 1, by omega⟩
    have hstep : ∀ z0, zQu (zD t0) (zBk G) Y (ql e) (MC e) (MR e) (H (10000 + e)) (Y e) z0 → (MC e 0 = MR e 0 ∧ ∃ x, MC e 0 = Int32.ofNat x ∧ H (10000 + e) 0 = Int32.ofNat x ∧ x < 4000 ∧ zEq (zD t0) ((zD t0).inn (Y e)) (Y x)) ∧ zQu (zD t0) (zBk G) Y (ql e - 1) (fun j => MC e (j + 1)) (fun j => MR e (j + 1)) (fun j => H (10000 + e) (j + 1)) ((zD t0).bh (Y e)) z0 := fun z0 hq => by
      rw [eln] at hq
      rw [show ql e - 1 = ln by omega]
      rcases hq with ⟨q1, _⟩ | ⟨_, q2, q3, q4⟩ | ⟨q1, _⟩
      · rw [ke] at q1; exact absurd q1 (by decide)
      · exact ⟨⟨q2, q3⟩, q4⟩
      · rw [ke] at q1; exact absurd q1 (by decide)
    obtain ⟨msg, x, m1, m2, m3, m4⟩ : MC e 0 = MR e 0 ∧ ∃ x, MC e 0 = Int32.ofNat x ∧ H (10000 + e) 0 = Int32.ofNat x ∧ x < 4000 ∧ zEq (zD t0) ((zD t0).inn (Y e)) (Y x) := by
      obtain ⟨z0, z', q1, _⟩ := a7 e i3 (Or.inl i4)
      exact (hstep z0 q1).1
    obtain ⟨x1, x2⟩ := zHH_of a8 (by omega) m2 m3
    have ein : zEq (zD t0) ((zD t0).inn a) (Y x) := zEqv_eq.tr _ _ _ ((zEq_sm i5).2.2.1 (Or.inr ka)).1 m4
    obtain ⟨tA, z1, z2, z3, z4, z5⟩ := zRemC a4 i3 p4 (p7 _ i3).2 empty p3 p2
    obtain ⟨tB, zb1, zb2, zb3⟩ := zAC_ch (v := MC e 0) (zAC_of a1 (z5 60 (by decide)) (fun k k1 k2 => z5 k (by omega)) : zAC (zNq t0) m Rg pq fr fd fp sp ac num H tA) w3 w2 l1
    obtain ⟨uS, eS⟩ : ∃ uS, uS = zu u 49 (Rg c) (t0 103 y) := ⟨_, rfl⟩
    have rS : ∀ r, ¬ r = 49 → uS r = u r := fun r hr => by rw [eS, zu_row hr]
    obtain ⟨uA, y1, y2, y3, y4, y5⟩ := zTakR (zBR_of a5 (u2 := uS) (fun j hj => by rw [rS 0 (by decide)]) (fun r r1 r2 => rS r (by omega))) i3 hfc (fun x hx => (p7 x hx).2) empty p3
    have hRA : zAR (zNq t0) m Rg pq fr fd fp (zfu sp (Rg c) (t0 103 y)) ac num H uA := zAR_of (zAR_sp (p := Rg c) (v := t0 103 y) a2) (fun j hj => by rw [y4 j (by omega), eS]) (fun r r1 r2 => by rw [y5 r (by omega), eS])
    obtain ⟨b', b1', b2', b3', b4', b5'⟩ := zAR_at hRA w3
    have ebb : b' = b := by
      rw [y5 51 (by decide), rS 51 (by decide), b1] at b1'
      exact ((zn_inj (by omega) (by omega)).mp b1').symm
    subst ebb
    obtain ⟨uB, eB⟩ : ∃ uB, uB = zu uA 53 (b' + l) (MC e 0) := ⟨_, rfl⟩
    have rB : ∀ r, ¬ r = 53 → uB r = uA r := fun r hr => by rw [eB, zu_row hr]
    obtain ⟨H1, eH⟩ : ∃ H1, H1 = zu (zshf H (10000 + e)) (Rg c) l (MC e 0) := ⟨_, rfl⟩
    have lowH : ∀ p k, p < 2501 → H1 p k = zu H (Rg c) l (MC e 0) p k := fun p k' hp => by
      rw [eH]
      by_cases ep : p = Rg c
      · subst ep
        by_cases ek : k' = l
        · subst ek; rw [zu_same, zu_same]
        · rw [zu_ne2 ek, zu_ne2 ek, zshf_ne (by omega)]
      · rw [zu_ne1 ep, zu_ne1 ep, zshf_ne (by omega)]
    have hRl : ∀ i, i < m → Rg i < 2501 := fun i hi => by have := (a3.1 i hi).1; have := a3.2.2.2.1; omega
    have hA1 : zAC (zNq t0) m Rg pq fr fd fp sp ac num H1 tB := zAC_H zb2 hRl lowH
    have hR1 : zAR (zNq t0) m Rg pq fr fd fp (zfu sp (Rg c) (t0 103 y)) ac num H1 uB := by rw [eB]; exact zAR_H (b4' l (MC e 0) l1) hRl lowH
    have gone : ∀ a b, ¬ zshf H (10000 + e) a b = Int32.ofNat x := fun a b w => by
      by_cases ea : a = 10000 + e
      · subst ea
        rw [zshf_e] at w
        have := (zHH_at a8 w m2 m3).2
        omega
      · rw [zshf_ne ea] at w
        exact ea (zHH_at a8 w m2 m3).1
    have ft : ∀ r, ¬ (r = 51 ∨ r = 59 ∨ r = 85 ∨ 116 ≤ r) → tB r = t r := fun r hr => by rw [zb3 r (by omega), z5 r (by omega)]
    have fu : ∀ r, ¬ (r = 0 ∨ 46 ≤ r) → uB r = u r := fun r hr => by rw [rB r (by omega), y5 r (by omega), rS r (by omega)]
    have fu0 : ∀ j, ¬ (j = 101 ∨ j = 107) → uB 0 j = u 0 j := fun j hj => by rw [rB 0 (by decide), y4 j (by omega), rS 0 (by decide)]
    have hHH1 : zHH (zD t0) Y fc H1 := by rw [eH, m1]; exact zHH_put (zHH_shf a8) x1 (by omega) x2 gone
    have hH1 : H1 (Rg c) k = Int32.ofNat e := by rw [lowH _ _ w2, zu_ne2 (fun w => kl w.symm)]; exact i1
    have wait : tB 59 9 = uB 0 101 := by
      rw [zb3 59 (by decide), z3, rB 0 (by decide), y3, rS 0 (by decide), a11.2.2.2.2.1]
    have up : ∀ x' j, (if (zD t0).kd ((zD t0).bh (Y e)) = 0 then zu H1 (Rg c) k (-1) else H1) (10000 + x') j = H1 (10000 + x') j := fun x' j => by
      split
      · exact zu_ne1 (by omega)
      · rfl
    have bt := zBT_recv (z := (zD t0).bh (Y e)) (H2 := if (zD t0).kd ((zD t0).bh (Y e)) = 0 then zu H1 (Rg c) k (-1) else H1) hT a7 a8 i3 i2 (fun x hx => (p7 x hx).1) vz w2 i1 i4 empty (fun x' j => by
      rw [up, eH]
      by_cases ex : x' = e
      · subst ex; rw [if_pos rfl, zu_ne1 (by omega), zshf_e]
      · rw [if_neg ex, zu_ne1 (by omega), zshf_ne (by omega)]) (fun z0 hq => (hstep z0 hq).2)
    obtain ⟨t2, u2, o1, o2, o3⟩ := zTalkEnd (e := e) (k := k) (z := (zD t0).bh (Y e)) (y0 := (zD t0).bh a) hg hv hm hd hc hy hy2 h16 hA1 hR1 (zBC_of z2 (fun j hj => by rw [zb3 59 (by decide)]) (fun r r1 r2 => zb3 r (by omega))) (zBR_of y2 (fun j hj => by rw [rB 0 (by decide)]) (fun r r1 r2 => rB r (by omega))) ft (by rw [zb3 59 (by decide), z4 8 (by decide)]) fu fu0 wait k1 k2 hH1 i2 hHH1 (fun x hx => by
      have := (p7 x hx).2
      by_cases ex : x = e
      · subst ex; rw [zfu_same]; omega
      · rw [zfu_ne ex]; exact this) vz c107 (by rw [(zEq_sm ez).1]) bt (fun p' k' hp' hp2 => by rw [lowH p' k' hp2, zu_ne1 hp']) (zOut1 hHH1 hH1 i2 (fun k' hk' hne => by
        rw [rr2, show zur (zur (g y) l (zHo (zD t0) ((zD t0).inn a))) k (zHo (zD t0) ((zD t0).bh a)) k' = zur (g y) l (zHo (zD t0) ((zD t0).inn a)) k' by unfold zur; rw [if_neg hne], lowH _ _ w2]
        by_cases ek : k' = l
        · subst ek
          rw [zu_same, m1]
          unfold zur zHo
          rw [if_pos rfl, if_neg (fun w => x2 ((zEq_sm ein).1.symm.trans w))]
          exact Or.inr ⟨x, _, rfl, m3, rfl, zV_in hT va (Or.inr ka), ein⟩
        · rw [zu_ne2 ek, show zur (g y) l (zHo (zD t0) ((zD t0).inn a)) k' = g y k' by unfold zur; rw [if_neg ek]]
          exact w13 k' hk') (by rw [rr2]; unfold zur; rw [if_pos rfl]) (zV_bh hT va (Or.inr (Or.inr (Or.inr ka)))) ez) g0
    have eC : (zbd (zbd (mX0_remove (Int32.ofNat e) t) fun r2000 t2001 => zbd (mX5_get 86 1000 (Int32.ofNat y) t2001) fun r2003 t2004 => if r2003 = 5 then zbd (mX5_get 92 1000 (Int32.ofNat y) t2004) fun r2012 t2013 => zbd (mX8_setChannel (Int32.ofNat (Rg c)) r2012 r2000 t2013) fun r2015 t2016 => bX4_hear_103 (Int32.ofNat (Rg c)) (Int32.ofNat y) t2016 else zbd (mX5_get 92 1000 (Int32.ofNat y) t2004) fun r2006 t2007 => zbd (mX8_setNumber (Int32.ofNat (Rg c)) r2006 r2000 t2007) fun r2009 t2010 => bX4_hear_103 (Int32.ofNat (Rg c)) (Int32.ofNat y) t2010) fun r t => z01 r (some (r, t))) = some (1, t2) := by
      rw [z1, pl_bd, zn_get w5 (by decide), pl_bd, z5 87 (by decide), r 87 (by decide) (by decide) (by decide), hk, if_pos rfl, zn_get w5 (by decide), pl_bd, z5 93 (by decide), r 93 (by decide) (by decide) (by decide), l2, zb1, pl_bd]
      unfold bX4_hear_103
      rw [o1, pl_bd]
      rfl
    have eM : bX12_act_148 (Int32.ofNat (Rg c)) (Int32.ofNat y) (Int32.ofNat b') (Int32.ofNat e) 4 0 u = some (1, u2) := by
      have th := (pl_thenOf (zTG_of hT (zTr_refl t0) ⟨fu 5 (by decide), fu 6 (by decide), fu 7 (by decide), fu 8 (by decide), fu 9 (by decide), fu 10 (by decide), fu 11 (by decide), fu 12 (by decide), fu 13 (by decide), fu0 14 (by decide), fu0 19 (by decide), fu0 22 (by decide)⟩) vY (Or.inr (Or.inr (Or.inr ke)))).2.1
      have ty := (y2.2.2.2.2 e i3).1
      unfold zTy at ty
      rw [if_neg i4] at ty
      unfold bX12_act_148
      rw [zn_rd (by omega) (by decide), u2s.1, zn_wr (by omega) (by decide), ← eS, if_neg (show ¬ (4 : Int32) = 0 by decide), if_neg (show ¬ (4 : Int32) = 1 by decide), if_neg (show ¬ (4 : Int32) = 2 by decide), if_neg (show ¬ (4 : Int32) = 3 by decide), if_pos rfl, y1, pl_bd, zn_rd (by omega) (by decide), y5 17 (by decide), rS 17 (by decide), q 17 (by decide) (by decide) (by decide), l3, zn_add, zn_wr (by omega) (by decide), ← msg, ← eB, zn_rd (by omega) (by decide), fu 16 (by decide), q 16 (by decide) (by decide) (by decide), k3, zn_rd (by omega) (by decide), rB 55 (by decide), ty, th, pl_bd, o2, pl_bd]
    rw [eC, eM]
    exact o3
