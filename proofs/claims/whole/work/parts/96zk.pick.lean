/-! ACTS: pick -/
theorem zActPick {G : zTxt} {f : Nat → Nat} {N M P A T Q Pa bb S F C R W V : Nat} {o : Nat → Nat × Nat} {w : Nat → Nat} {t0 u0 g : zS} {pm m c y : Nat} {Rg : Nat → Nat} {pq fp ql Y fq : Nat → Nat} {fr fd fc fk rw mem lim : Nat} {sp ac : Nat → Int32} {num H MC MR : zS} {t u : zS} (hg : zGd G f N M P A T Q Pa bb S F C R W V o w t0 u0 g) (hv : zLv t0 t) (hm : zLvM S t0 u0 u) (h : zDyn G f N Q t0 g pm m Rg pq fr fd fp sp ac num H Y ql MC MR fc fk rw fq mem lim t u) (hc : c < m) (hy : sp (Rg c) = Int32.ofNat y) (hy2 : y < 2147483648) (h16 : t 7 16 = 0 ∧ u 0 72 = 0) (hk : t0 87 y = 6) : zAo G f N Q t0 g pm m Rg t u (mX4_act (Int32.ofNat (Rg c)) (Int32.ofNat y) t) (mX12_act (Int32.ofNat (Rg c)) (Int32.ofNat y) u) := by
  obtain ⟨w1, w2, w3, w4, w5, w6, w7, w8, w9, w10, w11, w12, w13⟩ := zWho hg h hc hy hy2
  obtain ⟨n1, n2⟩ := zNq_at hg w1
  have hN := hg.1.1.2.2.2.1
  obtain ⟨s1, s2, s3, s4⟩ := (zKd_say w8).2.2.2.2.1 hk
  rw [w6] at s2
  have s30 := s3
  obtain ⟨v, vw, v1, v2, v3, v4⟩ := s3
  obtain ⟨k, k1, k2, k3⟩ := zSo_k s2 n1 (by omega)
  have r : ∀ k, 8 ≤ k → k ≤ 115 → ¬ (k = 29 ∨ k = 31 ∨ k = 51 ∨ k = 58 ∨ k = 59 ∨ k = 60 ∨ k = 62 ∨ k = 64 ∨ k = 66 ∨ k = 85) → t k = t0 k := hv.1
  have q : ∀ k, 5 ≤ k → k ≤ 39 → ¬ (k = 19 ∨ k = 20 ∨ k = 21 ∨ k = 24) → u k = u0 k := hm.1
  have u2s := hm.2.2 y w4
  have hd := h
  obtain ⟨a1, a2, a3, a4, a5, a6, a7, a8, a9, a10, a11, a12⟩ := h
  have a60 := a6
  obtain ⟨p1, p2, p3, p4, p5, p6, p7⟩ := a6
  have hfc := (zRw_bd p4 p2).1
  obtain ⟨st, g0⟩ := w9.1.1 (by rw [hk]; decide)
  obtain ⟨a, ya, va, ka, ra, pa, c107, rr2⟩ : ∃ a ya, zV N t0 a ∧ (zD t0).kd a = 8 ∧ g y k = Int32.ofNat a ∧ (zD t0).pt a (Int32.ofNat v) = some ya ∧ t0 107 y = zCz (zD t0) ya ∧ g (2000 + y) = zur (g y) k (zHo (zD t0) ya) := by
    rcases st with ⟨e, _⟩ | ⟨e, _⟩ | ⟨e, _⟩ | ⟨e, _⟩ | ⟨e, _⟩ | ⟨e, _⟩ | ⟨_, cc, a, ya, ⟨e1, e2⟩, e3, e4, e5, e6, e7, e8⟩
    · rcases e with e | e <;> rw [hk] at e <;> exact absurd e (by decide)
    · rw [hk] at e; exact absurd e (by decide)
    · rw [hk] at e; exact absurd e (by decide)
    · rw [hk] at e; exact absurd e (by decide)
    · rw [hk] at e; exact absurd e (by decide)
    · rw [hk] at e; exact absurd e (by decide)
    · rw [k2] at e1
      have x1 := (zn_inj (by omega) (by omega)).mp e1
      subst x1
      rw [v2] at e6
      exact ⟨a, ya, e4, e5, e3, e6, e7, e8⟩
  obtain ⟨e, i1, i2, i3, i4, i5⟩ := zEndP hN (by omega) a8 w13 k1 ra va
  obtain ⟨f1, f2, f3⟩ := zflp_lt i3
  have ke : (zD t0).kd (Y e) = 8 := by rw [← (zEq_sm i5).1]; exact ka
  have hT := zTG_live hg hm
  have vY := (p7 e i3).1
  obtain ⟨z, ez, pz⟩ : ∃ z, zEq (zD t0) ya z ∧ (zD t0).pt (Y e) (Int32.ofNat v) = some z := by
    have al := ((zEq_sm i5).2.2.2 (Or.inl ka)).2 (Int32.ofNat v)
    rw [pa] at al
    cases ep : (zD t0).pt (Y e) (Int32.ofNat v) with
    | none => rw [ep] at al; exact al.elim
    | some z => rw [ep] at al; exact ⟨z, al, rfl⟩
  have vz := zV_pt hT vY (Or.inl ke) pz
  obtain ⟨b, b1, b2, b3, b4, b5⟩ := zAR_at a2 w3
  rw [pl_sayC a1 a4 w3 w2 w5 (by rw [r 87 (by decide) (by decide) (by decide)]; exact hk) (Or.inr (Or.inr rfl)) (by rw [r 91 (by decide) (by decide) (by decide)]; exact k2) k1 i1 i3 hfc (p7 _ f1).2 p3, pl_sayM (b := b) (k := k) (e := e) (l := ql (zflp e)) (rw := rw) (kk := 5) (by omega) w5 b1 (by rw [q 16 (by decide) (by decide) (by decide)]; exact k3) (by omega) (by rw [(b3 k k1).2]; exact i1) (by omega) (by rw [q 14 (by decide) (by decide) (by decide)]; exact s1) (Or.inr (Or.inr rfl)) (a5.2.2.2.2 _ f1).2.1 a5.2.2.1 (by have := (p7 _ f1).2; omega) p3]
  by_cases full : ql (zflp e) = rw
  · rw [if_pos full, if_pos full]
    exact zWait hd h16
  · have hl : ql (zflp e) < rw := by have := (p7 _ f1).2; omega
    rw [if_neg full, if_neg full, if_pos rfl, r 93 (by decide) (by decide) (by decide), v2]
    obtain ⟨tA, z1, z2, z3, z4, z5⟩ := zAddC (v := Int32.ofNat v) a4 f1 p4 hl p3 p2
    obtain ⟨uS, eS⟩ : ∃ uS, uS = zu u 49 (Rg c) (t0 103 y) := ⟨_, rfl⟩
    have rS : ∀ r, ¬ r = 49 → uS r = u r := fun r hr => by rw [eS, zu_row hr]
    obtain ⟨uA, y1, y2, y3, y4, y5⟩ := zGivR (v := Int32.ofNat vw) (zBR_of a5 (u2 := uS) (fun j hj => by rw [rS 0 (by decide)]) (fun r r1 r2 => rS r (by omega))) i3 hfc (fun x hx => (p7 x hx).2) hl p3
    obtain ⟨H1, eH⟩ : ∃ H1, H1 = zu H (10000 + zflp e) (ql (zflp e)) (-1) := ⟨_, rfl⟩
    have lowH : ∀ p k, p < 2501 → H1 p k = H p k := fun p k hp => by rw [eH, zu_ne1 (by omega)]
    have hRl : ∀ i, i < m → Rg i < 2501 := fun i hi => by have := (a3.1 i hi).1; have := a3.2.2.2.1; omega
    have hA1 : zAC (zNq t0) m Rg pq fr fd fp sp ac num H1 tA := zAC_H (zAC_of a1 (z5 60 (by decide)) (fun k k1 k2 => z5 k (by omega))) hRl lowH
    have hR1 : zAR (zNq t0) m Rg pq fr fd fp (zfu sp (Rg c) (t0 103 y)) ac num H1 uA := zAR_H (zAR_of (zAR_sp (p := Rg c) (v := t0 103 y) a2) (fun j hj => by rw [y4 j (by omega), eS]) (fun r r1 r2 => by rw [y5 r (by omega), eS])) hRl lowH
    have ft : ∀ r, ¬ (r = 51 ∨ r = 59 ∨ r = 85 ∨ 116 ≤ r) → tA r = t r := fun r hr => z5 r (by omega)
    have fu : ∀ r, ¬ (r = 0 ∨ 46 ≤ r) → uA r = u r := fun r hr => by rw [y5 r (by omega), rS r (by omega)]
    have fu0 : ∀ j, ¬ (j = 101 ∨ j = 107) → uA 0 j = u 0 j := fun j hj => by rw [y4 j (by omega), rS 0 (by decide)]
    have hHH1 : zHH (zD t0) Y fc H1 := by rw [eH]; exact zHH_neg a8
    have hH1 : H1 (Rg c) k = Int32.ofNat e := by rw [lowH _ _ w2]; exact i1
    have wait : tA 59 9 = uA 0 101 := by
      rw [z3, y3, rS 0 (by decide), a11.2.2.2.2.1]
    have up : ∀ x' j, (if (zD t0).kd z = 0 then zu H1 (Rg c) k (-1) else H1) (10000 + x') j = H1 (10000 + x') j := fun x' j => by
      split
      · exact zu_ne1 (by omega)
      · rfl
    have bt := zBT_send (z := z) (H2 := if (zD t0).kd z = 0 then zu H1 (Rg c) k (-1) else H1) (v := Int32.ofNat v) (w' := Int32.ofNat vw) (hh := -1) hT a7 a8 i3 i2 (fun x hx => (p7 x hx).1) vz w2 i1 (Or.inr (Or.inr ke)) (fun x' j hx => by
      rw [up, eH]
      by_cases ex : x' = zflp e
      · subst ex; exact zu_ne2 (fun w => hx ⟨rfl, w⟩)
      · exact zu_ne1 (by omega)) (by rw [up, eH, zu_same]) (fun z' hz' hd' => by
      obtain ⟨d1, _, _, d4⟩ := zEq_sm hd'
      have k9 : (zD t0).kd (zflp (Y e)) = 9 := (zV_fk hT vY).2.2.2.2.2.2.mpr ke
      have al := (d4 (Or.inr k9)).2 (Int32.ofNat v)
      rw [(zD_fl t0 (Y e)).2.2.2, pz] at al
      cases ep : (zD t0).pt z' (Int32.ofNat v) with
      | none => rw [ep] at al; exact al.elim
      | some z'' =>
        rw [ep] at al
        exact ⟨z'', Or.inr (Or.inr ⟨by rw [← d1]; exact k9, ⟨v, vw, v1, rfl, rfl, v4⟩, rfl, ep⟩), al⟩)
    obtain ⟨t2, u2, o1, o2, o3⟩ := zTalkEnd (e := e) (k := k) (z := z) (y0 := ya) hg hv hm hd hc hy hy2 h16 hA1 hR1 z2 y2 ft (z4 8 (by decide)) fu fu0 wait k1 k2 hH1 i2 hHH1 (fun x hx => by
      by_cases ex : x = zflp e
      · subst ex; rw [zfu_same]; omega
      · rw [zfu_ne ex]; exact (p7 x hx).2) vz c107 (by rw [(zEq_sm ez).1]) bt (fun p' k' _ hp2 => lowH p' k' hp2) (zOut1 hHH1 hH1 i2 (fun k' hk' hne => by
        rw [rr2, show zur (g y) k (zHo (zD t0) ya) k' = g y k' by unfold zur; rw [if_neg hne], lowH _ _ w2]
        exact w13 k' hk') (by rw [rr2]; unfold zur; rw [if_pos rfl]) (zV_pt hT va (Or.inl ka) pa) ez) g0
    have eC : (zbd (zbd (mX0_add (Int32.ofNat (zflp e)) (Int32.ofNat v) t) fun r1959 t1960 => bX4_say_168 (Int32.ofNat (Rg c)) (Int32.ofNat y) t1960) fun r t => z01 r (some (r, t))) = some (1, t2) := by
      rw [z1, pl_bd]
      unfold bX4_say_168
      rw [o1, pl_bd]
      rfl
    have eM : bX12_act_110 (Int32.ofNat (Rg c)) (Int32.ofNat y) (Int32.ofNat b) (Int32.ofNat e) 5 u = some (1, u2) := by
      have th : mX12_byLabel (Int32.ofNat (zF f (Y e))) (Int32.ofNat vw) uA = some (Int32.ofNat (zF f z), uA) := by
        rcases pl_byLabelM (zTG_of hT (zTr_refl t0) ⟨fu 5 (by decide), fu 6 (by decide), fu 7 (by decide), fu 8 (by decide), fu 9 (by decide), fu 10 (by decide), fu 11 (by decide), fu 12 (by decide), fu 13 (by decide), fu0 14 (by decide), fu0 19 (by decide), fu0 22 (by decide)⟩) vY (Or.inl ke) v1 v4 with ⟨_, x⟩ | ⟨z', _, x1, x2⟩
        · rw [pz] at x; exact absurd x (by simp)
        · rw [pz] at x2
          have : z = z' := Option.some.inj x2
          rw [this]; exact x1
      have ty := (y2.2.2.2.2 e i3).1
      unfold zTy at ty
      rw [if_neg i4] at ty
      have e17 : ∀ v : zS, v 17 = u 17 → ∀ F : Int32 → zR, zrd v 17 1600 (Int32.ofNat y) F = F (Int32.ofNat vw) := fun v hv F => by rw [zn_rd (by omega) (by decide), hv, q 17 (by decide) (by decide) (by decide), v3]
      unfold bX12_act_110 bX12_act_148
      rw [zn_rd (by omega) (by decide), q 18 (by decide) (by decide) (by decide), s4, if_pos (by decide), zn_rd (by omega) (by decide), u2s.1, zn_wr (by omega) (by decide), ← eS, if_neg (show ¬ (5 : Int32) = 0 by decide), if_neg (show ¬ (5 : Int32) = 1 by decide), if_neg (show ¬ (5 : Int32) = 2 by decide), if_neg (show ¬ (5 : Int32) = 3 by decide), if_neg (show ¬ (5 : Int32) = 4 by decide), if_pos rfl, e17 uS (rS 17 (by decide)), y1, pl_bd, zn_rd (by omega) (by decide), fu 16 (by decide), q 16 (by decide) (by decide) (by decide), k3, zn_rd (by omega) (by decide), ty, e17 uA (by rw [y5 17 (by decide), rS 17 (by decide)]), th, pl_bd, o2, pl_bd]
    rw [eC, eM]
    exact o3
