/-! ACTS: case, all of it -/
theorem zActCase {G : zTxt} {f : Nat → Nat} {N M P A T Q Pa bb S F C R W V : Nat} {o : Nat → Nat × Nat} {w : Nat → Nat} {t0 u0 g : zS} {pm m c y : Nat} {Rg : Nat → Nat} {pq fp ql Y fq : Nat → Nat} {fr fd fc fk rw mem lim : Nat} {sp ac : Nat → Int32} {num H MC MR : zS} {t u : zS} (hg : zGd G f N M P A T Q Pa bb S F C R W V o w t0 u0 g) (hv : zLv t0 t) (hm : zLvM S t0 u0 u) (h : zDyn G f N Q t0 g pm m Rg pq fr fd fp sp ac num H Y ql MC MR fc fk rw fq mem lim t u) (hc : c < m) (hy : sp (Rg c) = Int32.ofNat y) (hy2 : y < 2147483648) (h16 : t 7 16 = 0 ∧ u 0 72 = 0) (hk : t0 87 y = 7) : zAo G f N Q t0 g pm m Rg t u (mX4_act (Int32.ofNat (Rg c)) (Int32.ofNat y) t) (mX12_act (Int32.ofNat (Rg c)) (Int32.ofNat y) u) := by
  obtain ⟨w1, w2, w3, w4, w5, w6, w7, w8, w9, w10, w11, w12, w13⟩ := zWho hg h hc hy hy2
  obtain ⟨n1, n2⟩ := zNq_at hg w1
  have hN := hg.1.1.2.2.2.1
  have hS := (zTre_x hg.1).1
  have hW := hg.1.2.2.2.2.2.2.2.2.2.2.1
  have hV := hg.1.2.2.2.2.2.2.2.2.2.2.2.1
  obtain ⟨s1, s2, s4, nb, ab, eb, nb0, lkb, u19, u20, abV, br, dsb, _⟩ := (zKd_say w8).2.2.2.2.2 hk
  rw [w6] at s2
  obtain ⟨k, k1, k2, k3⟩ := zSo_k s2 n1 (by omega)
  have r : ∀ k, 8 ≤ k → k ≤ 115 → ¬ (k = 29 ∨ k = 31 ∨ k = 51 ∨ k = 58 ∨ k = 59 ∨ k = 60 ∨ k = 62 ∨ k = 64 ∨ k = 66 ∨ k = 85) → t k = t0 k := hv.1
  have q : ∀ k, 5 ≤ k → k ≤ 39 → ¬ (k = 19 ∨ k = 20 ∨ k = 21 ∨ k = 24) → u k = u0 k := hm.1
  have u2s := hm.2.2 y w4
  have hd := h
  obtain ⟨a1, a2, a3, a4, a5, a6, a7, a8, a9, a10, a11, a12⟩ := h
  have a60 := a6
  obtain ⟨p1, p2, p3, p4, p5, p6, p7⟩ := a6
  have hfc := (zRw_bd p4 p2).1
  obtain ⟨cc, a, mb, ea, e1, e2, ra, va, ka, lka, t13, dsa, nts⟩ := w9.1.2.2.2.2 hk
  have ecc : cc = k := by rw [k2] at e1; exact ((zn_inj (by omega) (by omega)).mp e1).symm
  subst ecc
  have lkb' := zLk_P lkb (show W ≤ 1600 by omega)
  have enm : nb = mb := zLk_len (by decide) lkb' lka
  subst enm
  have eqe : ∀ j, j < nb → eb j = ea j := fun j hj => zLk_fun (by decide) lkb' lka j hj hj
  obtain ⟨e, i1, i2, i3, i4, i5⟩ := zEndP hN (by omega) a8 w13 k1 ra va
  have ke : (zD t0).kd (Y e) = 9 := by rw [← (zEq_sm i5).1]; exact ka
  have hT := zTG_live hg hm
  have vY := (p7 e i3).1
  have hBk := hT.2.2.2.2.2.2.2.2.2
  obtain ⟨b, b1, b2, b3, b4, b5⟩ := zAR_at a2 w3
  -- the class
  have chk : mX8_channel (Int32.ofNat (Rg c)) (Int32.ofNat cc) t = some (Int32.ofNat e, t) := by rw [← i1]; exact zCh_get a1.2.2.2.2.2.2 w3 w2 k1
  have emp := (zFullC a4 i3 hfc (p7 _ i3).2 p3).2
  have goC : mX4_act (Int32.ofNat (Rg c)) (Int32.ofNat y) t = if ql e = 0 then some (0, t) else zbd (zbd (mX0_remove (Int32.ofNat e) t) fun r2045 t2046 => zbd (mX9_findBranch (Int32.ofNat y) r2045 t2046) fun r2048 t2049 => zbd (mX5_get 112 1600 r2048 t2049) fun r2051 t2052 => if r2051 = 1 then zbd (mX4_close (Int32.ofNat (Rg c)) (Int32.ofNat cc) t2052) fun _ t2055 => bX4_choose_78 (Int32.ofNat (Rg c)) (Int32.ofNat y) r2048 t2055 else bX4_choose_78 (Int32.ofNat (Rg c)) (Int32.ofNat y) r2048 t2052) fun r2332 t2333 => z01 r2332 (some (r2332, t2333)) := by
    unfold mX4_act mX4_choose
    rw [zn_get w5 (by decide), pl_bd, r 87 (by decide) (by decide) (by decide), hk, zn_get w5 (by decide), pl_bd, r 91 (by decide) (by decide) (by decide), k2, chk, pl_bd, emp, pl_bd]
    by_cases z : ql e = 0
    · rw [if_pos z, if_pos z]; rfl
    · rw [if_neg z, if_neg z]; rfl
  rw [goC, pl_hearM (b := b) (k := cc) (e := e) (l := ql e) (kk := 6) (by omega) w5 b1 (by rw [q 16 (by decide) (by decide) (by decide)]; exact k3) (by omega) (by rw [(b3 cc k1).2]; exact i1) (by omega) (by rw [q 14 (by decide) (by decide) (by decide)]; exact s1) (Or.inr (Or.inr rfl)) (by rw [q 18 (by decide) (by decide) (by decide)]; exact s4) (a5.2.2.2.2 _ i3).2.1 (by have := (p7 _ i3).2; omega)]
  by_cases empty : ql e = 0
  · rw [if_pos empty, if_pos empty]
    exact zWait hd h16
  · rw [if_neg empty, if_neg empty]
    obtain ⟨ln, eln⟩ : ∃ ln, ql e = ln + 1 := ⟨ql e - 1, by omega⟩
    have hst0 : ∀ z0, zQu (zD t0) (zBk G) Y (ql e) (MC e) (MR e) (H (10000 + e)) (Y e) z0 → zNm (zBk G) (MC e 0) (MR e 0) ∧ ∃ z, (zD t0).pt (Y e) (MC e 0) = some z ∧ zQu (zD t0) (zBk G) Y (ql e - 1) (fun j => MC e (j + 1)) (fun j => MR e (j + 1)) (fun j => H (10000 + e) (j + 1)) z z0 := fun z0 hq => by
      rw [eln] at hq
      rw [show ql e - 1 = ln by omega]
      rcases hq with ⟨q1, _⟩ | ⟨q1, _⟩ | ⟨_, q2, _, z, q4, q5⟩
      · rw [ke] at q1; exact absurd q1 (by decide)
      · rw [ke] at q1; exact absurd q1 (by decide)
      · exact ⟨q2, z, q4, q5⟩
    obtain ⟨nm, z, pz⟩ : zNm (zBk G) (MC e 0) (MR e 0) ∧ ∃ z, (zD t0).pt (Y e) (MC e 0) = some z := by
      obtain ⟨z0, z', q1, _⟩ := a7 e i3 (Or.inl i4)
      obtain ⟨x1, z, x2, _⟩ := hst0 z0 q1
      exact ⟨x1, z, x2⟩
    have hstep : ∀ z0, zQu (zD t0) (zBk G) Y (ql e) (MC e) (MR e) (H (10000 + e)) (Y e) z0 → zQu (zD t0) (zBk G) Y (ql e - 1) (fun j => MC e (j + 1)) (fun j => MR e (j + 1)) (fun j => H (10000 + e) (j + 1)) z z0 := fun z0 hq => by
      obtain ⟨_, z1, x2, x3⟩ := hst0 z0 hq
      rw [pz] at x2
      have : z = z1 := Option.some.inj x2
      rw [this]; exact x3
    have vz := zV_pt hT vY (Or.inr ke) pz
    -- the LABEL is one of the BLOCKS'
    obtain ⟨ya0, pa0, ez0⟩ : ∃ ya, (zD t0).pt a (MC e 0) = some ya ∧ zEq (zD t0) ya z := by
      have al := ((zEq_sm i5).2.2.2 (Or.inr ka)).2 (MC e 0)
      rw [pz] at al
      cases ep : (zD t0).pt a (MC e 0) with
      | none => rw [ep] at al; exact al.elim
      | some ya => rw [ep] at al; exact ⟨ya, rfl, al⟩
    obtain ⟨j0, j1, j2⟩ : ∃ j0, j0 < nb ∧ t0 109 (ea j0) = MC e 0 := by
      obtain ⟨nl, al, el, l0, l1, l2, l3, _, _, _, _, _, dsl, l4, _⟩ := zV_lab hT va (Or.inr ka)
      have enl : nl = nb := by
        rw [t13] at l3
        have hnb : nb ≤ 1600 := by
          have hu := abV
          omega
        exact ((zn_inj (by omega) (by omega)).mp l3).symm
      subst enl
      have idx : ∀ lab, ¬ (zD t0).pt a lab = none → ∃ i, i < nl ∧ t0 15 (el i) = lab := fun lab hne => by
        apply Classical.byContradiction
        intro hn
        exact hne ((l4 lab).mpr (fun i hi w => hn ⟨i, hi, w⟩))
      have ex : ∀ j, j < nl → ∃ i, i < nl ∧ t0 15 (el i) = t0 109 (ea j) := fun j hj => idx _ (by
        obtain ⟨yy, y1, _⟩ := nts j hj
        rw [y1]; simp)
      obtain ⟨FF, hFF⟩ : ∃ FF : Nat → Nat, ∀ j, j < nl → FF j < nl ∧ t0 15 (el (FF j)) = t0 109 (ea j) := by
        refine ⟨fun j => if h : j < nl then Classical.choose (ex j h) else 0, fun j hj => ?_⟩
        simp only [dif_pos hj]
        exact Classical.choose_spec (ex j hj)
      obtain ⟨i, x1, x2⟩ := idx (MC e 0) (by rw [pa0]; simp)
      obtain ⟨j, x3, x4⟩ := zSurj (fun j hj => (hFF j hj).1) (fun x j hx hj hw => by
        have y1 := (hFF x hx).2
        have y2 := (hFF j hj).2
        rw [hw, y2] at y1
        rcases Nat.lt_or_ge x j with l | l
        · exact absurd y1.symm (dsa x j l hj)
        · by_cases e : x = j
          · exact e
          · exact absurd y1 (dsa j x (by omega) hx)) x1
      refine ⟨j, x3, ?_⟩
      rw [← (hFF j x3).2, x4, x2]
    have first : ∀ j, j < j0 → ¬ t0 109 (ea j) = MC e 0 := fun j hj hw => dsa j j0 hj j1 (by rw [hw, j2])
    obtain ⟨ya, py, c113, brj⟩ := nts j0 j1
    have eya : ya = ya0 := by
      rw [j2, pa0] at py
      exact (Option.some.inj py).symm
    subst eya
    obtain ⟨B0, eB0⟩ : ∃ B0, B0 = ea j0 := ⟨_, rfl⟩
    rw [← eB0] at c113 brj j2
    have lB0 : B0 < 1600 := by rw [eB0]; exact (lka.2 j0 j1).1
    obtain ⟨sa, esa⟩ : ∃ sa, sa = if t0 111 B0 = -1 then t0 103 y else t0 111 B0 := ⟨_, rfl⟩
    -- the message is taken
    obtain ⟨tA, z1, z2, z3, z4, z5⟩ := zRemC a4 i3 p4 (p7 _ i3).2 empty p3 p2
    have rA : ∀ k, 8 ≤ k → k ≤ 115 → ¬ (k = 29 ∨ k = 31 ∨ k = 51 ∨ k = 58 ∨ k = 59 ∨ k = 60 ∨ k = 62 ∨ k = 64 ∨ k = 66 ∨ k = 85) → tA k = t0 k := fun k k1 k2 k3 => by rw [z5 k (by omega)]; exact r k k1 k2 k3
    obtain ⟨uS, eS⟩ : ∃ uS, uS = zu u 49 (Rg c) (t0 103 y) := ⟨_, rfl⟩
    have rS : ∀ r, ¬ r = 49 → uS r = u r := fun r hr => by rw [eS, zu_row hr]
    obtain ⟨uA, y1, y2, y3, y4, y5⟩ := zTakR (zBR_of a5 (u2 := uS) (fun j hj => by rw [rS 0 (by decide)]) (fun r r1 r2 => rS r (by omega))) i3 hfc (fun x hx => (p7 x hx).2) empty p3
    have hRA : zAR (zNq t0) m Rg pq fr fd fp (zfu sp (Rg c) (t0 103 y)) ac num H uA := zAR_of (zAR_sp (p := Rg c) (v := t0 103 y) a2) (fun j hj => by rw [y4 j (by omega), eS]) (fun r r1 r2 => by rw [y5 r (by omega), eS])
    obtain ⟨uB, eB⟩ : ∃ uB, uB = zu uA 49 (Rg c) sa := ⟨_, rfl⟩
    have rB : ∀ r, ¬ r = 49 → uB r = uA r := fun r hr => by rw [eB, zu_row hr]
    obtain ⟨H1, eH⟩ : ∃ H1, H1 = zshf H (10000 + e) := ⟨_, rfl⟩
    have lowH : ∀ p k, p < 2501 → H1 p k = H p k := fun p k hp => by rw [eH, zshf_ne (by omega)]
    have hRl : ∀ i, i < m → Rg i < 2501 := fun i hi => by have := (a3.1 i hi).1; have := a3.2.2.2.1; omega
    have hA1 : zAC (zNq t0) m Rg pq fr fd fp sp ac num H1 tA := zAC_H (zAC_of a1 (z5 60 (by decide)) (fun k k1 k2 => z5 k (by omega))) hRl lowH
    have hR1 : zAR (zNq t0) m Rg pq fr fd fp (zfu sp (Rg c) sa) ac num H1 uB := by
      have := zAR_sp (p := Rg c) (v := sa) hRA
      rw [show zfu (zfu sp (Rg c) (t0 103 y)) (Rg c) sa = zfu sp (Rg c) sa by
        funext x
        by_cases ex : x = Rg c
        · rw [ex, zfu_same, zfu_same]
        · rw [zfu_ne ex, zfu_ne ex, zfu_ne ex]] at this
      rw [eB]
      exact zAR_H this hRl lowH
    have ft : ∀ r, ¬ (r = 51 ∨ r = 59 ∨ r = 85 ∨ 116 ≤ r) → tA r = t r := fun r hr => z5 r (by omega)
    have fu : ∀ r, ¬ (r = 0 ∨ 46 ≤ r) → uB r = u r := fun r hr => by rw [rB r (by omega), y5 r (by omega), rS r (by omega)]
    have fu0 : ∀ j, ¬ (j = 101 ∨ j = 107) → uB 0 j = u 0 j := fun j hj => by rw [rB 0 (by decide), y4 j (by omega), rS 0 (by decide)]
    have hHH1 : zHH (zD t0) Y fc H1 := by rw [eH]; exact zHH_shf a8
    have hH1 : H1 (Rg c) cc = Int32.ofNat e := by rw [lowH _ _ w2]; exact i1
    have wait : tA 59 9 = uB 0 101 := by
      rw [z3, rB 0 (by decide), y3, rS 0 (by decide), a11.2.2.2.2.1]
    have up : ∀ x' j, (if (zD t0).kd z = 0 then zu H1 (Rg c) cc (-1) else H1) (10000 + x') j = H1 (10000 + x') j := fun x' j => by
      split
      · exact zu_ne1 (by omega)
      · rfl
    have bt := zBT_recv (z := z) (H2 := if (zD t0).kd z = 0 then zu H1 (Rg c) cc (-1) else H1) hT a7 a8 i3 i2 (fun x hx => (p7 x hx).1) vz w2 i1 i4 empty (fun x' j => by
      rw [up, eH]
      by_cases ex : x' = e
      · subst ex; rw [if_pos rfl, zshf_e]
      · rw [if_neg ex, zshf_ne (by omega)]) hstep
    have kdz : (zD t0).kd ya = (zD t0).kd z := (zEq_sm ez0).1
    -- the class's end
    obtain ⟨tC, q1, q2, q3, q4, q5, q6, q7, q8⟩ := zClsC (y := z) (e := e) (x := t0 113 B0) (kc := fun t => bX4_choose_78 (Int32.ofNat (Rg c)) (Int32.ofNat y) (Int32.ofNat B0) t) hA1 z2 w3 w2 k1 hH1 i3 hfc (by omega) (fun _ _ => zFree_lt a60 i3 i4) i4 (by
      rw [c113, ← kdz]
      unfold zCz
      by_cases x : (zD t0).kd ya = 0
      · rw [if_pos x]; exact ⟨fun _ => x, fun _ => rfl⟩
      · rw [if_neg x]; exact ⟨fun w => absurd w (by decide), fun w => absurd w x⟩)
    have blk : t0 111 B0 = -1 ∨ ∃ r, t0 111 B0 = Int32.ofNat r ∧ r < 2147483648 := by
      have := zBl_k hS (br j0 j1).2.1
      rw [eqe j0 j1, ← eB0] at this
      exact this
    have rC : ∀ k, 8 ≤ k → k ≤ 115 → ¬ (k = 29 ∨ k = 31 ∨ k = 51 ∨ k = 58 ∨ k = 59 ∨ k = 60 ∨ k = 62 ∨ k = 64 ∨ k = 66 ∨ k = 85) → tC k = t0 k := fun k k1 k2 k3 => by rw [q8 k (by omega)]; exact rA k k1 k2 k3
    have c78 : bX4_choose_78 (Int32.ofNat (Rg c)) (Int32.ofNat y) (Int32.ofNat B0) tC = some (1, zu tC 129 (Rg c) sa) := by
      unfold bX4_choose_78
      rw [zEnt_if w5 lB0 (by rw [rC 87 (by decide) (by decide) (by decide), hk]; decide) (by rw [rC 111 (by decide) (by decide) (by decide)]; exact blk), pl_bd, zn_set w2 (by decide), pl_bd, rC 111 (by decide) (by decide) (by decide), rC 103 (by decide) (by decide) (by decide), ← esa]
    have eC : (zbd (zbd (mX0_remove (Int32.ofNat e) t) fun r2045 t2046 => zbd (mX9_findBranch (Int32.ofNat y) r2045 t2046) fun r2048 t2049 => zbd (mX5_get 112 1600 r2048 t2049) fun r2051 t2052 => if r2051 = 1 then zbd (mX4_close (Int32.ofNat (Rg c)) (Int32.ofNat cc) t2052) fun _ t2055 => bX4_choose_78 (Int32.ofNat (Rg c)) (Int32.ofNat y) r2048 t2055 else bX4_choose_78 (Int32.ofNat (Rg c)) (Int32.ofNat y) r2048 t2052) fun r2332 t2333 => z01 r2332 (some (r2332, t2333))) = some (1, zu tC 129 (Rg c) sa) := by
      have fnd : mX9_findBranch (Int32.ofNat y) (MC e 0) tA = some (Int32.ofNat B0, tA) := by
        unfold mX9_findBranch
        have hd0 := lka.1
        rw [if_neg (by omega)] at hd0
        rw [zn_get w5 (by decide), pl_bd, rA 105 (by decide) (by decide) (by decide), hd0]
        have := pl_find (t := tA) (lab := MC e 0) (e := ea) (n := nb) (h := t0 105 y) (j0 := j0) (by rw [rA 115 (by decide) (by decide) (by decide)]; exact lka) (by omega) j1 (by rw [rA 109 (by decide) (by decide) (by decide), ← eB0]; exact j2) (fun j hj => by rw [rA 109 (by decide) (by decide) (by decide)]; exact first j hj) j0 0 (zFU - j0 - 1) (by omega)
        rw [show zFU - j0 - 1 + j0 + 1 = zFU by unfold zFU; omega, show Int32.ofNat 0 = 0 from rfl, ← eB0] at this
        exact this
      rw [z1, pl_bd, fnd, pl_bd, zn_get lB0 (by decide), pl_bd, rA 113 (by decide) (by decide) (by decide)]
      have q1' : (if t0 113 B0 = 1 then zbd (mX4_close (Int32.ofNat (Rg c)) (Int32.ofNat cc) tA) fun _ t2055 => bX4_choose_78 (Int32.ofNat (Rg c)) (Int32.ofNat y) (Int32.ofNat B0) t2055 else bX4_choose_78 (Int32.ofNat (Rg c)) (Int32.ofNat y) (Int32.ofNat B0) tA) = bX4_choose_78 (Int32.ofNat (Rg c)) (Int32.ofNat y) (Int32.ofNat B0) tC := q1
      rw [q1', c78, pl_bd]
      rfl
    -- where one goes on
    have hgo : zGoA N (zNq t0 (pq (Rg c))) (pq (Rg c)) t0 g sa (zur (g y) cc (zHo (zD t0) ya)) := by
      rw [esa]
      exact zGo_br hg w1 n1 (by omega) w7 ⟨Or.inl hk, nb, ea, j0, lka, j1, eB0.symm⟩ brj
    obtain ⟨u2, o2, o3⟩ := zTalkFin (e := e) (k := cc) (z := z) (t1 := tA) (t2 := zu tC 129 (Rg c) sa) (sa := sa) (r2 := zur (g y) cc (zHo (zD t0) ya)) hg hv hm hd hc hy hy2 h16 hR1 z2.2.2.1 (zAC_sp q2) (zBC_of q3 (fun j hj => zu_ne1 (by decide)) (fun k k1 k2 => zu_row (by omega))) (by rw [zu_ne1 (by decide)]; exact q4) (by rw [zu_ne1 (by decide)]; exact q5) (by rw [zu_ne1 (by decide)]; exact q6) (fun j hj => by rw [zu_ne1 (by decide)]; exact q7 j hj) (fun k hk => by rw [zu_row (by omega)]; exact q8 k (by omega)) (zBR_of y2 (fun j hj => by rw [rB 0 (by decide)]) (fun r r1 r2 => rB r (by omega))) ft (z4 8 (by decide)) fu fu0 wait k1 hH1 i2 hHH1 (fun x hx => by
      have := (p7 x hx).2
      by_cases ex : x = e
      · subst ex; rw [zfu_same]; omega
      · rw [zfu_ne ex]; exact this) vz bt (fun p' k' _ hp2 => lowH p' k' hp2) (zOut1 hHH1 hH1 i2 (fun k' hk' hne => by
        rw [show zur (g y) cc (zHo (zD t0) ya) k' = g y k' by unfold zur; rw [if_neg hne], lowH _ _ w2]
        exact w13 k' hk') (by unfold zur; rw [if_pos rfl]) (zV_pt hT va (Or.inr ka) pa0) ez0) hgo
    have eM : bX12_act_148 (Int32.ofNat (Rg c)) (Int32.ofNat y) (Int32.ofNat b) (Int32.ofNat e) 6 0 u = some (1, u2) := by
      obtain ⟨v, vw, v1, v2, v3, v4⟩ := nm
      have th : mX12_byLabel (Int32.ofNat (zF f (Y e))) (MR e 0) uB = some (Int32.ofNat (zF f z), uB) := by
        rw [v3]
        rcases pl_byLabelM (zTG_of hT (zTr_refl t0) ⟨fu 5 (by decide), fu 6 (by decide), fu 7 (by decide), fu 8 (by decide), fu 9 (by decide), fu 10 (by decide), fu 11 (by decide), fu 12 (by decide), fu 13 (by decide), fu0 14 (by decide), fu0 19 (by decide), fu0 22 (by decide)⟩) vY (Or.inr ke) v1 v4 with ⟨_, x⟩ | ⟨z', _, x1, x2⟩
        · rw [v2] at pz; rw [pz] at x; exact absurd x (by simp)
        · rw [v2] at pz; rw [pz] at x2
          have : z = z' := Option.some.inj x2
          rw [this]; exact x1
      have ty := (y2.2.2.2.2 e i3).1
      unfold zTy at ty
      rw [if_neg i4] at ty
      have lp := pl_612 (p := Rg c) (y := y) (e := e) (a := ab) (n := nb) (j0 := j0) (id := MR e 0) (by omega) w5 (by omega) j1 nb 0 (zFU - nb - 1) uA (by omega) (by rw [y5 19 (by decide), rS 19 (by decide), (u2s.2.2.1 (by rw [s1]; decide)).1]; exact u19) (by rw [y5 20 (by decide), rS 20 (by decide), (u2s.2.2.1 (by rw [s1]; decide)).2]; exact u20) (fun l hl => by
        rw [y5 23 (by decide), rS 23 (by decide), q 23 (by decide) (by decide) (by decide)]
        have e1 := zNm_eq hBk (br l hl).1 (⟨v, vw, v1, v2, v3, v4⟩ : zNm (zBk G) (MC e 0) (MR e 0))
        rw [← e1, eqe l hl]
        constructor
        · intro hw
          rcases Nat.lt_or_ge l j0 with l1 | l1
          · exact absurd hw (first l l1)
          · by_cases el : l = j0
            · exact el
            · rw [eB0] at j2
              exact absurd (j2.trans hw.symm) (dsa j0 l (by omega) hl)
        · intro hw
          rw [hw, ← eB0]; exact j2)
      rw [show zFU - nb - 1 + nb + 1 = zFU by unfold zFU; omega, Nat.add_zero, if_pos (Nat.zero_le _)] at lp
      have e24 : uA 24 (ab + j0) = sa := by
        rw [y5 24 (by decide), rS 24 (by decide), (u2s.2.2.2 s1) ab nb u19 u20 (by omega) j0 j1, zBl_q w5 hS (br j0 j1).2.1, eqe j0 j1, ← eB0, esa]
      rw [e24, ← eB] at lp
      unfold bX12_act_148
      rw [zn_rd (by omega) (by decide), u2s.1, zn_wr (by omega) (by decide), ← eS, if_neg (show ¬ (6 : Int32) = 0 by decide), if_neg (show ¬ (6 : Int32) = 1 by decide), if_neg (show ¬ (6 : Int32) = 2 by decide), if_neg (show ¬ (6 : Int32) = 3 by decide), if_neg (show ¬ (6 : Int32) = 4 by decide), if_neg (show ¬ (6 : Int32) = 5 by decide), if_pos rfl, y1, pl_bd, zn_rd (by omega) (by decide), y5 19 (by decide), rS 19 (by decide), (u2s.2.2.1 (by rw [s1]; decide)).1, u19, lp]
      unfold zCE
      rw [zn_rd (by omega) (by decide), fu 16 (by decide), q 16 (by decide) (by decide) (by decide), k3, zn_rd (by omega) (by decide), rB 55 (by decide), ty, th, pl_bd, o2, pl_bd]
    rw [eC, eM]
    exact o3
