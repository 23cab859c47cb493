/-! ACT become, both sides -/
theorem zHH_be {D : zCo} {Y : Nat → Nat} {fc p m : Nat} {J : Nat → Nat} {H : zS} {TE : Nat → Int32} (h : zHH D Y fc H) (hTE : ∀ i, i < m → TE i = -1 ∨ TE i = H p (J i)) (hinj : ∀ i l, i < m → l < m → 0 ≤ TE i → 0 ≤ TE l → J i = J l → i = l) : zHH D Y fc (zHn (fun r k => if r = p then -1 else H r k) p 0 TE m) := by
  have atp : ∀ b, zHn (fun r k => if r = p then -1 else H r k) p 0 TE m p b = if b < m then TE b else -1 := fun b => by
    rw [zHn_at]
    show (if 0 ≤ b ∧ b < 0 + m then TE (b - 0) else (if p = p then -1 else H p b)) = _
    rw [if_pos rfl, Nat.sub_zero, Nat.zero_add]
    by_cases c : b < m
    · rw [if_pos ⟨Nat.zero_le _, c⟩, if_pos c]
    · rw [if_neg (fun w => c w.2), if_neg c]
  have ato : ∀ a b, ¬ a = p → zHn (fun r k => if r = p then -1 else H r k) p 0 TE m a b = H a b := fun a b ha => by
    rw [zHn_row ha]
    show (if a = p then -1 else H a b) = _
    rw [if_neg ha]
  refine zHH_mv h (fun a b => if a = p then (p, J b) else (a, b)) (fun a b => ?_) (fun a b c d e p1 p2 => ?_)
  · by_cases ha : a = p
    · subst ha
      simp only [if_true]
      rw [atp]
      by_cases c : b < m
      · rw [if_pos c]; exact hTE b c
      · rw [if_neg c]; exact Or.inl rfl
    · simp only [if_neg ha]
      exact Or.inr (ato a b ha)
  · by_cases ha : a = p
    · by_cases hc : c = p
      · subst ha; subst hc
        simp only [if_true] at e
        rw [atp] at p1 p2
        by_cases l1 : b < m
        · by_cases l2 : d < m
          · rw [if_pos l1] at p1
            rw [if_pos l2] at p2
            exact ⟨rfl, hinj b d l1 l2 p1 p2 (congrArg Prod.snd e)⟩
          · rw [if_neg l2] at p2; exact absurd p2 (by decide)
        · rw [if_neg l1] at p1; exact absurd p1 (by decide)
      · simp only [if_pos ha, if_neg hc] at e
        exact absurd (congrArg Prod.fst e).symm hc
    · by_cases hc : c = p
      · simp only [if_neg ha, if_pos hc] at e
        exact absurd (congrArg Prod.fst e) ha
      · simp only [if_neg ha, if_neg hc] at e
        exact ⟨congrArg Prod.fst e, congrArg Prod.snd e⟩
theorem zActBecome {G : zTxt} {f : Nat → Nat} {N M P A T Q Pa bb S F C R W V : Nat} {o : Nat → Nat × Nat} {w : Nat → Nat} {t0 u0 g : zS} {pm m c y : Nat} {Rg : Nat → Nat} {pq fp ql Y fq : Nat → Nat} {fr fd fc fk rw mem lim : Nat} {sp ac : Nat → Int32} {num H MC MR : zS} {t u : zS} (hg : zGd G f N M P A T Q Pa bb S F C R W V o w t0 u0 g) (hv : zLv t0 t) (hm : zLvM S t0 u0 u) (h : zDyn G f N Q t0 g pm m Rg pq fr fd fp sp ac num H Y ql MC MR fc fk rw fq mem lim t u) (hc : c < m) (hy : sp (Rg c) = Int32.ofNat y) (hy2 : y < 2147483648) (h16 : t 7 16 = 0 ∧ u 0 72 = 0) (hk : t0 87 y = 9) : zAo G f N Q t0 g (pm + 1) m Rg t u (mX4_act (Int32.ofNat (Rg c)) (Int32.ofNat y) t) (mX12_act (Int32.ofNat (Rg c)) (Int32.ofNat y) u) := by
  obtain ⟨w1, w2, w3, w4, w5, w6, w7, w8, w9, w10, w11, w12, w13⟩ := zWho hg h hc hy hy2
  obtain ⟨n1, n2⟩ := zNq_at hg w1
  have hQ : Q ≤ 300 := hg.1.2.2.2.2.2.2.2.2.1
  have hN := hg.1.1.2.2.2.1
  have r0 : ∀ k, 8 ≤ k → k ≤ 115 → ¬ (k = 29 ∨ k = 31 ∨ k = 51 ∨ k = 58 ∨ k = 59 ∨ k = 60 ∨ k = 62 ∨ k = 64 ∨ k = 66 ∨ k = 85) → t k = t0 k := hv.1
  have q0 : ∀ k, 5 ≤ k → k ≤ 39 → ¬ (k = 19 ∨ k = 20 ∨ k = 21 ∨ k = 24) → u k = u0 k := hm.1
  obtain ⟨v, x, p0, b0, a, m1, sk, c1, c2, c3, c4, c5, c6, c7, c8, c9, c10, c11, c12, c13, c14, c15, c16, c17, c18, c19, c20, c21, c22, c23, c24, c25⟩ := zCallF hg hm w1 w4 w6 w8 w9 (Or.inr hk)
  have kinds : sk = 0 ∧ u0 14 y = 9 ∧ u0 16 y = -1 := by
    rcases c25 with ⟨e1, _, e3, ⟨e4, _⟩ | ⟨_, e4⟩, _⟩ | ⟨_, e4, _⟩
    · rw [hk] at e4; exact absurd e4 (by decide)
    · exact ⟨e1, e4, e3⟩
    · rw [hk] at e4; exact absurd e4 (by decide)
  obtain ⟨k1, k2, k3⟩ := kinds
  subst k1
  have goM := zCallM (S := S) (t0 := t0) (u0 := u0) (x := x) (b0 := b0) (sk := 0) (x5 := 1) hm h.2.1 w3 w2 w5 (by omega) w12 k2 (Or.inr (Or.inr ⟨rfl, rfl, rfl⟩)) (Or.inl k3) c20 c5 c8
  obtain ⟨t1, u1, f1, f2, res⟩ := zTell (t0 := t0) (u0 := u0) (tS := t) (uS := u) (m := m1) (q := pq (Rg c)) (p0 := p0) (b0 := b0) (sk := 0) (x := x) (a := a) (x4 := Int32.ofNat 0) (x5 := 1) h.1 h.2.1 w3 w2 w5 (by omega) hg.1.2.2.2.2.2.1 hg.1.2.2.2.2.2.2.1 n1 n2 (fun k hk => r0 k (by omega) (by omega) (by omega)) (fun k hk => q0 k (by omega) (by omega) (by omega)) c15 c16 c17 c18 c10 c13 (by omega) (by omega) (fun i hi => by
    rcases c23 i hi with e | ⟨x', c', e1, e2, e3, e4, e5, e6, e7⟩
    · left
      rcases c21 (0 + i) (by omega) with ⟨z1, z2⟩ | ⟨c', z1, z2, z3⟩
      · exact ⟨z1, z2⟩
      · rw [e] at z2; exact absurd (show (0 : Int32) ≤ -1 by rw [z2]; exact zn_0le (by omega)) zn_m1
    · right
      have pos : 0 ≤ t0 45 (p0 + (0 + i)) := by rw [e6]; exact zn_0le (by omega)
      refine ⟨pos, ?_, e1, e2⟩
      rcases c21 (0 + i) (by omega) with ⟨z1, z2⟩ | ⟨c'', z1, z2, z3⟩
      · rw [z1] at pos; exact absurd pos (by decide)
      · rw [z3]
        have := (zF_lt hg.1.1 (s := 2 * c'') (by omega)).2.2
        rw [show 2 * c'' / 2 = c'' by omega] at this
        exact zn_0le (by omega)) c22 m1 0 (zFU - m1 - 1) (zFU - m1 - 1) t u (by omega) (fun _ _ => rfl) ⟨fun _ _ => rfl, fun _ _ => rfl⟩ (fun i' hi' => absurd hi' (Nat.not_lt_zero _))
  rw [show zFU - m1 - 1 + m1 + 1 = zFU by unfold zFU; omega, show a + 0 = a from rfl, show Int32.ofNat 0 = 0 from rfl] at res
  rw [show Int32.ofNat 0 = 0 from rfl] at goM
  have tell : mX4_tellAll (Int32.ofNat (Rg c)) (Int32.ofNat y) (Int32.ofNat x) 0 t = lX4_tellAll_17 zFU (Int32.ofNat (Rg c)) (Int32.ofNat y) (Int32.ofNat x) 0 (Int32.ofNat a) (Int32.ofNat a) t := by
    unfold mX4_tellAll
    rw [zn_get w5 (by decide), pl_bd, r0 95 (by decide) (by decide) (by decide), c14]
  have goC : mX4_act (Int32.ofNat (Rg c)) (Int32.ofNat y) t = zbd (zbd (mX4_tellAll (Int32.ofNat (Rg c)) (Int32.ofNat y) (Int32.ofNat x) 0 t) fun r2204 t2205 => if r2204 = 0 then some (0, t2205) else zbd (mX4_cellsOf (Int32.ofNat x) t2205) fun r2207 t2208 => zbd (mX5_get 126 2501 (Int32.ofNat (Rg c)) t2208) fun r2210 t2211 => zbd (mX4_cellsOf r2210 t2211) fun r2213 t2214 => zbd (mX4_claim (r2207 - r2213) t2214) fun r2216 t2217 => if r2216 = 0 then some (0, t2217) else zbd (mX5_get 38 400 (Int32.ofNat x) t2217) fun r2219 t2220 => zbd (mX5_get 40 400 (Int32.ofNat x) t2220) fun r2222 t2223 => zbd (mX8_become (Int32.ofNat (Rg c)) (Int32.ofNat x) r2219 r2222 t2223) fun r2225 t2226 => zbd (mX4_handOver (Int32.ofNat (Rg c)) (Int32.ofNat x) 0 t2226) fun r2228 t2229 => some (1, t2229)) fun r t => z01 r (some (r, t)) := by
    unfold mX4_act mX4_become mX6_find
    rw [zn_get w5 (by decide), pl_bd, r0 87 (by decide) (by decide) (by decide), hk, zn_get w5 (by decide), pl_bd, r0 93 (by decide) (by decide) (by decide), c3, zn_get c2 (by decide), pl_bd, pl_bd, r0 33 (by decide) (by decide) (by decide), c4]
    rfl
  have d1 : zDyn G f N Q t0 g pm m Rg pq fr fd fp sp ac num H Y ql MC MR fc fk rw fq mem lim t1 u1 := zDyn_of h (fun k hk => f1 k (by omega)) (fun j _ => by rw [f1 7 (by decide)]) (fun k hk => f2.1 k (by omega)) (fun j hj => f2.2 j (by omega))
  have stop : ∀ vv : Int32, ¬ vv = 0 → zAo G f N Q t0 g (pm + 1) m Rg t u (some (0, zu t1 7 16 vv)) (some (0, zu u1 0 72 vv)) := fun vv hvv => ⟨0, _, _, m, Rg, rfl, rfl, Or.inl rfl, zFa_of (fun k hk => by rw [zu_row (by omega), f1 k (by omega)]) (by rw [zu_ne2 (by decide), f1 7 (by decide)]), zFb_of (fun k k1 k2 => by rw [zu_row (by omega), f2.1 k (by omega)]) (fun j j1 j2 => by rw [zu_ne2 (by omega), f2.2 j (by omega)]) (by rw [zu_ne2 (by decide), f2.2 86 (by decide)]), Nat.le_refl _, fun _ _ => rfl, by rw [zu_same, zu_same], Or.inr ⟨rfl, by rw [zu_same]; exact hvv⟩, _, _, _, _, _, _, _, _, _, _, _, _, _, _, _, _, _, _, zDyn_pm (zDyn_o d1) (by omega)⟩
  rw [goC, goM, tell]
  rcases res with ⟨g1, g2, told⟩ | ⟨g1, g2⟩
  · have dd := d1
    obtain ⟨a1, a2, a3, a4, a5, a6, a7, a8, a9, a10, a11, a12⟩ := dd
    obtain ⟨j1, j2, j3, j4, j5, j6, j7⟩ := zTold (H := H) (Y := Y) (p := Rg c) (T62 := t1 62) (TE := u1 60) (TN := u1 59) (fc := fc) hg w1 c18 c22 c23 w13 told
    obtain ⟨b1, s1, s2, s3⟩ := zSt31 hg hm x c1
    obtain ⟨b2, s4, s5, s6⟩ := zSt31 hg hm _ w1
    have e31 : u1 31 = u 31 := f2.1 31 (by decide)
    have e39 : t1 39 = t0 39 := by rw [f1 39 (by decide), r0 39 (by decide) (by decide) (by decide)]
    have m10 : lim ≤ 10000 ∧ mem ≤ lim := ⟨a10.2.2.2.2.1, a10.2.2.2.2.2.1⟩
    have me := a10.2.2.2.2.2.2
    have s4' := zSs_4 (f := fun i => zNq t0 (pq (Rg i))) m
    have sat := zSs_at (f := fun i => 4 + zNq t0 (pq (Rg i))) hc
    have le4 : zSs (fun i => 4 + zNq t0 (pq (Rg i))) m ≤ mem := by rw [me]; exact Nat.le_add_right _ _
    have hq4 : 4 + zNq t0 (pq (Rg c)) ≤ mem := by
      have : 4 + zNq t0 (pq (Rg c)) ≤ zSs (fun i => 4 + zNq t0 (pq (Rg i))) m := Nat.le_trans (Nat.le_add_left _ _) sat
      omega
    have cx : zCX (Int32.ofNat (Rg c)) (Int32.ofNat y) (Int32.ofNat x) 0 1 0 (Int32.ofNat b0) u1 = bX12_calls_237 (Int32.ofNat (Rg c)) (Int32.ofNat y) (Int32.ofNat x) 1 0 (-1) 0 u1 := rfl
    have sM := zCl237b (x8 := -1) (u := u1) (p := Rg c) (y := y) (x := x) (q := pq (Rg c)) (nx := zNq t0 x) (nq := zNq t0 (pq (Rg c))) (m1 := m1) (mem := mem) (lim := lim) w2 w5 (pl_own (by omega) (by rw [e31]; exact s1) (by rw [e31]; exact s2) (by omega)) (pl_own (by omega) (by rw [e31]; exact s4) (by rw [e31]; exact s5) (by omega)) (a2.2.2.2.2.1 c hc).2.1 (by rw [f2.1 20 (by decide)]; exact c17) (by omega) a10.2.1 a10.2.2.2.1 hq4
    have cells : ∀ q', q' < 300 → t0 39 q' = Int32.ofNat (zNq t0 q') → mX4_cellsOf (Int32.ofNat q') t1 = some (Int32.ofNat (4 + zNq t0 q'), t1) := fun q' h1 h2 => by
      unfold mX4_cellsOf
      rw [zn_get (by omega) (by decide), pl_bd, e39, h2, show (4 : Int32) + Int32.ofNat (zNq t0 q') = Int32.ofNat (4 + zNq t0 q') from zn_add 4 _]
    rw [g1, pl_bd, if_neg pl_10, cells x (by omega) c6, pl_bd, zn_get w2 (by decide), pl_bd, (a1.2.2.2.2.2.1 c hc).1, cells _ (by omega) n1, pl_bd, g2, cx, sM]
    unfold mX4_claim
    rw [a10.1, a10.2.2.1, zDiff hq4]
    by_cases fit : mem - (4 + zNq t0 (pq (Rg c))) + (4 + zNq t0 x) ≤ lim
    · have fit' := (zn_le (a := mem - (4 + zNq t0 (pq (Rg c))) + (4 + zNq t0 x)) (b := lim) (by omega) (by omega)).mpr fit
      rw [if_pos fit', if_pos fit', pl_pt, pl_bd, if_neg pl_10, zn_get (by omega) (by decide), pl_bd, zu_ne1 (by decide), e39, c6, zn_get (by omega) (by decide), pl_bd, zu_ne1 (by decide)]
      obtain ⟨tC, eC⟩ : ∃ tC, tC = zu t1 7 14 (Int32.ofNat (mem - (4 + zNq t0 (pq (Rg c))) + (4 + zNq t0 x))) := ⟨_, rfl⟩
      rw [← eC]
      have rC : ∀ k, ¬ (k = 7 ∨ k = 51 ∨ k = 62 ∨ k = 85) → tC k = t k := fun k hk => by rw [eC, zu_row (by omega), f1 k (by omega)]
      have rC7 : ∀ j, ¬ j = 14 → tC 7 j = t 7 j := fun j hj => by rw [eC, zu_ne2 hj, f1 7 (by decide)]
      have one := zSs_one (f := fun i => if Rg i = Rg c then 0 else zNq t0 (pq (Rg i))) (g := fun i => zNq t0 (pq (Rg i))) (i := c) m hc (fun j hj hne => by
        show (if Rg j = Rg c then 0 else zNq t0 (pq (Rg j))) = zNq t0 (pq (Rg j))
        rw [if_neg (fun w => hne (a3.2.1 j c hj hc w))])
      have one' : zSs (fun i => if Rg i = Rg c then 0 else zNq t0 (pq (Rg i))) m + zNq t0 (pq (Rg c)) = zSs (fun i => zNq t0 (pq (Rg i))) m := by
        have e : (if Rg c = Rg c then 0 else zNq t0 (pq (Rg c))) = 0 := if_pos rfl
        rw [e] at one
        exact one
      have hs : zSs (fun i => if Rg i = Rg c then 0 else zNq t0 (pq (Rg i))) m + zNq t0 x ≤ 12000 := by omega
      obtain ⟨t2, b1, b2, b3, b4⟩ := zBecAC (x := x) (blk := t1 41 x) (zAC_of a1 (t2 := tC) (by rw [eC, zu_row (by decide)]) (fun k x1 x2 => by rw [eC, zu_row (by omega)])) a3 w3 hs
      obtain ⟨u2, l1, l2, l3, l4, l5⟩ := zBecAR (x := x) (y := y) (x8 := -1) (x9 := 0) (v := Int32.ofNat (4 + zNq t0 x) - Int32.ofNat (4 + zNq t0 (pq (Rg c)))) a2 a3 w3 c1 hQ w5 (by rw [e31]; exact zSt31 hg hm) hs
      have pqp : zfu pq (Rg c) x (Rg c) = x := zfu_same
      have s29 : u1 29 x = t0 41 x := by rw [f2.1 29 (by decide), q0 29 (by decide) (by decide) (by decide)]; exact c19
      have s41 : t1 41 x = t0 41 x := by rw [f1 41 (by decide), r0 41 (by decide) (by decide) (by decide)]
      rw [s29] at l2
      rw [s41] at b2
      have rt2 : ∀ k, ¬ (k = 7 ∨ k = 51 ∨ k = 60 ∨ k = 62 ∨ k = 85 ∨ 126 ≤ k) → t2 k = t k := fun k hk => by rw [b4 k (by omega), rC k (by omega)]
      obtain ⟨t3, z1, z2, z3⟩ := zHandC (num := fun r k => if r = Rg c then 0 else num r k) (H := fun r k => if r = Rg c then -1 else H r k) (m := m1) (x := x) (sk := 0) (p0 := p0) (t0 := t0) (tS := t2) (TN := u1 59) (TE := u1 60) w3 w2 (by rw [pqp]; exact c12) (by omega) (fun k hk => by rw [rt2 k (by omega)]; exact r0 k (by omega) (by omega) (by omega)) c10 c11 c13 (by omega) (fun i hi => by rw [b4 62 (by decide), eC, zu_ne1 (by decide)]; exact j2 i hi) (fun i hi => ⟨if_pos rfl, if_pos rfl⟩) m1 0 (zFU - m1 - 1) t2 (by omega) (fun _ _ => rfl) b2
      rw [show zFU - m1 - 1 + m1 + 1 = zFU by unfold zFU; omega, show Int32.ofNat (0 + 0) = 0 from rfl] at z1
      obtain ⟨u3, z4, z5, z6⟩ := zHandR (num := fun r k => if r = Rg c then 0 else num r k) (H := fun r k => if r = Rg c then -1 else H r k) (m := m1) (y := y) (sk := 0) (uS := u2) (x1 := Int32.ofNat (Rg c)) (x8 := -1) (x9 := 0) w3 (by omega) w5 (by rw [pqp]; exact c12) (by rw [l5 20 (by decide), f2.1 20 (by decide)]; exact c17) (by omega) m1 0 (zFU - m1 - 1) u2 (by omega) (fun _ _ => rfl) l2
      rw [show zFU - m1 - 1 + m1 + 1 = zFU by unfold zFU; omega, show Int32.ofNat 0 = 0 from rfl] at z4
      rw [l5 59 (by decide), l5 60 (by decide)] at z6
      have fin : mX4_handOver (Int32.ofNat (Rg c)) (Int32.ofNat x) 0 t2 = some (0, t3) := by
        unfold mX4_handOver
        exact z1
      have finM : bX12_calls_448 (Int32.ofNat (Rg c)) (Int32.ofNat y) 0 (-1) 0 (Int32.ofNat (Rg c)) u2 = some (1, u3) := by
        unfold bX12_calls_448
        rw [z4]
        rfl
      rw [b1, pl_bd, fin, pl_bd, pl_bd, l1, finM, pl_bd]
      have rT : ∀ k, ¬ (k = 7 ∨ k = 51 ∨ k = 60 ∨ k = 62 ∨ k = 85 ∨ 126 ≤ k) → t3 k = t k := fun k hk => by rw [z2 k (by omega), rt2 k hk]
      have r7 : t3 7 = tC 7 := by rw [z2 7 (by decide), b4 7 (by decide)]
      have rT7 : ∀ j, ¬ j = 14 → t3 7 j = t 7 j := fun j hj => by rw [r7, rC7 j hj]
      have rU : ∀ k, ¬ (k = 0 ∨ (46 ≤ k ∧ k ≤ 53) ∨ (58 ≤ k ∧ k ≤ 60)) → u3 k = u k := fun k hk => by rw [z5 k (by omega), l5 k (by omega), f2.1 k (by omega)]
      have rU0 : ∀ j, ¬ (j = 80 ∨ j = 94 ∨ j = 107) → u3 0 j = u 0 j := fun j hj => by rw [z5 0 (by decide), l4 j (by omega), f2.2 j (by omega)]
      have tg := zTG_live hg hm
      have hf := (zRw_bd a6.2.2.2.1 a6.2.1).1
      obtain ⟨n3, n4⟩ := zNq_at hg c1
      have oth : ∀ p' k, ¬ p' = Rg c → zHn (fun r k => if r = Rg c then -1 else H r k) (Rg c) 0 (u1 60) m1 p' k = H p' k := fun p' k hp1 => by
        rw [zHn_row hp1]
        show (if p' = Rg c then -1 else H p' k) = _
        rw [if_neg hp1]
      refine ⟨1, _, _, m, Rg, rfl, rfl, Or.inr rfl, zFa_of (fun k hk => rT k (by omega)) (rT7 13 (by decide)), zFb_of (fun k x1 x2 => rU k (by omega)) (fun j x1 x2 => rU0 j (by omega)) (rU0 86 (by decide)), Nat.le_refl _, fun _ _ => rfl, by rw [rT7 16 (by decide), rU0 72 (by decide), h16.1, h16.2], Or.inl (rT7 16 (by decide)), _, _, _, _, _, _, _, _, _, _, _, _, _, _, _, _, mem - (4 + zNq t0 (pq (Rg c))) + (4 + zNq t0 x), lim, zDyn_pm (pm := pm) ⟨z3, z6, ⟨fun i hi => ?_, a3.2⟩, zBC_of a4 (fun j hj => by rw [rT 59 (by decide), f1 59 (by decide)]) (fun k x1 x2 => by rw [rT k (by omega), f1 k (by omega)]), zBR_of a5 (fun j hj => by rw [rU0 j (by omega), f2.2 j (by omega)]) (fun k x1 x2 => by rw [rU k (by omega), f2.1 k (by omega)]), a6, ?_, zHH_be a8 j6 j7, fun i hi => ?_, ?_, ?_, ?_⟩ (by omega)⟩
      · refine ⟨(a3.1 i hi).1, ?_⟩
        by_cases e : Rg i = Rg c
        · rw [e, pqp]; exact c1
        · rw [zfu_ne e]; exact (a3.1 i hi).2
      · intro e he ho
        have hh : ∀ e, zHn (fun r k => if r = Rg c then -1 else H r k) (Rg c) 0 (u1 60) m1 (10000 + e) = H (10000 + e) := fun e => by
          funext j
          exact oth _ j (by omega)
        rw [hh, hh]
        exact a7 e he ho
      · by_cases e : i = c
        · rw [e, pqp, zfu_same]
          refine zTp_go hN (zGo_0 hg c1 n3 (by omega) c11 c10 (by omega) (by omega)) (fun k hk => ?_)
          exact zChild tg (by omega) a8 j1 j5 (fun j => if_pos rfl) k (by omega)
        · have ne2 : ¬ Rg i = Rg c := fun w => e (a3.2.1 i c hi hc w)
          rw [zfu_ne ne2, zfu_ne ne2]
          exact zTp_Y (a9 i hi) (fun k _ => oth _ k ne2) (fun _ _ _ _ _ => rfl)
      · refine ⟨by rw [r7, eC, zu_same], ?_, by rw [rT7 15 (by decide), ← f1 7 (by decide)]; exact a10.2.2.1, by rw [rU0 74 (by decide), ← f2.2 74 (by decide)]; exact a10.2.2.2.1, m10.1, fit, ?_⟩
        · rw [z5 0 (by decide), l3, a10.2.1, zDiff hq4]
        · have one2 := zSs_one (f := fun i => 4 + zNq t0 (zfu pq (Rg c) x (Rg i))) (g := fun i => 4 + zNq t0 (pq (Rg i))) (i := c) m hc (fun j hj hne => by
            show 4 + zNq t0 (zfu pq (Rg c) x (Rg j)) = 4 + zNq t0 (pq (Rg j))
            rw [zfu_ne (fun w => hne (a3.2.1 j c hj hc w))])
          have one3 : zSs (fun i => 4 + zNq t0 (zfu pq (Rg c) x (Rg i))) m + (4 + zNq t0 (pq (Rg c))) = zSs (fun i => 4 + zNq t0 (pq (Rg i))) m + (4 + zNq t0 x) := by
            rw [pqp] at one2
            exact one2
          have g0 := Nat.zero_le ((fc - fk) * (4 + 2 * rw))
          omega
      · obtain ⟨v1, v2, v3, v4, v5, kp, v6, v7, v8, v9⟩ := a11
        refine ⟨by rw [rT7 11 (by decide), rU0 77 (by decide), ← f1 7 (by decide), ← f2.2 77 (by decide)]; exact v1, by rw [rT7 12 (by decide), rU0 78 (by decide), ← f1 7 (by decide), ← f2.2 78 (by decide)]; exact v2, ?_, by rw [rT 59 (by decide), rU0 100 (by decide), ← f1 59 (by decide), ← f2.2 100 (by decide)]; exact v4, by rw [rT 59 (by decide), rU0 101 (by decide), ← f1 59 (by decide), ← f2.2 101 (by decide)]; exact v5, kp, v6, by rw [rT7 10 (by decide), ← f1 7 (by decide)]; exact v7, by rw [rU0 81 (by decide), ← f2.2 81 (by decide)]; exact v8, by rw [rT 66 (by decide), rU 44 (by decide), ← f1 66 (by decide), ← f2.1 44 (by decide)]; exact v9⟩
        rw [z2 60 (by decide), b3, rC 60 (by decide), rU0 79 (by decide), ← f1 60 (by decide), ← f2.2 79 (by decide)]
        exact v3
      · exact zInp_of2 a12 (by rw [rT7 8 (by decide), f1 7 (by decide)]) (by rw [rT7 9 (by decide), f1 7 (by decide)]) (by rw [rT 64 (by decide), f1 64 (by decide)]) (by rw [rU0 83 (by decide), f2.2 83 (by decide)]) (by rw [rU 45 (by decide), f2.1 45 (by decide)])
    · have fit' : ¬ Int32.ofNat (mem - (4 + zNq t0 (pq (Rg c))) + (4 + zNq t0 x)) ≤ Int32.ofNat lim := fun w => fit ((zn_le (by omega) (by omega)).mp w)
      rw [if_neg fit', if_neg fit', pl_pt, pl_bd, if_pos rfl, pl_bd, pl_bd]
      exact stop 4 (by decide)
  · rw [g1, pl_bd, if_pos rfl, pl_bd, g2, pl_bd]
    exact stop 3 (by decide)
