/-! ACTS: get -/
theorem pl_336 {K : Nat} {u : zS} (hK : K < 300) : ∀ (d k fu : Nat) (u1 : zS), k + d = K → u1 0 83 = Int32.ofNat K → (∀ r, ¬ r = 45 → u1 r = u r) → (∀ j, u1 45 j = if j < k then u 45 (j + 1) else u 45 j) → ∃ u2, lX12_act_336 (fu + d + 1) (Int32.ofNat k) u1 = some (1, u2) ∧ (∀ r, ¬ r = 45 → u2 r = u r) ∧ ∀ j, u2 45 j = if j < K then u 45 (j + 1) else u 45 j := by
  intro d
  induction d with
  | zero =>
    intro k fu u1 hk h83 h1 h2
    have : k = K := by omega
    subst this
    refine ⟨u1, ?_, h1, h2⟩
    show bX12_act_336 _ _ u1 = _
    unfold bX12_act_336
    rw [h83, if_pos (Int32.le_refl _)]
  | succ d ih =>
    intro k fu u1 hk h83 h1 h2
    obtain ⟨u2, z1, z2⟩ := ih (k + 1) fu (zu u1 45 k (u 45 (k + 1))) (by omega) (by rw [zu_ne1 (by decide)]; exact h83) (fun r hr => by rw [zu_row hr]; exact h1 r hr) (fun j => by
      by_cases e : j = k
      · subst e; rw [zu_same, if_pos (by omega)]
      · rw [zu_ne2 e, h2]
        by_cases c : j < k
        · rw [if_pos c, if_pos (by omega)]
        · rw [if_neg c, if_neg (by omega)])
    refine ⟨u2, ?_, z2⟩
    rw [← z1]
    show bX12_act_336 (lX12_act_336 (fu + d + 1)) _ u1 = _
    unfold bX12_act_336
    rw [h83, if_neg (fun w => by have := (zn_le (by omega) (by omega)).mp w; omega), zn_1, zn_rd (by omega) (by decide), zn_wr (by omega) (by decide), pl_let, h2, if_neg (by omega)]
theorem zI_nat {x : Int32} {b : Nat} (h0 : 0 ≤ x) (h : x ≤ Int32.ofNat b) (hb : b < 2147483648) : ∃ K, x = Int32.ofNat K ∧ K ≤ b := by
  have e := pl_nat h0
  have l := pl_le.mp h
  rw [pl_ofn hb] at l
  refine ⟨x.toNatClampNeg, ?_, by omega⟩
  apply pl_ext
  rw [pl_ofn (by omega)]
  exact e.symm
theorem zInpN {t u : zS} (h : zInp t u) : ∃ K a, t 7 9 = Int32.ofNat K ∧ u 0 83 = Int32.ofNat K ∧ K ≤ 300 ∧ t 7 8 = Int32.ofNat a ∧ a < 300 ∧ ∀ j, j < K → t 64 ((a + j) % 300) = u 45 j := by
  obtain ⟨i1, i2, i3, i4, i5, i6⟩ := h
  obtain ⟨K, k1, k2⟩ := zI_nat (b := 300) i2 i3 (by decide)
  obtain ⟨a, a1, a2⟩ := zI_nat (b := 300) i4 (Int32.le_of_lt i5) (by decide)
  have a3 : a < 300 := by
    rw [a1] at i5
    exact (zn_lt (b := 300) (by omega) (by decide)).mp i5
  refine ⟨K, a, k1, by rw [← i1]; exact k1, k2, a1, a3, fun j hj => ?_⟩
  have := i6 j (by rw [k1, pl_ofn (by omega)]; omega)
  rw [a1, show (Int32.ofNat a).toNatClampNeg = a from pl_clamp (pl_ofn (by omega))] at this
  exact this
theorem zInp_mk {t u : zS} {K a : Nat} (h1 : t 7 9 = Int32.ofNat K) (h2 : u 0 83 = Int32.ofNat K) (h3 : K ≤ 300) (h4 : t 7 8 = Int32.ofNat a) (h5 : a < 300) (h6 : ∀ j, j < K → t 64 ((a + j) % 300) = u 45 j) : zInp t u := by
  refine ⟨by rw [h1, h2], by rw [h1]; exact zn_0le (by omega), by rw [h1]; exact (zn_le (b := 300) (by omega) (by decide)).mpr h3, by rw [h4]; exact zn_0le (by omega), by rw [h4]; exact (zn_lt (b := 300) (by omega) (by decide)).mpr h5, fun j hj => ?_⟩
  rw [h4, show (Int32.ofNat a).toNatClampNeg = a from pl_clamp (pl_ofn (by omega))]
  exact h6 j (by rw [h1, pl_ofn (by omega)] at hj; omega)
theorem zActGet {G : zTxt} {f : Nat → Nat} {N M P A T Q Pa bb S F C R W V : Nat} {o : Nat → Nat × Nat} {w : Nat → Nat} {t0 u0 g : zS} {pm m c y : Nat} {Rg : Nat → Nat} {pq fp ql Y fq : Nat → Nat} {fr fd fc fk rw mem lim : Nat} {sp ac : Nat → Int32} {num H MC MR : zS} {t u : zS} (hg : zGd G f N M P A T Q Pa bb S F C R W V o w t0 u0 g) (hv : zLv t0 t) (hm : zLvM S t0 u0 u) (h : zDyn G f N Q t0 g pm m Rg pq fr fd fp sp ac num H Y ql MC MR fc fk rw fq mem lim t u) (hc : c < m) (hy : sp (Rg c) = Int32.ofNat y) (hy2 : y < 2147483648) (h16 : t 7 16 = 0 ∧ u 0 72 = 0) (hk : t0 87 y = 14) : zAo G f N Q t0 g pm m Rg t u (mX4_act (Int32.ofNat (Rg c)) (Int32.ofNat y) t) (mX12_act (Int32.ofNat (Rg c)) (Int32.ofNat y) u) := by
  obtain ⟨w1, w2, w3, w4, w5, w6, w7, w8, w9, w10, w11, w12, w13⟩ := zWho hg h hc hy hy2
  obtain ⟨n1, n2⟩ := zNq_at hg w1
  have hN := hg.1.1.2.2.2.1
  obtain ⟨s1, s2, s3⟩ := (zKd_num w8).2.2.1 hk
  rw [w6] at s2
  obtain ⟨k, k1, k2, k3⟩ := zSo_k s2 n1 (by omega)
  have r : ∀ k, 8 ≤ k → k ≤ 115 → ¬ (k = 29 ∨ k = 31 ∨ k = 51 ∨ k = 58 ∨ k = 59 ∨ k = 60 ∨ k = 62 ∨ k = 64 ∨ k = 66 ∨ k = 85) → t k = t0 k := hv.1
  have q : ∀ k, 5 ≤ k → k ≤ 39 → ¬ (k = 19 ∨ k = 20 ∨ k = 21 ∨ k = 24) → u k = u0 k := hm.1
  have u2s := hm.2.2 y w4
  obtain ⟨a1, a2, a3, a4, a5, a6, a7, a8, a9, a10, a11, a12⟩ := h
  obtain ⟨K, a, i1, i2, i3, i4, i5, i6⟩ := zInpN a12
  obtain ⟨p, ep⟩ : ∃ p, p = Rg c := ⟨_, rfl⟩
  rw [← ep] at w1 w2 w3 w11 w12 w13 n1 n2 k1 ⊢
  obtain ⟨b, b1, b2, b3, b4, b5⟩ := zAR_at (zAR_sp (p := p) (v := t0 103 y) a2) w3
  have e51 : u 51 p = Int32.ofNat b := by rw [← b1, zu_ne1 (by decide)]
  have e53 : u 53 (b + k) = H p k := by rw [← (b3 k k1).2, zu_ne1 (by decide)]
  have goC : mX4_act (Int32.ofNat p) (Int32.ofNat y) t = zbd (mX4_fetch (Int32.ofNat p) (Int32.ofNat y) t) fun r2367 t2368 => z01 r2367 (some (r2367, t2368)) := by
    unfold mX4_act
    rw [zn_get w5 (by decide), pl_bd, r 87 (by decide) (by decide) (by decide), hk]
    rfl
  have goM : mX12_act (Int32.ofNat p) (Int32.ofNat y) u = if u 0 83 = 0 then zwr (zu u 49 p (t0 103 y)) 49 2600 (Int32.ofNat p) (Int32.ofNat y) fun t4764 => zbd (mX12_ends 2 t4764) fun r4765 t4766 => z01 r4765 (some (r4765, t4766)) else zrd (zu u 49 p (t0 103 y)) 16 1600 (Int32.ofNat y) fun v4756 => zrd (zu u 49 p (t0 103 y)) 45 300 0 fun v4758 => zwr (zu u 49 p (t0 103 y)) 52 24000 (Int32.ofNat b + v4756) v4758 fun t4761 => zpt t4761 0 83 ((t4761 0 83) - 1) fun t4762 => lX12_act_336 zFU 0 t4762 := by
    unfold mX12_act bX12_act_33 bX12_act_79 bX12_act_110 bX12_act_148
    rw [zn_rd (by omega) (by decide), e51, zn_rd (by omega) (by decide), q 16 (by decide) (by decide) (by decide), k3, if_neg (zn_neg (by omega)), zn_rd (by omega) (by decide), q 16 (by decide) (by decide) (by decide), k3, zn_add, zn_rd (by omega) (by decide), e53, zn_rd (by omega) (by decide), q 14 (by decide) (by decide) (by decide), s1, if_neg (by decide), if_neg (by decide), if_neg (by decide), if_neg (by decide), if_neg (by decide), if_neg (by decide), zn_rd (by omega) (by decide), q 18 (by decide) (by decide) (by decide), s3, if_pos (by decide), zn_rd (by omega) (by decide), u2s.1, zn_wr (by omega) (by decide)]
    rfl
  by_cases z : K = 0
  · have eC : mX4_act (Int32.ofNat p) (Int32.ofNat y) t = some (0, zu t 7 16 2) := by
      rw [goC]
      unfold mX4_fetch
      rw [i1, z, if_pos (show Int32.ofNat 0 = 0 from rfl), pl_pt, pl_bd]
      rfl
    have eM : mX12_act (Int32.ofNat p) (Int32.ofNat y) u = some (0, zu u 0 72 2) := by
      rw [goM, i2, z, if_pos (show Int32.ofNat 0 = 0 from rfl), zn_wr (by omega) (by decide), zu_twice, zu_self w12]
      rfl
    rw [eC, eM]
    exact ⟨0, _, _, m, Rg, rfl, rfl, Or.inl rfl, zFa_of (fun k hk => zu_row (by omega)) (zu_ne2 (by decide)), zFb_of (fun k k1 k2 => zu_row (by omega)) (fun j j1 j2 => zu_ne2 (by omega)) (zu_ne2 (by decide)), Nat.le_refl _, fun _ _ => rfl, by rw [zu_same, zu_same], Or.inr ⟨rfl, by rw [zu_same]; decide⟩, _, _, _, _, _, _, _, _, _, _, _, _, _, _, _, _, _, _, zDyn_o ⟨a1, a2, a3, a4, a5, a6, a7, a8, a9, a10, a11, a12⟩⟩
  · have nz : ¬ Int32.ofNat K = 0 := fun w => z ((zn_inj (b := 0) (by omega) (by decide)).mp w)
    obtain ⟨v, ev⟩ : ∃ v, v = u 45 0 := ⟨_, rfl⟩
    have v64 : t 64 a = v := by
      have := i6 0 (by omega)
      rw [Nat.add_zero, Nat.mod_eq_of_lt i5] at this
      rw [this, ev]
    obtain ⟨t2, z1, z2, z3⟩ := zAC_nu (v := v) a1 w3 w2 k1
    obtain ⟨a', ea⟩ : ∃ a', a' = if a + 1 < 300 then a + 1 else 0 := ⟨_, rfl⟩
    obtain ⟨t3, e3⟩ : ∃ t3, t3 = zu (zu t2 7 8 (Int32.ofNat a')) 7 9 (Int32.ofNat (K - 1)) := ⟨_, rfl⟩
    have h3 : zAC (zNq t0) m Rg pq fr fd fp sp ac (zu num p k v) H t3 := by rw [e3]; exact zAC_of z2 (by rw [zu_row (by decide), zu_row (by decide)]) (fun r r1 r2 => by rw [zu_row (by omega), zu_row (by omega)])
    have r3 : ∀ r, ¬ (r = 7 ∨ r = 143) → t3 r = t r := fun r hr => by rw [e3, zu_row (by omega), zu_row (by omega), z3 r (by omega)]
    have on := zGoOn0 (s := y) h3 w2 w5 (by rw [r3 107 (by decide), r 107 (by decide) (by decide) (by decide)]; exact w10 (Or.inr (Or.inr hk)))
    rw [r3 103 (by decide), r 103 (by decide) (by decide) (by decide)] at on
    have eC : mX4_act (Int32.ofNat p) (Int32.ofNat y) t = some (1, zu t3 129 p (t0 103 y)) := by
      have f67 : ∀ x : Int32, x = Int32.ofNat a' → bX4_fetch_67 (Int32.ofNat p) (Int32.ofNat y) x t2 = some (1, zu t3 129 p (t0 103 y)) := fun x hx => by
        unfold bX4_fetch_67
        rw [hx, pl_pt, pl_pt, zu_ne2 (by decide), z3 7 (by decide), i1, show Int32.ofNat K - 1 = Int32.ofNat (K - 1) from zn_sub (b := 1) (by omega) (by omega), ← e3, on, pl_bd]
        rfl
      rw [goC]
      unfold mX4_fetch
      rw [i1, if_neg nz, zn_get w5 (by decide), pl_bd, r 91 (by decide) (by decide) (by decide), k2, i4, zn_get i5 (by decide), pl_bd, v64, z1, pl_bd, z3 7 (by decide), i4, zn_1]
      by_cases l : a + 1 < 300
      · rw [if_pos (show Int32.ofNat (a + 1) < 300 from (zn_lt (b := 300) (by omega) (by decide)).mpr l), f67 _ (by rw [ea, if_pos l]), pl_bd]
        rfl
      · rw [if_neg (show ¬ Int32.ofNat (a + 1) < 300 from fun w => l ((zn_lt (b := 300) (by omega) (by decide)).mp w)), f67 _ (by rw [ea, if_neg l]; rfl), pl_bd]
        rfl
    obtain ⟨ub, eb⟩ : ∃ ub, ub = zu (zu u 49 p (t0 103 y)) 52 (b + k) v := ⟨_, rfl⟩
    have rb : ∀ r, ¬ (r = 49 ∨ r = 52) → ub r = u r := fun r hr => by rw [eb, zu_row (by omega), zu_row (by omega)]
    obtain ⟨u2, y1, y2, y3⟩ := pl_336 (K := K - 1) (u := zu ub 0 83 (Int32.ofNat (K - 1))) (by omega) (K - 1) 0 (zFU - (K - 1) - 1) (zu ub 0 83 (Int32.ofNat (K - 1))) (by omega) (zu_same _ _ _ _) (fun _ _ => rfl) (fun j => by rw [if_neg (by omega)])
    rw [show zFU - (K - 1) - 1 + (K - 1) + 1 = zFU by unfold zFU; omega, show Int32.ofNat 0 = 0 from rfl] at y1
    have eM : mX12_act (Int32.ofNat p) (Int32.ofNat y) u = some (1, u2) := by
      rw [goM, i2, if_neg nz, zn_rd (by omega) (by decide), zu_ne1 (show (16 : Nat) ≠ 49 by decide), q 16 (by decide) (by decide) (by decide), k3, zn_add, show zrd (zu u 49 p (t0 103 y)) 45 300 0 = fun F => F v from by
        funext F
        rw [show zrd (zu u 49 p (t0 103 y)) 45 300 0 F = F (zu u 49 p (t0 103 y) 45 0) from zn_rd (k := 0) (by decide) (by decide), zu_ne1 (by decide), ev]]
      show (zwr (zu u 49 p (t0 103 y)) 52 24000 (Int32.ofNat (b + k)) v fun t4761 => zpt t4761 0 83 ((t4761 0 83) - 1) fun t4762 => lX12_act_336 zFU 0 t4762) = _
      rw [zn_wr (by omega) (by decide), ← eb, pl_pt, rb 0 (by decide), i2, show Int32.ofNat K - 1 = Int32.ofNat (K - 1) from zn_sub (b := 1) (by omega) (by omega), y1]
    have fu : ∀ r, ¬ (r = 0 ∨ r = 45 ∨ r = 49 ∨ r = 52) → u2 r = u r := fun r hr => by rw [y2 r (by omega), zu_row (by omega), rb r (by omega)]
    have fu0 : ∀ j, ¬ j = 83 → u2 0 j = u 0 j := fun j hj => by rw [y2 0 (by decide), zu_ne2 hj, rb 0 (by decide)]
    have ft : ∀ r, ¬ (r = 7 ∨ r = 129 ∨ r = 143) → zu t3 129 p (t0 103 y) r = t r := fun r hr => by rw [zu_row (by omega), r3 r (by omega)]
    have ft7 : ∀ j, ¬ (j = 8 ∨ j = 9) → zu t3 129 p (t0 103 y) 7 j = t 7 j := fun j hj => by rw [zu_ne1 (by decide), e3, zu_ne2 (by omega), zu_ne2 (by omega), z3 7 (by decide)]
    have st := (w9.1.1 (by rw [hk]; decide))
    have eg : g (2000 + y) = g y := by
      rcases st.1 with ⟨_, _, e⟩ | ⟨e, _⟩ | ⟨e, _⟩ | ⟨e, _⟩ | ⟨e, _⟩ | ⟨e, _⟩ | ⟨e, _⟩
      · exact e
      all_goals (rw [hk] at e; exact absurd e (by decide))
    have go := zAft hg w1 n1 (by omega) (y + 1) y (by omega) (by rw [ep]; exact w7) st.2
    rw [eg] at go
    rw [eC, eM]
    refine ⟨1, _, _, m, Rg, rfl, rfl, Or.inr rfl, zFa_of (fun k hk => ft k (by omega)) (ft7 13 (by decide)), zFb_of (fun k k1 k2 => fu k (by omega)) (fun j j1 _ => fu0 j (by omega)) (fu0 86 (by decide)), Nat.le_refl _, fun _ _ => rfl, by rw [ft7 16 (by decide), fu0 72 (by decide), h16.1, h16.2], Or.inl (ft7 16 (by decide)), pq, fr, fd, fp, zfu sp p (t0 103 y), ac, zu num p k v, H, Y, ql, MC, MR, fc, fk, rw, fq, mem, lim, zAC_sp h3, ?_, a3, ?_, ?_, a6, a7, a8, ?_, ?_, ?_, ?_⟩
    · exact zAR_of (b5 k v k1) (fun j hj => by rw [fu0 j (by omega), zu_ne1 (by decide), zu_ne1 (by decide)]) (fun r r1 r2 => by rw [y2 r (by omega), zu_row (by omega), eb])
    · exact zBC_of a4 (fun j hj => by rw [ft 59 (by decide)]) (fun k k1 k2 => ft k (by omega))
    · exact zBR_of a5 (fun j hj => fu0 j (by omega)) (fun k k1 k2 => fu k (by omega))
    · rw [ep]
      refine zOth a3.2.1 hc a9 (fun p hp => zfu_ne hp) (fun _ _ _ _ => rfl) (fun i hi => by have := (a3.1 i hi).1; have := a3.2.2.2.1; omega) (fun _ _ _ _ _ _ _ => rfl) ?_
      rw [zfu_same]
      rw [ep] at go w13
      exact zTp_go hN go w13
    · exact zMe_of a10 (ft7 14 (by decide)) (ft7 15 (by decide)) (fu0 80 (by decide)) (fu0 74 (by decide))
    · exact zCn_of a11 (Nat.le_refl _) (fun j hj => ft7 j (by omega)) (by rw [ft 60 (by decide)]) (by rw [ft 59 (by decide)]; exact ⟨rfl, rfl⟩) (ft 66 (by decide)) (fun j hj => fu0 j (by omega)) (fu 44 (by decide))
    · refine zInp_mk (K := K - 1) (a := a') (by rw [zu_ne1 (by decide), e3, zu_same]) (by rw [y2 0 (by decide), zu_same]) (by omega) (by rw [zu_ne1 (by decide), e3, zu_ne2 (by decide), zu_same]) (by rw [ea]; split <;> omega) (fun j hj => ?_)
      rw [ft 64 (by decide), y3, if_pos hj, zu_ne1 (by decide), rb 45 (by decide), ← i6 (j + 1) (by omega)]
      congr 1
      rw [ea]
      split
      · rw [show a + 1 + j = a + (j + 1) by omega]
      · have : a = 299 := by omega
        rw [this, Nat.zero_add, show 299 + (j + 1) = j + 300 by omega, Nat.add_mod_right]
