/-! ACTS: put, if, while -/
/-- an ACT that begins with an EXPRESSION and has no first NAME -/
theorem zActE {G : zTxt} {f : Nat → Nat} {N M P A T Q Pa bb S F C R W V : Nat} {o : Nat → Nat × Nat} {w : Nat → Nat} {t0 u0 g : zS} {pm m c y : Nat} {Rg : Nat → Nat} {pq fp ql Y fq : Nat → Nat} {fr fd fc fk rw mem lim : Nat} {sp ac : Nat → Int32} {num H MC MR : zS} {t u : zS} {kk : Int32} (hg : zGd G f N M P A T Q Pa bb S F C R W V o w t0 u0 g) (hv : zLv t0 t) (hm : zLvM S t0 u0 u) (h : zDyn G f N Q t0 g pm m Rg pq fr fd fp sp ac num H Y ql MC MR fc fk rw fq mem lim t u) (hc : c < m) (hy : sp (Rg c) = Int32.ofNat y) (hy2 : y < 2147483648) (h16 : t 7 16 = 0 ∧ u 0 72 = 0) (h14 : u0 14 y = kk) (hkk : kk = 12 ∨ kk = 10 ∨ kk = 11) (h16' : u0 16 y = -1) (hf : zFm t0 u0 (o y).2 F C (t0 95 y) (t0 97 y) (u0 18 y)) (k : zS → zR)
    (hC : mX4_act (Int32.ofNat (Rg c)) (Int32.ofNat y) t = zbd (zbd (mX4_work (Int32.ofNat (Rg c)) (t0 95 y) (t0 97 y) t) fun r t2 => if r = 0 then some (0, t2) else k t2) fun r t2 => z01 r (some (r, t2)))
    (hnext : ∀ t1 u1, zFwC t t1 → zFv u u1 → zAo G f N Q t0 g (pm + 1) m Rg t u (zbd (k t1) fun r t2 => z01 r (some (r, t2))) (zrd u1 51 2600 (Int32.ofNat (Rg c)) fun b => bX12_act_148 (Int32.ofNat (Rg c)) (Int32.ofNat y) b (-1) kk (t1 51 8) u1)) : zAo G f N Q t0 g (pm + 1) m Rg t u (mX4_act (Int32.ofNat (Rg c)) (Int32.ofNat y) t) (mX12_act (Int32.ofNat (Rg c)) (Int32.ofNat y) u) := by
  obtain ⟨w1, w2, w3, w4, w5, w6, w7, w8, w9, w10, w11, w12, w13⟩ := zWho hg h hc hy hy2
  obtain ⟨n1, n2⟩ := zNq_at hg w1
  rw [w6] at hf
  have hF := hg.1.2.2.2.2.2.1
  have hC' := hg.1.2.2.2.2.2.2.1
  have r : ∀ k, 8 ≤ k → k ≤ 115 → ¬ (k = 29 ∨ k = 31 ∨ k = 51 ∨ k = 58 ∨ k = 59 ∨ k = 60 ∨ k = 62 ∨ k = 64 ∨ k = 66 ∨ k = 85) → t k = t0 k := hv.1
  have q : ∀ k, 5 ≤ k → k ≤ 39 → ¬ (k = 19 ∨ k = 20 ∨ k = 21 ∨ k = 24) → u k = u0 k := hm.1
  obtain ⟨t1, u1, f1, f2, res⟩ := zExp (q := pq (Rg c)) h.1 h.2.1 w3 w2 (r 75 (by decide) (by decide) (by decide)) (r 77 (by decide) (by decide) (by decide)) (q 27 (by decide) (by decide) (by decide)) n1 (by omega) hF hC' hf
  have d1 := zDyn_w h f1 f2
  have cx : ∃ cc, u0 18 y = Int32.ofNat cc ∧ cc < 8000 := by
    obtain ⟨_, _, cc, c2, _, _, _, x3, _, _, x6, _, _, x9, _⟩ := hf
    have := (zSg_up _ _ _ _ _ _ x9).1
    exact ⟨cc, x3, by omega⟩
  obtain ⟨cc, x1, x2⟩ := cx
  obtain ⟨b, b1, b2, _⟩ := zAR_at h.2.1 w3
  have goM : mX12_act (Int32.ofNat (Rg c)) (Int32.ofNat y) u = zbd (mX12_worth (Int32.ofNat (Rg c)) (u0 18 y) u) fun r4778 t4779 => if (t4779 0 107) = 0 then bX12_act_148 (Int32.ofNat (Rg c)) (Int32.ofNat y) (Int32.ofNat b) (-1) kk r4778 t4779 else zbd (mX12_ends 3 t4779) fun r4781 t4782 => z01 r4781 (some (r4781, t4782)) := by
    unfold mX12_act bX12_act_33 bX12_act_79 bX12_act_110
    rw [zn_rd (by omega) (by decide), b1, zn_rd (by omega) (by decide), q 16 (by decide) (by decide) (by decide), h16', if_pos (by decide), zn_rd (by omega) (by decide), q 14 (by decide) (by decide) (by decide), h14, zn_rd (by omega) (by decide), q 18 (by decide) (by decide) (by decide), x1, if_neg (zn_neg (by omega)), zn_rd (by omega) (by decide), q 18 (by decide) (by decide) (by decide), x1]
    rcases hkk with e | e | e <;> rw [e] <;> rfl
  rcases res with ⟨g1, g2, g3⟩ | ⟨g1, ⟨v, g2⟩, g3⟩
  · have := hnext t1 u1 f1 f2
    rw [zn_rd (by omega) (by decide), show u1 51 (Rg c) = Int32.ofNat b by rw [f2.1 51 (by decide)]; exact b1] at this
    rw [hC, goM, g1, pl_bd, if_neg pl_10, g2, pl_bd, if_pos g3]
    exact this
  · have eC : mX4_act (Int32.ofNat (Rg c)) (Int32.ofNat y) t = some (0, zu t1 7 16 3) := by
      rw [hC, g1, pl_bd, if_pos rfl, pl_bd]
      rfl
    have eM : mX12_act (Int32.ofNat (Rg c)) (Int32.ofNat y) u = some (0, zu u1 0 72 3) := by
      rw [goM, g2, pl_bd, if_neg (by rw [g3]; decide)]
      rfl
    rw [eC, eM]
    exact ⟨0, _, _, m, Rg, rfl, rfl, Or.inl rfl, zFa_of (fun k hk => by rw [zu_row (by omega), f1.1 k (by omega)]) (by rw [zu_ne2 (by decide), f1.1 7 (by decide)]), zFb_of (fun k k1 k2 => by rw [zu_row (by omega), f2.1 k (by omega)]) (fun j j1 j2 => by rw [zu_ne2 (by omega), f2.2 j (by omega)]) (by rw [zu_ne2 (by decide), f2.2 86 (by decide)]), Nat.le_refl _, fun _ _ => rfl, by rw [zu_same, zu_same], Or.inr ⟨rfl, by rw [zu_same]; decide⟩, _, _, _, _, _, _, _, _, _, _, _, _, _, _, _, _, _, _, zDyn_pm (zDyn_o d1) (by omega)⟩
theorem zActPut {G : zTxt} {f : Nat → Nat} {N M P A T Q Pa bb S F C R W V : Nat} {o : Nat → Nat × Nat} {w : Nat → Nat} {t0 u0 g : zS} {pm m c y : Nat} {Rg : Nat → Nat} {pq fp ql Y fq : Nat → Nat} {fr fd fc fk rw mem lim : Nat} {sp ac : Nat → Int32} {num H MC MR : zS} {t u : zS} (hg : zGd G f N M P A T Q Pa bb S F C R W V o w t0 u0 g) (hv : zLv t0 t) (hm : zLvM S t0 u0 u) (h : zDyn G f N Q t0 g pm m Rg pq fr fd fp sp ac num H Y ql MC MR fc fk rw fq mem lim t u) (hc : c < m) (hy : sp (Rg c) = Int32.ofNat y) (hy2 : y < 2147483648) (hpm : pm < 2000000000) (h16 : t 7 16 = 0 ∧ u 0 72 = 0) (hk : t0 87 y = 13) : zAo G f N Q t0 g (pm + 1) m Rg t u (mX4_act (Int32.ofNat (Rg c)) (Int32.ofNat y) t) (mX12_act (Int32.ofNat (Rg c)) (Int32.ofNat y) u) := by
  obtain ⟨w1, w2, w3, w4, w5, w6, w7, w8, w9, w10, w11, w12, w13⟩ := zWho hg h hc hy hy2
  obtain ⟨n1, n2⟩ := zNq_at hg w1
  obtain ⟨s1, s2, s3⟩ := (zKd_num w8).2.1 hk
  have r : ∀ k, 8 ≤ k → k ≤ 115 → ¬ (k = 29 ∨ k = 31 ∨ k = 51 ∨ k = 58 ∨ k = 59 ∨ k = 60 ∨ k = 62 ∨ k = 64 ∨ k = 66 ∨ k = 85) → t k = t0 k := hv.1
  have u2s := hm.2.2 y w4
  refine zActE hg hv hm h hc hy hy2 h16 s1 (Or.inl rfl) s2 s3 (fun t2259 => zbd (mX5_set 65 500 (t2259 7 10) (t2259 51 8) t2259) fun r2261 t2262 => zpt t2262 7 10 ((t2262 7 10) + 1) fun t2264 => zbd (mX4_goOn (Int32.ofNat (Rg c)) (Int32.ofNat y) t2264) fun r2265 t2266 => z01 r2265 (some (r2265, t2266))) ?_ (fun t1 u1 f1 f2 => ?_)
  · unfold mX4_act mX4_show
    rw [zn_get w5 (by decide), pl_bd, r 87 (by decide) (by decide) (by decide), hk, zn_get w5 (by decide), pl_bd, zn_get w5 (by decide), pl_bd, r 95 (by decide) (by decide) (by decide), r 97 (by decide) (by decide) (by decide)]
    rfl
  · have d1 := zDyn_w h f1 f2
    obtain ⟨a1, a2, a3, a4, a5, a6, a7, a8, a9, a10, a11, a12⟩ := d1
    obtain ⟨b1, b2, b3, b4, b5, kp, b6, b7, b8, b9⟩ := a11
    obtain ⟨b, e51, _⟩ := zAR_at a2 w3
    have rr : ∀ k, 8 ≤ k → k ≤ 115 → ¬ (k = 29 ∨ k = 31 ∨ k = 51 ∨ k = 58 ∨ k = 59 ∨ k = 60 ∨ k = 62 ∨ k = 64 ∨ k = 66 ∨ k = 85) → t1 k = t0 k := fun k k1 k2 k3 => by rw [f1.1 k (by omega)]; exact r k k1 k2 k3
    obtain ⟨tb, tb1, tb2, tb3⟩ : ∃ tb, mX5_set 65 500 (Int32.ofNat kp) (t1 51 8) t1 = some (0, tb) ∧ (∀ r, ¬ r = 66 → tb r = t1 r) ∧ ∀ j, j < 500 → tb 66 j = if j = kp then t1 51 8 else t1 66 j := by
      by_cases l : kp < 500
      · refine ⟨_, zn_set l (by decide), fun r hr => zu_row hr, fun j hj => ?_⟩
        by_cases e : j = kp
        · subst e; rw [if_pos rfl, zu_same]
        · rw [if_neg e, zu_ne2 e]
      · refine ⟨t1, ?_, fun _ _ => rfl, fun j hj => by rw [if_neg (by omega)]⟩
        unfold mX5_set
        rw [if_neg (zn_neg (by omega)), if_pos ((zn_le (by omega) (by omega)).mpr (by omega))]
    obtain ⟨ub, ub1, ub2, ub3⟩ : ∃ ub, (if (500 : Int32) ≤ Int32.ofNat kp then bX12_act_271 (zu u1 49 (Rg c) (t0 103 y)) else zwr (zu u1 49 (Rg c) (t0 103 y)) 44 500 (Int32.ofNat kp) (t1 51 8) fun t4754 => bX12_act_271 t4754) = bX12_act_271 ub ∧ (∀ r, ¬ r = 44 → ub r = zu u1 49 (Rg c) (t0 103 y) r) ∧ ∀ j, j < 500 → ub 44 j = if j = kp then t1 51 8 else u1 44 j := by
      by_cases l : kp < 500
      · rw [if_neg (show ¬ (500 : Int32) ≤ Int32.ofNat kp from fun w => by have := (zn_le (a := 500) (by decide) (by omega)).mp w; omega), zn_wr l (by decide)]
        refine ⟨_, rfl, fun r hr => zu_row hr, fun j hj => ?_⟩
        by_cases e : j = kp
        · subst e; rw [if_pos rfl, zu_same]
        · rw [if_neg e, zu_ne2 e, zu_ne1 (by decide)]
      · rw [if_pos (show (500 : Int32) ≤ Int32.ofNat kp from (zn_le (a := 500) (by decide) (by omega)).mpr (by omega))]
        exact ⟨_, rfl, fun _ _ => rfl, fun j hj => by rw [if_neg (by omega), zu_ne1 (by decide)]⟩
    have hz : zAC (zNq t0) m Rg pq fr fd fp sp ac num H (zu tb 7 10 (Int32.ofNat (kp + 1))) := zAC_of a1 (by rw [zu_row (by decide), tb2 60 (by decide)]) (fun k k1 k2 => by rw [zu_row (by omega), tb2 k (by omega)])
    have on := zGoOn0 (s := y) hz w2 w5 (by rw [zu_ne1 (by decide), tb2 107 (by decide), rr 107 (by decide) (by decide) (by decide)]; exact w10 (Or.inr (Or.inl hk)))
    rw [zu_ne1 (by decide), tb2 103 (by decide), rr 103 (by decide) (by decide) (by decide)] at on
    have eC : (zbd (zbd (mX5_set 65 500 (t1 7 10) (t1 51 8) t1) fun r2261 t2262 => zpt t2262 7 10 ((t2262 7 10) + 1) fun t2264 => zbd (mX4_goOn (Int32.ofNat (Rg c)) (Int32.ofNat y) t2264) fun r2265 t2266 => z01 r2265 (some (r2265, t2266))) fun r t2 => z01 r (some (r, t2))) = some (1, zu (zu tb 7 10 (Int32.ofNat (kp + 1))) 129 (Rg c) (t0 103 y)) := by
      rw [b7, tb1, pl_bd, pl_pt, tb2 7 (by decide), b7, zn_1, on, pl_bd]
      rfl
    have eM : (zrd u1 51 2600 (Int32.ofNat (Rg c)) fun b => bX12_act_148 (Int32.ofNat (Rg c)) (Int32.ofNat y) b (-1) 12 (t1 51 8) u1) = some (1, zu ub 0 81 (Int32.ofNat (kp + 1))) := by
      rw [zn_rd (by omega) (by decide)]
      unfold bX12_act_148
      rw [zn_rd (by omega) (by decide), f2.1 21 (by decide), u2s.1, zn_wr (by omega) (by decide)]
      have e81 : zu u1 49 (Rg c) (t0 103 y) 0 81 = Int32.ofNat kp := by rw [zu_ne1 (by decide)]; exact b8
      have : bX12_act_271 ub = some (1, zu ub 0 81 (Int32.ofNat (kp + 1))) := by
        unfold bX12_act_271
        rw [pl_pt, ub2 0 (by decide), e81, zn_1]
      rw [← this, ← ub1, ← e81]
      rfl
    show zAo G f N Q t0 g (pm + 1) m Rg t u (zbd (zbd (mX5_set 65 500 (t1 7 10) (t1 51 8) t1) _) _) _
    rw [eC, eM]
    have ft : ∀ r, ¬ (r = 7 ∨ r = 51 ∨ r = 66 ∨ r = 85 ∨ r = 129) → zu (zu tb 7 10 (Int32.ofNat (kp + 1))) 129 (Rg c) (t0 103 y) r = t r := fun r hr => by rw [zu_row (by omega), zu_row (by omega), tb2 r (by omega), f1.1 r (by omega)]
    have ft7 : ∀ j, ¬ j = 10 → zu (zu tb 7 10 (Int32.ofNat (kp + 1))) 129 (Rg c) (t0 103 y) 7 j = t1 7 j := fun j hj => by rw [zu_ne1 (by decide), zu_ne2 hj, tb2 7 (by decide)]
    have fu : ∀ r, ¬ (r = 0 ∨ r = 44 ∨ r = 49) → zu ub 0 81 (Int32.ofNat (kp + 1)) r = u1 r := fun r hr => by rw [zu_row (by omega), ub2 r (by omega), zu_row (by omega)]
    have fu0 : ∀ j, ¬ j = 81 → zu ub 0 81 (Int32.ofNat (kp + 1)) 0 j = u1 0 j := fun j hj => by rw [zu_ne2 hj, ub2 0 (by decide), zu_ne1 (by decide)]
    have st := (w9.1.1 (by rw [hk]; decide))
    have eg : g (2000 + y) = g y := by
      rcases st.1 with ⟨e, _⟩ | ⟨_, e⟩ | ⟨e, _⟩ | ⟨e, _⟩ | ⟨e, _⟩ | ⟨e, _⟩ | ⟨e, _⟩
      · rcases e with e | e <;> rw [hk] at e <;> exact absurd e (by decide)
      · exact e
      all_goals (rw [hk] at e; exact absurd e (by decide))
    have go := zAft hg w1 n1 (by omega) (y + 1) y (by omega) w7 st.2
    rw [eg] at go
    have hN := hg.1.1.2.2.2.1
    refine ⟨1, _, _, m, Rg, rfl, rfl, Or.inr rfl, zFa_of (fun k hk => ft k (by omega)) (by rw [ft7 13 (by decide), f1.1 7 (by decide)]), zFb_of (fun k k1 k2 => by rw [fu k (by omega), f2.1 k (by omega)]) (fun j j1 _ => by rw [fu0 j (by omega), f2.2 j (by omega)]) (by rw [fu0 86 (by decide), f2.2 86 (by decide)]), Nat.le_refl _, fun _ _ => rfl, ?_, Or.inl (by rw [ft7 16 (by decide), f1.1 7 (by decide)]), pq, fr, fd, fp, zfu sp (Rg c) (t0 103 y), ac, num, H, Y, ql, MC, MR, fc, fk, rw, fq, mem, lim, zAC_sp hz, ?_, a3, ?_, ?_, a6, a7, a8, ?_, ?_, ?_, ?_⟩
    · rw [ft7 16 (by decide), fu0 72 (by decide), f1.1 7 (by decide), f2.2 72 (by decide), h16.1, h16.2]
    · exact zAR_of (zAR_sp (p := Rg c) (v := t0 103 y) a2) (fun j hj => by rw [fu0 j (by omega), zu_ne1 (by decide)]) (fun k k1 k2 => by rw [zu_row (by omega), ub2 k (by omega)])
    · exact zBC_of a4 (fun j hj => by rw [ft 59 (by decide), f1.1 59 (by decide)]) (fun k k1 k2 => by rw [ft k (by omega), f1.1 k (by omega)])
    · exact zBR_of a5 (fun j hj => fu0 j (by omega)) (fun k k1 k2 => fu k (by omega))
    · refine zOth a3.2.1 hc a9 (fun p hp => zfu_ne hp) (fun _ _ _ _ => rfl) (fun i hi => by have := (a3.1 i hi).1; have := a3.2.2.2.1; omega) (fun _ _ _ _ _ _ _ => rfl) ?_
      rw [zfu_same]
      exact zTp_go hN go w13
    · exact zMe_of a10 (ft7 14 (by decide)) (ft7 15 (by decide)) (fu0 80 (by decide)) (fu0 74 (by decide))
    · refine ⟨by rw [ft7 11 (by decide), fu0 77 (by decide)]; exact b1, by rw [ft7 12 (by decide), fu0 78 (by decide)]; exact b2, by rw [ft 60 (by decide), fu0 79 (by decide), ← f1.1 60 (by decide)]; exact b3, by rw [ft 59 (by decide), fu0 100 (by decide), ← f1.1 59 (by decide)]; exact b4, by rw [ft 59 (by decide), fu0 101 (by decide), ← f1.1 59 (by decide)]; exact b5, kp + 1, by omega, by rw [zu_ne1 (by decide), zu_same], zu_same _ _ _ _, fun j j1 j2 => ?_⟩
      rw [zu_ne1 (by decide), zu_ne1 (by decide), zu_ne1 (by decide), tb3 j j1, ub3 j j1]
      by_cases e : j = kp
      · rw [if_pos e, if_pos e]
      · rw [if_neg e, if_neg e]; exact b9 j j1 (by omega)
    · exact zInp_of2 a12 (ft7 8 (by decide)) (ft7 9 (by decide)) (by rw [ft 64 (by decide), f1.1 64 (by decide)]) (fu0 83 (by decide)) (fu 45 (by decide))
