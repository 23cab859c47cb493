/-! ACTS: if, while -/
theorem zEnt_if {t : zS} {y e : Nat} (hy : y < 1000) (he : e < 1600) (h87 : ¬ t 87 y = 12) (hb : t 111 e = -1 ∨ ∃ r, t 111 e = Int32.ofNat r ∧ r < 2147483648) : mX9_entry (Int32.ofNat y) (Int32.ofNat e) t = some (if t 111 e = -1 then t 103 y else t 111 e, t) := by
  unfold mX9_entry
  rw [zn_get he (by decide), pl_bd, if_pos (zn_0le (by omega)), zn_get hy (by decide), pl_bd, if_neg h87, zn_get hy (by decide), pl_bd]
  rcases hb with q | ⟨r, q, q2⟩
  · rw [if_pos (show t (110 + 1) e < 0 by rw [show t (110 + 1) e = -1 from q]; decide), if_pos q]
  · have e1 : t (110 + 1) e = Int32.ofNat r := q
    rw [if_neg (show ¬ t (110 + 1) e < 0 by rw [e1]; exact zn_neg q2), if_neg (show ¬ t 111 e = -1 from fun w => absurd (show (0 : Int32) ≤ -1 by rw [← w, q]; exact zn_0le q2) zn_m1)]
theorem zEnt_wh {t : zS} {y e : Nat} (hy : y < 1000) (he : e < 1600) (h87 : t 87 y = 12) (hb : t 111 e = -1 ∨ ∃ r, t 111 e = Int32.ofNat r ∧ r < 2147483648) : mX9_entry (Int32.ofNat y) (Int32.ofNat e) t = some (if t 111 e = -1 then Int32.ofNat y else t 111 e, t) := by
  unfold mX9_entry
  rw [zn_get he (by decide), pl_bd, if_pos (zn_0le (by omega)), zn_get hy (by decide), pl_bd, if_pos h87]
  rcases hb with q | ⟨r, q, q2⟩
  · rw [if_pos (show t (110 + 1) e < 0 by rw [show t (110 + 1) e = -1 from q]; decide), if_pos q]
  · have e1 : t (110 + 1) e = Int32.ofNat r := q
    rw [if_neg (show ¬ t (110 + 1) e < 0 by rw [e1]; exact zn_neg q2), if_neg (show ¬ t 111 e = -1 from fun w => absurd (show (0 : Int32) ≤ -1 by rw [← w, q]; exact zn_0le q2) zn_m1)]
theorem zBl_k {t : zS} {o : Nat → Nat × Nat} {s S : Nat} {beh x y : Int32} (hS : S ≤ 1000) (h : zBl t o s S beh x y) : x = -1 ∨ ∃ r, x = Int32.ofNat r ∧ r < 2147483648 := by
  rcases h with ⟨h, _⟩ | ⟨r, h, _, _, h2, _⟩
  · exact Or.inl h
  · exact Or.inr ⟨r, h, by omega⟩
theorem zBl_q {t : zS} {o : Nat → Nat × Nat} {s S : Nat} {x y : Int32} (hs : s < 1000) (hS : S ≤ 1000) (h : zBl t o s S (-2 - Int32.ofNat s) x y) : zRq (t 103) y = if x = -1 then t 103 s else x := by
  rcases h with ⟨h, h2⟩ | ⟨r, h, h2, _, h3, _⟩
  · rw [if_pos h, h2, zRq_n (by omega)]
  · rw [if_neg (fun w => absurd (show (0 : Int32) ≤ -1 by rw [← w, h]; exact zn_0le (by omega)) zn_m1), h2, h, zRq_p (zn_b2 r (by omega)).2.2.2]
/-- only the spot is new -/
theorem zDoneS {G : zTxt} {f : Nat → Nat} {N M P A T Q Pa bb S F C R W V : Nat} {o : Nat → Nat × Nat} {w : Nat → Nat} {t0 u0 g : zS} {pm m c y : Nat} {Rg : Nat → Nat} {pq fp ql Y fq : Nat → Nat} {fr fd fc fk rw mem lim : Nat} {sp ac : Nat → Int32} {num H MC MR : zS} {t u t1 u1 : zS} {a : Int32} (hg : zGd G f N M P A T Q Pa bb S F C R W V o w t0 u0 g) (h : zDyn G f N Q t0 g pm m Rg pq fr fd fp sp ac num H Y ql MC MR fc fk rw fq mem lim t u) (hc : c < m) (hy : sp (Rg c) = Int32.ofNat y) (hy2 : y < 2147483648) (h16 : t 7 16 = 0 ∧ u 0 72 = 0) (f1 : zFwC t t1) (f2 : zFv u u1) (hgo : zGoA N (zNq t0 (pq (Rg c))) (pq (Rg c)) t0 g a (g y)) : zAo G f N Q t0 g (pm + 1) m Rg t u (some (1, zu t1 129 (Rg c) a)) (some (1, zu u1 49 (Rg c) a)) := by
  have d1 := zDyn_w h f1 f2
  refine ⟨1, _, _, m, Rg, rfl, rfl, Or.inr rfl, zFa_of (fun k hk => by rw [zu_row (by omega), f1.1 k (by omega)]) (by rw [zu_ne1 (by decide), f1.1 7 (by decide)]), zFb_of (fun k k1 k2 => by rw [zu_row (by omega), f2.1 k (by omega)]) (fun j j1 _ => by rw [zu_ne1 (by decide), f2.2 j (by omega)]) (by rw [zu_ne1 (by decide), f2.2 86 (by decide)]), Nat.le_refl _, fun _ _ => rfl, by rw [zu_ne1 (by decide), zu_ne1 (by decide), f1.1 7 (by decide), f2.2 72 (by decide), h16.1, h16.2], Or.inl (by rw [zu_ne1 (by decide), f1.1 7 (by decide)]), pq, fr, fd, fp, _, ac, num, H, Y, ql, MC, MR, fc, fk, rw, fq, mem, lim, zDyn_pm (zDoneN hg d1 hc hy hy2 (zAC_sp d1.1) (zAR_sp d1.2.1) (fun k hk => zu_row (by omega)) (zu_ne1 (by decide)) (fun j _ => zu_ne1 (by decide)) (fun k hk => zu_row (by omega)) (fun j _ => zu_ne1 (by decide)) hgo) (by omega)⟩
theorem zActIf {G : zTxt} {f : Nat → Nat} {N M P A T Q Pa bb S F C R W V : Nat} {o : Nat → Nat × Nat} {w : Nat → Nat} {t0 u0 g : zS} {pm m c y : Nat} {Rg : Nat → Nat} {pq fp ql Y fq : Nat → Nat} {fr fd fc fk rw mem lim : Nat} {sp ac : Nat → Int32} {num H MC MR : zS} {t u : zS} (hg : zGd G f N M P A T Q Pa bb S F C R W V o w t0 u0 g) (hv : zLv t0 t) (hm : zLvM S t0 u0 u) (h : zDyn G f N Q t0 g pm m Rg pq fr fd fp sp ac num H Y ql MC MR fc fk rw fq mem lim t u) (hc : c < m) (hy : sp (Rg c) = Int32.ofNat y) (hy2 : y < 2147483648) (h16 : t 7 16 = 0 ∧ u 0 72 = 0) (hk : t0 87 y = 10) : zAo G f N Q t0 g (pm + 1) m Rg t u (mX4_act (Int32.ofNat (Rg c)) (Int32.ofNat y) t) (mX12_act (Int32.ofNat (Rg c)) (Int32.ofNat y) u) := by
  obtain ⟨w1, w2, w3, w4, w5, w6, w7, w8, w9, w10, w11, w12, w13⟩ := zWho hg h hc hy hy2
  obtain ⟨n1, n2⟩ := zNq_at hg w1
  have hS := (zTre_x hg.1).1
  have hW := hg.1.2.2.2.2.2.2.2.2.2.2.1
  obtain ⟨s1, s2, s3, e0, e1, i1, i2, i3, i4, i5, i6, i7, _⟩ := (zKd_num w8).2.2.2.1 hk
  obtain ⟨x0, x1, j1, j2, j3, j4, j5, j6⟩ := w9.1.2.2.1 hk
  have ex0 : x0 = e0 := by rw [i3] at j1; exact ((zn_inj (by omega) (by omega)).mp j1).symm
  subst ex0
  have ex1 : x1 = e1 := by rw [i4] at j3; exact ((zn_inj (by omega) (by omega)).mp j3).symm
  subst ex1
  have r : ∀ k, 8 ≤ k → k ≤ 115 → ¬ (k = 29 ∨ k = 31 ∨ k = 51 ∨ k = 58 ∨ k = 59 ∨ k = 60 ∨ k = 62 ∨ k = 64 ∨ k = 66 ∨ k = 85) → t k = t0 k := hv.1
  have u2s := (hm.2.2 y w4).2.1 s1
  have lk : zLk (t0 115) 1600 2 (t0 105 y) (fun i => if i = 0 then x0 else x1) := ⟨by rw [if_neg (by decide)]; exact i3, fun j hj => by
    by_cases ej : j = 0
    · subst ej
      exact ⟨j2, i4⟩
    · have : j = 1 := by omega
      subst this
      exact ⟨j4, i5⟩⟩
  refine zActE hg hv hm h hc hy hy2 h16 s1 (Or.inr (Or.inl rfl)) s2 s3 (fun t2244 => zbd (mX5_get 104 1000 (Int32.ofNat y) t2244) fun r2246 t2247 => if (t2247 51 8) = 0 then zbd (mX5_get 114 1600 r2246 t2247) fun r2249 t2250 => bX4_branch_66 (Int32.ofNat (Rg c)) (Int32.ofNat y) r2249 t2250 else bX4_branch_66 (Int32.ofNat (Rg c)) (Int32.ofNat y) r2246 t2247) ?_ (fun t1 u1 f1 f2 => ?_)
  · unfold mX4_act mX4_branch
    rw [zn_get w5 (by decide), pl_bd, r 87 (by decide) (by decide) (by decide), hk, zn_get w5 (by decide), pl_bd, zn_get w5 (by decide), pl_bd, r 95 (by decide) (by decide) (by decide), r 97 (by decide) (by decide) (by decide)]
    rfl
  · have rr : ∀ k, 8 ≤ k → k ≤ 115 → ¬ (k = 29 ∨ k = 31 ∨ k = 51 ∨ k = 58 ∨ k = 59 ∨ k = 60 ∨ k = 62 ∨ k = 64 ∨ k = 66 ∨ k = 85) → t1 k = t0 k := fun k k1 k2 k3 => by rw [f1.1 k (by omega)]; exact r k k1 k2 k3
    have bra : ∀ e, e < 1600 → (t0 111 e = -1 ∨ ∃ r, t0 111 e = Int32.ofNat r ∧ r < 2147483648) → bX4_branch_66 (Int32.ofNat (Rg c)) (Int32.ofNat y) (Int32.ofNat e) t1 = some (1, zu t1 129 (Rg c) (if t0 111 e = -1 then t0 103 y else t0 111 e)) := fun e he hb => by
      unfold bX4_branch_66
      rw [zEnt_if w5 he (by rw [rr 87 (by decide) (by decide) (by decide), hk]; decide) (by rw [rr 111 (by decide) (by decide) (by decide)]; exact hb), pl_bd, zn_set w2 (by decide), pl_bd, rr 111 (by decide) (by decide) (by decide), rr 103 (by decide) (by decide) (by decide)]
    have eM : (zrd u1 51 2600 (Int32.ofNat (Rg c)) fun b => bX12_act_148 (Int32.ofNat (Rg c)) (Int32.ofNat y) b (-1) 10 (t1 51 8) u1) = some (1, zu u1 49 (Rg c) (if t1 51 8 = 0 then u 20 y else u 19 y)) := by
      rw [zn_rd (by omega) (by decide)]
      unfold bX12_act_148
      rw [zn_rd (by omega) (by decide), zn_wr (by omega) (by decide)]
      show (if t1 51 8 = 0 then zrd (zu u1 49 (Rg c) (u1 21 y)) 20 1600 (Int32.ofNat y) fun v4743 => bX12_act_713 v4743 (Int32.ofNat (Rg c)) (zu u1 49 (Rg c) (u1 21 y)) else zrd (zu u1 49 (Rg c) (u1 21 y)) 19 1600 (Int32.ofNat y) fun v4745 => bX12_act_713 v4745 (Int32.ofNat (Rg c)) (zu u1 49 (Rg c) (u1 21 y))) = _
      unfold bX12_act_713
      by_cases z : t1 51 8 = 0
      · rw [if_pos z, if_pos z, zn_rd (by omega) (by decide), zn_wr (by omega) (by decide), zu_twice, zu_ne1 (show (20 : Nat) ≠ 49 by decide), f2.1 20 (by decide)]
      · rw [if_neg z, if_neg z, zn_rd (by omega) (by decide), zn_wr (by omega) (by decide), zu_twice, zu_ne1 (show (19 : Nat) ≠ 49 by decide), f2.1 19 (by decide)]
    show zAo G f N Q t0 g (pm + 1) m Rg t u (zbd (zbd (mX5_get 104 1000 (Int32.ofNat y) t1) _) _) _
    rw [eM, zn_get w5 (by decide), pl_bd, rr 105 (by decide) (by decide) (by decide), i3, u2s.1, u2s.2, zBl_q w5 hS i6, zBl_q w5 hS i7]
    by_cases z : t1 51 8 = 0
    · rw [if_pos z, zn_get j2 (by decide), pl_bd, rr 115 (by decide) (by decide) (by decide), i4, bra x1 j4 (zBl_k hS i7), pl_bd]
      simp only [if_pos z]
      exact zDoneS hg h hc hy hy2 h16 f1 f2 (zGo_br hg w1 n1 (by omega) w7 ⟨Or.inr (Or.inl hk), 2, _, 1, lk, by decide, rfl⟩ j6)
    · rw [if_neg z, bra x0 j2 (zBl_k hS i6), pl_bd]
      simp only [if_neg z]
      exact zDoneS hg h hc hy hy2 h16 f1 f2 (zGo_br hg w1 n1 (by omega) w7 ⟨Or.inr (Or.inl hk), 2, _, 0, lk, by decide, rfl⟩ j5)
theorem zActWh {G : zTxt} {f : Nat → Nat} {N M P A T Q Pa bb S F C R W V : Nat} {o : Nat → Nat × Nat} {w : Nat → Nat} {t0 u0 g : zS} {pm m c y : Nat} {Rg : Nat → Nat} {pq fp ql Y fq : Nat → Nat} {fr fd fc fk rw mem lim : Nat} {sp ac : Nat → Int32} {num H MC MR : zS} {t u : zS} (hg : zGd G f N M P A T Q Pa bb S F C R W V o w t0 u0 g) (hv : zLv t0 t) (hm : zLvM S t0 u0 u) (h : zDyn G f N Q t0 g pm m Rg pq fr fd fp sp ac num H Y ql MC MR fc fk rw fq mem lim t u) (hc : c < m) (hy : sp (Rg c) = Int32.ofNat y) (hy2 : y < 2147483648) (h16 : t 7 16 = 0 ∧ u 0 72 = 0) (hk : t0 87 y = 12) : zAo G f N Q t0 g (pm + 1) m Rg t u (mX4_act (Int32.ofNat (Rg c)) (Int32.ofNat y) t) (mX12_act (Int32.ofNat (Rg c)) (Int32.ofNat y) u) := by
  obtain ⟨w1, w2, w3, w4, w5, w6, w7, w8, w9, w10, w11, w12, w13⟩ := zWho hg h hc hy hy2
  obtain ⟨n1, n2⟩ := zNq_at hg w1
  have hS := (zTre_x hg.1).1
  have hW := hg.1.2.2.2.2.2.2.2.2.2.2.1
  have hN := hg.1.1.2.2.2.1
  obtain ⟨s1, s2, s3, e0, i1, i3, i5, i6, _⟩ := (zKd_num w8).2.2.2.2 hk
  obtain ⟨x0, j1, j2, j5, j6, j7⟩ := w9.1.2.2.2.1 hk
  have ex0 : x0 = e0 := by rw [i3] at j1; exact ((zn_inj (by omega) (by omega)).mp j1).symm
  subst ex0
  have r : ∀ k, 8 ≤ k → k ≤ 115 → ¬ (k = 29 ∨ k = 31 ∨ k = 51 ∨ k = 58 ∨ k = 59 ∨ k = 60 ∨ k = 62 ∨ k = 64 ∨ k = 66 ∨ k = 85) → t k = t0 k := hv.1
  have u2s := hm.2.2 y w4
  have lk : zLk (t0 115) 1600 1 (t0 105 y) (fun _ => x0) := ⟨by rw [if_neg (by decide)]; exact i3, fun j hj => ⟨j2, by rw [if_neg (by omega)]; exact i5⟩⟩
  refine zActE hg hv hm h hc hy hy2 h16 s1 (Or.inr (Or.inr rfl)) s2 s3 (fun t2244 => zbd (mX5_get 104 1000 (Int32.ofNat y) t2244) fun r2246 t2247 => if (t2247 51 8) = 0 then zbd (mX5_get 114 1600 r2246 t2247) fun r2249 t2250 => bX4_branch_66 (Int32.ofNat (Rg c)) (Int32.ofNat y) r2249 t2250 else bX4_branch_66 (Int32.ofNat (Rg c)) (Int32.ofNat y) r2246 t2247) ?_ (fun t1 u1 f1 f2 => ?_)
  · unfold mX4_act mX4_branch
    rw [zn_get w5 (by decide), pl_bd, r 87 (by decide) (by decide) (by decide), hk, zn_get w5 (by decide), pl_bd, zn_get w5 (by decide), pl_bd, r 95 (by decide) (by decide) (by decide), r 97 (by decide) (by decide) (by decide)]
    rfl
  · have rr : ∀ k, 8 ≤ k → k ≤ 115 → ¬ (k = 29 ∨ k = 31 ∨ k = 51 ∨ k = 58 ∨ k = 59 ∨ k = 60 ∨ k = 62 ∨ k = 64 ∨ k = 66 ∨ k = 85) → t1 k = t0 k := fun k k1 k2 k3 => by rw [f1.1 k (by omega)]; exact r k k1 k2 k3
    have eM : (zrd u1 51 2600 (Int32.ofNat (Rg c)) fun b => bX12_act_148 (Int32.ofNat (Rg c)) (Int32.ofNat y) b (-1) 11 (t1 51 8) u1) = some (1, zu u1 49 (Rg c) (if t1 51 8 = 0 then u 21 y else u 19 y)) := by
      rw [zn_rd (by omega) (by decide)]
      unfold bX12_act_148
      rw [zn_rd (by omega) (by decide), zn_wr (by omega) (by decide)]
      show (if t1 51 8 = 0 then zrd (zu u1 49 (Rg c) (u1 21 y)) 21 1600 (Int32.ofNat y) fun v4748 => bX12_act_742 v4748 (Int32.ofNat (Rg c)) (zu u1 49 (Rg c) (u1 21 y)) else zrd (zu u1 49 (Rg c) (u1 21 y)) 19 1600 (Int32.ofNat y) fun v4750 => bX12_act_742 v4750 (Int32.ofNat (Rg c)) (zu u1 49 (Rg c) (u1 21 y))) = _
      unfold bX12_act_742
      by_cases z : t1 51 8 = 0
      · rw [if_pos z, if_pos z, zn_rd (by omega) (by decide), zn_wr (by omega) (by decide), zu_twice, zu_ne1 (show (21 : Nat) ≠ 49 by decide), f2.1 21 (by decide)]
      · rw [if_neg z, if_neg z, zn_rd (by omega) (by decide), zn_wr (by omega) (by decide), zu_twice, zu_ne1 (show (19 : Nat) ≠ 49 by decide), f2.1 19 (by decide)]
    show zAo G f N Q t0 g (pm + 1) m Rg t u (zbd (zbd (mX5_get 104 1000 (Int32.ofNat y) t1) _) _) _
    rw [eM, zn_get w5 (by decide), pl_bd, rr 105 (by decide) (by decide) (by decide), i3, u2s.1, (u2s.2.2.1 (by rw [s1]; decide)).1]
    by_cases z : t1 51 8 = 0
    · rw [if_pos z, zn_get j2 (by decide), pl_bd, rr 115 (by decide) (by decide) (by decide), i5]
      have en : bX4_branch_66 (Int32.ofNat (Rg c)) (Int32.ofNat y) (-1) t1 = some (1, zu t1 129 (Rg c) (t0 103 y)) := by
        unfold bX4_branch_66 mX9_entry
        rw [show mX5_get 110 1600 (-1) t1 = some (-1, t1) from rfl, pl_bd, if_neg (by decide), zn_get w5 (by decide), pl_bd, pl_bd, zn_set w2 (by decide), pl_bd, rr 103 (by decide) (by decide) (by decide)]
      rw [en, pl_bd]
      simp only [if_pos z]
      exact zDoneS hg h hc hy hy2 h16 f1 f2 (zGo_of hN (zAft hg w1 n1 (by omega) (y + 1) y (by omega) w7 j7) (fun k hk => Or.inl (j6 k hk).symm))
    · rw [if_neg z]
      have bw : u0 19 y = if t0 111 x0 = -1 then Int32.ofNat y else t0 111 x0 := by
        rcases i6 with ⟨a1, a2⟩ | ⟨r', a1, a2, _, a3, _⟩
        · rw [if_pos a1]; exact a2
        · rw [if_neg (fun w => absurd (show (0 : Int32) ≤ -1 by rw [← w, a1]; exact zn_0le (by omega)) zn_m1), a2, a1]
      have en : bX4_branch_66 (Int32.ofNat (Rg c)) (Int32.ofNat y) (Int32.ofNat x0) t1 = some (1, zu t1 129 (Rg c) (if t0 111 x0 = -1 then Int32.ofNat y else t0 111 x0)) := by
        unfold bX4_branch_66
        rw [zEnt_wh w5 j2 (by rw [rr 87 (by decide) (by decide) (by decide)]; exact hk) (by rw [rr 111 (by decide) (by decide) (by decide)]; exact zBl_k hS i6), pl_bd, zn_set w2 (by decide), pl_bd, rr 111 (by decide) (by decide) (by decide)]
      rw [en, pl_bd, bw]
      simp only [if_neg z]
      exact zDoneS hg h hc hy hy2 h16 f1 f2 (zGo_wb hg w7 ⟨Or.inr (Or.inr hk), 1, _, 0, lk, by decide, rfl⟩ j5)
