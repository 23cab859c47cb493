/-! ACTS: set, put, get -/
theorem zSo_k {t : zS} {q : Nat} {x y : Int32} {n : Nat} (h : zSo t q x y) (hn : t 39 q = Int32.ofNat n) (hn2 : n ≤ 3000) : ∃ k, k < n ∧ x = Int32.ofNat k ∧ y = Int32.ofNat k := by
  obtain ⟨k, n', a1, a2, a3, a4, a5⟩ := h
  rw [hn] at a3
  have := (zn_inj (by omega) (by omega)).mp a3
  exact ⟨k, by omega, a1, a2⟩
/-- the kinds of a statement -/
theorem zKd_num {G : zTxt} {o : Nat → Nat × Nat} {w : Nat → Nat} {S F C R W V s : Nat} {t u : zS} (h : zStm G o w S F C R W V t u s) : (t 87 s = 17 → u 14 s = 0 ∧ zSo t (o s).2 (t 91 s) (u 16 s) ∧ zFm t u (o s).2 F C (t 95 s) (t 97 s) (u 18 s)) ∧ (t 87 s = 13 → u 14 s = 12 ∧ u 16 s = -1 ∧ zFm t u (o s).2 F C (t 95 s) (t 97 s) (u 18 s)) ∧ (t 87 s = 14 → u 14 s = 13 ∧ zSo t (o s).2 (t 91 s) (u 16 s) ∧ u 18 s = -1) ∧ (t 87 s = 10 → u 14 s = 10 ∧ u 16 s = -1 ∧ zFm t u (o s).2 F C (t 95 s) (t 97 s) (u 18 s) ∧ zBi o w S W t u s) ∧ (t 87 s = 12 → u 14 s = 11 ∧ u 16 s = -1 ∧ zFm t u (o s).2 F C (t 95 s) (t 97 s) (u 18 s) ∧ zBw o w S W t u s) := by
  obtain ⟨_, h⟩ := h
  have no : ∀ {a b : Int32} {A : Prop}, t 87 s = a → t 87 s = b → ¬ a = b → A := fun e1 e2 ne => absurd (e1.symm.trans e2) ne
  rcases h with ⟨w1, w2, _, w4⟩ | ⟨w1, w2, _, w4, _, w6⟩ | ⟨w1, _⟩ | ⟨w1, _⟩ | ⟨w1, w2, w3, _, w5⟩ | ⟨w1, _⟩ | ⟨w1, _⟩ | ⟨w1, w2, _, w4, w5, w6, _⟩ | ⟨w1, w2, _, w4, w5, w6, _⟩
  · rcases w1 with w1 | w1
    · exact ⟨fun _ => ⟨w1.2, w2, w4⟩, fun q => no w1.1 q (by decide), fun q => no w1.1 q (by decide), fun q => no w1.1 q (by decide), fun q => no w1.1 q (by decide)⟩
    · exact ⟨fun q => no w1.1 q (by decide), fun q => no w1.1 q (by decide), fun q => no w1.1 q (by decide), fun q => no w1.1 q (by decide), fun q => no w1.1 q (by decide)⟩
  · exact ⟨fun q => no w1 q (by decide), fun _ => ⟨w2, w4, w6⟩, fun q => no w1 q (by decide), fun q => no w1 q (by decide), fun q => no w1 q (by decide)⟩
  · rcases w1 with w1 | w1 | w1 <;> exact ⟨fun q => no w1.1 q (by decide), fun q => no w1.1 q (by decide), fun q => no w1.1 q (by decide), fun q => no w1.1 q (by decide), fun q => no w1.1 q (by decide)⟩
  · exact ⟨fun q => no w1 q (by decide), fun q => no w1 q (by decide), fun q => no w1 q (by decide), fun q => no w1 q (by decide), fun q => no w1 q (by decide)⟩
  · exact ⟨fun q => no w1 q (by decide), fun q => no w1 q (by decide), fun _ => ⟨w2, w3, w5.2.2⟩, fun q => no w1 q (by decide), fun q => no w1 q (by decide)⟩
  · exact ⟨fun q => no w1 q (by decide), fun q => no w1 q (by decide), fun q => no w1 q (by decide), fun q => no w1 q (by decide), fun q => no w1 q (by decide)⟩
  · rcases w1 with w1 | w1 | w1 <;> exact ⟨fun q => no w1.1 q (by decide), fun q => no w1.1 q (by decide), fun q => no w1.1 q (by decide), fun q => no w1.1 q (by decide), fun q => no w1.1 q (by decide)⟩
  · exact ⟨fun q => no w1 q (by decide), fun q => no w1 q (by decide), fun q => no w1 q (by decide), fun _ => ⟨w2, w4, w5, w6⟩, fun q => no w1 q (by decide)⟩
  · exact ⟨fun q => no w1 q (by decide), fun q => no w1 q (by decide), fun q => no w1 q (by decide), fun q => no w1 q (by decide), fun _ => ⟨w2, w4, w5, w6⟩⟩
theorem zActSet {G : zTxt} {f : Nat → Nat} {N M P A T Q Pa bb S F C R W V : Nat} {o : Nat → Nat × Nat} {w : Nat → Nat} {t0 u0 g : zS} {pm m c y : Nat} {Rg : Nat → Nat} {pq fp ql Y fq : Nat → Nat} {fr fd fc fk rw mem lim : Nat} {sp ac : Nat → Int32} {num H MC MR : zS} {t u : zS} (hg : zGd G f N M P A T Q Pa bb S F C R W V o w t0 u0 g) (hv : zLv t0 t) (hm : zLvM S t0 u0 u) (h : zDyn G f N Q t0 g pm m Rg pq fr fd fp sp ac num H Y ql MC MR fc fk rw fq mem lim t u) (hc : c < m) (hy : sp (Rg c) = Int32.ofNat y) (hy2 : y < 2147483648) (h16 : t 7 16 = 0 ∧ u 0 72 = 0) (hk : t0 87 y = 17) : zAo G f N Q t0 g pm m Rg t u (mX4_act (Int32.ofNat (Rg c)) (Int32.ofNat y) t) (mX12_act (Int32.ofNat (Rg c)) (Int32.ofNat y) u) := by
  obtain ⟨w1, w2, w3, w4, w5, w6, w7, w8, w9, w10, w11, w12, w13⟩ := zWho hg h hc hy hy2
  obtain ⟨n1, n2⟩ := zNq_at hg w1
  obtain ⟨s1, s2, s3⟩ := (zKd_num w8).1 hk
  rw [w6] at s2 s3
  obtain ⟨k, k1, k2, k3⟩ := zSo_k s2 n1 (by omega)
  have hF := hg.1.2.2.2.2.2.1
  have hC := hg.1.2.2.2.2.2.2.1
  have r : ∀ k, 8 ≤ k → k ≤ 115 → ¬ (k = 29 ∨ k = 31 ∨ k = 51 ∨ k = 58 ∨ k = 59 ∨ k = 60 ∨ k = 62 ∨ k = 64 ∨ k = 66 ∨ k = 85) → t k = t0 k := hv.1
  have q : ∀ k, 5 ≤ k → k ≤ 39 → ¬ (k = 19 ∨ k = 20 ∨ k = 21 ∨ k = 24) → u k = u0 k := hm.1
  have u2s := hm.2.2 y w4
  obtain ⟨p, ep⟩ : ∃ p, p = Rg c := ⟨_, rfl⟩
  rw [← ep] at w1 w2 w3 w11 w12 w13 n1 n2 k1 s3 ⊢
  obtain ⟨t1, u1, f1, f2, res⟩ := zExp (q := pq p) h.1 h.2.1 w3 w2 (r 75 (by decide) (by decide) (by decide)) (r 77 (by decide) (by decide) (by decide)) (q 27 (by decide) (by decide) (by decide)) n1 (by omega) hF hC s3
  have d1 := zDyn_w h f1 f2
  have goC : mX4_act (Int32.ofNat p) (Int32.ofNat y) t = zbd (zbd (mX4_work (Int32.ofNat p) (t0 95 y) (t0 97 y) t) fun r2291 t2292 => if r2291 = 0 then some (0, t2292) else zbd (mX5_get 90 1000 (Int32.ofNat y) t2292) fun r2294 t2295 => zbd (mX8_setNumber (Int32.ofNat p) r2294 (t2295 51 8) t2295) fun r2297 t2298 => zbd (mX4_goOn (Int32.ofNat p) (Int32.ofNat y) t2298) fun r2300 t2301 => z01 r2300 (some (r2300, t2301))) fun r2372 t2373 => z01 r2372 (some (r2372, t2373)) := by
    unfold mX4_act mX4_assign
    rw [zn_get w5 (by decide), pl_bd, r 87 (by decide) (by decide) (by decide), hk, zn_get w5 (by decide), pl_bd, zn_get w5 (by decide), pl_bd, r 95 (by decide) (by decide) (by decide), r 97 (by decide) (by decide) (by decide)]
    rfl
  obtain ⟨b, b1, b2, b3, b4, b5⟩ := zAR_at (zAR_sp (p := p) (v := t0 103 y) d1.2.1) w3
  have e51 : u1 51 p = Int32.ofNat b := by rw [← b1, zu_ne1 (by decide)]
  have cx : ∃ cc, u0 18 y = Int32.ofNat cc ∧ cc < 8000 := by
    obtain ⟨_, _, cc, c2, _, _, _, x3, _, _, x6, _, _, x9, _⟩ := s3
    have := (zSg_up _ _ _ _ _ _ x9).1
    exact ⟨cc, x3, by omega⟩
  obtain ⟨cc, x1, x2⟩ := cx
  have goM : mX12_act (Int32.ofNat p) (Int32.ofNat y) u = zbd (mX12_worth (Int32.ofNat p) (u0 18 y) u) fun r4778 t4779 => if (t4779 0 107) = 0 then bX12_act_148 (Int32.ofNat p) (Int32.ofNat y) (Int32.ofNat b) (H p k) 0 r4778 t4779 else zbd (mX12_ends 3 t4779) fun r4781 t4782 => z01 r4781 (some (r4781, t4782)) := by
    have e51' : u 51 p = Int32.ofNat b := by rw [← e51, f2.1 51 (by decide)]
    have e53 : u 53 (b + k) = H p k := by rw [← (b3 k k1).2, zu_ne1 (by decide), f2.1 53 (by decide)]
    unfold mX12_act bX12_act_33 bX12_act_79 bX12_act_110
    rw [zn_rd (by omega) (by decide), e51', zn_rd (by omega) (by decide), q 16 (by decide) (by decide) (by decide), k3, if_neg (zn_neg (by omega)), zn_rd (by omega) (by decide), q 16 (by decide) (by decide) (by decide), k3, zn_add, zn_rd (by omega) (by decide), e53, zn_rd (by omega) (by decide), q 14 (by decide) (by decide) (by decide), s1, if_neg (by decide), if_neg (by decide), if_neg (by decide), if_neg (by decide), if_neg (by decide), if_neg (by decide), zn_rd (by omega) (by decide), q 18 (by decide) (by decide) (by decide), x1, if_neg (zn_neg (by omega)), zn_rd (by omega) (by decide), q 18 (by decide) (by decide) (by decide), x1]
  have rr : ∀ k, 8 ≤ k → k ≤ 115 → ¬ (k = 29 ∨ k = 31 ∨ k = 51 ∨ k = 58 ∨ k = 59 ∨ k = 60 ∨ k = 62 ∨ k = 64 ∨ k = 66 ∨ k = 85) → t1 k = t0 k := fun k k1 k2 k3 => by rw [f1.1 k (by omega)]; exact r k k1 k2 k3
  rcases res with ⟨g1, g2, g3⟩ | ⟨g1, ⟨v, g2⟩, g3⟩
  · obtain ⟨t2, z1, z2, z3⟩ := zAC_nu (v := t1 51 8) d1.1 w3 w2 k1
    have ez : t2 103 y = t0 103 y := by rw [z3 103 (by decide), rr 103 (by decide) (by decide) (by decide)]
    have on := zGoOn0 (s := y) z2 w2 w5 (by rw [z3 107 (by decide), rr 107 (by decide) (by decide) (by decide)]; exact w10 (Or.inl hk))
    rw [ez] at on
    have eC : mX4_act (Int32.ofNat p) (Int32.ofNat y) t = some (1, zu t2 129 p (t0 103 y)) := by
      rw [goC, g1, pl_bd, if_neg pl_10, zn_get w5 (by decide), pl_bd, rr 91 (by decide) (by decide) (by decide), k2, z1, pl_bd, on, pl_bd]
      rfl
    have eM : mX12_act (Int32.ofNat p) (Int32.ofNat y) u = some (1, zu (zu u1 49 p (t0 103 y)) 52 (b + k) (t1 51 8)) := by
      rw [goM, g2, pl_bd, if_pos g3]
      unfold bX12_act_148
      rw [zn_rd (by omega) (by decide), f2.1 21 (by decide), u2s.1, zn_wr (by omega) (by decide), if_pos rfl, zn_rd (by omega) (by decide), zu_ne1 (show (16 : Nat) ≠ 49 by decide), f2.1 16 (by decide), q 16 (by decide) (by decide) (by decide), k3, zn_add, zn_wr (by omega) (by decide)]
    have ft : ∀ r, ¬ (r = 51 ∨ r = 85 ∨ r = 129 ∨ r = 143) → zu t2 129 p (t0 103 y) r = t r := fun r hr => by rw [zu_row (by omega), z3 r (by omega), f1.1 r (by omega)]
    have fu : ∀ r, ¬ (r = 0 ∨ r = 49 ∨ r = 52 ∨ r = 58) → zu (zu u1 49 p (t0 103 y)) 52 (b + k) (t1 51 8) r = u r := fun r hr => by rw [zu_row (by omega), zu_row (by omega), f2.1 r (by omega)]
    have fu0 : ∀ j, ¬ j = 107 → zu (zu u1 49 p (t0 103 y)) 52 (b + k) (t1 51 8) 0 j = u 0 j := fun j hj => by rw [zu_ne1 (by decide), zu_ne1 (by decide), f2.2 j hj]
    rw [eC, eM]
    refine ⟨1, _, _, m, Rg, rfl, rfl, Or.inr rfl, zFa_of (fun k hk => ft k (by omega)) (by rw [ft 7 (by decide)]), zFb_of (fun k k1 k2 => fu k (by omega)) (fun j j1 _ => fu0 j (by omega)) (fu0 86 (by decide)), Nat.le_refl _, fun _ _ => rfl, by rw [ft 7 (by decide), fu0 72 (by decide), h16.1, h16.2], Or.inl (by rw [ft 7 (by decide)]), ?_⟩
    have st := (w9.1.1 (by rw [hk]; decide))
    have eg : g (2000 + y) = g y := by
      rcases st.1 with ⟨_, _, e⟩ | ⟨e, _⟩ | ⟨e, _⟩ | ⟨e, _⟩ | ⟨e, _⟩ | ⟨e, _⟩ | ⟨e, _⟩
      · exact e
      all_goals (rw [hk] at e; exact absurd e (by decide))
    have go := zAft hg w1 n1 (by omega) (y + 1) y (by omega) (by rw [ep]; exact w7) st.2
    rw [eg] at go
    rw [ep] at go ⊢
    rw [ep] at z2 b5 k1
    exact ⟨pq, fr, fd, fp, _, ac, _, H, Y, ql, MC, MR, fc, fk, rw, fq, mem, lim, zDoneN hg h hc hy hy2 (zAC_sp z2) (b5 k (t1 51 8) k1) (fun k hk => by rw [← ep]; exact ft k (by omega)) (by rw [← ep, ft 60 (by decide)]) (fun j _ => by rw [← ep, ft 7 (by decide)]) (fun k hk => by rw [← ep]; exact fu k (by omega)) (fun j hj => by rw [← ep]; exact fu0 j (by omega)) go⟩
  · have eC : mX4_act (Int32.ofNat p) (Int32.ofNat y) t = some (0, zu t1 7 16 3) := by
      rw [goC, g1, pl_bd, if_pos rfl, pl_bd]
      rfl
    have eM : mX12_act (Int32.ofNat p) (Int32.ofNat y) u = some (0, zu u1 0 72 3) := by
      rw [goM, g2, pl_bd, if_neg (by rw [g3]; decide)]
      rfl
    rw [eC, eM]
    refine ⟨0, _, _, m, Rg, rfl, rfl, Or.inl rfl, zFa_of (fun k hk => by rw [zu_row (by omega), f1.1 k (by omega)]) (by rw [zu_ne2 (by decide), f1.1 7 (by decide)]), zFb_of (fun k k1 k2 => by rw [zu_row (by omega), f2.1 k (by omega)]) (fun j j1 j2 => by rw [zu_ne2 (by omega), f2.2 j (by omega)]) (by rw [zu_ne2 (by decide), f2.2 86 (by decide)]), Nat.le_refl _, fun _ _ => rfl, by rw [zu_same, zu_same], Or.inr ⟨rfl, by rw [zu_same]; decide⟩, _, _, _, _, _, _, _, _, _, _, _, _, _, _, _, _, _, _, zDyn_o d1⟩
