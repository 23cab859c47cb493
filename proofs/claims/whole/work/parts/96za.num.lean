/-! ACTS with numbers alone -/
theorem zInp_of2 {t u t2 u2 : zS} (h : zInp t u) (h1 : t2 7 8 = t 7 8) (h2 : t2 7 9 = t 7 9) (h3 : t2 64 = t 64) (h4 : u2 0 83 = u 0 83) (h5 : u2 45 = u 45) : zInp t2 u2 := by
  unfold zInp at *
  rw [h1, h2, h3, h4, h5]; exact h
theorem zCn_of {pm pm2 : Nat} {t u t2 u2 : zS} (h : zCn pm t u) (hp : pm ≤ pm2) (h7 : ∀ j, (j = 10 ∨ j = 11 ∨ j = 12) → t2 7 j = t 7 j) (h60 : t2 60 17 = t 60 17) (h59 : t2 59 8 = t 59 8 ∧ t2 59 9 = t 59 9) (h66 : t2 66 = t 66) (h0 : ∀ j, (j = 77 ∨ j = 78 ∨ j = 79 ∨ j = 81 ∨ j = 100 ∨ j = 101) → u2 0 j = u 0 j) (h44 : u2 44 = u 44) : zCn pm2 t2 u2 := by
  obtain ⟨a1, a2, a3, a4, a5, k, a6, a7, a8, a9⟩ := h
  exact ⟨by rw [h7 11 (by decide), h0 77 (by decide)]; exact a1, by rw [h7 12 (by decide), h0 78 (by decide)]; exact a2, by rw [h60, h0 79 (by decide)]; exact a3, by rw [h59.1, h0 100 (by decide)]; exact a4, by rw [h59.2, h0 101 (by decide)]; exact a5, k, by omega, by rw [h7 10 (by decide)]; exact a7, by rw [h0 81 (by decide)]; exact a8, by rw [h66, h44]; exact a9⟩
theorem zMe_of {n : Nat → Nat} {m : Nat} {R pq : Nat → Nat} {fc fk rw mem lim : Nat} {t u t2 u2 : zS} (h : zMe n m R pq fc fk rw mem lim t u) (h1 : t2 7 14 = t 7 14) (h2 : t2 7 15 = t 7 15) (h3 : u2 0 80 = u 0 80) (h4 : u2 0 74 = u 0 74) : zMe n m R pq fc fk rw mem lim t2 u2 := by
  unfold zMe at *
  rw [h1, h2, h3, h4]; exact h
/-- nothing that a run is about has changed -/
theorem zDyn_of {G : zTxt} {f : Nat → Nat} {N Q pm m : Nat} {Rg : Nat → Nat} {pq fp ql Y fq : Nat → Nat} {fr fd fc fk rw mem lim : Nat} {sp ac : Nat → Int32} {num H MC MR : zS} {t0 g t u t2 u2 : zS} (h : zDyn G f N Q t0 g pm m Rg pq fr fd fp sp ac num H Y ql MC MR fc fk rw fq mem lim t u) (hr : ∀ k, (k = 59 ∨ k = 60 ∨ k = 64 ∨ k = 66 ∨ 116 ≤ k) → t2 k = t k) (h7 : ∀ j, (8 ≤ j ∧ j ≤ 15) → t2 7 j = t 7 j) (hu : ∀ k, (44 ≤ k ∧ k ≤ 57) → u2 k = u k) (h0 : ∀ j, (73 ≤ j ∧ j ≤ 105) → u2 0 j = u 0 j) : zDyn G f N Q t0 g pm m Rg pq fr fd fp sp ac num H Y ql MC MR fc fk rw fq mem lim t2 u2 := by
  obtain ⟨a1, a2, a3, a4, a5, a6, a7, a8, a9, a10, a11, a12⟩ := h
  exact ⟨zAC_of a1 (hr 60 (by decide)) (fun k k1 k2 => hr k (by omega)), zAR_of a2 (fun j hj => h0 j (by omega)) (fun k k1 k2 => hu k (by omega)), a3, zBC_of a4 (fun j hj => by rw [hr 59 (by decide)]) (fun k k1 k2 => hr k (by omega)), zBR_of a5 (fun j hj => h0 j (by omega)) (fun k k1 k2 => hu k (by omega)), a6, a7, a8, a9, zMe_of a10 (h7 14 (by decide)) (h7 15 (by decide)) (h0 80 (by decide)) (h0 74 (by decide)), zCn_of a11 (Nat.le_refl _) (fun j hj => h7 j (by omega)) (by rw [hr 60 (by decide)]) (by rw [hr 59 (by decide)]; exact ⟨rfl, rfl⟩) (hr 66 (by decide)) (fun j hj => h0 j (by omega)) (hu 44 (by decide)), zInp_of2 a12 (h7 8 (by decide)) (h7 9 (by decide)) (hr 64 (by decide)) (h0 83 (by decide)) (hu 45 (by decide))⟩
theorem zDyn_w {G : zTxt} {f : Nat → Nat} {N Q pm m : Nat} {Rg : Nat → Nat} {pq fp ql Y fq : Nat → Nat} {fr fd fc fk rw mem lim : Nat} {sp ac : Nat → Int32} {num H MC MR : zS} {t0 g t u t2 u2 : zS} (h : zDyn G f N Q t0 g pm m Rg pq fr fd fp sp ac num H Y ql MC MR fc fk rw fq mem lim t u) (h1 : zFwC t t2) (h2 : zFv u u2) : zDyn G f N Q t0 g pm m Rg pq fr fd fp sp ac num H Y ql MC MR fc fk rw fq mem lim t2 u2 := zDyn_of h (fun k hk => h1.1 k (by omega)) (fun j _ => by rw [h1.1 7 (by decide)]) (fun k hk => h2.1 k (by omega)) (fun j hj => h2.2 j (by omega))
theorem zDyn_o {G : zTxt} {f : Nat → Nat} {N Q pm m : Nat} {Rg : Nat → Nat} {pq fp ql Y fq : Nat → Nat} {fr fd fc fk rw mem lim : Nat} {sp ac : Nat → Int32} {num H MC MR : zS} {t0 g t u : zS} {v : Int32} (h : zDyn G f N Q t0 g pm m Rg pq fr fd fp sp ac num H Y ql MC MR fc fk rw fq mem lim t u) : zDyn G f N Q t0 g pm m Rg pq fr fd fp sp ac num H Y ql MC MR fc fk rw fq mem lim (zu t 7 16 v) (zu u 0 72 v) := zDyn_of h (fun k hk => zu_row (by omega)) (fun j hj => zu_ne2 (by omega)) (fun k hk => zu_row (by omega)) (fun j hj => zu_ne2 (by omega))
theorem zDyn_pm {G : zTxt} {f : Nat → Nat} {N Q pm pm2 m : Nat} {Rg : Nat → Nat} {pq fp ql Y fq : Nat → Nat} {fr fd fc fk rw mem lim : Nat} {sp ac : Nat → Int32} {num H MC MR : zS} {t0 g t u : zS} (h : zDyn G f N Q t0 g pm m Rg pq fr fd fp sp ac num H Y ql MC MR fc fk rw fq mem lim t u) (hp : pm ≤ pm2) : zDyn G f N Q t0 g pm2 m Rg pq fr fd fp sp ac num H Y ql MC MR fc fk rw fq mem lim t u := by
  obtain ⟨a1, a2, a3, a4, a5, a6, a7, a8, a9, a10, a11, a12⟩ := h
  exact ⟨a1, a2, a3, a4, a5, a6, a7, a8, a9, a10, zCn_of a11 hp (fun _ _ => rfl) rfl ⟨rfl, rfl⟩ rfl (fun _ _ => rfl) rfl, a12⟩
/-- who acts, and where -/
theorem zWho {G : zTxt} {f : Nat → Nat} {N M P A T Q Pa bb S F C R W V : Nat} {o : Nat → Nat × Nat} {w : Nat → Nat} {t0 u0 g : zS} {pm m c y : Nat} {Rg : Nat → Nat} {pq fp ql Y fq : Nat → Nat} {fr fd fc fk rw mem lim : Nat} {sp ac : Nat → Int32} {num H MC MR : zS} {t u : zS} (hg : zGd G f N M P A T Q Pa bb S F C R W V o w t0 u0 g) (h : zDyn G f N Q t0 g pm m Rg pq fr fd fp sp ac num H Y ql MC MR fc fk rw fq mem lim t u) (hc : c < m) (hy : sp (Rg c) = Int32.ofNat y) (hy2 : y < 2147483648) : pq (Rg c) < Q ∧ Rg c < 2501 ∧ zIn m Rg (Rg c) ∧ y < S ∧ y < 1000 ∧ (o y).2 = pq (Rg c) ∧ zPath t0 (pq (Rg c)) y ∧ zStm G o w S F C R W V t0 u0 y ∧ zAn (zD t0) N Q (zNq t0 (pq (Rg c))) t0 g y ∧ zP0 t0 y ∧ t 129 (Rg c) = Int32.ofNat y ∧ u 49 (Rg c) = Int32.ofNat y ∧ ∀ k, k < zNq t0 (pq (Rg c)) → zHld N t0 Y (g y k) (H (Rg c) k) := by
  obtain ⟨a1, a2, a3, a4, a5, a6, a7, a8, a9, a10, a11, a12⟩ := h
  obtain ⟨b1, b2⟩ := a3.1 c hc
  have fr25 := a3.2.2.2.1
  have tre := zTre_x hg.1
  have hS := tre.1
  rcases a9 c hc with ⟨q, _⟩ | ⟨y', q1, q2, q3⟩
  · rw [hy] at q
    exact absurd (show (0 : Int32) ≤ -1 by rw [← q]; exact zn_0le hy2) zn_m1
  · obtain ⟨s1, s2, s3, _⟩ := zPath_S hg.1 b2 y' q2
    have ey : y = y' := by
      rw [hy] at q1
      exact (zn_inj hy2 (by omega)).mp q1
    subst ey
    obtain ⟨n1, n2⟩ := zNq_at hg b2
    obtain ⟨v1, v2⟩ := zPath_An hg b2 n1 (by omega) y q2
    have st := hg.1.2.2.2.1.2.2.2.2.2.2.2.2.2.2.2.2.2.2.2 y s1
    exact ⟨b2, by omega, ⟨c, hc, rfl⟩, s1, by omega, s3, q2, st.1, v2, st.2.2.1.1.2, by rw [(a1.2.2.2.2.2.1 c hc).2.1]; exact hy, by rw [(a2.2.2.2.2.1 c hc).2.2.1]; exact hy, q3⟩
/-- the others hold what they held -/
theorem zOth {N m c : Nat} {Rg pq Y Y2 : Nat → Nat} {sp sp2 : Nat → Int32} {H H2 t0 g : zS} (inj : ∀ i j, i < m → j < m → Rg i = Rg j → i = j) (hc : c < m) (h : ∀ i, i < m → zTp N (zNq t0 (pq (Rg i))) (pq (Rg i)) t0 g Y (H (Rg i)) (sp (Rg i))) (hs : ∀ p, ¬ p = Rg c → sp2 p = sp p) (hH : ∀ p k, ¬ p = Rg c → p < 2501 → H2 p k = H p k) (hR : ∀ i, i < m → Rg i < 2501) (hY : ∀ p k e, ¬ p = Rg c → p < 2501 → H p k = Int32.ofNat e → e < 4000 → Y2 e = Y e) (hme : zTp N (zNq t0 (pq (Rg c))) (pq (Rg c)) t0 g Y2 (H2 (Rg c)) (sp2 (Rg c))) : ∀ i, i < m → zTp N (zNq t0 (pq (Rg i))) (pq (Rg i)) t0 g Y2 (H2 (Rg i)) (sp2 (Rg i)) := by
  intro i hi
  by_cases e : i = c
  · subst e; exact hme
  · have ne : ¬ Rg i = Rg c := fun w => e (inj i c hi hc w)
    rw [hs _ ne]
    exact zTp_Y (h i hi) (fun k _ => hH _ k ne (hR i hi)) (fun k e _ q1 q2 => hY _ k e ne (hR i hi) q1 q2)
/-- a statement of numbers is done: spot and numbers are new -/
theorem zDoneN {G : zTxt} {f : Nat → Nat} {N M P A T Q Pa bb S F C R W V : Nat} {o : Nat → Nat × Nat} {w : Nat → Nat} {t0 u0 g : zS} {pm m c y : Nat} {Rg : Nat → Nat} {pq fp ql Y fq : Nat → Nat} {fr fd fc fk rw mem lim : Nat} {sp ac : Nat → Int32} {num H MC MR : zS} {t u t2 u2 num2 : zS} {a : Int32} (hg : zGd G f N M P A T Q Pa bb S F C R W V o w t0 u0 g) (h : zDyn G f N Q t0 g pm m Rg pq fr fd fp sp ac num H Y ql MC MR fc fk rw fq mem lim t u) (hc : c < m) (hy : sp (Rg c) = Int32.ofNat y) (hy2 : y < 2147483648) (h1 : zAC (zNq t0) m Rg pq fr fd fp (zfu sp (Rg c) a) ac num2 H t2) (h2 : zAR (zNq t0) m Rg pq fr fd fp (zfu sp (Rg c) a) ac num2 H u2) (hr : ∀ k, (k = 59 ∨ k = 64 ∨ k = 66 ∨ (116 ≤ k ∧ k ≤ 125)) → t2 k = t k) (h60 : t2 60 17 = t 60 17) (h7 : ∀ j, (8 ≤ j ∧ j ≤ 15) → t2 7 j = t 7 j) (hu : ∀ k, (k = 44 ∨ k = 45 ∨ (54 ≤ k ∧ k ≤ 57)) → u2 k = u k) (h0 : ∀ j, (73 ≤ j ∧ j ≤ 105) → u2 0 j = u 0 j) (hgo : zGoA N (zNq t0 (pq (Rg c))) (pq (Rg c)) t0 g a (g y)) : zDyn G f N Q t0 g pm m Rg pq fr fd fp (zfu sp (Rg c) a) ac num2 H Y ql MC MR fc fk rw fq mem lim t2 u2 := by
  obtain ⟨w1, w2, w3, w4, w5, w6, w7, w8, w9, w10, w11, w12, w13⟩ := zWho hg h hc hy hy2
  obtain ⟨a1, a2, a3, a4, a5, a6, a7, a8, a9, a10, a11, a12⟩ := h
  have hN := hg.1.1.2.2.2.1
  refine ⟨h1, h2, a3, zBC_of a4 (fun j hj => by rw [hr 59 (by decide)]) (fun k k1 k2 => hr k (by omega)), zBR_of a5 (fun j hj => h0 j (by omega)) (fun k k1 k2 => hu k (by omega)), a6, a7, a8, ?_, zMe_of a10 (h7 14 (by decide)) (h7 15 (by decide)) (h0 80 (by decide)) (h0 74 (by decide)), zCn_of a11 (Nat.le_refl _) (fun j hj => h7 j (by omega)) h60 (by rw [hr 59 (by decide)]; exact ⟨rfl, rfl⟩) (hr 66 (by decide)) (fun j hj => h0 j (by omega)) (hu 44 (by decide)), zInp_of2 a12 (h7 8 (by decide)) (h7 9 (by decide)) (hr 64 (by decide)) (h0 83 (by decide)) (hu 45 (by decide))⟩
  refine zOth a3.2.1 hc a9 (fun p hp => zfu_ne hp) (fun _ _ _ _ => rfl) (fun i hi => by have := (a3.1 i hi).1; have := a3.2.2.2.1; omega) (fun _ _ _ _ _ _ _ => rfl) ?_
  rw [zfu_same]
  exact zTp_go hN hgo w13
