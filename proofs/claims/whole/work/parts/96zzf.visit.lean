/-! one ACT, whatever it is -/
theorem zAo_pm {G : zTxt} {f : Nat → Nat} {N Q pm m : Nat} {t0 g t u : zS} {R : Nat → Nat} {a b : zR} (h : zAo G f N Q t0 g pm m R t u a b) : zAo G f N Q t0 g (pm + 1) m R t u a b := by
  obtain ⟨r, t2, u2, m2, R2, h1, h2, h3, h4, h5, h6, h7, h8, h9, e1, e2, e3, e4, e5, e6, e7, e8, e9, e10, e11, e12, e13, e14, e15, e16, e17, e18, h10⟩ := h
  exact ⟨r, t2, u2, m2, R2, h1, h2, h3, h4, h5, h6, h7, h8, h9, e1, e2, e3, e4, e5, e6, e7, e8, e9, e10, e11, e12, e13, e14, e15, e16, e17, e18, zDyn_pm h10 (by omega)⟩
theorem zAct {G : zTxt} {f : Nat → Nat} {N M P A T Q Pa bb S F C R W V : Nat} {o : Nat → Nat × Nat} {w : Nat → Nat} {t0 u0 g : zS} {pm m c y : Nat} {Rg : Nat → Nat} {pq fp ql Y fq : Nat → Nat} {fr fd fc fk rw mem lim : Nat} {sp ac : Nat → Int32} {num H MC MR : zS} {t u : zS} (hg : zGd G f N M P A T Q Pa bb S F C R W V o w t0 u0 g) (hv : zLv t0 t) (hm : zLvM S t0 u0 u) (h : zDyn G f N Q t0 g pm m Rg pq fr fd fp sp ac num H Y ql MC MR fc fk rw fq mem lim t u) (hc : c < m) (hy : sp (Rg c) = Int32.ofNat y) (hy2 : y < 2147483648) (hpm : pm < 2000000000) (h16 : t 7 16 = 0 ∧ u 0 72 = 0) : zAo G f N Q t0 g (pm + 1) m Rg t u (mX4_act (Int32.ofNat (Rg c)) (Int32.ofNat y) t) (mX12_act (Int32.ofNat (Rg c)) (Int32.ofNat y) u) := by
  obtain ⟨w1, w2, w3, w4, w5, w6, w7, w8, w9, w10, w11, w12, w13⟩ := zWho hg h hc hy hy2
  rcases w8.2 with ⟨⟨q, _⟩ | ⟨q, _⟩, _⟩ | ⟨q, _⟩ | ⟨⟨q, _⟩ | ⟨q, _⟩ | ⟨q, _⟩, _⟩ | ⟨q, _⟩ | ⟨q, _⟩ | ⟨q, _⟩ | ⟨⟨q, _⟩ | ⟨q, _⟩ | ⟨q, _⟩, _⟩ | ⟨q, _⟩ | ⟨q, _⟩
  · exact zAo_pm (zActSet hg hv hm h hc hy hy2 h16 q)
  · exact zAo_pm (zActSend hg hv hm h hc hy hy2 h16 q)
  · exact zActPut hg hv hm h hc hy hy2 hpm h16 q
  · exact zAo_pm (zActRecv hg hv hm h hc hy hy2 h16 q)
  · exact zAo_pm (zActPass hg hv hm h hc hy hy2 h16 q)
  · exact zAo_pm (zActTake hg hv hm h hc hy hy2 h16 q)
  · exact zAo_pm (zActPick hg hv hm h hc hy hy2 h16 q)
  · exact zAo_pm (zActGet hg hv hm h hc hy hy2 h16 q)
  · exact zAo_pm (zActCase hg hv hm h hc hy hy2 h16 q)
  · exact zActSpawn hg hv hm h hc hy hy2 h16 q
  · exact zActSpawn hg hv hm h hc hy hy2 h16 q
  · exact zActBecome hg hv hm h hc hy hy2 h16 q
  · exact zActIf hg hv hm h hc hy hy2 h16 q
  · exact zActWh hg hv hm h hc hy hy2 h16 q
/-! one VISIT -/
def zRv (G : zTxt) (f : Nat → Nat) (N Q : Nat) (t0 g : zS) (pm : Nat) (t u : zS) : Prop := ∃ m Rg, zRnS G f N Q t0 g pm m Rg t u ∧ t 7 16 = u 0 72 ∧ (t 7 16 = 0 → ∃ c, c < m ∧ t 7 13 = Int32.ofNat (Rg c) ∧ u 0 86 = Int32.ofNat c)
def zFa2 (t t2 : zS) : Prop := zLv t t2 ∧ ∀ k, (k ≤ 2 ∨ k = 29) → t2 k = t k
def zFb2 (u u2 : zS) : Prop := (∀ j, j ≤ 76 → ¬ j = 72 → u2 0 j = u 0 j) ∧ ∀ k, 1 ≤ k → k ≤ 43 → u2 k = u k
theorem zFa2_trans {a b c : zS} (h : zFa2 a b) (h2 : zFa2 b c) : zFa2 a c := ⟨zLv_trans h.1 h2.1, fun k hk => (h2.2 k hk).trans (h.2 k hk)⟩
theorem zFb2_trans {a b c : zS} (h : zFb2 a b) (h2 : zFb2 b c) : zFb2 a c := ⟨fun j h1 h3 => (h2.1 j h1 h3).trans (h.1 j h1 h3), fun k h1 h3 => (h2.2 k h1 h3).trans (h.2 k h1 h3)⟩
theorem zLvM_b2 {S : Nat} {t0 u0 u u2 : zS} (h : zLvM S t0 u0 u) (h2 : zFb2 u u2) : zLvM S t0 u0 u2 := by
  obtain ⟨a1, a2, a3⟩ := h
  obtain ⟨b1, b3⟩ := h2
  refine ⟨fun k k1 k2 k3 => by rw [b3 k (by omega) (by omega)]; exact a1 k k1 k2 k3, fun j hj => by rw [b1 j (by omega) (by omega)]; exact a2 j hj, fun s hs => ?_⟩
  have := a3 s hs
  unfold zU2 at *
  rw [b3 19 (by decide) (by decide), b3 20 (by decide) (by decide), b3 21 (by decide) (by decide), b3 24 (by decide) (by decide)]
  exact this
theorem zFa2_of {t t2 : zS} (h : ∀ k, ¬ (k = 7 ∨ k = 51 ∨ k = 59 ∨ k = 60 ∨ k = 62 ∨ k = 64 ∨ k = 66 ∨ k = 85 ∨ 116 ≤ k) → t2 k = t k) : zFa2 t t2 := ⟨⟨fun k k1 k2 k3 => h k (by omega), fun j _ => by rw [h 3 (by decide)], h 4 (by decide)⟩, fun k hk => h k (by omega)⟩
theorem zAo_fa {t t2 : zS} (h : zFa t t2) : zFa2 t t2 := ⟨h.1, h.2.1⟩
theorem zAo_fb {u u2 : zS} (h : zFb u u2) : zFb2 u u2 := ⟨h.1, h.2.2⟩
/-- counters of VISITS and ACTS -/
theorem zDyn_v {G : zTxt} {f : Nat → Nat} {N Q pm m : Nat} {Rg : Nat → Nat} {pq fp ql Y fq : Nat → Nat} {fr fd fc fk rw mem lim : Nat} {sp ac : Nat → Int32} {num H MC MR : zS} {t0 g t u : zS} (h : zDyn G f N Q t0 g pm m Rg pq fr fd fp sp ac num H Y ql MC MR fc fk rw fq mem lim t u) : zDyn G f N Q t0 g pm m Rg pq fr fd fp sp ac num H Y ql MC MR fc fk rw fq mem lim (zu t 7 11 (t 7 11 + 1)) (zu u 0 77 (u 0 77 + 1)) := by
  obtain ⟨a1, a2, a3, a4, a5, a6, a7, a8, a9, a10, ⟨c1, c2, c3, c4, c5, k, c6, c7, c8, c9⟩, a12⟩ := h
  refine ⟨zAC_of a1 (zu_row (by decide)) (fun k k1 k2 => zu_row (by omega)), zAR_of a2 (fun j hj => zu_ne2 (by omega)) (fun k k1 k2 => zu_row (by omega)), a3, zBC_of a4 (fun j hj => zu_ne1 (by decide)) (fun k k1 k2 => zu_row (by omega)), zBR_of a5 (fun j hj => zu_ne2 (by omega)) (fun k k1 k2 => zu_row (by omega)), a6, a7, a8, a9, zMe_of a10 (zu_ne2 (by decide)) (zu_ne2 (by decide)) (zu_ne2 (by decide)) (zu_ne2 (by decide)), ⟨by rw [zu_same, zu_same, c1], by rw [zu_ne2 (by decide), zu_ne2 (by decide)]; exact c2, by rw [zu_ne1 (by decide), zu_ne2 (by decide)]; exact c3, by rw [zu_ne1 (by decide), zu_ne2 (by decide)]; exact c4, by rw [zu_ne1 (by decide), zu_ne2 (by decide)]; exact c5, k, c6, by rw [zu_ne2 (by decide)]; exact c7, by rw [zu_ne2 (by decide)]; exact c8, fun j h1 h2 => by rw [zu_ne1 (by decide), zu_ne1 (by decide)]; exact c9 j h1 h2⟩, zInp_of2 a12 (zu_ne2 (by decide)) (zu_ne2 (by decide)) (zu_row (by decide)) (zu_ne2 (by decide)) (zu_row (by decide))⟩
theorem zDyn_a {G : zTxt} {f : Nat → Nat} {N Q pm m p : Nat} {Rg : Nat → Nat} {pq fp ql Y fq : Nat → Nat} {fr fd fc fk rw mem lim : Nat} {sp ac : Nat → Int32} {num H MC MR : zS} {t0 g t u : zS} {v : Int32} (h : zDyn G f N Q t0 g pm m Rg pq fr fd fp sp ac num H Y ql MC MR fc fk rw fq mem lim t u) : zDyn G f N Q t0 g pm m Rg pq fr fd fp sp (zfu ac p v) num H Y ql MC MR fc fk rw fq mem lim (zu (zu t 7 12 (t 7 12 + 1)) 131 p v) (zu (zu u 0 78 (u 0 78 + 1)) 50 p v) := by
  obtain ⟨a1, a2, a3, a4, a5, a6, a7, a8, a9, a10, ⟨c1, c2, c3, c4, c5, k, c6, c7, c8, c9⟩, a12⟩ := h
  refine ⟨zAC_ac (zAC_of a1 (zu_row (by decide)) (fun k k1 k2 => zu_row (by omega))), zAR_ac (zAR_of a2 (fun j hj => zu_ne2 (by omega)) (fun k k1 k2 => zu_row (by omega))), a3, zBC_of a4 (fun j hj => by rw [zu_ne1 (by decide), zu_ne1 (by decide)]) (fun k k1 k2 => by rw [zu_row (by omega), zu_row (by omega)]), zBR_of a5 (fun j hj => by rw [zu_ne1 (by decide), zu_ne2 (by omega)]) (fun k k1 k2 => by rw [zu_row (by omega), zu_row (by omega)]), a6, a7, a8, a9, zMe_of a10 (by rw [zu_ne1 (by decide), zu_ne2 (by decide)]) (by rw [zu_ne1 (by decide), zu_ne2 (by decide)]) (by rw [zu_ne1 (by decide), zu_ne2 (by decide)]) (by rw [zu_ne1 (by decide), zu_ne2 (by decide)]), ⟨by rw [zu_ne1 (by decide), zu_ne2 (by decide), zu_ne1 (by decide), zu_ne2 (by decide)]; exact c1, by rw [zu_ne1 (by decide), zu_same, zu_ne1 (by decide), zu_same, c2], by rw [zu_ne1 (by decide), zu_ne1 (by decide), zu_ne1 (by decide), zu_ne2 (by decide)]; exact c3, by rw [zu_ne1 (by decide), zu_ne1 (by decide), zu_ne1 (by decide), zu_ne2 (by decide)]; exact c4, by rw [zu_ne1 (by decide), zu_ne1 (by decide), zu_ne1 (by decide), zu_ne2 (by decide)]; exact c5, k, c6, by rw [zu_ne1 (by decide), zu_ne2 (by decide)]; exact c7, by rw [zu_ne1 (by decide), zu_ne2 (by decide)]; exact c8, fun j h1 h2 => by rw [zu_ne1 (by decide), zu_ne1 (by decide), zu_ne1 (by decide), zu_ne1 (by decide)]; exact c9 j h1 h2⟩, zInp_of2 a12 (by rw [zu_ne1 (by decide), zu_ne2 (by decide)]) (by rw [zu_ne1 (by decide), zu_ne2 (by decide)]) (by rw [zu_row (by decide), zu_row (by decide)]) (by rw [zu_ne1 (by decide), zu_ne2 (by decide)]) (by rw [zu_row (by decide), zu_row (by decide)])⟩
theorem pl_nextOf {n : Nat → Nat} {Q m c : Nat} {R pq : Nat → Nat} {fr fd : Nat} {fp : Nat → Nat} {sp ac : Nat → Int32} {num H t : zS} (h : zAC n m R pq fr fd fp sp ac num H t) (hP : zAP Q m R pq fr fd fp) (hc : c < m) : mX8_nextOf (Int32.ofNat (R c)) t = some (Int32.ofNat (R (if c + 1 < m then c + 1 else 0)), t) := by
  have lt : ∀ i, i < m → R i < 2501 := fun i hi => by have := (hP.1 i hi).1; have := hP.2.2.2.1; omega
  have l1 := lt c hc
  unfold mX8_nextOf
  rw [zn_get (by omega) (by decide), pl_bd, (h.1.2.2 c hc).1]
  by_cases z : c + 1 < m
  · have l2 := lt (c + 1) z
    rw [if_pos z, if_pos z, if_pos (zn_0le (by omega)), zn_get (by omega) (by decide), pl_bd, (h.1.2.2 c hc).1, if_pos z]
  · rw [if_neg z, if_neg z, if_neg (by decide), h.1.1, if_neg (by omega)]
theorem zDyn_of2 {G : zTxt} {f : Nat → Nat} {N Q pm m : Nat} {Rg : Nat → Nat} {pq fp ql Y fq : Nat → Nat} {fr fd fc fk rw mem lim : Nat} {sp ac : Nat → Int32} {num H MC MR : zS} {t0 g t u t2 u2 : zS} (h : zDyn G f N Q t0 g pm m Rg pq fr fd fp sp ac num H Y ql MC MR fc fk rw fq mem lim t u) (hr : ∀ k, (k = 59 ∨ k = 60 ∨ k = 64 ∨ k = 66 ∨ 116 ≤ k) → t2 k = t k) (h7 : ∀ j, (8 ≤ j ∧ j ≤ 15 ∧ ¬ j = 13) → t2 7 j = t 7 j) (hu : ∀ k, (44 ≤ k ∧ k ≤ 57) → u2 k = u k) (h0 : ∀ j, (73 ≤ j ∧ j ≤ 105 ∧ ¬ j = 86) → u2 0 j = u 0 j) : zDyn G f N Q t0 g pm m Rg pq fr fd fp sp ac num H Y ql MC MR fc fk rw fq mem lim t2 u2 := by
  obtain ⟨a1, a2, a3, a4, a5, a6, a7, a8, a9, a10, a11, a12⟩ := h
  exact ⟨zAC_of a1 (hr 60 (by decide)) (fun k k1 k2 => hr k (by omega)), zAR_of a2 (fun j hj => h0 j (by omega)) (fun k k1 k2 => hu k (by omega)), a3, zBC_of a4 (fun j hj => by rw [hr 59 (by decide)]) (fun k k1 k2 => hr k (by omega)), zBR_of a5 (fun j hj => h0 j (by omega)) (fun k k1 k2 => hu k (by omega)), a6, a7, a8, a9, zMe_of a10 (h7 14 (by decide)) (h7 15 (by decide)) (h0 80 (by decide)) (h0 74 (by decide)), zCn_of a11 (Nat.le_refl _) (fun j hj => h7 j (by omega)) (by rw [hr 60 (by decide)]) (by rw [hr 59 (by decide)]; exact ⟨rfl, rfl⟩) (hr 66 (by decide)) (fun j hj => h0 j (by omega)) (hu 44 (by decide)), zInp_of2 a12 (h7 8 (by decide)) (h7 9 (by decide)) (hr 64 (by decide)) (h0 83 (by decide)) (hu 45 (by decide))⟩
/-- both turn on -/
theorem zTurn {G : zTxt} {f : Nat → Nat} {N Q : Nat} {t0 g : zS} {pm m c : Nat} {Rg : Nat → Nat} {pq fp ql Y fq : Nat → Nat} {fr fd fc fk rw mem lim : Nat} {sp ac : Nat → Int32} {num H MC MR : zS} {t u : zS} (h : zDyn G f N Q t0 g pm m Rg pq fr fd fp sp ac num H Y ql MC MR fc fk rw fq mem lim t u) (hc : c < m) (h16 : t 7 16 = u 0 72) (h86 : u 0 86 = Int32.ofNat c) : ∃ t2 u2, bX4_visit_128 (Int32.ofNat (Rg c)) t = some (0, t2) ∧ bX12_visit_171 u = some (0, u2) ∧ zFa2 t t2 ∧ zFb2 u u2 ∧ zRv G f N Q t0 g pm t2 u2 := by
  have hm2 : m ≤ 2500 := by have := h.2.2.1.2.2.1; have := h.2.2.1.2.2.2.1; omega
  obtain ⟨c', ec⟩ : ∃ c', c' = if c + 1 < m then c + 1 else 0 := ⟨_, rfl⟩
  have hc' : c' < m := by rw [ec]; split <;> omega
  have d1 : zDyn G f N Q t0 g pm m Rg pq fr fd fp sp ac num H Y ql MC MR fc fk rw fq mem lim (zu t 7 13 (Int32.ofNat (Rg c'))) u := zDyn_of2 h (fun k hk => zu_row (by omega)) (fun j hj => zu_ne2 (by omega)) (fun _ _ => rfl) (fun _ _ => rfl)
  have r1 : bX4_visit_128 (Int32.ofNat (Rg c)) t = some (0, zu t 7 13 (Int32.ofNat (Rg c'))) := by
    unfold bX4_visit_128
    rw [pl_nextOf h.1 h.2.2.1 hc, pl_bd, pl_pt, ← ec]
  have fa : zFa2 t (zu t 7 13 (Int32.ofNat (Rg c'))) := zFa2_of (fun k hk => zu_row (by omega))
  by_cases e : u 0 72 = 0
  · refine ⟨_, zu u 0 86 (Int32.ofNat c'), r1, ?_, fa, ⟨fun j h1 h2 => zu_ne2 (by omega), fun k h1 h2 => zu_row (by omega)⟩, m, Rg, ⟨_, _, _, _, _, _, _, _, _, _, _, _, _, _, _, _, _, _, zDyn_of2 d1 (fun _ _ => rfl) (fun _ _ => rfl) (fun k hk => zu_row (by omega)) (fun j hj => ?_)⟩, by rw [zu_ne2 (by decide), zu_ne2 (by decide)]; exact h16, fun _ => ⟨c', hc', zu_same _ _ _ _, zu_same _ _ _ _⟩⟩
    · unfold bX12_visit_171 bX12_visit_202
      rw [if_pos e, h86, h.2.1.1, zn_1, pl_pt, pl_pt]
      by_cases z : c + 1 < m
      · rw [if_pos z] at ec
        rw [if_neg (fun w => by have := (zn_le (by omega) (by omega)).mp w; omega), ec]
      · rw [if_neg z] at ec
        rw [if_pos ((zn_le (by omega) (by omega)).mpr (by omega)), ec]
        rfl
    · exact zu_ne2 (by omega)
  · refine ⟨_, u, r1, ?_, fa, ⟨fun _ _ _ => rfl, fun _ _ _ => rfl⟩, m, Rg, ⟨_, _, _, _, _, _, _, _, _, _, _, _, _, _, _, _, _, _, d1⟩, by rw [zu_ne2 (by decide)]; exact h16, fun w => ?_⟩
    · unfold bX12_visit_171
      rw [if_neg e]
    · rw [zu_ne2 (by decide), h16] at w
      exact absurd w e
/-- a process that is done goes -/
theorem zGoes {G : zTxt} {f : Nat → Nat} {N M P A T Q Pa bb S F C R W V : Nat} {o : Nat → Nat × Nat} {w : Nat → Nat} {t0 u0 g : zS} {pm m c : Nat} {Rg : Nat → Nat} {pq fp ql Y fq : Nat → Nat} {fr fd fc fk rw mem lim : Nat} {sp ac : Nat → Int32} {num H MC MR : zS} {t u : zS} (hg : zGd G f N M P A T Q Pa bb S F C R W V o w t0 u0 g) (hv : zLv t0 t) (hm : zLvM S t0 u0 u) (h : zDyn G f N Q t0 g pm m Rg pq fr fd fp sp ac num H Y ql MC MR fc fk rw fq mem lim t u) (hc : c < m) (h16 : t 7 16 = 0 ∧ u 0 72 = 0) (h86 : u 0 86 = Int32.ofNat c) :
    ∃ t2 u2, (zbd (mX5_get 126 2501 (Int32.ofNat (Rg c)) t) fun r2402 t2403 => zbd (mX4_cellsOf r2402 t2403) fun r2405 t2406 => zpt t2406 7 14 ((t 7 14) - r2405) fun t2408 => zbd (mX8_leave (Int32.ofNat (Rg c)) t2408) fun r2409 t2410 => if (t2410 60 16) = 0 then bX4_visit_79 (Int32.ofNat (Rg c)) 1 t2410 else bX4_visit_79 (Int32.ofNat (Rg c)) 0 t2410) = some (0, t2) ∧ (zrd u 48 2600 (Int32.ofNat (Rg c)) fun v4820 => zbd (mX12_processCells v4820 u) fun r4822 t4823 => zpt t4823 0 80 ((u 0 80) - r4822) fun t4825 => zwr t4825 47 2600 (t4825 0 88) (Int32.ofNat (Rg c)) fun t4827 => zpt t4827 0 88 ((t4827 0 88) + 1) fun t4828 => zpt t4828 0 85 ((t4828 0 85) - 1) fun t4829 => zlet (t4829 0 86) fun v4830 => lX12_visit_85 zFU v4830 t4829) = some (0, u2) ∧ zFa2 t t2 ∧ zFb2 u u2 ∧ zRv G f N Q t0 g pm t2 u2 := by
  obtain ⟨a1, a2, a3, a4, a5, a6, a7, a8, a9, a10, a11, a12⟩ := h
  have hQ : Q ≤ 300 := hg.1.2.2.2.2.2.2.2.2.1
  have r0 : ∀ k, 8 ≤ k → k ≤ 115 → ¬ (k = 29 ∨ k = 31 ∨ k = 51 ∨ k = 58 ∨ k = 59 ∨ k = 60 ∨ k = 62 ∨ k = 64 ∨ k = 66 ∨ k = 85) → t k = t0 k := hv.1
  obtain ⟨p1, p2⟩ := a3.1 c hc
  obtain ⟨n1, n2⟩ := zNq_at hg p2
  have hfr : m + fd = fr ∧ fr ≤ 2500 := ⟨a3.2.2.1, a3.2.2.2.1⟩
  obtain ⟨b, s1, s2, s3⟩ := zSt31 hg hm _ p2
  have me := a10.2.2.2.2.2.2
  have sout := zSs_out (f := fun i => 4 + zNq t0 (pq (Rg i))) (i := c) (m - 1) (by omega)
  rw [show m - 1 + 1 = m by omega] at sout
  have sout' : zSs (fun j => 4 + zNq t0 (pq (zCut Rg c j))) (m - 1) + (4 + zNq t0 (pq (Rg c))) = zSs (fun i => 4 + zNq t0 (pq (Rg i))) m := by
    rw [← sout]
    congr 1
    refine zSs_congr _ (fun j hj => ?_)
    show 4 + zNq t0 (pq (zCut Rg c j)) = if j < c then 4 + zNq t0 (pq (Rg j)) else 4 + zNq t0 (pq (Rg (j + 1)))
    unfold zCut
    by_cases q : j < c
    · rw [if_pos q, if_pos q]
    · rw [if_neg q, if_neg q]
  have m10 : lim ≤ 10000 ∧ mem ≤ lim := ⟨a10.2.2.2.2.1, a10.2.2.2.2.2.1⟩
  have g0 := Nat.zero_le ((fc - fk) * (4 + 2 * rw))
  have hq4 : 4 + zNq t0 (pq (Rg c)) ≤ mem := by omega
  obtain ⟨mem2, emem⟩ : ∃ mem2, mem2 = mem - (4 + zNq t0 (pq (Rg c))) := ⟨_, rfl⟩
  have sub : Int32.ofNat mem - Int32.ofNat (4 + zNq t0 (pq (Rg c))) = Int32.ofNat mem2 := by rw [zn_sub (by omega) (by omega), emem]
  -- the class
  obtain ⟨tC, eC⟩ : ∃ tC, tC = zu t 7 14 (Int32.ofNat mem2) := ⟨_, rfl⟩
  obtain ⟨t1, c1, c2, c3, c4, c5⟩ := zLeaC (c := c) (zAC_of a1 (t2 := tC) (by rw [eC, zu_row (by decide)]) (fun k x1 x2 => by rw [eC, zu_row (by omega)])) a3 hc
  have r7 : ∀ j, ¬ j = 14 → t1 7 j = t 7 j := fun j hj => by rw [c5 7 (by decide), eC, zu_ne2 hj]
  have rt : ∀ k, ¬ (k = 7 ∨ k = 60 ∨ k = 137 ∨ k = 139 ∨ k = 141) → t1 k = t k := fun k hk => by rw [c5 k (by omega), eC, zu_row (by omega)]
  -- the reference
  obtain ⟨uC, eU⟩ : ∃ uC, uC = zu (zu (zu (zu u 0 80 (Int32.ofNat mem2)) 47 fd (Int32.ofNat (Rg c))) 0 88 (Int32.ofNat (fd + 1))) 0 85 (Int32.ofNat (m - 1)) := ⟨_, rfl⟩
  have ru : ∀ k, ¬ (k = 0 ∨ k = 47) → uC k = u k := fun k hk => by rw [eU, zu_row (by omega), zu_row (by omega), zu_row (by omega), zu_row (by omega)]
  have ru0 : ∀ j, ¬ (j = 80 ∨ j = 85 ∨ j = 88) → uC 0 j = u 0 j := fun j hj => by rw [eU, zu_ne2 (by omega), zu_ne2 (by omega), zu_ne1 (by decide), zu_ne2 (by omega)]
  have u85 : uC 0 85 = Int32.ofNat (m - 1) := by rw [eU, zu_same]
  obtain ⟨u1, d1, d2, d3⟩ := zLeaR (R := Rg) (c := c) (m' := m - 1) (uS := uC) (by omega) (fun i hi => by rw [ru 46 (by decide)]; exact (a2.2.2.2.2.1 i (by omega)).1) u85 (m - 1 - c) c (zFU - (m - 1 - c) - 1) uC (by omega) (Nat.le_refl _) (fun _ _ => rfl) (fun j => by rw [if_neg (by omega)])
  rw [show zFU - (m - 1 - c) - 1 + (m - 1 - c) + 1 = zFU by unfold zFU; omega] at d1
  have goM : (zrd u 48 2600 (Int32.ofNat (Rg c)) fun v4820 => zbd (mX12_processCells v4820 u) fun r4822 t4823 => zpt t4823 0 80 ((u 0 80) - r4822) fun t4825 => zwr t4825 47 2600 (t4825 0 88) (Int32.ofNat (Rg c)) fun t4827 => zpt t4827 0 88 ((t4827 0 88) + 1) fun t4828 => zpt t4828 0 85 ((t4828 0 85) - 1) fun t4829 => zlet (t4829 0 86) fun v4830 => lX12_visit_85 zFU v4830 t4829) = if (u1 0 86) < (u1 0 85) then bX12_visit_129 u1 else zpt u1 0 86 0 fun t4800 => bX12_visit_129 t4800 := by
    unfold mX12_processCells
    rw [zn_rd (by omega) (by decide), (a2.2.2.2.2.1 c hc).2.1, pl_own (by omega) s1 s2 (by omega), pl_bd, pl_bd, show (4 : Int32) + Int32.ofNat (zNq t0 (pq (Rg c))) = Int32.ofNat (4 + zNq t0 (pq (Rg c))) from zn_add 4 _, pl_pt, a10.2.1, sub, zu_ne2 (show (88 : Nat) ≠ 80 by decide), a2.2.2.1, zn_wr (by omega) (by decide), pl_pt, zu_ne1 (show (0 : Nat) ≠ 47 by decide), zu_ne2 (show (88 : Nat) ≠ 80 by decide), a2.2.2.1, zn_1, pl_pt, zu_ne2 (show (85 : Nat) ≠ 88 by decide), zu_ne1 (show (0 : Nat) ≠ 47 by decide), zu_ne2 (show (85 : Nat) ≠ 80 by decide), a2.1, show Int32.ofNat m - 1 = Int32.ofNat (m - 1) from zn_sub (b := 1) (by omega) (by omega), ← eU, pl_let, ru0 86 (by decide), h86, d1]
  obtain ⟨c', ec⟩ : ∃ c', c' = if c < m - 1 then c else 0 := ⟨_, rfl⟩
  obtain ⟨st, est⟩ : ∃ st : Int32, st = if m - 1 = 0 then 1 else 0 := ⟨_, rfl⟩
  obtain ⟨u2, f1, f2, f3, f4, f5⟩ : ∃ u2, (if (u1 0 86) < (u1 0 85) then bX12_visit_129 u1 else zpt u1 0 86 0 fun t4800 => bX12_visit_129 t4800) = some (0, u2) ∧ u2 0 86 = Int32.ofNat c' ∧ u2 0 72 = st ∧ (∀ j, ¬ (j = 72 ∨ j = 86) → u2 0 j = u1 0 j) ∧ ∀ k, ¬ k = 0 → u2 k = u1 k := by
    have e86 : u1 0 86 = Int32.ofNat c := by rw [d2 0 (by decide), ru0 86 (by decide), h86]
    have e85 : u1 0 85 = Int32.ofNat (m - 1) := by rw [d2 0 (by decide), u85]
    have e72 : u1 0 72 = 0 := by rw [d2 0 (by decide), ru0 72 (by decide), h16.2]
    have key : ∀ v : zS, v 0 85 = Int32.ofNat (m - 1) → v 0 72 = 0 → v 0 86 = Int32.ofNat c' → (∀ j, ¬ (j = 72 ∨ j = 86) → v 0 j = u1 0 j) → (∀ k, ¬ k = 0 → v k = u1 k) → ∃ u2, bX12_visit_129 v = some (0, u2) ∧ u2 0 86 = Int32.ofNat c' ∧ u2 0 72 = st ∧ (∀ j, ¬ (j = 72 ∨ j = 86) → u2 0 j = u1 0 j) ∧ ∀ k, ¬ k = 0 → u2 k = u1 k := fun v v1 v2 v3 v4 v5 => by
      unfold bX12_visit_129
      rw [v1]
      by_cases z : m - 1 = 0
      · rw [if_pos z] at est
        rw [z, if_pos (show Int32.ofNat 0 = 0 from rfl), pl_pt]
        exact ⟨_, rfl, by rw [zu_ne2 (by decide)]; exact v3, by rw [zu_same, est], fun j hj => by rw [zu_ne2 (by omega)]; exact v4 j hj, fun k hk => by rw [zu_row hk]; exact v5 k hk⟩
      · rw [if_neg z] at est
        rw [if_neg (show ¬ Int32.ofNat (m - 1) = 0 from fun w => z ((zn_inj (b := 0) (by omega) (by decide)).mp w))]
        exact ⟨v, rfl, v3, by rw [est]; exact v2, v4, v5⟩
    rw [e86, e85]
    by_cases z : c < m - 1
    · rw [if_pos z] at ec
      rw [if_pos ((zn_lt (by omega) (by omega)).mpr z)]
      exact key u1 e85 e72 (by rw [ec]; exact e86) (fun _ _ => rfl) (fun _ _ => rfl)
    · rw [if_neg z] at ec
      rw [if_neg (fun w => z ((zn_lt (by omega) (by omega)).mp w)), pl_pt]
      exact key _ (by rw [zu_ne2 (by decide)]; exact e85) (by rw [zu_ne2 (by decide)]; exact e72) (by rw [zu_same, ec]; rfl) (fun j hj => zu_ne2 (by omega)) (fun k hk => zu_row hk)
  -- the class turns on
  obtain ⟨nx, enx⟩ : ∃ nx : Int32, nx = if c + 1 < m then Int32.ofNat (Rg (c + 1)) else t1 60 10 := ⟨_, rfl⟩
  have goC : (zbd (mX5_get 126 2501 (Int32.ofNat (Rg c)) t) fun r2402 t2403 => zbd (mX4_cellsOf r2402 t2403) fun r2405 t2406 => zpt t2406 7 14 ((t 7 14) - r2405) fun t2408 => zbd (mX8_leave (Int32.ofNat (Rg c)) t2408) fun r2409 t2410 => if (t2410 60 16) = 0 then bX4_visit_79 (Int32.ofNat (Rg c)) 1 t2410 else bX4_visit_79 (Int32.ofNat (Rg c)) 0 t2410) = some (0, zu (zu t1 7 16 st) 7 13 nx) := by
    have v79 : ∀ y, bX4_visit_79 (Int32.ofNat (Rg c)) y t1 = some (0, zu (zu t1 7 16 y) 7 13 nx) := fun y => by
      have no : mX8_nextOf (Int32.ofNat (Rg c)) (zu t1 7 16 y) = some (nx, zu t1 7 16 y) := by
        unfold mX8_nextOf
        rw [zn_get (by omega) (by decide), pl_bd, zu_ne1 (show (136 + 1 : Nat) ≠ 7 by decide), c3]
        by_cases z : c + 1 < m
        · have := (a3.1 (c + 1) z).1
          rw [if_pos z] at enx
          rw [if_pos z, if_pos (zn_0le (by omega)), zn_get (by omega) (by decide), pl_bd, zu_ne1 (show (136 + 1 : Nat) ≠ 7 by decide), c3, if_pos z, enx]
        · rw [if_neg z] at enx
          rw [if_neg z, if_neg (by decide), zu_ne1 (show (60 : Nat) ≠ 7 by decide), enx]
      unfold bX4_visit_79 bX4_visit_128
      rw [pl_pt, no, pl_bd, pl_pt]
    unfold mX4_cellsOf
    rw [zn_get (by omega) (by decide), pl_bd, (a1.2.2.2.2.2.1 c hc).1, zn_get (by omega) (by decide), pl_bd, pl_bd, r0 39 (by decide) (by decide) (by decide), n1, show (4 : Int32) + Int32.ofNat (zNq t0 (pq (Rg c))) = Int32.ofNat (4 + zNq t0 (pq (Rg c))) from zn_add 4 _, pl_pt, a10.1, sub, ← eC, c1, pl_bd, c2.2.1, v79, v79]
    by_cases z : m - 1 = 0
    · rw [if_pos z] at est
      rw [z, if_pos (show Int32.ofNat 0 = 0 from rfl), est]
    · rw [if_neg z] at est
      rw [if_neg (show ¬ Int32.ofNat (m - 1) = 0 from fun w => z ((zn_inj (b := 0) (by omega) (by decide)).mp w)), est]
  rw [goC, goM, f1]
  have rT : ∀ k, ¬ (k = 7 ∨ k = 60 ∨ k = 137 ∨ k = 139 ∨ k = 141) → zu (zu t1 7 16 st) 7 13 nx k = t k := fun k hk => by rw [zu_row (by omega), zu_row (by omega), rt k hk]
  have rT1 : ∀ k, ¬ k = 7 → zu (zu t1 7 16 st) 7 13 nx k = t1 k := fun k hk => by rw [zu_row hk, zu_row hk]
  have rT7 : ∀ j, ¬ (j = 13 ∨ j = 14 ∨ j = 16) → zu (zu t1 7 16 st) 7 13 nx 7 j = t 7 j := fun j hj => by rw [zu_ne2 (by omega), zu_ne2 (by omega), r7 j (by omega)]
  have rU : ∀ k, ¬ (k = 0 ∨ k = 46 ∨ k = 47) → u2 k = u k := fun k hk => by rw [f5 k (by omega), d2 k (by omega), ru k (by omega)]
  have rU0 : ∀ j, ¬ (j = 72 ∨ j = 80 ∨ j = 85 ∨ j = 86 ∨ j = 88) → u2 0 j = u 0 j := fun j hj => by rw [f4 j (by omega), d2 0 (by decide), ru0 j (by omega)]
  have rUC : ∀ j, ¬ (j = 72 ∨ j = 86) → u2 0 j = uC 0 j := fun j hj => by rw [f4 j hj, d2 0 (by decide)]
  refine ⟨_, _, rfl, rfl, zFa2_of (fun k hk => rT k (by omega)), ⟨fun j h1 h2 => rU0 j (by omega), fun k h1 h2 => rU k (by omega)⟩, m - 1, zCut Rg c, ⟨pq, fr, fd + 1, zfu fp fd (Rg c), sp, ac, num, H, Y, ql, MC, MR, fc, fk, rw, fq, mem2, lim, zAC_of c2 (rT1 60 (by decide)) (fun k x1 x2 => rT1 k (by omega)), ⟨by rw [rUC 85 (by decide), u85], by rw [rU0 105 (by decide)]; exact a2.2.1, by rw [rUC 88 (by decide), eU, zu_ne2 (by decide), zu_same], fun j hj => ?_, fun i hi => ?_, ?_⟩, zAP_out a3 hc, zBC_of a4 (fun j hj => by rw [rT 59 (by decide)]) (fun k x1 x2 => rT k (by omega)), zBR_of a5 (fun j hj => rU0 j (by omega)) (fun k x1 x2 => rU k (by omega)), a6, a7, a8, fun i hi => ?_, ⟨by rw [zu_ne2 (by decide), zu_ne2 (by decide), c5 7 (by decide), eC, zu_same], by rw [rUC 80 (by decide), eU, zu_ne2 (by decide), zu_ne2 (by decide), zu_ne1 (by decide), zu_same], by rw [rT7 15 (by decide)]; exact a10.2.2.1, by rw [rU0 74 (by decide)]; exact a10.2.2.2.1, m10.1, by omega, by omega⟩, zCn_of a11 (Nat.le_refl _) (fun j hj => rT7 j (by omega)) (by rw [rT1 60 (by decide), c4, eC, zu_ne1 (by decide)]) (by rw [rT 59 (by decide)]; exact ⟨rfl, rfl⟩) (rT 66 (by decide)) (fun j hj => rU0 j (by omega)) (rU 44 (by decide)), zInp_of2 a12 (rT7 8 (by decide)) (rT7 9 (by decide)) (rT 64 (by decide)) (rU0 83 (by decide)) (rU 45 (by decide))⟩, ?_, fun w => ?_⟩
  · rw [f5 47 (by decide), d2 47 (by decide), eU, zu_ne1 (by decide), zu_ne1 (by decide)]
    by_cases e : j = fd
    · rw [e, zu_same, zfu_same]
    · rw [zu_ne2 e, zfu_ne e, zu_ne1 (by decide)]; exact a2.2.2.2.1 j (by omega)
  · refine ⟨by rw [f5 46 (by decide)]; exact d3 i hi, ?_⟩
    obtain ⟨k, k1, k2, _⟩ := zCut_in (R := Rg) hi hc
    rw [k2, rU 48 (by decide), rU 49 (by decide), rU 50 (by decide)]
    exact (a2.2.2.2.2.1 k k1).2
  · refine zMR_sub (zMR_of a2.2.2.2.2.2 (rU0 94 (by decide)) (rU 51 (by decide)) (rU 52 (by decide)) (rU 53 (by decide))) (fun r hr => ?_) (fun _ _ => rfl) (fun _ _ _ _ => ⟨rfl, rfl⟩)
    obtain ⟨i, i1, i2⟩ := hr
    obtain ⟨k, k1, k2, _⟩ := zCut_in (R := Rg) i1 hc
    exact ⟨k, k1, by rw [← k2]; exact i2⟩
  · obtain ⟨k, k1, k2, _⟩ := zCut_in (R := Rg) hi hc
    rw [k2]; exact a9 k k1
  · rw [zu_ne2 (by decide), zu_same, f3]
  · rw [zu_ne2 (by decide), zu_same, est] at w
    have z : ¬ m - 1 = 0 := fun e => by rw [if_pos e] at w; exact absurd w (by decide)
    refine ⟨c', by rw [ec]; split <;> omega, ?_, f2⟩
    rw [zu_same, enx, ec]
    by_cases q : c + 1 < m
    · rw [if_pos q, if_pos (by omega)]
      unfold zCut
      rw [if_neg (by omega)]
    · rw [if_neg q, if_neg (by omega), c2.1.1, if_neg z]
theorem zVisit {G : zTxt} {f : Nat → Nat} {N M P A T Q Pa bb S F C R W V : Nat} {o : Nat → Nat × Nat} {w : Nat → Nat} {t0 u0 g : zS} {pm : Nat} {t u : zS} (hg : zGd G f N M P A T Q Pa bb S F C R W V o w t0 u0 g) (hv : zLv t0 t) (hm : zLvM S t0 u0 u) (h : zRv G f N Q t0 g pm t u) (hpm : pm < 2000000000) (h16 : t 7 16 = 0) : ∃ t2 u2, mX4_visit t = some (0, t2) ∧ mX12_visit u = some (0, u2) ∧ zFa2 t t2 ∧ zFb2 u u2 ∧ zRv G f N Q t0 g (pm + 1) t2 u2 := by
  obtain ⟨m, Rg, ⟨pq, fr, fd, fp, sp, ac, num, H, Y, ql, MC, MR, fc, fk, rw, fq, mem, lim, hd⟩, h72, hcur⟩ := h
  obtain ⟨c, hc, e13, e86⟩ := hcur h16
  have h16' : u 0 72 = 0 := by rw [← h72]; exact h16
  have p1 := (hd.2.2.1.1 c hc).1
  have fr25 := hd.2.2.1.2.2.2.1
  have mfr := hd.2.2.1.2.2.1
  have d1 := zDyn_v hd
  obtain ⟨t1, et⟩ : ∃ t1, t1 = zu t 7 11 (t 7 11 + 1) := ⟨_, rfl⟩
  obtain ⟨u1, eu⟩ : ∃ u1, u1 = zu u 0 77 (u 0 77 + 1) := ⟨_, rfl⟩
  rw [← et, ← eu] at d1
  have fa : zFa2 t t1 := by rw [et]; exact zFa2_of (fun k hk => zu_row (by omega))
  have fb : zFb2 u u1 := by rw [eu]; exact ⟨fun j h1 h2 => zu_ne2 (by omega), fun k h1 h2 => zu_row (by omega)⟩
  have hv1 : zLv t0 t1 := zLv_trans hv fa.1
  have hm1 : zLvM S t0 u0 u1 := zLvM_b2 hm fb
  have g16 : t1 7 16 = 0 ∧ u1 0 72 = 0 := ⟨by rw [et, zu_ne2 (by decide)]; exact h16, by rw [eu, zu_ne2 (by decide)]; exact h16'⟩
  have g86 : u1 0 86 = Int32.ofNat c := by rw [eu, zu_ne2 (by decide)]; exact e86
  have goC : mX4_visit t = if 0 ≤ sp (Rg c) then zbd (mX4_act (Int32.ofNat (Rg c)) (sp (Rg c)) t1) fun r2392 t2393 => if r2392 = 0 then bX4_visit_128 (Int32.ofNat (Rg c)) t2393 else zpt t2393 7 12 ((t2393 7 12) + 1) fun t2395 => zbd (mX5_get 130 2501 (Int32.ofNat (Rg c)) t2395) fun r2396 t2397 => zbd (mX5_set 130 2501 (Int32.ofNat (Rg c)) (r2396 + 1) t2397) fun r2399 t2400 => bX4_visit_128 (Int32.ofNat (Rg c)) t2400 else (zbd (mX5_get 126 2501 (Int32.ofNat (Rg c)) t1) fun r2402 t2403 => zbd (mX4_cellsOf r2402 t2403) fun r2405 t2406 => zpt t2406 7 14 ((t1 7 14) - r2405) fun t2408 => zbd (mX8_leave (Int32.ofNat (Rg c)) t2408) fun r2409 t2410 => if (t2410 60 16) = 0 then bX4_visit_79 (Int32.ofNat (Rg c)) 1 t2410 else bX4_visit_79 (Int32.ofNat (Rg c)) 0 t2410) := by
    unfold mX4_visit
    rw [pl_let, e13, zn_get (by omega) (by decide), pl_bd, (hd.1.2.2.2.2.2.1 c hc).2.1, pl_pt, ← et]
  have goM : mX12_visit u = if 0 ≤ sp (Rg c) then zbd (mX12_act (Int32.ofNat (Rg c)) (sp (Rg c)) u1) fun r4812 t4813 => if r4812 = 0 then bX12_visit_171 t4813 else zpt t4813 0 78 ((t4813 0 78) + 1) fun t4815 => zrd t4815 50 2600 (Int32.ofNat (Rg c)) fun v4816 => zwr t4815 50 2600 (Int32.ofNat (Rg c)) (v4816 + 1) fun t4819 => bX12_visit_171 t4819 else (zrd u1 48 2600 (Int32.ofNat (Rg c)) fun v4820 => zbd (mX12_processCells v4820 u1) fun r4822 t4823 => zpt t4823 0 80 ((u1 0 80) - r4822) fun t4825 => zwr t4825 47 2600 (t4825 0 88) (Int32.ofNat (Rg c)) fun t4827 => zpt t4827 0 88 ((t4827 0 88) + 1) fun t4828 => zpt t4828 0 85 ((t4828 0 85) - 1) fun t4829 => zlet (t4829 0 86) fun v4830 => lX12_visit_85 zFU v4830 t4829) := by
    unfold mX12_visit
    rw [e86, zn_rd (by omega) (by decide), (hd.2.1.2.2.2.2.1 c hc).1, pl_pt, ← eu, zn_rd (by omega) (by decide), show u1 49 (Rg c) = sp (Rg c) by rw [eu, zu_ne1 (by decide)]; exact (hd.2.1.2.2.2.2.1 c hc).2.2.1]
  rw [goC, goM]
  rcases hd.2.2.2.2.2.2.2.2.1 c hc with ⟨q, _⟩ | ⟨y, q, q2, _⟩
  · rw [q, if_neg (by decide), if_neg (by decide)]
    obtain ⟨t2, u2, z1, z2, z3, z4, z5⟩ := zGoes hg hv1 hm1 d1 hc g16 g86
    obtain ⟨m2, R2, ⟨e1, e2, e3, e4, e5, e6, e7, e8, e9, e10, e11, e12, e13, e14, e15, e16, e17, e18, z6⟩, z7⟩ := z5
    exact ⟨t2, u2, z1, z2, zFa2_trans fa z3, zFb2_trans fb z4, m2, R2, ⟨e1, e2, e3, e4, e5, e6, e7, e8, e9, e10, e11, e12, e13, e14, e15, e16, e17, e18, zDyn_pm z6 (by omega)⟩, z7⟩
  · have hy2 : y < 2147483648 := by
      have := (zPath_S hg.1 (hd.2.2.1.1 c hc).2 y q2).1
      have := (zTre_x hg.1).1
      omega
    rw [q, if_pos (zn_0le hy2), if_pos (zn_0le hy2)]
    obtain ⟨r, t2, u2, m2, R2, b1, b2, b3, b4, b5, b6, b7, b8, b9, ⟨pq2, fr2, fd2, fp2, sp2, ac2, num2, H2, Y2, ql2, MC2, MR2, fc2, fk2, rw2, fq2, mem2, lim2, b10⟩⟩ := zAct hg hv1 hm1 d1 hc q hy2 hpm g16
    have x86 : u2 0 86 = Int32.ofNat c := by rw [b5.2.1]; exact g86
    have eR : R2 c = Rg c := b7 c hc
    rw [b1, b2, pl_bd, pl_bd]
    rcases b3 with e | e
    · subst e
      rw [if_pos rfl, if_pos rfl, ← eR]
      obtain ⟨t3, u3, z1, z2, z3, z4, z5⟩ := zTurn b10 (show c < m2 by omega) b8 x86
      exact ⟨t3, u3, z1, z2, zFa2_trans fa (zFa2_trans (zAo_fa b4) z3), zFb2_trans fb (zFb2_trans (zAo_fb b5) z4), z5⟩
    · subst e
      have p25 : Rg c < 2501 := by omega
      have e131 : t2 131 (Rg c) = ac2 (Rg c) := by have := (b10.1.2.2.2.2.2.1 c (by omega)).2.2; rw [eR] at this; exact this
      have e50 : u2 50 (Rg c) = ac2 (Rg c) := by have := (b10.2.1.2.2.2.2.1 c (by omega)).2.2.2; rw [eR] at this; exact this
      have d3 := zDyn_a (p := Rg c) (v := ac2 (Rg c) + 1) b10
      rw [if_neg pl_10, if_neg pl_10, pl_pt, zn_get p25 (by decide), pl_bd, zu_ne1 (show (130 + 1 : Nat) ≠ 7 by decide), e131, zn_set p25 (by decide), pl_bd, pl_pt, zn_rd (by omega) (by decide), zu_ne1 (show (50 : Nat) ≠ 0 by decide), e50, zn_wr (by omega) (by decide)]
      have hx16 : zu (zu t2 7 12 (t2 7 12 + 1)) 131 (Rg c) (ac2 (Rg c) + 1) 7 16 = zu (zu u2 0 78 (u2 0 78 + 1)) 50 (Rg c) (ac2 (Rg c) + 1) 0 72 := by rw [zu_ne1 (by decide), zu_ne2 (by decide), zu_ne1 (by decide), zu_ne2 (by decide)]; exact b8
      have hx86 : zu (zu u2 0 78 (u2 0 78 + 1)) 50 (Rg c) (ac2 (Rg c) + 1) 0 86 = Int32.ofNat c := by rw [zu_ne1 (by decide), zu_ne2 (by decide)]; exact x86
      obtain ⟨t3, u3, z1, z2, z3, z4, z5⟩ := zTurn d3 (show c < m2 by omega) hx16 hx86
      rw [eR] at z1
      refine ⟨t3, u3, z1, z2, zFa2_trans fa (zFa2_trans (zAo_fa b4) (zFa2_trans (zFa2_of (fun k hk => ?_)) z3)), zFb2_trans fb (zFb2_trans (zAo_fb b5) (zFb2_trans ⟨fun j h1 h2 => ?_, fun k h1 h2 => ?_⟩ z4)), z5⟩
      · rw [zu_row (by omega), zu_row (by omega)]
      · rw [zu_ne1 (by decide), zu_ne2 (by omega)]
      · rw [zu_row (by omega), zu_row (by omega)]
