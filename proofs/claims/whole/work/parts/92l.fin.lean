/-! a proc is done -/
theorem zPd_new {G : zTxt} {i2 : Nat} {f : Nat → Nat} {N Q Pa j n2 bb S2 : Nat} {o2 : Nat → Nat × Nat} {r r' : Int32} {t2 u2 t3 u3 : zS} (hi : i2 ≤ G.2.2.1) (hsl : zSl G i2 Q bb n2 t2 u2) (hn : j ≤ n2) (hn2 : n2 ≤ 9000) (e37 : t3 37 Q = Int32.ofNat j) (e35 : t3 35 Q = Int32.ofNat Pa) (e32 : u3 32 Q = Int32.ofNat j) (e39 : t3 39 = t2 39) (e31 : u3 31 = u2 31) (hp : ∀ l, l < j → zPm f N (t3 45 (Pa + l)) (u3 34 (bb + l))) (e41 : t3 41 Q = r) (e29 : u3 29 Q = r') (e43 : t3 43 Q = u3 30 Q ∧ 0 ≤ t3 43 Q) (hr : (r = -1 ∧ r' = -1) ∨ ∃ s, s < S2 ∧ r = Int32.ofNat s ∧ r' = Int32.ofNat s ∧ (o2 s = (0, Q) ∧ o2 (10000 + s) = (s, 0)) ∧ t3 101 s = -1) : zPd G f N S2 (Pa + j) (bb + n2) o2 t3 u3 Q := by
  obtain ⟨s1, s2, s3, s4, s5, s6, s7, m, s8, s9⟩ := hsl
  refine ⟨n2, bb, j, Pa, by rw [e39]; exact s3, by rw [e31]; exact s4, by rw [e31]; exact s5, Nat.le_refl _, e37, e32, hn, e35, Nat.le_refl _, hp, by rw [e41, e29]; exact hr, e43, m, fun k hk => zWd_mono (s8 k hk).2.2.2.2 hi, fun a b ha hb hab => ?_⟩
  have x1 := (s8 a ha).2.2.1
  have x2 := (s8 b hb).2.2.1
  rw [hab] at x1
  exact (zn_inj (by omega) (by omega)).mp (x1.symm.trans x2)
theorem zTop_nums {G : zTxt} {i i2 N M P A T Q Pa j bb n2 S F C R W V q S2 F2 C2 R2 W2 V2 q2 : Nat} {t t3 t0 u0 : zS} (h : zHN i 0 N M P A bb Pa j S F C R W V q t) (ha : zAt G i2 t0 u0) (hz : 9 * T + 10 * Q + 8 ≤ zpos G.1 G.2.1 i) (hi : i + 2 ≤ i2) (hF : zBF (i + 2) S j F C R W V q i2 S2 n2 F2 C2 R2 W2 V2 q2) (hW : zW (t3 9) (t3 13) N = zW (t 9) (t 13) N) : zTN G i2 N M P A T (Q + 1) (Pa + j) (bb + n2) S2 F2 C2 R2 W2 V2 q2 t3 := by
  have hm := ha.2.2.2.2.1
  have hp := zpos_inc ha (i2 - i) i (by omega)
  rw [show i + (i2 - i) = i2 by omega] at hp
  obtain ⟨n1, n2', n3, n4, n5, n6, n7, n8, n9, n10, n11, n12, n13⟩ := h
  obtain ⟨f1, f2, f3, f4, f5, f6, f7, f8⟩ := hF
  unfold zTN
  rw [hW]
  clear ha hW hm
  refine ⟨?_, ?_, n3, ?_, ?_, ?_, ?_, ?_, ?_, ?_, ?_, ?_, ?_, ?_⟩ <;> omega
theorem zTop_blk {G : zTxt} {i i2 : Nat} {f : Nat → Nat} {N M P A T Q Pa j bb S F C R W V q S2 n2 F2 C2 R2 W2 V2 q2 : Nat} {o o2 : Nat → Nat × Nat} {w w2 : Nat → Nat} {r r' : Int32} {t u t2 u2 : zS} (h : zPh G i 0 f N M P A T Q Pa j j i bb S F C R W V q o w t u) (h32 : u 32 Q = Int32.ofNat j) (hN : zHN i 0 N M P A bb Pa j S F C R W V q t) (hz : 9 * T + 10 * Q + 8 ≤ zpos G.1 G.2.1 i) (hB : zBB G i2 0 Q bb 0 f N M A S2 n2 F2 C2 R2 W2 V2 q2 o2 w2 [] [] t2 u2) (hX : zBX Q bb 0 S j F C R W V q S2 n2 F2 C2 R2 W2 V2 q2 o o2 w w2 t u t2 u2) (hF : zBF (i + 2) S j F C R W V q i2 S2 n2 F2 C2 R2 W2 V2 q2) (hi : i + 2 ≤ i2) (hr : (r = -1 ∧ r' = -1) ∨ ∃ s, r = Int32.ofNat s ∧ r' = Int32.ofNat s ∧ S ≤ s ∧ s < S2 ∧ (o2 s = (0, Q) ∧ o2 (10000 + s) = (s, 0)) ∧ t2 101 s = -1) (h14 : t2 5 14 = u2 0 61 ∧ 0 ≤ t2 5 14) :
    zTop G i2 f N M P A T (Q + 1) (Pa + j) (bb + n2) S2 F2 C2 R2 W2 V2 q2 o2 w2 (zu (zu t2 41 Q r) 43 Q (t2 5 14)) (zu (zu u2 29 Q r') 30 Q (u2 0 61)) := by
  have hl := zAt_lt hB.1.1
  have bd : N ≤ 3000 ∧ M ≤ 3000 ∧ P ≤ 3000 ∧ A ≤ 3000 ∧ S ≤ 1000 ∧ bb + j ≤ 3000 ∧ n2 ≤ 6000 ∧ S2 ≤ 1000 ∧ Pa + j ≤ 3000 ∧ T ≤ 3000 := by
    have hpz : zpos G.1 G.2.1 i ≤ 3000 := by
      have a1 := h.1.1.2.2.2.1
      have a2 := h.1.1.2.2.2.2.1
      have a4 := zpos_inc h.1.1 (G.2.2.1 - i) i (by omega)
      rw [show i + (G.2.2.1 - i) = G.2.2.1 by omega, h.1.1.1.1] at a4
      omega
    obtain ⟨n1, n2', n3, n4, n5, n6, n7, n8, n9, n10, n11, n12, n13⟩ := hN
    obtain ⟨f1, f2, f3, f4, f5, f6, f7, f8⟩ := hF
    clear hX hB h
    refine ⟨?_, ?_, ?_, ?_, ?_, ?_, ?_, ?_, ?_, ?_⟩ <;> omega
  obtain ⟨d1, d2, d3, d4, d5, d6, d7, d8, d9, d10⟩ := bd
  obtain ⟨⟨b1, b2, b3, b4, b5, b6⟩, h2, ⟨a1, a2, a3, a4, a5, a6, a7, a8, a9, a10, a11, a12, a13, a14, a15, a16⟩, h4, h5, h6, h7⟩ := h
  obtain ⟨⟨c1, c2, c3, c4, c5, c6⟩, c7, c8, c9, c10, c11, c12, c13, c14, c15, c16, c17, c18⟩ := hB
  have XC := zBX_C hX
  have XM := zBX_M hX
  have XF : zF0 u u2 := hX.2.2.2.2.2.2.2.2.2.2.2.2
  have hQ := h4.2.2.2.2.2.1
  have ho := hX.2.2.2.2.2.2.2.2.1
  have hn := hX.2.1
  have hSS := hX.1
  have B2 : zTB G S2 0 i2 0 f [] N M P A q2 t2 u2 := ⟨c1, c2, c3, zTD_lm b4 ⟨by omega, by omega, by omega, by omega⟩ (XC 3 13 (by decide) (by decide)) (XC 3 14 (by decide) (by decide)) (XF 14 (by decide)) (XF 19 (by decide)) (fun k y hy hk => XC k y hy (by omega)) (fun k y hy hk => XM k y hy (by omega)), c7, c14⟩
  have D2 : zDs2 G f N T t2 u2 := zDs2_lm h2 (by omega) (XC 3 15 (by decide) (by decide)) (XF 22 (by decide)) (fun k y hy hk => XC k y hy (by omega)) (fun k y hy hk => XM k y hy (by omega))
  have rt : ∀ k, ¬ (k = 41 ∨ k = 43) → zu (zu t2 41 Q r) 43 Q (t2 5 14) k = t2 k := fun k hk => by simp (disch := first | omega | decide | assumption) only [zu_same, zu_ne1, zu_ne2, zu_row, pl_bd, pl_pt, pl_let, zn_set, zn_get, zn_rd, zn_wr, zn_1, zn_m, Nat.reduceAdd]
  have gu : ∀ k, ¬ (k = 29 ∨ k = 30) → zu (zu u2 29 Q r') 30 Q (u2 0 61) k = u2 k := fun k hk => by simp (disch := first | omega | decide | assumption) only [zu_same, zu_ne1, zu_ne2, zu_row, pl_bd, pl_pt, pl_let, zn_set, zn_get, zn_rd, zn_wr, zn_1, zn_m, Nat.reduceAdd]
  have hW : zW (zu (zu t2 41 Q r) 43 Q (t2 5 14) 9) (zu (zu t2 41 Q r) 43 Q (t2 5 14) 13) N = zW (t 9) (t 13) N := by
    rw [rt 9 (by decide), rt 13 (by decide)]
    exact zW_congr N (fun c hc => ⟨XC 9 c (by omega) (by decide), fun _ => XC 13 c (by omega) (by decide)⟩)
  refine ⟨zTB_tu B2 (fun k hk => rt k (by omega)) (by rw [rt 3 (by decide)]) (by rw [rt 3 (by decide)]) (fun k hk => gu k (by omega)) (fun k _ => by rw [gu 0 (by decide)]), zDs2_rows D2 (by rw [rt 3 (by decide)]) (by rw [gu 0 (by decide)]) (fun k hk => rt k (by omega)) (fun k hk => gu k (by omega)), ?_, zTop_nums hN c1 hz hi hF hW⟩
  have q37 : zu (zu t2 41 Q r) 43 Q (t2 5 14) 37 Q = Int32.ofNat j := by rw [rt 37 (by decide), XC 37 Q (by omega) (by decide)]; exact h5
  have q35 : zu (zu t2 41 Q r) 43 Q (t2 5 14) 35 Q = Int32.ofNat Pa := by rw [rt 35 (by decide), XC 35 Q (by omega) (by decide)]; exact h6
  have q32 : zu (zu u2 29 Q r') 30 Q (u2 0 61) 32 Q = Int32.ofNat j := by rw [gu 32 (by decide), XM 32 Q (by omega) (by decide)]; exact h32
  have new : zPd G f N S2 (Pa + j) (bb + n2) o2 (zu (zu t2 41 Q r) 43 Q (t2 5 14)) (zu (zu u2 29 Q r') 30 Q (u2 0 61)) Q := by
    refine zPd_new (r := r) (r' := r') c1.2.2.2.2.1 c4 hn (by omega) q37 q35 q32 (rt 39 (by decide)) (gu 31 (by decide)) (fun l hl' => ?_) (by simp (disch := first | omega | decide | assumption) only [zu_same, zu_ne1, zu_ne2, zu_row, pl_bd, pl_pt, pl_let, zn_set, zn_get, zn_rd, zn_wr, zn_1, zn_m, Nat.reduceAdd]) (by simp (disch := first | omega | decide | assumption) only [zu_same, zu_ne1, zu_ne2, zu_row, pl_bd, pl_pt, pl_let, zn_set, zn_get, zn_rd, zn_wr, zn_1, zn_m, Nat.reduceAdd]) (by simp (disch := first | omega | decide | assumption) only [zu_same, zu_ne1, zu_ne2, zu_row, pl_bd, pl_pt, pl_let, zn_set, zn_get, zn_rd, zn_wr, zn_1, zn_m, Nat.reduceAdd]; exact h14) ?_
    · rw [rt 45 (by decide), gu 34 (by decide), XC 45 _ (by omega) (by decide), XM 34 _ (by omega) (by decide)]
      exact h7 l hl'
    · rcases hr with e | ⟨s, s1, s2, s3, s4, s5, s6⟩
      · exact Or.inl e
      · exact Or.inr ⟨s, s4, s1, s2, s5, by rw [rt 101 (by decide)]; exact s6⟩
  refine ⟨by rw [rt 4 (by decide)]; exact c4.1, ?_, ?_, by rw [gu 31 (by decide)]; exact c4.2.2.2.2.1, ?_, fun v hv => ?_, fun x hx => ?_, by rw [rt 51 (by decide)]; exact c5, by rw [gu 0 (by decide)]; exact c6, by rw [rt 52 (by decide)]; exact c8, by rw [gu 0 (by decide)]; exact c9, by rw [rt 51 (by decide)]; exact c10, by rw [gu 0 (by decide)]; exact c11, by rw [rt 52 (by decide)]; exact c12, by rw [gu 0 (by decide)]; exact c13, fun s hs => ?_⟩
  · rw [gu 0 (by decide), XF 44 (by decide)]; exact a2
  · rw [rt 4 (by decide), XC 4 9 (by decide) (by decide)]; exact a3
  · rw [rt 33 (by decide), gu 28 (by decide)]
    exact zBy_lm a5 (fun v hv => XC 33 v (by omega) (by decide)) (fun k hk => XM 28 k (by omega) (by decide))
  · rw [rt 49 (by decide)]
    rcases c4.2.2.2.2.2.2.1 v hv with e | ⟨x, x1, x2⟩
    · exact Or.inl e
    · exact Or.inr ⟨x, by omega, x2⟩
  · by_cases e : x = Q
    · subst e; exact new
    · have hxQ : x < Q := by omega
      refine zPd_ext (a7 x hxQ) (fun _ _ => rfl) (Nat.le_refl _) hSS (Nat.le_refl _) (Nat.le_add_right _ _) ho (fun k hk => ?_) (fun k hk => ?_) ?_ (fun y hy => ?_) (fun y hy => ?_) (fun s hs => ?_)
      · have e1 : zu (zu t2 41 Q r) 43 Q (t2 5 14) k x = t2 k x := by
          rw [zu_ne2 e, zu_ne2 e]
        rw [e1]
        by_cases e39 : k = 39
        · subst e39; exact zBX_39 hX hxQ
        · exact XC k x (by omega) (by omega)
      · have e1 : zu (zu u2 29 Q r') 30 Q (u2 0 61) k x = u2 k x := by
          rw [zu_ne2 e, zu_ne2 e]
        rw [e1]
        by_cases e31 : k = 31
        · subst e31; exact zBX_31 hX (by omega)
        · exact XM k x (by omega) (by omega)
      · rw [gu 31 (by decide)]; exact zBX_31 hX (by omega)
      · rw [rt 45 (by decide)]; exact XC 45 y (by omega) (by decide)
      · rw [gu 34 (by decide)]; exact XM 34 y (by omega) (by decide)
      · rw [rt 101 (by decide)]; exact zBX_rC hX hs 101 (by decide)
  · obtain ⟨p1, p2⟩ := c18 s hs
    have nm : ∀ (x : Nat), ¬ x ∈ ([] : List Nat) := fun x hx => by cases hx
    have k1 := c16 s hs (nm s)
    have k2 := c17 s hs (nm s)
    have rS : ∀ k, 75 ≤ k ∧ k ≤ 115 → zu (zu t2 41 Q r) 43 Q (t2 5 14) k = t2 k := fun k hk => rt k (by omega)
    have gS : ∀ k, 14 ≤ k ∧ k ≤ 27 → zu (zu u2 29 Q r') 30 Q (u2 0 61) k = u2 k := fun k hk => gu k (by omega)
    exact ⟨zStm_ext k1 hs (Nat.le_refl _) (Nat.le_refl _) (Nat.le_refl _) (Nat.le_refl _) (Nat.le_refl _) (Nat.le_refl _) (fun _ _ => rfl) (fun k hk => by rw [rS k (by omega)]) (fun k hk => by rw [gS k (by omega)]) (fun x _ => by rw [rS 101 (by decide)]) (fun x _ => ⟨by rw [rS 75 (by decide)], by rw [rS 77 (by decide)]⟩) (fun c _ => by rw [gS 27 (by decide)]) (fun x _ => ⟨by rw [rS 79 (by decide)], by rw [rS 81 (by decide)], by rw [rS 83 (by decide)]⟩) (fun x _ => ⟨by rw [gS 25 (by decide)], by rw [gS 26 (by decide)]⟩) (fun x _ hw => ⟨hw, by rw [rS 109 (by decide)], by rw [rS 111 (by decide)], by rw [rS 115 (by decide)]⟩) (fun x _ => ⟨by rw [gS 23 (by decide)], by rw [gS 24 (by decide)]⟩) (fun m hm hm2 => ⟨m, by rw [rt 39 (by decide)]; exact hm, Nat.le_refl _, hm2⟩), zLn_ext k2 p1 hs (Nat.le_refl _) d8 (fun _ _ => rfl) (by rw [rS 99 (by decide)]) (by rw [gS 21 (by decide)]) (by rw [gS 22 (by decide)]) (fun x _ => by rw [rS 101 (by decide)]) (fun x _ => by rw [rS 87 (by decide)]), zPa_ext p1 hs (fun _ _ => rfl) (by rw [rS 101 (by decide)]) (fun x _ => by rw [rS 87 (by decide)]) (by rw [rS 107 (by decide)]), by omega⟩
