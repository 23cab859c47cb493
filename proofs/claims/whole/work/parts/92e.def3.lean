/-! type NAME = TYPE ; whole -/
theorem zDef {G : zTxt} {i : Nat} {f : Nat → Nat} {N M P A T Q Pa bb S F C R W V q : Nat} {o : Nat → Nat × Nat} {w : Nat → Nat} {t u : zS} (h : zTop G i f N M P A T Q Pa bb S F C R W V q o w t u) (hk : t 5 9 = 0) :
    ∃ t2 u1 u2, mX7_readDefinition t = some (0, t2) ∧ mX12_next u = some (0, u1) ∧ mX12_namedType u1 = some (0, u2) ∧ ((∃ i2 f2 N2 M2 P2 A2 q2, i < i2 ∧ zTop G i2 f2 N2 M2 P2 A2 (T + 1) Q Pa bb S F C R W V q2 o w t2 u2 ∧ zFP zpR t t2 ∧ zFP zpM u u2) ∨ zGE t u t2 u2) := by
  obtain ⟨h1, h2, h3, h4⟩ := h
  obtain ⟨t1, u1, a1, a2, a3, a4, a5, a6, a7, a8⟩ := zTB_step h1 (by rw [hk]; decide)
  have hl := zAt_lt a3.1
  have hm1 := zAt_m1 a3.1
  have fR := zFP_rS a7
  have fM := zFP_M (zFP_N a8)
  have hS : S ≤ 1000 := by
    have := h4.2.2.2.2.1
    have := zAt_lt h1.1
    omega
  have D1 := zDs2_T h2 (zFP_S a7) (zFP_N a8) (fun _ _ => rfl) (Nat.le_refl _)
  have P1 := zPs2_D h3 (zFP_DC (zFP_S a7)) (zFP_DM (zFP_N a8)) (fun _ _ => rfl) (Nat.le_refl _) hS
  suffices hh : ∃ t2 u2, mX7_readDefinition t = some (0, t2) ∧ mX12_namedType u1 = some (0, u2) ∧ ((∃ i2 f2 N2 M2 P2 A2 q2, i < i2 ∧ zTop G i2 f2 N2 M2 P2 A2 (T + 1) Q Pa bb S F C R W V q2 o w t2 u2 ∧ zFP zpR t t2 ∧ zFP zpM u u2) ∨ zGE t u t2 u2) by
    obtain ⟨t2, u2, x1, x2, x3⟩ := hh
    exact ⟨t2, u1, u2, x1, a2, x2, x3⟩
  unfold mX7_readDefinition mX12_namedType
  rw [a1, pl_bd]
  have no : ∃ t2 u2, bX7_readDefinition_27 t1 = some (0, t2) ∧ bX12_namedType_26 u1 = some (0, u2) ∧ zGE t u t2 u2 := by
    obtain ⟨t2, u2, c1, c2, c3, c4, c5, _⟩ := zAt_no a3.1
    unfold bX7_readDefinition_27 bX12_namedType_26
    rw [c1, pl_bd, c2, pl_bd]
    exact ⟨_, _, rfl, rfl, zGE_fr c3 c4 c5 fR fM⟩
  obtain ⟨tn, un, n1, n2, n3⟩ := no
  by_cases c : t1 5 9 = 17
  · obtain ⟨v, x, v1, v2, v3, v4, v5⟩ := zAt_nmv a3.1 c
    obtain ⟨p1, p2⟩ := zpos_key (k := 0) h1.1 a3.1 (Or.inl rfl) hk c
    have hT : T < 400 := by
      have := h4.2.2.2.2.2.2.2.2.2.2.2.2.2
      omega
    rw [if_pos c, if_pos ((zAt_nm a3.1).mpr c), if_neg (show ¬ 0 ≤ u1 0 9 by rw [hm1.2]; decide)]
    unfold mX2_find
    rw [v1, zn_get v4 (by decide), pl_bd, pl_bd, v2, pl_typeOfId a3.1 D1.2.2.1 D1.2.1 (by omega) v4 v5, pl_bd]
    by_cases q0 : t1 25 v < 0
    · rw [if_pos q0, if_pos q0]
      have hno : t1 25 v = -1 := by
        rcases D1.2.2.1.1 v v4 with e | ⟨k, k1, k2, _⟩
        · exact e
        · rw [k2] at q0
          exact absurd (zn_0le (by omega)) (Int32.not_le.mpr q0)
      unfold mX2_define
      rw [v1, D1.1, zn_set v4 (by decide), pl_bd]
      have e15 : zu t1 25 v (Int32.ofNat T) 3 15 = Int32.ofNat T := by rw [zu_ne1 (by decide)]; exact D1.1
      rw [e15, zn_set hT (by decide), pl_bd, pl_pt]
      have e16 : zu (zu t1 25 v (Int32.ofNat T)) 23 T (t1 5 10) 3 15 + 1 = Int32.ofNat (T + 1) := by rw [zu_ne1 (by decide), e15, zn_1]
      have e22 : zu (zu u1 11 T (Int32.ofNat x)) 12 T (u1 0 6) 0 22 + 1 = Int32.ofNat (T + 1) := by rw [zu_ne1 (by decide), zu_ne1 (by decide), D1.2.1, zn_1]
      rw [e16, pl_bd, zu_same, zn_m, pl_let, D1.2.1, v2, zn_wr hT (by decide), zu_ne1 (by decide), zn_wr hT (by decide), pl_pt, e22]
      obtain ⟨t2, u2, b1, b2, b3⟩ := zDefL (G := G) (v := v) (w := x) (V := V) (T := T) (t0 := t) (u0 := u) a3 c (by
        obtain ⟨m1, m2, m3, m4, m5, m6, m7, m8, m9, m10, m11, m12, m13, m14⟩ := h4
        rw [a5, a6]
        exact ⟨by omega, by omega, m3, by omega, by omega, by omega⟩) hT fR fM
      refine ⟨t2, u2, b1, b2, ?_⟩
      rcases b3 with b3 | ⟨i2, f2, N2, M2, P2, A2, q2, cc, d1, d2, d3, d4, d5, d6, d7, d8, d9, d10, d11, d12, d13, d14, d15, d16, d17, d18⟩
      · exact Or.inr b3
      · refine Or.inl ⟨i2, f2, N2, M2, P2, A2, q2, by omega, ⟨d2, ?_, ?_, zTN_def h4 d2.1 (by omega) p1 d3 d4 d5 d6 d7 d8⟩, d17, d18⟩
        · refine zDs2_def D1 v4 v5 hno hT ?_ ?_ ?_ ?_ (fun k hk2 => ?_) ?_ ⟨cc, d11, d12, d13⟩ d10 d9
          · rw [d15 3 15 rfl]; unfold zcd; rw [zu_same]
          · rw [d16 0 22 rfl]; unfold zmd; rw [zu_same]
          · rw [zFP_row 25 d15 (fun _ => rfl)]
            funext y
            unfold zcd
            by_cases e : y = v
            · rw [if_pos e]; subst e; simp (disch := first | omega | decide | assumption) only [zu_same, zu_ne1, zu_ne2, zu_row, pl_bd, pl_pt, pl_let, zn_set, zn_get, zn_rd, zn_wr, zn_1, zn_m, Nat.reduceAdd]
            · rw [if_neg e]; simp (disch := first | omega | decide | assumption) only [zu_same, zu_ne1, zu_ne2, zu_row, pl_bd, pl_pt, pl_let, zn_set, zn_get, zn_rd, zn_wr, zn_1, zn_m, Nat.reduceAdd]
          · rw [zFP_row 11 d16 (fun _ => rfl)]
            funext y
            unfold zmd
            by_cases e : y = T
            · rw [if_pos e]; subst e; simp (disch := first | omega | decide | assumption) only [zu_same, zu_ne1, zu_ne2, zu_row, pl_bd, pl_pt, pl_let, zn_set, zn_get, zn_rd, zn_wr, zn_1, zn_m, Nat.reduceAdd]
            · rw [if_neg e]; simp (disch := first | omega | decide | assumption) only [zu_same, zu_ne1, zu_ne2, zu_row, pl_bd, pl_pt, pl_let, zn_set, zn_get, zn_rd, zn_wr, zn_1, zn_m, Nat.reduceAdd]
          · rw [zFP_row 23 d15 (fun _ => rfl), zFP_row 12 d16 (fun _ => rfl), (d14 k (by omega)).1, (d14 k (by omega)).2]
            unfold zcd zmd
            have hkT : ¬ k = T := by omega
            refine ⟨?_, ?_, rfl, rfl⟩ <;> simp (disch := first | omega | decide | assumption) only [zu_same, zu_ne1, zu_ne2, zu_row, pl_bd, pl_pt, pl_let, zn_set, zn_get, zn_rd, zn_wr, zn_1, zn_m, Nat.reduceAdd]
          · rw [zFP_row 23 d15 (fun _ => rfl), zFP_row 12 d16 (fun _ => rfl)]
            unfold zcd zmd
            simp (disch := first | omega | decide | assumption) only [zu_same, zu_ne1, zu_ne2, zu_row, pl_bd, pl_pt, pl_let, zn_set, zn_get, zn_rd, zn_wr, zn_1, zn_m, Nat.reduceAdd]
            exact ⟨(zAt_w a3.1).2.1, zAt_0le a3.1⟩
        · exact zPs2_D P1 (zFP_trans (zcd_fr (T := T) (v := v)).1 (zFP_mono d15 (fun k j e => by
            unfold zpDC at e
            simp only [Bool.and_eq_true, Bool.not_eq_true', Bool.or_eq_false_iff, beq_eq_false_iff_ne] at e ⊢
            exact ⟨e.1, e.2.1.1.2⟩))) (zFP_trans (zmd_fr (T := T) (w := x)).1 (zFP_mono d16 (fun k j e => by
            unfold zpDM at e
            simp only [Bool.and_eq_true, Bool.not_eq_true', Bool.or_eq_false_iff, beq_eq_false_iff_ne] at e ⊢
            exact ⟨e.1, e.2.2⟩))) d10 d9 hS
    · rw [if_neg q0, if_neg q0, n1, n2]
      exact ⟨_, _, rfl, rfl, Or.inr n3⟩
  · rw [if_neg c, if_neg (fun e => c ((zAt_nm a3.1).mp e)), n1, n2]
    exact ⟨_, _, rfl, rfl, Or.inr n3⟩
