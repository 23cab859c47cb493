/-! a proc, whole -/
theorem zProc {G : zTxt} {i : Nat} {f : Nat → Nat} {N M P A T Q Pa bb S F C R W V q : Nat} {o : Nat → Nat × Nat} {w : Nat → Nat} {t u : zS} (h : zTop G i f N M P A T Q Pa bb S F C R W V q o w t u) (hk : t 5 9 = 1) :
    ∃ t2 u1 u2, mX7_readProc t = some (0, t2) ∧ mX12_next u = some (0, u1) ∧ mX12_proc u1 = some (0, u2) ∧ Q < 300 ∧ zPrO G i T Q t u t2 u2 := by
  obtain ⟨h1, h2, h3, h4⟩ := h
  obtain ⟨t1, u1, a1, a2, a3, a4, a5, a6, a7, a8⟩ := zTB_step h1 (by rw [hk]; decide)
  have hl := zAt_lt a3.1
  have hm1 := zAt_m1 a3.1
  have fR := zFP_rS a7
  have fM := zFP_M (zFP_N a8)
  have hS : S ≤ 1000 := by
    have := h4.2.2.2.2.1
    have := zAt_lt h1.1
    omega
  have D1 := zDs2_T h2 (zFP_S a7) (zFP_N a8) (fun _ _ => rfl) (Nat.le_refl _)
  have P1 := zPs2_D h3 (zFP_DC (zFP_S a7)) (zFP_DM (zFP_N a8)) (fun _ _ => rfl) (Nat.le_refl _) hS
  have hQ : Q < 300 := by
    have e1 := h4.2.2.2.2.2.2.2.2.2.2.2.2.2
    obtain ⟨c1, c2, c3⟩ := zAt_kw (k := 1) h1.1 (by decide) hk
    have e2 := (h1.1.1.2.2.1 i c1).1
    have e3 := h1.1.2.2.2.1
    omega
  suffices hh : ∃ t2 u2, mX7_readProc t = some (0, t2) ∧ mX12_proc u1 = some (0, u2) ∧ zPrO G i T Q t u t2 u2 by
    obtain ⟨t2, u2, x1, x2, x3⟩ := hh
    exact ⟨t2, u1, u2, x1, a2, x2, hQ, x3⟩
  unfold mX7_readProc mX12_proc
  rw [a1, pl_bd]
  have no : ∃ t2 u2, bX7_readProc_27 t1 = some (0, t2) ∧ bX12_proc_15 u1 = some (0, u2) ∧ zGE t u t2 u2 ∧ u2 0 9 = u1 0 6 := by
    obtain ⟨t2, u2, c1, c2, c3, c4, c5, _⟩ := zAt_no a3.1
    unfold bX7_readProc_27 bX12_proc_15
    rw [c1, pl_bd, c2, pl_bd]
    refine ⟨_, _, rfl, rfl, zGE_fr c3 c4 c5 fR fM, ?_⟩
    unfold mX12_fails at c2
    rw [if_neg (by rw [hm1.2]; decide), pl_pt] at c2
    unfold bX12_fails_12 at c2
    rw [pl_pt] at c2
    rw [← (Prod.mk.inj (Option.some.inj c2)).2]
    simp (disch := first | omega | decide | assumption) only [zu_same, zu_ne1, zu_ne2, zu_row, pl_bd, pl_pt, pl_let, zn_set, zn_get, zn_rd, zn_wr, zn_1, zn_m, Nat.reduceAdd]
  obtain ⟨tn, un, n1, n2, n3, n4⟩ := no
  by_cases c : t1 5 9 = 17
  · obtain ⟨v, x, v1, v2, v3, v4, v5⟩ := zAt_nmv a3.1 c
    obtain ⟨p1, p2⟩ := zpos_key (k := 1) h1.1 a3.1 (Or.inr rfl) hk c
    rw [if_pos c, if_pos ((zAt_nm a3.1).mpr c), if_pos (show u1 0 9 < 0 by rw [hm1.2]; decide)]
    unfold mX6_find
    rw [v1, zn_get v4 (by decide), pl_bd, pl_bd]
    by_cases q0 : t1 33 v < 0
    · rw [if_pos q0]
      have hno : t1 33 v = -1 := by
        rcases P1.2.2.2.2.1.1 v v4 with e | ⟨k, k1, k2, _⟩
        · exact e
        · rw [k2] at q0
          exact absurd (zn_0le (by omega)) (Int32.not_le.mpr q0)
      have hnk : ∀ k, 0 ≤ k → k < Q → ¬ u1 28 k = Int32.ofNat x := by
        intro k _ hkQ e
        obtain ⟨v', x', y1, y2, y3, y4⟩ := P1.2.2.2.2.1.2 k hkQ
        rw [e] at y2
        have l1 := zLs_lt v5
        have l2 := zLs_lt y3
        have l3 := zBk_len a3.1
        have ex := (zn_inj (by omega) (by omega)).mp y2
        subst ex
        rw [v5] at y3
        have ev := Option.some.inj y3
        subst ev
        rw [hno] at y4
        exact absurd (show (0 : Int32) ≤ -1 by rw [y4]; exact zn_0le (by omega)) zn_m1
      have hd := pl_dupNo P1.2.1 (by omega) v2 Q 0 (zFU - Q - 1) (by omega) hnk
      rw [show zFU - Q - 1 + Q + 1 = zFU by unfold zFU; omega] at hd
      rw [show lX12_proc_27 zFU 0 u1 = _ from hd]
      have tb : mX6_begin (Int32.ofNat v) t1 = some (0, zqC t1 Q Pa v) := by
        unfold mX6_begin zqC
        have e10 := P1.1
        have e9 := P1.2.2.1
        rw [e10, zn_set v4 (by decide), pl_bd]
        simp (disch := first | omega | decide | assumption) only [zu_same, zu_ne1, zu_ne2, zu_row, pl_bd, pl_pt, pl_let, zn_set, zn_get, zn_rd, zn_wr, zn_1, zn_m, Nat.reduceAdd, e10, e9]
      have ub : bX12_proc_27 (lX12_proc_27 (zFU - Q - 1)) (Int32.ofNat Q) u1 = bPrM (zqM u1 Q x bb) := by
        unfold bX12_proc_27 bPrM zqM
        have e44 := P1.2.1
        have e31 := P1.2.2.2.1
        rw [if_pos (show u1 0 44 ≤ Int32.ofNat Q by rw [e44, zn_le (by omega) (by omega)]; omega), if_pos (show u1 0 9 < 0 by rw [hm1.2]; decide)]
        simp (disch := first | omega | decide | assumption) only [zu_same, zu_ne1, zu_ne2, zu_row, pl_bd, pl_pt, pl_let, zn_set, zn_get, zn_rd, zn_wr, zn_1, zn_m, Nat.reduceAdd, e44, e31, v2]
      rw [v1, tb, pl_bd, ub]
      have hB := zPh_begin (y := i + 1) a3 D1 P1 hS hQ v4 v5 hno
      have r : ∀ k, ¬ (k = 4 ∨ k = 33 ∨ k = 35 ∨ k = 37 ∨ k = 39) → zqC t1 Q Pa v k = t1 k := fun k hk => by unfold zqC; simp (disch := first | omega | decide | assumption) only [zu_same, zu_ne1, zu_ne2, zu_row, pl_bd, pl_pt, pl_let, zn_set, zn_get, zn_rd, zn_wr, zn_1, zn_m, Nat.reduceAdd]
      have hN : zHN (i + 1) 0 N M P A bb Pa 0 S F C R W V q (zqC t1 Q Pa v) := by
        unfold zHN
        rw [r 9 (by decide), r 13 (by decide), a5, a6]
        obtain ⟨m1, m2, m3, m4, m5, m6, m7, m8, m9, m10, m11, m12, m13, m14⟩ := h4
        clear hB P1 D1 h1 h2 h3
        refine ⟨?_, ?_, ?_, ?_, ?_, ?_, ?_, ?_, ?_, ?_, ?_, ?_, ?_⟩ <;> omega
      have hz : 9 * T + 10 * Q + 5 ≤ zpos G.1 G.2.1 (i + 1) := by
        have := h4.2.2.2.2.2.2.2.2.2.2.2.2.2
        omega
      obtain ⟨t2, u2, b1, b2, b3⟩ := zPrTail (t0 := t) (u0 := u) hB (by rw [r 5 (by decide)]; exact c) hN hz (zFP_trans fR zqC_fr) (zFP_trans fM zqM_fr)
      refine ⟨t2, u2, b1, b2, ?_⟩
      rcases b3 with ⟨i2, f2, N2, M2, P2, A2, Pa2, bb2, S2, F2, C2, R2, W2, V2, q2, o2, w2, g1, g2⟩ | b3
      · exact Or.inl ⟨i2, f2, N2, M2, P2, A2, Pa2, bb2, S2, F2, C2, R2, W2, V2, q2, o2, w2, by omega, g2⟩
      · exact Or.inr b3
    · rw [if_neg q0, n1]
      have hex : ∃ k0, k0 < Q ∧ u1 28 k0 = Int32.ofNat x := by
        rcases P1.2.2.2.2.1.1 v v4 with e | ⟨k, k1, k2, y, k3, k4⟩
        · exact absurd (by rw [e]; decide) q0
        · have := zB_inj k4 v5
          subst this
          exact ⟨k, k1, k3⟩
      obtain ⟨k0, k1, k2⟩ := hex
      have h6 : 0 ≤ u1 0 6 := by
        have := (zAt_w a3.1).2
        rw [← this.1, this.2.1]
        exact zn_0le (by omega)
      have hd := pl_dupYes P1.2.1 (by omega) v2 hm1.2 h6 k1 k2 Q 0 (zFU - Q - 1) (by omega) (Nat.zero_le _)
      rw [show zFU - Q - 1 + Q + 1 = zFU by unfold zFU; omega] at hd
      rw [show lX12_proc_27 zFU 0 u1 = _ from hd]
      refine ⟨_, _, rfl, rfl, Or.inr ⟨⟨n3.1.1, n3.1.2.1, ?_⟩, n3.2.1, zFP_zu fM rfl⟩⟩
      rw [zu_same, ← n4]
      exact n3.1.2.2
  · rw [if_neg c, if_neg (fun e => c ((zAt_nm a3.1).mp e)), n1, n2]
    exact ⟨_, _, rfl, rfl, Or.inr n3⟩
