/-! one PARAMETER, whole; the list -/
theorem zParam {G : zTxt} {i : Nat} {f : Nat → Nat} {N M P A T Q Pa j bb S F C R W V q : Nat} {o : Nat → Nat × Nat} {w : Nat → Nat} {t0 u0 t u : zS} {kc km : Int32 → zS → zR} {c : Int32} (h : zPh G i 1 f N M P A T Q Pa j j i bb S F C R W V q o w t u) (hN : zHN i 0 N M P A bb Pa j S F C R W V q t) (ht : zFP zpR t0 t) (hu : zFP zpM u0 u) :
    zParO G (i + 1) f N T Q Pa j bb S F C R W V o w t0 u0 kc km c (bX7_readParameters_39 kc c t) (bX12_proc_168 km 1 u) := by
  have hl := zAt_lt h.1.1
  have hm1 := zAt_m1 h.1.1
  have hQ := h.2.2.2.1.2.2.2.2.2.1
  have e60 := h.2.2.2.1.2.1
  have e31 := h.2.2.2.1.2.2.2.1
  have e31' := h.2.2.2.1.2.2.2.2.1
  have hS : S ≤ 1000 := by have := hN.2.2.2.2.1; omega
  unfold bX7_readParameters_39 bX12_proc_168
  rw [if_neg pl_10, e60, zn_1, zn_rd (show Q + 1 < 301 by omega) (by decide), e31', pl_let]
  unfold mX12_own
  have no : ∃ t2 u2, mX7_refuse t = some (0, t2) ∧ mX12_fails (u 0 6) u = some (-1, u2) ∧ zGE t0 u0 t2 u2 := by
    obtain ⟨t2, u2, c1, c2, c3, c4, c5, _⟩ := zAt_no h.1.1
    exact ⟨t2, u2, c1, c2, zGE_fr c3 c4 c5 ht hu⟩
  obtain ⟨tn, un, n1, n2, n3⟩ := no
  by_cases q5 : t 5 9 = 17
  · obtain ⟨v, x, v1, v2, v3, v4, v5⟩ := zAt_nmv h.1.1 q5
    obtain ⟨w1, w2, w3, w4, w5⟩ := zAt_nmj h.1.1 q5
    have hi3 : i < 3000 := by have := h.1.1.1.2.1; have := h.1.1.2.2.2.1; omega
    have hbj : bb + j < 3000 := by have := hN.2.2.2.2.2.2.2.2.2.2.2.1; omega
    have hWd : zWd G (i + 1) v := ⟨i, by omega, w1, w2, by rw [v1] at w3; exact ((zn_inj (by omega) (by omega)).mp w3).symm⟩
    rw [if_pos q5, if_pos ((zAt_nm h.1.1).mpr q5), if_pos (show u 0 9 < 0 by rw [hm1.2]; decide), v1, v2]
    unfold mX6_hasSlot
    rw [zn_get v4 (by decide), pl_bd, h.2.2.2.1.1, zn_m]
    by_cases q6 : t 49 v = Int32.ofNat Q
    · rw [if_pos q6, pl_bd, if_neg pl_10]
      obtain ⟨k, t2, u2, m2, a1, a2, a3, a4, a5, a6, a7, a8, a9, a10, a11, a12, a13⟩ := zSl_own (zBk_len h.1.1) h.2.2.2.1 hbj v4 v5 hWd
      have e2 := a13 q6
      subst e2
      have hBu : zTB G S 0 i 1 f [] N M P A q t u2 := zTB_tu h.1 (fun _ _ => rfl) rfl rfl (fun y hy => zFP_row y a8 (fun _ => by
        unfold zpSM
        simp only [Bool.not_eq_true', Bool.or_eq_false_iff, beq_eq_false_iff_ne]
        omega)) (fun y _ => a8 0 y rfl)
      obtain ⟨t3, u3, b1, b2, b3, b4, b5, b6, b7, b8⟩ := zTB_step hBu (by rw [q5]; decide)
      rw [a2, pl_bd, b2, pl_bd, pl_bd, if_pos (zn_0le (by omega)), b8.2 60 (by decide), a6.2.1, zn_1, zn_rd (show Q + 1 < 301 by omega) (by decide), b8.1 31 (by decide) (by decide) (by decide), a6.2.2.2.2.1, if_pos rfl, pl_pt]
      unfold bX7_readParameters_62
      rw [n1, pl_bd]
      obtain ⟨t2', u2', c1, c2, c3, c4, c5, c6, c7, _⟩ := zAt_no h.1.1
      rw [n1] at c1
      have et : tn = t2' := (Prod.mk.inj (Option.some.inj c1)).2
      subst et
      refine Or.inr ⟨tn, _, rfl, rfl, ⟨n3.1.1, n3.1.2.1, ?_⟩, n3.2.1, zFP_zu (zFP_trans (zFP_trans hu (zFP_SM a8)) (zFP_M (zFP_N b8))) rfl⟩
      rw [zu_same]
      have := n3.1.2.2
      rw [n2] at c2
      have eu : un = u2' := (Prod.mk.inj (Option.some.inj c2)).2
      rw [← this]
      unfold mX12_fails at n2
      rw [if_neg (by rw [hm1.2]; decide), pl_pt] at n2
      unfold bX12_fails_12 at n2
      rw [pl_pt] at n2
      have := (Prod.mk.inj (Option.some.inj n2)).2
      rw [← this]
      simp (disch := first | omega | decide | assumption) only [zu_same, zu_ne1, zu_ne2, zu_row, pl_bd, pl_pt, pl_let, zn_set, zn_get, zn_rd, zn_wr, zn_1, zn_m, Nat.reduceAdd]
    · rw [if_neg q6, pl_bd, if_pos rfl, v1]
      obtain ⟨t2, u2, a1, a2, a3, a4, a5⟩ := zPh_slot h hS hbj v4 v5 hWd q6
      rw [a1, pl_bd, a2, pl_bd]
      obtain ⟨t3, u3, b1, b2, b3, b4, b5, b6, b7, b8⟩ := zTB_step a3.1 (by rw [a4 5 9 rfl, q5]; decide)
      rw [b1, pl_bd, b2, pl_bd, pl_bd]
      have h3 := zPh_T (y2 := i + 1) a3 b3 (Nat.le_refl _) (zFP_S b7) (zFP_N b8) (fun _ _ => rfl) (Nat.le_refl _) hS
      rw [if_pos (zn_0le (by omega)), h3.2.2.2.1.2.1, zn_1, zn_rd (show Q + 1 < 301 by omega) (by decide), h3.2.2.2.1.2.2.2.2.1, if_neg (show ¬ Int32.ofNat (bb + (j + 1)) = Int32.ofNat (bb + j) from fun e => by have := (zn_inj (by omega) (by omega)).mp e; omega), zn_rd (show Q < 301 by omega) (by decide), h3.2.2.2.1.2.2.2.1, zn_add, zn_wr hbj (by decide)]
      have h4 := zPh_34 (x := -1) h3 hS
      refine zParT h4 ?_ (zu_same _ _ _ _) (zFP_trans (zFP_trans ht (zFP_SC a4)) (zFP_rS b7)) (zFP_zu (zFP_trans (zFP_trans hu (zFP_SM a5)) (zFP_M (zFP_N b8))) rfl)
      unfold zHN at hN ⊢
      rw [b5, b6, zFP_row 9 a4 (fun _ => rfl), zFP_row 13 a4 (fun _ => rfl)]
      exact hN
  · rw [if_neg q5, if_neg (fun e => q5 ((zAt_nm h.1.1).mp e))]
    unfold bX12_own_15 bX7_readParameters_62
    rw [n2, pl_bd, pl_bd, if_neg zn_m1, n1, pl_bd]
    exact Or.inr ⟨tn, un, rfl, rfl, n3⟩
