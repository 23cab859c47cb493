/-! one PARAMETER -/
def bParE (kc : Int32 → zS → zR) (c : Int32) (t : zS) : zR := if (t 5 9) = 44 then zbd (mX7_step t) fun _ t531 => zlet (c + 1) fun v533 => kc v533 t531 else bX7_readParameters_135 t
def bParM (km : Int32 → zS → zR) (k : Int32) (u : zS) : zR := zbd (mX12_isSign 58 u) fun r3355 t3356 => if r3355 = 0 then bX12_proc_286 km t3356 else zbd (mX12_next t3356) fun _ t3359 => zbd (mX12_typer t3359) fun r3361 t3362 => if (t3362 0 9) < 0 then zrd t3362 31 301 (t3362 0 60) fun v3364 => zwr t3362 34 3000 (v3364 + k) r3361 fun t3367 => bX12_proc_286 km t3367 else some (0, t3362)
def bParC (kc : Int32 → zS → zR) (c : Int32) (t : zS) : zR := if (t 5 9) = 58 then zbd (mX7_step t) fun _ t544 => zbd (mX7_readFormr t544) fun r546 t547 => bX7_readParameters_105 kc c r546 t547 else bX7_readParameters_105 kc c (-1) t
theorem zFP_SC {t t2 : zS} (h : zFP zpSC t t2) : zFP zpR t t2 := zFP_mono h (fun k j q => by
  unfold zpR at q
  unfold zpSC
  simp only [Bool.or_eq_true, beq_iff_eq, Bool.and_eq_true, decide_eq_true_eq, Bool.not_eq_true', Bool.or_eq_false_iff, beq_eq_false_iff_ne] at q ⊢
  omega)
theorem zFP_SM {t t2 : zS} (h : zFP zpSM t t2) : zFP zpM t t2 := zFP_mono h (fun k j q => by
  unfold zpM at q
  unfold zpSM
  simp only [Bool.or_eq_true, beq_iff_eq, Bool.and_eq_true, decide_eq_true_eq, Bool.not_eq_true', Bool.or_eq_false_iff, beq_eq_false_iff_ne] at q ⊢
  omega)
theorem zFP_AP {t t2 : zS} (h : ∀ k, ¬ (k = 4 ∨ k = 37 ∨ k = 45) → t2 k = t k) : zFP zpR t t2 := fun k j q => by
  rw [h k ?_]
  unfold zpR at q
  simp only [Bool.or_eq_true, beq_iff_eq, Bool.and_eq_true, decide_eq_true_eq] at q
  omega
/-- the outcome -/
def zParO (G : zTxt) (i : Nat) (f : Nat → Nat) (N T Q Pa j bb S F C R W V : Nat) (o : Nat → Nat × Nat) (w : Nat → Nat) (t0 u0 : zS) (kc : Int32 → zS → zR) (km : Int32 → zS → zR) (c : Int32) (a b : zR) : Prop :=
  (∃ i2 f2 N2 M2 P2 A2 q2 t2 u2, i ≤ i2 ∧ a = bParE kc c t2 ∧ b = bX12_proc_286 km u2 ∧ zPh G i2 1 f2 N2 M2 P2 A2 T Q Pa (j + 1) (j + 1) i2 bb S F C R W V q2 o w t2 u2 ∧ zHN i2 1 N2 M2 P2 A2 bb Pa (j + 1) S F C R W V q2 t2 ∧ zFP zpR t0 t2 ∧ zFP zpM u0 u2) ∨
  ∃ t2 u2, a = bX7_readParameters_135 t2 ∧ b = some (0, u2) ∧ zGE t0 u0 t2 u2
theorem zEc_105 {kc : Int32 → zS → zR} {c x : Int32} {t : zS} (h : zEc t) : ∃ t2, bX7_readParameters_105 kc c x t = bX7_readParameters_135 t2 ∧ zEs t t2 := by
  obtain ⟨t2, a1, a2⟩ := zEs_addP (x := x) h
  unfold bX7_readParameters_105
  rw [a1, pl_bd, if_neg (by rw [a2.1.1]; decide)]
  exact ⟨t2, rfl, a2⟩
/-- numbers behind a PARAMETER's NAME at i -/
theorem zParT {G : zTxt} {i : Nat} {f : Nat → Nat} {N M P A T Q Pa j bb S F C R W V q : Nat} {o : Nat → Nat × Nat} {w : Nat → Nat} {t0 u0 t u : zS} {kc km : Int32 → zS → zR} {c : Int32} (h : zPh G (i + 1) 1 f N M P A T Q Pa j (j + 1) (i + 1) bb S F C R W V q o w t u) (hN : zHN i 0 N M P A bb Pa j S F C R W V q t) (h34 : u 34 (bb + j) = -1) (ht : zFP zpR t0 t) (hu : zFP zpM u0 u) :
    zParO G (i + 1) f N T Q Pa j bb S F C R W V o w t0 u0 kc km c (bParC kc c t) (bParM km (Int32.ofNat j) u) := by
  have hl := zAt_lt h.1.1
  have hB : S ≤ 1000 ∧ Pa + j < 1600 ∧ bb + j < 3000 ∧ N ≤ 3000 := by
    obtain ⟨n1, n2, n3, n4, n5, n6, n7, n8, n9, n10, n11, n12, n13⟩ := hN
    refine ⟨?_, ?_, ?_, ?_⟩ <;> omega
  unfold bParC bParM
  rw [zAt_sg h.1.1 (c := 58) (by decide), pl_bd]
  by_cases q5 : t 5 9 = 58
  · rw [if_pos q5, if_pos q5, if_neg pl_10]
    obtain ⟨t1, u1, a1, a2, a3, a4, a5, a6, a7, a8⟩ := zTB_step h.1 (by rw [q5]; decide)
    rw [a1, pl_bd, a2, pl_bd]
    have h1 := zPh_T (y2 := i + 1) h a3 (Nat.le_refl _) (zFP_S a7) (zFP_N a8) (fun _ _ => rfl) (Nat.le_refl _) hB.1
    have hS : zTS G (2 * V) 0 0 S 0 (i + 1 + 1) 1 f [] N M P A q t1 u1 := by
      obtain ⟨n1, n2, n3, n4, n5, n6, n7, n8, n9, n10, n11, n12, n13⟩ := hN
      exact ⟨a3, by omega, by omega, by omega, by omega, by rw [a5, a6]; omega⟩
    have hq : 2 * q ≤ i + 1 + 1 := by have := hN.2.2.2.2.2.2.2.2.2.2.1; omega
    obtain ⟨rc, t3, rm, u3, e1, e2, e3⟩ := zForm (d := 1) (by omega) G (2 * V) 0 0 S 0 (i + 1 + 1) f [] N M P A q t1 u1 hS hq
    rw [e1, pl_bd, e2, pl_bd]
    rcases e3 with ⟨i2, f2, N2, M2, P2, A2, q2, cc, g1, g2, g3, g4, g5, g6, g7, g8⟩ | e3
    · have h2 := zPh_T (y2 := i2) h1 g3.1 (by omega) (zTX_C g2) (zTX_M g2) (fun x hx => (g2.2.2.2.2.1 x hx).1) g2.1 hB.1
      have hl2 := zAt_lt g3.1.1
      have m9 := (zAt_m1 g3.1.1).2
      rw [if_pos (by rw [m9]; decide), h2.2.2.2.1.2.1, zn_rd (show Q < 301 by have := h2.2.2.2.1.2.2.2.2.2.1; omega) (by decide), h2.2.2.2.1.2.2.2.1, zn_add, zn_wr (show bb + j < 3000 by omega) (by decide)]
      have h3 := zPh_34 (x := rm) h2 hB.1
      obtain ⟨t4, k1, k2, k3⟩ := zPh_add (x := rc) h3 hB.1 hB.2.1 (Or.inr ⟨cc, g6, g7, by rw [zu_same]; exact g8⟩) (by have := g3.2.1; omega)
      unfold bX7_readParameters_105
      rw [k1, pl_bd]
      refine Or.inl ⟨i2, f2, N2, M2, P2, A2, q2, t4, _, by omega, rfl, rfl, k2, ?_, zFP_trans (zFP_trans (zFP_trans ht (zFP_rS a7)) (zFP_R (zTX_C g2))) (zFP_AP k3), zFP_zu (zFP_trans (zFP_trans hu (zFP_M (zFP_N a8))) (zFP_M (zTX_M g2))) rfl⟩
      obtain ⟨n1, n2, n3, n4, n5, n6, n7, n8, n9, n10, n11, n12, n13⟩ := hN
      obtain ⟨d1, d2, d3, d4, d5, d6⟩ := g3
      unfold zHN
      rw [k3 9 (by decide), k3 13 (by decide)]
      clear k1 k2 k3 h3 h2 h1 h hS e1 e2 g2 d1 a3 a4
      refine ⟨?_, ?_, ?_, ?_, ?_, ?_, ?_, ?_, ?_, ?_, ?_, ?_, ?_⟩ <;> omega
    · have hE := zGE_T e3 (zFP_trans ht (zFP_rS a7)) (zFP_trans hu (zFP_M (zFP_N a8)))
      obtain ⟨t4, k1, k2⟩ := zEc_105 (kc := kc) (c := c) (x := rc) (zEr_c hE.1)
      rw [k1, if_neg (fun w => absurd (zEr_m hE.1) (Int32.not_le.mpr w))]
      exact Or.inr ⟨t4, u3, rfl, rfl, zGE_c hE k2⟩
  · rw [if_neg q5, if_neg q5, if_pos rfl]
    obtain ⟨t4, k1, k2, k3⟩ := zPh_add (x := -1) h hB.1 hB.2.1 (Or.inl ⟨rfl, h34⟩) hB.2.2.2
    unfold bX7_readParameters_105
    rw [k1, pl_bd]
    refine Or.inl ⟨i + 1, f, N, M, P, A, q, t4, u, Nat.le_refl _, rfl, rfl, k2, ?_, zFP_trans ht (zFP_AP k3), hu⟩
    obtain ⟨n1, n2, n3, n4, n5, n6, n7, n8, n9, n10, n11, n12, n13⟩ := hN
    unfold zHN
    rw [k3 9 (by decide), k3 13 (by decide)]
    clear k1 k2 k3 h
    refine ⟨?_, ?_, ?_, ?_, ?_, ?_, ?_, ?_, ?_, ?_, ?_, ?_, ?_⟩ <;> omega
