/-! ) BLOCK, on both sides -/
theorem zEc_close {t : zS} {x y : Int32} (h : zEc t) : ∃ t2, mX6_close x y t = some (0, t2) ∧ zEs t t2 := by
  unfold mX6_close
  obtain ⟨t3, b1, b2⟩ := zEs_set (c := 40) (n := 400) (x := t 4 10 - 1) (v := x) h (by decide) (fun _ => rfl)
  rw [b1, pl_bd]
  obtain ⟨t4, c1, c2⟩ := zEs_set (c := 42) (n := 400) (x := t3 4 10 - 1) (v := y) b2.1 (by decide) (fun _ => rfl)
  rw [c1, pl_bd]
  exact ⟨_, rfl, zEs_trans b2 c2⟩
theorem zGE_S {H : Nat} {t u t1 u1 t2 u2 : zS} (h : zSE H t1 u1 t2 u2) (h1 : zFP zpR t t1) (h2 : zFP zpM u u1) : zGE t u t2 u2 := ⟨h.1, zFP_trans h1 h.2.2.2.1, zFP_trans h2 h.2.2.2.2⟩
theorem zGE_u {k j : Nat} {v : Int32} {t u t2 u2 : zS} (h : zGE t u t2 u2) (hk : ¬ (k = 0 ∧ j = 9)) (hp : zpM k j = false) : zGE t u t2 (zu u2 k j v) := by
  refine ⟨zEr_of h.1 (zEr_c h.1) rfl ?_, h.2.1, zFP_zu h.2.2 hp⟩
  by_cases e : k = 0
  · exact zu_ne2 (fun e2 => hk ⟨e, e2.symm⟩)
  · exact zu_ne1 (fun e2 => e e2.symm)
theorem zProcEnd {G : zTxt} {i : Nat} {f : Nat → Nat} {N M P A T Q Pa j bb S F C R W V q : Nat} {o : Nat → Nat × Nat} {w : Nat → Nat} {t0 u0 t u : zS} (h : zPh G i 1 f N M P A T Q Pa j j i bb S F C R W V q o w t u) (hN : zHN i 1 N M P A bb Pa j S F C R W V q t) (hz : 9 * T + 10 * Q + 7 ≤ zpos G.1 G.2.1 i) (ht : zFP zpR t0 t) (hu : zFP zpM u0 u) :
    ∃ t2 u2, bEndC t = some (0, t2) ∧ bEndM u = some (0, u2) ∧ ((∃ i2 n2 S2 F2 C2 R2 W2 V2 q2 o2 w2, i < i2 ∧ u2 0 9 = -1 ∧ u2 0 60 = Int32.ofNat Q ∧ zTop G i2 f N M P A T (Q + 1) (Pa + j) (bb + n2) S2 F2 C2 R2 W2 V2 q2 o2 w2 t2 (zu u2 30 Q (u2 0 61)) ∧ zFP zpR t0 t2 ∧ zFP zpM u0 (zu u2 30 Q (u2 0 61))) ∨ zGE t0 u0 t2 u2) := by
  have hl := zAt_lt h.1.1
  have hQ := h.2.2.2.1.2.2.2.2.2.1
  have bd : S ≤ 1000 ∧ bb + j ≤ 3000 := by
    have n5 := hN.2.2.2.2.1
    have n12 := hN.2.2.2.2.2.2.2.2.2.2.2.1
    omega
  unfold bEndC bEndM bX7_readParameters_135
  rw [h.2.2.2.1.2.1, zn_1, zn_rd (show Q + 1 < 301 by omega) (by decide), h.2.2.2.1.2.2.2.2.1, zn_rd (show Q < 301 by omega) (by decide), h.2.2.2.1.2.2.2.1, zn_sub (by omega) (by omega), show bb + j - bb = j by omega, zn_wr (show Q < 300 by omega) (by decide)]
  have h1 := zPh_32 (x := Int32.ofNat j) h bd.1
  obtain ⟨t1, u1, a1, a2, a3, a4, a5⟩ := zAt_leave (c := 41) (d := 0) h1.1.1 (by decide) (by decide) h1.1.2.1 h1.1.2.2.1
  rw [a1, pl_bd, pl_bd, a2, pl_bd]
  have fR := zFP_trans ht (zFP_rS a3)
  have fM : zFP zpM u0 u1 := zFP_trans (zFP_zu hu rfl) (zFP_M (zFP_N a4))
  have u60 : u1 0 60 = Int32.ofNat Q := by rw [a4.2 60 (by decide), zu_ne1 (by decide)]; exact h.2.2.2.1.2.1
  rw [u60]
  rcases a5 with ⟨_, a6, a7, a8, _⟩ | ⟨_, a6⟩
  · obtain ⟨k1, k2, k3⟩ := zTB_fr (d2 := 0) h1.1 a6 a7 a8 a3 a4
    have h2 := zPh_T (y2 := i + 1) h1 k1 (Nat.le_succ _) (zFP_S a3) (zFP_N a4) (fun _ _ => rfl) (Nat.le_refl _) bd.1
    have hN2 := zHN_up hN k2 k3
    have B := zPh_BB h2
    have hBN : zBN (i + 1) A 0 bb S j F C R W V q := by
      obtain ⟨n1, n2', n3, n4, n5, n6, n7, n8, n9, n10, n11, n12, n13⟩ := hN2
      clear B h2 h1 h hN
      refine ⟨?_, ?_, ?_, ?_, ?_, ?_, ?_, ?_⟩ <;> omega
    obtain ⟨r, t2, r', u2, d1, d2, d3⟩ := zBlocks (d := 0) (e := 0) (by decide) (by decide) G (i + 1) Q bb 0 f N M A S j F C R W V q o w [] [] (-1) t1 u1 B hBN (Or.inl ⟨rfl, rfl⟩) (Nat.zero_le _)
    rw [show zBeh t1 (-1) = -1 from if_pos rfl] at d2 d3
    rw [d1, pl_bd, d2, pl_bd, zn_wr (show Q < 300 by omega) (by decide)]
    rcases d3 with ⟨i2, S2, n2, F2, C2, R2, W2, V2, q2, o2, w2, e1, e2, e3, e4, e5, e6, e7, e8, e9, e10⟩ | d3
    · have e410 : t2 4 10 = Int32.ofNat (Q + 1) := e2.1.2.2.2.1.1
      unfold mX6_close
      rw [e410, zn_m, zn_set (show Q < 400 by omega) (by decide), pl_bd, show zu t2 41 Q r 4 10 = Int32.ofNat (Q + 1) by rw [zu_ne1 (by decide)]; exact e410, zn_m, zn_set (show Q < 400 by omega) (by decide), pl_bd, pl_bd]
      refine ⟨_, _, rfl, rfl, Or.inl ⟨i2, n2, S2, F2, C2, R2, W2, V2, q2, o2, w2, by omega, by rw [zu_ne1 (by decide)]; exact (zAt_m1 e2.1.1).2, by rw [zu_ne1 (by decide)]; exact e2.1.2.2.2.1.2.1, ?_, zFP_zu (zFP_zu (zFP_trans fR e9) rfl) rfl, zFP_zu (zFP_zu (zFP_trans fM e10) rfl) rfl⟩⟩
      rw [show zu u2 29 Q r' 0 61 = u2 0 61 from zu_ne1 (by decide)]
      have hp := zpos_inc a6 1 i (by have := a6.2.2.2.2.1; omega)
      exact zTop_blk h2 (by rw [a4.1 32 (by decide) (by decide) (by decide), zu_same]) hN2 (by omega) e2 e3 e4 e1 e5 e6
    · have hE := zGE_S d3 fR fM
      obtain ⟨t3, g1, g2⟩ := zEc_close (x := r) (y := t2 5 14) (zEr_c hE.1)
      rw [g1, pl_bd]
      exact ⟨_, _, rfl, rfl, Or.inr (zGE_u (zGE_c hE g2) (fun e => absurd e.1 (by decide)) rfl)⟩
  · have hE : zGE t0 u0 t1 u1 := ⟨a6, fR, fM⟩
    have hb : mX7_readBlockr (-1) t1 = some (-1, t1) := zEs_block (g := grgX7_readBlock 299) (zEr_c a6)
    have hbm : mX12_blockr (-1) u1 = some (-1, zu u1 0 5 0) := zEm_block (g := grgX12_block 299) (zEr_m a6)
    rw [hb, pl_bd, hbm, pl_bd, zn_wr (show Q < 300 by omega) (by decide)]
    obtain ⟨t3, g1, g2⟩ := zEc_close (x := -1) (y := t1 5 14) (zEr_c hE.1)
    rw [g1, pl_bd]
    exact ⟨_, _, rfl, rfl, Or.inr (zGE_u (zGE_u (zGE_c hE g2) (fun e => absurd e.2 (by decide)) rfl) (fun e => absurd e.1 (by decide)) rfl)⟩
