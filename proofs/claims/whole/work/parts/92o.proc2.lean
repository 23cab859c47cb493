/-! proc NAME ( PARAMETERS ) BLOCK -/
def bPrC (t : zS) : zR := zbd (mX7_step t) fun _ t918 => zbd (mX7_readParameters t918) fun _ t921 => zbd (mX7_readBlockr (-1) t921) fun r923 t924 => zbd (mX6_close r923 (t924 5 14) t924) fun _ t927 => some (0, t927)
def bPrM (u : zS) : zR := zbd (mX12_next u) fun _ t3378 => zbd (mX12_isSign 40 t3378) fun r3380 t3381 => zbd (mX12_opens r3380 t3381) fun r3383 t3384 => if r3383 = 0 then some (0, t3384) else zbd (mX12_isSign 41 t3384) fun r3386 t3387 => if r3386 = 0 then bX12_proc_167 1 t3387 else bX12_proc_167 0 t3387
def zPrO (G : zTxt) (i T Q : Nat) (t0 u0 t2 u2 : zS) : Prop := (∃ i2 f2 N2 M2 P2 A2 Pa2 bb2 S2 F2 C2 R2 W2 V2 q2 o2 w2, i < i2 ∧ u2 0 9 = -1 ∧ u2 0 60 = Int32.ofNat Q ∧ zTop G i2 f2 N2 M2 P2 A2 T (Q + 1) Pa2 bb2 S2 F2 C2 R2 W2 V2 q2 o2 w2 t2 (zu u2 30 Q (u2 0 61)) ∧ zFP zpR t0 t2 ∧ zFP zpM u0 (zu u2 30 Q (u2 0 61))) ∨ zGE t0 u0 t2 u2
theorem zPrTail {G : zTxt} {i : Nat} {f : Nat → Nat} {N M P A T Q Pa bb S F C R W V q : Nat} {o : Nat → Nat × Nat} {w : Nat → Nat} {t0 u0 t u : zS} (h : zPh G i 0 f N M P A T Q Pa 0 0 i bb S F C R W V q o w t u) (h9 : t 5 9 = 17) (hN : zHN i 0 N M P A bb Pa 0 S F C R W V q t) (hz : 9 * T + 10 * Q + 5 ≤ zpos G.1 G.2.1 i) (ht : zFP zpR t0 t) (hu : zFP zpM u0 u) : ∃ t2 u2, bPrC t = some (0, t2) ∧ bPrM u = some (0, u2) ∧ zPrO G i T Q t0 u0 t2 u2 := by
  have hl := zAt_lt h.1.1
  have hS : S ≤ 1000 := by have := hN.2.2.2.2.1; omega
  obtain ⟨t1, u1, a1, a2, a3, a4, a5, a6, a7, a8⟩ := zTB_step h.1 (by rw [h9]; decide)
  have h1 := zPh_T (y2 := i + 1) h a3 (Nat.le_succ _) (zFP_S a7) (zFP_N a8) (fun _ _ => rfl) (Nat.le_refl _) hS
  unfold bPrC bPrM
  rw [a1, pl_bd, a2, pl_bd, zAt_sg a3.1 (c := 40) (by decide), pl_bd]
  unfold mX7_readParameters
  obtain ⟨t3, r, u3, b1, b2, b3, b4, b5⟩ := zAt_enter (c := 40) (d := 0) a3.1 (by decide) (by decide) a3.2.1 a3.2.2.1
  rw [b1, pl_bd, b2, pl_bd]
  have fR := zFP_trans (zFP_trans ht (zFP_rS a7)) (zFP_rS b3)
  have fM := zFP_trans (zFP_trans hu (zFP_M (zFP_N a8))) (zFP_M (zFP_N b4))
  rcases b5 with ⟨_, b6, b7, b8, b9, b10⟩ | ⟨b6, b7⟩
  · subst b6
    rw [if_neg pl_10, if_neg pl_10]
    obtain ⟨c1, c2, c3⟩ := zTB_fr (d2 := 1) a3 b8 b9 b10 b3 b4
    have h2 := zPh_T (y2 := i + 1 + 1) h1 c1 (Nat.le_succ _) (zFP_S b3) (zFP_N b4) (fun _ _ => rfl) (Nat.le_refl _) hS
    have hl2 := zAt_lt b8
    have hN2 : zHN (i + 1 + 1) 0 N M P A bb Pa 0 S F C R W V q t3 := by
      unfold zHN at *
      rw [c2, c3, a5, a6]
      obtain ⟨n1, n2', n3, n4, n5, n6, n7, n8, n9, n10, n11, n12, n13⟩ := hN
      clear h h1 h2
      refine ⟨?_, ?_, ?_, ?_, ?_, ?_, ?_, ?_, ?_, ?_, ?_, ?_, ?_⟩ <;> omega
    have hN3 : zHN (i + 1 + 1) 1 N M P A bb Pa 0 S F C R W V q t3 := by
      unfold zHN at *
      obtain ⟨n1, n2', n3, n4, n5, n6, n7, n8, n9, n10, n11, n12, n13⟩ := hN2
      exact ⟨n1, n2', n3, n4, n5, n6, n7, n8, n9, n10, by omega, n12, by omega⟩
    have hp : ∀ i2, i + 1 + 1 ≤ i2 → i2 ≤ G.2.2.1 → 9 * T + 10 * Q + 7 ≤ zpos G.1 G.2.1 i2 := by
      intro i2 x1 x2
      have := zpos_inc b8 (i2 - i) i (by omega)
      rw [show i + (i2 - i) = i2 by omega] at this
      omega
    rw [zAt_sg b8 (c := 41) (by decide), pl_bd]
    by_cases q4 : t3 5 9 = 41
    · rw [if_pos q4, if_neg pl_10]
      have e1 : lX7_readParameters_12 zFU 0 t3 = bX7_readParameters_135 t3 := by
        rw [show zFU = (zFU - 1) + 1 by unfold zFU; omega]
        show bX7_readParameters_12 (lX7_readParameters_12 (zFU - 1)) 0 t3 = _
        unfold bX7_readParameters_12
        rw [if_neg (by decide), if_neg (show ¬ 0 ≤ t3 5 12 by rw [(zAt_m1 b8).1]; decide), if_neg (by decide), if_pos q4]
      have e2 : bX12_proc_167 0 u3 = bEndM u3 := by
        unfold bX12_proc_167
        rw [show zFU = (zFU - 1) + 1 by unfold zFU; omega]
        show bX12_proc_168 (lX12_proc_168 (zFU - 1)) 0 u3 = _
        exact bEndM_of
      rw [e1, e2]
      obtain ⟨t4, u4, d1, d2, d3⟩ := zProcEnd (t0 := t0) (u0 := u0) h2 hN3 (hp _ (Nat.le_refl _) b8.2.2.2.2.1) fR fM
      refine ⟨t4, u4, d1, d2, ?_⟩
      rcases d3 with ⟨i2, n2, S2, F2, C2, R2, W2, V2, q2, o2, w2, g1, g2⟩ | d3
      · exact Or.inl ⟨i2, f, N, M, P, A, _, _, S2, F2, C2, R2, W2, V2, q2, o2, w2, by omega, g2⟩
      · exact Or.inr d3
    · rw [if_neg q4, if_pos rfl]
      obtain ⟨t4, k1, k2⟩ := zParL (t0 := t0) (u0 := u0) 3001 (i + 1 + 1) (zFU - 3002) (zFU - 3003) 0 f N M P A q t3 u3 (by omega) h2 hN2 fR fM (fun _ => q4)
      rw [show zFU - 3002 + 3001 + 1 = zFU by unfold zFU; omega] at k1
      rw [show zFU - 3003 + 3001 + 2 = zFU by unfold zFU; omega] at k2
      rw [show lX7_readParameters_12 zFU 0 t3 = bX7_readParameters_135 t4 from k1]
      unfold bX12_proc_167
      rcases k2 with ⟨km, i2, f2, N2, M2, P2, A2, q2, j2, u4, e1, e2, e3, e4, e5, e6⟩ | ⟨u4, e1, e2⟩
      · rw [e2, bEndM_of]
        obtain ⟨t5, u5, d1, d2, d3⟩ := zProcEnd (t0 := t0) (u0 := u0) e3 e4 (hp i2 e1 e3.1.1.2.2.2.2.1) e5 e6
        refine ⟨t5, u5, d1, d2, ?_⟩
        rcases d3 with ⟨i3, n2, S2, F2, C2, R2, W2, V2, q3, o2, w2, g1, g2⟩ | d3
        · exact Or.inl ⟨i3, f2, N2, M2, P2, A2, _, _, S2, F2, C2, R2, W2, V2, q3, o2, w2, by omega, g2⟩
        · exact Or.inr d3
      · rw [e1]
        obtain ⟨t5, d1, d2⟩ := zEc_end (zEr_c e2.1)
        exact ⟨t5, u4, d1, rfl, Or.inr (zGE_c e2 d2)⟩
  · subst b6
    rw [if_pos rfl, if_pos rfl, pl_bd]
    have hE := zGE_fr (t := t0) (u := u0) b7 b3 b4 (zFP_trans ht (zFP_rS a7)) (zFP_trans hu (zFP_M (zFP_N a8)))
    have hb : mX7_readBlockr (-1) t3 = some (-1, t3) := zEs_block (g := grgX7_readBlock 299) (zEr_c b7)
    rw [hb, pl_bd]
    obtain ⟨t4, g1, g2⟩ := zEc_close (x := -1) (y := t3 5 14) (zEr_c b7)
    rw [g1, pl_bd]
    exact ⟨_, _, rfl, rfl, Or.inr (zGE_c hE g2)⟩
