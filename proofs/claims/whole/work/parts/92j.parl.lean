/-! the PARAMETERS' list -/
theorem zHN_up {i N M P A bb Pa j S F C R W V q : Nat} {t t2 : zS} (h : zHN i 1 N M P A bb Pa j S F C R W V q t) (h9 : t2 9 = t 9) (h13 : t2 13 = t 13) : zHN (i + 1) 0 N M P A bb Pa j S F C R W V q t2 := by
  unfold zHN at *
  rw [h9, h13]
  obtain ⟨n1, n2, n3, n4, n5, n6, n7, n8, n9, n10, n11, n12, n13⟩ := h
  refine ⟨?_, ?_, ?_, ?_, ?_, ?_, ?_, ?_, ?_, ?_, ?_, ?_, ?_⟩ <;> omega
theorem zParL {G : zTxt} {T Q Pa bb S F C R W V : Nat} {o : Nat → Nat × Nat} {w : Nat → Nat} {t0 u0 : zS} :
    ∀ (k i fc fm j : Nat) (f : Nat → Nat) (N M P A q : Nat) (t u : zS), 3001 ≤ k + i → zPh G i 1 f N M P A T Q Pa j j i bb S F C R W V q o w t u → zHN i 0 N M P A bb Pa j S F C R W V q t → zFP zpR t0 t → zFP zpM u0 u → (j = 0 → ¬ t 5 9 = 41) →
    ∃ t1, lX7_readParameters_12 (fc + k + 1) (Int32.ofNat j) t = bX7_readParameters_135 t1 ∧
      ((∃ km i2 f2 N2 M2 P2 A2 q2 j2 u1, i ≤ i2 ∧ lX12_proc_168 (fm + k + 2) 1 u = bX12_proc_168 km 0 u1 ∧ zPh G i2 1 f2 N2 M2 P2 A2 T Q Pa j2 j2 i2 bb S F C R W V q2 o w t1 u1 ∧ zHN i2 1 N2 M2 P2 A2 bb Pa j2 S F C R W V q2 t1 ∧ zFP zpR t0 t1 ∧ zFP zpM u0 u1) ∨ ∃ u2, lX12_proc_168 (fm + k + 2) 1 u = some (0, u2) ∧ zGE t0 u0 t1 u2) := by
  intro k
  induction k with
  | zero =>
    intro i fc fm j f N M P A q t u hk h
    have := zAt_lt h.1.1
    omega
  | succ k ih =>
    intro i fc fm j f N M P A q t u hk h hN ht hu h41
    have hl := zAt_lt h.1.1
    have hm1 := zAt_m1 h.1.1
    have hj : j < 3000 := by have := hN.2.2.2.2.2.2.2.2.2.2.2.2; omega
    have e1 : lX7_readParameters_12 (fc + (k + 1) + 1) (Int32.ofNat j) t = bX7_readParameters_39 (lX7_readParameters_12 (fc + k + 1)) (Int32.ofNat j) t := by
      show bX7_readParameters_12 (lX7_readParameters_12 (fc + k + 1)) (Int32.ofNat j) t = _
      unfold bX7_readParameters_12
      rw [if_neg (show ¬ (3000 : Int32) ≤ Int32.ofNat j from fun w => by have := (zn_le (a := 3000) (by decide) (by omega)).mp w; omega), if_neg (show ¬ 0 ≤ t 5 12 by rw [hm1.1]; decide)]
      by_cases q0 : j = 0
      · rw [if_neg (show ¬ t 5 9 = 41 from h41 q0), ite_self]
      · rw [if_pos (show (0 : Int32) < Int32.ofNat j from (zn_lt (a := 0) (by decide) (by omega)).mpr (by omega))]
    have e2 : lX12_proc_168 (fm + (k + 1) + 2) 1 u = bX12_proc_168 (lX12_proc_168 (fm + k + 2)) 1 u := rfl
    rw [e1, e2]
    rcases zParam (kc := lX7_readParameters_12 (fc + k + 1)) (km := lX12_proc_168 (fm + k + 2)) (c := Int32.ofNat j) h hN ht hu with ⟨i2, f2, N2, M2, P2, A2, q2, t2, u2, a1, a2, a3, a4, a5, a6, a7⟩ | ⟨t2, u2, a1, a2, a3⟩
    · rw [a2, a3]
      unfold bParE bX12_proc_286 bX12_proc_301
      rw [zAt_sg a4.1.1 (c := 44) (by decide), pl_bd]
      by_cases q4 : t2 5 9 = 44
      · rw [if_pos q4, if_pos q4, if_neg pl_10]
        obtain ⟨t3, u3, b1, b2, b3, b4, b5, b6, b7, b8⟩ := zTB_step a4.1 (by rw [q4]; decide)
        rw [b1, pl_bd, b2, pl_bd, pl_let, zn_1]
        have hS : S ≤ 1000 := by have := hN.2.2.2.2.1; omega
        have h3 := zPh_T (y2 := i2 + 1) a4 b3 (Nat.le_succ _) (zFP_S b7) (zFP_N b8) (fun _ _ => rfl) (Nat.le_refl _) hS
        obtain ⟨t1, c1, c2⟩ := ih (i2 + 1) fc fm (j + 1) f2 N2 M2 P2 A2 q2 t3 u3 (by omega) h3 (zHN_up a5 b5 b6) (zFP_trans a6 (zFP_rS b7)) (zFP_trans a7 (zFP_M (zFP_N b8))) (fun e => by omega)
        refine ⟨t1, c1, ?_⟩
        rcases c2 with ⟨km, i4, f4, N4, M4, P4, A4, q4', j4, u4, d1, d2⟩ | c2
        · exact Or.inl ⟨km, i4, f4, N4, M4, P4, A4, q4', j4, u4, by omega, d2⟩
        · exact Or.inr c2
      · rw [if_neg q4, if_neg q4, if_pos rfl]
        exact ⟨t2, rfl, Or.inl ⟨lX12_proc_168 (fm + k + 1), i2, f2, N2, M2, P2, A2, q2, j + 1, u2, by omega, rfl, a4, a5, a6, a7⟩⟩
    · rw [a1, a2]
      exact ⟨t2, rfl, Or.inr ⟨u2, rfl, a3⟩⟩
/-! behind the head: ), BLOCK, end -/
def bEndC (t : zS) : zR := zbd (bX7_readParameters_135 t) fun _ t921 => zbd (mX7_readBlockr (-1) t921) fun r923 t924 => zbd (mX6_close r923 (t924 5 14) t924) fun _ t927 => some (0, t927)
def bEndM (u : zS) : zR := zrd u 31 301 ((u 0 60) + 1) fun v3329 => zrd u 31 301 (u 0 60) fun v3331 => zwr u 32 300 (u 0 60) (v3329 - v3331) fun t3334 => zbd (mX12_closes 41 t3334) fun _ t3336 => zbd (mX12_blockr (-1) t3336) fun r3338 t3339 => zwr t3339 29 300 (t3336 0 60) r3338 fun t3342 => some (0, t3342)
theorem bEndM_of {km : Int32 → zS → zR} {u : zS} : bX12_proc_168 km 0 u = bEndM u := by
  unfold bX12_proc_168
  rw [if_pos rfl]
  rfl
theorem zEc_end {t : zS} (h : zEc t) : ∃ t2, bEndC t = some (0, t2) ∧ zEs t t2 := by
  unfold bEndC bX7_readParameters_135
  obtain ⟨t1, a1, a2, a3, a4⟩ := zEc_leave (c := 41) h (by decide)
  have a5 := zEs_sf a2 a3 a4
  rw [a1, pl_bd, pl_bd]
  have hb : mX7_readBlockr (-1) t1 = some (-1, t1) := zEs_block (g := grgX7_readBlock 299) a2
  rw [hb, pl_bd]
  unfold mX6_close
  obtain ⟨t3, b1, b2⟩ := zEs_set (c := 40) (n := 400) (x := t1 4 10 - 1) (v := -1) a2 (by decide) (fun _ => rfl)
  rw [b1, pl_bd]
  obtain ⟨t4, c1, c2⟩ := zEs_set (c := 42) (n := 400) (x := t3 4 10 - 1) (v := t1 5 14) b2.1 (by decide) (fun _ => rfl)
  rw [c1, pl_bd, pl_bd]
  exact ⟨_, rfl, zEs_trans a5 (zEs_trans b2 c2)⟩
