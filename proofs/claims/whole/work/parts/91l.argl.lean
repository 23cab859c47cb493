/-! ARGUMENTS in lockstep -/
theorem zEc_211 {t : zS} {s : Int32} (h : zEc t) : ∃ t2, bX7_readCall_211 s t = some (0, t2) ∧ zEs t t2 := by
  unfold bX7_readCall_211
  obtain ⟨t1, a1, a2⟩ := zEs_set (c := 96) (n := 1000) (x := s) (v := t 51 7) h (by decide) (fun _ => rfl)
  obtain ⟨t2, b1, b2, b3, b4⟩ := zEc_leave (c := 41) a2.1 (by decide)
  rw [a1, pl_bd, b1, pl_bd, zEc_expect b2 (by decide), pl_bd]
  exact ⟨t2, rfl, zEs_trans a2 (zEs_sf b2 b3 b4)⟩
theorem zEs_addArg {t : zS} {x1 x2 : Int32} (h : zEc t) : ∃ t2, mX3_addArgument x1 x2 t = some (0, t2) ∧ zEs t t2 := by
  unfold mX3_addArgument
  obtain ⟨t1, a1, a2⟩ := zEs_set (c := 78) (n := 1600) (x := t 51 7) (v := x1) h (by decide) (fun _ => rfl)
  rw [a1, pl_bd]
  obtain ⟨t2, b1, b2⟩ := zEs_set (c := 80) (n := 1600) (x := t1 51 7) (v := t1 51 6) a2.1 (by decide) (fun _ => rfl)
  rw [b1, pl_bd]
  have fin : ∀ y, ∃ t3, bX3_addArgument_51 y (t2 51 7) t2 = some (0, t3) ∧ zEs t t3 := by
    intro y
    unfold bX3_addArgument_51
    obtain ⟨t3, c1, c2⟩ := zEs_set (c := 82) (n := 1600) (x := t2 51 7) (v := y) b2.1 (by decide) (fun _ => rfl)
    rw [c1, pl_bd, pl_pt]
    have h3 := zEs_trans a2 (zEs_trans b2 c2)
    exact ⟨_, rfl, ⟨by rw [zu_ne1 (by decide)]; exact h3.1.1, by rw [zu_ne1 (by decide)]; exact h3.1.2⟩, zFP_zu h3.2.1 rfl, by rw [zu_ne1 (by decide)]; exact h3.2.2⟩
  by_cases q : x2 = 0
  · rw [if_pos q]; exact fin _
  · rw [if_neg q]
    obtain ⟨v, v1⟩ := pl_getA (c := 76) (n := 3000) (x := x1) (t := t2) (by decide)
    rw [v1, pl_bd]; exact fin _
theorem zc_arg0 {t : zS} {k a b : Nat} (h7 : t 51 7 = Int32.ofNat k) (h6 : t 51 6 = Int32.ofNat b) (hk : k < 1600) : mX3_addArgument (Int32.ofNat a) 0 t = some (0, zca t k (Int32.ofNat a) (Int32.ofNat b) (-1)) := by
  unfold zca
  simp (disch := first | omega | decide | assumption) only [zu_same, zu_ne1, zu_ne2, zu_row, pl_bd, pl_pt, pl_let, zn_set, zn_get, zn_rd, zn_wr, zn_1, zn_m, Nat.reduceAdd, mX3_addArgument, bX3_addArgument_51, h7, h6, if_true]
theorem zc_arg1 {t : zS} {k a b : Nat} (h7 : t 51 7 = Int32.ofNat k) (h6 : t 51 6 = Int32.ofNat b) (hk : k < 1600) (ha : a < 3000) : mX3_addArgument (Int32.ofNat a) 1 t = some (0, zca t k (Int32.ofNat a) (Int32.ofNat b) (t 77 a)) := by
  unfold zca
  simp (disch := first | omega | decide | assumption) only [zu_same, zu_ne1, zu_ne2, zu_row, pl_bd, pl_pt, pl_let, zn_set, zn_get, zn_rd, zn_wr, zn_1, zn_m, Nat.reduceAdd, mX3_addArgument, bX3_addArgument_51, h7, h6, pl_10, if_false]
theorem zS1_nz {K V C : Nat → Int32} {n hb F c h c2 h2 : Nat} (h' : zS1 K V C n hb F c h c2 h2) : ¬ C c = 0 := by
  intro e
  rcases h' with h' | h' | h' | ⟨h', _⟩
  · rw [h'.2.1] at e; exact absurd e (by decide)
  · rw [h'.2.1] at e; exact absurd e (by decide)
  · rw [h'.2.1] at e; exact absurd e (by decide)
  · rcases h' with ⟨h1, h2⟩ | ⟨_, h2⟩
    · rw [← h1] at e
      rcases h2 with h2 | h2 | h2 | h2 | h2 | h2 <;> rw [h2] at e <;> exact absurd e (by decide)
    · rw [h2] at e; exact absurd e (by decide)
theorem zArgL {G : zTxt} {i0 d p b H : Nat} {f : Nat → Nat} {N M A S n F C R W V q v : Nat} {hx : Int32} {o : Nat → Nat × Nat} {w : Nat → Nat} {t0 u0 : zS} (hN : zBN i0 A H b S n F C R W V q) (hd : d ≤ 40) (hS : S < 1000) :
    ∀ (k i fc fm n2 F2 C2 m : Nat) (t u : zS), 3001 ≤ k + i → zUC G i0 i d p b H f N M A S n F C R W V q n2 F2 C2 m v hx o w t0 u0 t u → C2 + 2 * i0 + 1 ≤ C + 2 * i → 2 * m + i0 + 1 ≤ i →
    (∃ i2 n3 F3 C3 m3 t2 u2, bX7_readCall_124 (lX7_readCall_97 (fc + k)) (Int32.ofNat S) (Int32.ofNat m) t = bX7_readCall_211 (Int32.ofNat S) t2 ∧ bX12_called_213 (lX12_called_195 (fm + k)) (Int32.ofNat S) (if t 5 9 = 17 then 1 else 0) u = (zbd (mX12_closes 41 u2) fun _ u' => some (0, u')) ∧ i < i2 ∧ 2 * m3 + i0 ≤ i2 ∧ zUC G i0 i2 d p b H f N M A S n F C R W V q n3 F3 C3 m3 v hx o w t0 u0 t2 u2) ∨
    (∃ t2 u2, bX7_readCall_124 (lX7_readCall_97 (fc + k)) (Int32.ofNat S) (Int32.ofNat m) t = some (0, t2) ∧ bX12_called_213 (lX12_called_195 (fm + k)) (Int32.ofNat S) (if t 5 9 = 17 then 1 else 0) u = some (0, u2) ∧ zSE H t0 u0 t2 u2) := by
  have hN2 := hN
  obtain ⟨m1, m2, m3, m4, m5, m6, m7, m8⟩ := hN2
  intro k
  induction k with
  | zero =>
    intro i fc fm n2 F2 C2 m t u hk h
    have := zAt_lt h.1.1
    omega
  | succ k ih =>
    intro i fc fm n2 F2 C2 m t u hk h hC2 hm
    have hl := zAt_lt h.1.1
    have e1 := h.2.2.2.2.2.2.2.2.2.2.2.2.2.2.2.2
    have h8 : t 5 8 = Int32.ofNat i := h.1.1.2.2.2.2.2.1
    obtain ⟨r, t2, r', u2, a1, a2, a3⟩ := zTold0 (G := G) (i := i) (d := d) (p := p) (b := b) (n := n2) (F := F2) (C := C2) ⟨h.1, by omega, by omega, by omega⟩ hd
    have y0 : ∀ (x : Int32), bX7_readCall_124 (lX7_readCall_97 (fc + (k + 1))) (Int32.ofNat S) (Int32.ofNat m) t = bX7_readCall_147 (lX7_readCall_97 (fc + (k + 1))) (Int32.ofNat S) (Int32.ofNat m) (Int32.ofNat F2) (if t 5 9 = 17 then 1 else 0) t := fun _ => by
      unfold bX7_readCall_124
      rw [pl_let, h.1.2.2.2.2.1]
      by_cases q : t 5 9 = 17
      · rw [if_pos q, if_pos q]
      · rw [if_neg q, if_neg q]
    rw [y0 0]
    unfold bX7_readCall_147 bX7_readCall_185 bX12_called_213 bX12_called_288
    rw [pl_let, a1, pl_bd, a2, pl_bd, h8, zn_1]
    rcases a3 with ⟨i2, n3, F3, C3, l, b1, b2, b3, b4, b5, b6, b7, b8, b9, b10, b11, b12, b13⟩ | er
    · have hl2 := zAt_lt b2.1
      have hm1 := zAt_m1 b2.1
      have hU2 := zUC_E h b2 b8 (by omega) (by omega) (by omega) (by omega)
      have h82 : t2 5 8 = Int32.ofNat i2 := b2.1.2.2.2.2.2.1
      have h39 : u2 0 39 = Int32.ofNat (R + m) := hU2.2.2.2.2.2.2.1
      have h7 : t2 51 7 = Int32.ofNat (R + m) := hU2.2.2.2.2.2.1
      have h20 : u2 20 S = Int32.ofNat m := hU2.2.2.2.2.2.2.2.2.2.2.2.2.2.1.2.2.2.2.2.2.1
      rw [if_pos (show u2 0 9 < 0 by rw [hm1.2]; decide), h39, zn_wr (by omega) (by decide), b3]
      have hfm : zFm t2 u2 p F3 (C3 + 1) (Int32.ofNat F2) (Int32.ofNat F3) (Int32.ofNat C2) := ⟨F2, l, C2, C3, n3, rfl, by rw [b4], rfl, b5, by omega, by omega, b2.2.2.2.1.2.2.1, by omega, b6, b7⟩
      have w27 : ∀ j, zu u2 25 (R + m) (Int32.ofNat C2) 27 j = u2 27 j := fun j => zu_ne1 (by decide)
      have w39 : zu u2 25 (R + m) (Int32.ofNat C2) 0 39 = Int32.ofNat (R + m) := by rw [zu_ne1 (by decide)]; exact h39
      -- both choose the same
      obtain ⟨fl, al, al2, c1, c2, c3⟩ : ∃ (fl al al2 : Int32), ((if (if t 5 9 = 17 then (1 : Int32) else 0) = 0 then bX7_readCall_186 (lX7_readCall_97 (fc + (k + 1))) (Int32.ofNat S) (Int32.ofNat m) 0 (Int32.ofNat F2) t2 else if t2 5 8 = Int32.ofNat (i + 1) then bX7_readCall_186 (lX7_readCall_97 (fc + (k + 1))) (Int32.ofNat S) (Int32.ofNat m) 1 (Int32.ofNat F2) t2 else bX7_readCall_186 (lX7_readCall_97 (fc + (k + 1))) (Int32.ofNat S) (Int32.ofNat m) 0 (Int32.ofNat F2) t2) = bX7_readCall_186 (lX7_readCall_97 (fc + (k + 1))) (Int32.ofNat S) (Int32.ofNat m) fl (Int32.ofNat F2) t2) ∧ mX3_addArgument (Int32.ofNat F2) fl t2 = some (0, zca t2 (R + m) (Int32.ofNat F2) (Int32.ofNat F3) al) ∧ (if (if t 5 9 = 17 then (1 : Int32) else 0) = 0 then bX12_called_289 (lX12_called_195 (fm + (k + 1))) (Int32.ofNat S) (-1) (zu u2 25 (R + m) (Int32.ofNat C2) 0 39) (zu u2 25 (R + m) (Int32.ofNat C2)) else zrd (zu u2 25 (R + m) (Int32.ofNat C2)) 27 9000 (Int32.ofNat C2) fun v3004 => if v3004 = 2 then zrd (zu u2 25 (R + m) (Int32.ofNat C2)) 27 9000 (Int32.ofNat C2 + 2) fun v3006 => if v3006 = 0 then zrd (zu u2 25 (R + m) (Int32.ofNat C2)) 27 9000 (Int32.ofNat C2 + 1) fun v3008 => bX12_called_289 (lX12_called_195 (fm + (k + 1))) (Int32.ofNat S) v3008 (zu u2 25 (R + m) (Int32.ofNat C2) 0 39) (zu u2 25 (R + m) (Int32.ofNat C2)) else bX12_called_289 (lX12_called_195 (fm + (k + 1))) (Int32.ofNat S) (-1) (zu u2 25 (R + m) (Int32.ofNat C2) 0 39) (zu u2 25 (R + m) (Int32.ofNat C2)) else bX12_called_289 (lX12_called_195 (fm + (k + 1))) (Int32.ofNat S) (-1) (zu u2 25 (R + m) (Int32.ofNat C2) 0 39) (zu u2 25 (R + m) (Int32.ofNat C2))) = bX12_called_289 (lX12_called_195 (fm + (k + 1))) (Int32.ofNat S) al2 (Int32.ofNat (R + m)) (zu u2 25 (R + m) (Int32.ofNat C2)) ∧ ((al = -1 ∧ al2 = -1) ∨ zSo t2 p al al2) := by
        rw [w39]
        by_cases q17 : t 5 9 = 17
        · rw [if_pos q17, if_neg pl_10, if_neg pl_10, zn_rd (by omega) (by decide), w27, zn_2, zn_rd (by omega) (by decide), w27, zn_1, zn_rd (by omega) (by decide), w27, h82]
          rcases b13 with ⟨g1, g2, g3⟩ | ⟨g1, g2⟩
          · subst g2
            obtain ⟨c1, h1, z1, z2, z3⟩ := b6
            have k17 := g3 q17
            rcases z1 with z1 | ⟨z1, z1', ⟨kk, z4, z5, z6⟩, z7, _⟩ | z1 | z1
            · rw [k17] at z1; exact absurd z1.1 (by decide)
            · have e3 : C3 = C2 + 2 := by omega
              rw [if_pos (by rw [g1]), if_pos z1', if_pos (by rw [← e3]; exact b7)]
              exact ⟨1, t2 77 F2, _, rfl, zc_arg1 h7 b2.2.2.2.2.1 (by omega) (by omega), rfl, Or.inr ⟨kk, n3, z5, z6, b2.2.2.2.1.2.2.1, z4, by omega⟩⟩
            · rw [k17] at z1; exact absurd z1.1 (by decide)
            · obtain ⟨_, z1, _⟩ := z1; omega
          · have hl' := g2 q17
            obtain ⟨l', rfl⟩ : ∃ l', l = l' + 2 := ⟨l - 2, by omega⟩
            obtain ⟨c1, h1, z1, c2, h2, z2, z3⟩ := b6
            rw [if_neg (fun e => by have := (zn_inj (by omega) (by omega)).mp e; omega)]
            refine ⟨0, -1, -1, rfl, zc_arg0 h7 b2.2.2.2.2.1 (by omega), ?_, Or.inl ⟨rfl, rfl⟩⟩
            rcases z1 with z1 | ⟨z1, z1', _, z7, _⟩ | z1 | z1
            · rw [if_neg (by rw [z1.2.1]; decide)]
            · rw [if_pos z1', if_neg (by have := zS1_nz z2; rw [z7] at this; exact this)]
            · omega
            · obtain ⟨_, z1, _⟩ := z1; omega
        · rw [if_neg q17, if_pos rfl, if_pos rfl]
          exact ⟨0, -1, -1, rfl, zc_arg0 h7 b2.2.2.2.2.1 (by omega), rfl, Or.inl ⟨rfl, rfl⟩⟩
      rw [c1, c3.1]
      have hU3 := zUC_arg (x := Int32.ofNat F2) (y := Int32.ofNat F3) (z := al) (x' := Int32.ofNat C2) (y' := al2) hU2 hfm c3.2
      unfold bX7_readCall_186 bX12_called_289
      rw [c2, pl_bd, zn_wr (by omega) (by decide), pl_pt]
      have eu : (zrd (zu (zu (zu u2 25 (R + m) (Int32.ofNat C2)) 26 (R + m) al2) 0 39 (zu (zu u2 25 (R + m) (Int32.ofNat C2)) 26 (R + m) al2 0 39 + 1)) 20 1600 (Int32.ofNat S) fun v2989 => zwr (zu (zu (zu u2 25 (R + m) (Int32.ofNat C2)) 26 (R + m) al2) 0 39 (zu (zu u2 25 (R + m) (Int32.ofNat C2)) 26 (R + m) al2 0 39 + 1)) 20 1600 (Int32.ofNat S) (v2989 + 1) fun t2992 => zbd (mX12_isSign 44 t2992) fun r2993 t2994 => if r2993 = 0 then bX12_called_327 (lX12_called_195 (fm + (k + 1))) (Int32.ofNat S) r2993 t2994 else zbd (mX12_next t2994) fun _ t2997 => bX12_called_327 (lX12_called_195 (fm + (k + 1))) (Int32.ofNat S) r2993 t2997) = zbd (mX12_isSign 44 (zma u2 (R + m) S m (Int32.ofNat C2) al2)) fun r2993 t2994 => if r2993 = 0 then bX12_called_327 (lX12_called_195 (fm + (k + 1))) (Int32.ofNat S) r2993 t2994 else zbd (mX12_next t2994) fun _ t2997 => bX12_called_327 (lX12_called_195 (fm + (k + 1))) (Int32.ofNat S) r2993 t2997 := by
        rw [zn_rd (by omega) (by decide), zn_wr (by omega) (by decide)]
        unfold zma
        simp (disch := first | omega | decide | assumption) only [zu_same, zu_ne1, zu_ne2, zu_row, pl_bd, pl_pt, pl_let, zn_set, zn_get, zn_rd, zn_wr, zn_1, zn_m, Nat.reduceAdd, h39, h20]
      rw [eu, zAt_sg hU3.1.1 (c := 44) (by decide), pl_bd]
      by_cases q44 : zca t2 (R + m) (Int32.ofNat F2) (Int32.ofNat F3) al 5 9 = 44
      · rw [if_pos q44, if_pos q44, if_neg pl_10]
        obtain ⟨t3, u3, d1, d2, d3, d4, _, _⟩ := zEB_step hU3.1 (by rw [q44]; decide)
        have hU4 := zUC_E hU3 d3 d4 (by omega) (by omega) (by omega) (by omega)
        rw [d1, pl_bd, d2, pl_bd, pl_let, zn_1]
        unfold bX12_called_327
        have hm3 := zAt_m1 d3.1
        have hnm := zAt_nm d3.1
        have hl3 := zAt_lt d3.1
        have f1 : lX7_readCall_97 (fc + (k + 1)) (Int32.ofNat S) (Int32.ofNat (m + 1)) t3 = bX7_readCall_124 (lX7_readCall_97 (fc + k)) (Int32.ofNat S) (Int32.ofNat (m + 1)) t3 := by
          show bX7_readCall_97 (lX7_readCall_97 (fc + k)) _ _ _ = _
          unfold bX7_readCall_97
          rw [if_neg (show ¬ (3000 : Int32) ≤ Int32.ofNat (m + 1) from fun w => by have := (zn_le (a := 3000) (by decide) (by omega)).mp w; omega), if_neg (by rw [hm3.1]; decide), if_pos (show (0 : Int32) < Int32.ofNat (m + 1) from (zn_lt (a := 0) (by decide) (by omega)).mpr (by omega))]
        have f2 : lX12_called_195 (fm + (k + 1)) (Int32.ofNat S) 1 u3 = bX12_called_213 (lX12_called_195 (fm + k)) (Int32.ofNat S) (if t3 5 9 = 17 then 1 else 0) u3 := by
          show bX12_called_195 (lX12_called_195 (fm + k)) _ _ _ = _
          unfold bX12_called_195
          rw [if_neg pl_10]
          by_cases q : t3 5 9 = 17
          · rw [if_pos q, if_pos (hnm.mpr q)]
          · rw [if_neg q, if_neg (fun e => q (hnm.mp e))]
        rw [f1, f2]
        rcases ih (i2 + 1) fc fm n3 F3 (C3 + 1) (m + 1) t3 u3 (by omega) hU4 (by omega) (by omega) with ⟨i3, n4, F4, C4, m4', t4, u4, g1, g2, g3, g4, g5⟩ | g
        · exact Or.inl ⟨i3, n4, F4, C4, m4', t4, u4, g1, g2, by omega, g4, g5⟩
        · exact Or.inr g
      · rw [if_neg q44, if_neg q44, if_pos rfl]
        refine Or.inl ⟨i2, n3, F3, C3 + 1, m + 1, _, _, rfl, ?_, b1, by omega, hU3⟩
        unfold bX12_called_327
        show bX12_called_195 (lX12_called_195 (fm + k)) _ _ _ = _
        unfold bX12_called_195
        rw [if_pos rfl]
    · have hE := zSE_ofC h (by omega) er (by omega)
      have fin : ∀ fl, ∃ t3, bX7_readCall_186 (lX7_readCall_97 (fc + (k + 1))) (Int32.ofNat S) (Int32.ofNat m) fl (Int32.ofNat F2) t2 = some (0, t3) ∧ zEs t2 t3 := by
        intro fl
        unfold bX7_readCall_186
        obtain ⟨t3, g1, g2⟩ := zEs_addArg (x1 := Int32.ofNat F2) (x2 := fl) (zEr_c er.1)
        obtain ⟨t4, g3, g4⟩ := zEc_211 (s := Int32.ofNat S) g2.1
        rw [g1, pl_bd, if_neg (by rw [g2.1.1]; decide), g3]
        exact ⟨t4, rfl, zEs_trans g2 g4⟩
      have hw : ¬ u2 0 9 < 0 := fun w => absurd (zEr_m er.1) (Int32.not_le.mpr w)
      obtain ⟨t3, g1, g2⟩ := fin 0
      obtain ⟨t4, g3, g4⟩ := fin 1
      rw [if_neg hw, g1, g3]
      refine Or.inr ?_
      by_cases q : (if t 5 9 = 17 then (1 : Int32) else 0) = 0
      · rw [if_pos q]; exact ⟨t3, u2, rfl, rfl, zSE_c hE g2⟩
      · rw [if_neg q]
        by_cases q2 : t2 5 8 = Int32.ofNat (i + 1)
        · rw [if_pos q2]; exact ⟨t4, u2, rfl, rfl, zSE_c hE g4⟩
        · rw [if_neg q2]; exact ⟨t3, u2, rfl, rfl, zSE_c hE g2⟩
