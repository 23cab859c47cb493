/-! spawn and become: the whole -/
theorem pl_kindAt {G : zTxt} {i : Nat} {t u : zS} (h : zAt G i t u) : ∃ x, mX10_kindAt (t 5 8 + 1) t = some (x, t) ∧ (i < G.2.2.1 → x = t 67 (3 * (i + 1))) ∧ (¬ i < G.2.2.1 → x = 19) := by
  have h8 : t 5 8 = Int32.ofNat i := h.2.2.2.2.2.1
  have hm : t 50 4 = Int32.ofNat (G.2.2.1 + 1) := h.1.2.2.2.2.1
  have hl := zAt_lt h
  have h2 : G.2.1 ≤ 3000 := h.2.2.2.1
  have hmn := h.1.2.1
  have hi : i ≤ G.2.2.1 := h.2.2.2.2.1
  unfold mX10_kindAt
  rw [h8, zn_1, if_neg (zn_neg (by omega)), hm]
  by_cases q : i < G.2.2.1
  · have e3 : (3 : Int32) * Int32.ofNat (i + 1) = Int32.ofNat (3 * (i + 1)) := zn_mul 3 (i + 1)
    rw [if_neg (by rw [zn_le (by omega) (by omega)]; omega), e3, if_neg (show ¬ (9003 : Int32) ≤ Int32.ofNat (3 * (i + 1)) from fun w => by have := (zn_le (a := 9003) (by decide) (by omega)).mp w; omega), zn_rd (by omega) (by decide)]
    exact ⟨_, rfl, fun _ => rfl, fun w => absurd q w⟩
  · rw [if_pos (by rw [zn_le (by omega) (by omega)]; omega)]
    exact ⟨_, rfl, fun w => absurd w q, fun _ => rfl⟩
theorem zCall {g : GgX7_readBlock} {G : zTxt} {i d p b H : Nat} {f : Nat → Nat} {N M A S n F C R W V q e : Nat} {o : Nat → Nat × Nat} {w : Nat → Nat} {Y Z : List Nat} {t0 u0 t u : zS} {hx kk m : Int32} (h : zBB G i d p b H f N M A S n F C R W V q o w Y Z t0 u0) (hN : zBN i A H b S n F C R W V q) (hU : zUW G i (i + 1) d p b H f N M A S n F C R W V q n F C o w t0 u0 t u) (hd : d ≤ 40) (hS : S < 1000) (hH : zHd o S p e t0 hx) (he : e ≤ 39) (hk : (kk = 8 ∧ m = 7) ∨ (kk = 9 ∧ m = 9)) (h0 : zR0 S kk m hx t u) : ∃ r t2 r' u2, bX7_readStatement_58 g kk (Int32.ofNat S) t = some (r, t2) ∧ bX12_simple_15 (Int32.ofNat S) m u = some (r', u2) ∧ zSP G i d p b H f N M A S n F C R W V q o w Y Z e hx t0 u0 r t2 r' u2 := by
  have hN2 := hN
  obtain ⟨m1, m2, m3, m4, m5, m6, m7, m8⟩ := hN2
  have hl := zAt_lt hU.1.1
  have hm1 := zAt_m1 hU.1.1
  have hnm := zAt_nm hU.1.1
  obtain ⟨k1, k2, k3, k4, k5, k6, k7, k8, k9, k10, k11, k12, k13, k14, k15, k16⟩ := h0
  have eC : bX7_readStatement_58 g kk (Int32.ofNat S) t = zbd (mX7_readCall (Int32.ofNat S) kk t) fun _ t' => some (Int32.ofNat S, t') := by
    unfold bX7_readStatement_58
    rcases hk with ⟨hk, _⟩ | ⟨hk, _⟩
    · subst hk
      rw [if_neg (by decide), if_pos rfl]
    · subst hk
      rw [if_neg (by decide), if_neg (by decide), if_pos rfl]
  have eM : bX12_simple_15 (Int32.ofNat S) m u = zbd (mX12_called (Int32.ofNat S) u) fun _ u' => bX12_simple_162 (Int32.ofNat S) u' := by
    unfold bX12_simple_15 bX12_simple_27
    rcases hk with ⟨_, hk⟩ | ⟨_, hk⟩
    · subst hk; rw [if_pos rfl]
    · subst hk; rw [if_neg (by decide), if_pos rfl]
  have hrc : zRc S p hx t u := ⟨k2, k12, k7, k8, by
    rw [k1, k3, k9, k10]
    rcases hk with ⟨e1, e2⟩ | ⟨e1, e2⟩
    · exact Or.inl ⟨e1, e2, rfl, rfl⟩
    · exact Or.inr (Or.inr ⟨e1, e2, rfl, rfl⟩)⟩
  rw [eC, eM]
  -- no NAME there
  have bad : ¬ t 5 9 = 17 → ∃ r t2 r' u2, (zbd (bX7_readCall_29 (Int32.ofNat S) t) fun _ t' => some (Int32.ofNat S, t')) = some (r, t2) ∧ (zbd (mX12_called (Int32.ofNat S) u) fun _ u' => bX12_simple_162 (Int32.ofNat S) u') = some (r', u2) ∧ zSP G i d p b H f N M A S n F C R W V q o w Y Z e hx t0 u0 r t2 r' u2 := by
    intro q17
    obtain ⟨t2, u2, r1, r2, r3⟩ := zEB_no (cb := 6300) hU.1 (by omega)
    have hE := zSE_ofU hU (by omega) r3 (by omega)
    unfold bX7_readCall_29 mX12_called bX12_called_25
    rw [if_neg q17, r1, pl_bd, pl_bd, pl_let, pl_let, if_neg (fun x => q17 (hnm.mp x)), r2, pl_bd, pl_bd, zEm_162 (zEr_m hE.1)]
    exact ⟨_, _, _, _, rfl, rfl, Or.inr (zSE_5 hE)⟩
  -- one NAME
  have one : t 5 9 = 17 → (∀ u1, mX12_next u = some (0, u1) → ¬ (m = 7 ∧ u1 0 5 = 2)) → ∃ r t2 r' u2, (zbd (bX7_readCall_29 (Int32.ofNat S) t) fun _ t' => some (Int32.ofNat S, t')) = some (r, t2) ∧ (zbd (mX12_called (Int32.ofNat S) u) fun _ u' => bX12_simple_162 (Int32.ofNat S) u') = some (r', u2) ∧ zSP G i d p b H f N M A S n F C R W V q o w Y Z e hx t0 u0 r t2 r' u2 := by
    intro q17 hno
    obtain ⟨rc, t2, rm, u2, a1, a2, a3⟩ := zCall92 h hN hU hd hS (by omega) hH he q17 hrc
    obtain ⟨t1, u1, s1, s2, s3, s4, s5, s6⟩ := zUW_step hU (by rw [q17]; decide)
    have eC2 : mX12_called (Int32.ofNat S) u = zbd (mX12_next u) fun _ u1 => bX12_called_92 (Int32.ofNat S) (u 0 8) (u 0 6) u1 := by
      unfold mX12_called
      rw [pl_let, pl_let, if_pos (hnm.mpr q17), if_pos (by rw [hm1.2]; decide), s2, pl_bd, pl_bd, zn_rd (by omega) (by decide), s6.1 14 (by decide) (by decide) (by decide), k9]
      by_cases q7 : m = 7
      · rw [if_pos q7, if_neg (fun x => hno u1 s2 ⟨q7, x⟩)]
      · rw [if_neg q7]
    rw [a1, pl_bd, eC2, a2]
    exact ⟨_, _, _, _, rfl, rfl, a3⟩
  unfold mX7_readCall
  rcases hk with ⟨e1, e2⟩ | ⟨e1, e2⟩
  · subst e1 e2
    rw [if_pos rfl]
    obtain ⟨x, x1, x2, x3⟩ := pl_kindAt hU.1.1
    rw [x1, pl_bd]
    by_cases q17 : t 5 9 = 17
    · obtain ⟨t1, u1, s1, s2, s3, s4, s5, s6⟩ := zUW_step hU (by rw [q17]; decide)
      have hi := (zAt_nmj hU.1.1 q17).1
      have ex : t1 5 9 = x := by
        rw [x2 hi]
        have e9 : t1 5 9 = t1 67 (3 * (i + 1 + 1)) := s3.1.1.2.2.2.2.2.2.1
        rw [e9, s5.1 67 (by decide)]
      have hnm1 := zAt_nm s3.1.1
      by_cases qx : x = 17
      · -- two NAMES
        rw [if_pos qx]
        obtain ⟨v, y, v1, v2, v3, v4, v5⟩ := zAt_nmv hU.1.1 q17
        obtain ⟨j1, j2, j3, j4, j5⟩ := zAt_nmj hU.1.1 q17
        have ev : G.2.2.2 (i + 1) = v := by
          rw [v1] at j3
          exact ((zn_inj (by omega) (by omega)).mp j3).symm
        have hl2 := zAt_lt s3.1.1
        have hsl : zSl G (i + 1) p b n t (zu u1 14 S 8) := zSl_of hU.1.2.2.2.1 (Nat.le_refl _) rfl (by rw [zu_ne1 (by decide)]; exact s6.2 60 (by decide)) rfl rfl rfl (by rw [zu_row (by decide)]; exact s6.1 31 (by decide) (by decide) (by decide)) (by rw [zu_row (by decide)]; exact s6.1 33 (by decide) (by decide) (by decide))
        obtain ⟨k, t2, u2, n3, r1, r2, r3, r4, r5, r6, r7, r8, r9, r10, r11, _, _⟩ := zSl_own (zBk_len hU.1.1) hsl (by omega) v4 v5 ⟨i + 1, by omega, j1, j2, ev⟩
        have e5 : t2 5 = t 5 := zFP_row 5 r7 (fun _ => rfl)
        have hA1 : zAt G (i + 1) (zu t2 91 S (Int32.ofNat k)) u := zAt_of hU.1.1 (fun j _ _ => by rw [zu_ne1 (by decide), e5]) (by rw [zu_row (by decide)]; exact zFP_row 67 r7 (fun _ => rfl)) (by rw [zu_ne1 (by decide), zFP_row 50 r7 (fun _ => rfl)]) (fun _ _ _ => rfl) rfl rfl rfl
        obtain ⟨t3, u1', w1, w2, w3, w4, w5⟩ := zAt_step hA1 (by rw [zu_ne1 (by decide), e5, q17]; decide)
        have eu1 : u1' = u1 := by
          rw [s2] at w2
          injection w2 with w2
          injection w2 with _ w2
          exact w2.symm
        subst eu1
        have w4' := zSf_of w4
        have w5' := zMf_of w5
        have u20 : u2 0 = u1' 0 := by rw [zFP_row 0 r8 (fun _ => rfl), zu_row (by decide)]
        have hv91 : t3 91 S = Int32.ofNat k := by rw [w4'.1 91 (by decide), zu_same]
        have hu14 : u2 14 S = 8 := by rw [zFP_row 14 r8 (fun _ => rfl), zu_same]
        have rt : ∀ k', ¬ (k' = 5 ∨ k' = 39 ∨ k' = 47 ∨ k' = 49) → zu t3 91 S (t 91 S) k' = t k' := by
          intro k' hk'
          have hz : zpSC k' = fun _ => true := by
            funext j
            unfold zpSC
            simp only [Bool.not_eq_true', Bool.or_eq_false_iff, beq_eq_false_iff_ne]
            omega
          have e2 : t2 k' = t k' := zFP_row k' r7 (fun j => by rw [hz])
          funext j
          by_cases e : k' = 91
          · subst e
            by_cases ej : j = S
            · subst ej; rw [zu_same]
            · rw [zu_ne2 ej, w4'.1 91 (by decide), zu_ne2 ej, e2]
          · rw [zu_ne1 e, w4'.1 k' (by omega), zu_ne1 e, e2]
        have ru : ∀ k', ¬ (k' = 0 ∨ k' = 3 ∨ k' = 4 ∨ k' = 31 ∨ k' = 33) → zu (zu (zu u2 16 S (Int32.ofNat k)) 16 S (u 16 S)) 14 S (u 14 S) k' = u k' := by
          intro k' hk'
          have hz : zpSM k' = fun _ => true := by
            funext j
            unfold zpSM
            simp only [Bool.not_eq_true', Bool.or_eq_false_iff, beq_eq_false_iff_ne]
            omega
          have e2 : u2 k' = zu u1' 14 S 8 k' := zFP_row k' r8 (fun j => by rw [hz])
          have e3 : u1' k' = u k' := s6.1 k' (by omega) (by omega) (by omega)
          funext j
          by_cases e : k' = 14
          · subst e
            by_cases ej : j = S
            · subst ej; rw [zu_same]
            · rw [zu_ne2 ej, zu_ne1 (by decide), zu_ne1 (by decide), e2, zu_ne2 ej, e3]
          · by_cases e' : k' = 16
            · subst e'
              by_cases ej : j = S
              · subst ej; rw [zu_ne1 (by decide), zu_same]
              · rw [zu_ne1 (by decide), zu_ne2 ej, zu_ne2 ej, e2, zu_ne1 (by decide), e3]
            · rw [zu_ne1 e, zu_ne1 e', zu_ne1 e', e2, zu_ne1 e, e3]
        have ru0 : ∀ j, zu (zu (zu u2 16 S (Int32.ofNat k)) 16 S (u 16 S)) 14 S (u 14 S) 0 j = u1' 0 j := fun j => by rw [zu_ne1 (by decide), zu_ne1 (by decide), zu_ne1 (by decide), u20]
        have hX : zEX p b n F C n3 F C t u (zu t3 91 S (t 91 S)) (zu (zu (zu u2 16 S (Int32.ofNat k)) 16 S (u 16 S)) 14 S (u 14 S)) := by
          refine ⟨r4, Nat.le_refl _, Nat.le_refl _, fun k' j hq => ?_, fun k' j hq => ?_, fun q' hq' => ?_, fun q' hq' => ?_, fun k' hk' => ?_, fun k' _ => ⟨by rw [rt 75 (by omega)], by rw [rt 77 (by omega)]⟩, fun c _ => by rw [ru 27 (by omega)], ?_⟩
          · unfold zpEC at hq
            by_cases e51 : k' = 51
            · rw [rt k' (by omega)]
            · rw [if_neg e51] at hq
              simp only [Bool.not_eq_true', Bool.or_eq_false_iff, beq_eq_false_iff_ne] at hq
              rw [rt k' (by omega)]
          · by_cases e0 : k' = 0
            · subst e0
              unfold zpEM at hq
              rw [if_pos rfl] at hq
              simp only [Bool.not_eq_true', Bool.or_eq_false_iff, Bool.and_eq_false_iff, beq_eq_false_iff_ne, decide_eq_false_iff_not] at hq
              rw [ru0 j]; exact s6.2 j (by omega)
            · unfold zpEM at hq
              rw [if_neg e0] at hq
              simp only [Bool.not_eq_true', Bool.or_eq_false_iff, beq_eq_false_iff_ne] at hq
              rw [ru k' (by omega)]
          · rw [zu_ne1 (by decide), w4'.1 39 (by decide), zu_ne1 (by decide)]; exact r9 q' hq'
          · rw [zu_ne1 (by decide), zu_ne1 (by decide), zu_ne1 (by decide), r10 q' hq', zu_ne1 (by decide), s6.1 31 (by decide) (by decide) (by decide)]
          · rw [zu_ne1 (by decide), zu_ne1 (by decide), zu_ne1 (by decide), r11 k' hk', zu_ne1 (by decide), s6.1 33 (by decide) (by decide) (by decide)]
          · rw [zu_ne1 (by decide), w4'.2, zu_ne1 (by decide), e5]
        have hE : zEB G (i + 1 + 1) d p b n3 F C (zu t3 91 S (t 91 S)) (zu (zu (zu u2 16 S (Int32.ofNat k)) 16 S (u 16 S)) 14 S (u 14 S)) := by
          refine ⟨zAt_of w3 (fun j _ _ => zu_ne1 (by decide)) (zu_row (by decide)) (zu_ne1 (by decide)) (fun j _ _ => ru0 j) ?_ ?_ ?_, ?_, ?_, ?_, ?_, ?_⟩
          · rw [zu_row (by decide), zu_row (by decide), zu_row (by decide), zFP_row 2 r8 (fun _ => rfl), zu_row (by decide)]
          · rw [zu_row (by decide), zu_row (by decide), zu_row (by decide), zFP_row 3 r8 (fun _ => rfl), zu_row (by decide)]
          · rw [zu_row (by decide), zu_row (by decide), zu_row (by decide), zFP_row 4 r8 (fun _ => rfl), zu_row (by decide)]
          · rw [zu_ne1 (by decide), w4.2 13 (by decide) (by decide) (by decide) (by decide), zu_ne1 (by decide), e5]; exact hU.1.2.1
          · rw [ru0 10, w5.2 10 (by decide) (by decide) (by decide) (by decide) (by decide) (by decide)]; exact hU.1.2.2.1
          · exact zSl_of r6 (Nat.le_refl _) (by rw [zu_ne1 (by decide), w4'.1 4 (by decide), zu_ne1 (by decide)]) (by rw [ru0 60, u20]) (by rw [zu_row (by decide), w4'.1 39 (by decide), zu_row (by decide)]) (by rw [zu_row (by decide), w4'.1 47 (by decide), zu_row (by decide)]) (by rw [zu_row (by decide), w4'.1 49 (by decide), zu_row (by decide)]) (by rw [zu_row (by decide), zu_row (by decide), zu_row (by decide)]) (by rw [zu_row (by decide), zu_row (by decide), zu_row (by decide)])
          · rw [rt 51 (by omega)]; exact hU.1.2.2.2.2.1
          · rw [ru0 42, s6.2 42 (by decide)]; exact hU.1.2.2.2.2.2
        obtain ⟨z1, z2⟩ := zUW_E hU hE hX (by omega) (by omega) (by omega) (by omega)
        have z3 := zUW_mu (k := 16) (v := Int32.ofNat k) (zUW_mu (k := 14) (v := 8) (zUW_zu (k := 91) (v := Int32.ofNat k) z1 (by omega)) (by omega)) (by omega)
        rw [zu_back hv91, zu_back (show zu (zu u2 16 S (Int32.ofNat k)) 16 S (u 16 S) 14 S = 8 by rw [zu_ne1 (by decide), zu_ne1 (by decide)]; exact hu14), zu_back (zu_same _ _ _ _)] at z3
        have q17' : t3 5 9 = 17 := by
          have e9 : t3 5 9 = t3 67 (3 * (i + 1 + 1)) := w3.2.2.2.2.2.2.1
          rw [e9, w4'.1 67 (by decide), zu_row (by decide), zFP_row 67 r7 (fun _ => rfl), ← x2 hi]; exact qx
        have rowC : ∀ k', 87 ≤ k' → k' ≤ 107 → ¬ k' = 91 → t3 k' S = t k' S := fun k' h1 h2 h3 => by
          have := congrFun (rt k' (by omega)) S
          rw [zu_ne1 h3] at this; exact this
        have rowM : ∀ k', 14 ≤ k' → k' ≤ 22 → ¬ k' = 14 → ¬ k' = 16 → zu u2 16 S (Int32.ofNat k) k' S = u k' S := fun k' h1 h2 h3 h4 => by
          have := congrFun (ru k' (by omega)) S
          rw [zu_ne1 h3, zu_ne1 h4] at this; exact this
        have hrc2 : zRc S p hx t3 (zu u2 16 S (Int32.ofNat k)) := by
          refine ⟨by rw [rowC 89 (by omega) (by omega) (by omega), rowM 15 (by omega) (by omega) (by omega) (by omega)]; exact k2, by rw [rowM 18 (by omega) (by omega) (by omega) (by omega)]; exact k12, by rw [rowC 99 (by omega) (by omega) (by omega)]; exact k7, by rw [rowC 101 (by omega) (by omega) (by omega)]; exact k8, Or.inr (Or.inl ⟨by rw [rowC 87 (by omega) (by omega) (by omega)]; exact k1, by rw [zu_ne1 (by decide)]; exact hu14, k, n3, hv91, zu_same _ _ _ _, ?_, r3, by omega⟩)⟩
          rw [w4'.1 39 (by decide), zu_ne1 (by decide)]; exact r6.2.2.1
        have c1 : mX7_readSlot (Int32.ofNat S) t = some (0, t3) := by
          unfold mX7_readSlot
          rw [if_pos q17, v1, r1, pl_bd, zn_set hS (by decide), pl_bd, w1, pl_bd]
        have c2 : mX12_called (Int32.ofNat S) u = zbd (mX12_next (zu u2 16 S (Int32.ofNat k))) fun _ u1 => bX12_called_92 (Int32.ofNat S) (zu u2 16 S (Int32.ofNat k) 0 8) (zu u2 16 S (Int32.ofNat k) 0 6) u1 := by
          unfold mX12_called
          rw [pl_let, pl_let, if_pos (hnm.mpr q17), if_pos (by rw [hm1.2]; decide), s2, pl_bd, zn_rd (by omega) (by decide), s6.1 14 (by decide) (by decide) (by decide), k9, if_pos rfl, if_pos (hnm1.mpr (by rw [ex]; exact qx)), zn_wr (by omega) (by decide), v2, r2, pl_bd, zn_wr (by omega) (by decide), pl_let, pl_let]
        obtain ⟨rc, t4, rm, u4, g1, g2, g3⟩ := zCall92 h hN z3 hd hS (by omega) hH he q17' hrc2
        rw [c1, pl_bd, g1, pl_bd, c2, g2]
        exact ⟨_, _, _, _, rfl, rfl, g3⟩
      · rw [if_neg qx]
        exact one q17 (fun u1' hu1 hh => by
          rw [s2] at hu1
          injection hu1 with hu1
          injection hu1 with _ hu1
          exact qx (by rw [← ex]; exact hnm1.mp (by rw [hu1]; exact hh.2)))
    · by_cases qx : x = 17
      · rw [if_pos qx]
        have c1 : mX7_readSlot (Int32.ofNat S) t = bX7_readCall_29 (Int32.ofNat S) t := by
          unfold mX7_readSlot bX7_readCall_29
          rw [if_neg q17, if_neg q17]
        obtain ⟨t2, u2, r1, r2, r3⟩ := zEB_no (cb := 6300) hU.1 (by omega)
        have c2 : bX7_readCall_29 (Int32.ofNat S) t = some (0, t2) := by
          unfold bX7_readCall_29
          rw [if_neg q17, r1, pl_bd]
        have c3 : bX7_readCall_29 (Int32.ofNat S) t2 = some (0, t2) := by
          unfold bX7_readCall_29
          rw [if_neg (by rw [r3.1.1]; decide), zEc_refuse (zEr_c r3.1), pl_bd]
        have := bad q17
        rw [c2] at this
        rw [c1, c2, pl_bd, c3]
        exact this
      · rw [if_neg qx]
        exact bad q17
  · subst e1 e2
    rw [if_neg (by decide)]
    by_cases q17 : t 5 9 = 17
    · exact one q17 (fun u1 _ hh => absurd hh.1 (by decide))
    · exact bad q17
