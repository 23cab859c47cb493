/-! case: the loop -/
theorem zCaseN {i i2 A H b S n F C R W V q S2 n2 F2 C2 R2 W2 V2 q2 m : Nat} (hN : zBN i A (H + m) b S n F C R W V q) (hQ : 2 * A + 2 * V + 2 * (H + m) ≤ i) (h3 : 3 * S ≤ i) (bf : zBF (i + 1) S n F C R W V q i2 S2 n2 F2 C2 R2 W2 V2 q2) (y3 : 3 * S2 + (i + 1) + 2 ≤ 3 * S + i2) (y8 : 2 * V2 + (i + 1) + 2 ≤ 2 * V + i2) (hl : i2 ≤ 3000) : zBN i2 A (H + (m + 1)) b S2 n2 F2 C2 R2 W2 V2 q2 ∧ 2 * A + 2 * V2 + 2 * (H + (m + 1)) ≤ i2 ∧ 3 * S2 ≤ i2 ∧ S2 ≤ 1000 ∧ n2 ≤ 3000 := by
  obtain ⟨a1, a2, a3, a4, a5, a6, a7, a8⟩ := hN
  obtain ⟨b1, b2, b3, b4, b5, b6, b7, b8⟩ := bf
  exact ⟨⟨by omega, by omega, by omega, by omega, by omega, by omega, by omega, by omega⟩, by omega, by omega, by omega, by omega⟩
theorem zCaseF {i i2 i3 m S n F C R W V q S2 n2 F2 C2 R2 W2 V2 q2 S3 n3 F3 C3 R3 W3 V3 q3 : Nat} (bf : zBF (i + 1) S n F C R W V q i2 S2 n2 F2 C2 R2 W2 V2 q2) (y8 : 2 * V2 + (i + 1) + 2 ≤ 2 * V + i2) (k : zBF i2 S2 n2 F2 C2 R2 W2 (V2 + (m + 1)) q2 i3 S3 n3 F3 C3 R3 W3 V3 q3) : zBF i S n F C R W (V + m) q i3 S3 n3 F3 C3 R3 W3 V3 q3 := by
  obtain ⟨b1, b2, b3, b4, b5, b6, b7, b8⟩ := bf
  obtain ⟨c1, c2, c3, c4, c5, c6, c7, c8⟩ := k
  exact ⟨by omega, by omega, by omega, by omega, by omega, by omega, by omega, by omega⟩
theorem zCaseL {gC : GgX7_readBlock} {gM : GgX12_block} {G : zTxt} {d p b H : Nat} {f : Nat → Nat} {N M A S0 n0 F0 C0 R0 W0 V0 q0 s e : Nat} {o0 : Nat → Nat × Nat} {w0 : Nat → Nat} {Y Z : List Nat} {tg : Nat × Nat} {t0 u0 ts us : zS} (hB : zPB (d + 1) (e + 1) gC.1 gM.1) (hd : d < 40) (hs0 : S0 ≤ s) (hsY : s ∈ Y) (hs1 : s < 1000) (hts : ts 87 s = 7) (fR0 : zFP zpR t0 ts) (fM0 : zFP zpM u0 us) :
    ∀ (k i fc fm S n F C R W V q m : Nat) (E : Nat → Nat) (o : Nat → Nat × Nat) (w : Nat → Nat) (x3 : Int32) (t u : zS), 3001 ≤ k + i → zCS G i (d + 1) p b H f N M A S n F C R W V q s m W0 E o w Y Z t u → zBN i A (H + m) b S n F C R W V q → 2 * A + 2 * V + 2 * (H + m) ≤ i → 3 * S ≤ i → zBX p b H S0 n0 F0 C0 R0 W0 V0 q0 S n F C R W V q o0 o w0 w t0 u0 t u → s < S → (o s = (e, p) ∧ o (10000 + s) = tg) → e + 1 ≤ zKc G i → (x3 = if m = 0 then -1 else Int32.ofNat (E (m - 1))) → zCK s p F0 C0 ts us t u →
    ∃ t2 rm u2, bX7_readCases_41 gC (lX7_readCases_14 gC (fc + k)) (Int32.ofNat s) x3 (Int32.ofNat m) t = some (0, t2) ∧ lX12_choose_36 gM (fm + k + 2) (Int32.ofNat s) (Int32.ofNat (2 * H)) 1 u = some (rm, u2) ∧ ((rm = Int32.ofNat s ∧ zCaseOk G i d p b H f N M A S0 n0 F0 C0 R0 W0 V0 q0 S n F C R W (V + m) q s e o0 w0 Y Z tg t0 u0 ts us t2 u2) ∨ zSE H t0 u0 t2 u2) := by
  intro k
  induction k with
  | zero =>
    intro i fc fm S n F C R W V q m E o w x3 t u hk h
    have := zAt_lt h.1.1.1
    omega
  | succ k ih =>
    intro i fc fm S n F C R W V q m E o w x3 t u hk h hN hQ h3 hX hs hos hK hx3 hck
    have hcs := h
    obtain ⟨h1, hL, hC, hD, hD2⟩ := h
    have hl := zAt_lt h1.1.1
    have hm1 := zAt_m1 h1.1.1
    have hnm := zAt_nm h1.1.1
    have fR : zFP zpR t0 t := zFP_trans fR0 hck.2.2.1
    have fM : zFP zpM u0 u := zFP_trans fM0 hck.2.2.2
    have hbd : S ≤ 1000 ∧ n ≤ 3000 ∧ C ≤ 6400 ∧ W ≤ 1600 ∧ m ≤ 1500 ∧ H + m ≤ 1500 ∧ 2 * A + 2 * V + 2 * (H + m) ≤ 3002 := by
      obtain ⟨m1, m2, m3, m4, m5, m6, m7, m8⟩ := hN
      refine ⟨?_, ?_, ?_, ?_, ?_, ?_, ?_⟩ <;> omega
    obtain ⟨b1, b2, b3, b4, b5, b6, b7⟩ := hbd
    have h59 := h1.2.2.2.2.2.2.2.2.1
    have bad : ∃ t2 u2, bX7_readCases_65 gC t = some (0, t2) ∧ (zbd (mX12_fails (u 0 6) u) fun r t => some (r, t)) = some (-1, u2) ∧ zSE H t0 u0 t2 u2 := by
      obtain ⟨t1, u1, r1, r2, r3, r4, r5, _⟩ := zAt_no h1.1.1
      have hE := zSE_H (H := H) (zSE_pre (zSE_ofB h1 b3 b7 r3 r4 r5) fR fM) (Nat.le_add_right _ _)
      obtain ⟨t2, g1, g2, g3, g4⟩ := zEc_leave (c := 125) (zEr_c hE.1) (by decide)
      unfold bX7_readCases_65 bX7_readCases_105
      rw [r1, pl_bd, g1, pl_bd, r2, pl_bd]
      exact ⟨t2, u1, rfl, rfl, zSE_c hE (zEs_sf g2 g3 g4)⟩
    have eM : lX12_choose_36 gM (fm + (k + 1) + 2) (Int32.ofNat s) (Int32.ofNat (2 * H)) 1 u = if (u 0 5) = 2 then lX12_choose_67 gM (lX12_choose_36 gM (fm + k + 2)) zFU (Int32.ofNat s) (Int32.ofNat (2 * H)) (Int32.ofNat (2 * H)) u else bX12_choose_55 gM u := by
      show bX12_choose_36 gM (lX12_choose_36 gM (fm + k + 2)) _ _ _ _ = _
      unfold bX12_choose_36
      rw [if_neg pl_10, if_pos (show u 0 9 < 0 by rw [hm1.2]; decide)]
    rw [eM]
    unfold bX7_readCases_41
    by_cases q17 : t 5 9 = 17
    · rw [if_pos q17, if_pos (hnm.mpr q17)]
      obtain ⟨v, x, v1, v2, v3, v4, v5⟩ := zAt_nmv h1.1.1 q17
      obtain ⟨r, r1, r2⟩ := pl_findBr (x := t 5 11) hL b4 (Nat.le_trans b5 (by decide)) hs1
      rw [r1, pl_bd]
      rcases r2 with ⟨j, j1, j2, j3, j4⟩ | ⟨j1, j2⟩
      · have ej := (hL.2 j j1).1
        have := pl_hheldD (g := gM) (k36 := lX12_choose_36 gM (fm + k + 2)) (x1 := Int32.ofNat s) (x2 := Int32.ofNat (2 * H)) h59 (Nat.le_trans b6 (by decide)) j1 (by rw [v2]; exact (zNm_iff h1.1.1 (hC j j1).1 v4 v5).mp (by rw [j3, v1])) m 0 (zFU - m - 1) (by clear hC hD hL hck; omega) (Nat.zero_le _)
        rw [show zFU - m - 1 + m + 1 = zFU by unfold zFU; clear hC hD hL hck; omega] at this
        obtain ⟨t2, u2, c1, c2, c3⟩ := bad
        rw [j2, if_neg (zn_neg (by clear hC hD hL hck; omega))]
        exact ⟨t2, -1, u2, c1, this.trans c2, Or.inr c3⟩
      · rw [j1, if_pos (by decide), pl_let]
        have e1 := pl_hheld (g := gM) (k36 := lX12_choose_36 gM (fm + k + 2)) (x1 := Int32.ofNat s) (x2 := Int32.ofNat (2 * H)) h59 (Nat.le_trans b6 (by decide)) m 0 (zFU - m - 1) (by clear hC hD hL hck; omega) (fun l _ hl => fun w1 => j2 l hl (by rw [v1]; exact (zNm_iff h1.1.1 (hC l hl).1 v4 v5).mpr (by rw [← v2]; exact w1)))
        rw [show zFU - m - 1 + m + 1 = zFU by unfold zFU; clear hC hD hL hck; omega] at e1
        rw [show lX12_choose_67 gM (lX12_choose_36 gM (fm + k + 2)) zFU (Int32.ofNat s) (Int32.ofNat (2 * H)) (Int32.ofNat (2 * H)) u = zhAdd gM (lX12_choose_36 gM (fm + k + 2)) (Int32.ofNat s) (Int32.ofNat (2 * H)) u from e1]
        have i1 : 2 * (H + m) < 4000 := by clear hC hD hL hck hN; omega
        have i2' : 2 * (H + m) + 1 < 4000 := by clear hC hD hL hck hN; omega
        unfold zhAdd
        rw [h59, zn_wr i1 (by decide), pl_pt, pl_let, zu_same, zu_ne1 (by decide), h59, zn_2, v2, show Int32.ofNat (2 * (H + m) + 2) - 1 = Int32.ofNat (2 * (H + m) + 1) from zn_m _]
        have ra : ∀ k, ¬ (k = 0 ∨ k = 39) → zu (zu u 39 (2 * (H + m)) (Int32.ofNat x)) 0 59 (Int32.ofNat (2 * (H + m) + 2)) k = u k := fun k hk => by
          rw [zu_row (fun e => hk (Or.inl e)), zu_row (fun e => hk (Or.inr e))]
        have ra0 : ∀ j, ¬ j = 59 → zu (zu u 39 (2 * (H + m)) (Int32.ofNat x)) 0 59 (Int32.ofNat (2 * (H + m) + 2)) 0 j = u 0 j := fun j hj => by rw [zu_ne2 hj, zu_ne1 (by decide)]
        have k39 : zu (zu u 39 (2 * (H + m)) (Int32.ofNat x)) 0 59 (Int32.ofNat (2 * (H + m) + 2)) 39 (2 * (H + m)) = Int32.ofNat x := by rw [zu_ne1 (by decide), zu_same]
        have l39 : ∀ l, ¬ l = 2 * (H + m) → zu (zu u 39 (2 * (H + m)) (Int32.ofNat x)) 0 59 (Int32.ofNat (2 * (H + m) + 2)) 39 l = u 39 l := fun l hl => by rw [zu_ne1 (by decide), zu_ne2 hl]
        have pa : zFP zpM u (zu (zu u 39 (2 * (H + m)) (Int32.ofNat x)) 0 59 (Int32.ofNat (2 * (H + m) + 2))) := zFP_zu (zFP_zu (zFP_refl _ _) rfl) rfl
        have hT := zBB_hold (H2 := H + (m + 1)) (u2 := zu (zu u 39 (2 * (H + m)) (Int32.ofNat x)) 0 59 (Int32.ofNat (2 * (H + m) + 2))) h1 b1 ra ra0 (by rw [zu_same]; rfl)
        have hXa := zBX_u (V3 := V) (u2 := zu (zu u 39 (2 * (H + m)) (Int32.ofNat x)) 0 59 (Int32.ofNat (2 * (H + m) + 2))) hX (Nat.le_refl _) (fun l hl => l39 l (by clear hC hD hL hck hN; omega)) (fun a _ => ⟨by rw [ra 23 (by decide)], by rw [ra 24 (by decide)]⟩) (fun k hk => ra k (by clear hC hD hL hck hN; omega)) (fun j hj => ra0 j (by clear hC hD hL hck hN; omega))
        generalize zu (zu u 39 (2 * (H + m)) (Int32.ofNat x)) 0 59 (Int32.ofNat (2 * (H + m) + 2)) = ua at *
        obtain ⟨t1, u1, s1, s2, s3, s4, s5⟩ := zAt_step hT.1.1 (by rw [q17]; decide)
        have s4' := zSf_of s4
        have s5' := zMf_of s5
        obtain ⟨z1, X1⟩ := zBB_fr (d2 := d + 1) hT s3 (Nat.le_succ _) b2 b1 (by rw [s4.2 13 (by decide) (by decide) (by decide) (by decide)]; exact hT.1.2.1) (by rw [s5.2 10 (by decide) (by decide) (by decide) (by decide) (by decide) (by decide)]; exact hT.1.2.2.1) s4' s5'
        have X2 := zBX_trans hXa X1 (Nat.le_add_right _ _)
        have r87 : t1 87 s = 7 := by rw [s4'.1 87 (by decide), hck.1.1 87 (by decide) (by decide) (by decide)]; exact hts
        have hN1 : zBN (i + 1) A (H + (m + 1)) b S n F C R W V q := by
          obtain ⟨m1, m2, m3, m4, m5, m6, m7, m8⟩ := hN
          exact ⟨by omega, by omega, by omega, by omega, by omega, by omega, by omega, by omega⟩
        have hbeh : zBeh t1 (Int32.ofNat s) = -2 - Int32.ofNat s := by rw [zBeh_w hs1, if_neg (by rw [r87]; decide)]
        obtain ⟨rb, t2, rb', u2, d1, d2, d3⟩ := zBrStep (s := s) (m := m) (E := E) (x3 := x3) (lab := t 5 11) (e := e) hB z1 hN1 X2 (Nat.le_add_right _ _) hs0 hs hsY hos.1 (Or.inl r87) (Nat.le_trans hK (zKc_le (Nat.le_succ _))) (by rw [s4'.1 115 (by decide), s4'.1 105 (by decide)]; exact hL) (fun j hj => (hC j hj).2.2) hx3 hs1
        rw [hbeh] at d2
        rw [s1, pl_bd, s2, pl_bd, d1, pl_bd, d2, pl_bd, zn_wr i2' (by decide)]
        rcases d3 with ⟨i2, S2, n2, F2, C2, R2, W2, V2, q2, o2, w2, t3, y1, y2, z2, X3, bf, y3, y4, y5, y6, y7, y8, y9, kp, L2, ow, l109, l111, bl, nw, rbl⟩ | ⟨rx, t3, y1, er⟩
        · obtain ⟨kr, klab, ko, k101, k75, k27, kg, kh, kR, kM⟩ := kp
          rw [y1, pl_bd, pl_let, zn_1]
          have hl2 := zAt_lt z2.1.1
          obtain ⟨nn1, nn2, nn3, nn4, nn5⟩ := zCaseN hN hQ h3 bf y3 y9 hl2
          have rb39 : ∀ k, ¬ (k = 0 ∨ k = 39) → zu u2 39 (2 * (H + m) + 1) rb' k = u2 k := fun k hk => zu_row (fun e => hk (Or.inr e))
          have z3 := zBB_hold (H2 := H + (m + 1)) (u2 := zu u2 39 (2 * (H + m) + 1) rb') z2 nn4 rb39 (fun j _ => zu_ne1 (by decide)) (by rw [zu_ne1 (by decide)]; exact z2.2.2.2.2.2.2.2.2.1)
          have X4 := zBX_u (V3 := V2) (u2 := zu u2 39 (2 * (H + m) + 1) rb') X3 (Nat.le_refl _) (fun l hl => zu_ne2 (by clear hC hD hL hck hN nn1 bf; omega)) (fun a _ => ⟨zu_ne1 (by decide), zu_ne1 (by decide)⟩) (fun k hk => zu_row (fun e => hk (Or.inr (Or.inr (Or.inr e))))) (fun j _ => zu_ne1 (by decide))
          have u39 : ∀ l, l < 2 * (H + m) + 1 → zu u2 39 (2 * (H + m) + 1) rb' 39 l = ua 39 l := fun l hl => by
            rw [zu_ne2 (Nat.ne_of_lt hl), kh l (by clear hC hD hL hck hN nn1 bf; omega), s5'.1 39 (by decide) (by decide) (by decide)]
          have hE' : ∀ j, j < m → E j < W := fun j hj => (hL.2 j hj).1
          have hCS : zCS G i2 (d + 1) p b H f N M A S2 n2 F2 C2 R2 (W2 + 1) V2 q2 s (m + 1) W0 (zup E m W2) o2 w2 Y Z t3 (zu u2 39 (2 * (H + m) + 1) rb') := by
            refine ⟨z3, L2, fun j hj => ?_, fun j l h1' h2' => ?_, fun j l h1' h2' => ?_⟩
            · by_cases ej : j = m
              · subst ej
                rw [zup_at, l109, l111, u39 _ (Nat.lt_succ_self _), k39, zu_same]
                have := ow j (Nat.lt_succ_self _)
                rw [zup_at] at this
                exact ⟨⟨v, x, v4, v1, rfl, v5⟩, by rw [← hbeh]; exact bl, this⟩
              · have hj2 : j < m := by clear hC hD hL hck hN nn1 bf; omega
                obtain ⟨c1, c2, c3⟩ := hC j hj2
                have := ow j hj
                rw [zup_ne ej] at this ⊢
                rw [(klab j hj2).1, (klab j hj2).2, s4'.1 109 (by decide), s4'.1 111 (by decide), u39 _ (by clear hC hD hL hck hN nn1 bf; omega), u39 _ (by clear hC hD hL hck hN nn1 bf; omega), l39 _ (by clear hC hD hL hck hN nn1 bf; omega), l39 _ (by clear hC hD hL hck hN nn1 bf; omega)]
                exact ⟨c1, zBl_ext c2 hs ko y5 (fun r hr => by rw [k101 r hr, s4'.1 101 (by decide)]), this⟩
            · have lab : ∀ j, j < m → t3 109 (zup E m W2 j) = t 109 (E j) := fun j hj => by
                rw [zup_ne (Nat.ne_of_lt hj), (klab j hj).1, s4'.1 109 (by decide)]
              rw [lab j (by clear hC hD hL hck hN nn1 bf; omega)]
              by_cases el : l = m
              · rw [el, zup_at, l109]; exact j2 j (by clear hC hD hL hck hN nn1 bf; omega)
              · rw [lab l (by clear hC hD hL hck hN nn1 bf; omega)]; exact hD j l h1' (by clear hC hD hL hck hN nn1 bf; omega)
            · have blk : ∀ j, j < m → t3 111 (zup E m W2 j) = t 111 (E j) := fun j hj => by
                rw [zup_ne (Nat.ne_of_lt hj), (klab j hj).2, s4'.1 111 (by decide)]
              have hjm : j < m := by clear hC hD hL hck hN nn1 bf; omega
              rw [blk j hjm]
              by_cases el : l = m
              · rw [el, zup_at, l111]
                refine zNeq (S := S) ?_ ?_
                · rcases (hC j hjm).2.1 with q | ⟨x, q1, q2, q3, q4, _⟩
                  · exact Or.inl q.1
                  · exact Or.inr ⟨x, q1, q4⟩
                · rcases rbl with q | ⟨x, q1, q2, q3⟩
                  · exact Or.inl q
                  · exact Or.inr ⟨x, q1, q2, by clear hC hD hL hck hN nn1 bf; omega⟩
              · rw [blk l (by clear hC hD hL hck hN nn1 bf; omega)]; exact hD2 j l h1' (by clear hC hD hL hck hN nn1 bf; omega)
          have hck2 : zCK s p F0 C0 ts us t3 (zu u2 39 (2 * (H + m) + 1) rb') := by
            refine ⟨⟨fun k k1 k2 k3 => ?_, fun k k1 k2 k3 => ?_⟩, ?_, zFP_trans hck.2.2.1 (zFP_trans (zFP_rS s4') kR), zFP_zu (zFP_trans hck.2.2.2 (zFP_trans pa (zFP_trans (zFP_M (zFP_N s5')) kM))) rfl⟩
            · rw [kr.1 k k1 k2 k3, s4'.1 k (by clear hC hD hL hck hN nn1 bf; omega)]; exact hck.1.1 k k1 k2 k3
            · rw [zu_ne1 (by clear hC hD hL hck hN nn1 bf; omega), kr.2 k k1 k2 (by simp), s5'.1 k (by clear hC hD hL hck hN nn1 bf; omega) (by clear hC hD hL hck hN nn1 bf; omega) (by clear hC hD hL hck hN nn1 bf; omega), ra k (by clear hC hD hL hck hN nn1 bf; omega)]; exact hck.1.2 k k1 k2 k3
            · intro mm hmm hmm2
              obtain ⟨mm2, y1', y2', y3'⟩ := hck.2.1 mm hmm hmm2
              obtain ⟨mm3, y4', y5', y6'⟩ := kg mm2 (by rw [s4'.1 39 (by decide)]; exact y1') y3'
              exact ⟨mm3, y4', Nat.le_trans y2' y5', y6'⟩
          have hs2 : s < S2 := Nat.lt_of_lt_of_le hs y5
          have hos2 : o2 s = (e, p) ∧ o2 (10000 + s) = tg := ⟨by rw [ko s (Or.inl hs)]; exact hos.1, by rw [ko (10000 + s) (Or.inr ⟨Nat.le_add_right _ _, Nat.add_lt_add_left hs _⟩)]; exact hos.2⟩
          have hm3 := zAt_m1 z3.1.1
          have f1 : lX7_readCases_14 gC (fc + (k + 1)) (Int32.ofNat s) (Int32.ofNat W2) (Int32.ofNat (m + 1)) t3 = if (t3 5 9) = 125 then bX7_readCases_105 gC t3 else bX7_readCases_41 gC (lX7_readCases_14 gC (fc + k)) (Int32.ofNat s) (Int32.ofNat W2) (Int32.ofNat (m + 1)) t3 := by
            show bX7_readCases_14 gC (lX7_readCases_14 gC (fc + k)) _ _ _ _ = _
            unfold bX7_readCases_14
            rw [if_neg (show ¬ (3000 : Int32) ≤ Int32.ofNat (m + 1) from fun w => by have := (zn_le (a := 3000) (by decide) (by clear hC hD hL hck hN nn1 bf; omega)).mp w; clear hC hD hL hck hN nn1 bf; omega), if_neg (by rw [hm3.1]; decide), if_neg (show ¬ Int32.ofNat (m + 1) = 0 from fun e => by have := (zn_inj (b := 0) (by clear hC hD hL hck hN nn1 bf; omega) (by decide)).mp e; clear hC hD hL hck hN nn1 bf; omega)]
          rw [f1, if_neg (show ¬ (0 : Int32) ≤ zu u2 39 (2 * (H + m) + 1) rb' 0 9 by rw [hm3.2]; decide), zAt_sg z3.1.1 (c := 125) (by decide), pl_bd]
          by_cases q125 : t3 5 9 = 125
          · rw [if_pos q125, if_pos q125, if_neg pl_10]
            unfold bX12_choose_175 bX12_choose_176
            obtain ⟨t4, rm, u4, g1, g2, g3⟩ := zCaseEnd (gM := gM) (gC := gC) (k36 := lX12_choose_36 gM (fm + k + 1)) hCS nn1 hd X4 hs0 hs2 hsY hos2 hs1 nn2 nn3 hck2 (zFP_trans fR0 hck2.2.2.1) (zFP_trans fM0 hck2.2.2.2)
            refine ⟨t4, rm, u4, g1, g2, ?_⟩
            rcases g3 with ⟨g3, S3, n3, F3, C3, R3, W3, V3, q3, o3, w3, g4, g5, ⟨rfl, rfl, rfl, rfl, rfl, rfl, rfl, rfl⟩, g7, g8, g9⟩ | g3
            · refine Or.inl ⟨g3, i2 + 1, _, _, _, _, _, _, _, _, o3, w3, by clear hC hD hL hck hN nn1 bf; omega, g4, g5, ?_, g7, g8, g9, hd, y5⟩
              obtain ⟨b1', b2', b3', b4', b5', b6', b7', b8'⟩ := bf
              clear hC hD hL hck hN nn1
              exact ⟨by omega, by omega, by omega, by omega, by omega, by omega, by omega, by omega⟩
            · exact Or.inr g3
          · rw [if_neg q125, if_neg q125, if_pos rfl]
            unfold bX12_choose_176
            obtain ⟨t4, rm, u4, g1, g2, g3⟩ := ih i2 fc fm S2 n2 F2 C2 R2 (W2 + 1) V2 q2 (m + 1) (zup E m W2) o2 w2 (Int32.ofNat W2) t3 _ (by clear hC hD hL hck hN nn1 bf; omega) hCS nn1 nn2 nn3 X4 hs2 hos2 (Nat.le_trans hK (zKc_le (by clear hC hD hL hck hN nn1 bf; omega))) (by rw [if_neg (Nat.succ_ne_zero m), show m + 1 - 1 = m from rfl, zup_at]) hck2
            refine ⟨t4, rm, u4, g1, g2, ?_⟩
            rcases g3 with ⟨g3, i3, S3, n3, F3, C3, R3, W3, V3, q3, o3, w3, g4, g5, g6, g7, g8, g9, g10, g11, g12⟩ | g3
            · exact Or.inl ⟨g3, i3, S3, n3, F3, C3, R3, W3, V3, q3, o3, w3, by clear hC hD hL hck hN nn1 bf; omega, g5, g6, zCaseF bf y9 g7, g8, g9, g10, g11, Nat.le_trans y5 g12⟩
            · exact Or.inr g3
        · have hEr := zSE_pre er (zFP_trans fR (zFP_rS s4')) (zFP_trans fM (zFP_trans pa (zFP_M (zFP_N s5'))))
          have hE1 := zSE_zu (k := 39) (j := 2 * (H + m) + 1) (v := rb') hEr (by decide) rfl
          obtain ⟨t4, g1, g2, g3, g4⟩ := zEc_leave (c := 125) (zEr_c hE1.1) (by decide)
          have hE2 := zSE_c (zSE_5 hE1) (zEs_sf g2 g3 g4)
          obtain ⟨u5, y5, y6⟩ := zhFin_er (g := gM) (m := s) (zSE_H (H := H) hE2 (Nat.le_add_right _ _)) (Nat.lt_trans hs1 (by decide))
          have f1 : ∀ a b c, lX7_readCases_14 gC (fc + (k + 1)) a b c t3 = some (0, t4) := fun a b c => by
            show bX7_readCases_14 gC (lX7_readCases_14 gC (fc + k)) _ _ _ _ = _
            unfold bX7_readCases_14 bX7_readCases_105
            rw [if_pos hE1.1.2.1, g1, pl_bd, ite_self]
          rw [y1, pl_bd, pl_let, f1, if_pos (zEr_m hE1.1)]
          unfold bX12_choose_175 bX12_choose_176
          refine ⟨t4, Int32.ofNat s, u5, rfl, ?_, Or.inr y6⟩
          show bX12_choose_36 gM (lX12_choose_36 gM (fm + k + 1)) (Int32.ofNat s) (Int32.ofNat (2 * H)) 0 _ = _
          unfold bX12_choose_36
          rw [if_pos rfl, zEm_closes (zEr_m hE1.1), pl_bd]
          exact y5
    · rw [if_neg q17, if_neg (fun e => q17 (hnm.mp e))]
      obtain ⟨t2, u2, c1, c2, c3⟩ := bad
      exact ⟨t2, -1, u2, c1, c2, Or.inr c3⟩
