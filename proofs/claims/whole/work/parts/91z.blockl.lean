/-! BLOCKS: the loop, and all depths -/
theorem zBlkN {i0 i i2 A H b S0 n0 F0 C0 R0 W0 V0 q0 S n F C R W V q S2 n2 F2 C2 R2 W2 V2 q2 : Nat} (hN : zBN i A H b S n F C R W V q) (h3 : 3 * S ≤ i) (hF : zBF (i0 + 1) S0 n0 F0 C0 R0 W0 V0 q0 i S n F C R W V q) (k : zBF i S n F C R W V q i2 S2 n2 F2 C2 R2 W2 V2 q2) (hl : i2 ≤ 3000) : zBN i2 A H b S2 n2 F2 C2 R2 W2 V2 q2 ∧ 3 * S2 ≤ i2 ∧ zBF (i0 + 1) S0 n0 F0 C0 R0 W0 V0 q0 i2 S2 n2 F2 C2 R2 W2 V2 q2 ∧ (S2 ≤ 1000 ∧ n2 ≤ 3000 ∧ C2 ≤ 6400 ∧ 2 * A + 2 * V2 + 2 * H ≤ 3002) := by
  obtain ⟨a1, a2, a3, a4, a5, a6, a7, a8⟩ := hN
  obtain ⟨b1, b2, b3, b4, b5, b6, b7, b8⟩ := k
  obtain ⟨c1, c2, c3, c4, c5, c6, c7, c8⟩ := hF
  exact ⟨⟨by omega, by omega, by omega, by omega, by omega, by omega, by omega, by omega⟩, by omega, ⟨by omega, by omega, by omega, by omega, by omega, by omega, by omega, by omega⟩, by omega, by omega, by omega, by omega⟩
theorem zEc_81 {g : GgX7_readBlock} {t : zS} {x : Int32} (h : zEc t) : ∃ t2, bX7_readBlock_81 g x t = some (x, t2) ∧ zEs t t2 := by
  obtain ⟨t2, a1, a2, a3, a4⟩ := zEc_leave (c := 125) h (by decide)
  unfold bX7_readBlock_81
  rw [a1, pl_bd]
  exact ⟨t2, rfl, zEs_sf a2 a3 a4⟩
theorem zBlkL {g : GgX7_readBlock} {gm : GgX12_block} {G : zTxt} {i0 d p b H : Nat} {f : Nat → Nat} {N M A S0 n0 F0 C0 R0 W0 V0 q0 e : Nat} {o0 : Nat → Nat × Nat} {w0 : Nat → Nat} {Y Z : List Nat} {hx : Int32} {t0 u0 : zS} (hSt : zPSt (d + 1) e g.2.1 gm.2.1) (hH : zHd o0 S0 p e t0 hx) (hd : d < 40) (hed : e ≤ d) (hS0 : S0 ≤ 1000) :
    ∀ (k i fc fm c S n F C R W V q : Nat) (o : Nat → Nat × Nat) (w : Nat → Nat) (Z' : List Nat) (x2 x3 : Int32) (t u : zS), 3001 ≤ k + i → zBB G i (d + 1) p b H f N M A S n F C R W V q o w Y Z' t u → zBN i A H b S n F C R W V q → 3 * S ≤ i → 3 * c ≤ i → zBX p b H S0 n0 F0 C0 R0 W0 V0 q0 S n F C R W V q o0 o w0 w t0 u0 t u → zBF (i0 + 1) S0 n0 F0 C0 R0 W0 V0 q0 i S n F C R W V q → e ≤ zKc G i → zLS S0 S p e hx o Z Z' x2 x3 t u → zFP zpR t0 t → zFP zpM u0 u →
    ∃ r t2 r' u2, lX7_readBlock_18 g (fc + k + 1) hx x2 x3 (Int32.ofNat c) t = some (r, t2) ∧ lX12_block_19 gm (fm + k + 1) (zBeh t0 hx) x2 x3 u = some (r', u2) ∧ (zBlkOk G i0 i d p b H f N M A S0 n0 F0 C0 R0 W0 V0 q0 e o0 w0 Y Z hx (zBeh t0 hx) t0 u0 r t2 r' u2 ∨ zSE H t0 u0 t2 u2) := by
  intro k
  induction k with
  | zero =>
    intro i fc fm c S n F C R W V q o w Z' x2 x3 t u hk h
    have := zAt_lt h.1.1
    omega
  | succ k ih =>
    intro i fc fm c S n F C R W V q o w Z' x2 x3 t u hk h hN h3 hc hX hF hKe hLS fR fM
    have hl := zAt_lt h.1.1
    have hm1 := zAt_m1 h.1.1
    have hbd : S ≤ 1000 ∧ n ≤ 3000 ∧ C ≤ 6400 ∧ 2 * A + 2 * V + 2 * H ≤ 3002 := by
      obtain ⟨m1, m2, m3, m4, m5, m6, m7, m8⟩ := hN
      refine ⟨?_, ?_, ?_, ?_⟩ <;> omega
    show ∃ r t2 r' u2, bX7_readBlock_18 g (lX7_readBlock_18 g (fc + k + 1)) hx x2 x3 (Int32.ofNat c) t = some (r, t2) ∧ bX12_block_19 gm (lX12_block_19 gm (fm + k + 1)) (zBeh t0 hx) x2 x3 u = some (r', u2) ∧ _
    unfold bX7_readBlock_18 bX12_block_19
    rw [if_neg (show ¬ (3000 : Int32) ≤ Int32.ofNat c from fun w => by have := (zn_le (a := 3000) (by decide) (by clear hN hF hX; omega)).mp w; clear hN hF hX; omega), if_neg (by rw [hm1.1]; decide), if_neg (show ¬ (0 : Int32) ≤ u 0 9 by rw [hm1.2]; decide), zAt_sg h.1.1 (c := 125) (by decide), pl_bd]
    by_cases q125 : t 5 9 = 125
    · rw [if_pos q125, if_pos q125, if_neg pl_10]
      exact zBlkEnd h hX hF hH (Nat.le_of_lt hd) hbd hS0 hLS fR fM
    · rw [if_neg q125, if_neg q125, if_pos rfl]
      have h87 : ∀ x, x < S0 → t 87 x = t0 87 x := fun x hx' => zBX_rC hX hx' 87 (by decide)
      obtain ⟨tg, hLS2⟩ : ∃ tg : Nat, ((x2 = -1 ∧ x3 = -1 ∧ Z' = Z) ∧ tg = S) ∨ ∃ s l, x2 = Int32.ofNat s ∧ x3 = Int32.ofNat l ∧ S0 ≤ s ∧ s < S ∧ (o s = (e, p) ∧ o (10000 + s) = (s, 0)) ∧ t 101 s = hx ∧ S0 ≤ l ∧ l < S ∧ (o l = (e, p) ∧ o (10000 + l) = (s, 0)) ∧ t 101 l = hx ∧ t 99 l = -1 ∧ u 22 l = -1 ∧ Z' = l :: Z ∧ tg = s := by
        rcases hLS with q | ⟨s, l, l1, l2, l3, l4, l5, l6, l7, l8, l9, l10, l11, l12, l13⟩
        · exact ⟨S, Or.inl ⟨q, rfl⟩⟩
        · exact ⟨s, Or.inr ⟨s, l, l1, l2, l3, l4, l5, l6, l7, l8, l9, l10, l11, l12, l13, rfl⟩⟩
      have hXt := zBX_tag (v := (tg, 0)) hX hbd.1
      obtain ⟨rs, t1, rs', u1, a1, a2, a3⟩ := hSt G i p b H f N M A S n F C R W V q (zuq o (10000 + S) (tg, 0)) w Y Z' hx t u (zBB_tag h hbd.1) hN h3 (zHd_ext hH hXt.1 hXt.2.2.2.2.2.2.2.2.1 h87) (Nat.succ_le_succ hed) hKe
      rw [a1, pl_bd, a2, pl_bd]
      rcases a3 with ⟨i2, S2, n2, F2, C2, R2, W2, V2, q2, o2, w2, c1, c2, c3, c4, c5, c6, c7, c8, c9, c10, c11, c12⟩ | er
      · subst c1 c2
        have hl2 := zAt_lt c5.1.1
        have hm2 := zAt_m1 c5.1.1
        obtain ⟨nn1, nn2, nn3, nn4⟩ := zBlkN hN h3 hF c7 hl2
        have X2 := zBX_trans hXt c6 (Nat.le_refl _)
        have c8T : o2 (10000 + S) = (tg, 0) := by rw [c8.2, zuq_at]
        have oo : ∀ x, (x < S ∨ (10000 ≤ x ∧ x < 10000 + S)) → o2 x = o x := fun x hx' => by rw [c6.2.2.2.2.2.2.2.2.1 x hx', zuq_ne (by have := hbd.1; clear hN hF hX c7 nn1 nn3; omega)]
        have hS16 : S < 1600 := Nat.lt_of_le_of_lt hbd.1 (by decide)
        have hSS : S0 ≤ S := hX.1
        have fR2 : zFP zpR t0 t1 := zFP_trans fR c11
        have fM2 : zFP zpM u0 u1 := zFP_trans fM c12
        rw [if_pos (show u1 0 9 < 0 by rw [hm2.2]; decide), zn_wr hS16 (by decide)]
        rcases hLS2 with ⟨⟨l1, l2, l3⟩, l4⟩ | ⟨s, l, l1, l2, l3, l4, l5, l6, l7, l8, l9, l10, l11, l12, l13, l14⟩
        · subst l1 l2 l3
          rw [l4] at c8T
          rw [if_neg zn_m1, if_pos (by decide)]
          unfold bX7_readBlock_72 bX12_block_78 bX12_block_88
          rw [pl_let, zn_1, if_neg zn_m1]
          have hr : ∀ k, ¬ (k = 21 ∨ k = 22) → zu u1 22 S (-1) k = u1 k := fun k hk => zu_row (fun e => hk (Or.inr e))
          have z2 := zBB_links (t2 := t1) (u2 := zu u1 22 S (-1)) (Z2 := S :: Z') c5 nn4.1 (fun _ _ => rfl) hr (fun x _ hx' => ⟨rfl, zu_ne1 (by decide), zu_ne2 (fun e => hx' (by rw [e]; exact List.mem_cons_self))⟩) (fun x _ x2 x3 => absurd x2 x3)
          have X3 := zBX_links (t2 := t1) (u2 := zu u1 22 S (-1)) X2 (fun _ _ => rfl) hr (fun x hx' => ⟨rfl, zu_ne1 (by decide), zu_ne2 (Nat.ne_of_lt (Nat.lt_of_lt_of_le hx' hSS))⟩)
          obtain ⟨r, t3, r', u3, d1, d2, d3⟩ := ih i2 fc fm (c + 1) S2 n2 F2 C2 R2 W2 V2 q2 o2 w2 (S :: Z') (Int32.ofNat S) (Int32.ofNat S) t1 (zu u1 22 S (-1)) (by clear hN hF hX c7 nn1 nn3; omega) z2 nn1 nn2 (by clear hN hF hX c7 nn1 nn3; omega) X3 nn3 (Nat.le_trans hKe (zKc_le (by clear hN hF hX c7 nn1 nn3; omega))) (Or.inr ⟨S, S, rfl, rfl, hSS, c4, ⟨c8.1, c8T⟩, c9, hSS, c4, ⟨c8.1, c8T⟩, c9, c10, zu_same _ _ _ _, rfl⟩) fR2 (zFP_zu fM2 rfl)
          refine ⟨r, t3, r', u3, d1, d2, ?_⟩
          rcases d3 with ⟨i3, S3, n3, F3, C3, R3, W3, V3, q3, o3, w3, d4, d5⟩ | d3
          · exact Or.inl ⟨i3, S3, n3, F3, C3, R3, W3, V3, q3, o3, w3, by clear hN hF hX c7 nn1 nn3; omega, d5⟩
          · exact Or.inr d3
        · subst l1 l2 l13
          rw [l14] at c8T
          have hl1000 : l < 1000 := Nat.lt_of_lt_of_le l8 hbd.1
          have hl16 : l < 1600 := Nat.lt_trans hl1000 (by decide)
          have hlS : ¬ l = S := Nat.ne_of_lt l8
          rw [if_pos (zn_0le (Nat.lt_trans hl1000 (by decide))), zn_set hl1000 (by decide), pl_bd, if_neg (zn_neg (Nat.lt_trans hl1000 (by decide))), zn_wr hl16 (by decide), zn_wr hl16 (by decide)]
          unfold bX7_readBlock_72 bX12_block_78 bX12_block_88
          rw [pl_let, zn_1, if_pos (zn_0le (Nat.lt_trans (Nat.lt_of_lt_of_le l4 hbd.1) (by decide)))]
          have hrt : ∀ k, ¬ k = 99 → zu t1 99 l (Int32.ofNat S) k = t1 k := fun k hk => zu_row hk
          have hr : ∀ k, ¬ (k = 21 ∨ k = 22) → zu (zu (zu u1 22 S (-1)) 21 l (Int32.ofNat S)) 22 l (Int32.ofNat S) k = u1 k := fun k hk => by
            rw [zu_row (fun e => hk (Or.inr e)), zu_row (fun e => hk (Or.inl e)), zu_row (fun e => hk (Or.inr e))]
          have hz : ∀ x, ¬ x = l → ¬ x = S → zu t1 99 l (Int32.ofNat S) 99 x = t1 99 x ∧ zu (zu (zu u1 22 S (-1)) 21 l (Int32.ofNat S)) 22 l (Int32.ofNat S) 21 x = u1 21 x ∧ zu (zu (zu u1 22 S (-1)) 21 l (Int32.ofNat S)) 22 l (Int32.ofNat S) 22 x = u1 22 x := fun x e1 e2 => ⟨zu_ne2 e1, by rw [zu_ne1 (by decide), zu_ne2 e1, zu_ne1 (by decide)], by rw [zu_ne2 e1, zu_ne1 (by decide), zu_ne2 e2]⟩
          have o2l : o2 l = (e, p) ∧ o2 (10000 + l) = (s, 0) := ⟨by rw [oo l (Or.inl l8)]; exact l9.1, by rw [oo (10000 + l) (Or.inr ⟨Nat.le_add_right _ _, Nat.add_lt_add_left l8 _⟩)]; exact l9.2⟩
          have t101l : t1 101 l = hx := by rw [zBX_rC c6 l8 101 (by decide)]; exact l10
          have hlS2 : l < S2 := Nat.lt_trans l8 c4
          have z2 := zBB_links (t2 := zu t1 99 l (Int32.ofNat S)) (u2 := zu (zu (zu u1 22 S (-1)) 21 l (Int32.ofNat S)) 22 l (Int32.ofNat S)) (Z2 := S :: Z) c5 nn4.1 hrt hr (fun x _ hx' => hz x (fun e => hx' (by rw [e]; exact List.mem_cons_of_mem _ List.mem_cons_self)) (fun e => hx' (by rw [e]; exact List.mem_cons_self))) (fun x x1 x2 x3 => by
            have ex : x = l := by
              rcases List.mem_cons.mp x2 with e | e
              · exact absurd (by rw [e]; exact List.mem_cons_self) x3
              · rcases List.mem_cons.mp e with e | e
                · exact e
                · exact absurd (List.mem_cons_of_mem _ e) x3
            subst ex
            refine Or.inr ⟨S, zu_same _ _ _ _, zu_same _ _ _ _, by rw [zu_ne1 (by decide), zu_same], l8, c4, ⟨by rw [c8.1, o2l.1], by rw [c8T, o2l.2]⟩, ?_⟩
            rw [hrt 101 (by decide), c9, t101l])
          have X3 := zBX_links (t2 := zu t1 99 l (Int32.ofNat S)) (u2 := zu (zu (zu u1 22 S (-1)) 21 l (Int32.ofNat S)) 22 l (Int32.ofNat S)) X2 hrt hr (fun x hx' => hz x (Nat.ne_of_lt (Nat.lt_of_lt_of_le hx' l7)) (Nat.ne_of_lt (Nat.lt_of_lt_of_le hx' hSS)))
          have hlS' : ¬ S = l := fun e => hlS e.symm
          obtain ⟨r, t3, r', u3, d1, d2, d3⟩ := ih i2 fc fm (c + 1) S2 n2 F2 C2 R2 W2 V2 q2 o2 w2 (S :: Z) (Int32.ofNat s) (Int32.ofNat S) (zu t1 99 l (Int32.ofNat S)) (zu (zu (zu u1 22 S (-1)) 21 l (Int32.ofNat S)) 22 l (Int32.ofNat S)) (by clear hN hF hX c7 nn1 nn3; omega) z2 nn1 nn2 (by clear hN hF hX c7 nn1 nn3; omega) X3 nn3 (Nat.le_trans hKe (zKc_le (by clear hN hF hX c7 nn1 nn3; omega))) (Or.inr ⟨s, S, rfl, rfl, l3, Nat.lt_trans l4 c4, ⟨by rw [oo s (Or.inl l4)]; exact l5.1, by rw [oo (10000 + s) (Or.inr ⟨Nat.le_add_right _ _, Nat.add_lt_add_left l4 _⟩)]; exact l5.2⟩, by rw [hrt 101 (by decide), zBX_rC c6 l4 101 (by decide)]; exact l6, hSS, c4, ⟨c8.1, c8T⟩, by rw [hrt 101 (by decide)]; exact c9, by rw [zu_ne2 hlS']; exact c10, by rw [zu_ne2 hlS', zu_ne1 (by decide), zu_same], rfl⟩) (zFP_zu fR2 rfl) (zFP_zu (zFP_zu (zFP_zu fM2 rfl) rfl) rfl)
          refine ⟨r, t3, r', u3, d1, d2, ?_⟩
          rcases d3 with ⟨i3, S3, n3, F3, C3, R3, W3, V3, q3, o3, w3, d4, d5⟩ | d3
          · exact Or.inl ⟨i3, S3, n3, F3, C3, R3, W3, V3, q3, o3, w3, by clear hN hF hX c7 nn1 nn3; omega, d5⟩
          · exact Or.inr d3
      · have hE := zSE_pre er fR fM
        have hw : ¬ u1 0 9 < 0 := fun w => absurd (zEr_m er.1) (Int32.not_le.mpr w)
        rw [if_neg hw]
        have fin : ∀ (t3 : zS) (a b : Int32), zEs t1 t3 → ∃ r t4, bX7_readBlock_72 g (lX7_readBlock_18 g (fc + k + 1)) hx a (Int32.ofNat c) b t3 = some (r, t4) ∧ zEs t1 t4 := by
          intro t3 a b h3'
          unfold bX7_readBlock_72
          rw [pl_let]
          show ∃ r t4, bX7_readBlock_18 g (lX7_readBlock_18 g (fc + k)) hx a b (Int32.ofNat c + 1) t3 = some (r, t4) ∧ _
          obtain ⟨t4, g1, g2⟩ := zEc_81 (g := g) (x := a) h3'.1
          unfold bX7_readBlock_18
          rw [if_pos h3'.1.2, ite_self, g1]
          exact ⟨a, t4, rfl, zEs_trans h3' g2⟩
        by_cases q3 : 0 ≤ x3
        · rw [if_pos q3]
          obtain ⟨t3, g1, g2⟩ := zEs_set (c := 98) (n := 1000) (x := x3) (v := rs) (zEr_c er.1) (by decide) (fun _ => rfl)
          obtain ⟨r, t4, g3, g4⟩ := fin t3 x2 rs g2
          rw [g1, pl_bd, g3]
          exact ⟨r, t4, _, _, rfl, rfl, Or.inr (zSE_c hE g4)⟩
        · rw [if_neg q3]
          obtain ⟨r, t4, g3, g4⟩ := fin t1 rs rs (zEs_refl (zEr_c er.1))
          rw [g3]
          exact ⟨r, t4, _, _, rfl, rfl, Or.inr (zSE_c hE g4)⟩
theorem zBlock {g : GgX7_readBlock} {gm : GgX12_block} {d e : Nat} (hd : d ≤ 40) (hed : e ≤ d) (hSt : d < 40 → zPSt (d + 1) e g.2.1 gm.2.1) : zPB d e (mX7_readBlock g) (mX12_block gm) := by
  intro G i p b H f N M A S n F C R W V q o w Y Z hx t u h hN hH hK
  have hl := zAt_lt h.1.1
  have hbd : S ≤ 1000 ∧ n ≤ 3000 ∧ C ≤ 6400 ∧ 2 * A + 2 * V + 2 * H ≤ 3002 := by
    obtain ⟨m1, m2, m3, m4, m5, m6, m7, m8⟩ := hN
    refine ⟨?_, ?_, ?_, ?_⟩ <;> omega
  unfold mX7_readBlock mX12_block
  rw [zAt_sg h.1.1 (c := 123) (by decide), pl_bd]
  obtain ⟨t1, r, u1, f1, f2, f3, f4, f5⟩ := zAt_enter (c := 123) h.1.1 (by decide) hd h.1.2.1 h.1.2.2.1
  rw [f1, pl_bd, f2, pl_bd]
  rcases f5 with ⟨_, y2, y3, y4, y5, y6⟩ | ⟨y1, y2⟩
  · subst y2
    rw [if_neg pl_10, if_neg pl_10]
    obtain ⟨z1, X1⟩ := zBB_fr (d2 := d + 1) h y4 (Nat.le_succ _) hbd.2.1 hbd.1 y5 y6 f3 f4
    have hl1 := zAt_lt y4
    have hN1 : zBN (i + 1) A H b S n F C R W V q ∧ 3 * S ≤ i + 1 := by
      obtain ⟨m1, m2, m3, m4, m5, m6, m7, m8⟩ := hN
      exact ⟨⟨by omega, by omega, by omega, by omega, by omega, by omega, by omega, by omega⟩, by omega⟩
    obtain ⟨r, t2, r', u2, d1, d2, d3⟩ := zBlkL (g := g) (gm := gm) (i0 := i) (hSt y3) hH y3 hed hbd.1 3001 (i + 1) (zFU - 3002) (zFU - 3002) 0 S n F C R W V q o w Z (-1) (-1) t1 u1 (by omega) z1 hN1.1 hN1.2 (by omega) X1 ⟨by omega, by omega, by omega, by omega, by omega, by omega, by omega, by omega⟩ (Nat.le_trans hK (zKc_le (Nat.le_succ _))) (Or.inl ⟨rfl, rfl, rfl⟩) (zFP_rS f3) (zFP_M (zFP_N f4))
    rw [show zFU - 3002 + 3001 + 1 = zFU by unfold zFU; omega] at d1 d2
    refine ⟨r, t2, r', u2, d1, d2, ?_⟩
    rcases d3 with ⟨i2, S2, n2, F2, C2, R2, W2, V2, q2, o2, w2, e1, e2, e3, e4, e5, e6, e7, e8⟩ | d3
    · exact Or.inl ⟨i2, S2, n2, F2, C2, R2, W2, V2, q2, o2, w2, by omega, e2, e3, e4, e5, e6, y3, e4.1, e7, e8⟩
    · exact Or.inr d3
  · subst y1
    rw [if_pos rfl, if_pos rfl]
    exact ⟨_, _, _, _, rfl, rfl, Or.inr (zSE_ofB h hbd.2.2.1 hbd.2.2.2 y2 f3 f4)⟩
theorem zBlk_all : ∀ (n d e l m : Nat), 41 ≤ d + n → d ≤ 40 → e ≤ d → 3 * n ≤ l → 3 * n ≤ m → zPB d e (grgX7_readBlock l).1 (grgX12_block m).1 := by
  intro n
  induction n with
  | zero => intro d e l m h1 h2; omega
  | succ n ih =>
    intro d e l m h1 h2 h3 h4 h5
    obtain ⟨l0, rfl⟩ : ∃ l0, l = l0 + 3 := ⟨l - 3, by omega⟩
    obtain ⟨m0, rfl⟩ : ∃ m0, m = m0 + 3 := ⟨m - 3, by omega⟩
    refine zBlock (g := grgX7_readBlock (l0 + 2)) (gm := grgX12_block (m0 + 2)) h2 h3 (fun hd => ?_)
    show zPSt (d + 1) e (mX7_readStatement (grgX7_readBlock (l0 + 1))) (mX12_statement (grgX12_block (m0 + 1)))
    refine zStatement (g := grgX7_readBlock (l0 + 1)) (gm := grgX12_block (m0 + 1)) (gc := grgX7_readBlock l0) (gc' := grgX7_readBlock l0) (gmc := grgX12_block m0) (gmw := grgX12_block m0) (gm' := grgX12_block (m0 - 1)) (by omega) rfl rfl rfl rfl ?_ (ih (d + 1) (e + 1) (l0 + 1) m0 (by omega) (by omega) (by omega) (by omega) (by omega)) (fun hd2 => ih (d + 1 + 1) (e + 1) l0 m0 (by omega) (by omega) (by omega) (by omega) (by omega))
    obtain ⟨m1, rfl⟩ : ∃ m1, m0 = m1 + 1 := ⟨m0 - 1, by omega⟩
    rfl
theorem zBlocks {d e : Nat} (hd : d ≤ 40) (he : e ≤ d) : zPB d e mX7_readBlockr mX12_blockr := zBlk_all 41 d e 300 300 (by omega) hd he (by omega) (by omega)
