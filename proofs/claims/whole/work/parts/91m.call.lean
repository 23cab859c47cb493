/-! spawn and become: from the proc's NAME on -/
/-- ) and ; -/
theorem zCallEnd {G : zTxt} {i i2 d p b H : Nat} {f : Nat → Nat} {N M A S n F C R W V q n2 F2 C2 m v e : Nat} {hx : Int32} {o : Nat → Nat × Nat} {w : Nat → Nat} {Y Z : List Nat} {t0 u0 t u : zS} (h : zBB G i d p b H f N M A S n F C R W V q o w Y Z t0 u0) (hN : zBN i A H b S n F C R W V q) (hU : zUC G i i2 (d + 1) p b H f N M A S n F C R W V q n2 F2 C2 m v hx o w t0 u0 t u) (hd : d ≤ 40) (hS : S < 1000) (hm : 2 * m + i ≤ i2) (hi : i + 3 ≤ i2) (hH : zHd o S p e t0 hx) (he : e ≤ 39) :
    ∃ rc t2 rm u2, bX7_readCall_211 (Int32.ofNat S) t = some (rc, t2) ∧ (zbd (zbd (mX12_closes 41 u) fun _ u' => some ((0 : Int32), u')) fun _ u2 => bX12_simple_162 (Int32.ofNat S) u2) = some (rm, u2) ∧ zSP G i d p b H f N M A S n F C R W V q o w Y Z e hx t0 u0 (Int32.ofNat S) t2 rm u2 := by
  obtain ⟨m1, m2, m3, m4, m5, m6, m7, m8⟩ := hN
  have hl := zAt_lt hU.1.1
  have ee := hU.2.2.2.2.2.2.2.2.2.2.2.2.2.2.2.2
  have h7 : t 51 7 = Int32.ofNat (R + m) := hU.2.2.2.2.2.1
  have hE1 : zEB G i2 (d + 1) p b n2 F2 C2 (zu t 97 S (Int32.ofNat (R + m))) u := by
    obtain ⟨b1, b2, b3, b4, b5, b6⟩ := hU.1
    exact ⟨zAt_of b1 (fun j _ _ => zu_ne1 (by decide)) (zu_row (by decide)) (zu_ne1 (by decide)) (fun _ _ _ => rfl) rfl rfl rfl, by rw [zu_ne1 (by decide)]; exact b2, b3, zSl_of b4 (Nat.le_refl _) (zu_ne1 (by decide)) rfl (zu_row (by decide)) (zu_row (by decide)) (zu_row (by decide)) rfl rfl, by rw [zu_ne1 (by decide)]; exact b5, b6⟩
  have fR : zFP zpR t0 (zu t 97 S (Int32.ofNat (R + m))) := zFP_zu hU.2.2.2.2.2.2.2.2.2.2.2.1 rfl
  have fM : zFP zpM u0 u := hU.2.2.2.2.2.2.2.2.2.2.2.2.1
  unfold bX7_readCall_211
  rw [h7, zn_set hS (by decide), pl_bd]
  show ∃ rc t2 rm u2, (zbd (mX7_leave 41 (zu t 97 S (Int32.ofNat (R + m)))) fun _ t696 => zbd (mX7_expect 59 t696) fun _ t699 => some (0, t699)) = some (rc, t2) ∧ _
  obtain ⟨t1, u1, a1, a2, a3, a4, a5, a6⟩ := zEB_leave (cb := 6300) (c := 41) hE1 hd (by decide) (by omega)
  rw [a1, pl_bd, a2, pl_bd, pl_bd]
  have toSE : ∀ t2 u2, zEE 6300 (zu t 97 S (Int32.ofNat (R + m))) u t2 u2 → zSE H t0 u0 t2 u2 := fun t2 u2 hh => zSE_pre (zSE_ofE hh (by omega) hU.2.2.2.2.2.2.2.2.2.2.1 hU.2.2.2.2.2.2.2.2.1 hU.2.2.2.2.2.2.2.2.2.1 (by omega)) fR fM
  rcases a6 with ⟨a6, _⟩ | a6
  · obtain ⟨t2, r, u2, r1, r2, r3, r4, r5⟩ := zAt_expect (c := 59) a6.1 (by decide)
    have eM : bX12_simple_162 (Int32.ofNat S) u1 = some (Int32.ofNat S, u2) := by
      unfold bX12_simple_162
      rw [zAt_sg a6.1 (c := 59) (by decide), pl_bd, r2, pl_bd]
    rw [r1, pl_bd]
    refine ⟨_, _, _, _, rfl, eM, ?_⟩
    rcases r5 with ⟨_, b2, b3, b4, b5⟩ | ⟨_, b2, b3⟩
    · have hl3 := zAt_lt b3
      have hE3 : zEB G (i2 + 1 + 1) d p b n2 F2 C2 t2 u2 := zEB_fr a6 b3 (by omega) (by rw [b4]; exact a6.2.1) (by rw [b5]; exact a6.2.2.1) r3 r4
      -- rows of the end against rows of zUC
      have r : ∀ k, ¬ (k = 5 ∨ k = 97) → t2 k = t k := fun k hk => by rw [r3.1 k (by omega), a4.1 k (by omega), zu_row (by omega)]
      have g : ∀ k, ¬ (k = 0 ∨ k = 3 ∨ k = 4) → u2 k = u k := fun k hk => by rw [r4.1 k (by omega) (by omega) (by omega), a5.1 k (by omega) (by omega) (by omega)]
      have g0 : ∀ j, j ≤ 3 ∨ 12 ≤ j → u2 0 j = u 0 j := fun j hj => by rw [r4.2 j hj, a5.2 j hj]
      have t97 : t2 97 S = Int32.ofNat (R + m) := by rw [r3.1 97 (by decide), a4.1 97 (by decide), zu_same]
      have e97 : ∀ s, ¬ s = S → t2 97 s = t 97 s := fun s hs => by rw [r3.1 97 (by decide), a4.1 97 (by decide), zu_ne2 hs]
      obtain ⟨c1, c2, c3, c4, c5, c6, c7, c8, c9, c10, c11, c12, c13, ⟨s1, s2, s3, s4, s5, s6, s7, s8, s9⟩, c15, c16, _⟩ := hU
      have hg : zGr t t2 p := fun m' hm' hm2 => ⟨m', by rw [r 39 (by omega)]; exact hm', Nat.le_refl _, hm2⟩
      obtain ⟨x1, x2, x3, x4, x5, x6, x7, x8, x9, x10, x11, x12, x13⟩ := c2
      have ho : ∀ s, (s < S ∨ (10000 ≤ s ∧ s < 10000 + S)) → zuq o S (e, p) s = o s := fun s hs => zuq_ne (by omega)
      have hX : zBX p b H S n F C R W V q (S + 1) n2 F2 C2 (R + m) W V (q + 1) o (zuq o S (e, p)) w w t0 u0 t2 u2 := by
        refine ⟨by omega, x2, x3, x4, x5, x6, x7, x8, ho, fun _ _ => rfl, fun k j hj => ?_, fun k j hj => ?_, fun j hj => by rw [g0 j (by omega)]; exact x13 j hj⟩
        · by_cases e5 : k = 5
          · subst e5; exact absurd hj (Nat.not_lt_zero j)
          · by_cases e97' : k = 97
            · subst e97'
              have hj' : j < S := hj
              rw [e97 j (by omega)]; exact x11 97 j hj
            · rw [r k (by omega)]; exact x11 k j hj
        · by_cases e0 : k = 0 ∨ k = 3 ∨ k = 4
          · unfold zLR at hj
            rw [if_pos e0] at hj; omega
          · rw [g k e0]; exact x12 k j hj
      have hst : zStm G (zuq o S (e, p)) w (S + 1) F2 C2 (R + m) W V t2 u2 S := by
        refine ⟨by rw [r 89 (by omega), g 15 (by omega)]; exact s1, Or.inr (Or.inr (Or.inr (Or.inr (Or.inr (Or.inr (Or.inl ⟨?_, by rw [g 18 (by omega)]; exact s4, v, R, m, by rw [r 93 (by omega)]; exact s2, s3, by rw [r 95 (by omega)]; exact s5, t97, by rw [g 19 (by omega)]; exact s6, by rw [g 20 (by omega)]; exact s7, Nat.le_refl _, fun k k1 k2 => ?_⟩))))))⟩
        · rw [r 87 (by omega), g 14 (by omega), r 91 (by omega), g 16 (by omega), zuq_at]
          rcases c15 with a | ⟨y1, y2, y3⟩ | a
          · exact Or.inl a
          · exact Or.inr (Or.inl ⟨y1, y2, zSo_ext y3 hg⟩)
          · exact Or.inr (Or.inr a)
        · obtain ⟨y1, y2⟩ := c16 k k1 k2
          unfold zArg
          rw [zuq_at, r 79 (by omega), r 81 (by omega), r 83 (by omega), g 25 (by omega), g 26 (by omega)]
          refine ⟨zFm_ext y1 hg (Nat.le_refl _) (Nat.le_refl _) (fun k _ => ⟨by rw [r 75 (by omega)], by rw [r 77 (by omega)]⟩) (fun c _ => by rw [g 27 (by omega)]), ?_⟩
          rcases y2 with y2 | y2
          · exact Or.inl y2
          · exact Or.inr (zSo_ext y2 hg)
      have e57 : t2 5 7 = t 5 7 := by rw [r3.2, a4.2, zu_ne1 (by decide)]
      refine Or.inl ⟨i2 + 1 + 1, S + 1, n2, F2, C2, R + m, W, V, q + 1, _, _, rfl, rfl, by omega, by omega, zBB_of h hX hE3 (zAK_fr c3 e57 (g0 52 (by omega)) (r 9 (by omega)) (r 54 (by omega)) (r 56 (by omega)) (fun s _ => by rw [r 93 (by omega)]) (fun s _ => by rw [r 87 (by omega)]) (g 5 (by omega)) (g 6 (by omega)) (g 35 (by omega)) (g 36 (by omega)) (g 37 (by omega)) (g 38 (by omega))) (by omega) (by omega) (by rw [r 52 (by omega)]; exact c4) (by rw [g0 26 (by omega)]; exact c5) (by rw [r 51 (by omega)]; exact c6) (by rw [g0 39 (by omega)]; exact c7) (by rw [r 52 (by omega)]; exact c8) (by rw [g0 36 (by omega)]; exact c9) (by rw [g0 59 (by omega)]; exact c10) (fun s _ hs => hs) (fun s _ hs w => hs (List.mem_cons_of_mem _ w)) (fun s y1 y2 => ?_), hX, ⟨by omega, by omega, by omega, by omega, by omega, by omega, by omega, by omega⟩, ⟨zuq_at _ _ _, zuq_ne (by omega)⟩, by rw [r 101 (by omega)]; exact s9, by rw [r 99 (by omega)]; exact s8, zFP_trans fR (zFP_trans (zFP_rS a4) (zFP_rS r3)), zFP_trans fM (zFP_trans (zFP_M (zFP_N a5)) (zFP_M (zFP_N r4)))⟩
      have es : s = S := by omega
      subst es
      exact ⟨fun _ => hst, fun w => absurd List.mem_cons_self w, zHd_pa hH he ho (zuq_at _ _ _) (by rw [r 101 (by omega)]; exact s9) (fun k hk => hX.2.2.2.2.2.2.2.2.2.2.1 87 k hk) (fun w => by
        rw [r 87 (by omega)] at w
        rcases c15 with a | a | a <;> rw [a.1] at w <;> exact absurd w (by decide)), by rw [zuq_at]; exact Nat.le_refl _⟩
    · have := zEE_fr (cb := 6300) a6 (by omega) b3 r3 r4
      exact Or.inr (toSE _ _ (zEE_pre this a3.2.2.2.1 a3.2.2.2.2.1))
  · have hE := toSE _ _ a6
    rw [zEc_expect (zEr_c hE.1) (by decide), pl_bd, zEm_162 (zEr_m hE.1)]
    exact ⟨_, _, _, _, rfl, rfl, Or.inr (zSE_5 hE)⟩
