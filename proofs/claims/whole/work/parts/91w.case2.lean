/-! case: the whole -/
theorem zCaseM {i i2 S n F C R W V q n3 S2 n2 F2 C2 R2 W2 V2 q2 : Nat} (h1 : n3 ≤ n + 2) (bf : zBF (i + 3) (S + 1) n3 F C R W V q i2 S2 n2 F2 C2 R2 W2 V2 q2) : zBF i S n F C R W V q i2 S2 n2 F2 C2 R2 W2 V2 q2 := by
  obtain ⟨b1, b2, b3, b4, b5, b6, b7, b8⟩ := bf
  exact ⟨by omega, by omega, by omega, by omega, by omega, by omega, by omega, by omega⟩
theorem zCase {g gc : GgX7_readBlock} {gm : GgX12_block} {G : zTxt} {i d p b H : Nat} {f : Nat → Nat} {N M A S n F C R W V q e : Nat} {o : Nat → Nat × Nat} {w : Nat → Nat} {Y Z : List Nat} {t0 u0 t u : zS} {hx : Int32} (h : zBB G i d p b H f N M A S n F C R W V q o w Y Z t0 u0) (hN : zBN i A H b S n F C R W V q) (h3 : 3 * S ≤ i) (hU : zUW G i (i + 1) d p b H f N M A S n F C R W V q n F C o w t0 u0 t u) (hd : d ≤ 40) (hS : S < 1000) (hH : zHd o S p e t0 hx) (hed : e + 1 ≤ d) (hK : e + 1 ≤ zKc G (i + 1)) (h0 : zR0 S 7 6 hx t u) (hB : d < 40 → zPB (d + 1) (e + 1) gc.1 gm.1) (ec : g.2.2 = mX7_readCases gc) :
    ∃ r t2 r' u2, bX7_readStatement_58 g 7 (Int32.ofNat S) t = some (r, t2) ∧ (zbd (mX12_own u) fun r3275 t3276 => zwr t3276 16 1600 (Int32.ofNat S) r3275 fun t3279 => zbd (mX12_isSign 123 t3279) fun r3280 t3281 => zbd (mX12_opens r3280 t3281) fun r3283 t3284 => if r3283 = 0 then some (Int32.ofNat S, t3284) else zlet (t3284 0 59) fun v3286 => lX12_choose_36 gm zFU (Int32.ofNat S) v3286 1 t3284) = some (r', u2) ∧ zSP G i d p b H f N M A S n F C R W V q o w Y Z e hx t0 u0 r t2 r' u2 := by
  have hS2 : S < 1600 := Nat.lt_trans hS (by decide)
  have hl := zAt_lt hU.1.1
  have he : e ≤ 39 := Nat.le_of_lt_succ (Nat.lt_of_lt_of_le (Nat.lt_of_succ_le hed) hd)
  have hbd : 2 * A + 2 * V + 2 * H ≤ 3002 ∧ C ≤ 6300 ∧ b + n ≤ i := by
    obtain ⟨m1, m2, m3, m4, m5, m6, m7, m8⟩ := hN
    refine ⟨?_, ?_, ?_⟩ <;> omega
  obtain ⟨b1, b2, b3⟩ := hbd
  obtain ⟨k1, k2, k3, k4, k5, k6, k7, k8, k9, k10, k11, k12, k13, k14, k15, k16⟩ := h0
  obtain ⟨t1, r, u1, a1, a2, a3⟩ := zSlotOp hU b1 b2 hS b3
  unfold bX7_readStatement_58
  rw [if_pos rfl, a1, pl_bd, a2, pl_bd, zn_wr hS2 (by decide), ec]
  unfold mX7_readCases
  rcases a3 with ⟨n3, c0, c1, c2, c3⟩ | ⟨er, _⟩
  · have fR := c1.2.2.2.2.2.2.2.2.2.2.2.2.2.2.2.1
    have fM := c1.2.2.2.2.2.2.2.2.2.2.2.2.2.2.2.2
    have hn3 : n3 + i ≤ n + (i + 1 + 1) := c1.2.2.2.2.2.2.2.2.2.2.2.2.2.2.1
    have hl1 := zAt_lt c1.1.1
    obtain ⟨d1, d2⟩ := zBB_under h c1 b3 hS hH he (by rw [c2.1 101 (by decide) (by decide) (by decide)]; exact k8) (by rw [c2.1 107 (by decide) (by decide) (by decide)]; exact k16) (by rw [c2.1 87 (by decide) (by decide) (by decide), k1]; decide)
    rw [zAt_sg d1.1.1 (c := 123) (by decide), pl_bd]
    obtain ⟨t2, r2, u2, f1, f2, f3, f4, f5⟩ := zAt_enter (c := 123) d1.1.1 (by decide) hd d1.1.2.1 d1.1.2.2.1
    rw [f1, pl_bd, f2, pl_bd]
    have hn3' : n3 ≤ 3000 ∧ n3 ≤ n + 2 := ⟨by clear hN; omega, by clear hN; omega⟩
    rcases f5 with ⟨_, y2, y3, y4, y5, y6⟩ | ⟨y1, y2⟩
    · subst y2
      rw [if_neg pl_10, if_neg pl_10, pl_let]
      obtain ⟨z1, X1⟩ := zBB_fr (d2 := d + 1) d1 y4 (Nat.le_succ _) hn3'.1 (Nat.succ_le_of_lt hS) y5 y6 f3 f4
      have X2 := zBX_trans d2 X1 (Nat.le_refl _)
      have hl2 := zAt_lt y4
      rw [z1.2.2.2.2.2.2.2.2.1]
      have r87 : t2 87 S = 7 := by rw [f3.1 87 (by decide), c2.1 87 (by decide) (by decide) (by decide)]; exact k1
      have hCS : zCS G (i + 1 + 1 + 1) (d + 1) p b H f N M A (S + 1) n3 F C R W V q S 0 W (fun _ => 0) (zuq o S (e, p)) w (S :: Y) (S :: Z) t2 u2 := ⟨z1, ⟨by rw [if_pos rfl, f3.1 105 (by decide), c2.1 105 (by decide) (by decide) (by decide)]; exact k13, fun j hj => absurd hj (Nat.not_lt_zero j)⟩, fun j hj => absurd hj (Nat.not_lt_zero j), fun j l _ hl => absurd hl (Nat.not_lt_zero l), fun j l _ hl => absurd hl (Nat.not_lt_zero l)⟩
      have hnn : zBN (i + 1 + 1 + 1) A (H + 0) b (S + 1) n3 F C R W V q ∧ 2 * A + 2 * V + 2 * (H + 0) ≤ i + 1 + 1 + 1 ∧ 3 * (S + 1) ≤ i + 1 + 1 + 1 := by
        obtain ⟨m1, m2, m3, m4, m5, m6, m7, m8⟩ := hN
        exact ⟨⟨by omega, by omega, by omega, by omega, by omega, by omega, by omega, by omega⟩, by omega, by omega⟩
      have hck : zCK S p F C t2 u2 t2 u2 := ⟨⟨fun _ _ _ _ => rfl, fun _ _ _ _ => rfl⟩, fun m hm hm2 => ⟨m, hm, Nat.le_refl _, hm2⟩, zFP_refl _ _, zFP_refl _ _⟩
      have fR2 : zFP zpR t0 t2 := zFP_trans fR (zFP_rS f3)
      have fM2 : zFP zpM u0 u2 := zFP_trans fM (zFP_M (zFP_N f4))
      obtain ⟨t3, rm, u3, g1, g2, g3⟩ := zCaseL (gC := gc) (gM := gm) (s := S) (e := e) (hB y3) y3 (Nat.le_refl S) List.mem_cons_self hS r87 fR2 fM2 3001 (i + 1 + 1 + 1) (zFU - 3002) (zFU - 3003) (S + 1) n3 F C R W V q 0 (fun _ => 0) _ _ (-1) t2 u2 (by clear hN hnn; omega) hCS hnn.1 hnn.2.1 hnn.2.2 X2 (Nat.lt_succ_self S) ⟨zuq_at _ _ _, zuq_ne (by clear hN hnn; omega)⟩ (Nat.le_trans hK (zKc_le (by clear hN hnn; omega))) rfl hck
      have hm3 := zAt_m1 y4
      have l1 : lX7_readCases_14 gc zFU (Int32.ofNat S) (-1) 0 t2 = some (0, t3) := by
        show bX7_readCases_14 gc (lX7_readCases_14 gc (zFU - 1)) _ _ _ _ = _
        unfold bX7_readCases_14
        rw [if_neg (show ¬ (3000 : Int32) ≤ 0 by decide), if_neg (by rw [hm3.1]; decide), if_pos rfl, show zFU - 1 = zFU - 3002 + 3001 by unfold zFU; clear hN hnn; omega]
        exact g1
      rw [show zFU - 3003 + 3001 + 2 = zFU by unfold zFU; clear hN hnn; omega] at g2
      rw [l1, pl_bd, g2]
      rcases g3 with ⟨g3, i2, S2, n2, F2, C2, R2, W2, V2, q2, o2, w2, g4, g5, g6, g7, g8, g9, ⟨hr1, hr2, hr3, hr4⟩, g11, g12⟩ | g3
      · have hst : zStm G o2 w2 S2 F2 C2 R2 W2 V2 t3 u3 S := by
          have rowC : ∀ k, k = 87 ∨ k = 89 ∨ k = 91 ∨ k = 95 ∨ k = 97 → t3 k S = t1 k S := fun k hk => by
            have ha : 87 ≤ k ∧ k ≤ 107 ∧ ¬ k ∈ [105] ∧ k ≠ 5 := by rcases hk with e | e | e | e | e <;> subst e <;> decide
            rw [hr1.1 k ha.1 ha.2.1 ha.2.2.1, f3.1 k ha.2.2.2]
          have rowM : ∀ k, k = 14 ∨ k = 15 ∨ k = 16 ∨ k = 18 → u3 k S = zu u1 16 S r k S := fun k hk => by
            have ha : 14 ≤ k ∧ k ≤ 22 ∧ ¬ k ∈ [19, 20] ∧ k ≠ 0 ∧ k ≠ 3 ∧ k ≠ 4 := by rcases hk with e | e | e | e <;> subst e <;> decide
            rw [hr1.2 k ha.1 ha.2.1 ha.2.2.1, f4.1 k ha.2.2.2.1 ha.2.2.2.2.1 ha.2.2.2.2.2]
          refine ⟨?_, Or.inr (Or.inr (Or.inr (Or.inr (Or.inr (Or.inl ⟨?_, ?_, ?_, ⟨?_, ?_, ?_⟩, g8, ?_, ?_⟩)))))⟩
          · rw [rowC 89 (by decide), rowM 15 (by decide), c2.1 89 (by decide) (by decide) (by decide), c2.2 15 (by decide) (by decide) (by decide)]; exact k2
          · rw [rowC 87 (by decide), c2.1 87 (by decide) (by decide) (by decide)]; exact k1
          · rw [rowM 14 (by decide), c2.2 14 (by decide) (by decide) (by decide)]; exact k9
          · rw [g9.1, rowC 91 (by decide), rowM 16 (by decide)]
            exact zSo_ext c3 (fun m hm hm2 => by
              obtain ⟨m2, q1, q2, q3⟩ := hr2 m (by rw [f3.1 39 (by decide)]; exact hm) hm2
              exact ⟨m2, q1, q2, q3⟩)
          · rw [rowC 95 (by decide), c2.1 95 (by decide) (by decide) (by decide)]; exact k5
          · rw [rowC 97 (by decide), c2.1 97 (by decide) (by decide) (by decide)]; exact k6
          · rw [rowM 18 (by decide), c2.2 18 (by decide) (by decide) (by decide)]; exact k12
          · rw [g9.1]; show e ≤ 38; exact Nat.le_of_lt_succ (Nat.lt_of_succ_le (Nat.le_of_succ_le_succ (Nat.le_trans (Nat.succ_le_succ hed) (Nat.succ_le_of_lt g11))))
          · rw [g9.1]
            have h5 : i + 1 ≤ G.2.2.1 := hU.1.1.2.2.2.2.1
            exact Nat.le_trans hK (zKc_le h5)
        have z5 := zBB_doneY g5 hst
        rw [g3]
        refine ⟨_, _, _, _, rfl, rfl, Or.inl ⟨i2, S2, n2, F2, C2, R2, W2, V2, q2, o2, w2, rfl, rfl, by clear hN hnn; omega, Nat.lt_of_lt_of_le (Nat.lt_succ_self S) g12, z5, g6, zCaseM hn3'.2 g7, g9, ?_, ?_, zFP_trans fR2 hr3, zFP_trans fM2 hr4⟩⟩
        · rw [hr1.1 101 (by decide) (by decide) (by decide), f3.1 101 (by decide), c2.1 101 (by decide) (by decide) (by decide)]; exact k8
        · rw [hr1.1 99 (by decide) (by decide) (by decide), f3.1 99 (by decide), c2.1 99 (by decide) (by decide) (by decide)]; exact k7
      · exact ⟨_, _, _, _, rfl, rfl, Or.inr g3⟩
    · subst y1
      rw [if_pos rfl, if_pos rfl, pl_bd]
      have hE := zSE_pre (zSE_ofB d1 (Nat.le_trans b2 (by decide)) b1 y2 f3 f4) fR fM
      exact ⟨_, _, _, _, rfl, rfl, Or.inr hE⟩
  · have hE := zSE_zu (k := 16) (j := S) (v := r) er (by decide) rfl
    rw [zEc_enter (zEr_c er.1) (by decide), pl_bd, if_pos rfl, pl_bd, zEm_sg (zEr_m hE.1), pl_bd, zEm_opens (zEr_m hE.1), pl_bd, if_pos rfl]
    exact ⟨_, _, _, _, rfl, rfl, Or.inr (zSE_5 hE)⟩
