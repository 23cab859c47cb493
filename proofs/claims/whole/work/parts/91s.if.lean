/-! if in lockstep -/
theorem zBN_of {i i2 A H b S n F C R W V q S2 n2 F2 C2 R2 W2 V2 q2 : Nat} (h : zBN i A H b S n F C R W V q) (k : zBF i S n F C R W V q i2 S2 n2 F2 C2 R2 W2 V2 q2) (h3 : 3 * S ≤ i) : zBN i2 A H b S2 n2 F2 C2 R2 W2 V2 q2 ∧ 3 * S2 ≤ i2 ∧ 2 * A + 2 * V2 + 2 * H ≤ i2 + 1 := by
  obtain ⟨a1, a2, a3, a4, a5, a6, a7, a8⟩ := h
  obtain ⟨b1, b2, b3, b4, b5, b6, b7, b8⟩ := k
  exact ⟨⟨by omega, by omega, by omega, by omega, by omega, by omega, by omega, by omega⟩, by omega, by omega⟩
theorem zBN_of2 {i i2 A H b S n F C R W V q S2 n2 F2 C2 R2 W2 V2 q2 : Nat} (h : zBN i A H b S n F C R W V q) (k : zBF i S n F C R W V q i2 S2 n2 F2 C2 R2 W2 V2 q2) (h3 : 3 * S2 + i + 2 ≤ 3 * S + i2) (hi : i2 ≤ 3000) : (zBN i2 A H b S2 n2 F2 C2 R2 W2 V2 q2 ∧ zBN (i2 + 1) A H b S2 n2 F2 C2 R2 W2 V2 q2) ∧ 3 * S2 ≤ i2 ∧ S2 ≤ 1000 ∧ n2 ≤ 3000 ∧ C2 ≤ 6400 ∧ 2 * A + 2 * V2 + 2 * H ≤ 3002 := by
  obtain ⟨a1, a2, a3, a4, a5, a6, a7, a8⟩ := h
  obtain ⟨b1, b2, b3, b4, b5, b6, b7, b8⟩ := k
  exact ⟨⟨⟨by omega, by omega, by omega, by omega, by omega, by omega, by omega, by omega⟩, by omega, by omega, by omega, by omega, by omega, by omega, by omega, by omega⟩, by omega, by omega, by omega, by omega, by omega⟩
theorem zIfN {i i1 i2 i3 S n F C R W V q n1 F1 C1 S2 n2 F2 C2 R2 W2 V2 q2 S3 n3 F3 C3 R3 W3 V3 q3 : Nat} (h1 : zBF i S n F C R W V q i1 S n1 F1 C1 R W V q) (hi : i + 2 ≤ i1) (h2 : zBF i1 (S + 1) n1 F1 C1 R W V q i2 S2 n2 F2 C2 R2 W2 V2 q2) (h2' : 3 * S2 + i1 + 2 ≤ 3 * (S + 1) + i2) (h3 : zBF (i2 + 1) S2 n2 F2 C2 R2 W2 V2 q2 i3 S3 n3 F3 C3 R3 W3 V3 q3) (h3' : 3 * S3 + (i2 + 1) + 2 ≤ 3 * S2 + i3) : zBF i S n F C R W V q i3 S3 n3 F3 C3 R3 W3 V3 q3 := by
  obtain ⟨a1, a2, a3, a4, a5, a6, a7, a8⟩ := h1
  obtain ⟨b1, b2, b3, b4, b5, b6, b7, b8⟩ := h2
  obtain ⟨c1, c2, c3, c4, c5, c6, c7, c8⟩ := h3
  exact ⟨by omega, by omega, by omega, by omega, by omega, by omega, by omega, by omega⟩
theorem zBF_trans {i i2 i3 S n F C R W V q S2 n2 F2 C2 R2 W2 V2 q2 S3 n3 F3 C3 R3 W3 V3 q3 : Nat} (h : zBF i S n F C R W V q i2 S2 n2 F2 C2 R2 W2 V2 q2) (k : zBF i2 S2 n2 F2 C2 R2 W2 V2 q2 i3 S3 n3 F3 C3 R3 W3 V3 q3) : zBF i S n F C R W V q i3 S3 n3 F3 C3 R3 W3 V3 q3 := by
  obtain ⟨a1, a2, a3, a4, a5, a6, a7, a8⟩ := h
  obtain ⟨b1, b2, b3, b4, b5, b6, b7, b8⟩ := k
  exact ⟨by omega, by omega, by omega, by omega, by omega, by omega, by omega, by omega⟩
theorem zBF_i {i i2 i3 S n F C R W V q S2 n2 F2 C2 R2 W2 V2 q2 : Nat} (h : zBF i S n F C R W V q i2 S2 n2 F2 C2 R2 W2 V2 q2) (hi : i2 ≤ i3) : zBF i S n F C R W V q i3 S2 n2 F2 C2 R2 W2 V2 q2 := by
  obtain ⟨a1, a2, a3, a4, a5, a6, a7, a8⟩ := h
  exact ⟨by omega, by omega, by omega, by omega, by omega, by omega, by omega, by omega⟩
/-- behind the EXPRESSION of while or if -/
theorem zWhPre {G : zTxt} {i d p b H : Nat} {f : Nat → Nat} {N M A S n F C R W V q e : Nat} {o : Nat → Nat × Nat} {w : Nat → Nat} {Y Z : List Nat} {t0 u0 t u : zS} {hx kk mm : Int32} (h : zBB G i d p b H f N M A S n F C R W V q o w Y Z t0 u0) (hN : zBN i A H b S n F C R W V q) (h3 : 3 * S ≤ i) (hU : zUW G i (i + 1) d p b H f N M A S n F C R W V q n F C o w t0 u0 t u) (hd : d ≤ 40) (hS : S < 1000) (hH : zHd o S p e t0 hx) (he : e ≤ 39) (hkk : ¬ (kk = 8 ∨ kk = 9)) (h0 : zR0 S kk mm hx t u) : ∃ t1 r u1, mX7_readFormula (Int32.ofNat S) t = some (0, t1) ∧ mX12_told u = some (r, u1) ∧
    ((∃ i1 n1 F1 C1, i + 2 ≤ i1 ∧ zBB G i1 d p b H f N M A (S + 1) n1 F1 C1 R W V q (zuq o S (e, p)) w (S :: Y) (S :: Z) t1 (zu u1 18 S r) ∧ zBX p b H S n F C R W V q (S + 1) n1 F1 C1 R W V q o (zuq o S (e, p)) w w t0 u0 t1 (zu u1 18 S r) ∧ zBN i1 A H b (S + 1) n1 F1 C1 R W V q ∧ 3 * (S + 1) ≤ i1 + 1 ∧ zBF i S n F C R W V q i1 S n1 F1 C1 R W V q ∧ zRS [95, 97] [18] S t u t1 (zu u1 18 S r) ∧ zFm t1 (zu u1 18 S r) p F1 C1 (t1 95 S) (t1 97 S) (zu u1 18 S r 18 S) ∧ zFP zpR t0 t1 ∧ zFP zpM u0 (zu u1 18 S r) ∧ i1 ≤ G.2.2.1) ∨ zSE H t0 u0 t1 u1) := by
  obtain ⟨m1, m2, m3, m4, m5, m6, m7, m8⟩ := hN
  have hl := zAt_lt hU.1.1
  obtain ⟨t1, r, u1, a1, a2, a3⟩ := zUW_told hU (by omega) hd hS m2 m3 m8 (by omega)
  refine ⟨t1, r, u1, a1, a2, ?_⟩
  rcases a3 with ⟨i1, n1, F1, C1, b1, b2, b3, b4, b5⟩ | er
  · have hl1 := zAt_lt b2.1.1
    have e13 := b2.2.2.2.2.2.2.2.2.2.2.2.2.1
    have e14 := b2.2.2.2.2.2.2.2.2.2.2.2.2.2.1
    have e15 : n1 + i ≤ n + i1 := b2.2.2.2.2.2.2.2.2.2.2.2.2.2.2.1
    obtain ⟨c1, c2⟩ := zBB_under h b2 m8 hS hH he (by rw [b3.1 101 (by omega) (by omega) (by simp)]; exact h0.2.2.2.2.2.2.2.1) (by rw [b3.1 107 (by omega) (by omega) (by simp)]; exact h0.2.2.2.2.2.2.2.2.2.2.2.2.2.2.2) (by rw [b3.1 87 (by omega) (by omega) (by simp), h0.1]; exact hkk)
    exact Or.inl ⟨i1, n1, F1, C1, by omega, c1, c2, ⟨by omega, by omega, by omega, by omega, by omega, by omega, by omega, by omega⟩, by omega, ⟨by omega, by omega, by omega, by omega, by omega, by omega, by omega, by omega⟩, b3, b4, b2.2.2.2.2.2.2.2.2.2.2.2.2.2.2.2.1, b2.2.2.2.2.2.2.2.2.2.2.2.2.2.2.2.2, b2.1.1.2.2.2.2.1⟩
  · exact Or.inr er
theorem zIf {g : GgX7_readBlock} {gm : GgX12_block} {gc' : GgX7_readBlock} {gm' : GgX12_block} {G : zTxt} {i d p b H : Nat} {f : Nat → Nat} {N M A S n F C R W V q e : Nat} {o : Nat → Nat × Nat} {w : Nat → Nat} {Y Z : List Nat} {t0 u0 t u : zS} {hx : Int32} (h : zBB G i d p b H f N M A S n F C R W V q o w Y Z t0 u0) (hN : zBN i A H b S n F C R W V q) (h3 : 3 * S ≤ i) (hU : zUW G i (i + 1) d p b H f N M A S n F C R W V q n F C o w t0 u0 t u) (hd : d ≤ 40) (hS : S < 1000) (hH : zHd o S p e t0 hx) (hed : e + 1 ≤ d) (hK : e + 1 ≤ zKc G (i + 1)) (h0 : zR0 S 10 10 hx t u) (hB : zPB d (e + 1) g.1 gm.1) (ec : g.1 = mX7_readBlock gc') (em : gm.1 = mX12_block gm') :
    ∃ r t2 r' u2, bX7_readStatement_58 g 10 (Int32.ofNat S) t = some (r, t2) ∧ (zbd (mX12_told u) fun r3290 t3291 => zwr t3291 18 1600 (Int32.ofNat S) r3290 fun t3294 => zrd t3294 14 1600 (Int32.ofNat S) fun v3295 => if v3295 = 11 then zbd (gm.1 (Int32.ofNat S) t3294) fun r3313 t3314 => zwr t3314 19 1600 (Int32.ofNat S) r3313 fun t3317 => some (Int32.ofNat S, t3317) else zbd (gm.1 ((-2) - Int32.ofNat S) t3294) fun r3297 t3298 => zwr t3298 19 1600 (Int32.ofNat S) r3297 fun t3301 => zbd (mX12_isKey 12 t3301) fun r3302 t3303 => zbd (mX12_passes r3302 t3303) fun r3305 t3306 => if r3305 = 0 then some (Int32.ofNat S, t3306) else zbd (gm.1 ((-2) - Int32.ofNat S) t3306) fun r3308 t3309 => zwr t3309 20 1600 (Int32.ofNat S) r3308 fun t3312 => some (Int32.ofNat S, t3312)) = some (r', u2) ∧ zSP G i d p b H f N M A S n F C R W V q o w Y Z e hx t0 u0 r t2 r' u2 := by
  have hS2 : S < 1600 := Nat.lt_trans hS (by decide)
  obtain ⟨t1, r, u1, a1, a2, a3⟩ := zWhPre h hN h3 hU hd hS hH (Nat.le_of_lt_succ (Nat.lt_of_lt_of_le (Nat.lt_of_succ_le hed) hd)) (by decide) h0
  obtain ⟨k1, k2, k3, k4, k5, k6, k7, k8, k9, k10, k11, k12, k13, k14, k15, k16⟩ := h0
  unfold bX7_readStatement_58
  rw [if_neg (by decide), if_neg (by decide), if_neg (by decide), if_pos rfl, a1, pl_bd, a2, pl_bd, zn_wr hS2 (by decide), zn_rd hS2 (by decide)]
  have restC : ∀ (t3 : zS) (rx : Int32), zEc t3 → ∃ t4, (zbd (mX7_expect 11 t3) fun _ t843 => zbd (g.1 (Int32.ofNat S) t843) fun r845 t846 => zbd (mX9_addBranch (Int32.ofNat S) rx (-1) r845 t846) fun _ t849 => some (Int32.ofNat S, t849)) = some (Int32.ofNat S, t4) ∧ zEs t3 t4 := by
    intro t3 rx hc
    obtain ⟨rx2, t5, y3, y4⟩ := zEs_addBranch (x1 := Int32.ofNat S) (x2 := rx) (x3 := -1) (x4 := -1) hc
    rw [zEc_expect hc (by decide), pl_bd, ec, zEs_block hc, pl_bd, y3, pl_bd]
    exact ⟨t5, rfl, y4⟩
  rcases a3 with ⟨i1, n1, F1, C1, b1, c1, c2, c3, c4, c5, b3, b4, fR, fM, hi1⟩ | er
  · have r14 : zu u1 18 S r 14 S = 10 := by rw [b3.2 14 (by decide) (by decide) (by decide)]; exact k9
    have r87 : t1 87 S = 10 := by rw [b3.1 87 (by decide) (by decide) (by decide)]; exact k1
    have hS3 : S < S + 1 := Nat.lt_succ_self S
    rw [r14, if_neg (by decide)]
    obtain ⟨rb, t2, rb', u2, d1, d2, d3⟩ := zBrStep (s := S) (m := 0) (E := fun _ => 0) (x3 := -1) (lab := -1) (e := e) hB c1 c3 c2 (Nat.le_refl _) (Nat.le_refl S) hS3 List.mem_cons_self (zuq_at _ _ _) (Or.inr (Or.inl r87)) (Nat.le_trans hK (zKc_le (Nat.le_trans (Nat.le_succ _) b1))) ⟨by rw [if_pos rfl, b3.1 105 (by decide) (by decide) (by decide)]; exact k13, fun j hj => absurd hj (Nat.not_lt_zero j)⟩ (fun j hj => absurd hj (Nat.not_lt_zero j)) rfl hS
    have hbeh : zBeh t1 (Int32.ofNat S) = -2 - Int32.ofNat S := by rw [zBeh_w hS, if_neg (by rw [r87]; decide)]
    rw [hbeh] at d2
    rw [d1, pl_bd, d2, pl_bd, zn_wr hS2 (by decide)]
    rcases d3 with ⟨i2, S2, n2, F2, C2, R2, W2, V2, q2, o2, w2, t3, y1, y2, z1, X2, bf, y3, y4, y5, y6, y7, y8, y8', kp, L2, ow, l109, l111, bl, _, rbl⟩ | ⟨rx, t3, y1, er⟩
    · obtain ⟨kr, _, ko, k101, k75, k27, kg, _, kR, kM⟩ := kp
      rw [y1, pl_bd]
      have hl2 := zAt_lt z1.1.1
      obtain ⟨⟨nn1, nn2⟩, nn3, nn4, nn5, nn6, nn7⟩ := zBN_of2 c3 bf y3 hl2
      have z1' := zBB_mu (k := 19) (v := rb') z1 List.mem_cons_self nn4 (by decide)
      have X2' := zBX_mu (k := 19) (v := rb') (s := S) X2 (Nat.le_refl _) (by decide)
      have fR2 : zFP zpR t0 t3 := zFP_trans fR kR
      have fM2 : zFP zpM u0 (zu u2 19 S rb') := zFP_zu (zFP_trans fM kM) rfl
      obtain ⟨t4, rk, u4, j1, j2, j3, j4, j5⟩ := zAt_expectK (k := 11) z1'.1.1 (by decide)
      have j2' : (zbd (mX12_isKey 12 (zu u2 19 S rb')) fun x u1 => mX12_passes x u1) = some (rk, u4) := j2
      have e2 : ∀ K : Int32 → zS → zR, (zbd (mX12_isKey 12 (zu u2 19 S rb')) fun x u1 => zbd (mX12_passes x u1) K) = K rk u4 := fun K => by
        cases hq : mX12_isKey 12 (zu u2 19 S rb') with
        | none => rw [hq] at j2'; cases j2'
        | some v =>
          rw [hq] at j2'
          show zbd (mX12_passes v.1 v.2) K = _
          have : mX12_passes v.1 v.2 = some (rk, u4) := j2'
          rw [this, pl_bd]
      rw [e2]
      rcases j5 with ⟨_, l2, l3, l4, l5⟩ | ⟨l2, l3⟩
      · subst l2
        rw [if_neg pl_10, show mX7_expect 11 t3 = some (0, t4) from j1, pl_bd]
        obtain ⟨z2, X3⟩ := zBB_fr (d2 := d) z1' l3 (Nat.le_succ _) nn5 nn4 (by rw [l4]; exact z1'.1.2.1) (by rw [l5]; exact z1'.1.2.2.1) j3 j4
        have X4 := zBX_trans X2' X3 (Nat.le_refl _)
        have r87' : t4 87 S = 10 := by rw [j3.1 87 (by decide), kr.1 87 (by decide) (by decide) (by decide)]; exact r87
        have hS4 : S < S2 := Nat.lt_of_lt_of_le hS3 y5
        obtain ⟨rc, t5, rc', u5, p1, p2, p3⟩ := zBrStep (s := S) (m := 1) (E := zup (fun _ => 0) 0 W2) (x3 := Int32.ofNat W2) (lab := -1) (e := e) hB z2 nn2 X4 (Nat.le_refl _) (Nat.le_refl S) hS4 List.mem_cons_self (by rw [ko S (Or.inl hS3), zuq_at]) (Or.inr (Or.inl r87')) (Nat.le_trans hK (zKc_le (Nat.le_trans (Nat.le_trans (Nat.le_succ _) b1) (Nat.le_trans (Nat.le_trans (Nat.le_add_right _ 2) y2) (Nat.le_succ _))))) (by rw [j3.1 115 (by decide), j3.1 105 (by decide)]; exact L2) ow rfl hS
        have hbeh2 : zBeh t4 (Int32.ofNat S) = -2 - Int32.ofNat S := by rw [zBeh_w hS, if_neg (by rw [r87']; decide)]
        rw [hbeh2] at p2
        rw [p1, pl_bd, p2, pl_bd, zn_wr hS2 (by decide)]
        rcases p3 with ⟨i3, S3, n3, F3, C3, R3, W3, V3, q3, o3, w3, t6, x1, x2, z3, X5, bf2, x3, x4, x5, x6, x7, x8, x8', kp2, L3, ow3, m109, m111, bl3, nw3, rcl⟩ | ⟨rx, t6, x1, er⟩
        · obtain ⟨pr, p111, po, p101, p75, p27, pg, _, pR, pM⟩ := kp2
          rw [x1, pl_bd]
          have hl3 := zAt_lt z3.1.1
          have hS3b : ∀ x, x < S3 → x < 2000 := fun x hx => by
            have q1 := bf2.1
            have q2 := nn2.1
            clear bf bf2 c3 c5 nn1 nn2 hN
            omega
          obtain ⟨_, _, nn4', nn5', _⟩ := zBN_of2 nn2 bf2 x3 hl3
          have z4 := zBB_mu (k := 20) (v := rc') z3 List.mem_cons_self nn4' (by decide)
          have X6 := zBX_mu (k := 20) (v := rc') (s := S) X5 (Nat.le_refl _) (by decide)
          have o3S : o3 S = (e, p) := by rw [po S (Or.inl hS4), ko S (Or.inl hS3), zuq_at]
          have o3T : o3 (10000 + S) = o (10000 + S) := by rw [po (10000 + S) (Or.inr ⟨Nat.le_add_right _ _, Nat.add_lt_add_left hS4 _⟩), ko (10000 + S) (Or.inr ⟨Nat.le_add_right _ _, Nat.add_lt_add_left hS3 _⟩), zuq_ne (by clear bf bf2 c3 c5 nn1 nn2 hN; omega)]
          have rowC : ∀ k, k = 87 ∨ k = 89 ∨ k = 91 ∨ k = 95 ∨ k = 97 ∨ k = 99 ∨ k = 101 → t6 k S = t1 k S := fun k hk => by
            have ha : 87 ≤ k ∧ k ≤ 107 ∧ ¬ k ∈ [105] ∧ k ≠ 5 := by rcases hk with e | e | e | e | e | e | e <;> subst e <;> decide
            rw [pr.1 k ha.1 ha.2.1 ha.2.2.1, j3.1 k ha.2.2.2, kr.1 k ha.1 ha.2.1 ha.2.2.1]
          have rowM : ∀ k, k = 14 ∨ k = 15 ∨ k = 16 ∨ k = 18 → zu u5 20 S rc' k S = zu u1 18 S r k S := fun k hk => by
            have ha : 14 ≤ k ∧ k ≤ 22 ∧ k ≠ 20 ∧ k ≠ 19 ∧ k ≠ 0 ∧ k ≠ 3 ∧ k ≠ 4 := by rcases hk with e | e | e | e <;> subst e <;> decide
            rw [zu_ne1 ha.2.2.1, pr.2 k ha.1 ha.2.1 (by simp), j4.1 k ha.2.2.2.2.1 ha.2.2.2.2.2.1 ha.2.2.2.2.2.2, zu_ne1 ha.2.2.2.1, kr.2 k ha.1 ha.2.1 (by simp)]
          have E0 : zup (zup (fun _ => 0) 0 W2) 1 W3 0 = W2 := rfl
          have E1 : zup (zup (fun _ => 0) 0 W2) 1 W3 1 = W3 := rfl
          have hst : zStm G o3 w3 S3 F3 C3 R3 (W3 + 1) V3 t6 (zu u5 20 S rc') S := by
            refine ⟨?_, Or.inr (Or.inr (Or.inr (Or.inr (Or.inr (Or.inr (Or.inr (Or.inl ⟨?_, ?_, ?_, ?_, ?_, ?_, ?_⟩)))))))⟩
            · rw [rowC 89 (by decide), rowM 15 (by decide), b3.1 89 (by decide) (by decide) (by decide), b3.2 15 (by decide) (by decide) (by decide)]; exact k2
            · rw [rowC 87 (by decide)]; exact r87
            · rw [rowM 14 (by decide)]; exact r14
            · rw [rowC 91 (by decide), b3.1 91 (by decide) (by decide) (by decide)]; exact k3
            · rw [rowM 16 (by decide), b3.2 16 (by decide) (by decide) (by decide)]; exact k10
            · rw [o3S, rowC 95 (by decide), rowC 97 (by decide), rowM 18 (by decide)]
              have f1 := zFm_ext (t2 := t3) (u2 := u2) b4 kg y6 y7 k75 k27
              have f2 := zFm_ext (t2 := t4) (u2 := u4) f1 (fun m hm hm2 => ⟨m, by rw [j3.1 39 (by decide)]; exact hm, Nat.le_refl _, hm2⟩) (Nat.le_refl _) (Nat.le_refl _) (fun k _ => ⟨by rw [j3.1 75 (by decide)], by rw [j3.1 77 (by decide)]⟩) (fun c _ => by rw [j4.1 27 (by decide) (by decide) (by decide), zu_ne1 (by decide)])
              exact zFm_ext f2 pg x6 x7 p75 (fun c hc => by rw [zu_ne1 (by decide)]; exact p27 c hc)
            · have c0 := (L3.2 0 (by decide)).2
              have cc1 := (L3.2 1 (by decide)).2
              have cb0 := (L3.2 0 (by decide)).1
              have cb1 := (L3.2 1 (by decide)).1
              have cL := L3.1
              rw [E0] at c0 cb0
              rw [E1] at cc1 cb1
              rw [if_pos (by decide), E1] at c0
              rw [if_neg (by decide)] at cc1
              rw [if_neg (by decide), E0] at cL
              have ow0 := (ow3 0 (by decide)).1
              have ow1 := (ow3 1 (by decide)).1
              rw [E0] at ow0
              rw [E1] at ow1
              refine ⟨W2, W3, cb0, cb1, cL, c0, cc1, ?_, ?_, ow0, ow1, ?_⟩
              · have q1 := (p111 0 (by decide)).2
                have e0' : zup (fun _ => 0) 0 W2 0 = W2 := rfl
                rw [e0'] at q1
                rw [q1, j3.1 111 (by decide), l111, zu_ne1 (by decide), pr.2 19 (by decide) (by decide) (by simp), j4.1 19 (by decide) (by decide) (by decide), zu_same, ← hbeh]
                exact zBl_ext bl hS4 po x5 (fun r hr => by rw [p101 r hr, j3.1 101 (by decide)])
              · rw [m111, zu_same, ← hbeh2]; exact bl3
              · have q1 := (p111 0 (by decide)).2
                have e0' : zup (fun _ => 0) 0 W2 0 = W2 := rfl
                rw [e0'] at q1
                rw [q1, j3.1 111 (by decide), l111, m111]
                refine zNeq (S := S2) (by
                  rcases rbl with q | ⟨x, q1, _, q3⟩
                  · exact Or.inl q
                  · exact Or.inr ⟨x, q1, q3⟩) (by
                  rcases rcl with q | ⟨x, q1, q2, q3⟩
                  · exact Or.inl q
                  · exact Or.inr ⟨x, q1, q2, hS3b x q3⟩)
            · refine ⟨by rw [o3S]; show e ≤ 38; exact Nat.le_of_lt_succ (Nat.lt_of_succ_le (Nat.le_of_succ_le_succ (Nat.le_trans (Nat.succ_le_succ hed) (Nat.succ_le_of_lt x4)))), ?_⟩
              rw [o3S]
              exact Nat.le_trans hK (zKc_le (Nat.le_trans (Nat.le_trans (Nat.le_succ _) b1) hi1))
          have z5 := zBB_doneY z4 hst
          refine ⟨_, _, _, _, rfl, rfl, Or.inl ⟨i3, S3, n3, F3, C3, R3, W3 + 1, V3, q3, o3, _, rfl, rfl, ?_, Nat.lt_of_lt_of_le hS4 x5, z5, X6, zIfN c5 b1 bf y3 bf2 x3, ⟨o3S, o3T⟩, ?_, ?_, zFP_trans fR2 (zFP_trans (zFP_rS j3) pR), zFP_zu (zFP_trans fM2 (zFP_trans (zFP_M (zFP_N j4)) pM)) rfl⟩⟩
          · clear bf bf2 c3 c5 nn1 nn2 hN; omega
          · rw [rowC 101 (by decide), b3.1 101 (by decide) (by decide) (by decide)]; exact k8
          · rw [rowC 99 (by decide), b3.1 99 (by decide) (by decide) (by decide)]; exact k7
        · rw [x1, pl_bd]
          exact ⟨_, _, _, _, rfl, rfl, Or.inr (zSE_zu (zSE_pre er (zFP_trans fR2 (zFP_rS j3)) (zFP_trans fM2 (zFP_M (zFP_N j4)))) (by decide) rfl)⟩
      · subst l2
        have hE := zSE_pre (zSE_ofB z1' nn6 nn7 l3 j3 j4) fR2 fM2
        obtain ⟨rx2, t5, y3', y4'⟩ := zEs_addBranch (x1 := Int32.ofNat S) (x2 := Int32.ofNat W2) (x3 := -1) (x4 := -1) (zEr_c hE.1)
        rw [if_pos rfl, show mX7_expect 11 t3 = some (0, t4) from j1, pl_bd, ec, zEs_block (zEr_c hE.1), pl_bd, y3', pl_bd]
        exact ⟨_, _, _, _, rfl, rfl, Or.inr (zSE_c hE y4')⟩
    · obtain ⟨t4, g1, g2⟩ := restC t3 rx (zEr_c er.1)
      have hE2 := zSE_zu (k := 19) (j := S) (v := rb') (zSE_pre er fR fM) (by decide) rfl
      rw [y1, pl_bd, g1, zEm_key (zEr_m hE2.1), pl_bd, zEm_passes (zEr_m hE2.1), pl_bd, if_pos rfl]
      exact ⟨_, _, _, _, rfl, rfl, Or.inr (zSE_c (zSE_5 hE2) g2)⟩
  · have hE := zSE_zu (k := 18) (j := S) (v := r) er (by decide) rfl
    obtain ⟨rx, t3, w1, w2⟩ := zEs_addBranch (x1 := Int32.ofNat S) (x2 := -1) (x3 := -1) (x4 := -1) (zEr_c er.1)
    obtain ⟨t4, y1, y2⟩ := restC t3 rx w2.1
    have y2' := zEs_trans w2 y2
    have hE2 := zSE_zu (k := 19) (j := S) (v := -2 - Int32.ofNat S) (zSE_5 hE) (by decide) rfl
    have e1 : ∀ x, gm.1 x (zu u1 18 S r) = some (x, zu (zu u1 18 S r) 0 5 0) := fun x => by rw [em]; exact zEm_block (zEr_m hE.1)
    have e0 : g.1 (Int32.ofNat S) t1 = some (-1, t1) := by rw [ec]; exact zEs_block (zEr_c er.1)
    rw [e0, pl_bd, w1, pl_bd, y1]
    by_cases q : zu u1 18 S r 14 S = 11
    · rw [if_pos q, e1, pl_bd, zn_wr hS2 (by decide)]
      exact ⟨_, _, _, _, rfl, rfl, Or.inr (zSE_c (zSE_zu (zSE_5 hE) (by decide) rfl) y2')⟩
    · rw [if_neg q, e1, pl_bd, zn_wr hS2 (by decide), zEm_key (zEr_m hE2.1), pl_bd, zEm_passes (zEr_m hE2.1), pl_bd, if_pos rfl]
      exact ⟨_, _, _, _, rfl, rfl, Or.inr (zSE_c (zSE_5 hE2) y2')⟩
