/-! the plain STATEMENTS, one by one -/
def zR0 (S : Nat) (kk m hx : Int32) (t u : zS) : Prop := t 87 S = kk ∧ (t 89 S = u 15 S ∧ 0 ≤ t 89 S) ∧ t 91 S = -1 ∧ t 93 S = -1 ∧ t 95 S = 0 ∧ t 97 S = 0 ∧ t 99 S = -1 ∧ t 101 S = hx ∧ u 14 S = m ∧ u 16 S = -1 ∧ u 17 S = -1 ∧ u 18 S = -1 ∧ t 105 S = -1 ∧ u 19 S = -1 ∧ u 20 S = -1 ∧ t 107 S = 0
/-- the first NAME -/
theorem zSlotOp {G : zTxt} {i0 i d p b H : Nat} {f : Nat → Nat} {N M A S n F C R W V q n2 F2 C2 : Nat} {o : Nat → Nat × Nat} {w : Nat → Nat} {t0 u0 t u : zS} (h : zUW G i0 i d p b H f N M A S n F C R W V q n2 F2 C2 o w t0 u0 t u) (hb : 2 * A + 2 * V + 2 * H ≤ 3002) (hC : C2 ≤ 6300) (hS : S < 1000) (hn : b + n ≤ i0) : ∃ t2 r u2, mX7_readSlot (Int32.ofNat S) t = some (0, t2) ∧ mX12_own u = some (r, u2) ∧ ((∃ n3, n2 ≤ n3 ∧ zUW G i0 (i + 1) d p b H f N M A S n F C R W V q n3 F2 C2 o w t0 u0 t2 (zu u2 16 S r) ∧ zRS [91] [16] S t u t2 (zu u2 16 S r) ∧ zSo t2 p (t2 91 S) (zu u2 16 S r 16 S)) ∨ (zSE H t0 u0 t2 u2 ∧ u2 0 42 = Int32.ofNat C2)) := by
  unfold mX7_readSlot
  by_cases q17 : t 5 9 = 17
  · rw [if_pos q17]
    obtain ⟨t2, r, u2, n3, a1, a2, a3, a4, a5, _, a7⟩ := zUW_slot (k := 91) (m := 16) h hS hn (Or.inl rfl) (Or.inl rfl) q17
    exact ⟨t2, r, u2, a1, a2, Or.inl ⟨n3, a7, a3, a4, a5⟩⟩
  · rw [if_neg q17]
    have hnm := zAt_nm h.1.1
    obtain ⟨t2, u2, r1, r2, r3⟩ := zEB_no (cb := 6300) h.1 hC
    unfold mX12_own bX12_own_15
    rw [if_neg (fun e => q17 (hnm.mp e)), r1, pl_bd, r2, pl_bd]
    refine ⟨t2, _, u2, rfl, rfl, Or.inr ⟨zSE_ofU h hb r3 (by omega), ?_⟩⟩
    obtain ⟨t2', u2', s1, s2, s3, s4, s5, s6, s7, s8⟩ := zAt_no h.1.1
    rw [r2] at s2
    injection s2 with s2
    injection s2 with _ s2
    rw [s2, s7 42 (by decide) (by decide)]; exact h.1.2.2.2.2.2
/-- the second NAME -/
theorem zSecOp {G : zTxt} {i0 i d p b H : Nat} {f : Nat → Nat} {N M A S n F C R W V q n2 F2 C2 : Nat} {o : Nat → Nat × Nat} {w : Nat → Nat} {t0 u0 t u : zS} (h : zUW G i0 i d p b H f N M A S n F C R W V q n2 F2 C2 o w t0 u0 t u) (hb : 2 * A + 2 * V + 2 * H ≤ 3002) (hC : C2 ≤ 6300) (hS : S < 1000) (hn : b + n ≤ i0) : ∃ t2 r u2, mX7_readSecond (Int32.ofNat S) 0 t = some (0, t2) ∧ mX12_own u = some (r, u2) ∧ ((∃ n3, n2 ≤ n3 ∧ zUW G i0 (i + 1) d p b H f N M A S n F C R W V q n3 F2 C2 o w t0 u0 t2 (zu u2 17 S r) ∧ zRS [93] [17] S t u t2 (zu u2 17 S r) ∧ zSo t2 p (t2 93 S) (zu u2 17 S r 17 S)) ∨ zSE H t0 u0 t2 u2) := by
  unfold mX7_readSecond bX7_readSecond_44
  by_cases q17 : t 5 9 = 17
  · rw [if_pos q17, if_pos rfl]
    obtain ⟨t2, r, u2, n3, a1, a2, a3, a4, a5, _, a7⟩ := zUW_slot (k := 93) (m := 17) h hS hn (Or.inr rfl) (Or.inr rfl) q17
    exact ⟨t2, r, u2, a1, a2, Or.inl ⟨n3, a7, a3, a4, a5⟩⟩
  · rw [if_neg q17]
    have hnm := zAt_nm h.1.1
    obtain ⟨t2, u2, r1, r2, r3⟩ := zEB_no (cb := 6300) h.1 hC
    unfold mX12_own bX12_own_15
    rw [if_neg (fun e => q17 (hnm.mp e)), r1, pl_bd, r2, pl_bd]
    exact ⟨t2, _, u2, rfl, rfl, Or.inr (zSE_ofU h hb r3 (by omega))⟩
theorem zGr_U {G : zTxt} {i0 i i2 d p b H : Nat} {f : Nat → Nat} {N M A S n F C R W V q n2 F2 C2 n3 F3 C3 : Nat} {o : Nat → Nat × Nat} {w : Nat → Nat} {t0 u0 t u t2 u2 : zS} (h : zUW G i0 i d p b H f N M A S n F C R W V q n2 F2 C2 o w t0 u0 t u) (h2 : zUW G i0 i2 d p b H f N M A S n F C R W V q n3 F3 C3 o w t0 u0 t2 u2) (hn : n2 ≤ n3) (hb : b + n ≤ i0) : zGr t t2 p := by
  have e15' : n3 + i0 ≤ n + i2 := h2.2.2.2.2.2.2.2.2.2.2.2.2.2.2.1
  have hl := zAt_lt h2.1.1
  refine zGr_of h.1.2.2.2.1 h2.1.2.2.2.1 hn (by omega) (Nat.le_refl _) (fun j hj => ?_)
  have y1 := h.2.1.2.2.2.2.2.2.2.2.2.2.1 39 j hj
  have y2 := h2.2.1.2.2.2.2.2.2.2.2.2.2.1 39 j hj
  rw [y2, y1]
theorem zPut {g : GgX7_readBlock} {G : zTxt} {i d p b H : Nat} {f : Nat → Nat} {N M A S n F C R W V q e : Nat} {o : Nat → Nat × Nat} {w : Nat → Nat} {Y Z : List Nat} {t0 u0 t u : zS} {hx : Int32} (h : zBB G i d p b H f N M A S n F C R W V q o w Y Z t0 u0) (hN : zBN i A H b S n F C R W V q) (hU : zUW G i (i + 1) d p b H f N M A S n F C R W V q n F C o w t0 u0 t u) (hd : d ≤ 40) (hS : S < 1000) (hH : zHd o S p e t0 hx) (he : e ≤ 39) (h0 : zR0 S 13 12 hx t u) : ∃ r t2 r' u2, bX7_readStatement_58 g 13 (Int32.ofNat S) t = some (r, t2) ∧ bX12_simple_15 (Int32.ofNat S) 12 u = some (r', u2) ∧ zSP G i d p b H f N M A S n F C R W V q o w Y Z e hx t0 u0 r t2 r' u2 := by
  obtain ⟨k1, k2, k3, k4, k5, k6, k7, k8, k9, k10, k11, k12, k13, k14, k15, k16⟩ := h0
  unfold bX7_readStatement_58 bX12_simple_15 mX7_readNames bX7_readNames_11
  rw [if_neg (by decide), if_neg (by decide), if_neg (by decide), if_neg (by decide), if_neg (by decide), if_neg (by decide), if_pos rfl, if_neg (by decide), if_neg (by decide), if_pos (by decide), pl_bd, if_neg (by decide), if_neg (by decide), if_pos rfl, if_neg (by decide), if_neg (by decide), if_pos rfl]
  refine zTail2 h hN hU hd (by omega) (by omega) hS hH he k8 k7 k16 (by rw [k1]; decide) (fun t2 u2 F3 C3 a1 a2 a3 => ?_)
  refine ⟨by rw [a1.1 89 (by omega) (by omega) (by simp), a1.2 15 (by omega) (by omega) (by simp)]; exact k2, Or.inr (Or.inl ⟨by rw [a1.1 87 (by omega) (by omega) (by simp)]; exact k1, by rw [a1.2 14 (by omega) (by omega) (by simp)]; exact k9, by rw [a1.1 91 (by omega) (by omega) (by simp)]; exact k3, by rw [a1.2 16 (by omega) (by omega) (by simp)]; exact k10, by rw [a1.1 93 (by omega) (by omega) (by simp)]; exact k4, by rw [zuq_at]; exact a2⟩)⟩
theorem zGet {g : GgX7_readBlock} {G : zTxt} {i d p b H : Nat} {f : Nat → Nat} {N M A S n F C R W V q e : Nat} {o : Nat → Nat × Nat} {w : Nat → Nat} {Y Z : List Nat} {t0 u0 t u : zS} {hx : Int32} (h : zBB G i d p b H f N M A S n F C R W V q o w Y Z t0 u0) (hN : zBN i A H b S n F C R W V q) (hU : zUW G i (i + 1) d p b H f N M A S n F C R W V q n F C o w t0 u0 t u) (hd : d ≤ 40) (hS : S < 1000) (hH : zHd o S p e t0 hx) (he : e ≤ 39) (h0 : zR0 S 14 13 hx t u) : ∃ r t2 r' u2, bX7_readStatement_58 g 14 (Int32.ofNat S) t = some (r, t2) ∧ bX12_simple_15 (Int32.ofNat S) 13 u = some (r', u2) ∧ zSP G i d p b H f N M A S n F C R W V q o w Y Z e hx t0 u0 r t2 r' u2 := by
  have hN2 := hN
  obtain ⟨m1, m2, m3, m4, m5, m6, m7, m8⟩ := hN2
  have hl := zAt_lt hU.1.1
  obtain ⟨k1, k2, k3, k4, k5, k6, k7, k8, k9, k10, k11, k12, k13, k14, k15, k16⟩ := h0
  obtain ⟨t2, r, u2, a1, a2, a3⟩ := zSlotOp hU (by omega) (by omega) hS m8
  unfold bX7_readStatement_58 bX12_simple_15 mX7_readNames bX7_readNames_11
  rw [if_neg (by decide), if_neg (by decide), if_neg (by decide), if_neg (by decide), if_neg (by decide), if_neg (by decide), if_neg (by decide), a1, pl_bd, if_neg (by decide), if_neg (by decide), if_pos (by decide), pl_bd, if_neg (by decide), if_neg (by decide), if_neg (by decide), if_neg (by decide), if_neg (by decide), if_neg (by decide), a2, pl_bd, zn_wr (by omega) (by decide), if_neg (by decide), if_neg (by decide), if_neg (by decide), if_pos rfl]
  rcases a3 with ⟨n3, b0, b1, b2, b3⟩ | ⟨b1, _⟩
  · refine zTail h hN b1 (by omega) hS hH he (by rw [b2.1 101 (by omega) (by omega) (by simp)]; exact k8) (by rw [b2.1 99 (by omega) (by omega) (by simp)]; exact k7) (by rw [b2.1 107 (by omega) (by omega) (by simp)]; exact k16) (by rw [b2.1 87 (by omega) (by omega) (by simp), k1]; decide) ?_
    refine ⟨by rw [b2.1 89 (by omega) (by omega) (by simp), b2.2 15 (by omega) (by omega) (by simp)]; exact k2, Or.inr (Or.inr (Or.inr (Or.inr (Or.inl ⟨by rw [b2.1 87 (by omega) (by omega) (by simp)]; exact k1, by rw [b2.2 14 (by omega) (by omega) (by simp)]; exact k9, by rw [zuq_at]; exact b3, by rw [b2.1 93 (by omega) (by omega) (by simp)]; exact k4, by rw [b2.1 95 (by omega) (by omega) (by simp)]; exact k5, by rw [b2.1 97 (by omega) (by omega) (by simp)]; exact k6, by rw [b2.2 18 (by omega) (by omega) (by simp)]; exact k12⟩))))⟩
  · rw [zEc_218 (zEr_c b1.1), zEm_162 (by rw [zu_ne1 (by decide)]; exact zEr_m b1.1)]
    exact ⟨_, _, _, _, rfl, rfl, Or.inr (zSE_5 (zSE_zu b1 (by decide) rfl))⟩
theorem zSend {g : GgX7_readBlock} {G : zTxt} {i d p b H : Nat} {f : Nat → Nat} {N M A S n F C R W V q e : Nat} {o : Nat → Nat × Nat} {w : Nat → Nat} {Y Z : List Nat} {t0 u0 t u : zS} {hx : Int32} (h : zBB G i d p b H f N M A S n F C R W V q o w Y Z t0 u0) (hN : zBN i A H b S n F C R W V q) (hU : zUW G i (i + 1) d p b H f N M A S n F C R W V q n F C o w t0 u0 t u) (hd : d ≤ 40) (hS : S < 1000) (hH : zHd o S p e t0 hx) (he : e ≤ 39) (h0 : zR0 S 2 1 hx t u) : ∃ r t2 r' u2, bX7_readStatement_58 g 2 (Int32.ofNat S) t = some (r, t2) ∧ bX12_simple_15 (Int32.ofNat S) 1 u = some (r', u2) ∧ zSP G i d p b H f N M A S n F C R W V q o w Y Z e hx t0 u0 r t2 r' u2 := by
  have hN2 := hN
  obtain ⟨m1, m2, m3, m4, m5, m6, m7, m8⟩ := hN2
  have hl := zAt_lt hU.1.1
  obtain ⟨k1, k2, k3, k4, k5, k6, k7, k8, k9, k10, k11, k12, k13, k14, k15, k16⟩ := h0
  obtain ⟨t2, r, u2, a1, a2, a3⟩ := zSlotOp hU (by omega) (by omega) hS m8
  unfold bX7_readStatement_58 bX12_simple_15 mX7_readNames bX7_readNames_11
  rw [if_neg (by decide), if_neg (by decide), if_neg (by decide), if_neg (by decide), if_neg (by decide), if_neg (by decide), if_neg (by decide), a1, pl_bd, if_neg (by decide), if_pos (by decide), pl_bd, if_neg (by decide), if_pos rfl, if_neg (by decide), if_neg (by decide), if_neg (by decide), a2, pl_bd, zn_wr (by omega) (by decide), if_neg (by decide), if_pos rfl]
  rcases a3 with ⟨n3, b0, b1, b2, b3⟩ | ⟨b1, b1'⟩
  · refine zTail2 h hN b1 hd (by omega) (by omega) hS hH he (by rw [b2.1 101 (by omega) (by omega) (by simp)]; exact k8) (by rw [b2.1 99 (by omega) (by omega) (by simp)]; exact k7) (by rw [b2.1 107 (by omega) (by omega) (by simp)]; exact k16) (by rw [b2.1 87 (by omega) (by omega) (by simp), k1]; decide) (fun t3 u3 F3 C3 c1 c2 c3 => ?_)
    refine ⟨by rw [c1.1 89 (by omega) (by omega) (by simp), c1.2 15 (by omega) (by omega) (by simp), b2.1 89 (by omega) (by omega) (by simp), b2.2 15 (by omega) (by omega) (by simp)]; exact k2, Or.inl ⟨Or.inr ⟨by rw [c1.1 87 (by omega) (by omega) (by simp), b2.1 87 (by omega) (by omega) (by simp)]; exact k1, by rw [c1.2 14 (by omega) (by omega) (by simp), b2.2 14 (by omega) (by omega) (by simp)]; exact k9⟩, ?_, by rw [c1.1 93 (by omega) (by omega) (by simp), b2.1 93 (by omega) (by omega) (by simp)]; exact k4, by rw [zuq_at]; exact c2⟩⟩
    rw [zuq_at, c1.1 91 (by omega) (by omega) (by simp), c1.2 16 (by omega) (by omega) (by simp)]
    exact zSo_ext b3 c3
  · obtain ⟨t3, g1, g2⟩ := zEc_213 (g := g) (x := Int32.ofNat S) (zEr_c b1.1)
    obtain ⟨r3, u3, g3, g4⟩ := zSE_told (zSE_zu (k := 16) (j := S) (v := r) b1 (by decide) rfl) ⟨C, by rw [zu_ne1 (by decide)]; exact b1', by omega⟩
    rw [g1, g3, pl_bd, zn_wr (by omega) (by decide), zEm_162 (by rw [zu_ne1 (by decide)]; exact zEr_m g4.1)]
    exact ⟨_, _, _, _, rfl, rfl, Or.inr (zSE_5 (zSE_zu (zSE_c g4 g2) (by decide) rfl))⟩
theorem zSet {g : GgX7_readBlock} {G : zTxt} {i d p b H : Nat} {f : Nat → Nat} {N M A S n F C R W V q e : Nat} {o : Nat → Nat × Nat} {w : Nat → Nat} {Y Z : List Nat} {t0 u0 t u : zS} {hx : Int32} (h : zBB G i d p b H f N M A S n F C R W V q o w Y Z t0 u0) (hN : zBN i A H b S n F C R W V q) (hU : zUW G i i d p b H f N M A S n F C R W V q n F C o w t0 u0 t u) (hd : d ≤ 40) (hS : S < 1000) (hH : zHd o S p e t0 hx) (he : e ≤ 39) (h0 : zR0 S 17 0 hx t u) : ∃ r t2 r' u2, bX7_readStatement_58 g 17 (Int32.ofNat S) t = some (r, t2) ∧ bX12_simple_15 (Int32.ofNat S) 0 u = some (r', u2) ∧ zSP G i d p b H f N M A S n F C R W V q o w Y Z e hx t0 u0 r t2 r' u2 := by
  have hN2 := hN
  obtain ⟨m1, m2, m3, m4, m5, m6, m7, m8⟩ := hN2
  have hl := zAt_lt hU.1.1
  obtain ⟨k1, k2, k3, k4, k5, k6, k7, k8, k9, k10, k11, k12, k13, k14, k15, k16⟩ := h0
  obtain ⟨t2, r, u2, a1, a2, a3⟩ := zSlotOp hU (by omega) (by omega) hS m8
  unfold bX7_readStatement_58 bX12_simple_15 mX7_readNames bX7_readNames_11
  rw [if_neg (by decide), if_neg (by decide), if_neg (by decide), if_neg (by decide), if_neg (by decide), if_neg (by decide), if_neg (by decide), a1, pl_bd, if_pos rfl, if_neg (by decide), if_neg (by decide), if_neg (by decide), a2, pl_bd, zn_wr (by omega) (by decide), if_pos rfl]
  have fin : ∀ t3 u3, zSE H t0 u0 t3 u3 → u3 0 42 = Int32.ofNat C → ∃ r t4 r' u4, bX7_readStatement_213 g (Int32.ofNat S) t3 = some (r, t4) ∧ (zbd (mX12_told u3) fun r u1 => zwr u1 18 1600 (Int32.ofNat S) r fun u2 => bX12_simple_162 (Int32.ofNat S) u2) = some (r', u4) ∧ zSP G i d p b H f N M A S n F C R W V q o w Y Z e hx t0 u0 r t4 r' u4 := by
    intro t3 u3 hE h42
    obtain ⟨t4, g1, g2⟩ := zEc_213 (g := g) (x := Int32.ofNat S) (zEr_c hE.1)
    obtain ⟨r3, u4, g3, g4⟩ := zSE_told hE ⟨C, h42, by omega⟩
    rw [g1, g3, pl_bd, zn_wr (by omega) (by decide), zEm_162 (by rw [zu_ne1 (by decide)]; exact zEr_m g4.1)]
    exact ⟨_, _, _, _, rfl, rfl, Or.inr (zSE_5 (zSE_zu (zSE_c g4 g2) (by decide) rfl))⟩
  rcases a3 with ⟨n3, b0, b1, b2, b3⟩ | ⟨b1, b1'⟩
  · obtain ⟨t3, x, u3, c1, c2, c3, c4, c5⟩ := zUW_expect (c := 61) b1 (by omega) (by omega) (by decide)
    rw [zAt_sg b1.1.1 (c := 61) (by decide), pl_bd] at c2 ⊢
    rw [c1, pl_bd, pl_bd, if_pos rfl, c2, pl_bd]
    rcases c5 with ⟨_, d1, d2⟩ | ⟨_, d1, d2⟩
    · refine zTail2 h hN d1 hd (by omega) (by omega) hS hH he (by rw [d2.1 101 (by omega) (by omega) (by simp), b2.1 101 (by omega) (by omega) (by simp)]; exact k8) (by rw [d2.1 99 (by omega) (by omega) (by simp), b2.1 99 (by omega) (by omega) (by simp)]; exact k7) (by rw [d2.1 107 (by omega) (by omega) (by simp), b2.1 107 (by omega) (by omega) (by simp)]; exact k16) (by rw [d2.1 87 (by omega) (by omega) (by simp), b2.1 87 (by omega) (by omega) (by simp), k1]; decide) (fun t4 u4 F3 C3 e1 e2 e3 => ?_)
      refine ⟨by rw [e1.1 89 (by omega) (by omega) (by simp), e1.2 15 (by omega) (by omega) (by simp), d2.1 89 (by omega) (by omega) (by simp), d2.2 15 (by omega) (by omega) (by simp), b2.1 89 (by omega) (by omega) (by simp), b2.2 15 (by omega) (by omega) (by simp)]; exact k2, Or.inl ⟨Or.inl ⟨by rw [e1.1 87 (by omega) (by omega) (by simp), d2.1 87 (by omega) (by omega) (by simp), b2.1 87 (by omega) (by omega) (by simp)]; exact k1, by rw [e1.2 14 (by omega) (by omega) (by simp), d2.2 14 (by omega) (by omega) (by simp), b2.2 14 (by omega) (by omega) (by simp)]; exact k9⟩, ?_, by rw [e1.1 93 (by omega) (by omega) (by simp), d2.1 93 (by omega) (by omega) (by simp), b2.1 93 (by omega) (by omega) (by simp)]; exact k4, by rw [zuq_at]; exact e2⟩⟩
      rw [zuq_at, e1.1 91 (by omega) (by omega) (by simp), e1.2 16 (by omega) (by omega) (by simp), d2.1 91 (by omega) (by omega) (by simp), d2.2 16 (by omega) (by omega) (by simp)]
      exact zSo_ext (zSo_ext b3 (fun m hm hm2 => ⟨m, by rw [c3.1 39 (by decide)]; exact hm, Nat.le_refl _, hm2⟩)) e3
    · exact fin _ _ d1 d2
  · have hE : zSE H t0 u0 t2 (zu u2 16 S r) := zSE_zu b1 (by decide) rfl
    rw [zEc_expect (zEr_c b1.1) (by decide), pl_bd, pl_bd, if_pos rfl, zEm_sg (zEr_m hE.1), pl_bd, zEm_passes (zEr_m hE.1), pl_bd]
    exact fin _ _ (zSE_5 hE) (by rw [zu_ne2 (by decide), zu_ne1 (by decide)]; exact b1')
