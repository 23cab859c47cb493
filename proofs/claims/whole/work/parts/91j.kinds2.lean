/-! recv, pass, take, pick -/
theorem zRecv {g : GgX7_readBlock} {G : zTxt} {i d p b H : Nat} {f : Nat → Nat} {N M A S n F C R W V q e : Nat} {o : Nat → Nat × Nat} {w : Nat → Nat} {Y Z : List Nat} {t0 u0 t u : zS} {hx kk m : Int32} (h : zBB G i d p b H f N M A S n F C R W V q o w Y Z t0 u0) (hN : zBN i A H b S n F C R W V q) (hU : zUW G i (i + 1) d p b H f N M A S n F C R W V q n F C o w t0 u0 t u) (hd : d ≤ 40) (hS : S < 1000) (hH : zHd o S p e t0 hx) (he : e ≤ 39) (hk : (kk = 3 ∧ m = 2) ∨ (kk = 4 ∧ m = 3) ∨ (kk = 5 ∧ m = 4)) (h0 : zR0 S kk m hx t u) : ∃ r t2 r' u2, bX7_readStatement_58 g kk (Int32.ofNat S) t = some (r, t2) ∧ bX12_simple_15 (Int32.ofNat S) m u = some (r', u2) ∧ zSP G i d p b H f N M A S n F C R W V q o w Y Z e hx t0 u0 r t2 r' u2 := by
  have hN2 := hN
  obtain ⟨m1, m2, m3, m4, m5, m6, m7, m8⟩ := hN2
  have hl := zAt_lt hU.1.1
  obtain ⟨k1, k2, k3, k4, k5, k6, k7, k8, k9, k10, k11, k12, k13, k14, k15, k16⟩ := h0
  have eC : bX7_readStatement_58 g kk (Int32.ofNat S) t = zbd (mX7_readSlot (Int32.ofNat S) t) fun _ t1 => zbd (mX7_readSecond (Int32.ofNat S) 0 t1) fun _ t2 => bX7_readStatement_218 g (Int32.ofNat S) t2 := by
    obtain ⟨t2, r, u2, a1, a2, a3⟩ := zSlotOp hU (by omega) (by omega) hS m8
    unfold bX7_readStatement_58 mX7_readNames bX7_readNames_11 bX7_readNames_50
    rcases hk with ⟨hk, _⟩ | ⟨hk, _⟩ | ⟨hk, _⟩
    · subst hk
      rw [if_neg (by decide), if_neg (by decide), if_neg (by decide), if_neg (by decide), if_neg (by decide), if_neg (by decide), if_neg (by decide), a1, pl_bd, pl_bd, if_neg (by decide), if_neg (by decide), if_neg (by decide), if_neg (by decide)]
      cases mX7_readSecond (Int32.ofNat S) 0 t2 with
      | none => rfl
      | some x => rfl
    · subst hk
      rw [if_neg (by decide), if_neg (by decide), if_neg (by decide), if_neg (by decide), if_neg (by decide), if_neg (by decide), if_neg (by decide), a1, pl_bd, pl_bd, if_neg (by decide), if_neg (by decide), if_neg (by decide), if_neg (by decide)]
      cases mX7_readSecond (Int32.ofNat S) 0 t2 with
      | none => rfl
      | some x => rfl
    · subst hk
      rw [if_neg (by decide), if_neg (by decide), if_neg (by decide), if_neg (by decide), if_neg (by decide), if_neg (by decide), if_neg (by decide), a1, pl_bd, pl_bd, if_neg (by decide), if_neg (by decide), if_neg (by decide), if_neg (by decide)]
      cases mX7_readSecond (Int32.ofNat S) 0 t2 with
      | none => rfl
      | some x => rfl
  have eM : bX12_simple_15 (Int32.ofNat S) m u = zbd (mX12_own u) fun r u1 => zwr u1 16 1600 (Int32.ofNat S) r fun u2 => zbd (mX12_own u2) fun r2 u3 => zwr u3 17 1600 (Int32.ofNat S) r2 fun u4 => bX12_simple_162 (Int32.ofNat S) u4 := by
    unfold bX12_simple_15
    rcases hk with ⟨_, hk⟩ | ⟨_, hk⟩ | ⟨_, hk⟩
    · subst hk; rfl
    · subst hk; rfl
    · subst hk; rfl
  have kR : ∀ t3 u3 : zS, t3 87 S = kk → u3 14 S = m → ((t3 87 S = 3 ∧ u3 14 S = 2) ∨ (t3 87 S = 4 ∧ u3 14 S = 3) ∨ (t3 87 S = 5 ∧ u3 14 S = 4)) := fun t3 u3 x1 x2 => by rw [x1, x2]; exact hk
  rw [eC, eM]
  obtain ⟨t2, r, u2, a1, a2, a3⟩ := zSlotOp hU (by omega) (by omega) hS m8
  rw [a1, pl_bd, a2, pl_bd, zn_wr (by omega) (by decide)]
  rcases a3 with ⟨n3, b0, b1, b2, b3⟩ | ⟨b1, _⟩
  · obtain ⟨t3, r3, u3, c1, c2, c3⟩ := zSecOp b1 (by omega) (by omega) hS m8
    rw [c1, pl_bd, c2, pl_bd, zn_wr (by omega) (by decide)]
    rcases c3 with ⟨n4, d0, d1, d2, d3⟩ | d1
    · refine zTail h hN d1 (by omega) hS hH he (by rw [d2.1 101 (by omega) (by omega) (by simp), b2.1 101 (by omega) (by omega) (by simp)]; exact k8) (by rw [d2.1 99 (by omega) (by omega) (by simp), b2.1 99 (by omega) (by omega) (by simp)]; exact k7) (by rw [d2.1 107 (by omega) (by omega) (by simp), b2.1 107 (by omega) (by omega) (by simp)]; exact k16) (by rw [d2.1 87 (by omega) (by omega) (by simp), b2.1 87 (by omega) (by omega) (by simp), k1]; rcases hk with q | q | q <;> rw [q.1] <;> decide) ?_
      refine ⟨by rw [d2.1 89 (by omega) (by omega) (by simp), d2.2 15 (by omega) (by omega) (by simp), b2.1 89 (by omega) (by omega) (by simp), b2.2 15 (by omega) (by omega) (by simp)]; exact k2, Or.inr (Or.inr (Or.inl ⟨kR _ _ (by rw [d2.1 87 (by omega) (by omega) (by simp), b2.1 87 (by omega) (by omega) (by simp)]; exact k1) (by rw [d2.2 14 (by omega) (by omega) (by simp), b2.2 14 (by omega) (by omega) (by simp)]; exact k9), ?_, by rw [zuq_at]; exact d3, by rw [d2.1 95 (by omega) (by omega) (by simp), b2.1 95 (by omega) (by omega) (by simp)]; exact k5, by rw [d2.1 97 (by omega) (by omega) (by simp), b2.1 97 (by omega) (by omega) (by simp)]; exact k6, by rw [d2.2 18 (by omega) (by omega) (by simp), b2.2 18 (by omega) (by omega) (by simp)]; exact k12⟩))⟩
      rw [zuq_at, d2.1 91 (by omega) (by omega) (by simp), d2.2 16 (by omega) (by omega) (by simp)]
      exact zSo_ext b3 (zGr_U b1 d1 d0 m8)
    · rw [zEc_218 (zEr_c d1.1), zEm_162 (by rw [zu_ne1 (by decide)]; exact zEr_m d1.1)]
      exact ⟨_, _, _, _, rfl, rfl, Or.inr (zSE_5 (zSE_zu d1 (by decide) rfl))⟩
  · have hE : zSE H t0 u0 t2 (zu u2 16 S r) := zSE_zu b1 (by decide) rfl
    have hE2 : zSE H t0 u0 t2 (zu (zu (zu u2 16 S r) 0 5 0) 17 S (-1)) := zSE_zu (zSE_5 hE) (by decide) rfl
    rw [zEs_second (zEr_c b1.1), pl_bd, zEc_218 (zEr_c b1.1), zEm_own (zEr_m hE.1), pl_bd, zn_wr (by omega) (by decide), zEm_162 (zEr_m hE2.1)]
    exact ⟨_, _, _, _, rfl, rfl, Or.inr (zSE_5 hE2)⟩
theorem zPick {g : GgX7_readBlock} {G : zTxt} {i d p b H : Nat} {f : Nat → Nat} {N M A S n F C R W V q e : Nat} {o : Nat → Nat × Nat} {w : Nat → Nat} {Y Z : List Nat} {t0 u0 t u : zS} {hx : Int32} (h : zBB G i d p b H f N M A S n F C R W V q o w Y Z t0 u0) (hN : zBN i A H b S n F C R W V q) (hU : zUW G i (i + 1) d p b H f N M A S n F C R W V q n F C o w t0 u0 t u) (hd : d ≤ 40) (hS : S < 1000) (hH : zHd o S p e t0 hx) (he : e ≤ 39) (h0 : zR0 S 6 5 hx t u) : ∃ r t2 r' u2, bX7_readStatement_58 g 6 (Int32.ofNat S) t = some (r, t2) ∧ bX12_simple_15 (Int32.ofNat S) 5 u = some (r', u2) ∧ zSP G i d p b H f N M A S n F C R W V q o w Y Z e hx t0 u0 r t2 r' u2 := by
  have hN2 := hN
  obtain ⟨m1, m2, m3, m4, m5, m6, m7, m8⟩ := hN2
  have hl := zAt_lt hU.1.1
  obtain ⟨k1, k2, k3, k4, k5, k6, k7, k8, k9, k10, k11, k12, k13, k14, k15, k16⟩ := h0
  obtain ⟨t2, r, u2, a1, a2, a3⟩ := zSlotOp hU (by omega) (by omega) hS m8
  have eM : bX12_simple_15 (Int32.ofNat S) 5 u = zbd (mX12_own u) fun r u1 => zwr u1 16 1600 (Int32.ofNat S) r fun u2 => zwr u2 17 1600 (Int32.ofNat S) (u2 0 8) fun u3 => if (u3 0 5) = 2 then bX12_simple_139 (Int32.ofNat S) 1 u3 else bX12_simple_139 (Int32.ofNat S) 0 u3 := rfl
  rw [eM]
  unfold bX7_readStatement_58 mX7_readNames bX7_readNames_11 bX7_readNames_50
  rw [if_neg (by decide), if_neg (by decide), if_neg (by decide), if_neg (by decide), if_neg (by decide), if_neg (by decide), if_neg (by decide), a1, pl_bd, if_neg (by decide), if_neg (by decide), if_neg (by decide), if_pos rfl, a2, pl_bd, zn_wr (by omega) (by decide), zn_wr (by omega) (by decide)]
  have tl : ∀ (t3 : zS), (zbd (zbd (some ((0 : Int32), t3)) fun _ t788 => some ((0 : Int32), t788)) fun _ t867 => if (6 : Int32) = 17 then bX7_readStatement_213 g (Int32.ofNat S) t867 else if (6 : Int32) = 2 then bX7_readStatement_213 g (Int32.ofNat S) t867 else if (6 : Int32) = 13 then bX7_readStatement_213 g (Int32.ofNat S) t867 else bX7_readStatement_218 g (Int32.ofNat S) t867) = bX7_readStatement_218 g (Int32.ofNat S) t3 := fun t3 => rfl
  rcases a3 with ⟨n3, b0, b1, b2, b3⟩ | ⟨b1, _⟩
  · have hnm := zAt_nm b1.1.1
    have hm1 := zAt_m1 b1.1.1
    have w5 : ∀ j v, zu (zu u2 16 S r) 17 S v 0 j = zu u2 16 S r 0 j := fun j v => zu_ne1 (by decide)
    unfold mX7_readSecond bX7_readSecond_44 bX12_simple_139 mX12_passes bX12_passes_11
    by_cases q17 : t2 5 9 = 17
    · obtain ⟨v, x, v1, v2, v3, v4, v5⟩ := zAt_nmv b1.1.1 q17
      have c1 := zUW_mu (k := 17) (v := zu u2 16 S r 0 8) (zUW_zu (k := 93) (v := t2 5 11) b1 (by omega)) (by omega)
      obtain ⟨t3, u3, d1, d2, d3, d4, d5, d6⟩ := zUW_step c1 (by rw [zu_ne1 (by decide), q17]; decide)
      rw [if_pos q17, if_neg pl_10, zn_set hS (by decide), pl_bd, d1, pl_bd, tl, if_pos (by rw [w5]; exact hnm.mpr q17), if_neg (by rw [w5, hm1.2]; decide), if_neg pl_10, d2, pl_bd, pl_bd]
      refine zTail h hN d3 (by omega) hS hH he ?_ ?_ (by rw [d4.1 107 (by omega) (by omega) (by simp), zu_ne1 (by decide), b2.1 107 (by omega) (by omega) (by simp)]; exact k16) (by rw [d4.1 87 (by omega) (by omega) (by simp), zu_ne1 (by decide), b2.1 87 (by omega) (by omega) (by simp), k1]; decide) ?_
      · rw [d4.1 101 (by omega) (by omega) (by simp), zu_ne1 (by decide), b2.1 101 (by omega) (by omega) (by simp)]; exact k8
      · rw [d4.1 99 (by omega) (by omega) (by simp), zu_ne1 (by decide), b2.1 99 (by omega) (by omega) (by simp)]; exact k7
      · refine ⟨?_, Or.inr (Or.inr (Or.inr (Or.inl ⟨?_, ?_, ?_, ?_, ?_, ?_, ?_⟩)))⟩
        · rw [d4.1 89 (by omega) (by omega) (by simp), d4.2 15 (by omega) (by omega) (by simp), zu_ne1 (by decide), zu_ne1 (by decide), b2.1 89 (by omega) (by omega) (by simp), b2.2 15 (by omega) (by omega) (by simp)]; exact k2
        · rw [d4.1 87 (by omega) (by omega) (by simp), zu_ne1 (by decide), b2.1 87 (by omega) (by omega) (by simp)]; exact k1
        · rw [d4.2 14 (by omega) (by omega) (by simp), zu_ne1 (by decide), b2.2 14 (by omega) (by omega) (by simp)]; exact k9
        · rw [zuq_at, d4.1 91 (by omega) (by omega) (by simp), d4.2 16 (by omega) (by omega) (by simp), zu_ne1 (by decide), zu_ne1 (k' := 16) (k := 17) (by decide)]
          exact zSo_ext b3 (fun m hm hm2 => ⟨m, by rw [d5.1 39 (by decide), zu_ne1 (by decide)]; exact hm, Nat.le_refl _, hm2⟩)
        · rw [d4.1 93 (by omega) (by omega) (by simp), d4.2 17 (by omega) (by omega) (by simp), zu_same, zu_same]
          exact ⟨v, x, v4, v1, v2, v5⟩
        · rw [d4.1 95 (by omega) (by omega) (by simp), zu_ne1 (by decide), b2.1 95 (by omega) (by omega) (by simp)]; exact k5
        · rw [d4.1 97 (by omega) (by omega) (by simp), zu_ne1 (by decide), b2.1 97 (by omega) (by omega) (by simp)]; exact k6
        · rw [d4.2 18 (by omega) (by omega) (by simp), zu_ne1 (by decide), b2.2 18 (by omega) (by omega) (by simp)]; exact k12
    · have c1 := zUW_mu (k := 17) (v := zu u2 16 S r 0 8) b1 (by omega)
      obtain ⟨t3, u3, d1, d2, d3⟩ := zEB_no (cb := 6300) c1.1 (by omega)
      have hE := zSE_ofU c1 (by omega) d3 (by omega)
      rw [if_neg q17, d1, pl_bd, tl, if_neg (fun x => q17 (hnm.mp (by rw [← w5]; exact x))), if_neg (by rw [w5, hm1.2]; decide), if_pos rfl, d2, pl_bd, pl_bd, zEc_218 (zEr_c hE.1), zEm_162 (zEr_m hE.1)]
      exact ⟨_, _, _, _, rfl, rfl, Or.inr (zSE_5 hE)⟩
  · have hE : zSE H t0 u0 t2 (zu (zu u2 16 S r) 17 S (zu u2 16 S r 0 8)) := zSE_zu (zSE_zu b1 (by decide) rfl) (by decide) rfl
    rw [zEs_second (zEr_c b1.1), tl, zEc_218 (zEr_c b1.1)]
    unfold bX12_simple_139
    have fin : ∀ y : Int32, (zbd (mX12_passes y (zu (zu u2 16 S r) 17 S (zu u2 16 S r 0 8))) fun _ t3065 => bX12_simple_162 (Int32.ofNat S) t3065) = some (Int32.ofNat S, zu (zu (zu (zu u2 16 S r) 17 S (zu u2 16 S r 0 8)) 0 5 0) 0 5 0) := fun y => by
      rw [zEm_passes (zEr_m hE.1), pl_bd, zEm_162 (zEr_m (zSE_5 hE).1)]
    rw [fin 1, fin 0, ite_self]
    exact ⟨_, _, _, _, rfl, rfl, Or.inr (zSE_5 (zSE_5 hE))⟩
