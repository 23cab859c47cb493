/-! STATEMENTS that hold no others and make no process -/
def zSP (G : zTxt) (i d p b H : Nat) (f : Nat → Nat) (N M A S n F C R W V q : Nat) (o : Nat → Nat × Nat) (w : Nat → Nat) (Y Z : List Nat) (e : Nat) (hx : Int32) (t u : zS) (rc : Int32) (t2 : zS) (rm : Int32) (u2 : zS) : Prop :=
  (∃ i2 S2 n2 F2 C2 R2 W2 V2 q2 o2 w2, rc = Int32.ofNat S ∧ rm = Int32.ofNat S ∧ i + 3 ≤ i2 ∧ S < S2 ∧ zBB G i2 d p b H f N M A S2 n2 F2 C2 R2 W2 V2 q2 o2 w2 Y (S :: Z) t2 u2 ∧ zBX p b H S n F C R W V q S2 n2 F2 C2 R2 W2 V2 q2 o o2 w w2 t u t2 u2 ∧ zBF i S n F C R W V q i2 S2 n2 F2 C2 R2 W2 V2 q2 ∧ (o2 S = (e, p) ∧ o2 (10000 + S) = o (10000 + S)) ∧ t2 101 S = hx ∧ t2 99 S = -1 ∧ zFP zpR t t2 ∧ zFP zpM u u2) ∨ zSE H t u t2 u2
theorem zStm_fr {G : zTxt} {o : Nat → Nat × Nat} {w : Nat → Nat} {S F C R W V s : Nat} {t u t2 u2 : zS} (h : zStm G o w S F C R W V t u s) (hs : s < S) (ht : zSf t t2) (hu : zMf u u2) : zStm G o w S F C R W V t2 u2 s := by
  have r : ∀ k, k ≠ 5 → t2 k = t k := ht.1
  have g : ∀ k, k ≠ 0 → k ≠ 3 → k ≠ 4 → u2 k = u k := hu.1
  exact zStm_ext h hs (Nat.le_refl _) (Nat.le_refl _) (Nat.le_refl _) (Nat.le_refl _) (Nat.le_refl _) (Nat.le_refl _) (fun _ _ => rfl) (fun k hk => by rw [r k (by omega)]) (fun k hk => by rw [g k (by omega) (by omega) (by omega)]) (fun _ _ => by rw [r 101 (by decide)]) (fun k _ => ⟨by rw [r 75 (by decide)], by rw [r 77 (by decide)]⟩) (fun c _ => by rw [g 27 (by decide) (by decide) (by decide)]) (fun k _ => ⟨by rw [r 79 (by decide)], by rw [r 81 (by decide)], by rw [r 83 (by decide)]⟩) (fun k _ => ⟨by rw [g 25 (by decide) (by decide) (by decide)], by rw [g 26 (by decide) (by decide) (by decide)]⟩) (fun k _ hw => ⟨hw, by rw [r 109 (by decide)], by rw [r 111 (by decide)], by rw [r 115 (by decide)]⟩) (fun k _ => ⟨by rw [g 23 (by decide) (by decide) (by decide)], by rw [g 24 (by decide) (by decide) (by decide)]⟩) (fun m hm hm2 => ⟨m, by rw [r 39 (by decide)]; exact hm, Nat.le_refl _, hm2⟩)
theorem zEm_162 {u : zS} {x : Int32} (h : 0 ≤ u 0 9) : bX12_simple_162 x u = some (x, zu u 0 5 0) := by
  unfold bX12_simple_162
  rw [zEm_sg h, pl_bd, zEm_passes h, pl_bd]
theorem zEc_218 {g : GgX7_readBlock} {t : zS} {x : Int32} (h : zEc t) : bX7_readStatement_218 g x t = some (x, t) := by
  unfold bX7_readStatement_218
  rw [zEc_expect h (by decide), pl_bd]
theorem zEc_213 {g : GgX7_readBlock} {t : zS} {x : Int32} (h : zEc t) : ∃ t2, bX7_readStatement_213 g x t = some (x, t2) ∧ zEs t t2 := by
  obtain ⟨t2, a1, a2⟩ := zEs_formula (s := x) h
  unfold bX7_readStatement_213
  rw [a1, pl_bd, zEc_218 a2.1]
  exact ⟨t2, rfl, a2⟩
/-- ; behind a STATEMENT -/
theorem zTail {g : GgX7_readBlock} {G : zTxt} {i i2 d p b H : Nat} {f : Nat → Nat} {N M A S n F C R W V q n2 F2 C2 e : Nat} {o : Nat → Nat × Nat} {w : Nat → Nat} {Y Z : List Nat} {t0 u0 t u : zS} {hx : Int32} (h : zBB G i d p b H f N M A S n F C R W V q o w Y Z t0 u0) (hN : zBN i A H b S n F C R W V q) (hU : zUW G i i2 d p b H f N M A S n F C R W V q n2 F2 C2 o w t0 u0 t u) (hi : i + 2 ≤ i2) (hS : S < 1000) (hH : zHd o S p e t0 hx) (he : e ≤ 39) (h101 : t 101 S = hx) (h99 : t 99 S = -1) (h107 : t 107 S = 0) (h87 : ¬ (t 87 S = 8 ∨ t 87 S = 9)) (hst : zStm G (zuq o S (e, p)) w (S + 1) F2 C2 R W V t u S) :
    ∃ r t2 r' u2, bX7_readStatement_218 g (Int32.ofNat S) t = some (r, t2) ∧ bX12_simple_162 (Int32.ofNat S) u = some (r', u2) ∧ zSP G i d p b H f N M A S n F C R W V q o w Y Z e hx t0 u0 r t2 r' u2 := by
  obtain ⟨m1, m2, m3, m4, m5, m6, m7, m8⟩ := hN
  have hl := zAt_lt hU.1.1
  have e13 := hU.2.2.2.2.2.2.2.2.2.2.2.2.1
  have e14 := hU.2.2.2.2.2.2.2.2.2.2.2.2.2.1
  have e15 : n2 + i ≤ n + i2 := hU.2.2.2.2.2.2.2.2.2.2.2.2.2.2.1
  obtain ⟨t2, r, u2, r1, r2, r3, r4, r5⟩ := zUW_expect (c := 59) hU (by omega) (by omega) (by decide)
  have eM : bX12_simple_162 (Int32.ofNat S) u = some (Int32.ofNat S, u2) := by
    unfold bX12_simple_162
    rw [zAt_sg hU.1.1 (c := 59) (by decide), pl_bd] at r2
    rw [zAt_sg hU.1.1 (c := 59) (by decide), pl_bd, r2, pl_bd]
  unfold bX7_readStatement_218
  rw [r1, pl_bd]
  refine ⟨_, _, _, _, rfl, eM, ?_⟩
  rcases r5 with ⟨_, a1, a2⟩ | ⟨_, a1, _⟩
  · obtain ⟨c1, c2⟩ := zBB_simple h a1 m8 hS hH he (by rw [r3.1 101 (by decide)]; exact h101) (by rw [r3.1 107 (by decide)]; exact h107) (by rw [r3.1 87 (by decide)]; exact h87) (zStm_fr hst (by omega) r3 r4)
    exact Or.inl ⟨i2 + 1, S + 1, n2, F2, C2, R, W, V, q, _, _, rfl, rfl, by omega, by omega, c1, c2, ⟨by omega, by omega, by omega, by omega, by omega, by omega, by omega, by omega⟩, ⟨zuq_at _ _ _, zuq_ne (by omega)⟩, by rw [r3.1 101 (by decide)]; exact h101, by rw [r3.1 99 (by decide)]; exact h99, a1.2.2.2.2.2.2.2.2.2.2.2.2.2.2.2.1, a1.2.2.2.2.2.2.2.2.2.2.2.2.2.2.2.2⟩
  · exact Or.inr a1
/-- an EXPRESSION and ; -/
theorem zTail2 {g : GgX7_readBlock} {G : zTxt} {i i2 d p b H : Nat} {f : Nat → Nat} {N M A S n F C R W V q n2 F2 C2 e : Nat} {o : Nat → Nat × Nat} {w : Nat → Nat} {Y Z : List Nat} {t0 u0 t u : zS} {hx : Int32} (h : zBB G i d p b H f N M A S n F C R W V q o w Y Z t0 u0) (hN : zBN i A H b S n F C R W V q) (hU : zUW G i i2 d p b H f N M A S n F C R W V q n2 F2 C2 o w t0 u0 t u) (hd : d ≤ 40) (hi : i + 1 ≤ i2) (hC : C2 + 2 * i + 1 ≤ C + 2 * i2) (hS : S < 1000) (hH : zHd o S p e t0 hx) (he : e ≤ 39) (h101 : t 101 S = hx) (h99 : t 99 S = -1) (h107 : t 107 S = 0) (h87 : ¬ (t 87 S = 8 ∨ t 87 S = 9))
    (hst : ∀ t2 u2 F3 C3, zRS [95, 97] [18] S t u t2 u2 → zFm t2 u2 p F3 C3 (t2 95 S) (t2 97 S) (u2 18 S) → zGr t t2 p → zStm G (zuq o S (e, p)) w (S + 1) F3 C3 R W V t2 u2 S) :
    ∃ r t2 r' u2, bX7_readStatement_213 g (Int32.ofNat S) t = some (r, t2) ∧ (zbd (mX12_told u) fun r u1 => zwr u1 18 1600 (Int32.ofNat S) r fun u2 => bX12_simple_162 (Int32.ofNat S) u2) = some (r', u2) ∧ zSP G i d p b H f N M A S n F C R W V q o w Y Z e hx t0 u0 r t2 r' u2 := by
  have hN2 := hN
  obtain ⟨m1, m2, m3, m4, m5, m6, m7, m8⟩ := hN
  have hl := zAt_lt hU.1.1
  have e14 := hU.2.2.2.2.2.2.2.2.2.2.2.2.2.1
  have e15 : n2 + i ≤ n + i2 := hU.2.2.2.2.2.2.2.2.2.2.2.2.2.2.1
  obtain ⟨t2, r, u2, r1, r2, r3⟩ := zUW_told hU (by omega) hd hS m2 m3 m8 hC
  unfold bX7_readStatement_213
  rw [r1, pl_bd, r2, pl_bd, zn_wr (by omega) (by decide)]
  rcases r3 with ⟨i3, n3, F3, C3, a1, a2, a3, a4, a5⟩ | a1
  · have hl3 := zAt_lt a2.1.1
    have e15' : n3 + i ≤ n + i3 := a2.2.2.2.2.2.2.2.2.2.2.2.2.2.2.1
    refine zTail h hN2 a2 (by omega) hS hH he (by rw [a3.1 101 (by omega) (by omega) (by simp)]; exact h101) (by rw [a3.1 99 (by omega) (by omega) (by simp)]; exact h99) (by rw [a3.1 107 (by omega) (by omega) (by simp)]; exact h107) (by rw [a3.1 87 (by omega) (by omega) (by simp)]; exact h87) (hst _ _ _ _ a3 a4 (zGr_of hU.1.2.2.2.1 a2.1.2.2.2.1 a5 (by omega) (Nat.le_refl _) (fun j hj => ?_)))
    have y1 := hU.2.1.2.2.2.2.2.2.2.2.2.2.1 39 j hj
    have y2 := a2.2.1.2.2.2.2.2.2.2.2.2.2.1 39 j hj
    rw [y2, y1]
  · rw [zEc_218 (zEr_c a1.1), zEm_162 (by rw [zu_ne1 (by decide)]; exact zEr_m a1.1)]
    exact ⟨_, _, _, _, rfl, rfl, Or.inr (zSE_5 (zSE_zu a1 (by decide) rfl))⟩
