/-! CHECK: rows compared -/
/-- EQUAL states, or none -/
def zRe (D : zCo) (N : Nat) (t : zS) (x y : Int32) : Prop := (x = -1 ∧ y = -1) ∨ ∃ a b, zV N t a ∧ zV N t b ∧ x = Int32.ofNat a ∧ y = Int32.ofNat b ∧ zEq D a b
theorem zRe_of {N : Nat} {t t2 : zS} {D : zCo} {x y : Int32} (tr : zTr t t2) (h : zRe D N t x y) : zRe D N t2 x y := by
  rcases h with h | ⟨a, b, h1, h2, h3⟩
  · exact Or.inl h
  · exact Or.inr ⟨a, b, (zV_of tr _).mpr h1, (zV_of tr _).mpr h2, h3⟩
theorem zRs_of {N : Nat} {f : Nat → Nat} {t t2 : zS} {x y : Int32} (tr : zTr t t2) (h : zRs (zD t) N t f x y) : zRs (zD t2) N t2 f x y := by
  rw [zD_of tr]
  rcases h with h | ⟨a, b, h1, h2, h3⟩
  · exact Or.inl h
  · exact Or.inr ⟨a, b, (zV_of tr _).mpr h1, (zV_of tr _).mpr h2, h3⟩
/-- one pair of states -/
theorem zPair {G : zTxt} {f : Nat → Nat} {N M P A T Q Pa bb S F C R W V : Nat} {o : Nat → Nat × Nat} {w : Nat → Nat} {t u : zS} {x y x' y' : Int32} (hx : zCx G f N M P A T Q Pa bb S F C R W V o w t u) (h1 : zRs (zD t) N t f x x') (h2 : zRs (zD t) N t f y y') : (x < 0 ∧ y < 0 ∧ x' < 0 ∧ y' < 0 ∧ zRe (zD t) N t x y) ∨ (x < 0 ∧ ¬ y < 0 ∧ x' < 0 ∧ ¬ y' < 0 ∧ ¬ zRe (zD t) N t x y) ∨ (¬ x < 0 ∧ y < 0 ∧ ¬ x' < 0 ∧ y' < 0 ∧ ¬ zRe (zD t) N t x y) ∨ (¬ x < 0 ∧ ¬ y < 0 ∧ ¬ x' < 0 ∧ ¬ y' < 0 ∧ ∃ t2 u2, zFc t t2 ∧ zKp N t2 ∧ zFm2 u u2 ∧ ((mX2_equal x y t = some (1, t2) ∧ mX12_areEqual x' y' u = some (1, u2) ∧ zRe (zD t) N t x y) ∨ (mX2_equal x y t = some (0, t2) ∧ mX12_areEqual x' y' u = some (0, u2) ∧ ¬ zRe (zD t) N t x y))) := by
  have hg := hx.1
  rcases zRs_neg hg h1 with ⟨a1, a2, a3, a4, a5, a6⟩ | ⟨a1, a2, a3, a4, a, a', v1, v2, v3, v4, v5, v6⟩
  · rcases zRs_neg hg h2 with ⟨b1, b2, b3, b4, b5, b6⟩ | ⟨b1, b2, b3, b4, b⟩
    · exact Or.inl ⟨a1, b1, a2, b2, Or.inl ⟨a5, b5⟩⟩
    · refine Or.inr (Or.inl ⟨a1, b1, a2, b2, fun q => ?_⟩)
      rcases q with q | ⟨c, e, q1, q2, q3, _⟩
      · rw [q.2] at b1; exact b1 (by decide)
      · rw [q3] at a1; exact absurd a1 (zn_neg (by have := zV_lt hg q1; omega))
  · rcases zRs_neg hg h2 with ⟨b1, b2, b3, b4, b5, b6⟩ | ⟨b1, b2, b3, b4, b, b', w1, w2, w3, w4, w5, w6⟩
    · refine Or.inr (Or.inr (Or.inl ⟨a1, b1, a2, b2, fun q => ?_⟩))
      rcases q with q | ⟨c, e, q1, q2, q3, q4, _⟩
      · rw [q.1] at a1; exact a1 (by decide)
      · rw [q4] at b1; exact absurd b1 (zn_neg (by have := zV_lt hg q2; omega))
    · refine Or.inr (Or.inr (Or.inr ⟨a1, b1, a2, b2, ?_⟩))
      obtain ⟨t2, t2K, t2F, t2E⟩ := zEqual (o1 := a) (o2 := b) hg hx.2.1 hx.2.2.1 v1.1 w1.1
      obtain ⟨u2, u2F, u2E⟩ := zEqualM (o1 := a') (o2 := b') hg v2.1 w2.1
      rw [zV_self v1, zV_self w1] at t2E
      rw [zV_self v2, zV_self w2] at u2E
      have same : zEq (zD t) a b ↔ zEq (zD t) a' b' := ⟨fun q => zEqv_eq.tr _ _ _ (zEqv_eq.sy _ _ v4) (zEqv_eq.tr _ _ _ q w4), fun q => zEqv_eq.tr _ _ _ v4 (zEqv_eq.tr _ _ _ q (zEqv_eq.sy _ _ w4))⟩
      have la := zV_lt hg v1
      have lb := zV_lt hg w1
      have iff : zRe (zD t) N t x y ↔ zEq (zD t) a b := by
        constructor
        · intro q
          rcases q with q | ⟨c, e, q1, q2, q3, q4, q5⟩
          · rw [q.1] at a1; exact absurd (by decide) a1
          · rw [v5] at q3
            rw [w5] at q4
            have lc := zV_lt hg q1
            have le := zV_lt hg q2
            have e1 := (zn_inj (by omega) (by omega)).mp q3
            have e2 := (zn_inj (by omega) (by omega)).mp q4
            rw [e1, e2]; exact q5
        · intro q
          exact Or.inr ⟨a, b, v1, w1, v5, w5, q⟩
      refine ⟨t2, u2, t2F, t2K, u2F, ?_⟩
      rw [v5, v6, w5, w6]
      rw [v5, w5] at iff
      rcases t2E with ⟨t2E, te⟩ | ⟨t2E, te⟩
      · rcases u2E with ⟨u2E, ue⟩ | ⟨u2E, ue⟩
        · exact Or.inl ⟨t2E, u2E, iff.mpr te⟩
        · exact absurd (same.mp te) ue
      · rcases u2E with ⟨u2E, ue⟩ | ⟨u2E, ue⟩
        · exact absurd (same.mpr ue) te
        · exact Or.inr ⟨t2E, u2E, fun q => te (iff.mp q)⟩
/-- the same, the reference asking the other way round -/
theorem zPairS {G : zTxt} {f : Nat → Nat} {N M P A T Q Pa bb S F C R W V : Nat} {o : Nat → Nat × Nat} {w : Nat → Nat} {t u : zS} {x y x' y' : Int32} (hx : zCx G f N M P A T Q Pa bb S F C R W V o w t u) (h1 : zRs (zD t) N t f x x') (h2 : zRs (zD t) N t f y y') : (x < 0 ∧ y < 0 ∧ x' < 0 ∧ y' < 0 ∧ zRe (zD t) N t x y) ∨ (x < 0 ∧ ¬ y < 0 ∧ x' < 0 ∧ ¬ y' < 0 ∧ ¬ zRe (zD t) N t x y) ∨ (¬ x < 0 ∧ y < 0 ∧ ¬ x' < 0 ∧ y' < 0 ∧ ¬ zRe (zD t) N t x y) ∨ (¬ x < 0 ∧ ¬ y < 0 ∧ ¬ x' < 0 ∧ ¬ y' < 0 ∧ ∃ t2 u2, zFc t t2 ∧ zKp N t2 ∧ zFm2 u u2 ∧ ((mX2_equal x y t = some (1, t2) ∧ mX12_areEqual y' x' u = some (1, u2) ∧ zRe (zD t) N t x y) ∨ (mX2_equal x y t = some (0, t2) ∧ mX12_areEqual y' x' u = some (0, u2) ∧ ¬ zRe (zD t) N t x y))) := by
  have hg := hx.1
  rcases zRs_neg hg h1 with ⟨a1, a2, a3, a4, a5, a6⟩ | ⟨a1, a2, a3, a4, a, a', v1, v2, v3, v4, v5, v6⟩
  · rcases zRs_neg hg h2 with ⟨b1, b2, b3, b4, b5, b6⟩ | ⟨b1, b2, b3, b4, b⟩
    · exact Or.inl ⟨a1, b1, a2, b2, Or.inl ⟨a5, b5⟩⟩
    · refine Or.inr (Or.inl ⟨a1, b1, a2, b2, fun q => ?_⟩)
      rcases q with q | ⟨c, e, q1, q2, q3, _⟩
      · rw [q.2] at b1; exact b1 (by decide)
      · rw [q3] at a1; exact absurd a1 (zn_neg (by have := zV_lt hg q1; omega))
  · rcases zRs_neg hg h2 with ⟨b1, b2, b3, b4, b5, b6⟩ | ⟨b1, b2, b3, b4, b, b', w1, w2, w3, w4, w5, w6⟩
    · refine Or.inr (Or.inr (Or.inl ⟨a1, b1, a2, b2, fun q => ?_⟩))
      rcases q with q | ⟨c, e, q1, q2, q3, q4, _⟩
      · rw [q.1] at a1; exact a1 (by decide)
      · rw [q4] at b1; exact absurd b1 (zn_neg (by have := zV_lt hg q2; omega))
    · refine Or.inr (Or.inr (Or.inr ⟨a1, b1, a2, b2, ?_⟩))
      obtain ⟨t2, t2K, t2F, t2E⟩ := zEqual (o1 := a) (o2 := b) hg hx.2.1 hx.2.2.1 v1.1 w1.1
      obtain ⟨u2, u2F, u2E⟩ := zEqualM (o1 := b') (o2 := a') hg w2.1 v2.1
      rw [zV_self v1, zV_self w1] at t2E
      rw [zV_self w2, zV_self v2] at u2E
      have same : zEq (zD t) a b ↔ zEq (zD t) b' a' := ⟨fun q => zEqv_eq.sy _ _ (zEqv_eq.tr _ _ _ (zEqv_eq.sy _ _ v4) (zEqv_eq.tr _ _ _ q w4)), fun q => zEqv_eq.tr _ _ _ v4 (zEqv_eq.tr _ _ _ (zEqv_eq.sy _ _ q) (zEqv_eq.sy _ _ w4))⟩
      have la := zV_lt hg v1
      have lb := zV_lt hg w1
      have iff : zRe (zD t) N t x y ↔ zEq (zD t) a b := by
        constructor
        · intro q
          rcases q with q | ⟨c, e, q1, q2, q3, q4, q5⟩
          · rw [q.1] at a1; exact absurd (by decide) a1
          · rw [v5] at q3
            rw [w5] at q4
            have lc := zV_lt hg q1
            have le := zV_lt hg q2
            have e1 := (zn_inj (by omega) (by omega)).mp q3
            have e2 := (zn_inj (by omega) (by omega)).mp q4
            rw [e1, e2]; exact q5
        · intro q
          exact Or.inr ⟨a, b, v1, w1, v5, w5, q⟩
      refine ⟨t2, u2, t2F, t2K, u2F, ?_⟩
      rw [v5, v6, w5, w6]
      rw [v5, w5] at iff
      rcases t2E with ⟨t2E, te⟩ | ⟨t2E, te⟩
      · rcases u2E with ⟨u2E, ue⟩ | ⟨u2E, ue⟩
        · exact Or.inl ⟨t2E, u2E, iff.mpr te⟩
        · exact absurd (same.mp te) ue
      · rcases u2E with ⟨u2E, ue⟩ | ⟨u2E, ue⟩
        · exact absurd (same.mpr ue) te
        · exact Or.inr ⟨t2E, u2E, fun q => te (iff.mp q)⟩
/-- the class's step -/
theorem pl_sameC {a0 j n fu : Nat} {t : zS} (h5 : t 6 5 = Int32.ofNat n) (hj : j < n) (hn : n ≤ 1500) (hA : a0 + n ≤ 80000) : lX1_isSame_2 (fu + 1) (Int32.ofNat a0) (Int32.ofNat j) t = if t 58 j < 0 then if t 58 (a0 + j) < 0 then lX1_isSame_2 fu (Int32.ofNat a0) (Int32.ofNat (j + 1)) t else some (0, t) else if t 58 (a0 + j) < 0 then some (0, t) else zbd (mX2_equal (t 58 j) (t 58 (a0 + j)) t) fun r t2 => if r = 0 then some (0, t2) else lX1_isSame_2 fu (Int32.ofNat a0) (Int32.ofNat (j + 1)) t2 := by
  show bX1_isSame_2 (lX1_isSame_2 fu) _ _ t = _
  unfold bX1_isSame_2 bX1_isSame_40 bX1_isSame_50 bX1_isSame_72
  rw [h5, if_neg (show ¬ Int32.ofNat n ≤ Int32.ofNat j by rw [zn_le (by omega) (by omega)]; omega), show mX5_get 57 80000 (Int32.ofNat j) t = some (t 58 j, t) from zn_get (by omega) (by decide), pl_bd, zn_add, show mX5_get 57 80000 (Int32.ofNat (a0 + j)) t = some (t 58 (a0 + j), t) from zn_get (by omega) (by decide), pl_bd]
  have n01 : ¬ (0 : Int32) = 1 := by decide
  have n10 : ¬ (1 : Int32) = 0 := by decide
  simp only [pl_let, zn_1]
  by_cases c1 : t 58 j < 0
  · by_cases c2 : t 58 (a0 + j) < 0
    · simp only [c1, c2, Int32.not_le.mpr c1, Int32.not_le.mpr c2, if_true, if_false, n01, n10]
    · simp only [c1, c2, Int32.not_le.mpr c1, Int32.not_lt.mp c2, if_true, if_false, n01, n10]
  · by_cases c2 : t 58 (a0 + j) < 0
    · simp only [c1, c2, Int32.not_lt.mp c1, Int32.not_le.mpr c2, if_true, if_false, n01, n10]
    · simp only [c1, c2, Int32.not_lt.mp c1, Int32.not_lt.mp c2, if_true, if_false, n01, n10]
theorem zKept {G : zTxt} {f : Nat → Nat} {N M P A T Q Pa bb S F C R W V n d q a0 kp : Nat} {o : Nat → Nat × Nat} {w : Nat → Nat} {t u : zS} (hx : zCx G f N M P A T Q Pa bb S F C R W V o w t u) (h5 : t 6 5 = Int32.ofNat n) (hn : n ≤ 1500) (hA : a0 + n ≤ 80000) (hd : d ≤ 42) (hkp : kp + n ≤ 66000) (own : ∀ v : zS, v 31 = u 31 → v 0 68 = u 0 68 → mX12_ownMany (v 0 68) v = some (Int32.ofNat n, v)) (hp : ∀ k, k < n → zRs (zD t) N t f (t 58 k) (u 42 (1500 * (d + 1) + k))) (hq : ∀ k, k < n → zRs (zD t) N t f (t 58 (a0 + k)) (u 43 (kp + k))) : ∃ b t2 u2, mX1_isSame (Int32.ofNat a0) t = some (b, t2) ∧ mX12_isKept (Int32.ofNat (d + 1)) (Int32.ofNat kp) u = some (b, u2) ∧ zFc t t2 ∧ zKp N t2 ∧ zFm2 u u2 ∧ ((b = 1 ∧ ∀ k, k < n → zRe (zD t) N t (t 58 k) (t 58 (a0 + k))) ∨ (b = 0 ∧ ∃ k, k < n ∧ ¬ zRe (zD t) N t (t 58 k) (t 58 (a0 + k)))) := by
  have stop : ∀ (j fv : Nat) (v : zS), v 31 = u 31 → v 0 68 = u 0 68 → lX12_isKept_5 (fv + 1) (Int32.ofNat (d + 1)) (Int32.ofNat kp) 0 (Int32.ofNat j) v = some (0, v) := fun j fv v e1 e2 => by
    show bX12_isKept_5 _ (Int32.ofNat (d + 1)) (Int32.ofNat kp) 0 _ v = _
    unfold bX12_isKept_5
    rw [own v e1 e2, pl_bd]
    by_cases c : Int32.ofNat n ≤ Int32.ofNat j
    · rw [if_pos c]; rfl
    · rw [if_neg c, if_pos rfl]; rfl
  have loop : ∀ (e j fu fv : Nat) (t1 u1 : zS), e + j = n → zFc t t1 → zKp N t1 → zFm2 u u1 → (∀ k, k < j → zRe (zD t) N t (t 58 k) (t 58 (a0 + k))) → ∃ b t2 u2, lX1_isSame_2 (fu + e + 1) (Int32.ofNat a0) (Int32.ofNat j) t1 = some (b, t2) ∧ lX12_isKept_5 (fv + e + 2) (Int32.ofNat (d + 1)) (Int32.ofNat kp) 1 (Int32.ofNat j) u1 = some (b, u2) ∧ zFc t t2 ∧ zKp N t2 ∧ zFm2 u u2 ∧ ((b = 1 ∧ ∀ k, k < n → zRe (zD t) N t (t 58 k) (t 58 (a0 + k))) ∨ (b = 0 ∧ ∃ k, k < n ∧ ¬ zRe (zD t) N t (t 58 k) (t 58 (a0 + k)))) := by
    intro e
    induction e with
    | zero =>
      intro j fu fv t1 u1 he hF hK hM hno
      refine ⟨1, t1, u1, ?_, ?_, hF, hK, hM, Or.inl ⟨rfl, fun k hk => hno k (by omega)⟩⟩
      · show bX1_isSame_2 _ _ _ t1 = _
        unfold bX1_isSame_2
        rw [hF.2 6 (by decide), h5, if_pos ((zn_le (by omega) (by omega)).mpr (by omega))]
      · show bX12_isKept_5 _ (Int32.ofNat (d + 1)) (Int32.ofNat kp) 1 _ u1 = _
        unfold bX12_isKept_5
        rw [own u1 (hM.2 31 (by decide)) (hM.1 68 (by decide)), pl_bd, if_pos ((zn_le (by omega) (by omega)).mpr (by omega))]
        rfl
    | succ e ih =>
      intro j fu fv t1 u1 he hF hK hM hno
      have hx1 := zCx_of hx (zCf_c hF) (zCm_m hM) hK
      have tr := zTr_c hF
      have eD := zD_of tr
      have r58 : t1 58 = t 58 := hF.2 58 (by decide)
      have r42 : u1 42 = u 42 := hM.2 42 (by decide)
      have r43 : u1 43 = u 43 := hM.2 43 (by decide)
      have eM : lX12_isKept_5 (fv + (e + 1) + 2) (Int32.ofNat (d + 1)) (Int32.ofNat kp) 1 (Int32.ofNat j) u1 = if u1 42 (1500 * (d + 1) + j) < 0 then if u1 43 (kp + j) < 0 then lX12_isKept_5 (fv + e + 2) (Int32.ofNat (d + 1)) (Int32.ofNat kp) 1 (Int32.ofNat (j + 1)) u1 else lX12_isKept_5 (fv + e + 2) (Int32.ofNat (d + 1)) (Int32.ofNat kp) 0 (Int32.ofNat (j + 1)) u1 else if u1 43 (kp + j) < 0 then lX12_isKept_5 (fv + e + 2) (Int32.ofNat (d + 1)) (Int32.ofNat kp) 0 (Int32.ofNat (j + 1)) u1 else zbd (mX12_areEqual (u1 42 (1500 * (d + 1) + j)) (u1 43 (kp + j)) u1) fun r v => if r = 0 then lX12_isKept_5 (fv + e + 2) (Int32.ofNat (d + 1)) (Int32.ofNat kp) 0 (Int32.ofNat (j + 1)) v else lX12_isKept_5 (fv + e + 2) (Int32.ofNat (d + 1)) (Int32.ofNat kp) 1 (Int32.ofNat (j + 1)) v := by
        show bX12_isKept_5 (lX12_isKept_5 (fv + e + 2)) (Int32.ofNat (d + 1)) (Int32.ofNat kp) 1 _ u1 = _
        unfold bX12_isKept_5 bX12_isKept_80 bX12_isKept_81
        rw [own u1 (hM.2 31 (by decide)) (hM.1 68 (by decide)), pl_bd, if_neg (show ¬ Int32.ofNat n ≤ Int32.ofNat j by rw [zn_le (by omega) (by omega)]; omega), if_neg pl_10, pl_channel (by omega) (by omega), pl_bd, zn_add, zn_rd (by omega) (by decide)]
        simp only [pl_let, zn_1]
        by_cases c1 : u1 42 (1500 * (d + 1) + j) < 0
        · by_cases c2 : u1 43 (kp + j) < 0
          · simp only [c1, c2, Int32.not_le.mpr c1, Int32.not_le.mpr c2, if_true, if_false]
          · simp only [c1, c2, Int32.not_le.mpr c1, Int32.not_lt.mp c2, if_true, if_false]
        · by_cases c2 : u1 43 (kp + j) < 0
          · simp only [c1, c2, Int32.not_lt.mp c1, Int32.not_le.mpr c2, if_true, if_false]
          · simp only [c1, c2, Int32.not_lt.mp c1, Int32.not_lt.mp c2, if_true, if_false]
      rw [show fu + (e + 1) + 1 = fu + e + 1 + 1 by omega, pl_sameC (by rw [hF.2 6 (by decide)]; exact h5) (by omega) hn hA, eM, r58]
      have st : ∀ (v : zS), zFm2 u v → lX12_isKept_5 (fv + e + 2) (Int32.ofNat (d + 1)) (Int32.ofNat kp) 0 (Int32.ofNat (j + 1)) v = some (0, v) := fun v hv => stop (j + 1) (fv + e + 1) v (hv.2 31 (by decide)) (hv.1 68 (by decide))
      have next : ∀ (t2 u2 : zS), zFc t t2 → zKp N t2 → zFm2 u u2 → zRe (zD t) N t (t 58 j) (t 58 (a0 + j)) → ∃ b t3 u3, lX1_isSame_2 (fu + e + 1) (Int32.ofNat a0) (Int32.ofNat (j + 1)) t2 = some (b, t3) ∧ lX12_isKept_5 (fv + e + 2) (Int32.ofNat (d + 1)) (Int32.ofNat kp) 1 (Int32.ofNat (j + 1)) u2 = some (b, u3) ∧ zFc t t3 ∧ zKp N t3 ∧ zFm2 u u3 ∧ ((b = 1 ∧ ∀ k, k < n → zRe (zD t) N t (t 58 k) (t 58 (a0 + k))) ∨ (b = 0 ∧ ∃ k, k < n ∧ ¬ zRe (zD t) N t (t 58 k) (t 58 (a0 + k)))) := fun t2 u2 q1 q2 q3 q4 => ih (j + 1) fu fv t2 u2 (by omega) q1 q2 q3 (fun k hk => by
        by_cases ek : k = j
        · rw [ek]; exact q4
        · exact hno k (by omega))
      have h1 := zRs_of tr (hp j (by omega))
      have h2 := zRs_of tr (hq j (by omega))
      have re : zRe (zD t1) N t1 (t 58 j) (t 58 (a0 + j)) ↔ zRe (zD t) N t (t 58 j) (t 58 (a0 + j)) := by
        rw [eD]
        exact ⟨fun q => by
          rcases q with q | ⟨a, b, q1, q2, q3⟩
          · exact Or.inl q
          · exact Or.inr ⟨a, b, (zV_of tr _).mp q1, (zV_of tr _).mp q2, q3⟩, fun q => zRe_of tr q⟩
      rw [r42, r43]
      rcases zPair hx1 h1 h2 with ⟨a1, a2, a3, a4, a5⟩ | ⟨a1, a2, a3, a4, a5⟩ | ⟨a1, a2, a3, a4, a5⟩ | ⟨a1, a2, a3, a4, t2, u2, b1, b2, b3, b4⟩
      · rw [if_pos a1, if_pos a2, if_pos a3, if_pos a4]
        exact next t1 u1 hF hK hM (re.mp a5)
      · rw [if_pos a1, if_neg a2, if_pos a3, if_neg a4, st u1 hM]
        exact ⟨0, t1, u1, rfl, rfl, hF, hK, hM, Or.inr ⟨rfl, j, by omega, fun q => a5 (re.mpr q)⟩⟩
      · rw [if_neg a1, if_pos a2, if_neg a3, if_pos a4, st u1 hM]
        exact ⟨0, t1, u1, rfl, rfl, hF, hK, hM, Or.inr ⟨rfl, j, by omega, fun q => a5 (re.mpr q)⟩⟩
      · rw [if_neg a1, if_neg a2, if_neg a3, if_neg a4]
        have f2 := zFc_trans hF b1
        have m2 := zFm2_trans hM b3
        rcases b4 with ⟨b4, b5, b6⟩ | ⟨b4, b5, b6⟩
        · rw [b4, pl_bd, if_neg pl_10, b5, pl_bd, if_neg pl_10]
          exact next t2 u2 f2 b2 m2 (re.mp b6)
        · rw [b4, pl_bd, if_pos rfl, b5, pl_bd, if_pos rfl, st u2 m2]
          exact ⟨0, t2, u2, rfl, rfl, f2, b2, m2, Or.inr ⟨rfl, j, by omega, fun q => b6 (re.mpr q)⟩⟩
  obtain ⟨b, t2, u2, z⟩ := loop n 0 (zFU - n - 1) (zFU - n - 2) t u (by omega) (zFc_refl t) hx.2.2.1 (zFm2_refl u) (fun k hk => absurd hk (Nat.not_lt_zero k))
  rw [show zFU - n - 1 + n + 1 = zFU by unfold zFU; omega, show zFU - n - 2 + n + 2 = zFU by unfold zFU; omega] at z
  exact ⟨b, t2, u2, z⟩
theorem zSameW {G : zTxt} {f : Nat → Nat} {N M P A T Q Pa bb S F C R W V n d q a0  : Nat} {o : Nat → Nat × Nat} {w : Nat → Nat} {t u : zS} (hx : zCx G f N M P A T Q Pa bb S F C R W V o w t u) (h5 : t 6 5 = Int32.ofNat n) (hn : n ≤ 1500) (hA : a0 + n ≤ 80000) (hd : d ≤ 42)  (own : ∀ v : zS, v 31 = u 31 → v 0 68 = u 0 68 → mX12_ownMany (v 0 68) v = some (Int32.ofNat n, v)) (hp : ∀ k, k < n → zRs (zD t) N t f (t 58 k) (u 42 (1500 * (d + 1) + k))) (hq : ∀ k, k < n → zRs (zD t) N t f (t 58 (a0 + k)) (u 42 (1500 * d + k))) : ∃ b t2 u2, mX1_isSame (Int32.ofNat a0) t = some (b, t2) ∧ mX12_areSame (Int32.ofNat d) (Int32.ofNat (d + 1)) u = some (b, u2) ∧ zFc t t2 ∧ zKp N t2 ∧ zFm2 u u2 ∧ ((b = 1 ∧ ∀ k, k < n → zRe (zD t) N t (t 58 k) (t 58 (a0 + k))) ∨ (b = 0 ∧ ∃ k, k < n ∧ ¬ zRe (zD t) N t (t 58 k) (t 58 (a0 + k)))) := by
  have stop : ∀ (j fv : Nat) (v : zS), v 31 = u 31 → v 0 68 = u 0 68 → lX12_areSame_5 (fv + 1) (Int32.ofNat d) (Int32.ofNat (d + 1)) 0 (Int32.ofNat j) v = some (0, v) := fun j fv v e1 e2 => by
    show bX12_areSame_5 _ (Int32.ofNat d) (Int32.ofNat (d + 1)) 0 _ v = _
    unfold bX12_areSame_5
    rw [own v e1 e2, pl_bd]
    by_cases c : Int32.ofNat n ≤ Int32.ofNat j
    · rw [if_pos c]; rfl
    · rw [if_neg c, if_pos rfl]; rfl
  have loop : ∀ (e j fu fv : Nat) (t1 u1 : zS), e + j = n → zFc t t1 → zKp N t1 → zFm2 u u1 → (∀ k, k < j → zRe (zD t) N t (t 58 k) (t 58 (a0 + k))) → ∃ b t2 u2, lX1_isSame_2 (fu + e + 1) (Int32.ofNat a0) (Int32.ofNat j) t1 = some (b, t2) ∧ lX12_areSame_5 (fv + e + 2) (Int32.ofNat d) (Int32.ofNat (d + 1)) 1 (Int32.ofNat j) u1 = some (b, u2) ∧ zFc t t2 ∧ zKp N t2 ∧ zFm2 u u2 ∧ ((b = 1 ∧ ∀ k, k < n → zRe (zD t) N t (t 58 k) (t 58 (a0 + k))) ∨ (b = 0 ∧ ∃ k, k < n ∧ ¬ zRe (zD t) N t (t 58 k) (t 58 (a0 + k)))) := by
    intro e
    induction e with
    | zero =>
      intro j fu fv t1 u1 he hF hK hM hno
      refine ⟨1, t1, u1, ?_, ?_, hF, hK, hM, Or.inl ⟨rfl, fun k hk => hno k (by omega)⟩⟩
      · show bX1_isSame_2 _ _ _ t1 = _
        unfold bX1_isSame_2
        rw [hF.2 6 (by decide), h5, if_pos ((zn_le (by omega) (by omega)).mpr (by omega))]
      · show bX12_areSame_5 _ (Int32.ofNat d) (Int32.ofNat (d + 1)) 1 _ u1 = _
        unfold bX12_areSame_5
        rw [own u1 (hM.2 31 (by decide)) (hM.1 68 (by decide)), pl_bd, if_pos ((zn_le (by omega) (by omega)).mpr (by omega))]
        rfl
    | succ e ih =>
      intro j fu fv t1 u1 he hF hK hM hno
      have hx1 := zCx_of hx (zCf_c hF) (zCm_m hM) hK
      have tr := zTr_c hF
      have eD := zD_of tr
      have r58 : t1 58 = t 58 := hF.2 58 (by decide)
      have r42 : u1 42 = u 42 := hM.2 42 (by decide)
      have r43 : u1 43 = u 43 := hM.2 43 (by decide)
      have eM : lX12_areSame_5 (fv + (e + 1) + 2) (Int32.ofNat d) (Int32.ofNat (d + 1)) 1 (Int32.ofNat j) u1 = if u1 42 (1500 * d + j) < 0 then if u1 42 (1500 * (d + 1) + j) < 0 then lX12_areSame_5 (fv + e + 2) (Int32.ofNat d) (Int32.ofNat (d + 1)) 1 (Int32.ofNat (j + 1)) u1 else lX12_areSame_5 (fv + e + 2) (Int32.ofNat d) (Int32.ofNat (d + 1)) 0 (Int32.ofNat (j + 1)) u1 else if u1 42 (1500 * (d + 1) + j) < 0 then lX12_areSame_5 (fv + e + 2) (Int32.ofNat d) (Int32.ofNat (d + 1)) 0 (Int32.ofNat (j + 1)) u1 else zbd (mX12_areEqual (u1 42 (1500 * d + j)) (u1 42 (1500 * (d + 1) + j)) u1) fun r v => if r = 0 then lX12_areSame_5 (fv + e + 2) (Int32.ofNat d) (Int32.ofNat (d + 1)) 0 (Int32.ofNat (j + 1)) v else lX12_areSame_5 (fv + e + 2) (Int32.ofNat d) (Int32.ofNat (d + 1)) 1 (Int32.ofNat (j + 1)) v := by
        show bX12_areSame_5 (lX12_areSame_5 (fv + e + 2)) (Int32.ofNat d) (Int32.ofNat (d + 1)) 1 _ u1 = _
        unfold bX12_areSame_5 bX12_areSame_78 bX12_areSame_79
        rw [own u1 (hM.2 31 (by decide)) (hM.1 68 (by decide)), pl_bd, if_neg (show ¬ Int32.ofNat n ≤ Int32.ofNat j by rw [zn_le (by omega) (by omega)]; omega), if_neg pl_10, pl_channel (by omega) (by omega), pl_bd, pl_channel (by omega) (by omega), pl_bd]
        simp only [pl_let, zn_1]
        by_cases c1 : u1 42 (1500 * d + j) < 0
        · by_cases c2 : u1 42 (1500 * (d + 1) + j) < 0
          · simp only [c1, c2, Int32.not_le.mpr c1, Int32.not_le.mpr c2, if_true, if_false]
          · simp only [c1, c2, Int32.not_le.mpr c1, Int32.not_lt.mp c2, if_true, if_false]
        · by_cases c2 : u1 42 (1500 * (d + 1) + j) < 0
          · simp only [c1, c2, Int32.not_lt.mp c1, Int32.not_le.mpr c2, if_true, if_false]
          · simp only [c1, c2, Int32.not_lt.mp c1, Int32.not_lt.mp c2, if_true, if_false]
      rw [show fu + (e + 1) + 1 = fu + e + 1 + 1 by omega, pl_sameC (by rw [hF.2 6 (by decide)]; exact h5) (by omega) hn hA, eM, r58]
      have st : ∀ (v : zS), zFm2 u v → lX12_areSame_5 (fv + e + 2) (Int32.ofNat d) (Int32.ofNat (d + 1)) 0 (Int32.ofNat (j + 1)) v = some (0, v) := fun v hv => stop (j + 1) (fv + e + 1) v (hv.2 31 (by decide)) (hv.1 68 (by decide))
      have next : ∀ (t2 u2 : zS), zFc t t2 → zKp N t2 → zFm2 u u2 → zRe (zD t) N t (t 58 j) (t 58 (a0 + j)) → ∃ b t3 u3, lX1_isSame_2 (fu + e + 1) (Int32.ofNat a0) (Int32.ofNat (j + 1)) t2 = some (b, t3) ∧ lX12_areSame_5 (fv + e + 2) (Int32.ofNat d) (Int32.ofNat (d + 1)) 1 (Int32.ofNat (j + 1)) u2 = some (b, u3) ∧ zFc t t3 ∧ zKp N t3 ∧ zFm2 u u3 ∧ ((b = 1 ∧ ∀ k, k < n → zRe (zD t) N t (t 58 k) (t 58 (a0 + k))) ∨ (b = 0 ∧ ∃ k, k < n ∧ ¬ zRe (zD t) N t (t 58 k) (t 58 (a0 + k)))) := fun t2 u2 q1 q2 q3 q4 => ih (j + 1) fu fv t2 u2 (by omega) q1 q2 q3 (fun k hk => by
        by_cases ek : k = j
        · rw [ek]; exact q4
        · exact hno k (by omega))
      have h1 := zRs_of tr (hp j (by omega))
      have h2 := zRs_of tr (hq j (by omega))
      have re : zRe (zD t1) N t1 (t 58 j) (t 58 (a0 + j)) ↔ zRe (zD t) N t (t 58 j) (t 58 (a0 + j)) := by
        rw [eD]
        exact ⟨fun q => by
          rcases q with q | ⟨a, b, q1, q2, q3⟩
          · exact Or.inl q
          · exact Or.inr ⟨a, b, (zV_of tr _).mp q1, (zV_of tr _).mp q2, q3⟩, fun q => zRe_of tr q⟩
      rw [r42]
      rcases zPairS hx1 h1 h2 with ⟨a1, a2, a3, a4, a5⟩ | ⟨a1, a2, a3, a4, a5⟩ | ⟨a1, a2, a3, a4, a5⟩ | ⟨a1, a2, a3, a4, t2, u2, b1, b2, b3, b4⟩
      · rw [if_pos a1, if_pos a2, if_pos a4, if_pos a3]
        exact next t1 u1 hF hK hM (re.mp a5)
      · rw [if_pos a1, if_neg a2, if_neg a4, if_pos a3, st u1 hM]
        exact ⟨0, t1, u1, rfl, rfl, hF, hK, hM, Or.inr ⟨rfl, j, by omega, fun q => a5 (re.mpr q)⟩⟩
      · rw [if_neg a1, if_pos a2, if_pos a4, if_neg a3, st u1 hM]
        exact ⟨0, t1, u1, rfl, rfl, hF, hK, hM, Or.inr ⟨rfl, j, by omega, fun q => a5 (re.mpr q)⟩⟩
      · rw [if_neg a1, if_neg a2, if_neg a4, if_neg a3]
        have f2 := zFc_trans hF b1
        have m2 := zFm2_trans hM b3
        rcases b4 with ⟨b4, b5, b6⟩ | ⟨b4, b5, b6⟩
        · rw [b4, pl_bd, if_neg pl_10, b5, pl_bd, if_neg pl_10]
          exact next t2 u2 f2 b2 m2 (re.mp b6)
        · rw [b4, pl_bd, if_pos rfl, b5, pl_bd, if_pos rfl, st u2 m2]
          exact ⟨0, t2, u2, rfl, rfl, f2, b2, m2, Or.inr ⟨rfl, j, by omega, fun q => b6 (re.mpr q)⟩⟩
  obtain ⟨b, t2, u2, z⟩ := loop n 0 (zFU - n - 1) (zFU - n - 2) t u (by omega) (zFc_refl t) hx.2.2.1 (zFm2_refl u) (fun k hk => absurd hk (Nat.not_lt_zero k))
  rw [show zFU - n - 1 + n + 1 = zFU by unfold zFU; omega, show zFU - n - 2 + n + 2 = zFU by unfold zFU; omega] at z
  exact ⟨b, t2, u2, z⟩
