/-! CHECK: if -/
theorem zn_beh {s : Nat} (h : s < 1000) : (-2 - Int32.ofNat s : Int32) < 0 := by
  rw [pl_lt, pl_sub (by rw [pl_ofn (by omega)]; show (-2147483648 : Int) ≤ -2 - (s : Int); omega) (by rw [pl_ofn (by omega)]; show (-2 - (s : Int) : Int) < 2147483648; omega), pl_ofn (by omega)]
  show (-2 - (s : Int) : Int) < 0
  omega
theorem zRs_tr {G : zTxt} {f : Nat → Nat} {N M P A T : Nat} {t u : zS} {x y z : Int32} (hg : zTG G f N M P A T t u) (h1 : zRe (zD t) N t x y) (h2 : zRs (zD t) N t f x z) : zRs (zD t) N t f y z := by
  rcases h1 with ⟨a1, a2⟩ | ⟨a, b, a1, a2, a3, a4, a5⟩
  · rcases h2 with ⟨b1, b2⟩ | ⟨c, e, b1, b2, b3, b4, b5, b6⟩
    · exact Or.inl ⟨a2, b2⟩
    · rw [a1] at b5
      exact absurd (show (0 : Int32) ≤ -1 by rw [b5]; exact zn_0le (by have := zV_lt hg b1; omega)) zn_m1
  · rcases h2 with ⟨b1, b2⟩ | ⟨c, e, b1, b2, b3, b4, b5, b6⟩
    · rw [b1] at a3
      exact absurd (show (0 : Int32) ≤ -1 by rw [a3]; exact zn_0le (by have := zV_lt hg a1; omega)) zn_m1
    · rw [a3] at b5
      have e1 := (zn_inj (by have := zV_lt hg a1; omega) (by have := zV_lt hg b1; omega)).mp b5
      subst e1
      exact Or.inr ⟨b, e, a2, b2, by rw [← (zEq_sm a5).1]; exact b3, zEqv_eq.tr _ _ _ (zEqv_eq.sy _ _ a5) b4, a4, b6⟩
theorem zRe_refl {N : Nat} {t : zS} {f : Nat → Nat} {x y : Int32} (h : zRs (zD t) N t f x y) : zRe (zD t) N t x x := by
  rcases h with ⟨a, _⟩ | ⟨a, b, a1, _, _, _, a5, _⟩
  · exact Or.inl ⟨a, a⟩
  · exact Or.inr ⟨a, a, a1, a1, a5, a5, zEqv_eq.rf a⟩
theorem zRs_back {N : Nat} {f : Nat → Nat} {t t2 : zS} {x y : Int32} (hf : zCf t t2) (h : zRs (zD t2) N t2 f x y) : zRs (zD t) N t f x y := by
  have eD : zD t2 = zD t := zD_of (zTr_f hf)
  rcases h with h | ⟨a, b, h1, h2, h3, h4, h5, h6⟩
  · exact Or.inl h
  · rw [eD] at h3 h4
    exact Or.inr ⟨a, b, (zV_of (zTr_f hf) _).mp h1, (zV_of (zTr_f hf) _).mp h2, h3, h4, h5, h6⟩
theorem zRe_back {N : Nat} {t t2 : zS} {x y : Int32} (hf : zCf t t2) (h : zRe (zD t2) N t2 x y) : zRe (zD t) N t x y := by
  have eD : zD t2 = zD t := zD_of (zTr_f hf)
  rcases h with h | ⟨a, b, h1, h2, h3, h4, h5⟩
  · exact Or.inl h
  · rw [eD] at h5
    exact Or.inr ⟨a, b, (zV_of (zTr_f hf) _).mp h1, (zV_of (zTr_f hf) _).mp h2, h3, h4, h5⟩
/-- the class at one branch, behind what comes ahead of its BLOCK -/
theorem pl_151 {g : GgX1_checkBlock} {k57 : Int32 → Int32 → Int32 → Int32 → Int32 → Int32 → Int32 → Int32 → Int32 → zS → zR} {x1 x2 x3 x4 x5 x6 x7 b : Int32} {e i : Nat} {t t2 : zS} (he : e < 1600) (h : g.1 (t 111 e) (x2 + 1) t = some (b, t2)) : bX1_checkBranches_151 g k57 x1 x2 x3 x4 x5 x6 x7 (Int32.ofNat e) (Int32.ofNat i) t = if (t2 6 6) < 0 then if b = 0 then if x6 = 0 then if x7 = 0 then k57 x1 x2 x3 x4 x5 x6 0 (t2 115 e) (Int32.ofNat (i + 1)) t2 else zbd (mX1_isSame x5 t2) fun r t3 => k57 x1 x2 x3 x4 x5 x6 (if r = 0 then 0 else 1) (t3 115 e) (Int32.ofNat (i + 1)) t3 else zbd (mX5_copy 57 80000 0 x5 (t2 6 5) t2) fun _ t3 => k57 x1 x2 x3 x4 x5 0 x7 (t3 115 e) (Int32.ofNat (i + 1)) t3 else k57 x1 x2 x3 x4 x5 x6 x7 (t2 115 e) (Int32.ofNat (i + 1)) t2 else some (0, t2) := by
  have g114 : ∀ t' : zS, mX5_get 114 1600 (Int32.ofNat e) t' = some (t' 115 e, t') := fun t' => zn_get he (by decide)
  have e237 : ∀ (y6 y7 : Int32) (t' : zS), bX1_checkBranches_237 g k57 x1 x2 x3 x4 x5 y6 y7 (Int32.ofNat e) (Int32.ofNat i) t' = k57 x1 x2 x3 x4 x5 y6 y7 (t' 115 e) (Int32.ofNat (i + 1)) t' := fun y6 y7 t' => by
    unfold bX1_checkBranches_237
    rw [g114, pl_bd, pl_let, zn_1]
  unfold bX1_checkBranches_151
  rw [show mX5_get 110 1600 (Int32.ofNat e) t = some (t 111 e, t) from zn_get he (by decide), pl_bd, h, pl_bd]
  by_cases c1 : t2 6 6 < 0
  · rw [if_pos c1, if_pos c1]
    by_cases c2 : b = 0
    · rw [if_pos c2, if_pos c2]
      by_cases c3 : x6 = 0
      · rw [if_pos c3, if_pos c3]
        unfold bX1_checkBranches_211 bX1_checkBranches_234 bX1_checkBranches_235
        rw [if_pos c2]
        by_cases c4 : x7 = 0
        · rw [if_pos c4, if_pos c4, e237]
        · rw [if_neg c4, if_neg c4]
          congr 1
          funext r t3
          by_cases c5 : r = 0
          · rw [if_pos c5, if_pos c5, e237]
          · rw [if_neg c5, if_neg c5, e237]
      · rw [if_neg c3, if_neg c3]
        congr 1
        funext r t3
        rw [e237]
    · rw [if_neg c2, if_neg c2]
      unfold bX1_checkBranches_211
      rw [if_neg c2, e237]
  · rw [if_neg c1, if_neg c1]
/-- the class behind the last branch -/
theorem pl_257 {g : GgX1_checkBlock} {s fu n a b : Nat} {x2 x3 x6 x7 x9 : Int32} {t : zS} (hs : s < 1000) (h5 : t 6 5 = Int32.ofNat n) (ha : a + n ≤ 80000) (hb : b + n ≤ 80000) (h6 : x6 = 0 ∨ x6 = 1) : lX1_checkBranches_57 g (fu + 1) (Int32.ofNat s) x2 x3 (Int32.ofNat a) (Int32.ofNat b) x6 x7 (-1) x9 t = if x7 = 0 then some (x6, zmv (zu t 6 6 (t 89 s)) 58 (if x6 = 0 then b else a) 58 0 n) else some (x6, zmv t 58 (if x6 = 0 then b else a) 58 0 n) := by
  have e257 : ∀ t' : zS, t' 6 5 = Int32.ofNat n → bX1_checkBranches_267 g (Int32.ofNat a) (Int32.ofNat b) x6 t' = some (x6, zmv t' 58 (if x6 = 0 then b else a) 58 0 n) := fun t' h => by
    unfold bX1_checkBranches_267 bX1_checkBranches_283
    rw [h]
    rcases h6 with c | c
    · subst c
      rw [if_pos rfl, if_pos rfl, show mX5_copy 57 80000 (Int32.ofNat b) 0 (Int32.ofNat n) t' = _ from pl_cp (b := 0) (by omega) (by omega), pl_bd]; rfl
    · subst c
      rw [if_neg pl_10, if_neg pl_10, show mX5_copy 57 80000 (Int32.ofNat a) 0 (Int32.ofNat n) t' = _ from pl_cp (b := 0) (by omega) (by omega), pl_bd]; rfl
  have e57 : lX1_checkBranches_57 g (fu + 1) (Int32.ofNat s) x2 x3 (Int32.ofNat a) (Int32.ofNat b) x6 x7 (-1) x9 t = bX1_checkBranches_257 g (Int32.ofNat s) (Int32.ofNat a) (Int32.ofNat b) x6 x7 t := by
    show bX1_checkBranches_57 g _ _ _ _ _ _ _ _ _ _ t = _
    unfold bX1_checkBranches_57
    by_cases c : (1600 : Int32) ≤ x9
    · rw [if_pos c]
    · rw [if_neg c, if_pos (by decide)]
  rw [e57]
  unfold bX1_checkBranches_257
  by_cases c : x7 = 0
  · rw [if_pos c, if_pos c, pl_fail hs, pl_bd, e257 _ (by rw [zu_ne2 (by decide)]; exact h5)]
  · rw [if_neg c, if_neg c, e257 _ h5]
