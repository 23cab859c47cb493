/-! CHECK: what a proc starts with -/
/-- the row of a proc's slots at its start -/
def zRz (D : zCo) (t : zS) (a k : Nat) (j : Nat) : Int32 := if j < k ∧ 0 ≤ t 45 (a + j) then zHo D (zSg2 t (t 45 (a + j)).toNatClampNeg) else -1
/-- the class behind the parameters -/
def zChkT (x1 : Int32) (t1596 : zS) : zR := zbd (mX5_get 40 400 x1 t1596) fun r1598 t1599 => zbd (mX1_checkBlockr r1598 0 t1599) fun r1601 t1602 => if 0 ≤ (t1602 6 6) then some ((t1602 6 6), t1602) else if r1601 = 0 then zbd (mX1_hasChannels t1602) fun r1604 t1605 => if r1604 = 0 then some ((t1605 6 6), t1605) else zbd (mX5_get 42 400 x1 t1605) fun r1607 t1608 => zpt t1608 6 6 r1607 fun t1610 => some ((t1610 6 6), t1610) else some ((t1602 6 6), t1602)
theorem zChkC {G : zTxt} {f : Nat → Nat} {N M P A T q k a n : Nat} {t u : zS} (hg : zTG G f N M P A T t u) (hb : zBg T t) (hq : q < 300) (h37 : t 37 q = Int32.ofNat k) (h35 : t 35 q = Int32.ofNat a) (hak : a + k ≤ 1500) (hkn : k ≤ n) (hn : n ≤ 1500) (hp : ∀ j, j < k → t 45 (a + j) = -1 ∨ ∃ c, c < N ∧ t 45 (a + j) = Int32.ofNat (2 * c)) : ∀ (l j fu : Nat) (t1 : zS), j + l = k → (∀ x, ¬ x = 58 → t1 x = t x) → (∀ x, x < n → t1 58 x = if x < j then zRz (zD t) t a k x else -1) → ∃ t2, lX1_check_35 (fu + l + 1) (Int32.ofNat q) (Int32.ofNat j) t1 = zChkT (Int32.ofNat q) t2 ∧ (∀ x, ¬ x = 58 → t2 x = t x) ∧ (∀ x, x < n → t2 58 x = zRz (zD t) t a k x) := by
  have hN := hg.2.2.2.1
  intro l
  induction l with
  | zero =>
    intro j fu t1 hj h1 h2
    refine ⟨t1, ?_, h1, fun x hx => ?_⟩
    · show bX1_check_35 _ _ _ t1 = _
      unfold bX1_check_35 zChkT
      rw [show mX5_get 36 400 (Int32.ofNat q) t1 = some (Int32.ofNat k, t1) by rw [← h37, ← h1 37 (by decide)]; exact zn_get (by omega) (by decide), pl_bd, if_pos ((zn_le (by omega) (by omega)).mpr (by omega))]
    · rw [h2 x hx]
      by_cases c : x < j
      · rw [if_pos c]
      · rw [if_neg c]
        unfold zRz
        rw [if_neg (fun w => c (by omega))]
  | succ l ih =>
    intro j fu t1 hj h1 h2
    have hjk : j < k := by omega
    have fr : zCf t t1 := ⟨fun x _ => by rw [h1 3 (by decide)], ⟨fun x _ => by rw [h1 6 (by decide)], fun x _ => by rw [h1 107 (by decide)]⟩, fun x hx => h1 x (by omega)⟩
    have gF : mX6_form (Int32.ofNat q) (Int32.ofNat j) t1 = some (t 45 (a + j), t1) := by
      unfold mX6_form
      rw [show mX5_get 34 400 (Int32.ofNat q) t1 = some (Int32.ofNat a, t1) by rw [← h35, ← h1 35 (by decide)]; exact zn_get (by omega) (by decide), pl_bd, zn_add, show mX5_get 44 1600 (Int32.ofNat (a + j)) t1 = some (t 45 (a + j), t1) by rw [← h1 45 (by decide)]; exact zn_get (by omega) (by decide), pl_bd]
    have st : lX1_check_35 (fu + (l + 1) + 1) (Int32.ofNat q) (Int32.ofNat j) t1 = if t 45 (a + j) < 0 then lX1_check_35 (fu + l + 1) (Int32.ofNat q) (Int32.ofNat (j + 1)) t1 else zbd (mX1_hold (Int32.ofNat j) (t 45 (a + j)) t1) fun _ t3 => lX1_check_35 (fu + l + 1) (Int32.ofNat q) (Int32.ofNat (j + 1)) t3 := by
      show bX1_check_35 (lX1_check_35 (fu + l + 1)) _ _ t1 = _
      unfold bX1_check_35 bX1_check_77
      rw [show mX5_get 36 400 (Int32.ofNat q) t1 = some (Int32.ofNat k, t1) by rw [← h37, ← h1 37 (by decide)]; exact zn_get (by omega) (by decide), pl_bd, if_neg (fun w => by have := (zn_le (by omega) (by omega)).mp w; omega), gF, pl_bd]
      simp only [pl_let, zn_1, pl_bd, gF]
    rw [st]
    rcases hp j hjk with c | ⟨c, c1, c2⟩
    · rw [if_pos (by rw [c]; decide)]
      refine ih (j + 1) fu t1 (by omega) h1 (fun x hx => ?_)
      rw [h2 x hx]
      by_cases e : x < j
      · rw [if_pos e, if_pos (by omega)]
      · rw [if_neg e]
        by_cases e2 : x < j + 1
        · have ex : x = j := by omega
          rw [if_pos e2, ex]
          unfold zRz
          rw [if_neg (fun w => absurd w.2 (by rw [c]; exact zn_m1))]
        · rw [if_neg e2]
    · have tr := zTr_f fr
      have hg1 : zTG G f N M P A T t1 u := zTG_of hg tr ⟨rfl, rfl, rfl, rfl, rfl, rfl, rfl, rfl, rfl, rfl, rfl, rfl⟩
      have hb1 : zBg T t1 := zBg_of hb tr (h1 27 (by decide))
      have eD : zD t1 = zD t := zD_of tr
      rw [if_neg (by rw [c2]; exact zn_neg (by omega)), c2, pl_hold hg1 hb1 (by omega) (by omega), pl_bd, eD, zSg2_of tr]
      refine ih (j + 1) fu _ (by omega) (fun x hx => by rw [zu_row hx]; exact h1 x hx) (fun x hx => ?_)
      by_cases ex : x = j
      · rw [ex, zu_same, if_pos (show j < j + 1 by omega)]
        unfold zRz zHo
        rw [if_pos (show j < k ∧ 0 ≤ t 45 (a + j) from ⟨hjk, by rw [c2]; exact zn_0le (by omega)⟩), c2, pl_clamp (pl_ofn (by omega))]
      · rw [zu_ne2 ex, h2 x hx]
        by_cases e : x < j
        · rw [if_pos e, if_pos (by omega)]
        · rw [if_neg e, if_neg (by omega)]
/-- the reference behind the parameters -/
def zChkM (x1 : Int32) (t : zS) : zR := zrd t 29 300 x1 fun v4167 => zbd (mX12_checkBlockr v4167 0 t) fun r4169 t4170 => if r4169 = 0 then if 0 ≤ (t4170 0 67) then some (0, t4170) else zbd (mX12_hasAny 0 t4170) fun r4172 t4173 => if r4172 = 0 then some (0, t4173) else zrd t4173 30 300 x1 fun v4175 => zbd (mX12_isBad v4175 t4173) fun r4177 t4178 => some (0, t4178) else some (0, t4170)
/-- the reference's row of slots at the start -/
def zRm (f : Nat → Nat) (t : zS) (a k : Nat) (j : Nat) : Int32 := if j < k ∧ 0 ≤ t 45 (a + j) then (if (zD t).kd (zSg2 t (t 45 (a + j)).toNatClampNeg) = 0 then -1 else Int32.ofNat (zF f (zSg2 t (t 45 (a + j)).toNatClampNeg))) else -1
theorem zChkR {G : zTxt} {f : Nat → Nat} {N M P A T q k a b n : Nat} {t u : zS} (hg : zTG G f N M P A T t u) (hq : q < 300) (h32 : u 32 q = Int32.ofNat k) (h31 : u 31 q = Int32.ofNat b) (hbn : b + n ≤ 3000) (hkn : k ≤ n) (hn : n ≤ 1500) (hp : ∀ j, j < k → zPm f N (t 45 (a + j)) (u 34 (b + j))) : ∀ (l j fu : Nat) (u1 : zS), j + l = n → (∀ x, ¬ x = 42 → u1 x = u x) → (∀ x, x < j → u1 42 x = zRm f t a k x) → ∃ u2, lX12_check_18 (fu + l + 1) (Int32.ofNat q) (Int32.ofNat n) (Int32.ofNat j) u1 = zChkM (Int32.ofNat q) u2 ∧ (∀ x, ¬ x = 42 → u2 x = u x) ∧ (∀ x, x < n → u2 42 x = zRm f t a k x) := by
  have hN := hg.2.2.2.1
  intro l
  induction l with
  | zero =>
    intro j fu u1 hj h1 h2
    refine ⟨u1, ?_, h1, fun x hx => h2 x (by omega)⟩
    show bX12_check_18 _ _ _ _ u1 = _
    unfold bX12_check_18 zChkM
    rw [if_pos ((zn_le (by omega) (by omega)).mpr (by omega))]
  | succ l ih =>
    intro j fu u1 hj h1 h2
    obtain ⟨uw, euw⟩ : ∃ uw, uw = zu u1 42 j (-1) := ⟨_, rfl⟩
    have w1 : ∀ x, ¬ x = 42 → uw x = u x := fun x hx => by rw [euw, zu_row hx]; exact h1 x hx
    have st : lX12_check_18 (fu + (l + 1) + 1) (Int32.ofNat q) (Int32.ofNat n) (Int32.ofNat j) u1 = if k ≤ j then lX12_check_18 (fu + l + 1) (Int32.ofNat q) (Int32.ofNat n) (Int32.ofNat (j + 1)) uw else if u 34 (b + j) < 0 then lX12_check_18 (fu + l + 1) (Int32.ofNat q) (Int32.ofNat n) (Int32.ofNat (j + 1)) uw else zbd (mX12_plain (2 * u 34 (b + j)) uw) fun r4161 t4162 => zbd (mX12_setChannel 0 (Int32.ofNat j) r4161 t4162) fun r4164 t4165 => lX12_check_18 (fu + l + 1) (Int32.ofNat q) (Int32.ofNat n) (Int32.ofNat (j + 1)) t4165 := by
      show bX12_check_18 (lX12_check_18 (fu + l + 1)) _ _ _ u1 = _
      unfold bX12_check_18 bX12_check_57 bX12_check_78
      rw [if_neg (fun w => by have := (zn_le (by omega) (by omega)).mp w; omega), zn_wr (by omega) (by decide), ← euw, zn_rd (by omega) (by decide), w1 32 (by decide), h32]
      by_cases c : k ≤ j
      · rw [if_pos ((zn_le (by omega) (by omega)).mpr c), if_pos c, if_pos (by decide)]
        simp only [pl_let, zn_1]
      · rw [if_neg (fun w => c ((zn_le (by omega) (by omega)).mp w)), if_neg c, zn_rd (by omega) (by decide), w1 31 (by decide), h31, zn_add, zn_rd (by omega) (by decide), w1 34 (by decide)]
        simp only [pl_let, zn_1]
    have rest : ∀ v : Int32, v = zRm f t a k j → ∃ u2, lX12_check_18 (fu + l + 1) (Int32.ofNat q) (Int32.ofNat n) (Int32.ofNat (j + 1)) (zu uw 42 j v) = zChkM (Int32.ofNat q) u2 ∧ (∀ x, ¬ x = 42 → u2 x = u x) ∧ (∀ x, x < n → u2 42 x = zRm f t a k x) := fun v hv => by
      refine ih (j + 1) fu _ (by omega) (fun x hx => by rw [zu_row hx]; exact w1 x hx) (fun x hx => ?_)
      by_cases ex : x = j
      · rw [ex, zu_same]; exact hv
      · rw [zu_ne2 ex, euw, zu_ne2 ex]; exact h2 x (by omega)
    have same : zu uw 42 j (-1) = uw := by
      funext x y
      by_cases c : x = 42 ∧ y = j
      · rw [c.1, c.2, zu_same, euw, zu_same]
      · by_cases c1 : x = 42
        · rw [c1, zu_ne2 (fun h => c ⟨c1, h⟩)]
        · rw [zu_ne1 c1]
    rw [st]
    by_cases c : k ≤ j
    · rw [if_pos c]
      have := rest (-1) (by unfold zRm; rw [if_neg (fun w => absurd w.1 (by omega))])
      rw [same] at this
      exact this
    · rw [if_neg c]
      rcases hp j (by omega) with ⟨c1, c2⟩ | ⟨cc, c0, c1, c2⟩
      · rw [if_pos (by rw [c2]; decide)]
        have := rest (-1) (by unfold zRm; rw [if_neg (fun w => absurd w.2 (by rw [c1]; exact zn_m1))])
        rw [same] at this
        exact this
      · have hg1 : zTG G f N M P A T t uw := zTG_of hg ⟨rfl, rfl, rfl, rfl, rfl, rfl, rfl, rfl, rfl, rfl, rfl, rfl⟩ ⟨w1 5 (by decide), w1 6 (by decide), w1 7 (by decide), w1 8 (by decide), w1 9 (by decide), w1 10 (by decide), w1 11 (by decide), w1 12 (by decide), w1 13 (by decide), by rw [w1 0 (by decide)], by rw [w1 0 (by decide)], by rw [w1 0 (by decide)]⟩
        have lF := (zF_lt (s := 2 * cc) hg (by omega)).1
        have eF : (2 : Int32) * u 34 (b + j) = Int32.ofNat (zF f (2 * cc)) := by
          rw [c2, show (2 : Int32) = Int32.ofNat 2 from rfl, zn_mul]
          have := zF_2 f (2 * cc)
          rw [show 2 * cc / 2 = cc by omega, show 2 * cc % 2 = 0 by omega] at this
          rw [show zF f (2 * cc) = 2 * f cc by omega]
        have vs := zV_sg (s := 2 * cc) hg (by omega)
        rw [if_neg (by rw [c2]; exact zn_neg (by have := (zF_lt (s := 2 * cc) hg (by omega)).2.2; rw [show 2 * cc / 2 = cc by omega] at this; omega)), eF, pl_plain hg1 (by omega), pl_bd]
        have hset := pl_setCh (d := 0) (k := j) hg1 (by omega) (by omega) vs
        rw [show mX12_setChannel 0 (Int32.ofNat j) (Int32.ofNat (zF f (zSg2 t (2 * cc)))) uw = _ from hset, pl_bd, show 1500 * 0 + j = j by omega]
        refine rest _ ?_
        unfold zRm
        rw [if_pos (show j < k ∧ 0 ≤ t 45 (a + j) from ⟨by omega, by rw [c1]; exact zn_0le (by omega)⟩), c1, pl_clamp (pl_ofn (by omega))]
/-- both rows at the start -/
theorem zRows0 {G : zTxt} {f : Nat → Nat} {N M P A T k a b : Nat} {t u : zS} (hg : zTG G f N M P A T t u) (hp : ∀ j, j < k → zPm f N (t 45 (a + j)) (u 34 (b + j))) (j : Nat) : zRs (zD t) N t f (zRz (zD t) t a k j) (zRm f t a k j) := by
  unfold zRz zRm
  by_cases c : j < k ∧ 0 ≤ t 45 (a + j)
  · rw [if_pos c, if_pos c]
    rcases hp j c.1 with ⟨c1, _⟩ | ⟨cc, c0, c1, _⟩
    · exact absurd c.2 (by rw [c1]; exact zn_m1)
    · have hN := hg.2.2.2.1
      have vs := zV_sg (s := 2 * cc) hg (by omega)
      rw [c1, pl_clamp (pl_ofn (by omega))]
      exact zRs_new vs vs (zEqv_eq.rf _)
  · rw [if_neg c, if_neg c]
    exact Or.inl ⟨rfl, rfl⟩
