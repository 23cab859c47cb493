/-! rows of the class: fill, copy, forgetEqual -/
def zfl (t : zS) (c a b : Nat) (v : Int32) : zS := fun k j => if k = c ∧ a ≤ j ∧ j < b then v else t k j
theorem zfl_step {t : zS} {c a b : Nat} {v : Int32} (h : a < b) : zfl (zu t c a v) c (a + 1) b v = zfl t c a b v := by
  funext k j
  unfold zfl zu
  by_cases hk : k = c
  · subst hk
    by_cases hj : j = a
    · subst hj
      rw [if_neg (by omega), if_pos ⟨rfl, rfl⟩, if_pos ⟨rfl, by omega, h⟩]
    · by_cases q : a ≤ j ∧ j < b
      · rw [if_pos ⟨rfl, by omega, q.2⟩, if_pos ⟨rfl, q⟩]
      · rw [if_neg (fun w => q ⟨by omega, w.2.2⟩), if_neg (fun w => hj w.2), if_neg (fun w => q w.2)]
  · rw [if_neg (fun w => hk w.1), if_neg (fun w => hk w.1), if_neg (fun w => hk w.1)]
theorem zfl_none {t : zS} {c a b : Nat} {v : Int32} (h : b ≤ a) : zfl t c a b v = t := by
  funext k j
  unfold zfl
  rw [if_neg (by omega)]
theorem pl_fillL {k n b : Nat} {x v : Int32} (hx : x.toInt = (b : Int)) (hb : b ≤ n) (hn : n < 2147483648) : ∀ (d i fu : Nat) (y : Int32) (t : zS), d + i = b → y.toInt = (i : Int) → lX5_fill_7 k n (fu + d + 1) x v y t = some (0, zfl t (k + 1) i b v) := by
  intro d
  induction d with
  | zero =>
    intro i fu y t hi hy
    rw [lX5_fill_7]
    unfold bX5_fill_7
    rw [if_pos (pl_le.mpr (by omega)), zfl_none (by omega)]
  | succ d ih =>
    intro i fu y t hi hy
    have w1 : (1 : Int32).toInt = 1 := by decide
    rw [lX5_fill_7]
    unfold bX5_fill_7
    rw [if_neg (fun w => by have := pl_le.mp w; omega), if_neg (fun w => by have := pl_le.mp w; rw [pl_ofn hn] at this; omega), pl_wr ⟨pl_pos (by omega), by rw [pl_clamp hy]; omega⟩, pl_let, pl_clamp hy, show fu + (d + 1) = fu + d + 1 by omega, ih (i + 1) fu (y + 1) _ (by omega) (by rw [pl_add (by omega) (by omega), w1]; omega), zfl_step (by omega)]
theorem pl_fill {k n a b : Nat} {x1 x2 v : Int32} {t : zS} (h1 : x1.toInt = (a : Int)) (h2 : x2.toInt = (b : Int)) (hab : a ≤ b) (hb : b ≤ n) (hn : n < 900000) : mX5_fill k n x1 x2 v t = some (0, zfl t (k + 1) a b v) := by
  have z0 : (0 : Int32).toInt = 0 := by decide
  unfold mX5_fill
  rw [pl_let, if_neg (fun w => by have := pl_lt.mp w; omega), show zFU = (999999 - (b - a)) + (b - a) + 1 by show 1000000 = _; omega]
  exact pl_fillL h2 hb (by omega) (b - a) a _ x1 t (by omega) h1
theorem pl_copy {k n a b m : Nat} {x1 x2 x3 : Int32} {t : zS} (h1 : x1.toInt = (a : Int)) (h2 : x2.toInt = (b : Int)) (h3 : x3.toInt = (m : Int)) (ha : a + m ≤ n) (hb : b + m ≤ n) (hn : n < 900000) : mX5_copy k n x1 x2 x3 t = some (0, zcp t (k + 1) a b m) := by
  have z0 : (0 : Int32).toInt = 0 := by decide
  have e : (Int32.ofNat n - x3).toInt = (n : Int) - (m : Int) := by
    rw [pl_sub (by rw [pl_ofn (by omega)]; omega) (by rw [pl_ofn (by omega)]; omega), pl_ofn (by omega), h3]
  unfold mX5_copy
  rw [if_neg (fun w => by have := pl_lt.mp w; omega), if_neg (fun w => by have := pl_lt.mp w; omega), if_neg (fun w => by have := pl_lt.mp w; omega), if_neg (fun w => by have := pl_lt.mp w; omega), if_neg (fun w => by have := pl_lt.mp w; omega)]
  unfold zac
  rw [if_pos ⟨pl_pos (by omega), pl_pos (by omega), pl_pos (by omega), by rw [pl_clamp h1, pl_clamp h3]; exact ha, by rw [pl_clamp h2, pl_clamp h3]; exact hb⟩, pl_clamp h1, pl_clamp h2, pl_clamp h3]
/-- every state hangs under itself -/
def zid (t : zS) (c a b : Nat) : zS := fun k j => if k = c ∧ a ≤ j ∧ j < b then Int32.ofNat j else t k j
theorem zid_step {t : zS} {c a b : Nat} (h : a < b) : zid (zu t c a (Int32.ofNat a)) c (a + 1) b = zid t c a b := by
  funext k j
  unfold zid zu
  by_cases hk : k = c
  · subst hk
    by_cases hj : j = a
    · subst hj
      rw [if_neg (by omega), if_pos ⟨rfl, rfl⟩, if_pos ⟨rfl, by omega, h⟩]
    · by_cases q : a ≤ j ∧ j < b
      · rw [if_pos ⟨rfl, by omega, q.2⟩, if_pos ⟨rfl, q⟩]
      · rw [if_neg (fun w => q ⟨by omega, w.2.2⟩), if_neg (fun w => hj w.2), if_neg (fun w => q w.2)]
  · rw [if_neg (fun w => hk w.1), if_neg (fun w => hk w.1), if_neg (fun w => hk w.1)]
theorem pl_fEqL : ∀ (d i fu : Nat) (y : Int32) (t : zS), d + i = 6000 → y = Int32.ofNat i → lX2_forgetEqual_2 (fu + d + 1) y t = some (0, zid t 29 i 6000) := by
  intro d
  induction d with
  | zero =>
    intro i fu y t hi hy
    have e : i = 6000 := by omega
    subst e
    rw [lX2_forgetEqual_2]
    unfold bX2_forgetEqual_2
    rw [if_pos (by rw [hy]; decide)]
    congr 2
    funext k j
    unfold zid
    rw [if_neg (by omega)]
  | succ d ih =>
    intro i fu y t hi hy
    have w6 : (6000 : Int32).toInt = 6000 := by decide
    have hyi : y.toInt = (i : Int) := by rw [hy]; exact pl_ofn (by omega)
    rw [lX2_forgetEqual_2]
    unfold bX2_forgetEqual_2
    rw [if_neg (fun w => by have := pl_le.mp w; omega), pl_set (m := i) (by decide) hyi (by omega), pl_bd, pl_let, show fu + (d + 1) = fu + d + 1 by omega, ih (i + 1) fu (y + 1) _ (by omega) (by rw [hy]; exact nI_1 i), hy, zid_step (by omega)]
theorem pl_fEq {t : zS} : mX2_forgetEqual t = some (0, zid t 29 0 6000) := by
  unfold mX2_forgetEqual
  rw [show zFU = 993999 + 6000 + 1 from rfl]
  exact pl_fEqL 6000 0 993999 0 t rfl rfl
