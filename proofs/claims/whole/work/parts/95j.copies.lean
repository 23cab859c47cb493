/-! CHECK: rows kept and brought back -/
def zmv (u : zS) (k1 a k2 b n : Nat) : zS := fun k j => if k = k2 ∧ b ≤ j ∧ j < b + n then u k1 (a + (j - b)) else u k j
theorem zmv_0 {u : zS} {k1 a k2 b : Nat} : zmv u k1 a k2 b 0 = u := by
  funext k j
  unfold zmv
  rw [if_neg (fun w => by omega)]
theorem zmv_in {u : zS} {k1 a k2 b n j : Nat} (h : j < n) : zmv u k1 a k2 b n k2 (b + j) = u k1 (a + j) := by
  unfold zmv
  rw [if_pos ⟨rfl, by omega, by omega⟩, show b + j - b = j by omega]
theorem zmv_row {u : zS} {k1 a k2 b n k : Nat} (h : ¬ k = k2) : zmv u k1 a k2 b n k = u k := by
  funext j
  unfold zmv
  rw [if_neg (fun w => h w.1)]
theorem zmv_out {u : zS} {k1 a k2 b n j : Nat} (h : j < b ∨ b + n ≤ j) : zmv u k1 a k2 b n k2 j = u k2 j := by
  unfold zmv
  rw [if_neg (fun w => by omega)]
theorem zmv_step {u : zS} {k1 a k2 b j : Nat} {v : Int32} (hv : v = u k1 (a + j)) : zu (zmv u k1 a k2 b j) k2 (b + j) v = zmv u k1 a k2 b (j + 1) := by
  funext k i
  by_cases ek : k = k2
  · subst ek
    by_cases ei : i = b + j
    · subst ei
      rw [zu_same, zmv_in (Nat.lt_succ_self j)]; exact hv
    · rw [zu_ne2 ei]
      unfold zmv
      by_cases c : b ≤ i ∧ i < b + j
      · rw [if_pos ⟨rfl, c⟩, if_pos ⟨rfl, by omega, by omega⟩]
      · rw [if_neg (fun w => c w.2), if_neg (fun w => c ⟨w.2.1, by omega⟩)]
  · rw [zu_ne1 ek, zmv_row ek, zmv_row ek]
/-- the source isn't written to -/
theorem zmv_src {u : zS} {k1 a k2 b n j m : Nat} (h : ¬ k1 = k2 ∨ a + m ≤ b ∨ b + m ≤ a) (hj : j < m) (hn : n ≤ m) : zmv u k1 a k2 b n k1 (a + j) = u k1 (a + j) := by
  by_cases e : k1 = k2
  · subst e
    exact zmv_out (by omega)
  · rw [zmv_row e]
theorem zcp_mv {t : zS} {k a b m : Nat} : zcp t k a b m = zmv t k a k b m := by
  funext k' j
  unfold zcp zmv va_cpy
  by_cases e : k' = k
  · subst e
    rw [if_pos rfl]
    by_cases c : b ≤ j ∧ j < b + m
    · rw [if_pos c, if_pos ⟨rfl, c⟩]
    · rw [if_neg c, if_neg (fun w => c w.2)]
  · rw [if_neg e, if_neg (fun w => e w.1)]
theorem pl_cp {a b n : Nat} {t : zS} (ha : a + n ≤ 80000) (hb : b + n ≤ 80000) : mX5_copy 57 80000 (Int32.ofNat a) (Int32.ofNat b) (Int32.ofNat n) t = some (0, zmv t 58 a 58 b n) := by
  rw [pl_copy (pl_ofn (by omega)) (pl_ofn (by omega)) (pl_ofn (by omega)) ha hb (by decide), zcp_mv]
/-! the reference's loops -/
theorem pl_copyDown {d n : Nat} {u : zS} (hd : d ≤ 42) (hn : n ≤ 1500) (own : ∀ v : zS, v 31 = u 31 → v 0 68 = u 0 68 → mX12_ownMany (v 0 68) v = some (Int32.ofNat n, v)) : mX12_copyDown (Int32.ofNat d) u = some (0, zmv u 42 (1500 * d) 42 (1500 * (d + 1)) n) := by
  have loop : ∀ (e j fu : Nat), e + j = n → lX12_copyDown_2 (fu + e + 1) (Int32.ofNat d) (Int32.ofNat j) (zmv u 42 (1500 * d) 42 (1500 * (d + 1)) j) = some (0, zmv u 42 (1500 * d) 42 (1500 * (d + 1)) n) := by
    intro e
    induction e with
    | zero =>
      intro j fu he
      have : j = n := by omega
      subst this
      show bX12_copyDown_2 _ _ _ _ = _
      unfold bX12_copyDown_2
      rw [own _ (zmv_row (by decide)) (by rw [zmv_row (by decide)]), pl_bd, if_pos ((zn_le (by omega) (by omega)).mpr (Nat.le_refl _))]
    | succ e ih =>
      intro j fu he
      show bX12_copyDown_2 (lX12_copyDown_2 (fu + e + 1)) _ _ _ = _
      unfold bX12_copyDown_2
      rw [own _ (zmv_row (by decide)) (by rw [zmv_row (by decide)]), pl_bd, if_neg (show ¬ Int32.ofNat n ≤ Int32.ofNat j by rw [zn_le (by omega) (by omega)]; omega), zn_1, zn_15, zn_15, zn_rd (by omega) (by decide), zn_wr (by omega) (by decide), pl_let, zn_1, zmv_src (m := n) (Or.inr (Or.inl (by omega))) (by omega) (by omega), zmv_step rfl]
      exact ih (j + 1) fu (by omega)
  have := loop n 0 (zFU - n - 1) (by omega)
  rw [show zFU - n - 1 + n + 1 = zFU by unfold zFU; omega, zmv_0] at this
  exact this
theorem pl_copyUp {a d n : Nat} {u : zS} (ha : a ≤ 43) (hd : d ≤ 43) (hne : d + 1 = a) (hn : n ≤ 1500) (own : ∀ v : zS, v 31 = u 31 → v 0 68 = u 0 68 → mX12_ownMany (v 0 68) v = some (Int32.ofNat n, v)) : mX12_copyUp (Int32.ofNat a) (Int32.ofNat d) u = some (0, zmv u 42 (1500 * a) 42 (1500 * d) n) := by
  have loop : ∀ (e j fu : Nat), e + j = n → lX12_copyUp_2 (fu + e + 1) (Int32.ofNat a) (Int32.ofNat d) (Int32.ofNat j) (zmv u 42 (1500 * a) 42 (1500 * d) j) = some (0, zmv u 42 (1500 * a) 42 (1500 * d) n) := by
    intro e
    induction e with
    | zero =>
      intro j fu he
      have : j = n := by omega
      subst this
      show bX12_copyUp_2 _ _ _ _ _ = _
      unfold bX12_copyUp_2
      rw [own _ (zmv_row (by decide)) (by rw [zmv_row (by decide)]), pl_bd, if_pos ((zn_le (by omega) (by omega)).mpr (Nat.le_refl _))]
    | succ e ih =>
      intro j fu he
      show bX12_copyUp_2 (lX12_copyUp_2 (fu + e + 1)) _ _ _ _ = _
      unfold bX12_copyUp_2
      rw [own _ (zmv_row (by decide)) (by rw [zmv_row (by decide)]), pl_bd, if_neg (show ¬ Int32.ofNat n ≤ Int32.ofNat j by rw [zn_le (by omega) (by omega)]; omega), zn_15, zn_15, zn_rd (by omega) (by decide), zn_wr (by omega) (by decide), pl_let, zn_1, zmv_src (m := n) (Or.inr (Or.inr (by omega))) (by omega) (by omega), zmv_step rfl]
      exact ih (j + 1) fu (by omega)
  have := loop n 0 (zFU - n - 1) (by omega)
  rw [show zFU - n - 1 + n + 1 = zFU by unfold zFU; omega, zmv_0] at this
  exact this
theorem pl_keepAll {d n b : Nat} {u : zS} (hd : d ≤ 43) (hn : n ≤ 1500) (hb : b + n ≤ 66000) (own : ∀ v : zS, v 31 = u 31 → v 0 68 = u 0 68 → mX12_ownMany (v 0 68) v = some (Int32.ofNat n, v)) : mX12_keepAll (Int32.ofNat d) (Int32.ofNat b) u = some (0, zmv u 42 (1500 * d) 43 b n) := by
  have loop : ∀ (e j fu : Nat), e + j = n → lX12_keepAll_2 (fu + e + 1) (Int32.ofNat d) (Int32.ofNat b) (Int32.ofNat j) (zmv u 42 (1500 * d) 43 b j) = some (0, zmv u 42 (1500 * d) 43 b n) := by
    intro e
    induction e with
    | zero =>
      intro j fu he
      have : j = n := by omega
      subst this
      show bX12_keepAll_2 _ _ _ _ _ = _
      unfold bX12_keepAll_2
      rw [own _ (zmv_row (by decide)) (by rw [zmv_row (by decide)]), pl_bd, if_pos ((zn_le (by omega) (by omega)).mpr (Nat.le_refl _))]
    | succ e ih =>
      intro j fu he
      show bX12_keepAll_2 (lX12_keepAll_2 (fu + e + 1)) _ _ _ _ = _
      unfold bX12_keepAll_2
      rw [own _ (zmv_row (by decide)) (by rw [zmv_row (by decide)]), pl_bd, if_neg (show ¬ Int32.ofNat n ≤ Int32.ofNat j by rw [zn_le (by omega) (by omega)]; omega), pl_channel (by omega) (by omega), pl_bd, zn_add, zn_wr (by omega) (by decide), pl_let, zn_1, zmv_src (m := n) (Or.inl (by decide)) (by omega) (by omega), zmv_step rfl]
      exact ih (j + 1) fu (by omega)
  have := loop n 0 (zFU - n - 1) (by omega)
  rw [show zFU - n - 1 + n + 1 = zFU by unfold zFU; omega, zmv_0] at this
  exact this
theorem pl_backAll {d n b : Nat} {u : zS} (hd : d ≤ 43) (hn : n ≤ 1500) (hb : b + n ≤ 66000) (own : ∀ v : zS, v 31 = u 31 → v 0 68 = u 0 68 → mX12_ownMany (v 0 68) v = some (Int32.ofNat n, v)) : mX12_backAll (Int32.ofNat b) (Int32.ofNat d) u = some (0, zmv u 43 b 42 (1500 * d) n) := by
  have loop : ∀ (e j fu : Nat), e + j = n → lX12_backAll_2 (fu + e + 1) (Int32.ofNat b) (Int32.ofNat d) (Int32.ofNat j) (zmv u 43 b 42 (1500 * d) j) = some (0, zmv u 43 b 42 (1500 * d) n) := by
    intro e
    induction e with
    | zero =>
      intro j fu he
      have : j = n := by omega
      subst this
      show bX12_backAll_2 _ _ _ _ _ = _
      unfold bX12_backAll_2
      rw [own _ (zmv_row (by decide)) (by rw [zmv_row (by decide)]), pl_bd, if_pos ((zn_le (by omega) (by omega)).mpr (Nat.le_refl _))]
    | succ e ih =>
      intro j fu he
      show bX12_backAll_2 (lX12_backAll_2 (fu + e + 1)) _ _ _ _ = _
      unfold bX12_backAll_2
      rw [own _ (zmv_row (by decide)) (by rw [zmv_row (by decide)]), pl_bd, if_neg (show ¬ Int32.ofNat n ≤ Int32.ofNat j by rw [zn_le (by omega) (by omega)]; omega), zn_add, zn_rd (by omega) (by decide), zn_15, zn_wr (by omega) (by decide), pl_let, zn_1, zmv_src (m := n) (Or.inl (by decide)) (by omega) (by omega), zmv_step rfl]
      exact ih (j + 1) fu (by omega)
  have := loop n 0 (zFU - n - 1) (by omega)
  rw [show zFU - n - 1 + n + 1 = zFU by unfold zFU; omega, zmv_0] at this
  exact this
