/-! mentions are looked up: one step on either side -/
theorem zsh_even : ∀ v, v < 1600 → (Int32.ofNat (2 * v) >>> (1 &&& 31 : Int32) = Int32.ofNat v ∧ Int32.ofNat (2 * v) &&& 1 = 0) := by decide +kernel
theorem zsh_odd : ∀ v, v < 1600 → (Int32.ofNat (2 * v + 1) >>> (1 &&& 31 : Int32) = Int32.ofNat v ∧ Int32.ofNat (2 * v + 1) &&& 1 = 1) := by decide +kernel
theorem pl_lackT {t : zS} {k q v fu : Nat} {n : Int32} (h7 : t 5 7 = Int32.ofNat q) (hk : k < q) (hq : q ≤ 1600) (hv : v < 1600) (h56 : t 56 k = Int32.ofNat (2 * v)) : lX7_lackingPlace_2 (fu + 1) n (Int32.ofNat k) t = if 0 ≤ t 25 v then lX7_lackingPlace_2 fu n (Int32.ofNat (k + 1)) t else some (t 54 k, t) := by
  show bX7_lackingPlace_2 (lX7_lackingPlace_2 fu) n (Int32.ofNat k) t = _
  unfold bX7_lackingPlace_2
  obtain ⟨e1, e2⟩ := zsh_even v hv
  rw [h7, if_neg (show ¬ Int32.ofNat q ≤ Int32.ofNat k by rw [zn_le (by omega) (by omega)]; omega), zn_get (by omega) (by decide), pl_bd, pl_let, zn_get (by omega) (by decide), pl_bd, show t (55 + 1) k = _ from h56, e1, e2, if_neg (by decide)]
  unfold bX7_lackingPlace_40 mX2_find bX7_lackingPlace_66
  rw [if_pos rfl, zn_get hv (by decide), pl_bd, pl_bd, pl_let, zn_1, zn_get (by omega) (by decide), pl_bd]
theorem pl_lackP {t : zS} {k q v fu : Nat} {n : Int32} (h7 : t 5 7 = Int32.ofNat q) (hk : k < q) (hq : q ≤ 1600) (hv : v < 1600) (h56 : t 56 k = Int32.ofNat (2 * v + 1)) : lX7_lackingPlace_2 (fu + 1) n (Int32.ofNat k) t = if 0 ≤ t 33 v then lX7_lackingPlace_2 fu n (Int32.ofNat (k + 1)) t else some (t 54 k, t) := by
  show bX7_lackingPlace_2 (lX7_lackingPlace_2 fu) n (Int32.ofNat k) t = _
  unfold bX7_lackingPlace_2
  obtain ⟨e1, e2⟩ := zsh_odd v hv
  rw [h7, if_neg (show ¬ Int32.ofNat q ≤ Int32.ofNat k by rw [zn_le (by omega) (by omega)]; omega), zn_get (by omega) (by decide), pl_bd, pl_let, zn_get (by omega) (by decide), pl_bd, show t (55 + 1) k = _ from h56, e1, e2, if_pos rfl]
  unfold bX7_lackingPlace_40 mX6_find bX7_lackingPlace_66
  rw [if_neg (by decide), zn_get hv (by decide), pl_bd, pl_bd, pl_let, zn_1, zn_get (by omega) (by decide), pl_bd]
