theorem pl_isSame {t : zS} {v a a2 b w : Nat} (hv : v + 1 < 1602) (h1 : t 71 v = Int32.ofNat a) (h2 : t 71 (v + 1) = Int32.ofNat a2) (ha : a ≤ a2) (ha2 : a2 ≤ 3120) (hb : b ≤ w) (hw : w ≤ 3120) (h6 : t 50 6 = Int32.ofNat w) : mX10_isSame (Int32.ofNat v) (Int32.ofNat b) t = some ((if a2 - a = w - b ∧ zsame (t 69) (w - b) a b = true then 1 else 0), t) := by
  have ev : (Int32.ofNat v).toInt = (v : Int) := pl_ofn (by omega)
  have ev1 : (Int32.ofNat v + 1).toInt = ((v + 1 : Nat) : Int) := by
    have w1 : (1 : Int32).toInt = 1 := by decide
    rw [pl_add (by omega) (by omega)]; omega
  have ea : (Int32.ofNat a).toInt = (a : Int) := pl_ofn (by omega)
  have ea2 : (Int32.ofNat a2).toInt = (a2 : Int) := pl_ofn (by omega)
  have eb : (Int32.ofNat b).toInt = (b : Int) := pl_ofn (by omega)
  have ew : (Int32.ofNat w).toInt = (w : Int) := pl_ofn (by omega)
  have d1 : (Int32.ofNat w - Int32.ofNat b) = Int32.ofNat (w - b) := pl_ext (by rw [pl_sub (by omega) (by omega), ew, eb, pl_ofn (by omega)]; omega)
  have d2 : (Int32.ofNat a2 - Int32.ofNat a) = Int32.ofNat (a2 - a) := pl_ext (by rw [pl_sub (by omega) (by omega), ea2, ea, pl_ofn (by omega)]; omega)
  unfold mX10_isSame
  rw [pl_get (m := v) (by decide) ev (by omega), pl_bd, pl_let, pl_get (m := v + 1) (by decide) ev1 hv, pl_bd, h1, h2, h6, d1, d2]
  by_cases q : a2 - a = w - b
  · rw [if_pos (by rw [q]), show zFU = (999999 - (w - b)) + (w - b) + 1 by show 1000000 = _; omega, pl_sameL (a := a) (b := b) (m := w - b) (by omega) (by omega) (w - b) 0 _ _ _ _ (0 : Int32) t (by omega) rfl rfl rfl rfl, Nat.add_zero, Nat.add_zero]
    by_cases q2 : zsame (t 69) (w - b) a b = true
    · rw [if_pos q2, if_pos ⟨q, q2⟩]
    · rw [if_neg q2, if_neg (fun x => q2 x.2)]
  · rw [if_neg (fun e => q (by
      have := congrArg Int32.toInt e
      rw [pl_ofn (by omega), pl_ofn (by omega)] at this
      omega)), if_neg (fun x => q x.1)]
/-- the class's names: n of them, their letters one behind the other, each at one place of the table, and behind no hole on its way -/
def zNT (t : zS) (n : Nat) (fl : Nat → Nat) (sl : Nat → Nat) : Prop := n ≤ 1600 ∧ t 50 5 = Int32.ofNat n ∧ fl 0 = 0 ∧ (∀ v, v ≤ n → t 71 v = Int32.ofNat (fl v)) ∧ (∀ v, v < n → fl v ≤ fl (v + 1)) ∧ fl n ≤ 3100 ∧
  (∀ v, v < n → sl v < 4096 ∧ t 73 (sl v) = Int32.ofNat v) ∧ (∀ s, s < 4096 → (t 73 s).toInt < 0 ∨ ∃ v, v < n ∧ sl v = s) ∧
  (∀ v w, v < n → w < n → fl (v + 1) - fl v = fl (w + 1) - fl w → zsame (t 69) (fl (v + 1) - fl v) (fl v) (fl w) = true → v = w) ∧
  (∀ v, v < n → ∃ i, i < 4096 ∧ ((zhash (t 69) (fl (v + 1) - fl v) (fl v) 0 + Int32.ofNat i) &&& 4095).toInt = (sl v : Int) ∧ ∀ j, j < i → ∃ w, w < n ∧ ((zhash (t 69) (fl (v + 1) - fl v) (fl v) 0 + Int32.ofNat j) &&& 4095).toInt = (sl w : Int))
theorem zand_rng (x : Int32) : 0 ≤ (x &&& 4095).toInt ∧ (x &&& 4095).toInt < 4096 := by
  have h1 : (x &&& 4095).toBitVec.toNat ≤ 4095 := by
    rw [Int32.toBitVec_and, BitVec.toNat_and]
    exact Nat.and_le_right
  have h2 : (x &&& 4095).toInt = ((x &&& 4095).toBitVec.toNat : Int) := BitVec.toInt_eq_toNat_of_lt (by omega)
  omega
