/-! letters, digits, signs: both sides against one word -/
def zLt (x : Int32) : Prop := (97 ≤ x.toInt ∧ x.toInt ≤ 122) ∨ (65 ≤ x.toInt ∧ x.toInt ≤ 90)
def zDg (x : Int32) : Prop := 48 ≤ x.toInt ∧ x.toInt ≤ 57
def zB1 (p : Prop) (d : Decidable p) : Int32 := if p then 1 else 0
theorem ch_consts : (97 : Int32).toInt = 97 ∧ (122 : Int32).toInt = 122 ∧ (65 : Int32).toInt = 65 ∧ (90 : Int32).toInt = 90 ∧ (48 : Int32).toInt = 48 ∧ (57 : Int32).toInt = 57 := by decide
theorem ch_constL : (97 : Int64).toInt = 97 ∧ (122 : Int64).toInt = 122 ∧ (65 : Int64).toInt = 65 ∧ (90 : Int64).toInt = 90 ∧ (48 : Int64).toInt = 48 ∧ (57 : Int64).toInt = 57 := by decide
theorem pl_cLt {x : Int32} {t : zS} (h : zLt x) : mX10_isLetter x t = some (1, t) := by
  obtain ⟨k1, k2, k3, k4, k5, k6⟩ := ch_consts
  unfold mX10_isLetter
  rcases h with h | h
  · rw [if_neg (fun w => by have := pl_lt.mp w; omega), if_pos (pl_le.mpr (by omega))]
    rfl
  · rw [if_pos (pl_lt.mpr (by omega))]
    unfold bX10_isLetter_12
    rw [if_neg (fun w => by have := pl_lt.mp w; omega), if_neg (fun w => by have := pl_lt.mp w; omega)]
    rfl
theorem pl_cLf {x : Int32} {t : zS} (h : ¬ zLt x) : mX10_isLetter x t = some (0, t) := by
  obtain ⟨k1, k2, k3, k4, k5, k6⟩ := ch_consts
  have b12 : bX10_isLetter_12 x t = some (0, t) := by
    unfold bX10_isLetter_12
    by_cases q : x < 65
    · rw [if_pos q]
    · have q' := pl_le.mp (Int32.not_lt.mp q)
      rw [if_neg q]
      by_cases q2 : (90 : Int32) < x
      · rw [if_pos q2]
      · have q2' := pl_le.mp (Int32.not_lt.mp q2)
        exact absurd (Or.inr ⟨by omega, by omega⟩) h
  unfold mX10_isLetter
  by_cases q : x < 97
  · rw [if_pos q]; exact b12
  · have q' := pl_le.mp (Int32.not_lt.mp q)
    rw [if_neg q]
    by_cases q2 : x ≤ 122
    · have q2' := pl_le.mp q2
      exact absurd (Or.inl ⟨by omega, by omega⟩) h
    · rw [if_neg q2]; exact b12
theorem pl_cDt {x : Int32} {t : zS} (h : zDg x) : mX10_isDigit x t = some (1, t) := by
  obtain ⟨k1, k2, k3, k4, k5, k6⟩ := ch_consts
  obtain ⟨h1, h2⟩ := h
  unfold mX10_isDigit
  rw [if_neg (fun w => by have := pl_lt.mp w; omega), if_neg (fun w => by have := pl_lt.mp w; omega)]
theorem pl_cDf {x : Int32} {t : zS} (h : ¬ zDg x) : mX10_isDigit x t = some (0, t) := by
  obtain ⟨k1, k2, k3, k4, k5, k6⟩ := ch_consts
  unfold mX10_isDigit
  by_cases q : x < 48
  · rw [if_pos q]
  · have q' := pl_le.mp (Int32.not_lt.mp q)
    rw [if_neg q]
    by_cases q2 : (57 : Int32) < x
    · rw [if_pos q2]
    · have q2' := pl_le.mp (Int32.not_lt.mp q2)
      exact absurd ⟨by omega, by omega⟩ h
theorem pl_mDt {x : Int32} {u : zS} (h : zDg x) : mX12_isDigit x u = some (1, u) := by
  obtain ⟨k1, k2, k3, k4, k5, k6⟩ := ch_constL
  obtain ⟨h1, h2⟩ := h
  unfold mX12_isDigit
  rw [pl_int (by omega), pl_bd]
  rfl
theorem pl_mDf {x : Int32} {u : zS} (h : ¬ zDg x) : mX12_isDigit x u = some (0, u) := by
  obtain ⟨k1, k2, k3, k4, k5, k6⟩ := ch_constL
  unfold mX12_isDigit
  rw [pl_inf (fun w => h ⟨by omega, by omega⟩), pl_bd]
  rfl
theorem pl_mLt {x : Int32} {u : zS} (h : zLt x) : mX12_isLetter x u = some (1, u) := by
  obtain ⟨k1, k2, k3, k4, k5, k6⟩ := ch_constL
  unfold mX12_isLetter
  rcases h with h | h
  · rw [pl_int (by omega), pl_bd, if_neg pl_10]
    rfl
  · rw [pl_inf (by omega), pl_bd, if_pos rfl, pl_int (by omega), pl_bd, if_neg pl_10]
    rfl
theorem pl_mLf {x : Int32} {u : zS} (h : ¬ zLt x) : mX12_isLetter x u = some (0, u) := by
  obtain ⟨k1, k2, k3, k4, k5, k6⟩ := ch_constL
  unfold mX12_isLetter
  rw [pl_inf (fun w => h (Or.inl ⟨by omega, by omega⟩)), pl_bd, if_pos rfl, pl_inf (fun w => h (Or.inr ⟨by omega, by omega⟩)), pl_bd, if_pos rfl]
