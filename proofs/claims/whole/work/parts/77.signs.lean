/-! signs: a row of characters on the reference's side, indexOf on the class's -/
def zSgs : List Int32 := [59, 61, 40, 41, 123, 125, 44, 58, 33, 63, 43, 38, 126, 45, 42, 47, 37, 60]
theorem pl_mSg {x : Int32} {u : zS} : mX12_isSignByte x u = some ((if x ∈ zSgs then 1 else 0), u) := by
  unfold mX12_isSignByte bX12_isSignByte_108
  by_cases h : x ∈ zSgs
  · rw [if_pos h]
    simp only [zSgs, List.mem_cons, List.not_mem_nil, or_false] at h
    rcases h with e | e | e | e | e | e | e | e | e | e | e | e | e | e | e | e | e | e <;> subst e <;> rfl
  · rw [if_neg h]
    simp only [zSgs, List.mem_cons, List.not_mem_nil, or_false, not_or] at h
    obtain ⟨h1, h2, h3, h4, h5, h6, h7, h8, h9, h10, h11, h12, h13, h14, h15, h16, h17, h18⟩ := h
    rw [if_neg h1, if_neg h2, if_neg h3, if_neg h4, if_neg h5, if_neg h6, if_neg h7, if_neg h8, if_neg h9, if_neg h10, if_neg h11, if_neg h12, if_neg h13, if_neg h14, if_neg h15, if_neg h16, if_neg h17, if_neg h18]
theorem pl_cSg {x : Int32} (h0 : 0 ≤ x) (h1 : x ≤ 255) : zsix 1 (Int32.toUInt32 x % 65536).toInt32 < 0 ↔ ¬ x ∈ zSgs := by
  have k : ∀ n, n < 256 → (zsix 1 (Int32.toUInt32 (Int32.ofNat n) % 65536).toInt32 < 0 ↔ ¬ (Int32.ofNat n) ∈ zSgs) := by decide +kernel
  have e := zofn_of h0
  have z255 : (255 : Int32).toInt = 255 := by decide
  have g1 := pl_le.mp h1
  have g2 := pl_nat h0
  rw [e]
  exact k _ (by omega)
/-- a byte that is no blank, no letter and no digit, on the class's side: one place on, its kind told by the row of signs -/
theorem pl_cutSign46 {x2 x4 : Int32} {t : zS} (h0 : 0 ≤ x4) (h1 : x4 ≤ 255) : bX10_cutSign_46 x2 x4 t = bX10_cutSign_70 x2 (if x4 ∈ zSgs then x4 else 20) t := by
  unfold bX10_cutSign_46
  rw [if_neg (Int32.not_lt.mpr h0)]
  by_cases q : x4 ∈ zSgs
  · rw [if_neg (fun w => (pl_cSg h0 h1).mp w q), if_pos q]
  · rw [if_pos ((pl_cSg h0 h1).mpr q), if_neg q]
    rfl
