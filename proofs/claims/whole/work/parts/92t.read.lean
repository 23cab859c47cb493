/-! all is read -/
theorem zFP_R0 {t t2 : zS} (h : zFP zpR t t2) : zFP zpR0 t t2 := zFP_mono h (fun k j q => by unfold zpR0 at q; exact (Bool.and_eq_true _ _ ▸ q).1)
theorem zFP_M0 {t t2 : zS} (h : zFP zpM t t2) : zFP zpM0 t t2 := zFP_mono h (fun k j q => by
  unfold zpM0 at q
  unfold zpM
  simp only [Bool.or_eq_true, beq_iff_eq, Bool.and_eq_true, decide_eq_true_eq, Bool.not_eq_true', beq_eq_false_iff_ne] at q ⊢
  omega)
theorem zReadAll {t u : zS} {n : Nat} (hn : n ≤ 3000) (hb : ∀ j, j < n → 0 ≤ t 2 j ∧ t 2 j ≤ 255) (he : ∀ j, j < n → u 1 j = t 2 j) (h1 : u 0 1 = Int32.ofNat n) :
    ∃ t2 u2 km G, mX7_readAll (Int32.ofNat n) t = bX7_readAll_129 (Int32.ofNat n) t2 ∧ mX12_program u = bX12_program_134 km 0 u2 ∧ ((∃ i, zAny G i t2 u2 ∧ t2 5 9 = 19) ∨ zEr t2 u2) ∧ G.2.1 = n ∧ zFP zpR0 t t2 ∧ zFP zpM0 u u2 ∧ u2 0 1 = 0 ∧ u2 0 57 = 0 ∧ u2 0 71 = 0 ∧ ∀ x, x < 6000 → t2 29 x = Int32.ofNat x := by
  obtain ⟨t1, u1, G, a1, a2, a3, a4, a5, a6, a7, a8, a9, a10⟩ := zStart hn hb he h1
  obtain ⟨t2, u2, km, b1, b2, b3⟩ := zAllL (t0 := t1) (u0 := u1) (x := Int32.ofNat n) 3001 0 (zFU - 3003) (zFU - 3003) 0 t1 u1 (by omega) a3 (Nat.le_refl _) (Or.inl rfl) (zFP_refl _ _) (zFP_refl _ _)
  rw [show zFU - 3003 + 3001 + 2 = zFU by unfold zFU; omega] at b1 b2
  have fr : zFP zpR t1 t2 ∧ zFP zpM u1 u2 := by
    rcases b3 with ⟨i2, c1, c2, c3, c4⟩ | b3
    · exact ⟨c3, c4⟩
    · exact b3.2
  refine ⟨t2, u2, km, G, a1.trans b1, a2.trans b2, ?_, a4, zFP_trans a5 (zFP_R0 fr.1), zFP_trans a6 (zFP_M0 fr.2), by rw [fr.2 0 1 rfl]; exact a7, by rw [fr.2 0 57 rfl]; exact a8, by rw [fr.2 0 71 rfl]; exact a9, fun x hx => by rw [fr.1 29 x rfl]; exact a10 x hx⟩
  rcases b3 with ⟨i2, c1, c2, c3, c4⟩ | b3
  · exact Or.inl ⟨i2, c1, c2⟩
  · exact Or.inr b3.1
