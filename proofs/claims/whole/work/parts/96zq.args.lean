/-! ARGUMENTS of a call in a run -/
def zJa (t : zS) (a i : Nat) : Nat := (t 83 (a + i)).toNatClampNeg
def zGrw (t : zS) (b a k : Nat) : Nat → (Nat → Int32) → (Nat → Int32)
  | 0, r => r
  | i + 1, r => if 0 ≤ t 45 (b + (k + i)) then zur (zGrw t b a k i r) (zJa t a i) (-1) else zGrw t b a k i r
theorem zGrw_front {t : zS} {b a k : Nat} : ∀ (m : Nat) (r : Nat → Int32), zGrw t b a k (m + 1) r = zGrw t b (a + 1) (k + 1) m (if 0 ≤ t 45 (b + k) then zur r (zJa t a 0) (-1) else r) := by
  intro m
  induction m with
  | zero => intro r; rfl
  | succ m ih =>
    intro r
    show (if 0 ≤ t 45 (b + (k + (m + 1))) then zur (zGrw t b a k (m + 1) r) (zJa t a (m + 1)) (-1) else zGrw t b a k (m + 1) r) = (if 0 ≤ t 45 (b + (k + 1 + m)) then zur (zGrw t b (a + 1) (k + 1) m _) (zJa t (a + 1) m) (-1) else zGrw t b (a + 1) (k + 1) m _)
    rw [ih r, show k + (m + 1) = k + 1 + m by omega, show zJa t (a + 1) m = zJa t a (m + 1) by unfold zJa; rw [show a + 1 + m = a + (m + 1) by omega]]
theorem zGrw_or {t : zS} {b a k : Nat} {r : Nat → Int32} : ∀ (i j : Nat), zGrw t b a k i r j = r j ∨ zGrw t b a k i r j = -1 := by
  intro i
  induction i with
  | zero => intro j; exact Or.inl rfl
  | succ i ih =>
    intro j
    show (if 0 ≤ t 45 (b + (k + i)) then zur (zGrw t b a k i r) (zJa t a i) (-1) else zGrw t b a k i r) j = r j ∨ (if 0 ≤ t 45 (b + (k + i)) then zur (zGrw t b a k i r) (zJa t a i) (-1) else zGrw t b a k i r) j = -1
    split
    · unfold zur
      split
      · exact Or.inr rfl
      · exact ih j
    · exact ih j
theorem zGv_steps {D : zCo} {N b : Nat} {t : zS} (hN : N ≤ 3000) : ∀ (m a k : Nat) (r r2 : Nat → Int32), zGv D N t b m a k r r2 → (∀ i, i < m → t 45 (b + (k + i)) = -1 ∨ ∃ x c, t 83 (a + i) = Int32.ofNat (zJa t a i) ∧ zJa t a i < 3000 ∧ zGrw t b a k i r (zJa t a i) = Int32.ofNat x ∧ zV N t x ∧ c < N ∧ t 45 (b + (k + i)) = Int32.ofNat (2 * c) ∧ zEq D x (zSg2 t (2 * c))) ∧ r2 = zGrw t b a k m r := by
  intro m
  induction m with
  | zero => intro a k r r2 h; exact ⟨fun i hi => absurd hi (Nat.not_lt_zero _), h⟩
  | succ m ih =>
    intro a k r r2 h
    have key : ∀ r', zGv D N t b m (a + 1) (k + 1) r' r2 → r' = (if 0 ≤ t 45 (b + k) then zur r (zJa t a 0) (-1) else r) → (t 45 (b + (k + 0)) = -1 ∨ ∃ x c, t 83 (a + 0) = Int32.ofNat (zJa t a 0) ∧ zJa t a 0 < 3000 ∧ zGrw t b a k 0 r (zJa t a 0) = Int32.ofNat x ∧ zV N t x ∧ c < N ∧ t 45 (b + (k + 0)) = Int32.ofNat (2 * c) ∧ zEq D x (zSg2 t (2 * c))) → (∀ i, i < m + 1 → t 45 (b + (k + i)) = -1 ∨ ∃ x c, t 83 (a + i) = Int32.ofNat (zJa t a i) ∧ zJa t a i < 3000 ∧ zGrw t b a k i r (zJa t a i) = Int32.ofNat x ∧ zV N t x ∧ c < N ∧ t 45 (b + (k + i)) = Int32.ofNat (2 * c) ∧ zEq D x (zSg2 t (2 * c))) ∧ r2 = zGrw t b a k (m + 1) r := fun r' h1 e h0 => by
      obtain ⟨q1, q2⟩ := ih (a + 1) (k + 1) r' r2 h1
      refine ⟨fun i hi => ?_, by rw [q2, zGrw_front, e]⟩
      cases i with
      | zero => exact h0
      | succ i =>
        have := q1 i (by omega)
        rw [show zJa t (a + 1) i = zJa t a (i + 1) by unfold zJa; rw [show a + 1 + i = a + (i + 1) by omega], show a + 1 + i = a + (i + 1) by omega, show k + 1 + i = k + (i + 1) by omega, e, ← zGrw_front] at this
        exact this
    rcases h with ⟨h1, h2⟩ | ⟨j, x, c, ⟨h1, h1'⟩, h2, h3, h4, h5, h6, h7⟩
    · exact key r h2 (by rw [h1, if_neg (by decide)]) (Or.inl (by rw [Nat.add_zero]; exact h1))
    · have ej : zJa t a 0 = j := by unfold zJa; rw [Nat.add_zero, h1]; exact pl_clamp (pl_ofn (by omega))
      refine key (zur r j (-1)) h7 (by rw [h5, if_pos (zn_0le (by omega)), ej]) (Or.inr ⟨x, c, by rw [ej, Nat.add_zero]; exact h1, by rw [ej]; exact h1', ?_, h3, h4, by rw [Nat.add_zero]; exact h5, h6⟩)
      rw [ej]; exact h2
theorem pl_form {t : zS} {x p0 k : Nat} (hx : x < 400) (h35 : t 35 x = Int32.ofNat p0) (hk : p0 + k < 1600) : mX6_form (Int32.ofNat x) (Int32.ofNat k) t = some (t 45 (p0 + k), t) := by
  unfold mX6_form
  rw [zn_get hx (by decide), pl_bd, h35, zn_add, zn_get hk (by decide), pl_bd]
