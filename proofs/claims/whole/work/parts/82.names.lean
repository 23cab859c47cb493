/-! names: what the class's table needs -/
/-- no more holes than doves -/
theorem zpig : ∀ (n m : Nat) (f : Nat → Nat), (∀ i, i < m → f i < n) → (∀ i j, i < m → j < m → f i = f j → i = j) → m ≤ n := by
  intro n
  induction n with
  | zero =>
    intro m f h _
    cases m with
    | zero => exact Nat.le_refl 0
    | succ k => exact absurd (h 0 (by omega)) (by omega)
  | succ n ih =>
    intro m f h hi
    cases m with
    | zero => omega
    | succ k =>
      have hk : k ≤ n := by
        refine ih k (fun i => if f i = n then f k else f i) (fun i hik => ?_) (fun i j hik hjk he => ?_)
        · by_cases q : f i = n
          · simp only [q, if_true]
            have h1 : f k ≠ n := fun e => by have := hi i k (by omega) (by omega) (by omega); omega
            have h2 := h k (by omega)
            omega
          · simp only [q, if_false]
            have h2 := h i (by omega)
            omega
        · by_cases q : f i = n
          · by_cases q2 : f j = n
            · exact hi i j (by omega) (by omega) (by omega)
            · simp only [q, q2, if_true, if_false] at he
              have := hi k j (by omega) (by omega) he
              omega
          · by_cases q2 : f j = n
            · simp only [q, q2, if_true, if_false] at he
              have := hi i k (by omega) (by omega) he
              omega
            · simp only [q, q2, if_false] at he
              exact hi i j (by omega) (by omega) he
      omega
/-- the hash of m letters from p on -/
def zhash (g : Nat → Int32) : Nat → Nat → Int32 → Int32
  | 0, _, v => v
  | m + 1, p, v => zhash g m (p + 1) (v * 31 + g p)
/-- the loop that hashes -/
theorem pl_hash {w : Nat} (hw : w ≤ 3120) {x1 : Int32} : ∀ (d p fu : Nat) (x2 x3 : Int32) (t : zS), d + p = w → x3 = Int32.ofNat p → t 50 6 = Int32.ofNat w → lX10_nameNumber_16 (fu + d + 1) x1 x2 x3 t = lX10_nameNumber_46 zFU x1 (zhash (t 69) d p x2) 0 t := by
  intro d
  induction d with
  | zero =>
    intro p fu x2 x3 t hp h3 h6
    have e : p = w := by omega
    rw [lX10_nameNumber_16]
    unfold bX10_nameNumber_16
    rw [if_pos (by rw [h6, h3, e]; exact Int32.le_refl _), zhash]
  | succ d ih =>
    intro p fu x2 x3 t hp h3 h6
    have e3 : x3.toInt = (p : Int) := by rw [h3]; exact pl_ofn (by omega)
    have e6 : (t 50 6).toInt = (w : Int) := by rw [h6]; exact pl_ofn (by omega)
    rw [show fu + (d + 1) + 1 = (fu + d + 1) + 1 by omega, lX10_nameNumber_16]
    unfold bX10_nameNumber_16
    rw [if_neg (fun x => by have := pl_le.mp x; omega), pl_get (m := p) (by decide) e3 (by omega), pl_bd, pl_let, pl_let, ih (p + 1) fu _ (x3 + 1) t (by omega) (by rw [h3]; exact nI_1 p) h6, zhash]
/-- two stretches of letters are the same -/
def zsame (g : Nat → Int32) : Nat → Nat → Nat → Bool
  | 0, _, _ => true
  | m + 1, p, q => if g p = g q then zsame g m (p + 1) (q + 1) else false
theorem zsame_iff {g : Nat → Int32} : ∀ (m p q : Nat), zsame g m p q = true ↔ ∀ i, i < m → g (p + i) = g (q + i) := by
  intro m
  induction m with
  | zero => intro p q; exact ⟨fun _ i h => absurd h (by omega), fun _ => rfl⟩
  | succ m ih =>
    intro p q
    unfold zsame
    by_cases e : g p = g q
    · rw [if_pos e, ih]
      constructor
      · intro h i hi
        cases i with
        | zero => exact e
        | succ i => have := h i (by omega); rw [show p + (i + 1) = p + 1 + i by omega, show q + (i + 1) = q + 1 + i by omega]; exact this
      · intro h i hi
        have := h (i + 1) (by omega)
        rw [show p + (i + 1) = p + 1 + i by omega, show q + (i + 1) = q + 1 + i by omega] at this
        exact this
    · rw [if_neg e]
      constructor
      · intro h; cases h
      · intro h; exact absurd (h 0 (by omega)) e
/-- the loop that compares -/
theorem pl_sameL {a b m : Nat} (ha : a + m ≤ 3120) (hb : b + m ≤ 3120) : ∀ (d i fu : Nat) (x2 x3 x4 x5 : Int32) (t : zS), d + i = m → x2 = Int32.ofNat b → x3 = Int32.ofNat a → x4 = Int32.ofNat m → x5 = Int32.ofNat i → lX10_isSame_39 (fu + d + 1) x2 x3 x4 x5 t = some ((if zsame (t 69) d (a + i) (b + i) = true then 1 else 0), t) := by
  intro d
  induction d with
  | zero =>
    intro i fu x2 x3 x4 x5 t hi h2 h3 h4 h5
    have e : i = m := by omega
    rw [lX10_isSame_39]
    unfold bX10_isSame_39
    rw [if_pos (by rw [h4, h5, e]; exact Int32.le_refl _), zsame, if_pos rfl]
  | succ d ih =>
    intro i fu x2 x3 x4 x5 t hi h2 h3 h4 h5
    have e2 : x2.toInt = (b : Int) := by rw [h2]; exact pl_ofn (by omega)
    have e3 : x3.toInt = (a : Int) := by rw [h3]; exact pl_ofn (by omega)
    have e4 : x4.toInt = (m : Int) := by rw [h4]; exact pl_ofn (by omega)
    have e5 : x5.toInt = (i : Int) := by rw [h5]; exact pl_ofn (by omega)
    have e35 : (x3 + x5).toInt = ((a + i : Nat) : Int) := by rw [pl_add (by omega) (by omega)]; omega
    have e25 : (x2 + x5).toInt = ((b + i : Nat) : Int) := by rw [pl_add (by omega) (by omega)]; omega
    rw [show fu + (d + 1) + 1 = (fu + d + 1) + 1 by omega, lX10_isSame_39]
    unfold bX10_isSame_39
    rw [if_neg (fun x => by have := pl_le.mp x; omega), pl_get (m := a + i) (by decide) e35 (by omega), pl_bd, pl_get (m := b + i) (by decide) e25 (by omega), pl_bd]
    unfold zsame
    by_cases q : t 69 (a + i) = t 69 (b + i)
    · rw [if_pos q, if_pos q, pl_let, ih (i + 1) fu x2 x3 x4 (x5 + 1) t (by omega) h2 h3 h4 (by rw [h5]; exact nI_1 i)]
      rfl
    · rw [if_neg q, if_neg q]
      rfl
