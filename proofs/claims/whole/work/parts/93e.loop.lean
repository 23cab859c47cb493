/-! types that lead to themselves by NAMES alone -/
theorem zPigeon : ∀ (T : Nat) (a : Nat → Nat), (∀ i, i ≤ T → a i < T) → ∃ i j, i < j ∧ j ≤ T ∧ a i = a j := by
  intro T
  induction T with
  | zero => intro a h; exact absurd (h 0 (Nat.le_refl _)) (Nat.not_lt_zero _)
  | succ T ih =>
    intro a h
    by_cases c : ∃ i, i ≤ T ∧ a i = a (T + 1)
    · obtain ⟨i, c1, c2⟩ := c
      exact ⟨i, T + 1, by omega, Nat.le_refl _, c2⟩
    · have hn : ∀ i, i ≤ T → ¬ a i = a (T + 1) := fun i hi e => c ⟨i, hi, e⟩
      have hT := h (T + 1) (Nat.le_refl _)
      obtain ⟨i, j, e1, e2, e3⟩ := ih (fun i => if a i = T then a (T + 1) else a i) (fun i hi => by
        have h1 := h i (by omega)
        have h2 := hn i hi
        show (if a i = T then a (T + 1) else a i) < T
        by_cases e : a i = T
        · rw [if_pos e]; omega
        · rw [if_neg e]; omega)
      refine ⟨i, j, e1, by omega, ?_⟩
      have e3' : (if a i = T then a (T + 1) else a i) = (if a j = T then a (T + 1) else a j) := e3
      have h2 := hn i (by omega)
      have h3 := hn j (by omega)
      by_cases x : a i = T
      · by_cases y : a j = T
        · omega
        · rw [if_pos x, if_neg y] at e3'; exact absurd e3'.symm h3
      · by_cases y : a j = T
        · rw [if_neg x, if_pos y] at e3'; exact absurd e3' h2
        · rw [if_neg x, if_neg y] at e3'; exact e3'
def zIt (nx : Nat → Option Nat) : Nat → Nat → Option Nat
  | 0, k => some k
  | n + 1, k => (zIt nx n k).bind nx
theorem zIt_add {nx : Nat → Option Nat} {a k : Nat} : ∀ b, zIt nx (a + b) k = (zIt nx a k).bind (zIt nx b) := by
  intro b
  induction b with
  | zero =>
    show zIt nx a k = _
    cases zIt nx a k <;> rfl
  | succ b ih =>
    show (zIt nx (a + b) k).bind nx = _
    rw [ih]
    cases zIt nx a k <;> rfl
theorem zIt_pre {nx : Nat → Option Nat} {a b k x : Nat} (h : zIt nx b k = some x) (hab : a ≤ b) : ∃ y, zIt nx a k = some y := by
  have e : b = a + (b - a) := by omega
  rw [e, zIt_add] at h
  cases q : zIt nx a k with
  | none => rw [q] at h; cases h
  | some y => exact ⟨y, rfl⟩
theorem zIt_lt {nx : Nat → Option Nat} {T k : Nat} (hk : k < T) (hn : ∀ a b, a < T → nx a = some b → b < T) : ∀ n x, zIt nx n k = some x → x < T := by
  intro n
  induction n with
  | zero => intro x h; rw [← Option.some.inj h]; exact hk
  | succ n ih =>
    intro x h
    cases q : zIt nx n k with
    | none =>
      have h' : (zIt nx n k).bind nx = some x := h
      rw [q] at h'; cases h'
    | some y =>
      have h' : (zIt nx n k).bind nx = some x := h
      rw [q] at h'
      exact hn y x (ih y q) h'
/-- who comes back at all comes back within T steps -/
theorem zLate {nx : Nat → Option Nat} {T k : Nat} (hk : k < T) (hn : ∀ a b, a < T → nx a = some b → b < T) (h : zIt nx (T + 1) k = some k) : ∃ j, 1 ≤ j ∧ j ≤ T ∧ zIt nx j k = some k := by
  have ha : ∀ i, i ≤ T → zIt nx i k = some ((zIt nx i k).getD 0) := fun i hi => by
    obtain ⟨y, hy⟩ := zIt_pre h (show i ≤ T + 1 by omega)
    rw [hy]; rfl
  obtain ⟨i, j, h1, h2, h3⟩ := zPigeon T (fun i => (zIt nx i k).getD 0) (fun i hi => zIt_lt hk hn i _ (ha i hi))
  refine ⟨i + (T + 1 - j), by omega, by omega, ?_⟩
  have e : zIt nx i k = zIt nx j k := by
    rw [ha i (by omega), ha j h2]
    exact congrArg some h3
  rw [zIt_add, e, ← zIt_add, show j + (T + 1 - j) = T + 1 by omega]
  exact h
/-- the type that a type's NAME stands for -/
def zNx (t : zS) (k : Nat) : Option Nat := if t 9 (t 21 k).toNatClampNeg = 2 ∨ t 9 (t 21 k).toNatClampNeg = 3 then some (t 25 (t 11 (t 21 k).toNatClampNeg).toNatClampNeg).toNatClampNeg else none
/-- a NODE is a NAME's, or it isn't, on both sides -/
theorem zTL_nm {B : List Nat} {f : Nat → Nat} {N P A T c : Nat} {t u : zS} (h : zTL B (zRn T (t 25)) f N P A t u c) : (¬ (t 9 c = 2 ∨ t 9 c = 3) ∧ ¬ (u 5 (f c) = 1 ∨ u 5 (f c) = 2)) ∨ (((t 9 c = 2 ∧ u 5 (f c) = 1) ∨ (t 9 c = 3 ∧ u 5 (f c) = 2)) ∧ ∃ v k, v < 1600 ∧ t 11 c = Int32.ofNat v ∧ t 25 v = Int32.ofNat k ∧ u 6 (f c) = Int32.ofNat k ∧ k < T) := by
  rcases h with h | ⟨h1, h2⟩ | ⟨h1, _⟩ | ⟨h1, _⟩ | ⟨h1, _⟩
  · exact Or.inl ⟨by rw [h.1]; decide, by rw [h.2]; decide⟩
  · exact Or.inr ⟨h1, h2⟩
  · exact Or.inl ⟨by rcases h1 with e | e <;> rw [e.1] <;> decide, by rcases h1 with e | e <;> rw [e.2] <;> decide⟩
  · exact Or.inl ⟨by rcases h1 with e | e <;> rw [e.1] <;> decide, by rcases h1 with e | e <;> rw [e.2] <;> decide⟩
  · exact Or.inl ⟨by rcases h1 with e | e <;> rw [e.1] <;> decide, by rcases h1 with e | e <;> rw [e.2] <;> decide⟩
theorem zNx_at {G : zTxt} {f : Nat → Nat} {N M P A T k : Nat} {t u : zS} (h : zTD (zBk G) (zRn T (t 25)) f [] N M P A t u) (hd : zDs2 G f N T t u) (hk : k < T) (hN : N ≤ 3000) (hT : T ≤ 400) : ∃ c, c < N ∧ f c < M ∧ t 21 k = Int32.ofNat c ∧ u 13 k = Int32.ofNat (f c) ∧ ((zNx t k = none ∧ ¬ (t 9 c = 2 ∨ t 9 c = 3) ∧ ¬ (u 5 (f c) = 1 ∨ u 5 (f c) = 2)) ∨ ∃ v k2, zNx t k = some k2 ∧ ((t 9 c = 2 ∧ u 5 (f c) = 1) ∨ (t 9 c = 3 ∧ u 5 (f c) = 2)) ∧ v < 1600 ∧ t 11 c = Int32.ofNat v ∧ t 25 v = Int32.ofNat k2 ∧ u 6 (f c) = Int32.ofNat k2 ∧ k2 < T) := by
  obtain ⟨_, c, c1, c2, c3⟩ := hd.2.2.2 k hk
  refine ⟨c, c1, h.2.2.2.2.1 c c1, c2, c3, ?_⟩
  have e1 : (t 21 k).toNatClampNeg = c := by rw [c2]; exact pl_clamp (pl_ofn (by omega))
  rcases zTL_nm (h.2.2.2.2.2.2 c c1 (by simp)) with ⟨a, b⟩ | ⟨a, v, k2, b1, b2, b3, b4, b5⟩
  · exact Or.inl ⟨by unfold zNx; rw [e1, if_neg a], a, b⟩
  · refine Or.inr ⟨v, k2, ?_, a, b1, b2, b3, b4, b5⟩
    unfold zNx
    rw [e1, if_pos (by rcases a with e | e; exact Or.inl e.1; exact Or.inr e.1), b2, show (Int32.ofNat v).toNatClampNeg = v from pl_clamp (pl_ofn (by omega)), b3, show (Int32.ofNat k2).toNatClampNeg = k2 from pl_clamp (pl_ofn (by omega))]
theorem zNx_lt {G : zTxt} {f : Nat → Nat} {N M P A T : Nat} {t u : zS} (h : zTD (zBk G) (zRn T (t 25)) f [] N M P A t u) (hd : zDs2 G f N T t u) (hN : N ≤ 3000) (hT : T ≤ 400) : ∀ a b, a < T → zNx t a = some b → b < T := by
  intro a b ha hb
  obtain ⟨c, c1, c2, c3, c4, ⟨e, _⟩ | ⟨v, k2, e, _, _, _, _, _, e7⟩⟩ := zNx_at h hd ha hN hT
  · rw [e] at hb; cases hb
  · rw [e] at hb; rw [← Option.some.inj hb]; exact e7
