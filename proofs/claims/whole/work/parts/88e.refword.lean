/-! the reference's words -/
/-- what is sure of a text's words, n bytes, m words, V the numbers of their letters -/
def zWf (g : Nat → Int32) (n m : Nat) (V : Nat → Nat) : Prop := zpos g n m = n ∧ m ≤ n ∧ (∀ j, j < m → zpos g n j < n ∧ (zltb (g (zpos g n j)) = true → V j < 1600)) ∧
  (∀ j k, j < m → k < m → zltb (g (zpos g n j)) = true → zltb (g (zpos g n k)) = true → (V j = V k ↔ zTx g n j k)) ∧
  (∀ j k, j < m → k < 18 → zltb (g (zpos g n j)) = true → (V j = k ↔ zKn g n j k))
theorem zWf_of {g : Nat → Int32} {n m : Nat} {V : Nat → Nat} {t : zS} (h : zWds g n m V t) : zWf g n m V :=
  ⟨h.1, h.2.1, fun j hj => ⟨(h.2.2.1 j hj).1, (h.2.2.1 j hj).2.2⟩, h.2.2.2.2.2.1, h.2.2.2.2.2.2⟩
/-- the words that are NAMES -/
def zPn (g : Nat → Int32) (n m : Nat) (V : Nat → Nat) (j : Nat) : Bool := decide (j < m ∧ zltb (g (zpos g n j)) = true ∧ 17 ≤ V j)
def zNs (g : Nat → Int32) (n m : Nat) (V : Nat → Nat) (i : Nat) : List Nat := zLs (zPn g n m V) V i
theorem zNs_len {g : Nat → Int32} {n m : Nat} {V : Nat → Nat} (W : zWf g n m V) (i : Nat) : (zNs g n m V i).length ≤ 1600 := by
  refine zLs_len (fun j hj => ?_) i
  unfold zPn at hj
  rw [decide_eq_true_iff] at hj
  exact (W.2.2.1 j hj.1).2 hj.2.1
def zNM (g : Nat → Int32) (n m : Nat) (V : Nat → Nat) (i : Nat) (u : zS) : Prop := u 0 11 = Int32.ofNat (zNs g n m V i).length ∧ ∀ k v, (zNs g n m V i)[k]? = some v → ∃ j, j < m ∧ zltb (g (zpos g n j)) = true ∧ V j = v ∧ u 3 k = Int32.ofNat (zpos g n j) ∧ u 4 k = Int32.ofNat (zend g n (zpos g n j) - zpos g n j)
/-- the reference's word i -/
def zWM (g : Nat → Int32) (n m : Nat) (V : Nat → Nat) (i : Nat) (u : zS) : Prop := u 0 6 = Int32.ofNat (zpos g n i) ∧
  (zpos g n i = n → u 0 5 = 0 ∧ u 0 4 = Int32.ofNat n) ∧ (zpos g n i < n → u 0 4 = Int32.ofNat (zend g n (zpos g n i)) ∧
    (zltb (g (zpos g n i)) = true → (V i < 17 → u 0 5 = 5 ∧ u 0 8 = Int32.ofNat (V i + 1)) ∧ (17 ≤ V i → u 0 5 = 2 ∧ ∃ w, u 0 8 = Int32.ofNat w ∧ (zNs g n m V (i + 1))[w]? = some (V i))) ∧
    (zltb (g (zpos g n i)) = false → zdig (g (zpos g n i)) = true → u 0 5 = (if zend g n (zpos g n i) - zpos g n i ≤ 9 then 3 else 1) ∧ (zend g n (zpos g n i) - zpos g n i ≤ 9 → u 0 8 = znum g (zend g n (zpos g n i) - zpos g n i) (zpos g n i) 0)) ∧
    (zltb (g (zpos g n i)) = false → zdig (g (zpos g n i)) = false → u 0 5 = (if g (zpos g n i) ∈ zSgs then 4 else 1) ∧ u 0 8 = (if g (zpos g n i) = 61 ∧ zpos g n i + 1 < n ∧ g (zpos g n i + 1) = 61 then 69 else g (zpos g n i))))
def zMfr (u u2 : zS) : Prop := (∀ k, k ≠ 0 → k ≠ 3 → k ≠ 4 → u2 k = u k) ∧ ∀ j, j ≠ 4 → j ≠ 5 → j ≠ 6 → j ≠ 7 → j ≠ 8 → j ≠ 11 → u2 0 j = u 0 j
theorem zMfr_trans {a b c : zS} (h : zMfr a b) (h2 : zMfr b c) : zMfr a c :=
  ⟨fun k k1 k2 k3 => (h2.1 k k1 k2 k3).trans (h.1 k k1 k2 k3), fun j a1 a2 a3 a4 a5 a6 => (h2.2 j a1 a2 a3 a4 a5 a6).trans (h.2 j a1 a2 a3 a4 a5 a6)⟩
theorem zMfr_refl (u : zS) : zMfr u u := ⟨fun _ _ _ _ => rfl, fun _ _ _ _ _ _ _ => rfl⟩
theorem zMfr_0 {u : zS} {j : Nat} {v : Int32} (h : j = 4 ∨ j = 5 ∨ j = 6 ∨ j = 7 ∨ j = 8 ∨ j = 11) : zMfr u (zu u 0 j v) := by
  refine ⟨fun k k1 _ _ => zu_row k1, fun j' a1 a2 a3 a4 a5 a6 => zu_ne2 ?_⟩
  rcases h with h | h | h | h | h | h <;> subst h <;> assumption
theorem zMfr_34 {u : zS} {c j : Nat} {v : Int32} (h : c = 3 ∨ c = 4) : zMfr u (zu u c j v) := by
  refine ⟨fun k k1 k2 k3 => zu_row ?_, fun j' _ _ _ _ _ _ => zu_ne1 ?_⟩
  · rcases h with h | h <;> subst h <;> assumption
  · rcases h with h | h <;> subst h <;> decide
/-- the letters of a known word -/
def zkwl (k : Nat) : List Int32 := [[116, 121, 112, 101], [112, 114, 111, 99], [115, 101, 110, 100], [114, 101, 99, 118], [112, 97, 115, 115], [116, 97, 107, 101], [112, 105, 99, 107], [99, 97, 115, 101], [115, 112, 97, 119, 110], [98, 101, 99, 111, 109, 101], [105, 102], [101, 108, 115, 101], [119, 104, 105, 108, 101], [112, 117, 116], [103, 101, 116], [105, 110, 116], [101, 110, 100], [109, 97, 105, 110]].getD k []
def zls (g : Nat → Int32) : List Int32 → Nat → Bool
  | [], _ => true
  | a :: r, p => decide (g p = a) && zls g r (p + 1)
theorem zls_iff {g : Nat → Int32} : ∀ (l : List Int32) (p : Nat), zls g l p = true ↔ ∀ i, i < l.length → g (p + i) = l.getD i 0 := by
  intro l
  induction l with
  | nil => intro p; exact ⟨fun _ i hi => absurd hi (Nat.not_lt_zero i), fun _ => rfl⟩
  | cons a r ih =>
    intro p
    unfold zls
    rw [Bool.and_eq_true, decide_eq_true_iff, ih (p + 1)]
    constructor
    · rintro ⟨h1, h2⟩ i hi
      cases i with
      | zero => exact h1
      | succ i =>
        rw [List.length_cons] at hi
        have := h2 i (by omega)
        rw [show p + (i + 1) = p + 1 + i by omega, this]
        rfl
    · intro h
      refine ⟨h 0 (by rw [List.length_cons]; omega), fun i hi => ?_⟩
      have := h (i + 1) (by rw [List.length_cons]; omega)
      rw [show p + (i + 1) = p + 1 + i by omega] at this
      rw [this]; rfl
theorem zkwl_all : ∀ k, k < 18 → (zkwl k).length = zkf (k + 1) - zkf k ∧ ∀ i, i < (zkwl k).length → (zkwl k).getD i 0 = zkl (zkf k + i) := by decide +kernel
theorem zKn_iff {g : Nat → Int32} {n j k : Nat} (hk : k < 18) : zKn g n j k ↔ (zend g n (zpos g n j) - zpos g n j = (zkwl k).length ∧ zls g (zkwl k) (zpos g n j) = true) := by
  obtain ⟨h1, h2⟩ := zkwl_all k hk
  unfold zKn
  rw [h1, zls_iff]
  constructor
  · rintro ⟨a, b⟩
    exact ⟨a, fun i hi => by rw [h2 i hi]; exact b i (by omega)⟩
  · rintro ⟨a, b⟩
    exact ⟨a, fun i hi => by rw [← h2 i (by omega)]; exact b i (by omega)⟩
