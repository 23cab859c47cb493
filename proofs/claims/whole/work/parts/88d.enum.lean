/-! names in the order in which they come first -/
def zLs (P : Nat → Bool) (V : Nat → Nat) : Nat → List Nat
  | 0 => []
  | j + 1 => if P j = true ∧ ¬ V j ∈ zLs P V j then zLs P V j ++ [V j] else zLs P V j
theorem zLs_mem {P : Nat → Bool} {V : Nat → Nat} : ∀ (j v : Nat), v ∈ zLs P V j → ∃ k, k < j ∧ P k = true ∧ V k = v := by
  intro j
  induction j with
  | zero => intro v h; cases h
  | succ j ih =>
    intro v h
    unfold zLs at h
    by_cases q : P j = true ∧ ¬ V j ∈ zLs P V j
    · rw [if_pos q] at h
      rcases List.mem_append.mp h with h | h
      · obtain ⟨k, k1, k2⟩ := ih v h; exact ⟨k, by omega, k2⟩
      · rw [List.mem_singleton] at h; exact ⟨j, by omega, q.1, h.symm⟩
    · rw [if_neg q] at h
      obtain ⟨k, k1, k2⟩ := ih v h; exact ⟨k, by omega, k2⟩
theorem zLs_in {P : Nat → Bool} {V : Nat → Nat} {j : Nat} (h : P j = true) : V j ∈ zLs P V (j + 1) := by
  unfold zLs
  by_cases q : P j = true ∧ ¬ V j ∈ zLs P V j
  · rw [if_pos q]; exact List.mem_append.mpr (Or.inr (List.mem_singleton.mpr rfl))
  · rw [if_neg q]
    exact Classical.byContradiction (fun w => q ⟨h, w⟩)
theorem zLs_mono1 {P : Nat → Bool} {V : Nat → Nat} {j k v : Nat} (h : (zLs P V j)[k]? = some v) : (zLs P V (j + 1))[k]? = some v := by
  conv => lhs; unfold zLs
  by_cases q : P j = true ∧ ¬ V j ∈ zLs P V j
  · rw [if_pos q]
    have hk : k < (zLs P V j).length := by
      rcases Nat.lt_or_ge k (zLs P V j).length with h1 | h1
      · exact h1
      · rw [List.getElem?_eq_none h1] at h; cases h
    rw [List.getElem?_append_left hk]; exact h
  · rw [if_neg q]; exact h
theorem zLs_mono {P : Nat → Bool} {V : Nat → Nat} {j k v : Nat} (h : (zLs P V j)[k]? = some v) : ∀ d, (zLs P V (j + d))[k]? = some v := by
  intro d
  induction d with
  | zero => exact h
  | succ d ih => exact zLs_mono1 ih
theorem zLs_lt {l : List Nat} {k v : Nat} (h : l[k]? = some v) : k < l.length := by
  rcases Nat.lt_or_ge k l.length with h1 | h1
  · exact h1
  · rw [List.getElem?_eq_none h1] at h; cases h
theorem zLs_inj {P : Nat → Bool} {V : Nat → Nat} : ∀ (j k k2 v : Nat), (zLs P V j)[k]? = some v → (zLs P V j)[k2]? = some v → k = k2 := by
  intro j
  induction j with
  | zero => intro k k2 v h; exact absurd (zLs_lt h) (Nat.not_lt_zero k)
  | succ j ih =>
    intro k k2 v h h2
    unfold zLs at h h2
    by_cases q : P j = true ∧ ¬ V j ∈ zLs P V j
    · rw [if_pos q] at h h2
      have l1 := zLs_lt h
      have l2 := zLs_lt h2
      rw [List.length_append, List.length_singleton] at l1 l2
      by_cases c1 : k < (zLs P V j).length
      · rw [List.getElem?_append_left c1] at h
        by_cases c2 : k2 < (zLs P V j).length
        · rw [List.getElem?_append_left c2] at h2
          exact ih k k2 v h h2
        · exfalso
          have e : k2 = (zLs P V j).length := by omega
          rw [e, List.getElem?_append_right (Nat.le_refl _), Nat.sub_self] at h2
          have e2 : V j = v := by simpa using h2
          exact q.2 (e2 ▸ List.mem_of_getElem? h)
      · have e : k = (zLs P V j).length := by omega
        by_cases c2 : k2 < (zLs P V j).length
        · exfalso
          rw [List.getElem?_append_left c2] at h2
          rw [e, List.getElem?_append_right (Nat.le_refl _), Nat.sub_self] at h
          have e2 : V j = v := by simpa using h
          exact q.2 (e2 ▸ List.mem_of_getElem? h2)
        · omega
    · rw [if_neg q] at h h2
      exact ih k k2 v h h2
theorem zLs_len {P : Nat → Bool} {V : Nat → Nat} {b : Nat} (hb : ∀ j, P j = true → V j < b) (j : Nat) : (zLs P V j).length ≤ b := by
  have hget : ∀ i, i < (zLs P V j).length → ∃ v, (zLs P V j)[i]? = some v := by
    intro i hi
    exact ⟨(zLs P V j)[i], List.getElem?_eq_getElem hi⟩
  refine zpig b (zLs P V j).length (fun i => ((zLs P V j)[i]?).getD 0) (fun i hi => ?_) (fun i k hi hk he => ?_)
  · obtain ⟨v, hv⟩ := hget i hi
    obtain ⟨a, _, a2, a3⟩ := zLs_mem j v (List.mem_of_getElem? hv)
    simp only [hv, Option.getD_some]
    rw [← a3]; exact hb a a2
  · obtain ⟨v, hv⟩ := hget i hi
    obtain ⟨w, hw⟩ := hget k hk
    simp only [hv, hw, Option.getD_some] at he
    subst he
    exact zLs_inj j i k v hv hw
