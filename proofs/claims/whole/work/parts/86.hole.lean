/-- there is a hole on every way through the table, and ahead of the first one stand names alone -/
theorem zhole {t : zS} {n : Nat} {fl sl : Nat → Nat} (hN : zNT t n fl sl) (h : Int32) : ∃ i0 s : Nat, i0 < 4096 ∧ s < 4096 ∧ ((h + Int32.ofNat i0) &&& 4095).toInt = (s : Int) ∧ (t 73 s).toInt < 0 ∧ ∀ j, j < i0 → ∃ w, w < n ∧ ((h + Int32.ofNat j) &&& 4095).toInt = (sl w : Int) := by
  have cell : ∀ i, i < 4096 → (∃ s : Nat, s < 4096 ∧ ((h + Int32.ofNat i) &&& 4095).toInt = (s : Int) ∧ (t 73 s).toInt < 0) ∨ ∃ w, w < n ∧ ((h + Int32.ofNat i) &&& 4095).toInt = (sl w : Int) := by
    intro i hi
    have hr := zand_rng (h + Int32.ofNat i)
    have hs : ((h + Int32.ofNat i) &&& 4095).toInt = (((h + Int32.ofNat i) &&& 4095).toInt.toNat : Int) := by omega
    rcases hN.2.2.2.2.2.2.2.1 (((h + Int32.ofNat i) &&& 4095).toInt.toNat) (by omega) with q | ⟨w, hw, hsw⟩
    · exact Or.inl ⟨_, by omega, hs, q⟩
    · exact Or.inr ⟨w, hw, by rw [hs, hsw]⟩
  have go : ∀ m, m ≤ 4096 → (∀ j, j < m → ∃ w, w < n ∧ ((h + Int32.ofNat j) &&& 4095).toInt = (sl w : Int)) ∨ ∃ i0 s : Nat, i0 < 4096 ∧ s < 4096 ∧ ((h + Int32.ofNat i0) &&& 4095).toInt = (s : Int) ∧ (t 73 s).toInt < 0 ∧ ∀ j, j < i0 → ∃ w, w < n ∧ ((h + Int32.ofNat j) &&& 4095).toInt = (sl w : Int) := by
    intro m
    induction m with
    | zero => intro _; exact Or.inl (fun j hj => absurd hj (Nat.not_lt_zero j))
    | succ m ih =>
      intro hm
      rcases ih (by omega) with q | q
      · rcases cell m (by omega) with ⟨s, s1, s2, s3⟩ | hw
        · exact Or.inr ⟨m, s, by omega, s1, s2, s3, q⟩
        · refine Or.inl (fun j hj => ?_)
          by_cases e : j = m
          · subst e; exact hw
          · exact q j (by omega)
      · exact Or.inr q
  rcases go 4096 (Nat.le_refl _) with q | q
  · exfalso
    have q2 : ∀ j : Nat, ∃ w, j < 4096 → w < n ∧ ((h + Int32.ofNat j) &&& 4095).toInt = (sl w : Int) := by
      intro j
      by_cases hj : j < 4096
      · obtain ⟨w, hw⟩ := q j hj; exact ⟨w, fun _ => hw⟩
      · exact ⟨0, fun x => absurd x hj⟩
    obtain ⟨f, hf⟩ := Classical.axiomOfChoice q2
    have := zpig n 4096 f (fun i hi => (hf i hi).1) (fun i j hi hj he => by
      refine zprobe_inj (h := h) hi hj (pl_ext ?_)
      rw [(hf i hi).2, (hf j hj).2, he])
    have := hN.1
    omega
  · exact q
