/-! what count and output read -/
def zCnt (t u : zS) : Prop := (t 0 9 = u 0 57 ∧ (t 0 9 = 0 ∨ t 0 9 = 1)) ∧
  ((u 0 71 = 0 ∧ t 7 16 = -1 ∧ t 7 11 = 0 ∧ t 7 12 = 0 ∧ t 60 16 = 0 ∧ t 60 17 = 0 ∧ t 7 14 = 0 ∧ t 59 8 = 0 ∧ t 59 9 = 0 ∧ t 7 10 = 0) ∨
   (u 0 71 = 1 ∧ t 7 16 = u 0 72 ∧ t 7 11 = u 0 77 ∧ t 7 12 = u 0 78 ∧ t 60 16 = u 0 85 ∧ t 60 17 = u 0 79 ∧ t 7 14 = u 0 80 ∧ t 59 8 = u 0 100 ∧ t 59 9 = u 0 101 ∧ t 7 10 = u 0 81 ∧ 0 ≤ t 7 10 ∧ ∀ j : Nat, j < 500 → (j : Int) < (t 7 10).toInt → t 66 j = u 44 j))
theorem zCnt_of {t u : zS} (h : zCnt (zcC t) (zcM u)) : zCnt t u := h
theorem st_count {P : zS → zS → Prop} {t u : zS} (h : zR4 P t u) (hC : zCnt t u) (x : Int32) : zStp P (mX11_count x t) (mX12_count x u) := by
  have e0 : (0 : Int64).toInt = 0 := by decide
  have e7 : (7 : Int64).toInt = 7 := by decide
  have yes : ∀ {r s : Int32}, r = s → zStp P (some (r, t)) (some (s, u)) := fun e => ⟨_, _, _, rfl, by rw [e], h⟩
  unfold mX11_count mX12_count
  by_cases h9 : x = 9
  · subst h9
    rw [if_pos rfl, if_neg (by decide), if_pos rfl]
    exact yes h.1.1
  rw [if_neg h9, if_neg h9]
  unfold mX4_tally
  by_cases h8 : x = 8
  · subst h8
    rw [if_neg (by decide), if_neg (by decide), if_neg (by decide), if_neg (by decide), if_neg (by decide), if_neg (by decide), if_neg (by decide), if_neg (by decide), if_pos rfl, pl_bd, if_pos rfl]
    exact yes h.2.2.1.1
  rw [if_neg h8, if_neg h8]
  have cs : (x = 0 ∨ x = 1 ∨ x = 2 ∨ x = 3 ∨ x = 4 ∨ x = 5 ∨ x = 6 ∨ x = 7) ∨ ¬ (0 ≤ x.toInt ∧ x.toInt ≤ 7) := by
    by_cases q : 0 ≤ x.toInt ∧ x.toInt ≤ 7
    · refine Or.inl ?_
      have q8 : x.toInt = 0 ∨ x.toInt = 1 ∨ x.toInt = 2 ∨ x.toInt = 3 ∨ x.toInt = 4 ∨ x.toInt = 5 ∨ x.toInt = 6 ∨ x.toInt = 7 := by omega
      rcases q8 with e | e | e | e | e | e | e | e
      · exact Or.inl (pl_ext (e.trans (by decide)))
      · exact Or.inr (Or.inl (pl_ext (e.trans (by decide))))
      · exact Or.inr (Or.inr (Or.inl (pl_ext (e.trans (by decide)))))
      · exact Or.inr (Or.inr (Or.inr (Or.inl (pl_ext (e.trans (by decide))))))
      · exact Or.inr (Or.inr (Or.inr (Or.inr (Or.inl (pl_ext (e.trans (by decide)))))))
      · exact Or.inr (Or.inr (Or.inr (Or.inr (Or.inr (Or.inl (pl_ext (e.trans (by decide))))))))
      · exact Or.inr (Or.inr (Or.inr (Or.inr (Or.inr (Or.inr (Or.inl (pl_ext (e.trans (by decide)))))))))
      · exact Or.inr (Or.inr (Or.inr (Or.inr (Or.inr (Or.inr (Or.inr (pl_ext (e.trans (by decide)))))))))
    · exact Or.inr q
  rcases cs with cs | cs
  · have hin : (0 : Int64).toInt ≤ x.toInt ∧ x.toInt ≤ (7 : Int64).toInt := by rcases cs with e | e | e | e | e | e | e | e <;> subst e <;> decide
    rw [pl_int hin, pl_bd, if_neg pl_10]
    rcases hC.2 with ⟨c0, -, c1, c2, c3, c4, c5, c6, c7, c8⟩ | ⟨c0, -, c1, c2, c3, c4, c5, c6, c7, c8, -⟩
    · rw [if_pos c0]
      rcases cs with e | e | e | e | e | e | e | e <;> subst e
      · exact yes c1
      · exact yes c2
      · exact yes c3
      · exact yes c4
      · exact yes c5
      · exact yes c6
      · exact yes c7
      · exact yes c8
    · have c71 : ¬ u 0 71 = 0 := by rw [c0]; exact pl_10
      rw [if_neg c71]
      rcases cs with e | e | e | e | e | e | e | e <;> subst e
      · exact yes c1
      · exact yes c2
      · exact yes c3
      · exact yes c4
      · exact yes c5
      · exact yes c6
      · exact yes c7
      · exact yes c8
  · have n0 : ¬ x = 0 := fun e => cs (by subst e; decide)
    have n1 : ¬ x = 1 := fun e => cs (by subst e; decide)
    have n2 : ¬ x = 2 := fun e => cs (by subst e; decide)
    have n3 : ¬ x = 3 := fun e => cs (by subst e; decide)
    have n4 : ¬ x = 4 := fun e => cs (by subst e; decide)
    have n5 : ¬ x = 5 := fun e => cs (by subst e; decide)
    have n6 : ¬ x = 6 := fun e => cs (by subst e; decide)
    have n7 : ¬ x = 7 := fun e => cs (by subst e; decide)
    rw [if_neg n0, if_neg n1, if_neg n2, if_neg n3, if_neg n4, if_neg n5, if_neg n6, if_neg n7, pl_bd, pl_inf (by rw [e0, e7]; exact cs), pl_bd, if_pos rfl]
    exact yes rfl
theorem st_output {P : zS → zS → Prop} {t u : zS} (h : zR4 P t u) (hC : zCnt t u) (x : Int32) : zStp P (mX11_output x t) (mX12_output x u) := by
  have e0 : (0 : Int64).toInt = 0 := by decide
  have z0 : (0 : Int32).toInt = 0 := by decide
  have z1 : (1 : Int32).toInt = 1 := by decide
  have z5 : (500 : Int32).toInt = 500 := by decide
  have yes : ∀ {r s : Int32}, r = s → zStp P (some (r, t)) (some (s, u)) := fun e => ⟨_, _, _, rfl, by rw [e], h⟩
  unfold mX11_output mX12_output mX4_outputAt
  rcases hC.2 with ⟨c0, -, c1, c2, c3, c4, c5, c6, c7, c8⟩ | ⟨c0, -, c1, c2, c3, c4, c5, c6, c7, c8, c9, c10⟩
  · rw [if_pos c0]
    by_cases h1 : x < 0
    · rw [if_pos h1, pl_bd]; exact yes rfl
    · rw [if_neg h1, c8, if_pos (Int32.not_lt.mp h1), pl_bd]; exact yes rfl
  · have c71 : ¬ u 0 71 = 0 := by rw [c0]; exact pl_10
    rw [if_neg c71, ← c8]
    have g9 := pl_le.mp c9
    have em : ((if (500 : Int32) < t 7 10 then (500 : Int32) else t 7 10) - 1).toInt64.toInt = (if (500 : Int) < (t 7 10).toInt then 500 else (t 7 10).toInt) - 1 := by
      rw [pl_64]
      by_cases q : (500 : Int32) < t 7 10
      · have q' := pl_lt.mp q
        rw [if_pos q, if_pos (by omega)]; decide
      · have q' := pl_le.mp (Int32.not_lt.mp q)
        rw [if_neg q, if_neg (by omega), pl_sub (by omega) (by omega), z1]
    by_cases h1 : x < 0
    · have g := pl_lt.mp h1
      rw [if_pos h1, pl_bd, pl_inf (by rw [e0]; omega), pl_bd, if_pos rfl]; exact yes rfl
    · have g1 := pl_le.mp (Int32.not_lt.mp h1)
      rw [if_neg h1]
      by_cases h2 : t 7 10 ≤ x
      · have g2 := pl_le.mp h2
        rw [if_pos h2, pl_bd, pl_inf (by rw [e0, em]; split <;> omega), pl_bd, if_pos rfl]; exact yes rfl
      · have g2 := pl_lt.mp (Int32.not_le.mp h2)
        rw [if_neg h2]
        by_cases h3 : (500 : Int32) ≤ x
        · have g3 := pl_le.mp h3
          rw [if_pos h3, pl_bd, pl_inf (by rw [e0, em]; split <;> omega), pl_bd, if_pos rfl]; exact yes rfl
        · have g3 := pl_lt.mp (Int32.not_le.mp h3)
          have hx := (pl_nat (Int32.not_lt.mp h1)).symm
          rw [if_neg h3, pl_get (m := x.toNatClampNeg) (by decide) hx (by omega), pl_bd, pl_bd, pl_int (by rw [e0, em]; split <;> omega), pl_bd, if_neg pl_10, pl_rd ⟨Int32.not_lt.mp h1, by omega⟩]
          exact yes (c10 _ (by omega) (by omega))
