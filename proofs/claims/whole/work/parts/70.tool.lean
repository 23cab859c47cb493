/-! the pure part: tools -/
theorem pl_let {a b : Type} (x : a) (k : a → b) : zlet x k = k x := rfl
theorem pl_pt (t : zS) (c j : Nat) (v : Int32) (k : zS → zR) : zpt t c j v k = k (zu t c j v) := rfl
theorem pl_bd (r : Int32) (t : zS) (k : Int32 → zS → zR) : zbd (some (r, t)) k = k r t := rfl
theorem pl_rd {t : zS} {c n : Nat} {i : Int32} {k : Int32 → zR} (h : 0 ≤ i ∧ i.toNatClampNeg < n) : zrd t c n i k = k (t c i.toNatClampNeg) := if_pos h
theorem pl_wr {t : zS} {c n : Nat} {i v : Int32} {k : zS → zR} (h : 0 ≤ i ∧ i.toNatClampNeg < n) : zwr t c n i v k = k (zu t c i.toNatClampNeg v) := if_pos h
/-- an int as a whole number -/
theorem pl_nat {x : Int32} (h : 0 ≤ x) : (x.toNatClampNeg : Int) = x.toInt := by
  have h3 : x.toNatClampNeg = x.toInt.toNat := rfl
  have h5 : (0 : Int) ≤ x.toInt := Int32.le_iff_toInt_le.mp h
  omega
theorem pl_le {x y : Int32} : x ≤ y ↔ x.toInt ≤ y.toInt := Int32.le_iff_toInt_le
theorem pl_lt {x y : Int32} : x < y ↔ x.toInt < y.toInt := Int32.lt_iff_toInt_lt
theorem pl_64 (x : Int32) : x.toInt64.toInt = x.toInt := Int32.toInt_toInt64 x
/-- isIn of an int between two longs -/
theorem pl_isIn (x a b : Int64) (u : zS) : mX12_isIn x a b u = some ((if a.toInt ≤ x.toInt ∧ x.toInt ≤ b.toInt then 1 else 0), u) := by
  unfold mX12_isIn
  have q1 : lg_cmp x a < 0 ↔ x.toInt < a.toInt := by
    rw [← Int32.not_le, lg_cmp_ge, Int64.le_iff_toInt_le]; omega
  have q2 : 0 < lg_cmp x b ↔ b.toInt < x.toInt := by
    rw [← Int32.not_le, lg_cmp_le, Int64.le_iff_toInt_le]; omega
  by_cases h1 : x.toInt < a.toInt
  · rw [if_pos (q1.mpr h1), if_neg (by omega)]
  · rw [if_neg (fun h => h1 (q1.mp h))]
    by_cases h3 : b.toInt < x.toInt
    · rw [if_pos (q2.mpr h3), if_neg (by omega)]
    · rw [if_neg (fun h => h3 (q2.mp h)), if_pos ⟨by omega, by omega⟩]
theorem pl_int {x : Int32} {a b : Int64} {u : zS} (h : a.toInt ≤ x.toInt ∧ x.toInt ≤ b.toInt) : mX12_isIn x.toInt64 a b u = some (1, u) := by rw [pl_isIn, pl_64, if_pos h]
theorem pl_inf {x : Int32} {a b : Int64} {u : zS} (h : ¬ (a.toInt ≤ x.toInt ∧ x.toInt ≤ b.toInt)) : mX12_isIn x.toInt64 a b u = some (0, u) := by rw [pl_isIn, pl_64, if_neg h]
/-! what the simple calls touch, and a store without it -/
def zcC (t : zS) : zS := fun k j => if k = 2 ∨ k = 64 ∨ (k = 0 ∧ (j = 6 ∨ j = 7 ∨ j = 8)) ∨ (k = 7 ∧ (j = 8 ∨ j = 9)) then 0 else t k j
def zcM (u : zS) : zS := fun k j => if k = 1 ∨ k = 45 ∨ (k = 0 ∧ (j = 1 ∨ j = 75 ∨ j = 76 ∨ j = 83)) then 0 else u k j
/-- the tape: its length and its bytes -/
def zTape (t u : zS) : Prop := t 0 6 = u 0 1 ∧ 0 ≤ t 0 6 ∧ t 0 6 ≤ 3000 ∧ ∀ j : Nat, (j : Int) < (t 0 6).toInt → t 2 j = u 1 j ∧ 0 ≤ t 2 j ∧ t 2 j ≤ 255
def zSize (t u : zS) : Prop := t 0 7 = u 0 75 ∧ t 0 8 = u 0 76 ∧ 1 ≤ t 0 7 ∧ t 0 7 ≤ 8 ∧ 10 ≤ t 0 8 ∧ t 0 8 ≤ 10000
/-- the input: the class's row goes round -/
def zInp (t u : zS) : Prop := t 7 9 = u 0 83 ∧ 0 ≤ t 7 9 ∧ t 7 9 ≤ 300 ∧ 0 ≤ t 7 8 ∧ t 7 8 < 300 ∧ ∀ j : Nat, (j : Int) < (t 7 9).toInt → t 64 (((t 7 8).toNatClampNeg + j) % 300) = u 45 j
theorem zTape_of {t u t2 u2 : zS} (h : zTape t u) (h1 : t2 0 6 = t 0 6) (h2 : u2 0 1 = u 0 1) (h3 : t2 2 = t 2) (h4 : u2 1 = u 1) : zTape t2 u2 := by
  unfold zTape at *; rw [h1, h2, h3, h4]; exact h
theorem zSize_of {t u t2 u2 : zS} (h : zSize t u) (h1 : t2 0 7 = t 0 7) (h2 : t2 0 8 = t 0 8) (h3 : u2 0 75 = u 0 75) (h4 : u2 0 76 = u 0 76) : zSize t2 u2 := by
  unfold zSize at *; rw [h1, h2, h3, h4]; exact h
theorem zInp_of {t u t2 u2 : zS} (h : zInp t u) (h1 : t2 7 9 = t 7 9) (h2 : t2 7 8 = t 7 8) (h3 : u2 0 83 = u 0 83) (h4 : t2 64 = t 64) (h5 : u2 45 = u 45) : zInp t2 u2 := by
  unfold zInp at *; rw [h1, h2, h3, h4, h5]; exact h
/-- the relation, but for the program and its run (P) -/
def zR4 (P : zS → zS → Prop) (t u : zS) : Prop := zTape t u ∧ zSize t u ∧ zInp t u ∧ P (zcC t) (zcM u)
theorem zcC_zu {t : zS} {k j : Nat} {v : Int32} (h : k = 2 ∨ k = 64 ∨ (k = 0 ∧ (j = 6 ∨ j = 7 ∨ j = 8)) ∨ (k = 7 ∧ (j = 8 ∨ j = 9))) : zcC (zu t k j v) = zcC t := by
  funext k' j'
  unfold zcC
  by_cases q : k' = 2 ∨ k' = 64 ∨ (k' = 0 ∧ (j' = 6 ∨ j' = 7 ∨ j' = 8)) ∨ (k' = 7 ∧ (j' = 8 ∨ j' = 9))
  · rw [if_pos q, if_pos q]
  · rw [if_neg q, if_neg q]
    by_cases e : k' = k
    · subst e
      by_cases e2 : j' = j
      · subst e2; exact absurd h q
      · exact zu_ne2 e2
    · exact zu_ne1 e
theorem zcM_zu {u : zS} {k j : Nat} {v : Int32} (h : k = 1 ∨ k = 45 ∨ (k = 0 ∧ (j = 1 ∨ j = 75 ∨ j = 76 ∨ j = 83))) : zcM (zu u k j v) = zcM u := by
  funext k' j'
  unfold zcM
  by_cases q : k' = 1 ∨ k' = 45 ∨ (k' = 0 ∧ (j' = 1 ∨ j' = 75 ∨ j' = 76 ∨ j' = 83))
  · rw [if_pos q, if_pos q]
  · rw [if_neg q, if_neg q]
    by_cases e : k' = k
    · subst e
      by_cases e2 : j' = j
      · subst e2; exact absurd h q
      · exact zu_ne2 e2
    · exact zu_ne1 e
/-- what a step of the relation owes -/
def zStp (P : zS → zS → Prop) (a b : zR) : Prop := ∃ (r : Int32) (t2 u2 : zS), a = some (r, t2) ∧ b = some (r, u2) ∧ zR4 P t2 u2
theorem zu_row {t : zS} {k j k' : Nat} {v : Int32} (h : k' ≠ k) : zu t k j v k' = t k' := by funext q; exact zu_ne1 h
theorem pl_10 : ¬ (1 : Int32) = 0 := by decide
theorem st_end {P : zS → zS → Prop} {t u : zS} (h : zR4 P t u) (x : Int32) : zStp P (mX11_end x t) (mX12_end x u) := by
  obtain ⟨hT, hZ, hI, hP⟩ := h
  unfold mX11_end mX12_end
  have e0 : (0 : Int64).toInt = 0 := by decide
  have z0 : (0 : Int32).toInt = 0 := by decide
  have e6 : (u 0 1).toInt64.toInt = (t 0 6).toInt := by rw [pl_64, hT.1]
  have no : zStp P (some (-1, t)) (some (-1, u)) := ⟨_, _, _, rfl, rfl, hT, hZ, hI, hP⟩
  by_cases h1 : x < 0
  · have g := pl_lt.mp h1
    rw [if_pos h1, pl_inf (by rw [e0]; omega), pl_bd, if_pos rfl]
    exact no
  · rw [if_neg h1]
    have g1 : (0 : Int32) ≤ x := Int32.not_lt.mp h1
    have g1' := pl_le.mp g1
    by_cases h2 : x ≤ t 0 6
    · have g2 := pl_le.mp h2
      rw [if_pos h2, pl_int (by rw [e0, e6]; omega), pl_bd, if_neg pl_10, pl_pt, pl_pt]
      refine ⟨_, _, _, rfl, rfl, ?_, zSize_of hZ (zu_ne2 (by decide)) (zu_ne2 (by decide)) (zu_ne2 (by decide)) (zu_ne2 (by decide)), zInp_of hI (zu_ne1 (by decide)) (zu_ne1 (by decide)) (zu_ne2 (by decide)) (zu_row (by decide)) (zu_row (by decide)), by rw [zcC_zu (by decide), zcM_zu (by decide)]; exact hP⟩
      unfold zTape
      rw [zu_same, zu_same, zu_row (by decide), zu_row (by decide)]
      refine ⟨rfl, g1, Int32.le_trans h2 hT.2.2.1, fun j hj => hT.2.2.2 j (by omega)⟩
    · have g2 : ¬ x.toInt ≤ (t 0 6).toInt := fun q => h2 (pl_le.mpr q)
      rw [if_neg h2, pl_inf (by rw [e6]; omega), pl_bd, if_pos rfl]
      exact no
theorem st_sizes {P : zS → zS → Prop} {t u : zS} (h : zR4 P t u) (x y : Int32) : zStp P (mX11_sizes x y t) (mX12_sizes x y u) := by
  obtain ⟨hT, hZ, hI, hP⟩ := h
  unfold mX11_sizes mX12_sizes
  have e1 : (1 : Int64).toInt = 1 := by decide
  have e8 : (8 : Int64).toInt = 8 := by decide
  have ea : (10 : Int64).toInt = 10 := by decide
  have eb : (10000 : Int64).toInt = 10000 := by decide
  have z1 : (1 : Int32).toInt = 1 := by decide
  have z8 : (8 : Int32).toInt = 8 := by decide
  have za' : (10 : Int32).toInt = 10 := by decide
  have zb' : (10000 : Int32).toInt = 10000 := by decide
  have no : zStp P (some (-1, t)) (some (-1, u)) := ⟨_, _, _, rfl, rfl, hT, hZ, hI, hP⟩
  by_cases h1 : x < 1
  · have g := pl_lt.mp h1
    rw [if_pos h1, pl_inf (by rw [e1]; omega), pl_bd, if_pos rfl]; exact no
  · rw [if_neg h1]
    by_cases h2 : (8 : Int32) < x
    · have g := pl_lt.mp h2
      rw [if_pos h2, pl_inf (by rw [e8]; omega), pl_bd, if_pos rfl]; exact no
    · have g1 := pl_le.mp (Int32.not_lt.mp h1)
      have g2 := pl_le.mp (Int32.not_lt.mp h2)
      rw [if_neg h2, pl_int (by rw [e1, e8]; omega), pl_bd, if_neg pl_10]
      by_cases h3 : y < 10
      · have g := pl_lt.mp h3
        rw [if_pos h3, pl_inf (by rw [ea]; omega), pl_bd, if_pos rfl]; exact no
      · rw [if_neg h3]
        have g3 := pl_le.mp (Int32.not_lt.mp h3)
        by_cases h4 : y ≤ 10000
        · have g4 := pl_le.mp h4
          rw [if_pos h4, pl_int (by rw [ea, eb]; omega), pl_bd, if_neg pl_10]
          simp only [pl_pt]
          refine ⟨_, _, _, rfl, rfl, zTape_of hT (by rw [zu_ne2 (by decide), zu_ne2 (by decide)]) (by rw [zu_ne2 (by decide), zu_ne2 (by decide)]) (by rw [zu_row (by decide), zu_row (by decide)]) (by rw [zu_row (by decide), zu_row (by decide)]), ?_, zInp_of hI (by rw [zu_ne1 (by decide), zu_ne1 (by decide)]) (by rw [zu_ne1 (by decide), zu_ne1 (by decide)]) (by rw [zu_ne2 (by decide), zu_ne2 (by decide)]) (by rw [zu_row (by decide), zu_row (by decide)]) (by rw [zu_row (by decide), zu_row (by decide)]), by rw [zcC_zu (by decide), zcC_zu (by decide), zcM_zu (by decide), zcM_zu (by decide)]; exact hP⟩
          unfold zSize
          rw [zu_same, zu_ne2 (by decide), zu_same, zu_ne2 (by decide), zu_same, zu_same]
          exact ⟨rfl, rfl, Int32.not_lt.mp h1, Int32.not_lt.mp h2, Int32.not_lt.mp h3, h4⟩
        · have g4 : ¬ y.toInt ≤ 10000 := fun q => h4 (pl_le.mpr (by omega))
          rw [if_neg h4, pl_inf (by rw [eb]; omega), pl_bd, if_pos rfl]; exact no
