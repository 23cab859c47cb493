/-! input and feed keep the relation -/
theorem pl_ofn {n : Nat} (h : n < 2147483648) : (Int32.ofNat n).toInt = (n : Int) := Int32.toInt_ofNat_of_lt (by omega)
theorem pl_add {a b : Int32} (h1 : -2147483648 ≤ a.toInt + b.toInt) (h2 : a.toInt + b.toInt < 2147483648) : (a + b).toInt = a.toInt + b.toInt := by
  rw [Int32.toInt_add]
  exact Int.bmod_eq_of_le (by omega) (by omega)
theorem pl_sub {a b : Int32} (h1 : -2147483648 ≤ a.toInt - b.toInt) (h2 : a.toInt - b.toInt < 2147483648) : (a - b).toInt = a.toInt - b.toInt := by
  rw [Int32.toInt_sub]
  exact Int.bmod_eq_of_le (by omega) (by omega)
theorem pl_ext {a b : Int32} (h : a.toInt = b.toInt) : a = b := Int32.toInt_inj.mp h
theorem pl_clamp {x : Int32} {n : Nat} (h : x.toInt = (n : Int)) : x.toNatClampNeg = n := by
  have h3 : x.toNatClampNeg = x.toInt.toNat := rfl
  omega
theorem pl_pos {x : Int32} (h : 0 ≤ x.toInt) : (0 : Int32) ≤ x := by
  have z0 : (0 : Int32).toInt = 0 := by decide
  exact pl_le.mpr (by omega)
theorem pl_set {k n : Nat} {x v : Int32} {t : zS} {m : Nat} (hn : n < 2147483648) (hx : x.toInt = (m : Int)) (h1 : m < n) : mX5_set k n x v t = some (0, zu t (k + 1) m v) := by
  have h0 := pl_pos (x := x) (by omega)
  have hc := pl_clamp hx
  unfold mX5_set
  rw [if_neg (Int32.not_lt.mpr h0), if_neg (by rw [pl_le, pl_ofn hn]; omega), pl_wr ⟨h0, by omega⟩, hc]
theorem pl_get {k n : Nat} {x : Int32} {t : zS} {m : Nat} (hn : n < 2147483648) (hx : x.toInt = (m : Int)) (h1 : m < n) : mX5_get k n x t = some (t (k + 1) m, t) := by
  have h0 := pl_pos (x := x) (by omega)
  have hc := pl_clamp hx
  unfold mX5_get
  rw [if_neg (Int32.not_lt.mpr h0), if_neg (by rw [pl_le, pl_ofn hn]; omega), pl_rd ⟨h0, by omega⟩, hc]
/-- the input's row, m numbers of it, against a row g -/
def zI1 (t : zS) (g : Nat → Int32) (f m : Nat) : Prop := (t 7 8).toInt = (f : Int) ∧ (t 7 9).toInt = (m : Int) ∧ f < 300 ∧ m ≤ 300 ∧ ∀ j : Nat, j < m → t 64 ((f + j) % 300) = g j
theorem pl_addInput {t : zS} {g : Nat → Int32} {f m : Nat} {v : Int32} (h : zI1 t g f m) (hm : m < 300) : ∃ t2, mX4_addInput v t = some (0, t2) ∧ t2 = zu (zu t 64 ((f + m) % 300) v) 7 9 (t 7 9 + 1) ∧ zI1 t2 (upd g m v) f (m + 1) := by
  obtain ⟨h1, h2, h3, h4, h5⟩ := h
  have z3 : (300 : Int32).toInt = 300 := by decide
  have z1 : (1 : Int32).toInt = 1 := by decide
  have hs : (t 7 8 + t 7 9).toInt = ((f + m : Nat) : Int) := by rw [pl_add (by omega) (by omega)]; omega
  refine ⟨_, ?_, rfl, ?_⟩
  · unfold mX4_addInput
    rw [pl_let]
    by_cases q : t 7 8 + t 7 9 < 300
    · have q' := pl_lt.mp q
      rw [if_pos q]
      unfold bX4_addInput_30
      rw [pl_set (m := (f + m) % 300) (by decide) (by rw [hs, Nat.mod_eq_of_lt (by omega)]) (by omega), pl_bd, pl_pt, zu_ne1 (by decide)]
    · have q' : ¬ (t 7 8 + t 7 9).toInt < 300 := fun w => q (pl_lt.mpr (by omega))
      have hs2 : (t 7 8 + t 7 9 - 300).toInt = (((f + m) % 300 : Nat) : Int) := by
        rw [pl_sub (by omega) (by omega), hs, z3, Nat.mod_eq_sub_mod (by omega), Nat.mod_eq_of_lt (by omega)]
        omega
      rw [if_neg q]
      unfold bX4_addInput_30
      rw [pl_set (m := (f + m) % 300) (by decide) hs2 (Nat.mod_lt _ (by decide)), pl_bd, pl_pt, zu_ne1 (by decide)]
  · refine ⟨by rw [zu_ne2 (by decide), zu_ne1 (by decide)]; exact h1, by rw [zu_same, pl_add (by omega) (by omega)]; omega, h3, by omega, fun j hj => ?_⟩
    rw [zu_ne1 (by decide)]
    by_cases e : j = m
    · subst e
      rw [zu_same]
      simp [upd]
    · have hne : (f + j) % 300 ≠ (f + m) % 300 := by omega
      rw [zu_ne2 hne, h5 j (by omega)]
      simp [upd, e]
theorem zI1_of {t u : zS} (h : zInp t u) : ∃ f m : Nat, zI1 t (u 45) f m ∧ (u 0 83).toInt = (m : Int) := by
  obtain ⟨h1, h2, h3, h4, h5, h6⟩ := h
  have e1 := pl_nat h2
  have e2 := pl_nat h4
  have z3 : (300 : Int32).toInt = 300 := by decide
  have g3 := pl_le.mp h3
  have g5 := pl_lt.mp h5
  refine ⟨(t 7 8).toNatClampNeg, (t 7 9).toNatClampNeg, ⟨by omega, by omega, by omega, by omega, fun j hj => h6 j (by omega)⟩, by rw [← h1]; omega⟩
theorem zInp_I1 {t u : zS} {f m : Nat} (h : zI1 t (u 45) f m) (h2 : (u 0 83).toInt = (m : Int)) : zInp t u := by
  obtain ⟨h1, h3, h4, h5, h6⟩ := h
  have z3 : (300 : Int32).toInt = 300 := by decide
  refine ⟨pl_ext (by omega), pl_pos (by omega), pl_le.mpr (by omega), pl_pos (by omega), pl_lt.mpr (by omega), fun j hj => ?_⟩
  rw [pl_clamp h1]
  exact h6 j (by omega)
theorem st_input {P : zS → zS → Prop} {t u : zS} (h : zR4 P t u) (x y z : Int32) : zStp P (mX11_input x y z t) (mX12_input x y z u) := by
  obtain ⟨hT, hZ, hI, hP⟩ := h
  obtain ⟨f, m, h1, hm⟩ := zI1_of hI
  have z3 : (300 : Int32).toInt = 300 := by decide
  have w3 : (3 : Int32).toInt = 3 := by decide
  have w2 : (2 : Int32).toInt = 2 := by decide
  have w1 : (1 : Int32).toInt = 1 := by decide
  have hm4 := h1.2.2.2.1
  have ht := h1.2.1
  have s1 : (t 7 9 + 3).toInt = (m : Int) + 3 := by rw [pl_add (by omega) (by omega)]; omega
  have s2 : (u 0 83 + 3).toInt = (m : Int) + 3 := by rw [pl_add (by omega) (by omega)]; omega
  unfold mX11_input mX12_input
  by_cases q : t 7 9 + 3 ≤ 300
  · have q' := pl_le.mp q
    obtain ⟨t1, a1, b1, c1⟩ := pl_addInput (v := x) h1 (by omega)
    obtain ⟨t2, a2, b2, c2⟩ := pl_addInput (v := y) c1 (by omega)
    obtain ⟨t3, a3, b3, c3⟩ := pl_addInput (v := z) c2 (by omega)
    rw [if_pos q, if_pos (pl_le.mpr (by omega)), a1, pl_bd, a2, pl_bd, a3, pl_bd]
    have k0 : (0 : Int32) ≤ u 0 83 := pl_pos (by omega)
    have v1 : (u 0 83 + 1).toInt = ((m + 1 : Nat) : Int) := by rw [pl_add (by omega) (by omega)]; omega
    have v2 : (u 0 83 + 2).toInt = ((m + 2 : Nat) : Int) := by rw [pl_add (by omega) (by omega)]; omega
    rw [pl_wr ⟨k0, by rw [pl_clamp hm]; omega⟩, pl_clamp hm, zu_ne1 (by decide)]
    rw [pl_wr ⟨pl_pos (by omega), by rw [pl_clamp v1]; omega⟩, pl_clamp v1, zu_ne1 (by decide), zu_ne1 (by decide)]
    rw [pl_wr ⟨pl_pos (by omega), by rw [pl_clamp v2]; omega⟩, pl_clamp v2, pl_pt]
    have w83 : (zu (zu (zu u 45 m x) 45 (m + 1) y) 45 (m + 2) z) 0 83 = u 0 83 := by rw [zu_ne1 (by decide), zu_ne1 (by decide), zu_ne1 (by decide)]
    rw [w83]
    have e3 : t3 7 9 = u 0 83 + 3 := pl_ext (by rw [s2]; have := c3.2.1; omega)
    rw [e3, zu_same]
    refine ⟨_, _, _, rfl, rfl, ?_, ?_, ?_, ?_⟩
    · subst b1; subst b2; subst b3
      exact zTape_of hT (by simp only [zu]; rfl) (by simp only [zu]; rfl) (by simp only [zu_row (show (2 : Nat) ≠ 64 by decide), zu_row (show (2 : Nat) ≠ 7 by decide)]) (by simp only [zu_row (show (1 : Nat) ≠ 45 by decide), zu_row (show (1 : Nat) ≠ 0 by decide)])
    · subst b1; subst b2; subst b3
      exact zSize_of hZ (by simp only [zu]; rfl) (by simp only [zu]; rfl) (by simp only [zu]; rfl) (by simp only [zu]; rfl)
    · refine zInp_I1 (f := f) (m := m + 3) ?_ (by rw [zu_same, s2]; omega)
      have e45 : (zu (zu (zu (zu u 45 m x) 45 (m + 1) y) 45 (m + 2) z) 0 83 (u 0 83 + 3)) 45 = upd (upd (upd (u 45) m x) (m + 1) y) (m + 2) z := by
        rw [zu_row (by decide)]
        funext j
        simp [zu, upd]
      rw [e45]
      exact c3
    · subst b1; subst b2; subst b3
      rw [zcC_zu (by simp), zcC_zu (by simp), zcC_zu (by simp), zcC_zu (by simp), zcC_zu (by simp), zcC_zu (by simp), zcM_zu (by simp), zcM_zu (by simp), zcM_zu (by simp), zcM_zu (by simp)]
      exact hP
  · have q' : ¬ (t 7 9 + 3).toInt ≤ 300 := fun w => q (pl_le.mpr (by omega))
    rw [if_neg q, if_neg (fun w => by have := pl_le.mp w; omega)]
    exact ⟨_, _, _, rfl, rfl, hT, hZ, hI, hP⟩
