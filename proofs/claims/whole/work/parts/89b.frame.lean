/-! frames; the class's small steps -/
def zFP (p : Nat → Nat → Bool) (t t2 : zS) : Prop := ∀ k j, p k j = true → t2 k j = t k j
theorem zFP_refl (p : Nat → Nat → Bool) (t : zS) : zFP p t t := fun _ _ _ => rfl
theorem zFP_trans {p : Nat → Nat → Bool} {a b c : zS} (h : zFP p a b) (h2 : zFP p b c) : zFP p a c := fun k j q => (h2 k j q).trans (h k j q)
theorem zFP_zu {p : Nat → Nat → Bool} {a t : zS} {k j : Nat} {v : Int32} (h : zFP p a t) (hp : p k j = false) : zFP p a (zu t k j v) := by
  intro k' j' q
  rw [← h k' j' q]
  by_cases e : k' = k
  · subst e
    by_cases e2 : j' = j
    · subst e2; rw [hp] at q; cases q
    · exact zu_ne2 e2
  · exact zu_ne1 e
theorem zFP_row {p : Nat → Nat → Bool} {t t2 : zS} (k : Nat) (h : zFP p t t2) (hp : ∀ j, p k j = true) : t2 k = t k := funext fun j => h k j (hp j)
theorem zFP_mono {p q : Nat → Nat → Bool} {t t2 : zS} (h : zFP p t t2) (hq : ∀ k j, q k j = true → p k j = true) : zFP q t t2 := fun k j e => h k j (hq k j e)
theorem zn_m (k : Nat) : Int32.ofNat (k + 1) - 1 = Int32.ofNat k := by
  rw [← zn_1]
  exact Int32.add_sub_cancel _ _
/-- a row of the class written or read anywhere -/
theorem pl_setA {c n : Nat} {x v : Int32} {t : zS} (hn : n < 2147483648) : mX5_set c n x v t = some (0, t) ∨ mX5_set c n x v t = some (0, zu t (c + 1) x.toNatClampNeg v) := by
  unfold mX5_set
  by_cases h : x < 0
  · rw [if_pos h]; exact Or.inl rfl
  · rw [if_neg h]
    by_cases h2 : Int32.ofNat n ≤ x
    · rw [if_pos h2]; exact Or.inl rfl
    · rw [if_neg h2]
      have g2 := pl_lt.mp (Int32.not_le.mp h2)
      rw [pl_ofn hn] at g2
      have g3 := pl_nat (Int32.not_lt.mp h)
      rw [pl_wr ⟨Int32.not_lt.mp h, by omega⟩]; exact Or.inr rfl
theorem pl_setF {p : Nat → Nat → Bool} {c n : Nat} {x v : Int32} {t : zS} (hn : n < 2147483648) (hp : ∀ j, p (c + 1) j = false) : ∃ t2, mX5_set c n x v t = some (0, t2) ∧ zFP p t t2 := by
  rcases pl_setA (c := c) (n := n) (x := x) (v := v) (t := t) hn with h | h
  · exact ⟨t, h, zFP_refl _ _⟩
  · exact ⟨_, h, zFP_zu (zFP_refl _ _) (hp _)⟩
theorem pl_getA {c n : Nat} {x : Int32} {t : zS} (hn : n < 2147483648) : ∃ v, mX5_get c n x t = some (v, t) := by
  unfold mX5_get
  by_cases h : x < 0
  · rw [if_pos h]; exact ⟨_, rfl⟩
  · rw [if_neg h]
    by_cases h2 : Int32.ofNat n ≤ x
    · rw [if_pos h2]; exact ⟨_, rfl⟩
    · rw [if_neg h2]
      have g2 := pl_lt.mp (Int32.not_le.mp h2)
      rw [pl_ofn hn] at g2
      have g3 := pl_nat (Int32.not_lt.mp h)
      rw [pl_rd ⟨Int32.not_lt.mp h, by omega⟩]; exact ⟨_, rfl⟩
theorem pl_getN {c n : Nat} {t : zS} : mX5_get c n (-1) t = some (-1, t) := by
  unfold mX5_get
  rw [if_pos (by decide)]
theorem pl_setN {c n : Nat} {v : Int32} {t : zS} : mX5_set c n (-1) v t = some (0, t) := by
  unfold mX5_set
  rw [if_pos (by decide)]
theorem zc_node {t : zS} {N : Nat} {x y : Int32} (h : t 3 13 = Int32.ofNat N) (hN : N < 3000) : mX2_node x y t = some (Int32.ofNat N, zu (zu (zu (zu t 9 N x) 11 N y) 13 N (if x < 8 then -1 else 0)) 3 13 (Int32.ofNat (N + 1))) := by
  by_cases hx : x < 8
  · simp (disch := first | omega | decide | assumption) only [zu_same, zu_ne1, zu_ne2, zu_row, pl_bd, pl_pt, pl_let, zn_set, zn_get, zn_rd, zn_wr, zn_1, zn_m, Nat.reduceAdd, mX2_node, bX2_node_43, h, if_pos hx]
  · simp (disch := first | omega | decide | assumption) only [zu_same, zu_ne1, zu_ne2, zu_row, pl_bd, pl_pt, pl_let, zn_set, zn_get, zn_rd, zn_wr, zn_1, zn_m, Nat.reduceAdd, mX2_node, bX2_node_43, h, if_neg hx]
theorem zc_mention {t : zS} {k : Nat} {x : Int32} (h : t 5 7 = Int32.ofNat k) (hN : k < 1600) : mX7_mentionName x t = some (0, zu (zu (zu t 54 k (t 5 10)) 56 k (2 * t 5 11 + x)) 5 7 (Int32.ofNat (k + 1))) := by
  simp (disch := first | omega | decide | assumption) only [zu_same, zu_ne1, zu_ne2, zu_row, pl_bd, pl_pt, pl_let, zn_set, zn_get, zn_rd, zn_wr, zn_1, zn_m, Nat.reduceAdd, mX7_mentionName, h]
theorem zm_node {u : zS} {M : Nat} {x y z : Int32} (h : u 0 14 = Int32.ofNat M) (hM : M < 3100) : mX12_node x y z u = some (Int32.ofNat M, zu (zu (zu (zu (zu u 5 M x) 6 M y) 7 M z) 8 M 0) 0 14 (Int32.ofNat (M + 1))) := by
  simp (disch := first | omega | decide | assumption) only [zu_same, zu_ne1, zu_ne2, zu_row, pl_bd, pl_pt, pl_let, zn_set, zn_get, zn_rd, zn_wr, zn_1, zn_m, Nat.reduceAdd, mX12_node, h]
theorem zm_ask {u : zS} {k : Nat} {x : Int32} (h : u 0 52 = Int32.ofNat k) (hM : k < 3000) : mX12_ask 0 x u = some (0, zu (zu (zu (zu (zu u 35 k (u 0 8)) 36 k (u 0 6)) 37 k 0) 38 k x) 0 52 (Int32.ofNat (k + 1))) := by
  simp (disch := first | omega | decide | assumption) only [zu_same, zu_ne1, zu_ne2, zu_row, pl_bd, pl_pt, pl_let, zn_set, zn_get, zn_rd, zn_wr, zn_1, zn_m, Nat.reduceAdd, mX12_ask, h, z01, true_or, if_true, if_pos]
/-- what reading leaves alone -/
def zpR (k _j : Nat) : Bool := k == 0 || k == 1 || k == 2 || k == 6 || k == 7 || k == 29 || k == 50 || (decide (57 ≤ k) && decide (k ≤ 73)) || decide (116 ≤ k)
def zpM (k j : Nat) : Bool := (k == 0 && (decide (j ≤ 3) || j == 57 || decide (62 ≤ j))) || k == 1 || k == 2 || decide (40 ≤ k)
/-- what reading a TYPE leaves alone -/
def zpTC (k j : Nat) : Bool := if k = 3 then !(j == 13 || j == 14) else !(k == 5 || k == 9 || k == 11 || k == 13 || k == 15 || k == 17 || k == 19 || k == 54 || k == 56)
def zpTM (k j : Nat) : Bool := if k = 0 then !((decide (4 ≤ j) && decide (j ≤ 11)) || j == 14 || j == 19 || j == 52 || j == 59) else !((decide (3 ≤ k) && decide (k ≤ 10)) || (decide (35 ≤ k) && decide (k ≤ 39)))
theorem zFP_R {t t2 : zS} (h : zFP zpTC t t2) : zFP zpR t t2 := by
  refine zFP_mono h (fun k j q => ?_)
  unfold zpR at q
  unfold zpTC
  simp only [Bool.or_eq_true, Bool.and_eq_true, beq_iff_eq, decide_eq_true_eq] at q
  rw [if_neg (by omega)]
  simp only [Bool.not_eq_true', Bool.or_eq_false_iff, beq_eq_false_iff_ne]
  omega
theorem zFP_M {u u2 : zS} (h : zFP zpTM u u2) : zFP zpM u u2 := by
  refine zFP_mono h (fun k j q => ?_)
  unfold zpM at q
  unfold zpTM
  simp only [Bool.or_eq_true, Bool.and_eq_true, beq_iff_eq, decide_eq_true_eq] at q
  by_cases e : k = 0
  · rw [if_pos e]
    simp only [Bool.not_eq_true', Bool.or_eq_false_iff, Bool.and_eq_false_iff, beq_eq_false_iff_ne, decide_eq_false_iff_not]
    omega
  · rw [if_neg e]
    simp only [Bool.not_eq_true', Bool.or_eq_false_iff, Bool.and_eq_false_iff, decide_eq_false_iff_not]
    omega
theorem zFP_S {t t2 : zS} (h : zSf t t2) : zFP zpTC t t2 := by
  intro k j q
  by_cases e : k = 5
  · subst e; cases q
  · rw [h.1 k e]
theorem zFP_N {u u2 : zS} (h : zMf u u2) : zFP zpTM u u2 := by
  intro k j q
  by_cases e : k = 0
  · subst e
    refine h.2 j ?_
    unfold zpTM at q
    rw [if_pos rfl] at q
    simp only [Bool.not_eq_true', Bool.or_eq_false_iff, Bool.and_eq_false_iff, beq_eq_false_iff_ne, decide_eq_false_iff_not] at q
    omega
  · by_cases e3 : k = 3
    · subst e3; cases q
    · by_cases e4 : k = 4
      · subst e4; cases q
      · rw [h.1 k e e3 e4]
