/-! the beginning: nothing read -/
def zpR1 (k j : Nat) : Bool := zpR k j && !(k == 29)
def zpR0 (k j : Nat) : Bool := zpR k j && !(k == 29 || k == 50 || k == 67 || k == 69 || k == 71 || k == 73)
def zpM0 (k j : Nat) : Bool := (k == 0 && (j == 0 || j == 2 || decide (62 ≤ j) && !(j == 71))) || k == 1 || decide (40 ≤ k)
/-- the class has forgotten -/
def zFg (t : zS) : Prop := t 3 13 = 0 ∧ t 3 14 = 0 ∧ t 3 15 = 0 ∧ t 4 9 = 0 ∧ t 4 10 = 0 ∧ t 51 6 = 0 ∧ t 51 7 = 0 ∧ t 52 15 = 0 ∧ t 52 16 = 0 ∧ (∀ x, x < 6000 → t 29 x = Int32.ofNat x) ∧ ∀ v, v < 1600 → t 25 v = -1 ∧ t 33 v = -1 ∧ t 49 v = -1
theorem zfl_row {t : zS} {c a b k : Nat} {v : Int32} (h : ¬ k = c) : zfl t c a b v k = t k := by
  funext j
  unfold zfl
  rw [if_neg (fun e => h e.1)]
theorem zfl_in {t : zS} {c a b j : Nat} {v : Int32} (h : a ≤ j ∧ j < b) : zfl t c a b v c j = v := by
  unfold zfl
  rw [if_pos ⟨rfl, h⟩]
theorem zid_row {t : zS} {c a b k : Nat} (h : ¬ k = c) : zid t c a b k = t k := by
  funext j
  unfold zid
  rw [if_neg (fun e => h e.1)]
theorem zid_in {t : zS} {c a b j : Nat} (h : a ≤ j ∧ j < b) : zid t c a b c j = Int32.ofNat j := by
  unfold zid
  rw [if_pos ⟨rfl, h⟩]
theorem pl_fill6 {k : Nat} {t : zS} : mX5_fill k 1600 0 1600 (-1) t = some (0, zfl t (k + 1) 0 1600 (-1)) := pl_fill (a := 0) (b := 1600) (by decide) (by decide) (by decide) (by decide) (by decide)
theorem pl_forgets {t : zS} : ∃ t1 t2 t3 t4, mX2_forget t = some (0, t1) ∧ mX3_forget t1 = some (0, t2) ∧ mX9_forget t2 = some (0, t3) ∧ mX6_forget t3 = some (0, t4) ∧ zFg t4 ∧ zFP zpR1 t t4 := by
  unfold mX2_forget mX3_forget mX9_forget mX6_forget
  simp only [pl_pt, pl_fill6, pl_bd, pl_fEq]
  refine ⟨_, _, _, _, rfl, rfl, rfl, rfl, ⟨?_, ?_, ?_, ?_, ?_, ?_, ?_, ?_, ?_, fun x hx => ?_, fun v hv => ⟨?_, ?_, ?_⟩⟩, ?_⟩
  all_goals try (simp (disch := first | omega | decide) only [zfl_row, zfl_in, zid_row, zid_in, zu_same, zu_ne1, zu_ne2, zu_row, Nat.reduceAdd])
  all_goals try omega
  intro k j q
  have hk : ¬ (k = 3 ∨ k = 4 ∨ k = 25 ∨ k = 29 ∨ k = 33 ∨ k = 49 ∨ k = 51 ∨ k = 52) := by
    unfold zpR1 zpR at q
    simp only [Bool.or_eq_true, beq_iff_eq, Bool.and_eq_true, decide_eq_true_eq, Bool.not_eq_true', beq_eq_false_iff_ne] at q
    omega
  simp (disch := first | omega | decide) only [zfl_row, zid_row, zu_row, Nat.reduceAdd]
/-- the reference's copy of the bytes -/
def zcy (u : zS) (j n : Nat) : zS := fun k i => if k = 2 ∧ j ≤ i ∧ i < n then u 1 i else u k i
theorem zcy_step {u : zS} {j n : Nat} (h : j < n) : zcy (zu u 2 j (u 1 j)) (j + 1) n = zcy u j n := by
  funext k i
  unfold zcy
  rw [zu_ne1 (t := u) (k := 2) (k' := 1) (by decide)]
  by_cases c : k = 2 ∧ j + 1 ≤ i ∧ i < n
  · rw [if_pos c, if_pos ⟨c.1, by omega, c.2.2⟩]
  · rw [if_neg c]
    by_cases d : k = 2 ∧ j ≤ i ∧ i < n
    · rw [if_pos d]
      have e : i = j := by
        rcases Nat.lt_or_ge j i with l | l
        · exact absurd ⟨d.1, l, d.2.2⟩ c
        · omega
      rw [e, d.1, zu_same]
    · rw [if_neg d]
      by_cases e : k = 2
      · exact zu_ne2 (fun e2 => d ⟨e, by omega, by omega⟩)
      · exact zu_ne1 e
theorem zcy_end {u : zS} {n : Nat} : zcy u n n = u := by
  funext k i
  unfold zcy
  rw [if_neg (fun e => by omega)]
theorem pl_copyM {n : Nat} (hn : n ≤ 3000) : ∀ (d j fu : Nat) (u : zS), d + j = n → u 0 1 = Int32.ofNat n → lX12_program_10 (fu + d + 1) (Int32.ofNat j) u = bX12_program_10 (lX12_program_10 fu) (Int32.ofNat n) (zcy u j n) := by
  intro d
  induction d with
  | zero =>
    intro j fu u hd h1
    have : j = n := by omega
    subst this
    rw [zcy_end]
    rfl
  | succ d ih =>
    intro j fu u hd h1
    show bX12_program_10 (lX12_program_10 (fu + d + 1)) (Int32.ofNat j) u = _
    conv => lhs; unfold bX12_program_10
    rw [h1, if_neg (show ¬ Int32.ofNat n ≤ Int32.ofNat j by rw [zn_le (by omega) (by omega)]; omega), zn_rd (by omega) (by decide), zn_wr (by omega) (by decide), pl_let, zn_1, ih (j + 1) fu _ (by omega) (by rw [zu_ne1 (by decide)]; exact h1), zcy_step (by omega)]
