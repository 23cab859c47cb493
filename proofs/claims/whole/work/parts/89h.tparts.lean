/-! alternatives: looking for a label, laying them down -/
theorem zn_lit (k : Nat) : (OfNat.ofNat k : Int32) = Int32.ofNat k := rfl
theorem pl_findPartL {t : zS} {P n : Nat} {h x : Int32} {e : Nat → Nat} (hL : zLk (t 19) P n h e) (hP : P ≤ 1600) (hn : n ≤ 1600) : ∀ (d j fu : Nat), d + j = n → ∃ r, lX2_findPart_12 (fu + d + 1) x (if j < n then Int32.ofNat (e j) else -1) (Int32.ofNat j) t = some (r, t) ∧ ((∃ k, j ≤ k ∧ k < n ∧ r = Int32.ofNat (e k) ∧ t 15 (e k) = x ∧ ∀ l, j ≤ l → l < k → ¬ t 15 (e l) = x) ∨ (r = -1 ∧ ∀ l, j ≤ l → l < n → ¬ t 15 (e l) = x)) := by
  intro d
  induction d with
  | zero =>
    intro j fu hd
    refine ⟨-1, ?_, Or.inr ⟨rfl, fun l h1 h2 => by omega⟩⟩
    show bX2_findPart_12 _ _ _ _ _ = _
    unfold bX2_findPart_12
    rw [if_neg (show ¬ j < n by omega)]
    by_cases q : (1600 : Int32) ≤ Int32.ofNat j
    · rw [if_pos q]
    · rw [if_neg q, if_pos (by decide)]
  | succ d ih =>
    intro j fu hd
    obtain ⟨r, r1, r2⟩ := ih (j + 1) fu (by omega)
    obtain ⟨a1, a2⟩ := hL.2 j (by omega)
    have e0 : lX2_findPart_12 (fu + (d + 1) + 1) x (if j < n then Int32.ofNat (e j) else -1) (Int32.ofNat j) t = bX2_findPart_12 (lX2_findPart_12 (fu + d + 1)) x (Int32.ofNat (e j)) (Int32.ofNat j) t := by
      rw [if_pos (show j < n by omega)]; rfl
    rw [e0]
    unfold bX2_findPart_12
    rw [if_neg (show ¬ (1600 : Int32) ≤ Int32.ofNat j from fun w => by have := (zn_le (a := 1600) (by decide) (by omega)).mp w; omega), if_neg (zn_neg (by omega)), zn_get (by omega) (by decide), pl_bd]
    by_cases q : t (14 + 1) (e j) = x
    · rw [if_pos q]
      exact ⟨_, rfl, Or.inl ⟨j, Nat.le_refl _, by omega, rfl, q, fun l h1 h2 => by omega⟩⟩
    · rw [if_neg q, zn_get (by omega) (by decide), pl_bd, pl_let, zn_1]
      have e1 : t (18 + 1) (e j) = (if j + 1 < n then Int32.ofNat (e (j + 1)) else -1) := a2
      rw [e1, r1]
      refine ⟨r, rfl, ?_⟩
      rcases r2 with ⟨k, k1, k2, k3, k4, k5⟩ | ⟨k1, k2⟩
      · refine Or.inl ⟨k, by omega, k2, k3, k4, fun l h1 h2 => ?_⟩
        by_cases w : l = j
        · rw [w]; exact q
        · exact k5 l (by omega) h2
      · refine Or.inr ⟨k1, fun l h1 h2 => ?_⟩
        by_cases w : l = j
        · rw [w]; exact q
        · exact k2 l (by omega) h2
theorem pl_findPart {t : zS} {P n c : Nat} {x : Int32} {e : Nat → Nat} (hL : zLk (t 19) P n (t 11 c) e) (hP : P ≤ 1600) (hn : n ≤ 1600) (hc : c < 3000) : ∃ r, mX2_findPart (Int32.ofNat c) x t = some (r, t) ∧ ((∃ k, k < n ∧ r = Int32.ofNat (e k) ∧ t 15 (e k) = x ∧ ∀ l, l < k → ¬ t 15 (e l) = x) ∨ (r = -1 ∧ ∀ l, l < n → ¬ t 15 (e l) = x)) := by
  unfold mX2_findPart
  rw [zn_get hc (by decide), pl_bd]
  have e1 : t (10 + 1) c = (if 0 < n then Int32.ofNat (e 0) else -1) := by
    show t 11 c = _
    rw [hL.1]
    by_cases q : n = 0
    · rw [if_pos q, if_neg (by omega)]
    · rw [if_neg q, if_pos (by omega)]
  obtain ⟨r, r1, r2⟩ := pl_findPartL (x := x) hL hP hn n 0 (zFU - n - 1) (by omega)
  have ef : zFU - n - 1 + n + 1 = zFU := by unfold zFU; omega
  rw [ef] at r1
  rw [e1]
  refine ⟨r, r1, ?_⟩
  rcases r2 with ⟨k, k1, k2, k3, k4, k5⟩ | ⟨k1, k2⟩
  · exact Or.inl ⟨k, k2, k3, k4, fun l hl => k5 l (Nat.zero_le _) hl⟩
  · exact Or.inr ⟨k1, fun l hl => k2 l (Nat.zero_le _) hl⟩
/-- a new label, on the reference's side -/
def zcAdd (g : GgX12_type) (k49 : Int32 → Int32 → Int32 → zS → zR) (x1 x2 : Int32) (t : zS) : zR := zwr t 39 4000 (t 0 59) (t 0 8) fun t2761 => zpt t2761 0 59 ((t2761 0 59) + 2) fun t2762 => zlet ((t2762 0 59) - 1) fun v2763 => zbd (mX12_next t2762) fun _ t2765 => zbd (g.1 t2765) fun r2767 t2768 => zwr t2768 39 4000 v2763 r2767 fun t2771 => zbd (mX12_isSign 59 t2771) fun r2772 t2773 => if r2772 = 0 then bX12_choices_179 g k49 x1 x2 r2772 t2773 else zbd (mX12_next t2773) fun _ t2776 => bX12_choices_179 g k49 x1 x2 r2772 t2776
theorem zn_2 (k : Nat) : Int32.ofNat k + 2 = Int32.ofNat (k + 2) := zn_add k 2
theorem pl_held {g : GgX12_type} {k49 : Int32 → Int32 → Int32 → zS → zR} {x1 x2 : Int32} {u : zS} {H n : Nat} (h59 : u 0 59 = Int32.ofNat (2 * (H + n))) (hb : H + n ≤ 1600) : ∀ (d j fu : Nat), d + j = n → (∀ l, j ≤ l → l < n → ¬ u 39 (2 * (H + l)) = u 0 8) → lX12_choices_80 g k49 (fu + d + 1) x1 x2 (Int32.ofNat (2 * (H + j))) u = zcAdd g k49 x1 x2 u := by
  intro d
  induction d with
  | zero =>
    intro j fu hd hl
    show bX12_choices_80 _ _ _ _ _ _ _ = _
    unfold bX12_choices_80
    rw [if_pos (by rw [h59, zn_le (by omega) (by omega)]; omega)]
    rfl
  | succ d ih =>
    intro j fu hd hl
    show bX12_choices_80 g k49 (lX12_choices_80 g k49 (fu + d + 1)) x1 x2 _ u = _
    unfold bX12_choices_80
    rw [if_neg (by rw [h59, zn_le (by omega) (by omega)]; omega), zn_rd (by omega) (by decide), if_neg (hl j (Nat.le_refl _) (by omega)), pl_let, zn_2]
    exact ih (j + 1) fu (by omega) (fun l h1 h2 => hl l (by omega) h2)
theorem pl_heldD {g : GgX12_type} {k49 : Int32 → Int32 → Int32 → zS → zR} {x1 x2 : Int32} {u : zS} {H n k : Nat} (h59 : u 0 59 = Int32.ofNat (2 * (H + n))) (hb : H + n ≤ 1600) (hk : k < n) (hk2 : u 39 (2 * (H + k)) = u 0 8) : ∀ (d j fu : Nat), d + j = n → j ≤ k → lX12_choices_80 g k49 (fu + d + 1) x1 x2 (Int32.ofNat (2 * (H + j))) u = zbd (mX12_fails (u 0 6) u) fun r t => some (r, t) := by
  intro d
  induction d with
  | zero => intro j fu hd hl; omega
  | succ d ih =>
    intro j fu hd hl
    show bX12_choices_80 g k49 (lX12_choices_80 g k49 (fu + d + 1)) x1 x2 _ u = _
    unfold bX12_choices_80
    rw [if_neg (by rw [h59, zn_le (by omega) (by omega)]; omega), zn_rd (by omega) (by decide)]
    by_cases q : u 39 (2 * (H + j)) = u 0 8
    · rw [if_pos q]
    · rw [if_neg q, pl_let, zn_2]
      refine ih (j + 1) fu (by omega) ?_
      by_cases w : j = k
      · rw [w] at q; exact absurd hk2 q
      · omega
/-- the labels are laid down -/
theorem pl_lay {g : GgX12_type} {x1 : Int32} {H n A : Nat} (hb : H + n ≤ 1600) : ∀ (d j fu : Nat) (u : zS), d + j = n → u 0 59 = Int32.ofNat (2 * (H + n)) → u 0 19 = Int32.ofNat (A + j) → A + n ≤ 1600 → ∃ u2, lX12_choices_215 g (fu + d + 1) x1 (Int32.ofNat (2 * H)) (Int32.ofNat (2 * (H + j))) u = some (x1, u2) ∧ (∀ l, j ≤ l → l < n → u2 9 (A + l) = u 39 (2 * (H + l)) ∧ u2 10 (A + l) = u 39 (2 * (H + l) + 1)) ∧ (∀ a, a < A + j → u2 9 a = u 9 a ∧ u2 10 a = u 10 a) ∧ u2 0 19 = Int32.ofNat (A + n) ∧ u2 0 59 = Int32.ofNat (2 * H) ∧ (∀ k, ¬ (k = 0 ∨ k = 9 ∨ k = 10) → u2 k = u k) ∧ ∀ l, ¬ (l = 19 ∨ l = 59) → u2 0 l = u 0 l := by
  intro d
  induction d with
  | zero =>
    intro j fu u hd h59 h19 hA
    refine ⟨zu u 0 59 (Int32.ofNat (2 * H)), ?_, fun l h1 h2 => by omega, fun a ha => ⟨zu_ne1 (by decide), zu_ne1 (by decide)⟩, ?_, zu_same _ _ _ _, fun k hk => zu_row (by omega), fun l hl => zu_ne2 (by omega)⟩
    · show bX12_choices_215 _ _ _ _ _ _ = _
      unfold bX12_choices_215
      rw [if_pos (by rw [h59, zn_le (by omega) (by omega)]; omega), pl_pt]
    · rw [zu_ne2 (by decide), h19, show A + j = A + n by omega]
  | succ d ih =>
    intro j fu u hd h59 h19 hA
    obtain ⟨u2, r1, r2, r3, r4, r5, r6, r7⟩ := ih (j + 1) fu (zu (zu (zu u 9 (A + j) (u 39 (2 * (H + j)))) 10 (A + j) (u 39 (2 * (H + j) + 1))) 0 19 (Int32.ofNat (A + j + 1))) (by omega) (by simp (disch := first | omega | decide | assumption) only [zu_same, zu_ne1, zu_ne2, zu_row, pl_bd, pl_pt, pl_let, zn_set, zn_get, zn_rd, zn_wr, zn_1, zn_m, Nat.reduceAdd, h59]) (by simp (disch := first | omega | decide | assumption) only [zu_same, zu_ne1, zu_ne2, zu_row, pl_bd, pl_pt, pl_let, zn_set, zn_get, zn_rd, zn_wr, zn_1, zn_m, Nat.reduceAdd]; rfl) hA
    refine ⟨u2, ?_, fun l h1 h2 => ?_, fun a ha => ?_, r4, r5, fun k hk => ?_, fun l hl => ?_⟩
    · show bX12_choices_215 g (lX12_choices_215 g (fu + d + 1)) x1 _ _ u = _
      unfold bX12_choices_215
      rw [if_neg (by rw [h59, zn_le (by omega) (by omega)]; omega), zn_rd (by omega) (by decide), h19, zn_wr (by omega) (by decide), zn_1]
      simp (disch := first | omega | decide | assumption) only [zu_same, zu_ne1, zu_ne2, zu_row, pl_bd, pl_pt, pl_let, zn_set, zn_get, zn_rd, zn_wr, zn_1, zn_m, Nat.reduceAdd, h19, zn_2]
      exact r1
    · by_cases w : l = j
      · subst w
        obtain ⟨a1, a2⟩ := r3 (A + l) (by omega)
        rw [a1, a2]
        constructor <;> simp (disch := first | omega | decide | assumption) only [zu_same, zu_ne1, zu_ne2, zu_row, pl_bd, pl_pt, pl_let, zn_set, zn_get, zn_rd, zn_wr, zn_1, zn_m, Nat.reduceAdd]
      · obtain ⟨a1, a2⟩ := r2 l (by omega) h2
        rw [a1, a2]
        constructor <;> simp (disch := first | omega | decide | assumption) only [zu_same, zu_ne1, zu_ne2, zu_row, pl_bd, pl_pt, pl_let, zn_set, zn_get, zn_rd, zn_wr, zn_1, zn_m, Nat.reduceAdd]
    · obtain ⟨a1, a2⟩ := r3 a (by omega)
      rw [a1, a2]
      constructor <;> simp (disch := first | omega | decide | assumption) only [zu_same, zu_ne1, zu_ne2, zu_row, pl_bd, pl_pt, pl_let, zn_set, zn_get, zn_rd, zn_wr, zn_1, zn_m, Nat.reduceAdd]
    · rw [r6 k hk]; simp (disch := first | omega | decide | assumption) only [zu_same, zu_ne1, zu_ne2, zu_row, pl_bd, pl_pt, pl_let, zn_set, zn_get, zn_rd, zn_wr, zn_1, zn_m, Nat.reduceAdd]
    · rw [r7 l hl]; simp (disch := first | omega | decide | assumption) only [zu_same, zu_ne1, zu_ne2, zu_row, pl_bd, pl_pt, pl_let, zn_set, zn_get, zn_rd, zn_wr, zn_1, zn_m, Nat.reduceAdd]
