/-! the reference: where one goes on behind a statement -/
/-- resolved by row r -/
def zRq (r : Nat → Int32) (v : Int32) : Int32 := if (-2 : Int32) < v then v else r ((-2 : Int32) - v).toNatClampNeg
theorem zRq_p {r : Nat → Int32} {v : Int32} (h : (-2 : Int32) < v) : zRq r v = v := by unfold zRq; rw [if_pos h]
theorem zRq_n {r : Nat → Int32} {h : Nat} (hh : h < 1600) : zRq r (-2 - Int32.ofNat h) = r h := by
  unfold zRq
  rw [if_neg (zn_b2 h hh).2.1, (zn_b2 h hh).2.2.1, show (Int32.ofNat h).toNatClampNeg = h from pl_clamp (pl_ofn (by omega))]
/-- a place that may be resolved at once -/
def zRo (r : Nat → Int32) (v : Int32) : Prop := (-2 : Int32) < v ∨ ∃ h, h < 1600 ∧ v = -2 - Int32.ofNat h ∧ (-2 : Int32) < r h
theorem zRo_lt {r : Nat → Int32} {v : Int32} (h : zRo r v) : (-2 : Int32) < zRq r v := by
  rcases h with h | ⟨k, k1, k2, k3⟩
  · rw [zRq_p h]; exact h
  · rw [k2, zRq_n k1]; exact k3
theorem pl_sa10 {k2 : Int32 → zS → zR} {x fu : Nat} {u : zS} (hx : x < 1600) (h : zRo (u 21) (u 21 x)) : lX12_setAfter_10 k2 (fu + 2) (Int32.ofNat x) u = if u 14 x = 10 then lX12_setAfter_55 k2 zFU (Int32.ofNat x) (zu u 21 x (zRq (u 21) (u 21 x))) else bX12_setAfter_123 k2 (Int32.ofNat x) (zu u 21 x (zRq (u 21) (u 21 x))) := by
  show bX12_setAfter_10 k2 (lX12_setAfter_10 k2 (fu + 1)) _ u = _
  rcases h with h | ⟨k, k1, k2', k3⟩
  · rw [zRq_p h, zu_self rfl]
    unfold bX12_setAfter_10
    rw [zn_rd hx (by decide), if_pos h, zn_rd hx (by decide)]
  · have e : zRq (u 21) (u 21 x) = u 21 k := by rw [k2', zRq_n k1]
    rw [e]
    have n1 : ¬ (-2 : Int32) < u 21 x := by rw [k2']; exact (zn_b2 k k1).2.1
    have e2 : bX12_setAfter_10 k2 (lX12_setAfter_10 k2 (fu + 1)) (Int32.ofNat x) u = lX12_setAfter_10 k2 (fu + 1) (Int32.ofNat x) (zu u 21 x (u 21 k)) := by
      rw [bX12_setAfter_10, zn_rd hx (by decide), if_neg n1, zn_rd hx (by decide), k2', (zn_b2 k k1).2.2.1, zn_rd k1 (by decide), zn_wr hx (by decide)]
    rw [e2]
    show bX12_setAfter_10 k2 (lX12_setAfter_10 k2 fu) _ _ = _
    rw [bX12_setAfter_10, zn_rd hx (by decide), zu_same, if_pos k3, zn_rd hx (by decide), zu_ne1 (by decide)]
theorem pl_sa55 {k2 : Int32 → zS → zR} {x fu : Nat} {u : zS} (hx : x < 1600) (h : zRo (u 21) (u 19 x)) : lX12_setAfter_55 k2 (fu + 2) (Int32.ofNat x) u = lX12_setAfter_89 k2 zFU (Int32.ofNat x) (zu u 19 x (zRq (u 21) (u 19 x))) := by
  show bX12_setAfter_55 k2 (lX12_setAfter_55 k2 (fu + 1)) _ u = _
  rcases h with h | ⟨k, k1, k2', k3⟩
  · rw [zRq_p h, zu_self rfl]
    unfold bX12_setAfter_55
    rw [zn_rd hx (by decide), if_pos h]
  · have e : zRq (u 21) (u 19 x) = u 21 k := by rw [k2', zRq_n k1]
    rw [e]
    have n1 : ¬ (-2 : Int32) < u 19 x := by rw [k2']; exact (zn_b2 k k1).2.1
    have e2 : bX12_setAfter_55 k2 (lX12_setAfter_55 k2 (fu + 1)) (Int32.ofNat x) u = lX12_setAfter_55 k2 (fu + 1) (Int32.ofNat x) (zu u 19 x (u 21 k)) := by
      rw [bX12_setAfter_55, zn_rd hx (by decide), if_neg n1, zn_rd hx (by decide), k2', (zn_b2 k k1).2.2.1, zn_rd k1 (by decide), zn_wr hx (by decide)]
    rw [e2]
    show bX12_setAfter_55 k2 (lX12_setAfter_55 k2 fu) _ _ = _
    rw [bX12_setAfter_55, zn_rd hx (by decide), zu_same, if_pos k3]
theorem pl_sa89 {k2 : Int32 → zS → zR} {x fu : Nat} {u : zS} (hx : x < 1600) (h : zRo (u 21) (u 20 x)) : lX12_setAfter_89 k2 (fu + 2) (Int32.ofNat x) u = bX12_setAfter_123 k2 (Int32.ofNat x) (zu u 20 x (zRq (u 21) (u 20 x))) := by
  show bX12_setAfter_89 k2 (lX12_setAfter_89 k2 (fu + 1)) _ u = _
  rcases h with h | ⟨k, k1, k2', k3⟩
  · rw [zRq_p h, zu_self rfl]
    unfold bX12_setAfter_89
    rw [zn_rd hx (by decide), if_pos h]
  · have e : zRq (u 21) (u 20 x) = u 21 k := by rw [k2', zRq_n k1]
    rw [e]
    have n1 : ¬ (-2 : Int32) < u 20 x := by rw [k2']; exact (zn_b2 k k1).2.1
    have e2 : bX12_setAfter_89 k2 (lX12_setAfter_89 k2 (fu + 1)) (Int32.ofNat x) u = lX12_setAfter_89 k2 (fu + 1) (Int32.ofNat x) (zu u 20 x (u 21 k)) := by
      rw [bX12_setAfter_89, zn_rd hx (by decide), if_neg n1, zn_rd hx (by decide), k2', (zn_b2 k k1).2.2.1, zn_rd k1 (by decide), zn_wr hx (by decide)]
    rw [e2]
    show bX12_setAfter_89 k2 (lX12_setAfter_89 k2 fu) _ _ = _
    rw [bX12_setAfter_89, zn_rd hx (by decide), zu_same, if_pos k3]
theorem pl_sa206 {k2 : Int32 → zS → zR} {k189 : Int32 → Int32 → zS → zR} {x1 : Int32} {x fu : Nat} {u : zS} (hx : x < 1600) (h : zRo (u 21) (u 24 x)) : lX12_setAfter_206 k2 k189 (fu + 2) x1 (Int32.ofNat x) u = k189 x1 (Int32.ofNat (x + 1)) (zu u 24 x (zRq (u 21) (u 24 x))) := by
  show bX12_setAfter_206 k2 k189 (lX12_setAfter_206 k2 k189 (fu + 1)) _ _ u = _
  rcases h with h | ⟨k, k1, k2', k3⟩
  · rw [zRq_p h, zu_self rfl]
    unfold bX12_setAfter_206
    rw [zn_rd hx (by decide), if_pos h, pl_let, zn_1]
  · have e : zRq (u 21) (u 24 x) = u 21 k := by rw [k2', zRq_n k1]
    rw [e]
    have n1 : ¬ (-2 : Int32) < u 24 x := by rw [k2']; exact (zn_b2 k k1).2.1
    have e2 : bX12_setAfter_206 k2 k189 (lX12_setAfter_206 k2 k189 (fu + 1)) x1 (Int32.ofNat x) u = lX12_setAfter_206 k2 k189 (fu + 1) x1 (Int32.ofNat x) (zu u 24 x (u 21 k)) := by
      rw [bX12_setAfter_206, zn_rd hx (by decide), if_neg n1, zn_rd hx (by decide), k2', (zn_b2 k k1).2.2.1, zn_rd k1 (by decide), zn_wr hx (by decide)]
    rw [e2]
    show bX12_setAfter_206 k2 k189 (lX12_setAfter_206 k2 k189 fu) _ _ _ = _
    rw [bX12_setAfter_206, zn_rd hx (by decide), zu_same, if_pos k3, pl_let, zn_1]
/-- the BLOCKS of case -/
theorem pl_sa189 {k2 : Int32 → zS → zR} {x a n : Nat} (hx : x < 1600) (ha : a + n ≤ 1600) : ∀ (d j fu : Nat) (u : zS), j + d = n → u 19 x = Int32.ofNat a → u 20 x = Int32.ofNat n → (∀ y, y < n → zRo (u 21) (u 24 (a + y))) → ∃ u2, lX12_setAfter_189 k2 (fu + d + 1) (Int32.ofNat x) (Int32.ofNat (a + j)) u = bX12_setAfter_246 k2 (Int32.ofNat x) u2 ∧ (∀ k, ¬ k = 24 → u2 k = u k) ∧ ∀ y, u2 24 y = if a + j ≤ y ∧ y < a + n then zRq (u 21) (u 24 y) else u 24 y := by
  intro d
  induction d with
  | zero =>
    intro j fu u hj h19 h20 hr
    refine ⟨u, ?_, fun _ _ => rfl, fun y => by rw [if_neg (by omega)]⟩
    show bX12_setAfter_189 k2 _ _ _ u = _
    unfold bX12_setAfter_189
    rw [zn_rd hx (by decide), zn_rd hx (by decide), h19, h20, zn_add, if_pos ((zn_le (by omega) (by omega)).mpr (by omega))]
  | succ d ih =>
    intro j fu u hj h19 h20 hr
    obtain ⟨u1, e1⟩ : ∃ u1, u1 = zu u 24 (a + j) (zRq (u 21) (u 24 (a + j))) := ⟨_, rfl⟩
    have f1 : ∀ k, ¬ k = 24 → u1 k = u k := fun k hk => by rw [e1, zu_row hk]
    have at1 : ∀ y, u1 24 y = if y = a + j then zRq (u 21) (u 24 y) else u 24 y := fun y => by
      rw [e1]
      by_cases q : y = a + j
      · subst q; rw [if_pos rfl, zu_same]
      · rw [if_neg q, zu_ne2 q]
    obtain ⟨u2, b1, b2, b3⟩ := ih (j + 1) fu u1 (by omega) (by rw [f1 19 (by decide)]; exact h19) (by rw [f1 20 (by decide)]; exact h20) (fun y hy => by
      rw [f1 21 (by decide), at1]
      by_cases q : a + y = a + j
      · rw [if_pos q]; exact Or.inl (zRo_lt (hr y hy))
      · rw [if_neg q]; exact hr y hy)
    refine ⟨u2, ?_, fun k hk => by rw [b2 k hk, f1 k hk], fun y => ?_⟩
    · rw [← b1]
      show bX12_setAfter_189 k2 (lX12_setAfter_189 k2 (fu + d + 1)) _ _ u = _
      unfold bX12_setAfter_189
      rw [zn_rd hx (by decide), zn_rd hx (by decide), h19, h20, zn_add, if_neg (fun w => by have := (zn_le (by omega) (by omega)).mp w; omega), show zFU = 999998 + 2 from rfl, pl_sa206 (by omega) (hr j (by omega)), ← e1, show a + (j + 1) = a + j + 1 by omega]
    · rw [b3, f1 21 (by decide), at1]
      by_cases q : y = a + j
      · rw [if_neg (by omega), if_pos q, if_pos (by omega)]
      · by_cases q2 : a + (j + 1) ≤ y ∧ y < a + n
        · rw [if_pos q2, if_neg q, if_pos (by omega)]
        · rw [if_neg q2, if_neg q, if_neg (by omega)]
/-- a statement behind setAfter -/
def zU2 (t u u2 : zS) (s : Nat) : Prop := u2 21 s = t 103 s ∧ (u 14 s = 10 → u2 19 s = zRq (t 103) (u 19 s) ∧ u2 20 s = zRq (t 103) (u 20 s)) ∧ (¬ u 14 s = 10 → u2 19 s = u 19 s ∧ u2 20 s = u 20 s) ∧ (u 14 s = 6 → ∀ a n, u 19 s = Int32.ofNat a → u 20 s = Int32.ofNat n → a + n ≤ 1600 → ∀ j, j < n → u2 24 (a + j) = zRq (t 103) (u 24 (a + j)))
theorem zBl_ro {t : zS} {o : Nat → Nat × Nat} {s S : Nat} {x y : Int32} {r : Nat → Int32} (hs : s < 1000) (hS : S ≤ 1000) (h : zBl t o s S (-2 - Int32.ofNat s) x y) (hr : (-2 : Int32) < r s) : zRo r y ∧ ∀ r2 : Nat → Int32, r2 s = r s → zRq r2 y = zRq r y := by
  rcases h with ⟨_, e⟩ | ⟨k, _, e, _, e2, _⟩
  · exact ⟨Or.inr ⟨s, by omega, e, hr⟩, fun r2 q => by rw [e, zRq_n (by omega), zRq_n (by omega), q]⟩
  · have l : (-2 : Int32) < y := by rw [e]; exact (zn_b2 k (by omega)).2.2.2
    exact ⟨Or.inl l, fun r2 q => by rw [zRq_p l, zRq_p l]⟩
