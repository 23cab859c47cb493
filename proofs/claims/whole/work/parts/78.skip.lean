/-! blanks: where the next word begins -/
def zskip (g : Nat → Int32) (n : Nat) : Nat → Nat → Nat
  | 0, p => p
  | d + 1, p => if p < n ∧ (g p = 32 ∨ g p = 10) then zskip g n d (p + 1) else p
theorem zu_self {t : zS} {k j : Nat} {v : Int32} (h : t k j = v) : zu t k j v = t := by
  funext k' j'
  unfold zu
  by_cases q : k' = k ∧ j' = j
  · rw [if_pos q, q.1, q.2, h]
  · rw [if_neg q]
theorem zu_twice {t : zS} {k j : Nat} {v w : Int32} : zu (zu t k j v) k j w = zu t k j w := by
  funext k' j'
  unfold zu
  by_cases q : k' = k ∧ j' = j
  · rw [if_pos q, if_pos q]
  · rw [if_neg q, if_neg q, if_neg q]
theorem zskip_le {g : Nat → Int32} {n : Nat} : ∀ (d p : Nat), d + p = n → p ≤ zskip g n d p ∧ zskip g n d p ≤ n := by
  intro d
  induction d with
  | zero => intro p h; exact ⟨Nat.le_refl _, by show p ≤ n; omega⟩
  | succ d ih =>
    intro p h
    unfold zskip
    by_cases q : p < n ∧ (g p = 32 ∨ g p = 10)
    · rw [if_pos q]
      have := ih (p + 1) (by omega)
      omega
    · rw [if_neg q]; omega
/-- behind the blanks stands no blank -/
theorem zskip_end {g : Nat → Int32} {n : Nat} : ∀ (d p : Nat), d + p = n → zskip g n d p < n → ¬ (g (zskip g n d p) = 32 ∨ g (zskip g n d p) = 10) := by
  intro d
  induction d with
  | zero => intro p h hl; exfalso; have : p < n := hl; omega
  | succ d ih =>
    intro p h
    unfold zskip
    by_cases q : p < n ∧ (g p = 32 ∨ g p = 10)
    · rw [if_pos q]; exact ih (p + 1) (by omega)
    · rw [if_neg q]; exact fun hl w => q ⟨hl, w⟩
/-- the reference's next() up to the word's first byte -/
theorem pl_mskip {n : Nat} (hn : n ≤ 3000) : ∀ (d p fu : Nat) (u : zS), d + p = n → u 0 4 = Int32.ofNat p → u 0 3 = Int32.ofNat n → lX12_next_0 (fu + d + 1) u = bX12_next_52 (zu u 0 4 (Int32.ofNat (zskip (u 2) n d p))) := by
  intro d
  induction d with
  | zero =>
    intro p fu u hp h4 h3
    rw [lX12_next_0]
    unfold bX12_next_0
    have e : p = n := by omega
    rw [if_pos (by rw [h4, h3, e]; exact Int32.le_refl _)]
    show bX12_next_52 u = bX12_next_52 (zu u 0 4 (Int32.ofNat p))
    rw [zu_self h4]
  | succ d ih =>
    intro p fu u hp h4 h3
    have e4 : (u 0 4).toInt = (p : Int) := by rw [h4]; exact pl_ofn (by omega)
    have e3 : (u 0 3).toInt = (n : Int) := by rw [h3]; exact pl_ofn (by omega)
    have step : bX12_next_39 (lX12_next_0 (fu + d + 1)) u = bX12_next_52 (zu u 0 4 (Int32.ofNat (zskip (u 2) n d (p + 1)))) := by
      unfold bX12_next_39
      rw [pl_pt, ih (p + 1) fu (zu u 0 4 (u 0 4 + 1)) (by omega) (by rw [zu_same, h4]; exact nI_1 p) (by rw [zu_ne2 (by decide)]; exact h3), zu_row (by decide), zu_twice]
    rw [show fu + (d + 1) + 1 = (fu + d + 1) + 1 by omega, lX12_next_0]
    unfold bX12_next_0
    rw [if_neg (fun w => by have := pl_le.mp w; omega), pl_rd ⟨pl_pos (by omega), by rw [pl_clamp e4]; omega⟩, pl_clamp e4]
    unfold zskip
    by_cases q1 : u 2 p = 32
    · rw [if_pos q1, if_pos ⟨by omega, Or.inl q1⟩]; exact step
    · rw [if_neg q1, pl_rd ⟨pl_pos (by omega), by rw [pl_clamp e4]; omega⟩, pl_clamp e4]
      by_cases q2 : u 2 p = 10
      · rw [if_pos q2, if_pos ⟨by omega, Or.inr q2⟩]; exact step
      · rw [if_neg q2, if_neg (fun w => w.2.elim q1 q2), zu_self h4]
theorem pl_mnext {n p : Nat} {u : zS} (hn : n ≤ 3000) (hp : p ≤ n) (h4 : u 0 4 = Int32.ofNat p) (h3 : u 0 3 = Int32.ofNat n) : mX12_next u = bX12_next_52 (zu u 0 4 (Int32.ofNat (zskip (u 2) n (n - p) p))) := by
  unfold mX12_next
  rw [show zFU = (999999 - (n - p)) + (n - p) + 1 by show 1000000 = _; omega]
  exact pl_mskip hn (n - p) p _ u (by omega) h4 h3
