/-! a word's bytes: how far letters and digits go -/
def zdig (x : Int32) : Bool := decide (48 ≤ x.toInt ∧ x.toInt ≤ 57)
def zaln (x : Int32) : Bool := decide ((97 ≤ x.toInt ∧ x.toInt ≤ 122) ∨ (65 ≤ x.toInt ∧ x.toInt ≤ 90) ∨ (48 ≤ x.toInt ∧ x.toInt ≤ 57))
theorem zdig_iff {x : Int32} : zdig x = true ↔ zDg x := by unfold zdig zDg; exact decide_eq_true_iff
theorem zaln_iff {x : Int32} : zaln x = true ↔ (zLt x ∨ zDg x) := by
  unfold zaln zLt zDg
  rw [decide_eq_true_iff, or_assoc]
def zrun (f : Int32 → Bool) (g : Nat → Int32) (n : Nat) : Nat → Nat → Nat
  | 0, p => p
  | d + 1, p => if p < n ∧ f (g p) = true then zrun f g n d (p + 1) else p
theorem zrun_le {f : Int32 → Bool} {g : Nat → Int32} {n : Nat} : ∀ (d p : Nat), d + p = n → p ≤ zrun f g n d p ∧ zrun f g n d p ≤ n := by
  intro d
  induction d with
  | zero => intro p h; exact ⟨Nat.le_refl _, by show p ≤ n; omega⟩
  | succ d ih =>
    intro p h
    unfold zrun
    by_cases q : p < n ∧ f (g p) = true
    · rw [if_pos q]
      have := ih (p + 1) (by omega)
      omega
    · rw [if_neg q]; omega
/-- the reference's loop over a NAME's bytes -/
theorem pl_mname {n a : Nat} (hn : n ≤ 3000) : ∀ (d p fu : Nat) (u : zS), d + p = n → a ≤ p → u 0 6 = Int32.ofNat a → u 0 7 = Int32.ofNat (p - a) → u 0 3 = Int32.ofNat n → lX12_next_105 (fu + d + 1) u = bX12_next_174 (zu u 0 7 (Int32.ofNat (zrun zaln (u 2) n d p - a))) := by
  intro d
  induction d with
  | zero =>
    intro p fu u hp ha h6 h7 h3
    have e6 : (u 0 6).toInt = (a : Int) := by rw [h6]; exact pl_ofn (by omega)
    have e7 : (u 0 7).toInt = ((p - a : Nat) : Int) := by rw [h7]; exact pl_ofn (by omega)
    have e3 : (u 0 3).toInt = (n : Int) := by rw [h3]; exact pl_ofn (by omega)
    have e67 : (u 0 6 + u 0 7).toInt = (p : Int) := by rw [pl_add (by omega) (by omega)]; omega
    rw [lX12_next_105]
    unfold bX12_next_105
    rw [if_pos (pl_le.mpr (by omega))]
    show bX12_next_174 u = bX12_next_174 (zu u 0 7 (Int32.ofNat (p - a)))
    rw [zu_self h7]
  | succ d ih =>
    intro p fu u hp ha h6 h7 h3
    have e6 : (u 0 6).toInt = (a : Int) := by rw [h6]; exact pl_ofn (by omega)
    have e7 : (u 0 7).toInt = ((p - a : Nat) : Int) := by rw [h7]; exact pl_ofn (by omega)
    have e3 : (u 0 3).toInt = (n : Int) := by rw [h3]; exact pl_ofn (by omega)
    have e67 : (u 0 6 + u 0 7).toInt = (p : Int) := by rw [pl_add (by omega) (by omega)]; omega
    have step : bX12_next_161 (lX12_next_105 (fu + d + 1)) u = bX12_next_174 (zu u 0 7 (Int32.ofNat (zrun zaln (u 2) n d (p + 1) - a))) := by
      unfold bX12_next_161
      rw [pl_pt, ih (p + 1) fu (zu u 0 7 (u 0 7 + 1)) (by omega) (by omega) (by rw [zu_ne2 (by decide)]; exact h6) (by rw [zu_same, h7, show p + 1 - a = (p - a) + 1 by omega]; exact nI_1 _) (by rw [zu_ne2 (by decide)]; exact h3), zu_row (by decide), zu_twice]
    rw [show fu + (d + 1) + 1 = (fu + d + 1) + 1 by omega, lX12_next_105]
    unfold bX12_next_105
    rw [if_neg (fun w => by have := pl_le.mp w; omega), pl_rd ⟨pl_pos (by omega), by rw [pl_clamp e67]; omega⟩, pl_clamp e67]
    unfold zrun
    by_cases q1 : zLt (u 2 p)
    · rw [pl_mLt q1, pl_bd, if_neg pl_10, if_pos ⟨by omega, zaln_iff.mpr (Or.inl q1)⟩]; exact step
    · rw [pl_mLf q1, pl_bd, if_pos rfl, pl_rd ⟨pl_pos (by omega), by rw [pl_clamp e67]; omega⟩, pl_clamp e67]
      by_cases q2 : zDg (u 2 p)
      · rw [pl_mDt q2, pl_bd, if_neg pl_10, if_pos ⟨by omega, zaln_iff.mpr (Or.inr q2)⟩]; exact step
      · rw [pl_mDf q2, pl_bd, if_pos rfl, if_neg (fun w => (zaln_iff.mp w.2).elim q1 q2), zu_self h7]
/-- and over a NUMBER's digits -/
theorem pl_mdigs {n a : Nat} (hn : n ≤ 3000) : ∀ (d p fu : Nat) (u : zS), d + p = n → a ≤ p → u 0 6 = Int32.ofNat a → u 0 7 = Int32.ofNat (p - a) → u 0 3 = Int32.ofNat n → lX12_next_224 (fu + d + 1) u = bX12_next_273 (zu u 0 7 (Int32.ofNat (zrun zdig (u 2) n d p - a))) := by
  intro d
  induction d with
  | zero =>
    intro p fu u hp ha h6 h7 h3
    have e6 : (u 0 6).toInt = (a : Int) := by rw [h6]; exact pl_ofn (by omega)
    have e7 : (u 0 7).toInt = ((p - a : Nat) : Int) := by rw [h7]; exact pl_ofn (by omega)
    have e3 : (u 0 3).toInt = (n : Int) := by rw [h3]; exact pl_ofn (by omega)
    have e67 : (u 0 6 + u 0 7).toInt = (p : Int) := by rw [pl_add (by omega) (by omega)]; omega
    rw [lX12_next_224]
    unfold bX12_next_224
    rw [if_pos (pl_le.mpr (by omega))]
    show bX12_next_273 u = bX12_next_273 (zu u 0 7 (Int32.ofNat (p - a)))
    rw [zu_self h7]
  | succ d ih =>
    intro p fu u hp ha h6 h7 h3
    have e6 : (u 0 6).toInt = (a : Int) := by rw [h6]; exact pl_ofn (by omega)
    have e7 : (u 0 7).toInt = ((p - a : Nat) : Int) := by rw [h7]; exact pl_ofn (by omega)
    have e3 : (u 0 3).toInt = (n : Int) := by rw [h3]; exact pl_ofn (by omega)
    have e67 : (u 0 6 + u 0 7).toInt = (p : Int) := by rw [pl_add (by omega) (by omega)]; omega
    rw [show fu + (d + 1) + 1 = (fu + d + 1) + 1 by omega, lX12_next_224]
    unfold bX12_next_224
    rw [if_neg (fun w => by have := pl_le.mp w; omega), pl_rd ⟨pl_pos (by omega), by rw [pl_clamp e67]; omega⟩, pl_clamp e67]
    unfold zrun
    by_cases q2 : zDg (u 2 p)
    · rw [pl_mDt q2, pl_bd, if_neg pl_10, if_pos ⟨by omega, zdig_iff.mpr q2⟩, pl_pt, ih (p + 1) fu (zu u 0 7 (u 0 7 + 1)) (by omega) (by omega) (by rw [zu_ne2 (by decide)]; exact h6) (by rw [zu_same, h7, show p + 1 - a = (p - a) + 1 by omega]; exact nI_1 _) (by rw [zu_ne2 (by decide)]; exact h3), zu_row (by decide), zu_twice]
    · rw [pl_mDf q2, pl_bd, if_pos rfl, if_neg (fun w => q2 (zdig_iff.mp w.2)), zu_self h7]
