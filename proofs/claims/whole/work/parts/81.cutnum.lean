/-! NUMBERS: digits and their value on both sides -/
def znum (g : Nat → Int32) : Nat → Nat → Int32 → Int32
  | 0, _, v => v
  | m + 1, p, v => znum g m (p + 1) (v * 10 + g p - 48)
theorem pl_cnum {n : Nat} {x2 : Int32} (hn : n ≤ 3000) : ∀ (d p fu : Nat) (x3 x4 x5 : Int32) (t : zS), d + p = n → x3 = Int32.ofNat n → x4 = Int32.ofNat p → lX10_cutNumber_6 (fu + d + 1) x2 x3 x4 x5 t = bX10_cutNumber_47 x2 (Int32.ofNat (zrun zdig (t 2) n d p)) (znum (t 2) (zrun zdig (t 2) n d p - p) p x5) t := by
  intro d
  induction d with
  | zero =>
    intro p fu x3 x4 x5 t hp h3 h4
    rw [lX10_cutNumber_6]
    unfold bX10_cutNumber_6
    have e : p = n := by omega
    rw [if_pos (by rw [h3, h4, e]; exact Int32.le_refl _)]
    show bX10_cutNumber_47 x2 x4 x5 t = bX10_cutNumber_47 x2 (Int32.ofNat p) (znum (t 2) (p - p) p x5) t
    rw [Nat.sub_self, h4, znum]
  | succ d ih =>
    intro p fu x3 x4 x5 t hp h3 h4
    have e3 : x3.toInt = (n : Int) := by rw [h3]; exact pl_ofn (by omega)
    have e4 : x4.toInt = (p : Int) := by rw [h4]; exact pl_ofn (by omega)
    rw [show fu + (d + 1) + 1 = (fu + d + 1) + 1 by omega, lX10_cutNumber_6]
    unfold bX10_cutNumber_6
    rw [if_neg (fun x => by have := pl_le.mp x; omega), pl_get (m := p) (by decide) e4 (by omega), pl_bd]
    unfold zrun
    by_cases q2 : zDg (t 2 p)
    · have hle := (zrun_le (f := zdig) (g := t 2) (n := n) d (p + 1) (by omega)).1
      rw [pl_cDt q2, pl_bd, if_neg pl_10, pl_get (m := p) (by decide) e4 (by omega), pl_bd, pl_let, pl_let, if_pos ⟨by omega, zdig_iff.mpr q2⟩, ih (p + 1) fu x3 (x4 + 1) _ t (by omega) h3 (by rw [h4]; exact nI_1 p), show zrun zdig (t 2) n d (p + 1) - p = zrun zdig (t 2) n d (p + 1) - (p + 1) + 1 by omega, znum]
    · rw [pl_cDf q2, pl_bd, if_pos rfl, if_neg (fun x => q2 (zdig_iff.mp x.2)), Nat.sub_self, h4, znum]
/-- the reference's value of m digits (m of them at most nine: word is NUMBER) -/
theorem pl_mnum {a l : Nat} (hl : a + l ≤ 3000) : ∀ (d i fu : Nat) (y : Int32) (u : zS), d + i = l → y = Int32.ofNat i → u 0 6 = Int32.ofNat a → u 0 7 = Int32.ofNat l → u 0 5 = 3 → lX12_next_293 (fu + d + 1) y u = bX12_next_341 (zu u 0 8 (znum (u 2) d (a + i) (u 0 8))) := by
  intro d
  induction d with
  | zero =>
    intro i fu y u hi hy h6 h7 h5
    rw [lX12_next_293]
    unfold bX12_next_293
    have e : i = l := by omega
    rw [if_pos (by rw [h7, hy, e]; exact Int32.le_refl _), znum, zu_self rfl]
  | succ d ih =>
    intro i fu y u hi hy h6 h7 h5
    have ey : y.toInt = (i : Int) := by rw [hy]; exact pl_ofn (by omega)
    have e6 : (u 0 6).toInt = (a : Int) := by rw [h6]; exact pl_ofn (by omega)
    have e7 : (u 0 7).toInt = (l : Int) := by rw [h7]; exact pl_ofn (by omega)
    have e6y : (u 0 6 + y).toInt = ((a + i : Nat) : Int) := by rw [pl_add (by omega) (by omega)]; omega
    rw [show fu + (d + 1) + 1 = (fu + d + 1) + 1 by omega, lX12_next_293]
    unfold bX12_next_293
    rw [if_neg (fun x => by have := pl_le.mp x; omega), if_pos h5, pl_rd ⟨pl_pos (by omega), by rw [pl_clamp e6y]; omega⟩, pl_clamp e6y, pl_pt, pl_let, ih (i + 1) fu (y + 1) _ (by omega) (by rw [hy]; exact nI_1 i) (by rw [zu_ne2 (by decide)]; exact h6) (by rw [zu_ne2 (by decide)]; exact h7) (by rw [zu_ne2 (by decide)]; exact h5), zu_twice, zu_same, zu_row (by decide), znum, Int32.mul_comm 10 (u 0 8)]
    rfl
