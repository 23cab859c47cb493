/-! channels on the class's side -/
def zshf (M : zS) (e : Nat) : zS := fun x j => if x = e then M e (j + 1) else M x j
theorem zshf_e {M : zS} {e j : Nat} : zshf M e e j = M e (j + 1) := by unfold zshf; rw [if_pos rfl]
theorem zshf_ne {M : zS} {e x : Nat} (h : ¬ x = e) : zshf M e x = M x := by funext j; unfold zshf; rw [if_neg h]
theorem zRw_bd {fc rw : Nat} (hf : fc * (4 + 2 * rw) ≤ 10000) (h1 : 1 ≤ rw) : fc ≤ 1667 ∧ ∀ x, x < 2 * fc → x * rw + rw ≤ 10000 := by
  constructor
  · have : fc * 6 ≤ fc * (4 + 2 * rw) := Nat.mul_le_mul_left _ (by omega)
    omega
  · intro x hx
    have h1 : (x + 1) * rw ≤ 2 * fc * rw := Nat.mul_le_mul_right _ (by omega)
    have h2 : fc * (4 + 2 * rw) = 4 * fc + 2 * fc * rw := by rw [Nat.mul_add, Nat.mul_comm fc 4, Nat.mul_comm 2 rw, ← Nat.mul_assoc, Nat.mul_comm (fc * rw) 2, Nat.mul_assoc]
    rw [Nat.add_mul, Nat.one_mul] at h1
    omega
theorem zRemC {D : zCo} {Y ql : Nat → Nat} {MC : zS} {fc fk rw e : Nat} {fq : Nat → Nat} {t : zS} (h : zBC D Y ql MC fc fk rw fq t) (he : e < 2 * fc) (hf : fc * (4 + 2 * rw) ≤ 10000) (hl : ql e ≤ rw) (hl0 : ¬ ql e = 0) (hr : rw ≤ 8) (hr1 : 1 ≤ rw) : ∃ t2, mX0_remove (Int32.ofNat e) t = some (MC e 0, t2) ∧ zBC D Y (zfu ql e (ql e - 1)) (zshf MC e) fc fk rw fq t2 ∧ t2 59 9 = t 59 9 - 1 ∧ (∀ j, ¬ j = 9 → t2 59 j = t 59 j) ∧ ∀ k, ¬ (k = 59 ∨ k = 119 ∨ k = 121) → t2 k = t k := by
  obtain ⟨a1, a2, a3, a4, a5, a6⟩ := h
  obtain ⟨b1, o, b2, b3, b4⟩ := a6 e he
  obtain ⟨hfc, hrow⟩ := zRw_bd hf hr1
  have g118 : mX5_get 118 3336 (Int32.ofNat e) t = some (Int32.ofNat o, t) := by rw [← b3]; exact zn_get (by omega) (by decide)
  obtain ⟨o', eo⟩ : ∃ o', o' = if o + 1 < rw then o + 1 else 0 := ⟨_, rfl⟩
  have lo : o' < rw := by rw [eo]; split <;> omega
  have oj : ∀ j, (o' + j) % rw = (o + (j + 1)) % rw := fun j => by
    rw [eo]
    split
    · rw [show o + 1 + j = o + (j + 1) by omega]
    · have : o + 1 = rw := by omega
      rw [show o + (j + 1) = j + rw by omega, Nat.add_mod_right, Nat.zero_add]
  obtain ⟨t2, e2⟩ : ∃ t2, t2 = zu (zu (zu t 119 e (Int32.ofNat o')) 121 e (Int32.ofNat (ql e - 1))) 59 9 (t 59 9 - 1) := ⟨_, rfl⟩
  have f2 : ∀ k, ¬ (k = 59 ∨ k = 119 ∨ k = 121) → t2 k = t k := fun k hk => by rw [e2, zu_row (by omega), zu_row (by omega), zu_row (by omega)]
  have f59 : ∀ j, ¬ j = 9 → t2 59 j = t 59 j := fun j hj => by rw [e2, zu_ne2 hj, zu_ne1 (by decide), zu_ne1 (by decide)]
  refine ⟨t2, ?_, ⟨by rw [f59 6 (by decide)]; exact a1, by rw [f59 5 (by decide)]; exact a2, by rw [f59 7 (by decide)]; exact a3, by rw [f2 125 (by decide)]; exact a4, by rw [f2 123 (by decide)]; exact a5, fun x hx => ?_⟩, by rw [e2, zu_same], f59, f2⟩
  · have fin : ∀ y : Int32, y = Int32.ofNat o' → bX0_remove_31 (Int32.ofNat e) (Int32.ofNat o) y (Int32.ofNat e) t = some (MC e 0, t2) := fun y hy => by
      have g120 : mX5_get 120 3336 (Int32.ofNat e) (zu t 119 e (Int32.ofNat o')) = some (Int32.ofNat (ql e), zu t 119 e (Int32.ofNat o')) := by rw [← b1, ← show (zu t 119 e (Int32.ofNat o')) 121 e = t 121 e from zu_ne1 (by decide)]; exact zn_get (by omega) (by decide)
      have lat : e * rw + o < 10000 := by have := hrow e he; omega
      have m0 := b4 0 (by omega)
      rw [Nat.add_zero, Nat.mod_eq_of_lt b2] at m0
      unfold bX0_remove_31
      rw [hy, zn_set (by omega) (by decide), pl_bd, g120, pl_bd, show Int32.ofNat (ql e) - 1 = Int32.ofNat (ql e - 1) from zn_sub (b := 1) (by omega) (by omega), zn_set (by omega) (by decide), pl_bd, pl_pt, zu_ne1 (show (59 : Nat) ≠ 120 + 1 by decide), zu_ne1 (show (59 : Nat) ≠ 119 by decide), ← e2, f59 7 (by decide), a3, zn_mul, zn_add, zn_get lat (by decide), pl_bd, f2 117 (by decide), m0]
    unfold mX0_remove
    rw [g118, pl_bd, a3, zn_1]
    by_cases c : o + 1 < rw
    · rw [if_pos ((zn_lt (by omega) (by omega)).mpr c)]
      exact fin _ (by rw [eo, if_pos c])
    · rw [if_neg (fun w => c ((zn_lt (by omega) (by omega)).mp w))]
      exact fin _ (by rw [eo, if_neg c]; rfl)
  · obtain ⟨c1, o2, c2, c3, c4⟩ := a6 x hx
    by_cases q : x = e
    · subst q
      have eo2 : o2 = o := by
        rw [b3] at c3
        exact ((zn_inj (by omega) (by omega)).mp c3).symm
      subst eo2
      rw [zfu_same]
      refine ⟨by rw [e2, zu_ne1 (by decide), zu_same], o', lo, by rw [e2, zu_ne1 (by decide), zu_ne1 (by decide), zu_same], fun j hj => ?_⟩
      rw [zshf_e, f2 117 (by decide), oj]
      exact c4 (j + 1) (by omega)
    · rw [zfu_ne q, zshf_ne q]
      refine ⟨by rw [e2, zu_ne1 (by decide), zu_ne2 q, zu_ne1 (by decide)]; exact c1, o2, c2, by rw [e2, zu_ne1 (by decide), zu_ne1 (by decide), zu_ne2 q]; exact c3, fun j hj => by rw [f2 117 (by decide)]; exact c4 j hj⟩
/-- an end is CLOSED -/
theorem zCloC {D : zCo} {Y ql : Nat → Nat} {MC : zS} {fc fk rw e y : Nat} {fq : Nat → Nat} {t : zS} (h : zBC D Y ql MC fc fk rw fq t) (he : e < 2 * fc) (hf : fc ≤ 1667) (hk : fk ≤ fc) (hk2 : D.kd (Y (zflp e)) = 0 → fk < fc) (ho : ¬ D.kd (Y e) = 0) (hy : D.kd y = 0) : ∃ t2, mX0_close (Int32.ofNat e) t = some (if D.kd (Y (zflp e)) = 0 then 1 else 0, t2) ∧ zBC D (zfu Y e y) ql MC fc (if D.kd (Y (zflp e)) = 0 then fk + 1 else fk) rw (if D.kd (Y (zflp e)) = 0 then zfu fq fk (e / 2) else fq) t2 ∧ t2 59 8 = (if D.kd (Y (zflp e)) = 0 then t 59 8 - 1 else t 59 8) ∧ (∀ j, ¬ (j = 5 ∨ j = 8) → t2 59 j = t 59 j) ∧ ∀ k, ¬ (k = 59 ∨ k = 123 ∨ k = 125) → t2 k = t k := by
  obtain ⟨a1, a2, a3, a4, a5, a6⟩ := h
  have hc : e / 2 < fc := by omega
  have b1 := a5 (e / 2) hc
  have g122 : mX5_get 122 1668 (Int32.ofNat (e / 2)) t = some (Int32.ofNat (zOe D Y (e / 2)), t) := by rw [← b1]; exact zn_get (by omega) (by decide)
  -- how many are open
  have op : zOe D Y (e / 2) = zOe D (zfu Y e y) (e / 2) + 1 ∧ (D.kd (Y (zflp e)) = 0 ↔ zOe D (zfu Y e y) (e / 2) = 0) := by
    unfold zOe zflp
    rcases Nat.mod_two_eq_zero_or_one e with q | q
    · have e0 : 2 * (e / 2) = e := by omega
      rw [e0, q, zfu_same, zfu_ne (show ¬ e + 1 = e by omega), if_neg ho, if_pos hy]
      by_cases z : D.kd (Y (e + 1)) = 0
      · rw [if_pos z]; exact ⟨rfl, fun _ => rfl, fun _ => z⟩
      · rw [if_neg z]; exact ⟨rfl, fun w => absurd w z, fun w => by omega⟩
    · have e0 : 2 * (e / 2) + 1 = e := by omega
      rw [e0, q, zfu_same, zfu_ne (show ¬ 2 * (e / 2) = e by omega), if_neg ho, if_pos hy, show 2 * (e / 2) + (1 - 1) = 2 * (e / 2) from rfl]
      by_cases z : D.kd (Y (2 * (e / 2))) = 0
      · rw [if_pos z]; exact ⟨rfl, fun _ => rfl, fun _ => z⟩
      · rw [if_neg z]; exact ⟨rfl, fun w => absurd w z, fun w => by omega⟩
  obtain ⟨k1, ek⟩ : ∃ k1, k1 = zOe D (zfu Y e y) (e / 2) := ⟨_, rfl⟩
  rw [← ek] at op
  have k1l : k1 ≤ 1 := by
    have : zOe D Y (e / 2) ≤ 2 := by unfold zOe; split <;> split <;> omega
    omega
  obtain ⟨t1, e1⟩ : ∃ t1, t1 = zu t 123 (e / 2) (Int32.ofNat k1) := ⟨_, rfl⟩
  have f1 : ∀ k, ¬ k = 123 → t1 k = t k := fun k hk => by rw [e1, zu_row hk]
  have start : mX0_close (Int32.ofNat e) t = if Int32.ofNat k1 ≤ 0 then zbd (mX5_set 124 1668 (t1 59 5) (Int32.ofNat (e / 2)) t1) fun r1885 t1886 => zpt t1886 59 5 ((t1886 59 5) + 1) fun t1888 => zpt t1888 59 8 ((t1888 59 8) - 1) fun t1889 => some (1, t1889) else some (0, t1) := by
    unfold mX0_close
    rw [pl_let, (zb_s e (by omega)).1, g122, pl_bd, op.1, zn_m, zn_set (by omega) (by decide), pl_bd, ← e1, zn_get (by omega) (by decide), pl_bd, e1, zu_same, ← e1]
  -- the rows of open ends
  have rows : ∀ t2 : zS, t2 123 = t1 123 → ∀ c, c < fc → t2 123 c = Int32.ofNat (zOe D (zfu Y e y) c) := fun t2 q c hc2 => by
    rw [q, e1]
    by_cases w : c = e / 2
    · subst w; rw [zu_same, ek]
    · rw [zu_ne2 w, a5 c hc2]
      unfold zOe
      rw [zfu_ne (show ¬ 2 * c = e by omega), zfu_ne (show ¬ 2 * c + 1 = e by omega)]
  rw [start]
  by_cases z : D.kd (Y (zflp e)) = 0
  · have k0 : k1 = 0 := op.2.mp z
    have hlt := hk2 z
    simp only [if_pos z]
    rw [k0, if_pos (show Int32.ofNat 0 ≤ 0 by decide), f1 59 (by decide), a2, zn_set (by omega) (by decide), pl_bd, pl_pt, pl_pt, zu_ne1 (show (59 : Nat) ≠ 124 + 1 by decide), f1 59 (by decide), a2, zn_1]
    refine ⟨_, rfl, ⟨?_, ?_, ?_, fun j hj => ?_, rows _ (by simp (disch := first | omega | decide | assumption) only [zu_same, zu_ne1, zu_ne2, zu_row, pl_bd, pl_pt, pl_let, zn_set, zn_get, zn_rd, zn_wr, zn_1, zn_m, Nat.reduceAdd]), fun x hx => ?_⟩, ?_, fun j hj => ?_, fun k hk => ?_⟩
    · rw [zu_ne2 (by decide), zu_ne2 (by decide), zu_ne1 (by decide), f1 59 (by decide)]; exact a1
    · rw [zu_ne2 (by decide), zu_same]
    · rw [zu_ne2 (by decide), zu_ne2 (by decide), zu_ne1 (by decide), f1 59 (by decide)]; exact a3
    · rw [zu_ne1 (by decide), zu_ne1 (by decide)]
      by_cases w : j = fk
      · subst w; rw [zu_same, zfu_same]
      · rw [zu_ne2 w, zfu_ne w, f1 125 (by decide)]; exact a4 j (by omega)
    · rw [zu_row (by decide), zu_row (by decide), zu_row (by decide), zu_row (by decide), zu_row (by decide), zu_row (by decide), zu_row (by decide), zu_row (by decide), zu_row (by decide), f1 121 (by decide), f1 119 (by decide), f1 117 (by decide)]
      exact a6 x hx
    · rw [zu_same, zu_ne2 (by decide), zu_ne1 (by decide), f1 59 (by decide)]
    · rw [zu_ne2 (by omega), zu_ne2 (by omega), zu_ne1 (by decide), f1 59 (by decide)]
    · rw [zu_row (by omega), zu_row (by omega), zu_row (by omega), f1 k (by omega)]
  · have k0 : ¬ k1 = 0 := fun w => z (op.2.mpr w)
    simp only [if_neg z]
    rw [if_neg (show ¬ Int32.ofNat k1 ≤ 0 from fun w => k0 (by have := (zn_le (b := 0) (by omega) (by decide)).mp w; omega))]
    refine ⟨t1, rfl, ⟨by rw [f1 59 (by decide)]; exact a1, by rw [f1 59 (by decide)]; exact a2, by rw [f1 59 (by decide)]; exact a3, by rw [f1 125 (by decide)]; exact a4, rows t1 rfl, ?_⟩, by rw [f1 59 (by decide)], fun j hj => by rw [f1 59 (by decide)], fun k hk => f1 k (by omega)⟩
    rw [f1 121 (by decide), f1 119 (by decide), f1 117 (by decide)]
    exact a6
/-- a new channel -/
theorem zMakC {D : zCo} {Y ql : Nat → Nat} {MC : zS} {fc fk rw y y' : Nat} {fq : Nat → Nat} {t : zS} (h : zBC D Y ql MC fc fk rw fq t) (hf : fc ≤ 1667) (hf2 : fk = 0 → fc < 1667) (hk : fk ≤ fc) (hq : ∀ j, j < fk → fq j < fc) (hr : 1 ≤ rw) (hy : ¬ D.kd y = 0) (hy' : ¬ D.kd y' = 0) : ∃ c t2, c = (if fk = 0 then fc else fq (fk - 1)) ∧ mX0_make t = some (Int32.ofNat (2 * c), t2) ∧ zBC D (zfu (zfu Y (2 * c) y) (2 * c + 1) y') (zfu (zfu ql (2 * c) 0) (2 * c + 1) 0) MC (if fk = 0 then fc + 1 else fc) (fk - 1) rw fq t2 ∧ t2 59 8 = t 59 8 + 1 ∧ (∀ j, ¬ (j = 5 ∨ j = 6 ∨ j = 8) → t2 59 j = t 59 j) ∧ ∀ k, ¬ (k = 59 ∨ k = 119 ∨ k = 121 ∨ k = 123) → t2 k = t k := by
  obtain ⟨a1, a2, a3, a4, a5, a6⟩ := h
  obtain ⟨c, ec⟩ : ∃ c, c = (if fk = 0 then fc else fq (fk - 1)) := ⟨_, rfl⟩
  have hc : c < 1667 ∧ c < (if fk = 0 then fc + 1 else fc) := by
    rw [ec]
    split
    · rename_i w; have := hf2 w; omega
    · rename_i w; have := hq (fk - 1) (by omega); omega
  obtain ⟨t1, m1, m2, m3, m4⟩ : ∃ t1, mX0_make t = bX0_make_47 (Int32.ofNat c) t1 ∧ t1 59 6 = Int32.ofNat (if fk = 0 then fc + 1 else fc) ∧ t1 59 5 = Int32.ofNat (fk - 1) ∧ (∀ j, ¬ (j = 5 ∨ j = 6) → t1 59 j = t 59 j) ∧ ∀ k, ¬ k = 59 → t1 k = t k := by
    unfold mX0_make
    rw [pl_let, a2]
    by_cases z : fk = 0
    · subst z
      rw [if_pos (show Int32.ofNat 0 ≤ 0 by decide), pl_pt, a1, zn_1]
      refine ⟨_, by rw [ec, if_pos rfl], by rw [zu_same, if_pos rfl], by rw [zu_ne2 (by decide)]; exact a2, ?_⟩
      exact ⟨fun j hj => zu_ne2 (by omega), fun k hk => zu_row hk⟩
    · rw [if_neg (show ¬ Int32.ofNat fk ≤ 0 from fun w => z (by have := (zn_le (b := 0) (by omega) (by decide)).mp w; omega)), pl_pt, show Int32.ofNat fk - 1 = Int32.ofNat (fk - 1) from zn_sub (b := 1) (by omega) (by omega), zu_same, zn_get (by omega) (by decide), pl_bd, zu_ne1 (show (124 + 1 : Nat) ≠ 59 by decide), a4 (fk - 1) (by omega)]
      refine ⟨_, by rw [ec, if_neg z], by rw [zu_ne2 (by decide), if_neg z]; exact a1, by rw [zu_same], ?_⟩
      exact ⟨fun j hj => zu_ne2 (by omega), fun k hk => zu_row hk⟩
  obtain ⟨t2, e2⟩ : ∃ t2, t2 = zu (zu (zu (zu (zu t1 123 c 2) 119 (2 * c) 0) 121 (2 * c) 0) 119 (2 * c + 1) 0) 121 (2 * c + 1) 0 := ⟨_, rfl⟩
  have run : mX0_make t = some (Int32.ofNat (2 * c), zu t2 59 8 (t 59 8 + 1)) := by
    rw [m1]
    unfold bX0_make_47
    rw [zn_set (by omega) (by decide), pl_bd, pl_let, zn_dbl0]
    show bX0_make_60 (lX0_make_60 999999) _ _ _ = _
    have e21 : (2 : Int32) * Int32.ofNat c + 1 = Int32.ofNat (2 * c + 1) := by rw [zn_dbl0, zn_1]
    unfold bX0_make_60
    rw [e21, if_neg (fun w => by have := (zn_lt (by omega) (by omega)).mp w; omega), zn_set (by omega) (by decide), pl_bd, zn_set (by omega) (by decide), pl_bd, pl_let, zn_1]
    show bX0_make_60 (lX0_make_60 999998) _ _ _ = _
    unfold bX0_make_60
    rw [e21, if_neg (fun w => by have := (zn_lt (by omega) (by omega)).mp w; omega), zn_set (by omega) (by decide), pl_bd, zn_set (by omega) (by decide), pl_bd, pl_let, zn_1]
    show bX0_make_60 (lX0_make_60 999997) _ _ _ = _
    unfold bX0_make_60
    rw [e21, if_pos ((zn_lt (by omega) (by omega)).mpr (by omega)), pl_pt, zn_dbl0, ← e2, show t2 59 8 = t 59 8 by rw [e2]; rw [zu_ne1 (by decide), zu_ne1 (by decide), zu_ne1 (by decide), zu_ne1 (by decide), zu_ne1 (by decide)]; exact m4.1 8 (by decide)]
  have f2 : ∀ k, ¬ (k = 119 ∨ k = 121 ∨ k = 123) → t2 k = t1 k := fun k hk => by rw [e2, zu_row (by omega), zu_row (by omega), zu_row (by omega), zu_row (by omega), zu_row (by omega)]
  refine ⟨c, zu t2 59 8 (t 59 8 + 1), ec, run, ⟨?_, ?_, ?_, fun j hj => ?_, fun x hx => ?_, fun x hx => ?_⟩, zu_same _ _ _ _, fun j hj => ?_, fun k hk => ?_⟩
  · rw [zu_ne2 (by decide), f2 59 (by decide)]; exact m2
  · rw [zu_ne2 (by decide), f2 59 (by decide)]; exact m3
  · rw [zu_ne2 (by decide), f2 59 (by decide), m4.1 7 (by decide)]; exact a3
  · rw [zu_ne1 (by decide), f2 125 (by decide), m4.2 125 (by decide)]; exact a4 j (by omega)
  · rw [zu_ne1 (by decide)]
    have e123 : t2 123 = (zu t1 123 c 2) 123 := by rw [e2, zu_row (by decide), zu_row (by decide), zu_row (by decide), zu_row (by decide)]
    rw [e123]
    unfold zOe
    by_cases w : x = c
    · subst w
      rw [zu_same, zfu_ne (show ¬ 2 * x = 2 * x + 1 by omega), zfu_same, zfu_same, if_neg hy, if_neg hy']
      rfl
    · rw [zu_ne2 w, m4.2 123 (by decide), zfu_ne (show ¬ 2 * x = 2 * c + 1 by omega), zfu_ne (show ¬ 2 * x = 2 * c by omega), zfu_ne (show ¬ 2 * x + 1 = 2 * c + 1 by omega), zfu_ne (show ¬ 2 * x + 1 = 2 * c by omega)]
      have hx' : x < fc := by
        rw [ec] at w
        split at hx
        · rename_i z; rw [if_pos z] at w; omega
        · exact hx
      exact a5 x hx'
  · rw [zu_ne1 (by decide), zu_ne1 (by decide)]
    have e121 : ∀ x, t2 121 x = if x = 2 * c ∨ x = 2 * c + 1 then 0 else t 121 x := fun x => by
      rw [e2]
      by_cases w1 : x = 2 * c + 1
      · subst w1; rw [zu_same, if_pos (Or.inr rfl)]
      · rw [zu_ne2 w1, zu_ne1 (by decide)]
        by_cases w2 : x = 2 * c
        · subst w2; rw [zu_same, if_pos (Or.inl rfl)]
        · rw [zu_ne2 w2, zu_ne1 (by decide), zu_ne1 (by decide), m4.2 121 (by decide), if_neg (by omega)]
    have e119 : ∀ x, t2 119 x = if x = 2 * c ∨ x = 2 * c + 1 then 0 else t 119 x := fun x => by
      rw [e2]
      rw [zu_ne1 (by decide)]
      by_cases w1 : x = 2 * c + 1
      · subst w1; rw [zu_same, if_pos (Or.inr rfl)]
      · rw [zu_ne2 w1, zu_ne1 (by decide)]
        by_cases w2 : x = 2 * c
        · subst w2; rw [zu_same, if_pos (Or.inl rfl)]
        · rw [zu_ne2 w2, zu_ne1 (by decide), m4.2 119 (by decide), if_neg (by omega)]
    have e117 : ∀ y, zu t2 59 8 (t 59 8 + 1) 117 y = t 117 y := fun y => by rw [zu_ne1 (by decide), f2 117 (by decide), m4.2 117 (by decide)]
    rw [e121, e119]
    by_cases w : x = 2 * c ∨ x = 2 * c + 1
    · rw [if_pos w, if_pos w]
      have q0 : zfu (zfu ql (2 * c) 0) (2 * c + 1) 0 x = 0 := by
        rcases w with w | w
        · rw [w, zfu_ne (by omega), zfu_same]
        · rw [w, zfu_same]
      rw [q0]
      exact ⟨rfl, 0, by omega, rfl, fun j hj => absurd hj (Nat.not_lt_zero _)⟩
    · rw [if_neg w, if_neg w, zfu_ne (by omega), zfu_ne (by omega)]
      have hx' : x < 2 * fc := by
        rw [ec] at w
        split at hx
        · rename_i z; rw [if_pos z] at w; omega
        · exact hx
      obtain ⟨c1, o, c2, c3, c4⟩ := a6 x hx'
      exact ⟨c1, o, c2, c3, fun j hj => by rw [e117]; exact c4 j hj⟩
  · rw [zu_ne2 (by omega), f2 59 (by decide), m4.1 j (by omega)]
  · rw [zu_row (by omega), f2 k (by omega), m4.2 k (by omega)]
