/-! a run as both hold it -/
/-- ring and slots, the class's side -/
def zAC (n : Nat → Nat) (m : Nat) (R pq : Nat → Nat) (fr fd : Nat) (fp : Nat → Nat) (sp ac : Nat → Int32) (num H t : zS) : Prop := zLkC m R t ∧ t 60 16 = Int32.ofNat m ∧ t 60 13 = Int32.ofNat fr ∧ t 60 12 = Int32.ofNat fd ∧ (∀ j, j < fd → t 141 j = Int32.ofNat (fp j)) ∧ (∀ i, i < m → t 127 (R i) = Int32.ofNat (pq (R i)) ∧ t 129 (R i) = sp (R i) ∧ t 131 (R i) = ac (R i)) ∧ zMC (zIn m R) (fun p => n (pq p)) num H t
/-- the reference's side -/
def zAR (n : Nat → Nat) (m : Nat) (R pq : Nat → Nat) (fr fd : Nat) (fp : Nat → Nat) (sp ac : Nat → Int32) (num H u : zS) : Prop := u 0 85 = Int32.ofNat m ∧ u 0 105 = Int32.ofNat fr ∧ u 0 88 = Int32.ofNat fd ∧ (∀ j, j < fd → u 47 j = Int32.ofNat (fp j)) ∧ (∀ i, i < m → u 46 i = Int32.ofNat (R i) ∧ u 48 (R i) = Int32.ofNat (pq (R i)) ∧ u 49 (R i) = sp (R i) ∧ u 50 (R i) = ac (R i)) ∧ zMR (zIn m R) (fun p => n (pq p)) num H u
def zAP (Q m : Nat) (R pq : Nat → Nat) (fr fd : Nat) (fp : Nat → Nat) : Prop := (∀ i, i < m → R i < fr ∧ pq (R i) < Q) ∧ (∀ i j, i < m → j < m → R i = R j → i = j) ∧ m + fd = fr ∧ fr ≤ 2500 ∧ (∀ j, j < fd → fp j < fr ∧ ∀ i, i < m → ¬ R i = fp j) ∧ ∀ j l, j < fd → l < fd → fp j = fp l → j = l
/-- channels, the class's side -/
def zOe (D : zCo) (Y : Nat → Nat) (c : Nat) : Nat := (if D.kd (Y (2 * c)) = 0 then 0 else 1) + (if D.kd (Y (2 * c + 1)) = 0 then 0 else 1)
def zBC (D : zCo) (Y ql : Nat → Nat) (MC : zS) (fc fk rw : Nat) (fq : Nat → Nat) (t : zS) : Prop := t 59 6 = Int32.ofNat fc ∧ t 59 5 = Int32.ofNat fk ∧ t 59 7 = Int32.ofNat rw ∧ (∀ j, j < fk → t 125 j = Int32.ofNat (fq j)) ∧ (∀ c, c < fc → t 123 c = Int32.ofNat (zOe D Y c)) ∧ ∀ e, e < 2 * fc → t 121 e = Int32.ofNat (ql e) ∧ ∃ o, o < rw ∧ t 119 e = Int32.ofNat o ∧ ∀ j, j < ql e → t 117 (e * rw + (o + j) % rw) = MC e j
def zTy (D : zCo) (f Y : Nat → Nat) (e : Nat) : Int32 := if D.kd (Y e) = 0 then -1 else Int32.ofNat (zF f (Y e))
def zBR (D : zCo) (f Y ql : Nat → Nat) (MR : zS) (fc fk rw : Nat) (fq : Nat → Nat) (u : zS) : Prop := u 0 97 = Int32.ofNat fc ∧ u 0 98 = Int32.ofNat fk ∧ u 0 73 = Int32.ofNat rw ∧ (∀ j, j < fk → u 54 j = Int32.ofNat (fq j)) ∧ ∀ e, e < 2 * fc → u 55 e = zTy D f Y e ∧ u 56 e = Int32.ofNat (ql e) ∧ ∀ j, j < ql e → u 57 (8 * e + j) = MR e j
def zBP (D : zCo) (N : Nat) (t0 : zS) (Y ql : Nat → Nat) (fc fk rw : Nat) (fq : Nat → Nat) : Prop := fk ≤ fc ∧ 1 ≤ rw ∧ rw ≤ 8 ∧ fc * (4 + 2 * rw) ≤ 10000 ∧ (∀ j, j < fk → fq j < fc ∧ D.kd (Y (2 * fq j)) = 0 ∧ D.kd (Y (2 * fq j + 1)) = 0) ∧ (∀ j l, j < fk → l < fk → fq j = fq l → j = l) ∧ ∀ e, e < 2 * fc → zV N t0 (Y e) ∧ ql e ≤ rw
theorem zAC_of {n : Nat → Nat} {m : Nat} {R pq : Nat → Nat} {fr fd : Nat} {fp : Nat → Nat} {sp ac : Nat → Int32} {num H t t2 : zS} (h : zAC n m R pq fr fd fp sp ac num H t) (h60 : t2 60 = t 60) (hr : ∀ k, 126 ≤ k → k ≤ 145 → t2 k = t k) : zAC n m R pq fr fd fp sp ac num H t2 := by
  obtain ⟨a1, a2, a3, a4, a5, a6, a7⟩ := h
  refine ⟨?_, by rw [h60]; exact a2, by rw [h60]; exact a3, by rw [h60]; exact a4, by rw [hr 141 (by decide) (by decide)]; exact a5, ?_, zMC_of a7 (by rw [h60]; exact ⟨rfl, rfl⟩) (hr 133 (by decide) (by decide)) (hr 135 (by decide) (by decide)) (hr 143 (by decide) (by decide)) (hr 145 (by decide) (by decide))⟩
  · unfold zLkC at *
    rw [h60, hr 137 (by decide) (by decide), hr 139 (by decide) (by decide)]; exact a1
  · rw [hr 127 (by decide) (by decide), hr 129 (by decide) (by decide), hr 131 (by decide) (by decide)]; exact a6
theorem zAR_of {n : Nat → Nat} {m : Nat} {R pq : Nat → Nat} {fr fd : Nat} {fp : Nat → Nat} {sp ac : Nat → Int32} {num H u u2 : zS} (h : zAR n m R pq fr fd fp sp ac num H u) (h0 : ∀ j, (j = 85 ∨ j = 88 ∨ j = 94 ∨ j = 105) → u2 0 j = u 0 j) (hr : ∀ k, 46 ≤ k → k ≤ 53 → u2 k = u k) : zAR n m R pq fr fd fp sp ac num H u2 := by
  obtain ⟨a1, a2, a3, a4, a5, a6⟩ := h
  refine ⟨by rw [h0 85 (by decide)]; exact a1, by rw [h0 105 (by decide)]; exact a2, by rw [h0 88 (by decide)]; exact a3, by rw [hr 47 (by decide) (by decide)]; exact a4, ?_, zMR_of a6 (h0 94 (by decide)) (hr 51 (by decide) (by decide)) (hr 52 (by decide) (by decide)) (hr 53 (by decide) (by decide))⟩
  rw [hr 46 (by decide) (by decide), hr 48 (by decide) (by decide), hr 49 (by decide) (by decide), hr 50 (by decide) (by decide)]; exact a5
theorem zBC_of {D : zCo} {Y ql : Nat → Nat} {MC : zS} {fc fk rw : Nat} {fq : Nat → Nat} {t t2 : zS} (h : zBC D Y ql MC fc fk rw fq t) (h59 : ∀ j, (j = 5 ∨ j = 6 ∨ j = 7) → t2 59 j = t 59 j) (hr : ∀ k, 117 ≤ k → k ≤ 125 → t2 k = t k) : zBC D Y ql MC fc fk rw fq t2 := by
  unfold zBC at *
  rw [h59 6 (by decide), h59 5 (by decide), h59 7 (by decide), hr 125 (by decide) (by decide), hr 123 (by decide) (by decide), hr 121 (by decide) (by decide), hr 119 (by decide) (by decide), hr 117 (by decide) (by decide)]
  exact h
theorem zBR_of {D : zCo} {f Y ql : Nat → Nat} {MR : zS} {fc fk rw : Nat} {fq : Nat → Nat} {u u2 : zS} (h : zBR D f Y ql MR fc fk rw fq u) (h0 : ∀ j, (j = 73 ∨ j = 97 ∨ j = 98) → u2 0 j = u 0 j) (hr : ∀ k, 54 ≤ k → k ≤ 57 → u2 k = u k) : zBR D f Y ql MR fc fk rw fq u2 := by
  unfold zBR at *
  rw [h0 97 (by decide), h0 98 (by decide), h0 73 (by decide), hr 54 (by decide) (by decide), hr 55 (by decide) (by decide), hr 56 (by decide) (by decide), hr 57 (by decide) (by decide)]
  exact h
/-- one element of a function changed -/
def zfu {α : Type} (F : Nat → α) (i : Nat) (v : α) : Nat → α := fun j => if j = i then v else F j
theorem zfu_same {α : Type} {F : Nat → α} {i : Nat} {v : α} : zfu F i v i = v := by unfold zfu; rw [if_pos rfl]
theorem zfu_ne {α : Type} {F : Nat → α} {i j : Nat} {v : α} (h : ¬ j = i) : zfu F i v j = F j := by unfold zfu; rw [if_neg h]
theorem zn_mod {a b k : Nat} (hb : b < 9) (ha : a < b) (hk : k < b) : (if a + k < b then a + k else a + k - b) = (a + k) % b := by
  split
  · rw [Nat.mod_eq_of_lt (by omega)]
  · rw [Nat.mod_eq_sub_mod (by omega), Nat.mod_eq_of_lt (by omega)]
theorem zn_modne {o i j b : Nat} (hi : i < b) (hj : j < b) (hne : ¬ i = j) (ho : o < b) : ¬ (o + i) % b = (o + j) % b := by
  have f : ∀ x, x < b → (o + x) % b = if o + x < b then o + x else o + x - b := fun x hx => by
    split
    · rw [Nat.mod_eq_of_lt (by omega)]
    · rw [Nat.mod_eq_sub_mod (by omega), Nat.mod_eq_of_lt (by omega)]
  rw [f i hi, f j hj]
  split <;> split <;> omega
/-- the class: is a row full, or empty -/
theorem zFullC {D : zCo} {Y ql : Nat → Nat} {MC : zS} {fc fk rw e : Nat} {fq : Nat → Nat} {t : zS} (h : zBC D Y ql MC fc fk rw fq t) (he : e < 2 * fc) (hf : fc ≤ 1667) (hl : ql e ≤ rw) (hr : rw ≤ 8) : mX0_isFull (Int32.ofNat e) t = some (if ql e = rw then 1 else 0, t) ∧ mX0_isEmpty (Int32.ofNat e) t = some (if ql e = 0 then 1 else 0, t) := by
  obtain ⟨a1, a2, a3, a4, a5, a6⟩ := h
  obtain ⟨b1, _⟩ := a6 e he
  have g : mX5_get 120 3336 (Int32.ofNat e) t = some (Int32.ofNat (ql e), t) := by rw [← b1]; exact zn_get (by omega) (by decide)
  constructor
  · unfold mX0_isFull
    rw [g, pl_bd, a3]
    by_cases c : ql e = rw
    · rw [if_pos c, if_neg (fun w => by have := (zn_lt (by omega) (by omega)).mp w; omega)]
    · rw [if_neg c, if_pos ((zn_lt (by omega) (by omega)).mpr (by omega))]
  · unfold mX0_isEmpty
    rw [g, pl_bd]
    by_cases c : ql e = 0
    · rw [if_pos c, c, if_neg (by decide)]
    · rw [if_neg c, if_pos (show (0 : Int32) < Int32.ofNat (ql e) from (zn_lt (a := 0) (by decide) (by omega)).mpr (by omega))]
/-- the class: a message is added -/
theorem zAddC {D : zCo} {Y ql : Nat → Nat} {MC : zS} {fc fk rw e : Nat} {fq : Nat → Nat} {t : zS} {v : Int32} (h : zBC D Y ql MC fc fk rw fq t) (he : e < 2 * fc) (hf : fc * (4 + 2 * rw) ≤ 10000) (hl : ql e < rw) (hr : rw ≤ 8) (hr1 : 1 ≤ rw) : ∃ t2, mX0_add (Int32.ofNat e) v t = some (0, t2) ∧ zBC D Y (zfu ql e (ql e + 1)) (zu MC e (ql e) v) fc fk rw fq t2 ∧ t2 59 9 = t 59 9 + 1 ∧ (∀ j, ¬ j = 9 → t2 59 j = t 59 j) ∧ ∀ k, ¬ (k = 59 ∨ k = 117 ∨ k = 121) → t2 k = t k := by
  obtain ⟨a1, a2, a3, a4, a5, a6⟩ := h
  obtain ⟨b1, o, b2, b3, b4⟩ := a6 e he
  have hfc : fc ≤ 1667 := by
    have : fc * 6 ≤ fc * (4 + 2 * rw) := Nat.mul_le_mul_left _ (by omega)
    omega
  have hrow : ∀ x, x < 2 * fc → x * rw + rw ≤ 10000 := fun x hx => by
    have h1 : (x + 1) * rw ≤ 2 * fc * rw := Nat.mul_le_mul_right _ (by omega)
    have h2 : fc * (4 + 2 * rw) = 4 * fc + 2 * fc * rw := by rw [Nat.mul_add, Nat.mul_comm fc 4, Nat.mul_comm 2 rw, ← Nat.mul_assoc, Nat.mul_comm (fc * rw) 2, Nat.mul_assoc]
    rw [Nat.add_mul, Nat.one_mul] at h1
    omega
  have g118 : mX5_get 118 3336 (Int32.ofNat e) t = some (Int32.ofNat o, t) := by rw [← b3]; exact zn_get (by omega) (by decide)
  have g120 : ∀ t' : zS, t' 121 = t 121 → mX5_get 120 3336 (Int32.ofNat e) t' = some (Int32.ofNat (ql e), t') := fun t' e' => by rw [← b1, ← e']; exact zn_get (by omega) (by decide)
  obtain ⟨at', eat⟩ : ∃ at', at' = e * rw + (o + ql e) % rw := ⟨_, rfl⟩
  have lat : at' < 10000 := by
    have := hrow e he
    have := Nat.mod_lt (o + ql e) (show rw > 0 by omega)
    omega
  obtain ⟨t2, e2⟩ : ∃ t2, t2 = zu (zu (zu t 117 at' v) 121 e (Int32.ofNat (ql e + 1))) 59 9 (t 59 9 + 1) := ⟨_, rfl⟩
  have f2 : ∀ k, ¬ (k = 59 ∨ k = 117 ∨ k = 121) → t2 k = t k := fun k hk => by rw [e2, zu_row (by omega), zu_row (by omega), zu_row (by omega)]
  have f59 : ∀ j, ¬ j = 9 → t2 59 j = t 59 j := fun j hj => by rw [e2, zu_ne2 hj, zu_ne1 (by decide), zu_ne1 (by decide)]
  refine ⟨t2, ?_, ⟨by rw [f59 6 (by decide)]; exact a1, by rw [f59 5 (by decide)]; exact a2, by rw [f59 7 (by decide)]; exact a3, by rw [f2 125 (by decide)]; exact a4, by rw [f2 123 (by decide)]; exact a5, fun x hx => ?_⟩, by rw [e2, zu_same], f59, f2⟩
  · have fin : ∀ y : Int32, y = Int32.ofNat ((o + ql e) % rw) → bX0_add_46 (Int32.ofNat e) v y (Int32.ofNat e * Int32.ofNat rw) t = some (0, t2) := fun y hy => by
      unfold bX0_add_46
      rw [hy, zn_mul, zn_add, ← eat, zn_set lat (by decide), pl_bd, g120 _ (zu_row (by decide)), pl_bd, zn_1, zn_set (by omega) (by decide), pl_bd, pl_pt, zu_ne1 (show (59 : Nat) ≠ 120 + 1 by decide), zu_ne1 (show (59 : Nat) ≠ 116 + 1 by decide), ← e2]
    unfold mX0_add
    rw [g118, pl_bd, g120 t rfl, pl_bd, pl_let, zn_add, a3]
    by_cases c : o + ql e < rw
    · rw [if_pos ((zn_lt (by omega) (by omega)).mpr c)]
      exact fin _ (by rw [Nat.mod_eq_of_lt c])
    · rw [if_neg (fun w => c ((zn_lt (by omega) (by omega)).mp w)), zn_sub (by omega) (by omega)]
      exact fin _ (by rw [Nat.mod_eq_sub_mod (by omega), Nat.mod_eq_of_lt (by omega)])
  · obtain ⟨c1, o', c2, c3, c4⟩ := a6 x hx
    have e119 : t2 119 = t 119 := f2 119 (by decide)
    have e121 : t2 121 x = if x = e then Int32.ofNat (ql e + 1) else t 121 x := by
      rw [e2, zu_ne1 (by decide)]
      by_cases q : x = e
      · subst q; rw [if_pos rfl, zu_same]
      · rw [if_neg q, zu_ne2 q, zu_ne1 (by decide)]
    have e117 : ∀ y, t2 117 y = if y = at' then v else t 117 y := fun y => by
      rw [e2, zu_ne1 (by decide), zu_ne1 (by decide)]
      by_cases q : y = at'
      · subst q; rw [if_pos rfl, zu_same]
      · rw [if_neg q, zu_ne2 q]
    by_cases q : x = e
    · subst q
      rw [zfu_same, e121, if_pos rfl, e119]
      have eo : o' = o := by
        rw [b3] at c3
        exact ((zn_inj (by omega) (by omega)).mp c3).symm
      subst eo
      refine ⟨rfl, o', c2, c3, fun j hj => ?_⟩
      rw [e117]
      by_cases w : j = ql x
      · subst w; rw [if_pos eat.symm, zu_same]
      · have := zn_modne (o := o') (b := rw) (i := j) (j := ql x) (by omega) (by omega) w c2
        rw [if_neg (by omega), zu_ne2 w]
        exact c4 j (by omega)
    · rw [zfu_ne q, e121, if_neg q, e119]
      refine ⟨c1, o', c2, c3, fun j hj => ?_⟩
      rw [e117, if_neg (fun w => by
        have m1 := Nat.mod_lt (o' + j) (show rw > 0 by omega)
        have m2 := Nat.mod_lt (o + ql e) (show rw > 0 by omega)
        rcases Nat.lt_or_ge x e with l | l
        · have := Nat.mul_le_mul_right rw (show x + 1 ≤ e by omega)
          rw [Nat.add_mul, Nat.one_mul] at this
          omega
        · have := Nat.mul_le_mul_right rw (show e + 1 ≤ x by omega)
          rw [Nat.add_mul, Nat.one_mul] at this
          omega), zu_ne1 q]
      exact c4 j hj
