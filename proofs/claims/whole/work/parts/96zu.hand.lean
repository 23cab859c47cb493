/-! ARGUMENTS are handed over, and given away -/
def zHn (X : zS) (r sk : Nat) (Tv : Nat → Int32) : Nat → zS
  | 0 => X
  | i + 1 => zu (zHn X r sk Tv i) r (sk + i) (Tv i)
def zGa (X : zS) (p : Nat) (J : Nat → Nat) (Tv : Nat → Int32) : Nat → zS
  | 0 => X
  | i + 1 => if 0 ≤ Tv i then zu (zGa X p J Tv i) p (J i) (-1) else zGa X p J Tv i
theorem zHn_row {X : zS} {r sk q : Nat} {Tv : Nat → Int32} (h : ¬ q = r) : ∀ i, zHn X r sk Tv i q = X q := by
  intro i
  induction i with
  | zero => rfl
  | succ i ih => show zu (zHn X r sk Tv i) r (sk + i) (Tv i) q = X q; rw [zu_row h, ih]
theorem zHn_at {X : zS} {r sk : Nat} {Tv : Nat → Int32} : ∀ i j, zHn X r sk Tv i r j = if sk ≤ j ∧ j < sk + i then Tv (j - sk) else X r j := by
  intro i
  induction i with
  | zero => intro j; rw [if_neg (by omega)]; rfl
  | succ i ih =>
    intro j
    show zu (zHn X r sk Tv i) r (sk + i) (Tv i) r j = _
    by_cases e : j = sk + i
    · rw [e, zu_same, if_pos (by omega), show sk + i - sk = i by omega]
    · rw [zu_ne2 e, ih]
      by_cases c : sk ≤ j ∧ j < sk + i
      · rw [if_pos c, if_pos (by omega)]
      · rw [if_neg c, if_neg (by omega)]
theorem zGa_row {X : zS} {p q : Nat} {J : Nat → Nat} {Tv : Nat → Int32} (h : ¬ q = p) : ∀ i, zGa X p J Tv i q = X q := by
  intro i
  induction i with
  | zero => rfl
  | succ i ih =>
    show (if 0 ≤ Tv i then zu (zGa X p J Tv i) p (J i) (-1) else zGa X p J Tv i) q = X q
    split
    · rw [zu_row h, ih]
    · exact ih
theorem zGa_eq {X X2 : zS} {p : Nat} {J : Nat → Nat} {Tv : Nat → Int32} (h : X2 p = X p) : ∀ i, zGa X2 p J Tv i p = zGa X p J Tv i p := by
  intro i
  induction i with
  | zero => exact h
  | succ i ih =>
    show (if 0 ≤ Tv i then zu (zGa X2 p J Tv i) p (J i) (-1) else zGa X2 p J Tv i) p = (if 0 ≤ Tv i then zu (zGa X p J Tv i) p (J i) (-1) else zGa X p J Tv i) p
    split
    · funext j
      by_cases e : j = J i
      · rw [e, zu_same, zu_same]
      · rw [zu_ne2 e, zu_ne2 e, ih]
    · exact ih
theorem zGa_or {X : zS} {p : Nat} {J : Nat → Nat} {Tv : Nat → Int32} : ∀ i j, zGa X p J Tv i p j = X p j ∨ zGa X p J Tv i p j = -1 := by
  intro i
  induction i with
  | zero => intro j; exact Or.inl rfl
  | succ i ih =>
    intro j
    show (if 0 ≤ Tv i then zu (zGa X p J Tv i) p (J i) (-1) else zGa X p J Tv i) p j = X p j ∨ (if 0 ≤ Tv i then zu (zGa X p J Tv i) p (J i) (-1) else zGa X p J Tv i) p j = -1
    split
    · by_cases e : j = J i
      · right; rw [e, zu_same]
      · rw [zu_ne2 e]; exact ih j
    · exact ih j
theorem zGa_hit {X : zS} {p : Nat} {J : Nat → Nat} {Tv : Nat → Int32} : ∀ i l, l < i → 0 ≤ Tv l → zGa X p J Tv i p (J l) = -1 := by
  intro i
  induction i with
  | zero => intro l hl; omega
  | succ i ih =>
    intro l hl h0
    show (if 0 ≤ Tv i then zu (zGa X p J Tv i) p (J i) (-1) else zGa X p J Tv i) p (J l) = -1
    by_cases e : l = i
    · subst e; rw [if_pos h0, zu_same]
    · split
      · by_cases e2 : J l = J i
        · rw [e2, zu_same]
        · rw [zu_ne2 e2]; exact ih l (by omega) h0
      · exact ih l (by omega) h0
theorem zHandC {n : Nat → Nat} {mr m r x sk p0 : Nat} {R pq : Nat → Nat} {fr fd : Nat} {fp : Nat → Nat} {sp ac : Nat → Int32} {num H t0 tS : zS} {TN TE : Nat → Int32} (hr : zIn mr R r) (hr2 : r < 2501) (hn : sk + m ≤ n (pq r)) (hx : x < 300) (ht : ∀ k, (k = 35 ∨ k = 37 ∨ k = 45) → tS k = t0 k) (h35 : t0 35 x = Int32.ofNat p0) (h37 : t0 37 x = Int32.ofNat (sk + m)) (hpk : p0 + (sk + m) ≤ 1500) (hsm : sk + m ≤ 1500) (hC : ∀ i, i < m → (0 ≤ t0 45 (p0 + (sk + i)) → tS 62 (sk + i) = TE i ∧ TN i = 0) ∧ (¬ 0 ≤ t0 45 (p0 + (sk + i)) → tS 62 (sk + i) = TN i ∧ TE i = -1)) (h0 : ∀ i, i < m → num r (sk + i) = 0 ∧ H r (sk + i) = -1) :
    ∀ (d i fu : Nat) (t : zS), i + d = m → (∀ k, ¬ (k = 143 ∨ k = 145) → t k = tS k) → zAC n mr R pq fr fd fp sp ac (zHn num r sk TN i) (zHn H r sk TE i) t → ∃ t2, lX4_handOver_3 (fu + d + 1) (Int32.ofNat r) (Int32.ofNat x) (Int32.ofNat (sk + i)) t = some (0, t2) ∧ (∀ k, ¬ (k = 143 ∨ k = 145) → t2 k = tS k) ∧ zAC n mr R pq fr fd fp sp ac (zHn num r sk TN m) (zHn H r sk TE m) t2 := by
  intro d
  induction d with
  | zero =>
    intro i fu t hi f1 h
    have : i = m := by omega
    subst this
    refine ⟨t, ?_, f1, h⟩
    show bX4_handOver_3 _ _ _ _ t = _
    unfold bX4_handOver_3
    rw [zn_get (by omega) (by decide), pl_bd, f1 37 (by decide), ht 37 (by decide), h37, if_pos (Int32.le_refl _)]
  | succ d ih =>
    intro i fu t hi f1 h
    have him : i < m := by omega
    have fm : mX6_form (Int32.ofNat x) (Int32.ofNat (sk + i)) t = some (t0 45 (p0 + (sk + i)), t) := by
      rw [pl_form (by omega) (by rw [f1 35 (by decide), ht 35 (by decide)]; exact h35) (by omega), f1 45 (by decide), ht 45 (by decide)]
    have st : lX4_handOver_3 (fu + (d + 1) + 1) (Int32.ofNat r) (Int32.ofNat x) (Int32.ofNat (sk + i)) t = if t0 45 (p0 + (sk + i)) < 0 then zbd (mX8_setNumber (Int32.ofNat r) (Int32.ofNat (sk + i)) (tS 62 (sk + i)) t) fun _ t2 => lX4_handOver_3 (fu + d + 1) (Int32.ofNat r) (Int32.ofNat x) (Int32.ofNat (sk + (i + 1))) t2 else zbd (mX8_setChannel (Int32.ofNat r) (Int32.ofNat (sk + i)) (tS 62 (sk + i)) t) fun _ t2 => lX4_handOver_3 (fu + d + 1) (Int32.ofNat r) (Int32.ofNat x) (Int32.ofNat (sk + (i + 1))) t2 := by
      show bX4_handOver_3 (lX4_handOver_3 (fu + d + 1)) _ _ _ t = _
      unfold bX4_handOver_3 bX4_handOver_73
      simp only [pl_let, zn_1]
      rw [zn_get (by omega) (by decide), pl_bd, f1 37 (by decide), ht 37 (by decide), h37, if_neg (fun w => by have := (zn_le (by omega) (by omega)).mp w; omega), fm, pl_bd, zn_get (show sk + i < 1600 by omega) (by decide), pl_bd, pl_bd, f1 62 (by decide)]
      rfl
    rw [st]
    obtain ⟨z1, z2⟩ := hC i him
    by_cases c : 0 ≤ t0 45 (p0 + (sk + i))
    · rw [if_neg (fun w => by have y1 := Int32.le_iff_toInt_le.mp c; have y2 := Int32.lt_iff_toInt_lt.mp w; omega), (z1 c).1]
      obtain ⟨t2, d1, d2, d3⟩ := zAC_ch (v := TE i) h hr hr2 (show sk + i < n (pq r) by omega)
      rw [d1, pl_bd]
      refine ih (i + 1) fu t2 (by omega) (fun k hk => by rw [d3 k (by omega), f1 k hk]) ?_
      have e : zHn num r sk TN (i + 1) = zHn num r sk TN i := by
        show zu (zHn num r sk TN i) r (sk + i) (TN i) = _
        rw [(z1 c).2]
        exact zu_self (by rw [zHn_at, if_neg (by omega)]; exact (h0 i him).1)
      rw [e]; exact d2
    · rw [if_pos (show t0 45 (p0 + (sk + i)) < 0 from Int32.not_le.mp c), (z2 c).1]
      obtain ⟨t2, d1, d2, d3⟩ := zAC_nu (v := TN i) h hr hr2 (show sk + i < n (pq r) by omega)
      rw [d1, pl_bd]
      refine ih (i + 1) fu t2 (by omega) (fun k hk => by rw [d3 k (by omega), f1 k hk]) ?_
      have e : zHn H r sk TE (i + 1) = zHn H r sk TE i := by
        show zu (zHn H r sk TE i) r (sk + i) (TE i) = _
        rw [(z2 c).2]
        exact zu_self (by rw [zHn_at, if_neg (by omega)]; exact (h0 i him).2)
      rw [e]; exact d2
/-- the reference behind the hand-over -/
def zCY (x1 x2 x8 x9 x11 : Int32) (t : zS) : zR := if x9 = 0 then some (1, t) else zbd (mX12_newChannel x8 t) fun r4467 t4468 => zrd t4468 51 2600 x11 fun v4470 => zwr t4468 53 24000 v4470 r4467 fun t4473 => zrd t4473 51 2600 x1 fun v4474 => zrd t4473 16 1600 x2 fun v4476 => zwr t4473 53 24000 (v4474 + v4476) (r4467 + 1) fun t4479 => some (1, t4479)
theorem zHandR {n : Nat → Nat} {mr m r y sk : Nat} {R pq : Nat → Nat} {fr fd : Nat} {fp : Nat → Nat} {sp ac : Nat → Int32} {num H uS : zS} {x1 x8 x9 : Int32} (hr : zIn mr R r) (hr2 : r < 2600) (hy : y < 1000) (hn : sk + m ≤ n (pq r)) (h20 : uS 20 y = Int32.ofNat m) (hsm : sk + m ≤ 1500) :
    ∀ (d i fu : Nat) (u : zS), i + d = m → (∀ k, ¬ (k = 52 ∨ k = 53) → u k = uS k) → zAR n mr R pq fr fd fp sp ac (zHn num r sk (uS 59) i) (zHn H r sk (uS 60) i) u → ∃ u2, lX12_calls_451 (fu + d + 1) x1 (Int32.ofNat y) (Int32.ofNat sk) x8 x9 (Int32.ofNat r) (Int32.ofNat i) u = zCY x1 (Int32.ofNat y) x8 x9 (Int32.ofNat r) u2 ∧ (∀ k, ¬ (k = 52 ∨ k = 53) → u2 k = uS k) ∧ zAR n mr R pq fr fd fp sp ac (zHn num r sk (uS 59) m) (zHn H r sk (uS 60) m) u2 := by
  intro d
  induction d with
  | zero =>
    intro i fu u hi f1 h
    have : i = m := by omega
    subst this
    refine ⟨u, ?_, f1, h⟩
    show bX12_calls_451 _ _ _ _ _ _ _ _ u = _
    unfold bX12_calls_451
    rw [zn_rd (by omega) (by decide), f1 20 (by decide), h20, if_pos (Int32.le_refl _)]
    rfl
  | succ d ih =>
    intro i fu u hi f1 h
    obtain ⟨b, b1, b2, b3, _, b5⟩ := zAR_at h hr
    have h1 := b5 (sk + i) (uS 59 i) (by omega)
    obtain ⟨b', c1, c2, c3, c4, _⟩ := zAR_at h1 hr
    have ebb : b' = b := by
      rw [zu_ne1 (by decide), b1] at c1
      exact ((zn_inj (by omega) (by omega)).mp c1).symm
    subst ebb
    have h2 := c4 (sk + i) (uS 60 i) (by omega)
    obtain ⟨u2, z1, z2⟩ := ih (i + 1) fu _ (by omega) (fun k hk => by rw [zu_row (by omega), zu_row (by omega), f1 k hk]) h2
    refine ⟨u2, ?_, z2⟩
    rw [← z1]
    show bX12_calls_451 (lX12_calls_451 (fu + d + 1)) _ _ _ _ _ _ _ u = _
    unfold bX12_calls_451
    rw [zn_rd (by omega) (by decide), f1 20 (by decide), h20, if_neg (fun w => by have := (zn_le (by omega) (by omega)).mp w; omega), zn_rd hr2 (by decide), b1, zn_rd (by omega) (by decide), f1 59 (by decide), zn_add, zn_add, show b' + sk + i = b' + (sk + i) by omega, zn_wr (by omega) (by decide), zn_rd hr2 (by decide), zu_ne1 (show (51 : Nat) ≠ 52 by decide), b1, zn_rd (by omega) (by decide), zu_ne1 (show (60 : Nat) ≠ 52 by decide), f1 60 (by decide), zn_add, zn_add, show b' + sk + i = b' + (sk + i) by omega, zn_wr (by omega) (by decide), pl_let, zn_1]
theorem zGiveC {n : Nat → Nat} {mr m p x y sk a p0 : Nat} {R pq : Nat → Nat} {fr fd : Nat} {fp : Nat → Nat} {sp ac : Nat → Int32} {num H t0 tS : zS} {TE : Nat → Int32} {J : Nat → Nat} (hp : zIn mr R p) (hp2 : p < 2501) (hy : y < 1000) (hx : x < 300) (ht : ∀ k, (k = 35 ∨ k = 45 ∨ k = 83 ∨ k = 97) → tS k = t0 k) (h35 : t0 35 x = Int32.ofNat p0) (h97 : t0 97 y = Int32.ofNat (a + m)) (ham : a + m ≤ 1500) (hpk : p0 + (sk + m) ≤ 1500) (hsm : sk + m ≤ 1500) (hJ : ∀ i, i < m → (0 ≤ t0 45 (p0 + (sk + i)) ↔ 0 ≤ TE i) ∧ (0 ≤ TE i → t0 83 (a + i) = Int32.ofNat (J i) ∧ J i < n (pq p))) :
    ∀ (d i fu : Nat) (t : zS), i + d = m → (∀ k, ¬ k = 145 → t k = tS k) → zAC n mr R pq fr fd fp sp ac num (zGa H p J TE i) t → ∃ t2, lX4_giveAway_17 (fu + d + 1) (Int32.ofNat p) (Int32.ofNat y) (Int32.ofNat x) (Int32.ofNat sk) (Int32.ofNat a) (Int32.ofNat (a + i)) t = some (0, t2) ∧ (∀ k, ¬ k = 145 → t2 k = tS k) ∧ zAC n mr R pq fr fd fp sp ac num (zGa H p J TE m) t2 := by
  intro d
  induction d with
  | zero =>
    intro i fu t hi f1 h
    have : i = m := by omega
    subst this
    refine ⟨t, ?_, f1, h⟩
    show bX4_giveAway_17 _ _ _ _ _ _ _ t = _
    unfold bX4_giveAway_17
    rw [zn_get hy (by decide), pl_bd, f1 97 (by decide), ht 97 (by decide), h97, if_pos (Int32.le_refl _)]
  | succ d ih =>
    intro i fu t hi f1 h
    have him : i < m := by omega
    have fm : mX6_form (Int32.ofNat x) (Int32.ofNat (sk + i)) t = some (t0 45 (p0 + (sk + i)), t) := by
      rw [pl_form (by omega) (by rw [f1 35 (by decide), ht 35 (by decide)]; exact h35) (by omega), f1 45 (by decide), ht 45 (by decide)]
    have st : lX4_giveAway_17 (fu + (d + 1) + 1) (Int32.ofNat p) (Int32.ofNat y) (Int32.ofNat x) (Int32.ofNat sk) (Int32.ofNat a) (Int32.ofNat (a + i)) t = if t0 45 (p0 + (sk + i)) < 0 then lX4_giveAway_17 (fu + d + 1) (Int32.ofNat p) (Int32.ofNat y) (Int32.ofNat x) (Int32.ofNat sk) (Int32.ofNat a) (Int32.ofNat (a + (i + 1))) t else zbd (mX8_setChannel (Int32.ofNat p) (t0 83 (a + i)) (-1) t) fun _ t2 => lX4_giveAway_17 (fu + d + 1) (Int32.ofNat p) (Int32.ofNat y) (Int32.ofNat x) (Int32.ofNat sk) (Int32.ofNat a) (Int32.ofNat (a + (i + 1))) t2 := by
      show bX4_giveAway_17 (lX4_giveAway_17 (fu + d + 1)) _ _ _ _ _ _ t = _
      have sub : Int32.ofNat sk + Int32.ofNat (a + i) - Int32.ofNat a = Int32.ofNat (sk + i) := by
        rw [zn_add, zn_sub (by omega) (by omega), show sk + (a + i) - a = sk + i by omega]
      unfold bX4_giveAway_17 bX4_giveAway_73
      simp only [pl_let, zn_1]
      rw [zn_get hy (by decide), pl_bd, f1 97 (by decide), ht 97 (by decide), h97, if_neg (fun w => by have := (zn_le (by omega) (by omega)).mp w; omega), sub, fm, pl_bd, zn_get (show a + i < 1600 by omega) (by decide), pl_bd, f1 83 (by decide), ht 83 (by decide)]
      rfl
    rw [st]
    obtain ⟨z1, z2⟩ := hJ i him
    by_cases c : 0 ≤ t0 45 (p0 + (sk + i))
    · have c' := z1.mp c
      rw [if_neg (fun w => by have y1 := Int32.le_iff_toInt_le.mp c; have y2 := Int32.lt_iff_toInt_lt.mp w; omega), (z2 c').1]
      obtain ⟨t2, d1, d2, d3⟩ := zAC_ch (v := -1) h hp hp2 (z2 c').2
      rw [d1, pl_bd]
      refine ih (i + 1) fu t2 (by omega) (fun k hk => by rw [d3 k hk, f1 k hk]) ?_
      have e : zGa H p J TE (i + 1) = zu (zGa H p J TE i) p (J i) (-1) := by
        show (if 0 ≤ TE i then zu (zGa H p J TE i) p (J i) (-1) else zGa H p J TE i) = _
        rw [if_pos c']
      rw [e]; exact d2
    · rw [if_pos (show t0 45 (p0 + (sk + i)) < 0 from Int32.not_le.mp c)]
      refine ih (i + 1) fu t (by omega) f1 ?_
      have e : zGa H p J TE (i + 1) = zGa H p J TE i := by
        show (if 0 ≤ TE i then zu (zGa H p J TE i) p (J i) (-1) else zGa H p J TE i) = _
        rw [if_neg (fun w => c (z1.mpr w))]
      rw [e]; exact h
theorem zGiveR {n : Nat → Nat} {mr m p y a : Nat} {R pq : Nat → Nat} {fr fd : Nat} {fp : Nat → Nat} {sp ac : Nat → Int32} {num H uS : zS} {x3 x6 x8 x9 x10 : Int32} {J : Nat → Nat} (hp : zIn mr R p) (hp2 : p < 2600) (hy : y < 1000) (h19 : uS 19 y = Int32.ofNat a) (h20 : uS 20 y = Int32.ofNat m) (ham : a + m ≤ 1500) (hJ : ∀ i, i < m → 0 ≤ uS 60 i → uS 26 (a + i) = Int32.ofNat (J i) ∧ J i < n (pq p)) :
    ∀ (d i fu : Nat) (u : zS), i + d = m → (∀ k, ¬ k = 53 → u k = uS k) → zAR n mr R pq fr fd fp sp ac num (zGa H p J (uS 60) i) u → ∃ u2, lX12_calls_303 (fu + d + 1) (Int32.ofNat p) (Int32.ofNat y) x3 0 x6 x8 x9 x10 (Int32.ofNat i) u = bX12_calls_362 (Int32.ofNat p) (Int32.ofNat y) x3 0 x6 x8 x9 x10 u2 ∧ (∀ k, ¬ k = 53 → u2 k = uS k) ∧ zAR n mr R pq fr fd fp sp ac num (zGa H p J (uS 60) m) u2 := by
  intro d
  induction d with
  | zero =>
    intro i fu u hi f1 h
    have : i = m := by omega
    subst this
    refine ⟨u, ?_, f1, h⟩
    show bX12_calls_303 _ _ _ _ _ _ _ _ _ _ u = _
    unfold bX12_calls_303
    rw [zn_rd (by omega) (by decide), f1 20 (by decide), h20, if_pos (Int32.le_refl _)]
  | succ d ih =>
    intro i fu u hi f1 h
    have him : i < m := by omega
    obtain ⟨b, b1, b2, b3, b4, b5⟩ := zAR_at h hp
    have st : lX12_calls_303 (fu + (d + 1) + 1) (Int32.ofNat p) (Int32.ofNat y) x3 0 x6 x8 x9 x10 (Int32.ofNat i) u = if uS 60 i < 0 then lX12_calls_303 (fu + d + 1) (Int32.ofNat p) (Int32.ofNat y) x3 0 x6 x8 x9 x10 (Int32.ofNat (i + 1)) u else zwr u 53 24000 (Int32.ofNat b + uS 26 (a + i)) (-1) fun t4527 => lX12_calls_303 (fu + d + 1) (Int32.ofNat p) (Int32.ofNat y) x3 0 x6 x8 x9 x10 (Int32.ofNat (i + 1)) t4527 := by
      show bX12_calls_303 (lX12_calls_303 (fu + d + 1)) _ _ _ _ _ _ _ _ _ u = _
      unfold bX12_calls_303 bX12_calls_356
      simp only [pl_let, zn_1]
      rw [zn_rd (by omega) (by decide), f1 20 (by decide), h20, if_neg (fun w => by have := (zn_le (by omega) (by omega)).mp w; omega), if_pos trivial, zn_rd (by omega) (by decide), f1 60 (by decide), zn_rd hp2 (by decide), b1, zn_rd (by omega) (by decide), f1 19 (by decide), h19, zn_add, zn_rd (by omega) (by decide), f1 26 (by decide)]
    rw [st]
    by_cases c : 0 ≤ uS 60 i
    · obtain ⟨j1, j2⟩ := hJ i him c
      rw [if_neg (fun w => by have y1 := Int32.le_iff_toInt_le.mp c; have y2 := Int32.lt_iff_toInt_lt.mp w; omega), j1, zn_add, zn_wr (by omega) (by decide)]
      refine ih (i + 1) fu _ (by omega) (fun k hk => by rw [zu_row hk, f1 k hk]) ?_
      have e : zGa H p J (uS 60) (i + 1) = zu (zGa H p J (uS 60) i) p (J i) (-1) := by
        show (if 0 ≤ uS 60 i then zu (zGa H p J (uS 60) i) p (J i) (-1) else zGa H p J (uS 60) i) = _
        rw [if_pos c]
      rw [e]; exact b4 (J i) (-1) j2
    · rw [if_pos (show uS 60 i < 0 from Int32.not_le.mp c)]
      refine ih (i + 1) fu u (by omega) f1 ?_
      have e : zGa H p J (uS 60) (i + 1) = zGa H p J (uS 60) i := by
        show (if 0 ≤ uS 60 i then zu (zGa H p J (uS 60) i) p (J i) (-1) else zGa H p J (uS 60) i) = _
        rw [if_neg c]
      rw [e]; exact h
