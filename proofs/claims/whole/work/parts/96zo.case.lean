/-! ACTS: case -/
theorem zNm_eq {G : zTxt} {x y x' y' : Int32} (hB : (zBk G).length ≤ 1600) (h : zNm (zBk G) x y) (h' : zNm (zBk G) x' y') : x = x' ↔ y = y' := by
  obtain ⟨v, w, a1, a2, a3, a4⟩ := h
  obtain ⟨v', w', b1, b2, b3, b4⟩ := h'
  have l1 := zLs_lt a4
  have l2 := zLs_lt b4
  rw [a2, a3, b2, b3, zn_inj (by omega) (by omega), zn_inj (by omega) (by omega)]
  constructor
  · intro e
    subst e
    unfold zBk zNs at a4 b4
    exact zLs_inj _ _ _ _ a4 b4
  · intro e
    subst e
    rw [a4] at b4
    exact Option.some.inj b4
theorem zLk_P {F : Nat → Int32} {P P2 n : Nat} {h : Int32} {e : Nat → Nat} (hl : zLk F P n h e) (hP : P ≤ P2) : zLk F P2 n h e := ⟨hl.1, fun j hj => ⟨by have := (hl.2 j hj).1; omega, (hl.2 j hj).2⟩⟩
theorem zLk_len {F : Nat → Int32} {P n n2 : Nat} {h : Int32} {e e2 : Nat → Nat} (hP : P < 2147483648) (h1 : zLk F P n h e) (h2 : zLk F P n2 h e2) : n = n2 := by
  have lt : ∀ {n n2 : Nat} {e e2 : Nat → Nat}, zLk F P n h e → zLk F P n2 h e2 → ¬ n < n2 := fun {n n2 e e2} h1 h2 l => by
    by_cases z : n = 0
    · have x1 := h1.1
      have x2 := h2.1
      rw [if_pos z] at x1
      rw [if_neg (by omega), x1] at x2
      exact absurd (show (0 : Int32) ≤ -1 by rw [x2]; exact zn_0le (by have := (h2.2 0 (by omega)).1; omega)) zn_m1
    · have y1 := (h1.2 (n - 1) (by omega)).2
      have y2 := (h2.2 (n - 1) (by omega)).2
      rw [if_neg (by omega)] at y1
      rw [if_pos (by omega), ← zLk_fun hP h1 h2 (n - 1) (by omega) (by omega), y1] at y2
      exact absurd (show (0 : Int32) ≤ -1 by rw [y2]; exact zn_0le (by have := (h2.2 (n - 1 + 1) (by omega)).1; omega)) zn_m1
  have a := lt h1 h2
  have b := lt h2 h1
  omega
theorem zSurj {m : Nat} {F : Nat → Nat} (h1 : ∀ j, j < m → F j < m) (h2 : ∀ i j, i < m → j < m → F i = F j → i = j) {i : Nat} (hi : i < m) : ∃ j, j < m ∧ F j = i := by
  apply Classical.byContradiction
  intro hn
  have ne : ∀ j, j < m → ¬ F j = i := fun j hj w => hn ⟨j, hj, w⟩
  have := zpig (m - 1) m (fun j => if F j < i then F j else F j - 1) (fun j hj => by
    show (if F j < i then F j else F j - 1) < m - 1
    have a := h1 j hj
    have b := ne j hj
    split <;> omega) (fun j l hj hl w => by
    have w' : (if F j < i then F j else F j - 1) = (if F l < i then F l else F l - 1) := w
    have b1 := ne j hj
    have b2 := ne l hl
    refine h2 j l hj hl ?_
    split at w' <;> split at w' <;> omega)
  omega
theorem pl_find {n j0 : Nat} {h lab : Int32} {e : Nat → Nat} {t : zS} (hl : zLk (t 115) 1600 n h e) (hn : n ≤ 1600) (hj : j0 < n) (h0 : t 109 (e j0) = lab) (hne : ∀ j, j < j0 → ¬ t 109 (e j) = lab) : ∀ (d j fu : Nat), j + d = j0 → lX9_findBranch_12 (fu + d + 1) lab (Int32.ofNat (e j)) (Int32.ofNat j) t = some (Int32.ofNat (e j0), t) := by
  intro d
  induction d with
  | zero =>
    intro j fu hd
    have : j = j0 := by omega
    subst this
    have l := (hl.2 j hj).1
    show bX9_findBranch_12 _ _ _ _ t = _
    unfold bX9_findBranch_12
    rw [if_neg (show ¬ (1600 : Int32) ≤ Int32.ofNat j from fun w => by have := (zn_le (a := 1600) (by decide) (by omega)).mp w; omega), if_neg (zn_neg (by omega)), zn_get l (by decide), pl_bd, if_pos h0]
  | succ d ih =>
    intro j fu hd
    have l := (hl.2 j (by omega)).1
    rw [← ih (j + 1) fu (by omega)]
    show bX9_findBranch_12 (lX9_findBranch_12 (fu + d + 1)) _ _ _ t = _
    unfold bX9_findBranch_12
    rw [if_neg (show ¬ (1600 : Int32) ≤ Int32.ofNat j from fun w => by have := (zn_le (a := 1600) (by decide) (by omega)).mp w; omega), if_neg (zn_neg (by omega)), zn_get l (by decide), pl_bd, if_neg (hne j (by omega)), zn_get l (by decide), pl_bd, pl_let, zn_1, show t (114 + 1) (e j) = Int32.ofNat (e (j + 1)) by
      have := (hl.2 j (by omega)).2
      rw [if_pos (by omega)] at this
      exact this]
/-- the end of the reference's case -/
def zCE (p y e : Nat) (id : Int32) (u : zS) : zR := zrd u 16 1600 (Int32.ofNat y) fun v4607 => zrd u 55 3500 (Int32.ofNat e) fun v4609 => zbd (mX12_byLabel v4609 id u) fun r4611 t4612 => zbd (mX12_goesOn (Int32.ofNat p) v4607 r4611 t4612) fun r4614 t4615 => some (1, t4615)
theorem pl_612 {p y e a n j0 : Nat} {id : Int32} (hp : p < 2600) (hy : y < 1000) (han : a + n ≤ 1600) (hj0 : j0 < n) : ∀ (d j fu : Nat) (u : zS), j + d = n → u 19 y = Int32.ofNat a → u 20 y = Int32.ofNat n → (∀ l, l < n → (u 23 (a + l) = id ↔ l = j0)) → lX12_act_612 (fu + d + 1) (Int32.ofNat p) (Int32.ofNat y) (Int32.ofNat e) id (Int32.ofNat (a + j)) u = zCE p y e id (if j ≤ j0 then zu u 49 p (u 24 (a + j0)) else u) := by
  intro d
  induction d with
  | zero =>
    intro j fu u hd h19 h20 h23
    rw [if_neg (by omega)]
    show bX12_act_612 _ _ _ _ _ _ u = _
    unfold bX12_act_612 zCE
    rw [zn_rd (by omega) (by decide), zn_rd (by omega) (by decide), h19, h20, zn_add, if_pos ((zn_le (by omega) (by omega)).mpr (by omega))]
  | succ d ih =>
    intro j fu u hd h19 h20 h23
    show bX12_act_612 (lX12_act_612 (fu + d + 1)) _ _ _ _ _ u = _
    unfold bX12_act_612 bX12_act_655
    rw [zn_rd (by omega) (by decide), zn_rd (by omega) (by decide), h19, h20, zn_add, if_neg (fun w => by have := (zn_le (by omega) (by omega)).mp w; omega), zn_rd (by omega) (by decide), pl_let, zn_1, show a + j + 1 = a + (j + 1) by omega]
    by_cases c : j = j0
    · subst c
      rw [if_pos ((h23 j (by omega)).mpr rfl), zn_rd (by omega) (by decide), zn_wr hp (by decide), pl_let, ih (j + 1) fu _ (by omega) (by rw [zu_ne1 (by decide)]; exact h19) (by rw [zu_ne1 (by decide)]; exact h20) (fun l hl => by rw [zu_ne1 (by decide)]; exact h23 l hl), if_neg (by omega), if_pos (Nat.le_refl _)]
    · rw [if_neg (fun w => c ((h23 j (by omega)).mp w)), ih (j + 1) fu u (by omega) h19 h20 h23]
      by_cases q : j ≤ j0
      · rw [if_pos q, if_pos (by omega)]
      · rw [if_neg q, if_neg (by omega)]
/-- the class closes, or not -/
theorem zClsC {D : zCo} {n : Nat → Nat} {m p c e y : Nat} {R pq : Nat → Nat} {fr fd : Nat} {fp : Nat → Nat} {sp ac : Nat → Int32} {num H : zS} {Y ql : Nat → Nat} {MC : zS} {fc fk rw : Nat} {fq : Nat → Nat} {t : zS} {kc : zS → zR} (h : zAC n m R pq fr fd fp sp ac num H t) (hB : zBC D Y ql MC fc fk rw fq t) (hp : zIn m R p) (hp2 : p < 2501) (hc : c < n (pq p)) (hH : H p c = Int32.ofNat e) (he : e < 2 * fc) (hf : fc ≤ 1667) (hk : fk ≤ fc) (hk2 : D.kd y = 0 → D.kd (Y (zflp e)) = 0 → fk < fc) (ho : ¬ D.kd (Y e) = 0) {x : Int32} (hx : x = 1 ↔ D.kd y = 0) :
    ∃ t2, (if x = 1 then zbd (mX4_close (Int32.ofNat p) (Int32.ofNat c) t) fun _ t2 => kc t2 else kc t) = kc t2 ∧ zAC n m R pq fr fd fp sp ac num (if D.kd y = 0 then zu H p c (-1) else H) t2 ∧ zBC D (zfu Y e y) ql MC fc (if D.kd y = 0 ∧ D.kd (Y (zflp e)) = 0 then fk + 1 else fk) rw (if D.kd y = 0 ∧ D.kd (Y (zflp e)) = 0 then zfu fq fk (e / 2) else fq) t2 ∧ t2 59 8 = (if D.kd y = 0 ∧ D.kd (Y (zflp e)) = 0 then t 59 8 - 1 else t 59 8) ∧ t2 7 14 = (if D.kd y = 0 ∧ D.kd (Y (zflp e)) = 0 then t 7 14 - (4 + 2 * t 59 7) else t 7 14) ∧ t2 59 9 = t 59 9 ∧ (∀ j, ¬ j = 14 → t2 7 j = t 7 j) ∧ ∀ k, ¬ (k = 7 ∨ k = 59 ∨ k = 123 ∨ k = 125 ∨ k = 145) → t2 k = t k := by
  by_cases z : D.kd y = 0
  · rw [if_pos (hx.mpr z)]
    obtain ⟨t1, c1, c2, c3, c4, c5⟩ := zCloC (y := y) hB he hf hk (hk2 z) ho z
    have h1 := zAC_of h (c5 60 (by decide)) (fun k k1 k2 => c5 k (by omega))
    have ch : mX8_channel (Int32.ofNat p) (Int32.ofNat c) t = some (Int32.ofNat e, t) := by rw [← hH]; exact zCh_get h.2.2.2.2.2.2 hp hp2 hc
    obtain ⟨t2, d1, d2, d3⟩ : ∃ t2, mX4_close (Int32.ofNat p) (Int32.ofNat c) t = some (0, t2) ∧ zAC n m R pq fr fd fp sp ac num (zu H p c (-1)) t2 ∧ ((t2 7 14 = if D.kd (Y (zflp e)) = 0 then t 7 14 - (4 + 2 * t 59 7) else t 7 14) ∧ (∀ j, ¬ j = 14 → t2 7 j = t 7 j) ∧ ∀ k, ¬ (k = 7 ∨ k = 145) → t2 k = t1 k) := by
      unfold mX4_close bX4_close_35 mX0_cellsOfOne
      rw [ch, pl_bd, c1, pl_bd]
      by_cases z2 : D.kd (Y (zflp e)) = 0
      · simp only [if_pos z2]
        rw [if_neg pl_10, pl_bd, pl_pt]
        have h2 := zAC_of h1 (zu_row (t := t1) (k := 7) (j := 14) (v := t1 7 14 - (4 + 2 * t1 59 7)) (show (60 : Nat) ≠ 7 by decide)) (fun k k1 k2 => zu_row (by omega))
        obtain ⟨t2, d1, d2, d3⟩ := zAC_ch (v := -1) h2 hp hp2 hc
        rw [d1, pl_bd]
        refine ⟨t2, rfl, d2, ?_, fun j hj => ?_, fun k hk => ?_⟩
        · rw [d3 7 (by decide), zu_same, c5 7 (by decide), c4 7 (by decide)]
        · rw [d3 7 (by decide), zu_ne2 hj, c5 7 (by decide)]
        · rw [d3 k (by omega), zu_row (by omega)]
      · simp only [if_neg z2]
        rw [if_pos trivial]
        obtain ⟨t2, d1, d2, d3⟩ := zAC_ch (v := -1) h1 hp hp2 hc
        rw [d1, pl_bd]
        exact ⟨t2, rfl, d2, by rw [d3 7 (by decide), c5 7 (by decide)], fun j hj => by rw [d3 7 (by decide), c5 7 (by decide)], fun k hk => d3 k (by omega)⟩
    rw [d1, pl_bd]
    have en : (D.kd y = 0 ∧ D.kd (Y (zflp e)) = 0) ↔ D.kd (Y (zflp e)) = 0 := ⟨fun w => w.2, fun w => ⟨z, w⟩⟩
    simp only [if_pos z, en]
    refine ⟨t2, rfl, d2, zBC_of c2 (fun j hj => by rw [d3.2.2 59 (by decide)]) (fun k k1 k2 => d3.2.2 k (by omega)), ?_, d3.1, ?_, d3.2.1, fun k hk => ?_⟩
    · rw [d3.2.2 59 (by decide)]; exact c3
    · rw [d3.2.2 59 (by decide)]; exact c4 9 (by decide)
    · rw [d3.2.2 k (by omega)]; exact c5 k (by omega)
  · rw [if_neg (fun w => z (hx.mp w))]
    have nn : ¬ (D.kd y = 0 ∧ D.kd (Y (zflp e)) = 0) := fun w => z w.1
    simp only [if_neg z, if_neg nn]
    exact ⟨t, rfl, h, zBC_Y hB ho z, rfl, rfl, rfl, fun _ _ => rfl, fun _ _ => rfl⟩
