/-! PARAMETERS: slot, form -/
theorem zDs2_rows {G : zTxt} {f : Nat → Nat} {N T : Nat} {t u t2 u2 : zS} (h : zDs2 G f N T t u) (h3 : t2 3 15 = t 3 15) (h0 : u2 0 22 = u 0 22) (ht : ∀ k, 21 ≤ k ∧ k ≤ 25 → t2 k = t k) (hu : ∀ k, 11 ≤ k ∧ k ≤ 13 → u2 k = u k) : zDs2 G f N T t2 u2 := by
  unfold zDs2
  rw [h3, h0, ht 25 (by decide), ht 23 (by decide), ht 21 (by decide), hu 11 (by decide), hu 12 (by decide), hu 13 (by decide)]
  exact h
theorem zPh_slot {G : zTxt} {i d : Nat} {f : Nat → Nat} {N M P A T Q Pa j bb S F C R W V q v x : Nat} {o : Nat → Nat × Nat} {w : Nat → Nat} {t u : zS} (h : zPh G i d f N M P A T Q Pa j j i bb S F C R W V q o w t u) (hS : S ≤ 1000) (hb : bb + j < 3000) (hv : v < 1600) (hw : (zBk G)[x]? = some v) (hj : zWd G (i + 1) v) (hno : ¬ t 49 v = Int32.ofNat Q) : ∃ t2 u2, mX6_slotFor (Int32.ofNat v) t = some (Int32.ofNat j, t2) ∧ mX12_ownOf (Int32.ofNat x) u = some (Int32.ofNat j, u2) ∧ zPh G i d f N M P A T Q Pa j (j + 1) (i + 1) bb S F C R W V q o w t2 u2 ∧ zFP zpSC t t2 ∧ zFP zpSM u u2 := by
  obtain ⟨h1, h2, h3, h4, h5, h6, h7⟩ := h
  obtain ⟨k, t2, u2, n2, a1, a2, a3, a4, a5, a6, a7, a8, a9, a10, a11, a12, a13⟩ := zSl_own (zBk_len h1.1) h4 hb hv hw hj
  obtain ⟨t3, b1⟩ := pl_slotNew h4.1 hv h4.2.2.2.2.2.1 h4.2.2.1 hno
  have ek : k = j := by
    rw [a1] at b1
    exact (zn_inj (by omega) (by omega)).mp (Prod.mk.inj (Option.some.inj b1)).1
  have en : n2 = j + 1 := by
    by_cases e : n2 = j
    · obtain ⟨_, _, c⟩ := a12 e
      exact absurd c hno
    · omega
  subst ek en
  have r : ∀ y, ¬ (y = 39 ∨ y = 47 ∨ y = 49) → t2 y = t y := fun y hy => zFP_row y a7 (fun _ => by
    unfold zpSC
    simp only [Bool.not_eq_true', Bool.or_eq_false_iff, beq_eq_false_iff_ne]
    omega)
  have g : ∀ y, ¬ (y = 31 ∨ y = 33) → u2 y = u y := fun y hy => zFP_row y a8 (fun _ => by
    unfold zpSM
    simp only [Bool.not_eq_true', Bool.or_eq_false_iff, beq_eq_false_iff_ne]
    omega)
  refine ⟨t2, u2, a1, a2, ⟨zTB_tu h1 (fun y hy => r y (by omega)) (by rw [r 3 (by decide)]) (by rw [r 3 (by decide)]) (fun y hy => g y (by omega)) (fun y _ => by rw [g 0 (by decide)]), zDs2_rows h2 (by rw [r 3 (by decide)]) (by rw [g 0 (by decide)]) (fun y hy => r y (by omega)) (fun y hy => g y (by omega)), ?_, a6, by rw [r 37 (by decide)]; exact h5, by rw [r 35 (by decide)]; exact h6, by rw [r 45 (by decide), g 34 (by decide)]; exact h7⟩, a7, a8⟩
  refine zPs2_gen h3 (fun _ _ => rfl) (Nat.le_refl _) hS (Nat.le_refl _) a6.1 (by rw [g 0 (by decide)]; exact h3.2.1) (by rw [r 4 (by decide)]; exact h3.2.2.1) (by rw [r 33 (by decide), g 28 (by decide)]; exact h3.2.2.2.2.1) (fun v' hv' => ?_) (fun y z hz hy => ?_) (fun y z hz hy => by rw [g y (by omega)]) (fun y hy => a10 y (by omega)) (fun y _ => by rw [r 45 (by decide)]) (fun y _ => by rw [g 34 (by decide)]) (fun y hy => r y (by omega)) (fun y hy => g y (by omega)) (fun y _ => by rw [g 0 (by decide)])
  · rcases a6.2.2.2.2.2.2.1 v' hv' with e | ⟨z, z1, z2⟩
    · exact Or.inl e
    · exact Or.inr ⟨z, by omega, z2⟩
  · by_cases e : y = 39
    · subst e; exact a9 z (by omega)
    · rw [r y (by omega)]
/-- the reference's note of a PARAMETER -/
theorem zPh_34 {G : zTxt} {i d : Nat} {f : Nat → Nat} {N M P A T Q Pa j n y bb S F C R W V q : Nat} {x : Int32} {o : Nat → Nat × Nat} {w : Nat → Nat} {t u : zS} (h : zPh G i d f N M P A T Q Pa j n y bb S F C R W V q o w t u) (hS : S ≤ 1000) : zPh G i d f N M P A T Q Pa j n y bb S F C R W V q o w t (zu u 34 (bb + j) x) := by
  obtain ⟨h1, h2, h3, h4, h5, h6, h7⟩ := h
  have g : ∀ k, ¬ k = 34 → zu u 34 (bb + j) x k = u k := fun k hk => zu_row hk
  refine ⟨zTB_tu h1 (fun _ _ => rfl) rfl rfl (fun k hk => g k (by omega)) (fun k _ => by rw [g 0 (by decide)]), zDs2_rows h2 rfl (by rw [g 0 (by decide)]) (fun _ _ => rfl) (fun k hk => g k (by omega)), ?_, zSl_of h4 (Nat.le_refl _) rfl (by rw [g 0 (by decide)]) rfl rfl rfl (g 31 (by decide)) (g 33 (by decide)), h5, h6, fun l hl => by rw [zu_ne2 (by omega)]; exact h7 l hl⟩
  exact zPs2_gen h3 (fun _ _ => rfl) (Nat.le_refl _) hS (Nat.le_refl _) h3.1 (by rw [g 0 (by decide)]; exact h3.2.1) h3.2.2.1 (by rw [g 28 (by decide)]; exact h3.2.2.2.2.1) h3.2.2.2.2.2.1 (fun _ _ _ _ => rfl) (fun k z _ hk => by rw [g k (by omega)]) (fun _ _ => by rw [g 31 (by decide)]) (fun _ _ => rfl) (fun z hz => zu_ne2 (by omega)) (fun _ _ => rfl) (fun k hk => g k (by omega)) (fun _ _ => by rw [g 0 (by decide)])
/-- the class's note of a PARAMETER -/
theorem zPh_add {G : zTxt} {i d : Nat} {f : Nat → Nat} {N M P A T Q Pa j n y bb S F C R W V q : Nat} {x : Int32} {o : Nat → Nat × Nat} {w : Nat → Nat} {t u : zS} (h : zPh G i d f N M P A T Q Pa j n y bb S F C R W V q o w t u) (hS : S ≤ 1000) (hP : Pa + j < 1600) (hx : (x = -1 ∧ u 34 (bb + j) = -1) ∨ ∃ c, c < N ∧ x = Int32.ofNat c ∧ u 34 (bb + j) = Int32.ofNat (f c)) (hN : N ≤ 3000) : ∃ t2, mX6_addParameter x t = some (0, t2) ∧ zPh G i d f N M P A T Q Pa (j + 1) n y bb S F C R W V q o w t2 u ∧ (∀ k, ¬ (k = 4 ∨ k = 37 ∨ k = 45) → t2 k = t k) := by
  obtain ⟨h1, h2, h3, h4, h5, h6, h7⟩ := h
  have hQ := h4.2.2.2.2.2.1
  have key : ∀ z, zPm f N z (u 34 (bb + j)) → ∃ t2, bX6_addParameter_19 z (t 4 9) t = some (0, t2) ∧ zPh G i d f N M P A T Q Pa (j + 1) n y bb S F C R W V q o w t2 u ∧ (∀ k, ¬ (k = 4 ∨ k = 37 ∨ k = 45) → t2 k = t k) := by
    intro z hz
    unfold bX6_addParameter_19
    have e9 : t 4 9 = Int32.ofNat (Pa + j) := h3.2.2.1
    have e10 : t 4 10 = Int32.ofNat (Q + 1) := h4.1
    rw [e9]
    simp (disch := first | omega | decide | assumption) only [zu_same, zu_ne1, zu_ne2, zu_row, pl_bd, pl_pt, pl_let, zn_set, zn_get, zn_rd, zn_wr, zn_1, zn_m, Nat.reduceAdd, e9, e10, h5]
    refine ⟨_, rfl, ?_, fun k hk => by simp (disch := first | omega | decide | assumption) only [zu_same, zu_ne1, zu_ne2, zu_row, pl_bd, pl_pt, pl_let, zn_set, zn_get, zn_rd, zn_wr, zn_1, zn_m, Nat.reduceAdd]⟩
    have r : ∀ k, ¬ (k = 4 ∨ k = 37 ∨ k = 45) → zu (zu (zu t 45 (Pa + j) z) 37 Q (Int32.ofNat (j + 1))) 4 9 (Int32.ofNat (Pa + j + 1)) k = t k := fun k hk => by simp (disch := first | omega | decide | assumption) only [zu_same, zu_ne1, zu_ne2, zu_row, pl_bd, pl_pt, pl_let, zn_set, zn_get, zn_rd, zn_wr, zn_1, zn_m, Nat.reduceAdd]
    have r4 : zu (zu (zu t 45 (Pa + j) z) 37 Q (Int32.ofNat (j + 1))) 4 9 (Int32.ofNat (Pa + j + 1)) 4 10 = Int32.ofNat (Q + 1) := by simp (disch := first | omega | decide | assumption) only [zu_same, zu_ne1, zu_ne2, zu_row, pl_bd, pl_pt, pl_let, zn_set, zn_get, zn_rd, zn_wr, zn_1, zn_m, Nat.reduceAdd]; exact e10
    refine ⟨zTB_tu h1 (fun k hk => r k (by omega)) (by rw [r 3 (by decide)]) (by rw [r 3 (by decide)]) (fun _ _ => rfl) (fun _ _ => rfl), zDs2_rows h2 (by rw [r 3 (by decide)]) rfl (fun k hk => r k (by omega)) (fun _ _ => rfl), ?_, zSl_of h4 (Nat.le_refl _) (by rw [r4, e10]) rfl (r 39 (by decide)) (r 47 (by decide)) (r 49 (by decide)) rfl rfl, by simp (disch := first | omega | decide | assumption) only [zu_same, zu_ne1, zu_ne2, zu_row, pl_bd, pl_pt, pl_let, zn_set, zn_get, zn_rd, zn_wr, zn_1, zn_m, Nat.reduceAdd], by rw [r 35 (by decide)]; exact h6, fun l hl => ?_⟩
    · refine zPs2_gen h3 (fun _ _ => rfl) (Nat.le_refl _) hS (by omega) r4 h3.2.1 (by simp (disch := first | omega | decide | assumption) only [zu_same, zu_ne1, zu_ne2, zu_row, pl_bd, pl_pt, pl_let, zn_set, zn_get, zn_rd, zn_wr, zn_1, zn_m, Nat.reduceAdd]; rfl) (by rw [r 33 (by decide)]; exact h3.2.2.2.2.1) (by rw [r 49 (by decide)]; exact h3.2.2.2.2.2.1) (fun k z' hz' hk => ?_) (fun _ _ _ _ => rfl) (fun _ _ => rfl) (fun z' hz' => ?_) (fun _ _ => rfl) (fun k hk => r k (by omega)) (fun _ _ => rfl) (fun _ _ => rfl)
      · by_cases e : k = 37
        · subst e; simp (disch := first | omega | decide | assumption) only [zu_same, zu_ne1, zu_ne2, zu_row, pl_bd, pl_pt, pl_let, zn_set, zn_get, zn_rd, zn_wr, zn_1, zn_m, Nat.reduceAdd]
        · rw [r k (by omega)]
      · simp (disch := first | omega | decide | assumption) only [zu_same, zu_ne1, zu_ne2, zu_row, pl_bd, pl_pt, pl_let, zn_set, zn_get, zn_rd, zn_wr, zn_1, zn_m, Nat.reduceAdd]
    · by_cases e : l = j
      · subst e; simp (disch := first | omega | decide | assumption) only [zu_same, zu_ne1, zu_ne2, zu_row, pl_bd, pl_pt, pl_let, zn_set, zn_get, zn_rd, zn_wr, zn_1, zn_m, Nat.reduceAdd]; exact hz
      · have := h7 l (by omega)
        have ne : ¬ Pa + l = Pa + j := by omega
        simp (disch := first | omega | decide | assumption) only [zu_same, zu_ne1, zu_ne2, zu_row, pl_bd, pl_pt, pl_let, zn_set, zn_get, zn_rd, zn_wr, zn_1, zn_m, Nat.reduceAdd]
        exact this
  unfold mX6_addParameter
  rcases hx with ⟨e1, e2⟩ | ⟨c, c1, c2, c3⟩
  · subst e1
    rw [if_neg zn_m1]
    exact key _ (Or.inl ⟨rfl, e2⟩)
  · subst c2
    rw [if_pos (zn_0le (by omega)), show (2 : Int32) * Int32.ofNat c = Int32.ofNat (2 * c) from zn_mul 2 c]
    exact key _ (Or.inr ⟨c, c1, rfl, c3⟩)
theorem zEs_addP {t : zS} {x : Int32} (h : zEc t) : ∃ t2, mX6_addParameter x t = some (0, t2) ∧ zEs t t2 := by
  have key : ∀ z y, ∃ t2, bX6_addParameter_19 z y t = some (0, t2) ∧ zEs t t2 := by
    intro z y
    unfold bX6_addParameter_19
    obtain ⟨t1, a1, a2⟩ := zEs_set (c := 44) (n := 1600) (x := y) (v := z) h (by decide) (fun _ => rfl)
    rw [a1, pl_bd]
    obtain ⟨g, b1⟩ := pl_getA (c := 36) (n := 400) (x := t1 4 10 - 1) (t := t1) (by decide)
    rw [b1, pl_bd]
    obtain ⟨t3, c1, c2⟩ := zEs_set (c := 36) (n := 400) (x := t1 4 10 - 1) (v := g + 1) a2.1 (by decide) (fun _ => rfl)
    rw [c1, pl_bd, pl_pt]
    exact ⟨_, rfl, zEs_trans a2 (zEs_trans c2 (zEs_5 c2.1 (zFP_zu (zFP_refl _ _) rfl)))⟩
  unfold mX6_addParameter
  by_cases q : 0 ≤ x
  · rw [if_pos q]; exact key _ _
  · rw [if_neg q]; exact key _ _
