/-! what BLOCKS leave alone, place by place -/
theorem zTD_lm {B : List Nat} {R : Int32 → Int32 → Prop} {f : Nat → Nat} {X : List Nat} {N M P A : Nat} {t u t2 u2 : zS} (h : zTD B R f X N M P A t u) (hb : N ≤ 9000 ∧ M ≤ 9000 ∧ P ≤ 9000 ∧ A ≤ 9000) (h3 : t2 3 13 = t 3 13) (h4 : t2 3 14 = t 3 14) (g1 : u2 0 14 = u 0 14) (g2 : u2 0 19 = u 0 19) (ht : ∀ k j, j < 1000000 → 9 ≤ k ∧ k ≤ 37 → t2 k j = t k j) (hu : ∀ k j, j < 1000000 → 5 ≤ k ∧ k ≤ 13 → u2 k j = u k j) : zTD B R f X N M P A t2 u2 := by
  obtain ⟨a1, a2, a3, a4, a5, a6, a7⟩ := h
  refine ⟨by rw [h3]; exact a1, by rw [g1]; exact a2, by rw [h4]; exact a3, by rw [g2]; exact a4, a5, a6, fun c hc hX => ?_⟩
  have hf := a5 c hc
  exact zTL_ext (a7 c hc hX) (Nat.le_refl _) (Nat.le_refl _) (Nat.le_refl _) hc (fun _ _ => rfl) (fun _ _ => rfl) (ht 9 c (by omega) (by decide)) (ht 11 c (by omega) (by decide)) (ht 13 c (by omega) (by decide)) (fun k hk _ => ⟨ht 15 k (by omega) (by decide), ht 17 k (by omega) (by decide), ht 19 k (by omega) (by decide)⟩) (hu 5 _ (by omega) (by decide)) (hu 6 _ (by omega) (by decide)) (hu 7 _ (by omega) (by decide)) (hu 8 _ (by omega) (by decide)) (fun a ha => ⟨hu 9 a (by omega) (by decide), hu 10 a (by omega) (by decide)⟩)
theorem zBy_lm {B : List Nat} {T : Nat} {byN ids byN2 ids2 : Nat → Int32} (h : zBy B T byN ids) (h1 : ∀ v, v < 1600 → byN2 v = byN v) (h2 : ∀ k, k < T → ids2 k = ids k) : zBy B T byN2 ids2 := by
  refine ⟨fun v hv => ?_, fun k hk => ?_⟩
  · rw [h1 v hv]
    rcases h.1 v hv with e | ⟨k, k1, k2, w, k3⟩
    · exact Or.inl e
    · exact Or.inr ⟨k, k1, k2, w, by rw [h2 k k1]; exact k3⟩
  · obtain ⟨v, w, a1, a2, a3, a4⟩ := h.2 k hk
    exact ⟨v, w, a1, by rw [h2 k hk]; exact a2, a3, by rw [h1 v a1]; exact a4⟩
theorem zDs2_lm {G : zTxt} {f : Nat → Nat} {N T : Nat} {t u t2 u2 : zS} (h : zDs2 G f N T t u) (hT : T ≤ 9000) (h3 : t2 3 15 = t 3 15) (h0 : u2 0 22 = u 0 22) (ht : ∀ k j, j < 1000000 → 9 ≤ k ∧ k ≤ 37 → t2 k j = t k j) (hu : ∀ k j, j < 1000000 → 5 ≤ k ∧ k ≤ 13 → u2 k j = u k j) : zDs2 G f N T t2 u2 := by
  obtain ⟨a1, a2, a3, a4⟩ := h
  refine ⟨by rw [h3]; exact a1, by rw [h0]; exact a2, zBy_lm a3 (fun v hv => ht 25 v (by omega) (by decide)) (fun k hk => hu 11 k (by omega) (by decide)), fun k hk => ?_⟩
  rw [ht 23 k (by omega) (by decide), hu 12 k (by omega) (by decide), ht 21 k (by omega) (by decide), hu 13 k (by omega) (by decide)]
  exact a4 k hk
theorem zBX_C {p b H S n F C R W V q S2 n2 F2 C2 R2 W2 V2 q2 : Nat} {o o2 : Nat → Nat × Nat} {w w2 : Nat → Nat} {t u t2 u2 : zS} (h : zBX p b H S n F C R W V q S2 n2 F2 C2 R2 W2 V2 q2 o o2 w w2 t u t2 u2) (k j : Nat) (hj : j < 1000000) (hk : k ≤ 4 ∨ (9 ≤ k ∧ k ≤ 37) ∨ k = 41 ∨ k = 43 ∨ k = 45) : t2 k j = t k j := by
  refine h.2.2.2.2.2.2.2.2.2.2.1 k j ?_
  clear h
  unfold zLQ
  repeat' split
  all_goals omega
theorem zBX_M {p b H S n F C R W V q S2 n2 F2 C2 R2 W2 V2 q2 : Nat} {o o2 : Nat → Nat × Nat} {w w2 : Nat → Nat} {t u t2 u2 : zS} (h : zBX p b H S n F C R W V q S2 n2 F2 C2 R2 W2 V2 q2 o o2 w w2 t u t2 u2) (k j : Nat) (hj : j < 1000000) (hk : (5 ≤ k ∧ k ≤ 13) ∨ (28 ≤ k ∧ k ≤ 30) ∨ k = 32 ∨ k = 34) : u2 k j = u k j := by
  refine h.2.2.2.2.2.2.2.2.2.2.2.1 k j ?_
  clear h
  unfold zLR
  repeat' split
  all_goals omega
theorem zBX_39 {p b H S n F C R W V q S2 n2 F2 C2 R2 W2 V2 q2 x : Nat} {o o2 : Nat → Nat × Nat} {w w2 : Nat → Nat} {t u t2 u2 : zS} (h : zBX p b H S n F C R W V q S2 n2 F2 C2 R2 W2 V2 q2 o o2 w w2 t u t2 u2) (hx : x < p) : t2 39 x = t 39 x := h.2.2.2.2.2.2.2.2.2.2.1 39 x (by unfold zLQ; rw [if_neg (by decide), if_pos rfl]; exact hx)
theorem zBX_31 {p b H S n F C R W V q S2 n2 F2 C2 R2 W2 V2 q2 x : Nat} {o o2 : Nat → Nat × Nat} {w w2 : Nat → Nat} {t u t2 u2 : zS} (h : zBX p b H S n F C R W V q S2 n2 F2 C2 R2 W2 V2 q2 o o2 w w2 t u t2 u2) (hx : x ≤ p) : u2 31 x = u 31 x := h.2.2.2.2.2.2.2.2.2.2.2.1 31 x (by unfold zLR; rw [if_neg (by decide), if_pos rfl]; omega)
/-- a proc's head becomes a BLOCK's state -/
theorem zPh_BB {G : zTxt} {i d : Nat} {f : Nat → Nat} {N M P A T Q Pa j n bb S F C R W V q : Nat} {o : Nat → Nat × Nat} {w : Nat → Nat} {t u : zS} (h : zPh G i d f N M P A T Q Pa j n i bb S F C R W V q o w t u) : zBB G i d Q bb 0 f N M A S n F C R W V q o w [] [] t u := by
  obtain ⟨⟨b1, b2, b3, b4, b5, b6⟩, h2, ⟨a1, a2, a3, a4, a5, a6, a7, a8, a9, a10, a11, a12, a13, a14, a15, a16⟩, h4, h5, h6, h7⟩ := h
  exact ⟨⟨b1, b2, b3, h4, a8, a9⟩, b5, a10, a11, a12, a13, a14, a15, b6, b4.2.2.2.1, fun s hs _ => (a16 s hs).1, fun s hs _ => (a16 s hs).2.1, fun s hs => ⟨(a16 s hs).2.2.1, Nat.le_of_lt (a16 s hs).2.2.2⟩⟩
/-- the reference's count of PARAMETERS -/
theorem zPh_32 {G : zTxt} {i d : Nat} {f : Nat → Nat} {N M P A T Q Pa j n y bb S F C R W V q : Nat} {x : Int32} {o : Nat → Nat × Nat} {w : Nat → Nat} {t u : zS} (h : zPh G i d f N M P A T Q Pa j n y bb S F C R W V q o w t u) (hS : S ≤ 1000) : zPh G i d f N M P A T Q Pa j n y bb S F C R W V q o w t (zu u 32 Q x) := by
  obtain ⟨h1, h2, h3, h4, h5, h6, h7⟩ := h
  have g : ∀ k, ¬ k = 32 → zu u 32 Q x k = u k := fun k hk => zu_row hk
  refine ⟨zTB_tu h1 (fun _ _ => rfl) rfl rfl (fun k hk => g k (by omega)) (fun k _ => by rw [g 0 (by decide)]), zDs2_rows h2 rfl (by rw [g 0 (by decide)]) (fun _ _ => rfl) (fun k hk => g k (by omega)), ?_, zSl_of h4 (Nat.le_refl _) rfl (by rw [g 0 (by decide)]) rfl rfl rfl (g 31 (by decide)) (g 33 (by decide)), h5, h6, by rw [g 34 (by decide)]; exact h7⟩
  refine zPs2_gen h3 (fun _ _ => rfl) (Nat.le_refl _) hS (Nat.le_refl _) h3.1 (by rw [g 0 (by decide)]; exact h3.2.1) h3.2.2.1 (by rw [g 28 (by decide)]; exact h3.2.2.2.2.1) h3.2.2.2.2.2.1 (fun _ _ _ _ => rfl) (fun k z hz hk => ?_) (fun _ _ => by rw [g 31 (by decide)]) (fun _ _ => rfl) (fun z hz => by rw [g 34 (by decide)]) (fun _ _ => rfl) (fun k hk => g k (by omega)) (fun _ _ => by rw [g 0 (by decide)])
  by_cases e : k = 32
  · subst e; exact zu_ne2 (by omega)
  · rw [g k e]
