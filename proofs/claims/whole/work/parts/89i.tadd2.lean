/-! a label held, a part added -/
theorem zTB_rows {G : zTxt} {S H H2 i d : Nat} {f : Nat → Nat} {X : List Nat} {N M P A q : Nat} {t u u2 : zS} (h : zTB G S H i d f X N M P A q t u) (hr : ∀ k, (2 ≤ k ∧ k ≤ 10) ∨ (35 ≤ k ∧ k ≤ 38) → u2 k = u k) (h0 : ∀ j, j ≤ 11 ∨ j = 14 ∨ j = 19 ∨ j = 52 → u2 0 j = u 0 j) (h59 : u2 0 59 = Int32.ofNat (2 * H2)) : zTB G S H2 i d f X N M P A q t u2 := by
  obtain ⟨a1, a2, a3, b, c, a6⟩ := h
  exact ⟨zAt_of a1 (fun _ _ _ => rfl) rfl rfl (fun j j1 _ => h0 j (by omega)) (hr 2 (by omega)) (hr 3 (by omega)) (hr 4 (by omega)), a2, by rw [h0 10 (by omega)]; exact a3, zTD_of b rfl rfl (h0 14 (by omega)) (h0 19 (by omega)) rfl rfl rfl rfl rfl rfl (hr 5 (by omega)) (hr 6 (by omega)) (hr 7 (by omega)) (hr 8 (by omega)) (hr 9 (by omega)) (hr 10 (by omega)), zAK_of c rfl (h0 52 (by omega)) rfl rfl rfl rfl rfl (hr 5 (by omega)) (hr 6 (by omega)) (hr 35 (by omega)) (hr 36 (by omega)) (hr 37 (by omega)) (hr 38 (by omega)), h59⟩
theorem zTX_rows {f f0 : Nat → Nat} {N0 M0 P0 A0 H N M P A : Nat} {t0 u0 t u u2 : zS} (h : zTX f0 f N0 M0 P0 A0 H N M P A t0 u0 t u) (hr : ∀ k, 5 ≤ k ∧ k ≤ 10 → u2 k = u k) (h39 : ∀ k, k < 2 * H → u2 39 k = u 39 k) (hp : zFP zpTM u u2) : zTX f0 f N0 M0 P0 A0 H N M P A t0 u0 t u2 := by
  obtain ⟨a1, a2, a3, a4, a5, a6, a7, a8, a9, a10, a11, a12⟩ := h
  refine ⟨a1, a2, a3, a4, a5, a6, a7, fun j hj => ?_, fun a ha => ?_, fun k hk => ?_, a11, zFP_trans a12 hp⟩
  · rw [hr 5 (by omega), hr 6 (by omega), hr 7 (by omega), hr 8 (by omega)]; exact a8 j hj
  · rw [hr 9 (by omega), hr 10 (by omega)]; exact a9 a ha
  · rw [h39 k hk]; exact a10 k hk
theorem pl_addPart {t : zS} {P c n : Nat} {e : Nat → Nat} {x3 lab form : Int32} (h14 : t 3 14 = Int32.ofNat P) (hP : P < 1600) (hc : c < 3000) (h13 : t 13 c = Int32.ofNat n) (hL : zLk (t 19) P n (t 11 c) e) (h3 : x3 = if n = 0 then -1 else Int32.ofNat (e (n - 1))) : ∃ t2, mX2_addPart (Int32.ofNat c) x3 lab form t = some (Int32.ofNat P, t2) ∧ t2 3 14 = Int32.ofNat (P + 1) ∧ (∀ j, ¬ j = 14 → t2 3 j = t 3 j) ∧ (∀ k, ¬ (k = 3 ∨ k = 11 ∨ k = 13 ∨ k = 15 ∨ k = 17 ∨ k = 19) → t2 k = t k) ∧ t2 13 c = Int32.ofNat (n + 1) ∧ (∀ d, ¬ d = c → t2 13 d = t 13 d ∧ t2 11 d = t 11 d) ∧ t2 15 P = lab ∧ t2 17 P = form ∧ (∀ k, ¬ k = P → t2 15 k = t 15 k ∧ t2 17 k = t 17 k) ∧ (∀ k, ¬ k = P → (n = 0 ∨ ¬ k = e (n - 1)) → t2 19 k = t 19 k) ∧ zLk (t2 19) (P + 1) (n + 1) (t2 11 c) (zup e n P) := by
  unfold mX2_addPart bX2_addPart_68
  by_cases hn : n = 0
  · subst hn
    rw [if_pos rfl] at h3
    subst h3
    refine ⟨zu (zu (zu (zu (zu (zu t 15 P lab) 17 P form) 19 P (-1)) 11 c (Int32.ofNat P)) 13 c (Int32.ofNat 1)) 3 14 (Int32.ofNat (P + 1)), ?_, ?_, fun j hj => ?_, fun k hk => ?_, ?_, fun d hd => ⟨?_, ?_⟩, ?_, ?_, fun k hk => ⟨?_, ?_⟩, fun k hk _ => ?_, ?_, fun j hj => ?_⟩
    · have := zn_1 0
      simp (disch := first | omega | decide | assumption) only [zu_same, zu_ne1, zu_ne2, zu_row, pl_bd, pl_pt, pl_let, zn_set, zn_get, zn_rd, zn_wr, zn_1, zn_m, Nat.reduceAdd, h14, h13, if_neg zn_m1]
    · simp (disch := first | omega | decide | assumption) only [zu_same, zu_ne1, zu_ne2, zu_row, pl_bd, pl_pt, pl_let, zn_set, zn_get, zn_rd, zn_wr, zn_1, zn_m, Nat.reduceAdd]
    · simp (disch := first | omega | decide | assumption) only [zu_same, zu_ne1, zu_ne2, zu_row, pl_bd, pl_pt, pl_let, zn_set, zn_get, zn_rd, zn_wr, zn_1, zn_m, Nat.reduceAdd]
    · simp (disch := first | omega | decide | assumption) only [zu_same, zu_ne1, zu_ne2, zu_row, pl_bd, pl_pt, pl_let, zn_set, zn_get, zn_rd, zn_wr, zn_1, zn_m, Nat.reduceAdd]
    · simp (disch := first | omega | decide | assumption) only [zu_same, zu_ne1, zu_ne2, zu_row, pl_bd, pl_pt, pl_let, zn_set, zn_get, zn_rd, zn_wr, zn_1, zn_m, Nat.reduceAdd]
    · simp (disch := first | omega | decide | assumption) only [zu_same, zu_ne1, zu_ne2, zu_row, pl_bd, pl_pt, pl_let, zn_set, zn_get, zn_rd, zn_wr, zn_1, zn_m, Nat.reduceAdd]
    · simp (disch := first | omega | decide | assumption) only [zu_same, zu_ne1, zu_ne2, zu_row, pl_bd, pl_pt, pl_let, zn_set, zn_get, zn_rd, zn_wr, zn_1, zn_m, Nat.reduceAdd]
    · simp (disch := first | omega | decide | assumption) only [zu_same, zu_ne1, zu_ne2, zu_row, pl_bd, pl_pt, pl_let, zn_set, zn_get, zn_rd, zn_wr, zn_1, zn_m, Nat.reduceAdd]
    · simp (disch := first | omega | decide | assumption) only [zu_same, zu_ne1, zu_ne2, zu_row, pl_bd, pl_pt, pl_let, zn_set, zn_get, zn_rd, zn_wr, zn_1, zn_m, Nat.reduceAdd]
    · simp (disch := first | omega | decide | assumption) only [zu_same, zu_ne1, zu_ne2, zu_row, pl_bd, pl_pt, pl_let, zn_set, zn_get, zn_rd, zn_wr, zn_1, zn_m, Nat.reduceAdd]
    · simp (disch := first | omega | decide | assumption) only [zu_same, zu_ne1, zu_ne2, zu_row, pl_bd, pl_pt, pl_let, zn_set, zn_get, zn_rd, zn_wr, zn_1, zn_m, Nat.reduceAdd]
    · simp (disch := first | omega | decide | assumption) only [zu_same, zu_ne1, zu_ne2, zu_row, pl_bd, pl_pt, pl_let, zn_set, zn_get, zn_rd, zn_wr, zn_1, zn_m, Nat.reduceAdd]
    · rw [if_neg (by omega), zup_at]; simp (disch := first | omega | decide | assumption) only [zu_same, zu_ne1, zu_ne2, zu_row, pl_bd, pl_pt, pl_let, zn_set, zn_get, zn_rd, zn_wr, zn_1, zn_m, Nat.reduceAdd]
    · have e0 : j = 0 := by omega
      subst e0
      rw [zup_at, if_neg (by omega)]
      exact ⟨by omega, by simp (disch := first | omega | decide | assumption) only [zu_same, zu_ne1, zu_ne2, zu_row, pl_bd, pl_pt, pl_let, zn_set, zn_get, zn_rd, zn_wr, zn_1, zn_m, Nat.reduceAdd]⟩
  · rw [if_neg hn] at h3
    subst h3
    obtain ⟨a1, a2⟩ := hL.2 (n - 1) (by omega)
    rw [if_neg (by omega)] at a2
    refine ⟨zu (zu (zu (zu (zu (zu t 15 P lab) 17 P form) 19 P (-1)) 19 (e (n - 1)) (Int32.ofNat P)) 13 c (Int32.ofNat (n + 1))) 3 14 (Int32.ofNat (P + 1)), ?_, ?_, fun j hj => ?_, fun k hk => ?_, ?_, fun d hd => ⟨?_, ?_⟩, ?_, ?_, fun k hk => ⟨?_, ?_⟩, fun k hk hk2 => ?_, ?_, fun j hj => ?_⟩
    · have hp := zn_0le (k := e (n - 1)) (by omega)
      simp (disch := first | omega | decide | assumption) only [zu_same, zu_ne1, zu_ne2, zu_row, pl_bd, pl_pt, pl_let, zn_set, zn_get, zn_rd, zn_wr, zn_1, zn_m, Nat.reduceAdd, h14, h13, if_pos hp]
    · simp (disch := first | omega | decide | assumption) only [zu_same, zu_ne1, zu_ne2, zu_row, pl_bd, pl_pt, pl_let, zn_set, zn_get, zn_rd, zn_wr, zn_1, zn_m, Nat.reduceAdd]
    · simp (disch := first | omega | decide | assumption) only [zu_same, zu_ne1, zu_ne2, zu_row, pl_bd, pl_pt, pl_let, zn_set, zn_get, zn_rd, zn_wr, zn_1, zn_m, Nat.reduceAdd]
    · simp (disch := first | omega | decide | assumption) only [zu_same, zu_ne1, zu_ne2, zu_row, pl_bd, pl_pt, pl_let, zn_set, zn_get, zn_rd, zn_wr, zn_1, zn_m, Nat.reduceAdd]
    · simp (disch := first | omega | decide | assumption) only [zu_same, zu_ne1, zu_ne2, zu_row, pl_bd, pl_pt, pl_let, zn_set, zn_get, zn_rd, zn_wr, zn_1, zn_m, Nat.reduceAdd]
    · simp (disch := first | omega | decide | assumption) only [zu_same, zu_ne1, zu_ne2, zu_row, pl_bd, pl_pt, pl_let, zn_set, zn_get, zn_rd, zn_wr, zn_1, zn_m, Nat.reduceAdd]
    · simp (disch := first | omega | decide | assumption) only [zu_same, zu_ne1, zu_ne2, zu_row, pl_bd, pl_pt, pl_let, zn_set, zn_get, zn_rd, zn_wr, zn_1, zn_m, Nat.reduceAdd]
    · simp (disch := first | omega | decide | assumption) only [zu_same, zu_ne1, zu_ne2, zu_row, pl_bd, pl_pt, pl_let, zn_set, zn_get, zn_rd, zn_wr, zn_1, zn_m, Nat.reduceAdd]
    · simp (disch := first | omega | decide | assumption) only [zu_same, zu_ne1, zu_ne2, zu_row, pl_bd, pl_pt, pl_let, zn_set, zn_get, zn_rd, zn_wr, zn_1, zn_m, Nat.reduceAdd]
    · simp (disch := first | omega | decide | assumption) only [zu_same, zu_ne1, zu_ne2, zu_row, pl_bd, pl_pt, pl_let, zn_set, zn_get, zn_rd, zn_wr, zn_1, zn_m, Nat.reduceAdd]
    · simp (disch := first | omega | decide | assumption) only [zu_same, zu_ne1, zu_ne2, zu_row, pl_bd, pl_pt, pl_let, zn_set, zn_get, zn_rd, zn_wr, zn_1, zn_m, Nat.reduceAdd]
    · simp (disch := first | omega | decide | assumption) only [zu_same, zu_ne1, zu_ne2, zu_row, pl_bd, pl_pt, pl_let, zn_set, zn_get, zn_rd, zn_wr, zn_1, zn_m, Nat.reduceAdd]
    · rw [if_neg (by omega), zup_ne (by omega)]
      have := hL.1
      rw [if_neg hn] at this
      simp (disch := first | omega | decide | assumption) only [zu_same, zu_ne1, zu_ne2, zu_row, pl_bd, pl_pt, pl_let, zn_set, zn_get, zn_rd, zn_wr, zn_1, zn_m, Nat.reduceAdd, this]
    · by_cases q : j = n
      · subst q
        rw [zup_at, if_neg (by omega)]
        exact ⟨by omega, by simp (disch := first | omega | decide | assumption) only [zu_same, zu_ne1, zu_ne2, zu_row, pl_bd, pl_pt, pl_let, zn_set, zn_get, zn_rd, zn_wr, zn_1, zn_m, Nat.reduceAdd]⟩
      · rw [zup_ne q, if_pos (by omega)]
        by_cases q2 : j = n - 1
        · rw [q2, show n - 1 + 1 = n by omega, zup_at]
          exact ⟨by omega, by simp (disch := first | omega | decide | assumption) only [zu_same, zu_ne1, zu_ne2, zu_row, pl_bd, pl_pt, pl_let, zn_set, zn_get, zn_rd, zn_wr, zn_1, zn_m, Nat.reduceAdd]⟩
        · obtain ⟨b1, b2⟩ := hL.2 j (by omega)
          rw [if_pos (by omega)] at b2
          have ne : ¬ e j = e (n - 1) := fun w => by
            rw [w, a2] at b2
            have := (hL.2 (j + 1) (by omega)).1
            exact absurd (show (0 : Int32) ≤ -1 by rw [b2]; exact zn_0le (by omega)) zn_m1
          rw [zup_ne (by omega)]
          exact ⟨by omega, by simp (disch := first | omega | decide | assumption) only [zu_same, zu_ne1, zu_ne2, zu_row, pl_bd, pl_pt, pl_let, zn_set, zn_get, zn_rd, zn_wr, zn_1, zn_m, Nat.reduceAdd, b2]⟩
/-- both hold the part -/
theorem zTB_part {G : zTxt} {S H i d : Nat} {f : Nat → Nat} {X : List Nat} {N M P A q c n : Nat} {e : Nat → Nat} {t u t2 : zS} (h : zTB G S H i d f X N M P A q t u) (hN : N ≤ 3000) (hc : c ∈ X) (ho : n = 0 ∨ f (10000 + e (n - 1)) = c) (h314 : t2 3 14 = Int32.ofNat (P + 1)) (h3 : ∀ j, ¬ j = 14 → t2 3 j = t 3 j) (hr : ∀ k, ¬ (k = 3 ∨ k = 11 ∨ k = 13 ∨ k = 15 ∨ k = 17 ∨ k = 19) → t2 k = t k) (h13 : ∀ d, ¬ d = c → t2 13 d = t 13 d ∧ t2 11 d = t 11 d) (h15 : ∀ k, ¬ k = P → t2 15 k = t 15 k ∧ t2 17 k = t 17 k) (h19 : ∀ k, ¬ k = P → (n = 0 ∨ ¬ k = e (n - 1)) → t2 19 k = t 19 k) : zTB G S H i d (zup f (10000 + P) c) X N M (P + 1) A q t2 u := by
  obtain ⟨a1, a2, a3, ⟨b1, b2, b3, b4, b5, b6, b7⟩, ⟨c1, c2, c3, c4⟩, a6⟩ := h
  have hf : ∀ c', c' < N → zup f (10000 + P) c c' = f c' := fun c' hc' => zup_ne (by omega)
  refine ⟨zAt_of a1 (fun j _ _ => by rw [hr 5 (by omega)]) (hr 67 (by omega)) (by rw [hr 50 (by omega)]) (fun _ _ _ => rfl) rfl rfl rfl, by rw [hr 5 (by omega)]; exact a2, a3, ⟨by rw [h3 13 (by omega)]; exact b1, b2, h314, b4, fun c' hc' => by rw [hf c' hc']; exact b5 c' hc', fun c' d' h1 h2 h3 => by rw [hf c' h1, hf d' h2] at h3; exact b6 c' d' h1 h2 h3, fun c' h1 h2 => ?_⟩, ⟨by rw [hr 5 (by omega)]; exact c1, c2, fun k hk => ?_, fun c' hc' hk => ?_, by rw [hr 87 (by omega)]; exact c4.2⟩, a6⟩
  · have ne : ¬ c' = c := fun w => h2 (by rw [w]; exact hc)
    refine zTL_ext (b7 c' h1 h2) (Nat.le_refl _) (by omega) (Nat.le_refl _) h1 hf (fun k hk => zup_ne (by omega)) (by rw [hr 9 (by omega)]) (h13 c' ne).2 (h13 c' ne).1 (fun k hk hk2 => ⟨(h15 k (by omega)).1, (h15 k (by omega)).2, h19 k (by omega) ?_⟩) rfl rfl rfl rfl (fun _ _ => ⟨rfl, rfl⟩)
    rcases ho with ho | ho
    · exact Or.inl ho
    · exact Or.inr (fun w => ne (by rw [← hk2, w, ho]))
  · have := c3 k hk
    unfold zA1 at this ⊢
    rw [hr 54 (by omega), hr 56 (by omega), hr 93 (by omega), hr 87 (by omega)]
    exact this
  · rw [hr 9 (by omega)] at hk
    rw [hf c' hc']; exact c4.1 c' hc' hk
theorem zTX_part {f f0 : Nat → Nat} {N0 M0 P0 A0 H N M P A c n : Nat} {e : Nat → Nat} {t0 u0 t u t2 : zS} (h : zTX f0 f N0 M0 P0 A0 H N M P A t0 u0 t u) (hN : N ≤ 3000) (hc : N0 ≤ c) (ho : n = 0 ∨ P0 ≤ e (n - 1)) (hr : ∀ k, ¬ (k = 3 ∨ k = 11 ∨ k = 13 ∨ k = 15 ∨ k = 17 ∨ k = 19) → t2 k = t k) (h3 : ∀ j, ¬ j = 14 → t2 3 j = t 3 j) (h13 : ∀ d, ¬ d = c → t2 13 d = t 13 d ∧ t2 11 d = t 11 d) (h15 : ∀ k, ¬ k = P → t2 15 k = t 15 k ∧ t2 17 k = t 17 k) (h19 : ∀ k, ¬ k = P → (n = 0 ∨ ¬ k = e (n - 1)) → t2 19 k = t 19 k) : zTX f0 (zup f (10000 + P) c) N0 M0 P0 A0 H N M (P + 1) A t0 u0 t2 u := by
  obtain ⟨a1, a2, a3, a4, a5, a6, a7, a8, a9, a10, a11, a12⟩ := h
  refine ⟨a1, a2, by omega, a4, fun c' hc' => ?_, fun c' h1 h2 => ?_, fun k hk => ?_, a8, a9, a10, zFP_trans a11 (fun k j hk => ?_), a12⟩
  · rw [zup_ne (by omega), hr 9 (by omega), (h13 c' (by omega)).1, (h13 c' (by omega)).2]; exact a5 c' hc'
  · rw [zup_ne (by omega)]; exact a6 c' h1 h2
  · rw [zup_ne (by omega), (h15 k (by omega)).1, (h15 k (by omega)).2, h19 k (by omega) (by rcases ho with ho | ho; exact Or.inl ho; exact Or.inr (by omega))]; exact a7 k hk
  · by_cases e3 : k = 3
    · subst e3
      refine h3 j (fun w => ?_)
      rw [w] at hk; cases hk
    · rw [hr k ?_]
      rintro (w | w | w | w | w | w) <;> subst w <;> first | exact e3 rfl | cases hk
