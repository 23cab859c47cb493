/-! both stand at the first word -/
theorem pl_step0 {t : zS} (h8 : t 5 8 = -1) (h12 : t 5 12 = -1) : mX7_step t = some (0, zu (zu (zu (zu t 5 8 (Int32.ofNat 0)) 5 9 (t 67 0)) 5 10 (t 67 1)) 5 11 (t 67 2)) := by
  unfold mX7_step
  rw [pl_pt, show t 5 8 + 1 = Int32.ofNat 0 by rw [h8]; rfl, pl_let, zu_same, show (3 : Int32) * Int32.ofNat 0 = Int32.ofNat 0 from rfl, show Int32.ofNat 0 + 1 = Int32.ofNat 1 from rfl, show Int32.ofNat 0 + 2 = Int32.ofNat 2 from rfl, if_neg (by rw [zu_ne2 (by decide), h12]; decide), if_neg (zn_neg (by decide)), if_neg (by decide)]
  rw [zn_rd (by omega) (by decide), pl_pt, zn_rd (by omega) (by decide), pl_pt, zn_rd (by omega) (by decide), pl_pt]
  simp only [zu_row (show (67 : Nat) ≠ 5 by decide)]
theorem pl_prog0 {u : zS} {n : Nat} (hn : n ≤ 3000) (h1 : u 0 1 = Int32.ofNat n) : ∃ v, mX12_program u = (zbd (mX12_next v) fun _ x => lX12_program_134 zFU 1 x) ∧ (v 0 3 = Int32.ofNat n ∧ v 0 4 = 0 ∧ v 0 9 = -1 ∧ v 0 10 = 0 ∧ v 0 11 = 0 ∧ v 0 14 = 0 ∧ v 0 19 = 0 ∧ v 0 59 = 0 ∧ v 0 22 = 0 ∧ v 0 26 = 0 ∧ v 0 36 = 0 ∧ v 0 39 = 0 ∧ v 0 42 = 0 ∧ v 0 44 = 0 ∧ v 31 0 = 0 ∧ v 0 52 = 0) ∧ (v 0 1 = 0 ∧ v 0 57 = 0 ∧ v 0 71 = 0) ∧ (∀ i, i < n → v 2 i = u 1 i) ∧ zFP zpM0 u v := by
  unfold mX12_program
  rw [pl_pt, h1]
  have hc := pl_copyM hn n 0 (zFU - n - 1) (zu u 0 3 (Int32.ofNat n)) (by omega) (by rw [zu_ne2 (by decide)]; exact h1)
  rw [show zFU - n - 1 + n + 1 = zFU by unfold zFU; omega] at hc
  rw [show lX12_program_10 zFU 0 (zu u 0 3 (Int32.ofNat n)) = _ from hc]
  have y0 : ∀ k, ¬ k = 2 → zcy (zu u 0 3 (Int32.ofNat n)) 0 n k = zu u 0 3 (Int32.ofNat n) k := fun k hk => by
    funext i
    unfold zcy
    rw [if_neg (fun e => hk e.1)]
  have y2 : ∀ i, i < n → zcy (zu u 0 3 (Int32.ofNat n)) 0 n 2 i = u 1 i := fun i hi => by
    unfold zcy
    rw [if_pos ⟨rfl, by omega, hi⟩, zu_ne1 (by decide)]
  unfold bX12_program_10
  rw [if_pos (by rw [y0 0 (by decide), zu_ne2 (by decide), h1]; exact Int32.le_refl _)]
  generalize zcy (zu u 0 3 (Int32.ofNat n)) 0 n = z at y0 y2
  simp only [pl_pt]
  rw [pl_wr (by decide), show (0 : Int32).toNatClampNeg = 0 from rfl]
  refine ⟨_, rfl, ⟨?_, ?_, ?_, ?_, ?_, ?_, ?_, ?_, ?_, ?_, ?_, ?_, ?_, ?_, ?_, ?_⟩, ⟨?_, ?_, ?_⟩, fun i hi => ?_, ?_⟩
  all_goals try (simp (disch := decide) only [zu_same, zu_ne1, zu_ne2, zu_row])
  · rw [y0 0 (by decide), zu_same]
  · exact y2 i hi
  · have f0 : zFP zpM0 u z := fun k j q => by
      have hk : ¬ k = 2 := by
        intro e
        rw [e] at q
        exact absurd q (by unfold zpM0; simp)
      rw [y0 k hk]
      by_cases e : k = 0
      · subst e
        refine zu_ne2 (fun e2 => ?_)
        rw [e2] at q
        exact absurd q (by decide)
      · exact zu_ne1 e
    repeat' (first | exact f0 | refine zFP_zu ?_ rfl)
theorem zStart {t u : zS} {n : Nat} (hn : n ≤ 3000) (hb : ∀ j, j < n → 0 ≤ t 2 j ∧ t 2 j ≤ 255) (he : ∀ j, j < n → u 1 j = t 2 j) (h1 : u 0 1 = Int32.ofNat n) :
    ∃ t2 u2 G, mX7_readAll (Int32.ofNat n) t = lX7_readAll_63 zFU (Int32.ofNat n) 0 t2 ∧ mX12_program u = lX12_program_134 zFU 1 u2 ∧ zAny G 0 t2 u2 ∧ G.2.1 = n ∧ zFP zpR0 t t2 ∧ zFP zpM0 u u2 ∧ u2 0 1 = 0 ∧ u2 0 57 = 0 ∧ u2 0 71 = 0 ∧ ∀ x, x < 6000 → t2 29 x = Int32.ofNat x := by
  obtain ⟨t1, t2, t3, t4, a1, a2, a3, a4, ⟨b1, b2, b3, b4, b5, b6, b7, b8, b9, b29, b10⟩, a6⟩ := pl_forgets (t := t)
  have e2 : t4 2 = t 2 := zFP_row 2 a6 (fun _ => rfl)
  obtain ⟨t5, m, V, c1, c2, c3⟩ := pl_cut (t := t4) hn (fun j hj => by rw [e2]; exact hb j hj)
  obtain ⟨v, d1, ⟨d2, d3, d4, d5, d6, d7, d8, d9, d10, d11, d12, d13, d14, d15, d16, d17⟩, ⟨x1, x2, x3⟩, d18, d19⟩ := pl_prog0 hn h1
  rw [e2] at c3
  have c4 : zWds (v 2) n m V t5 := zWds_congr (fun j hj => by rw [d18 j hj, he j hj]) c3
  have hW := zWf_of c4
  obtain ⟨u2, r1, r2, r3, r4⟩ := pl_next (i := 0) (p0 := 0) hW hn rfl d2 d3 (Nat.zero_le _) rfl (Nat.zero_le _) ⟨d6, fun k w hk => by exact absurd hk (by show ¬ ([] : List Nat)[k]? = some w; simp)⟩
  have hs := pl_step0 (t := zu (zu (zu (zu t5 5 7 0) 5 12 (-1)) 5 13 0) 5 8 (-1)) (zu_same _ _ _ _) (by simp (disch := first | omega | decide | assumption) only [zu_same, zu_ne1, zu_ne2, zu_row, pl_bd, pl_pt, pl_let, zn_set, zn_get, zn_rd, zn_wr, zn_1, zn_m, Nat.reduceAdd])
  have k5 : ∀ k, ¬ (k = 5 ∨ k = 50 ∨ k = 67 ∨ k = 69 ∨ k = 71 ∨ k = 73) → t5 k = t4 k := fun k hk => c2 k (by omega) (by omega) (by omega) (by omega) (by omega)
  unfold mX7_readAll
  rw [a1, pl_bd, a2, pl_bd, a3, pl_bd, a4, pl_bd, c1, pl_bd, pl_pt, pl_pt, pl_pt, pl_pt, hs, pl_bd, d1, r1, pl_bd]
  have q : ∀ k, ¬ k = 5 → zu (zu (zu (zu (zu (zu (zu (zu t5 5 7 0) 5 12 (-1)) 5 13 0) 5 8 (-1)) 5 8 (Int32.ofNat 0)) 5 9 (zu (zu (zu (zu t5 5 7 0) 5 12 (-1)) 5 13 0) 5 8 (-1) 67 0)) 5 10 (zu (zu (zu (zu t5 5 7 0) 5 12 (-1)) 5 13 0) 5 8 (-1) 67 1)) 5 11 (zu (zu (zu (zu t5 5 7 0) 5 12 (-1)) 5 13 0) 5 8 (-1) 67 2) k = t5 k := fun k hk => by simp (disch := first | omega | decide | assumption) only [zu_same, zu_ne1, zu_ne2, zu_row, pl_bd, pl_pt, pl_let, zn_set, zn_get, zn_rd, zn_wr, zn_1, zn_m, Nat.reduceAdd]
  refine ⟨_, u2, (v 2, n, m, V), rfl, rfl, ?_, rfl, ?_, ?_, ?_, ?_, ?_, fun x hx => by rw [q 29 (by decide), k5 29 (by decide)]; exact b29 x hx⟩
  · refine ⟨fun c => c, 0, 0, 0, 0, 0, 0, 0, 0, 0, 0, 0, 0, 0, 0, 0, fun _ => (0, 0), fun _ => 0, ⟨⟨?_, r2.1 2 (by decide) (by decide) (by decide), by rw [r2.2 3 (by decide) (by decide) (by decide) (by decide) (by decide) (by decide)]; exact d2, hn, Nat.zero_le _, by simp (disch := first | omega | decide | assumption) only [zu_same, zu_ne1, zu_ne2, zu_row, pl_bd, pl_pt, pl_let, zn_set, zn_get, zn_rd, zn_wr, zn_1, zn_m, Nat.reduceAdd], by simp (disch := first | omega | decide | assumption) only [zu_same, zu_ne1, zu_ne2, zu_row, pl_bd, pl_pt, pl_let, zn_set, zn_get, zn_rd, zn_wr, zn_1, zn_m, Nat.reduceAdd], by simp (disch := first | omega | decide | assumption) only [zu_same, zu_ne1, zu_ne2, zu_row, pl_bd, pl_pt, pl_let, zn_set, zn_get, zn_rd, zn_wr, zn_1, zn_m, Nat.reduceAdd], by simp (disch := first | omega | decide | assumption) only [zu_same, zu_ne1, zu_ne2, zu_row, pl_bd, pl_pt, pl_let, zn_set, zn_get, zn_rd, zn_wr, zn_1, zn_m, Nat.reduceAdd], by simp (disch := first | omega | decide | assumption) only [zu_same, zu_ne1, zu_ne2, zu_row, pl_bd, pl_pt, pl_let, zn_set, zn_get, zn_rd, zn_wr, zn_1, zn_m, Nat.reduceAdd], by rw [r2.2 9 (by decide) (by decide) (by decide) (by decide) (by decide) (by decide)]; exact d4, r3, r4⟩, by simp (disch := first | omega | decide | assumption) only [zu_same, zu_ne1, zu_ne2, zu_row, pl_bd, pl_pt, pl_let, zn_set, zn_get, zn_rd, zn_wr, zn_1, zn_m, Nat.reduceAdd]; rfl, by rw [r2.2 10 (by decide) (by decide) (by decide) (by decide) (by decide) (by decide)]; exact d5, ⟨?_, ?_, ?_, ?_, fun c hc => absurd hc (Nat.not_lt_zero _), fun c _ hc => absurd hc (Nat.not_lt_zero _), fun c hc => absurd hc (Nat.not_lt_zero _)⟩, ⟨by simp (disch := first | omega | decide | assumption) only [zu_same, zu_ne1, zu_ne2, zu_row, pl_bd, pl_pt, pl_let, zn_set, zn_get, zn_rd, zn_wr, zn_1, zn_m, Nat.reduceAdd]; rfl, ?_, fun c hc => absurd hc (Nat.not_lt_zero _), fun c hc => absurd hc (Nat.not_lt_zero _), fun c hc => absurd hc (Nat.not_lt_zero _)⟩, ?_⟩, ⟨?_, ?_, ⟨fun v' hv' => Or.inl ?_, fun c hc => absurd hc (Nat.not_lt_zero _)⟩, fun c hc => absurd hc (Nat.not_lt_zero _)⟩, ⟨?_, ?_, ?_, ?_, ⟨fun v' hv' => Or.inl ?_, fun c hc => absurd hc (Nat.not_lt_zero _)⟩, fun v' hv' => Or.inl ?_, fun c hc => absurd hc (Nat.not_lt_zero _), ?_, ?_, ?_, ?_, ?_, ?_, ?_, ?_, fun c hc => absurd hc (Nat.not_lt_zero _)⟩, ?_⟩
    · unfold zWds at c4 ⊢
      simp only [q 67 (by decide), q 50 (by decide)]
      exact c4
    · rw [q 3 (by decide), k5 3 (by decide)]; exact b1
    · rw [r2.2 14 (by decide) (by decide) (by decide) (by decide) (by decide) (by decide)]; exact d7
    · rw [q 3 (by decide), k5 3 (by decide)]; exact b2
    · rw [r2.2 19 (by decide) (by decide) (by decide) (by decide) (by decide) (by decide)]; exact d8
    · rw [r2.2 52 (by decide) (by decide) (by decide) (by decide) (by decide) (by decide)]; exact d17
    · rw [r2.2 59 (by decide) (by decide) (by decide) (by decide) (by decide) (by decide)]; exact d9
    · rw [q 3 (by decide), k5 3 (by decide)]; exact b3
    · rw [r2.2 22 (by decide) (by decide) (by decide) (by decide) (by decide) (by decide)]; exact d10
    · rw [q 25 (by decide), k5 25 (by decide)]; exact (b10 v' hv').1
    · rw [q 4 (by decide), k5 4 (by decide)]; exact b5
    · rw [r2.2 44 (by decide) (by decide) (by decide) (by decide) (by decide) (by decide)]; exact d15
    · rw [q 4 (by decide), k5 4 (by decide)]; exact b4
    · rw [r2.1 31 (by decide) (by decide) (by decide)]; exact d16
    · rw [q 33 (by decide), k5 33 (by decide)]; exact (b10 v' hv').2.1
    · rw [q 49 (by decide), k5 49 (by decide)]; exact (b10 v' hv').2.2
    · rw [q 51 (by decide), k5 51 (by decide)]; exact b6
    · rw [r2.2 42 (by decide) (by decide) (by decide) (by decide) (by decide) (by decide)]; exact d14
    · rw [q 52 (by decide), k5 52 (by decide)]; exact b8
    · rw [r2.2 26 (by decide) (by decide) (by decide) (by decide) (by decide) (by decide)]; exact d11
    · rw [q 51 (by decide), k5 51 (by decide)]; exact b7
    · rw [r2.2 39 (by decide) (by decide) (by decide) (by decide) (by decide) (by decide)]; exact d13
    · rw [q 52 (by decide), k5 52 (by decide)]; exact b9
    · rw [r2.2 36 (by decide) (by decide) (by decide) (by decide) (by decide) (by decide)]; exact d12
    · unfold zTN zW
      refine ⟨?_, ?_, ?_, ?_, ?_, ?_, ?_, ?_, ?_, ?_, ?_, ?_, ?_, ?_⟩ <;> omega
  · intro k j hp
    have hk : zpR1 k j = true ∧ ¬ (k = 5 ∨ k = 50 ∨ k = 67 ∨ k = 69 ∨ k = 71 ∨ k = 73) := by
      unfold zpR0 at hp
      simp only [Bool.and_eq_true, Bool.not_eq_true', Bool.or_eq_false_iff, beq_eq_false_iff_ne] at hp
      refine ⟨by unfold zpR1; rw [hp.1, beq_false_of_ne (show k ≠ 29 by omega)]; rfl, ?_⟩
      have h2 := hp.1
      unfold zpR at h2
      simp only [Bool.or_eq_true, beq_iff_eq, Bool.and_eq_true, decide_eq_true_eq] at h2
      omega
    rw [q k (by omega), k5 k hk.2]
    exact a6 k j hk.1
  · intro k j hp
    rw [← d19 k j hp]
    by_cases e : k = 0
    · subst e
      unfold zpM0 at hp
      simp only [Bool.or_eq_true, beq_iff_eq, Bool.and_eq_true, decide_eq_true_eq, Bool.not_eq_true', beq_eq_false_iff_ne] at hp
      exact r2.2 j (by omega) (by omega) (by omega) (by omega) (by omega) (by omega)
    · have h34 : ¬ (k = 3 ∨ k = 4) := by
        unfold zpM0 at hp
        simp only [Bool.or_eq_true, beq_iff_eq, Bool.and_eq_true, decide_eq_true_eq, Bool.not_eq_true', beq_eq_false_iff_ne] at hp
        omega
      rw [r2.1 k e (by omega) (by omega)]
  · rw [r2.2 1 (by decide) (by decide) (by decide) (by decide) (by decide) (by decide)]; exact x1
  · rw [r2.2 57 (by decide) (by decide) (by decide) (by decide) (by decide) (by decide)]; exact x2
  · rw [r2.2 71 (by decide) (by decide) (by decide) (by decide) (by decide) (by decide)]; exact x3
