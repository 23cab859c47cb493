/-! START -/
theorem pl_begin {t : zS} {x x1 x2 : Int32} {xn nx : Nat} (hx : xn < 300) (h33 : t 33 17 = Int32.ofNat xn) (h39 : t 39 xn = Int32.ofNat nx) : ∃ tB, mX4_begin x1 x2 t = (if Int32.ofNat (4 + nx) ≤ x2 then zbd (mX8_join (Int32.ofNat xn) (Int32.ofNat nx) (t 41 xn) (zu tB 7 14 (Int32.ofNat (4 + nx)))) fun r1760 t1761 => zpt t1761 7 13 r1760 fun t1763 => zpt t1763 7 16 0 fun t1764 => some ((t1764 7 16), t1764) else some (4, zu tB 7 16 4)) ∧ tB 7 16 = -1 ∧ tB 7 10 = 0 ∧ tB 7 11 = 0 ∧ tB 7 12 = 0 ∧ tB 7 14 = 0 ∧ tB 7 15 = x2 ∧ tB 7 8 = t 7 8 ∧ tB 7 9 = t 7 9 ∧ tB 60 10 = -1 ∧ tB 60 11 = -1 ∧ tB 60 12 = 0 ∧ tB 60 13 = 0 ∧ tB 60 14 = 0 ∧ tB 60 15 = 0 ∧ tB 60 16 = 0 ∧ tB 60 17 = 0 ∧ tB 59 7 = x1 ∧ tB 59 5 = 0 ∧ tB 59 6 = 0 ∧ tB 59 8 = 0 ∧ tB 59 9 = 0 ∧ ∀ k, ¬ (k = 7 ∨ k = 59 ∨ k = 60) → tB k = t k := by
  obtain ⟨ta, ea, a1, a2, a3, a4, a5, a6, a7, a8⟩ : ∃ ta, ta = zu (zu (zu (zu (zu t 7 16 (-1)) 7 10 0) 7 11 0) 7 12 0) 7 14 0 ∧ ta 7 16 = -1 ∧ ta 7 10 = 0 ∧ ta 7 11 = 0 ∧ ta 7 12 = 0 ∧ ta 7 14 = 0 ∧ ta 7 8 = t 7 8 ∧ ta 7 9 = t 7 9 ∧ ∀ k, ¬ k = 7 → ta k = t k := by
    refine ⟨_, rfl, ?_, ?_, ?_, ?_, ?_, ?_, ?_, fun k hk => by rw [zu_row hk, zu_row hk, zu_row hk, zu_row hk, zu_row hk]⟩
    all_goals simp (disch := first | omega | decide | assumption) only [zu_same, zu_ne1, zu_ne2, zu_row, pl_bd, pl_pt, pl_let, zn_set, zn_get, zn_rd, zn_wr, zn_1, zn_m, Nat.reduceAdd]
  obtain ⟨tb, eb, b1, b2, b3, b4, b5, b6, b7, b8, b9⟩ : ∃ tb, tb = zu (zu (zu (zu (zu (zu (zu (zu ta 60 10 (-1)) 60 11 (-1)) 60 12 0) 60 13 0) 60 14 0) 60 15 0) 60 16 0) 60 17 0 ∧ tb 60 10 = -1 ∧ tb 60 11 = -1 ∧ tb 60 12 = 0 ∧ tb 60 13 = 0 ∧ tb 60 14 = 0 ∧ tb 60 15 = 0 ∧ tb 60 16 = 0 ∧ tb 60 17 = 0 ∧ ∀ k, ¬ k = 60 → tb k = ta k := by
    refine ⟨_, rfl, ?_, ?_, ?_, ?_, ?_, ?_, ?_, ?_, fun k hk => by rw [zu_row hk, zu_row hk, zu_row hk, zu_row hk, zu_row hk, zu_row hk, zu_row hk, zu_row hk]⟩
    all_goals simp (disch := first | omega | decide | assumption) only [zu_same, zu_ne1, zu_ne2, zu_row, pl_bd, pl_pt, pl_let, zn_set, zn_get, zn_rd, zn_wr, zn_1, zn_m, Nat.reduceAdd]
  have fg : ∀ (y : Int32) (s : zS), ∃ s2, mX0_forget y s = some (0, s2) ∧ s2 59 7 = y ∧ s2 59 5 = 0 ∧ s2 59 6 = 0 ∧ s2 59 8 = 0 ∧ s2 59 9 = 0 ∧ ∀ k, ¬ k = 59 → s2 k = s k := fun y s => by
    refine ⟨zu (zu (zu (zu (zu s 59 7 y) 59 5 0) 59 6 0) 59 8 0) 59 9 0, ?_, ?_, ?_, ?_, ?_, ?_, fun k hk => by rw [zu_row hk, zu_row hk, zu_row hk, zu_row hk, zu_row hk]⟩
    · unfold mX0_forget
      rw [pl_pt, pl_pt, pl_pt, pl_pt, pl_pt]
    all_goals simp (disch := first | omega | decide | assumption) only [zu_same, zu_ne1, zu_ne2, zu_row, pl_bd, pl_pt, pl_let, zn_set, zn_get, zn_rd, zn_wr, zn_1, zn_m, Nat.reduceAdd]
  obtain ⟨tc, c1, c2, c3, c4, c5, c6, c7⟩ := fg 1 tb
  have f4 : mX4_forget t = some (0, tc) := by
    unfold mX4_forget mX8_forget
    rw [pl_pt, pl_pt, pl_pt, pl_pt, pl_pt, ← ea, pl_pt, pl_pt, pl_pt, pl_pt, pl_pt, pl_pt, pl_pt, pl_pt, ← eb, pl_bd, c1, pl_bd]
  obtain ⟨td, d1, d2, d3, d4, d5, d6, d7⟩ := fg x1 tc
  have rd : ∀ k, ¬ (k = 7 ∨ k = 59 ∨ k = 60) → td k = t k := fun k hk => by rw [d7 k (by omega), c7 k (by omega), b9 k (by omega), a8 k (by omega)]
  have r7 : td 7 = ta 7 := by rw [d7 7 (by decide), c7 7 (by decide), b9 7 (by decide)]
  have r60 : td 60 = tb 60 := by rw [d7 60 (by decide), c7 60 (by decide)]
  obtain ⟨tB, eB⟩ : ∃ tB, tB = zu td 7 15 x2 := ⟨_, rfl⟩
  have rB : ∀ k, ¬ k = 7 → tB k = td k := fun k hk => by rw [eB, zu_row hk]
  have rB7 : ∀ j, ¬ j = 15 → tB 7 j = ta 7 j := fun j hj => by rw [eB, zu_ne2 hj, r7]
  have cells : ∀ s : zS, s 39 = t 39 → mX4_cellsOf (Int32.ofNat xn) s = some (Int32.ofNat (4 + nx), s) := fun s hs => by
    unfold mX4_cellsOf
    rw [zn_get (by omega) (by decide), pl_bd, hs, h39, show (4 : Int32) + Int32.ofNat nx = Int32.ofNat (4 + nx) from zn_add 4 _]
  refine ⟨tB, ?_, by rw [rB7 16 (by decide)]; exact a1, by rw [rB7 10 (by decide)]; exact a2, by rw [rB7 11 (by decide)]; exact a3, by rw [rB7 12 (by decide)]; exact a4, by rw [rB7 14 (by decide)]; exact a5, by rw [eB, zu_same], by rw [rB7 8 (by decide)]; exact a6, by rw [rB7 9 (by decide)]; exact a7, by rw [rB 60 (by decide), r60]; exact b1, by rw [rB 60 (by decide), r60]; exact b2, by rw [rB 60 (by decide), r60]; exact b3, by rw [rB 60 (by decide), r60]; exact b4, by rw [rB 60 (by decide), r60]; exact b5, by rw [rB 60 (by decide), r60]; exact b6, by rw [rB 60 (by decide), r60]; exact b7, by rw [rB 60 (by decide), r60]; exact b8, by rw [rB 59 (by decide)]; exact d2, by rw [rB 59 (by decide)]; exact d3, by rw [rB 59 (by decide)]; exact d4, by rw [rB 59 (by decide)]; exact d5, by rw [rB 59 (by decide)]; exact d6, fun k hk => by rw [rB k (by omega)]; exact rd k hk⟩
  have e39 : tB 39 = t 39 := by rw [rB 39 (by decide), rd 39 (by decide)]
  unfold mX4_begin mX6_find
  rw [f4, pl_bd, d1, pl_bd, pl_pt, ← eB, show (17 : Int32) = Int32.ofNat 17 from rfl, zn_get (show 17 < 1600 by decide) (by decide), pl_bd, pl_bd, rB (32 + 1) (by decide), rd (32 + 1) (by decide), h33, cells tB e39, pl_bd, show tB 7 15 = x2 by rw [eB, zu_same]]
  by_cases c : Int32.ofNat (4 + nx) ≤ x2
  · rw [if_pos c, if_pos c, cells tB e39, pl_bd, pl_pt, zn_get (by omega) (by decide), pl_bd, zu_ne1 (by decide), e39, h39, zn_get (by omega) (by decide), pl_bd, zu_ne1 (by decide), rB (40 + 1) (by decide), rd (40 + 1) (by decide)]
  · rw [if_neg c, if_neg c, pl_pt, zu_same]
theorem pl_startM {u : zS} {xn nx : Nat} (h57 : ¬ u 0 57 = 0) (h62 : u 0 62 = Int32.ofNat xn) (hown : ∀ v : zS, v 31 = u 31 → mX12_ownMany (Int32.ofNat xn) v = some (Int32.ofNat nx, v)) : ∃ uB, mX12_start u = (if Int32.ofNat (4 + nx) ≤ u 0 76 then zbd (mX12_newProcess (Int32.ofNat xn) uB) fun r4875 t4876 => some (0, t4876) else some (4, zu uB 0 72 4)) ∧ uB 0 71 = 1 ∧ uB 0 73 = u 0 75 ∧ uB 0 74 = u 0 76 ∧ uB 0 72 = 0 ∧ (∀ j, (j = 77 ∨ j = 78 ∨ j = 79 ∨ j = 80 ∨ j = 81 ∨ j = 85 ∨ j = 86 ∨ j = 88 ∨ j = 105 ∨ j = 94 ∨ j = 97 ∨ j = 98 ∨ j = 100 ∨ j = 101) → uB 0 j = 0) ∧ (∀ j, (j ≤ 70 ∨ j = 75 ∨ j = 76 ∨ j = 83) → uB 0 j = u 0 j) ∧ ∀ k, ¬ k = 0 → uB k = u k := by
  obtain ⟨ua, ea⟩ : ∃ ua, ua = zu (zu (zu (zu u 0 71 1) 0 73 (u 0 75)) 0 74 (u 0 76)) 0 72 0 := ⟨_, rfl⟩
  obtain ⟨ub, eb⟩ : ∃ ub, ub = zu (zu (zu (zu (zu (zu (zu ua 0 77 0) 0 78 0) 0 79 0) 0 80 0) 0 81 0) 0 85 0) 0 86 0 := ⟨_, rfl⟩
  obtain ⟨uc, ec⟩ : ∃ uc, uc = zu (zu (zu (zu (zu (zu (zu ub 0 88 0) 0 105 0) 0 94 0) 0 97 0) 0 98 0) 0 100 0) 0 101 0 := ⟨_, rfl⟩
  have rc : ∀ j, ¬ (j = 88 ∨ j = 105 ∨ j = 94 ∨ j = 97 ∨ j = 98 ∨ j = 100 ∨ j = 101) → uc 0 j = ub 0 j := fun j hj => by rw [ec, zu_ne2 (by omega), zu_ne2 (by omega), zu_ne2 (by omega), zu_ne2 (by omega), zu_ne2 (by omega), zu_ne2 (by omega), zu_ne2 (by omega)]
  have rb : ∀ j, ¬ (j = 77 ∨ j = 78 ∨ j = 79 ∨ j = 80 ∨ j = 81 ∨ j = 85 ∨ j = 86) → ub 0 j = ua 0 j := fun j hj => by rw [eb, zu_ne2 (by omega), zu_ne2 (by omega), zu_ne2 (by omega), zu_ne2 (by omega), zu_ne2 (by omega), zu_ne2 (by omega), zu_ne2 (by omega)]
  have ra : ∀ j, ¬ (j = 71 ∨ j = 72 ∨ j = 73 ∨ j = 74) → ua 0 j = u 0 j := fun j hj => by rw [ea, zu_ne2 (by omega), zu_ne2 (by omega), zu_ne2 (by omega), zu_ne2 (by omega)]
  have rk : ∀ k, ¬ k = 0 → uc k = u k := fun k hk => by rw [ec, zu_row hk, zu_row hk, zu_row hk, zu_row hk, zu_row hk, zu_row hk, zu_row hk, eb, zu_row hk, zu_row hk, zu_row hk, zu_row hk, zu_row hk, zu_row hk, zu_row hk, ea, zu_row hk, zu_row hk, zu_row hk, zu_row hk]
  have u73 : uc 0 73 = u 0 75 := by rw [rc 73 (by decide), rb 73 (by decide), ea]; simp (disch := first | omega | decide | assumption) only [zu_same, zu_ne1, zu_ne2, zu_row, pl_bd, pl_pt, pl_let, zn_set, zn_get, zn_rd, zn_wr, zn_1, zn_m, Nat.reduceAdd]
  have u74 : uc 0 74 = u 0 76 := by rw [rc 74 (by decide), rb 74 (by decide), ea]; simp (disch := first | omega | decide | assumption) only [zu_same, zu_ne1, zu_ne2, zu_row, pl_bd, pl_pt, pl_let, zn_set, zn_get, zn_rd, zn_wr, zn_1, zn_m, Nat.reduceAdd]
  refine ⟨uc, ?_, by rw [rc 71 (by decide), rb 71 (by decide), ea]; simp (disch := first | omega | decide | assumption) only [zu_same, zu_ne1, zu_ne2, zu_row, pl_bd, pl_pt, pl_let, zn_set, zn_get, zn_rd, zn_wr, zn_1, zn_m, Nat.reduceAdd], u73, u74, by rw [rc 72 (by decide), rb 72 (by decide), ea]; simp (disch := first | omega | decide | assumption) only [zu_same, zu_ne1, zu_ne2, zu_row, pl_bd, pl_pt, pl_let, zn_set, zn_get, zn_rd, zn_wr, zn_1, zn_m, Nat.reduceAdd], fun j hj => ?_, fun j hj => by rw [rc j (by omega), rb j (by omega), ra j (by omega)], rk⟩
  · unfold mX12_start mX12_processCells
    have x75 : zu u 0 71 1 0 75 = u 0 75 := zu_ne2 (by decide)
    have x76 : zu (zu u 0 71 1) 0 73 (u 0 75) 0 76 = u 0 76 := by rw [zu_ne2 (by decide), zu_ne2 (by decide)]
    have e62 : uc 0 62 = Int32.ofNat xn := by rw [rc 62 (by decide), rb 62 (by decide), ra 62 (by decide)]; exact h62
    rw [if_neg h57, pl_pt, pl_pt, x75, pl_pt, x76, pl_pt, ← ea, pl_pt, pl_pt, pl_pt, pl_pt, pl_pt, pl_pt, pl_pt, ← eb, pl_pt, pl_pt, pl_pt, pl_pt, pl_pt, pl_pt, pl_pt, ← ec, e62, hown uc (rk 31 (by decide)), pl_bd, pl_bd, show (4 : Int32) + Int32.ofNat nx = Int32.ofNat (4 + nx) from zn_add 4 _, u74, e62]
    by_cases c : Int32.ofNat (4 + nx) ≤ u 0 76
    · rw [if_pos c, if_pos c]
    · rw [if_neg c, if_neg c, pl_pt]
  · by_cases c : j = 88 ∨ j = 105 ∨ j = 94 ∨ j = 97 ∨ j = 98 ∨ j = 100 ∨ j = 101
    · rcases c with c | c | c | c | c | c | c <;> subst c <;> rw [ec] <;> simp (disch := first | omega | decide | assumption) only [zu_same, zu_ne1, zu_ne2, zu_row, pl_bd, pl_pt, pl_let, zn_set, zn_get, zn_rd, zn_wr, zn_1, zn_m, Nat.reduceAdd]
    · rw [rc j c]
      have c2 : j = 77 ∨ j = 78 ∨ j = 79 ∨ j = 80 ∨ j = 81 ∨ j = 85 ∨ j = 86 := by omega
      rcases c2 with c | c | c | c | c | c | c <;> subst c <;> rw [eb] <;> simp (disch := first | omega | decide | assumption) only [zu_same, zu_ne1, zu_ne2, zu_row, pl_bd, pl_pt, pl_let, zn_set, zn_get, zn_rd, zn_wr, zn_1, zn_m, Nat.reduceAdd]
