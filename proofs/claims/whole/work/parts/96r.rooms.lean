/-! the reference: room for a process -/
theorem zCloseR {m q0 : Nat} {R n no : Nat → Nat} {num H u : zS} (hg : zRgM m R no u) (h : zMR (fun p => zIn m R p ∧ ¬ p = q0) n num H u) (hno : ∀ i, i < m → ¬ R i = q0 → no (R i) = n (R i)) (hq : ∀ i, i < m → R i = q0 → u 51 q0 = -1) (hs : zSs (fun i => if R i = q0 then 0 else n (R i)) m ≤ 24000) :
    ∃ u2, mX12_close u = some (0, u2) ∧ zMR (fun p => zIn m R p ∧ ¬ p = q0) n num H u2 ∧ (∃ us, u2 0 94 = Int32.ofNat us ∧ us ≤ zSs (fun i => if R i = q0 then 0 else n (R i)) m) ∧ (∀ r, ¬ (r = 0 ∨ r = 51 ∨ r = 52 ∨ r = 53) → u2 r = u r) ∧ ∀ j, ¬ j = 94 → u2 0 j = u 0 j := by
  obtain ⟨us, B, a3, a4, a5, a6⟩ := h
  obtain ⟨tot, et⟩ : ∃ tot, tot = zSs (fun i => if R i = q0 then 0 else n (R i)) m := ⟨_, rfl⟩
  rw [← et] at hs ⊢
  have hR : ∀ i, i < m → R i < 2501 := fun i hi => (hg.2.2.1 i hi).2
  have hm := hg.2.1
  have hi := hg.2.2.2.1
  have loop : ∀ (d x fu to : Nat) (u1 : zS) (B1 : Nat → Nat), x + d = m → (∀ r, ¬ (r = 51 ∨ r = 52 ∨ r = 53) → u1 r = u r) → u1 51 q0 = u 51 q0 → (∀ i, i < m → ¬ R i = q0 → (u1 51 (R i) = Int32.ofNat (B1 (R i)) ∧ (n (R i) = 0 → B1 (R i) = 0)) ∧ (∀ k, k < n (R i) → u1 52 (B1 (R i) + k) = num (R i) k ∧ u1 53 (B1 (R i) + k) = H (R i) k) ∧ B1 (R i) + n (R i) ≤ 24000 ∧ (0 < n (R i) → to ≤ B1 (R i) ∨ B1 (R i) + n (R i) ≤ to)) → (∀ p p', (zIn m R p ∧ ¬ p = q0) → (zIn m R p' ∧ ¬ p' = q0) → ¬ p = p' → B1 p + n p ≤ B1 p' ∨ B1 p' + n p' ≤ B1 p) → to + zSs (fun i => if R i = q0 then 0 else if to ≤ B1 (R i) then n (R i) else 0) m = tot → x + zSs (fun i => if R i = q0 then 0 else if to ≤ B1 (R i) ∧ 0 < n (R i) then 1 else 0) m ≤ m →
      ∃ u2, lX12_close_4 (fu + d + 1) (Int32.ofNat to) (Int32.ofNat x) u1 = some (0, u2) ∧ zMR (fun p => zIn m R p ∧ ¬ p = q0) n num H u2 ∧ (∃ us, u2 0 94 = Int32.ofNat us ∧ us ≤ tot) ∧ (∀ r, ¬ (r = 0 ∨ r = 51 ∨ r = 52 ∨ r = 53) → u2 r = u r) ∧ ∀ j, ¬ j = 94 → u2 0 j = u 0 j := by
    intro d
    induction d with
    | zero =>
      intro x fu to u1 B1 hx f1 fq c1 c2 c3 c4
      have hall : ∀ i, i < m → ¬ R i = q0 → 0 < n (R i) → B1 (R i) < to := fun i h1 h2 h3 => by
        have z := zSs_at (f := fun i => if R i = q0 then 0 else if to ≤ B1 (R i) ∧ 0 < n (R i) then 1 else 0) h1
        by_cases w : to ≤ B1 (R i)
        · have z2 : (if R i = q0 then 0 else if to ≤ B1 (R i) ∧ 0 < n (R i) then 1 else 0) = 1 := by rw [if_neg h2, if_pos ⟨w, h3⟩]
          have z3 : zSs (fun i => if R i = q0 then 0 else if to ≤ B1 (R i) ∧ 0 < n (R i) then 1 else 0) i + (if R i = q0 then 0 else if to ≤ B1 (R i) ∧ 0 < n (R i) then 1 else 0) ≤ zSs (fun i => if R i = q0 then 0 else if to ≤ B1 (R i) ∧ 0 < n (R i) then 1 else 0) m := z
          rw [z2] at z3
          omega
        · omega
      refine ⟨zu u1 0 94 (Int32.ofNat to), ?_, ⟨to, B1, zu_same _ _ _ _, by omega, fun p ⟨⟨i, i1, i2⟩, hp⟩ => ?_, c2⟩, ⟨to, zu_same _ _ _ _, by omega⟩, fun r hr => by rw [zu_row (by omega)]; exact f1 r (by omega), fun j hj => by rw [zu_ne2 hj, f1 0 (by decide)]⟩
      · show bX12_close_4 _ _ _ u1 = _
        unfold bX12_close_4 bX12_close_199
        rw [f1 0 (by decide), hg.1, if_pos ((zn_le (by omega) (by omega)).mpr (by omega)), pl_pt]
      · subst i2
        obtain ⟨b1, b2, b3, b4⟩ := c1 i i1 hp
        rw [zu_row (by decide), zu_row (by decide), zu_row (by decide)]
        refine ⟨b1, ?_, b2⟩
        by_cases z : n (R i) = 0
        · rw [z, b1.2 z]; omega
        · have := hall i i1 hp (by omega)
          rcases b4 (by omega) with q | q <;> omega
    | succ d ih =>
      intro x fu to u1 B1 hx f1 fq c1 c2 c3 c4
      have hto : to ≤ 24000 := by omega
      have hg1 : zRgM m R no u1 := by
        unfold zRgM at *
        rw [f1 0 (by decide), f1 46 (by decide), f1 48 (by decide), f1 31 (by decide)]
        exact hg
      have pick := pl_close17 (k4 := lX12_close_4 (fu + d + 1)) (x2 := x) (B := fun i => B1 (R i)) (ok := fun i => ¬ R i = q0) hg1 hto (fun i h1 => by
        by_cases e : R i = q0
        · exact Or.inr ⟨fun w => w e, by rw [e, fq]; exact hq i h1 e⟩
        · obtain ⟨b1, b2, b3, b4⟩ := c1 i h1 e
          exact Or.inl ⟨e, b1.1, by omega⟩) m 0 (zFU - m - 1) (-1) (by omega) (Or.inl ⟨rfl, fun i h1 => absurd h1 (Nat.not_lt_zero _)⟩)
      rw [show zFU - m - 1 + m + 1 = zFU by unfold zFU; omega, show Int32.ofNat 0 = 0 from rfl] at pick
      have stp : lX12_close_4 (fu + (d + 1) + 1) (Int32.ofNat to) (Int32.ofNat x) u1 = lX12_close_17 (lX12_close_4 (fu + d + 1)) zFU (Int32.ofNat to) (Int32.ofNat x) (-1) 0 u1 := by
        show bX12_close_4 (lX12_close_4 (fu + d + 1)) _ _ u1 = _
        unfold bX12_close_4
        rw [f1 0 (by decide), hg.1, if_neg (fun w => by have := (zn_le (by omega) (by omega)).mp w; omega)]
      rw [stp]
      rcases pick with ⟨p1, p2⟩ | ⟨i0, p1, p2, p3, p4, p5, p6⟩
      · rw [p1]
        refine ⟨zu u1 0 94 (Int32.ofNat to), ?_, ⟨to, B1, zu_same _ _ _ _, by omega, fun p ⟨⟨i, i1, i2⟩, hp⟩ => ?_, c2⟩, ⟨to, zu_same _ _ _ _, by omega⟩, fun r hr => by rw [zu_row (by omega)]; exact f1 r (by omega), fun j hj => by rw [zu_ne2 hj, f1 0 (by decide)]⟩
        · unfold bX12_close_199
          rw [pl_pt]
        · subst i2
          obtain ⟨b1, b2, b3, b4⟩ := c1 i i1 hp
          rw [zu_row (by decide), zu_row (by decide), zu_row (by decide)]
          refine ⟨b1, ?_, b2⟩
          by_cases z : n (R i) = 0
          · rw [z, b1.2 z]; omega
          · have := p2 i i1 hp (by rw [hno i i1 hp]; omega)
            rcases b4 (by omega) with q | q <;> omega
      · have en := hno i0 p1 p2
        rw [en] at p3 p6
        obtain ⟨b1, b2, b3, b4⟩ := c1 i0 p1 p2
        obtain ⟨b, eb⟩ : ∃ b, b = B1 (R i0) := ⟨_, rfl⟩
        obtain ⟨n0, en0⟩ : ∃ n0, n0 = n (R i0) := ⟨_, rfl⟩
        rw [← eb, ← en0] at b3
        have p4' : to ≤ b := by rw [eb]; exact p4
        have cp := pl_close122 (k4 := lX12_close_4 (fu + d + 1)) (to := to) (x2 := x) (p := R i0) (b := b) (many := n0) (u := u1) (by have := hR i0 p1; omega) (by rw [eb]; exact b1.1) p4' b3 n0 0 (zFU - n0 - 1) (by omega)
        rw [show zFU - n0 - 1 + n0 + 1 = zFU by unfold zFU; omega, show Int32.ofNat 0 = 0 from rfl, zcdM_0] at cp
        rw [p6, ← en0, cp]
        obtain ⟨u2, e2⟩ : ∃ u2, u2 = zu (zcdM u1 b to n0) 51 (R i0) (Int32.ofNat to) := ⟨_, rfl⟩
        rw [← e2]
        have g2 : ∀ r, ¬ (r = 51 ∨ r = 52 ∨ r = 53) → u2 r = u1 r := fun r hr => by rw [e2, zu_row (by omega), zcdM_row (by omega)]
        have g51 : ∀ p, ¬ p = R i0 → u2 51 p = u1 51 p := fun p hp => by rw [e2, zu_ne2 hp, zcdM_row (by decide)]
        have g5 : ∀ r, (r = 52 ∨ r = 53) → u2 r = zcdM u1 b to n0 r := fun r hr => by rw [e2, zu_row (by omega)]
        have p3' : 0 < n0 := by omega
        -- where the others lie
        have oth : ∀ i, i < m → ¬ R i = q0 → ¬ R i = R i0 → 0 < n (R i) → (to ≤ B1 (R i) → b + n0 ≤ B1 (R i)) := fun i h1 h2 h3 h4 h5 => by
          have mn := p5 i h1 h2 (by rw [hno i h1 h2]; exact h4) h5
          have dj := c2 (R i0) (R i) ⟨⟨i0, p1, rfl⟩, p2⟩ ⟨⟨i, h1, rfl⟩, h2⟩ (fun w => h3 w.symm)
          have mn' : B1 (R i0) ≤ B1 (R i) := mn
          rw [← eb] at mn' dj
          rw [← en0] at dj
          omega
        refine ih (x + 1) fu (to + n0) u2 (fun p => if p = R i0 then to else B1 p) (by omega) (fun r hr => by rw [g2 r hr]; exact f1 r hr) (by rw [g51 q0 (fun w => p2 w.symm)]; exact fq) (fun i h1 h2 => ?_) (fun p p' hp hp' hne => ?_) ?_ ?_
        · by_cases e : R i = R i0
          · simp only [e, ↓reduceIte]
            rw [← en0]
            refine ⟨⟨by rw [e2, zu_same], fun w => by omega⟩, fun k hk => ?_, by omega, fun _ => Or.inr (Nat.le_refl _)⟩
            rw [g5 52 (Or.inl rfl), g5 53 (Or.inr rfl), zcdM_in (Or.inl rfl) hk, zcdM_in (Or.inr rfl) hk, eb]
            exact b2 k (by omega)
          · simp only [if_neg e]
            obtain ⟨d1, d2, d3, d4⟩ := c1 i h1 h2
            refine ⟨⟨by rw [g51 _ e]; exact d1.1, d1.2⟩, fun k hk => ?_, d3, fun w => ?_⟩
            · have far : B1 (R i) + k < to ∨ to + n0 ≤ B1 (R i) + k := by
                rcases d4 (by omega) with q | q
                · have := oth i h1 h2 e (by omega) q; omega
                · omega
              rw [g5 52 (Or.inl rfl), g5 53 (Or.inr rfl), zcdM_out far, zcdM_out far]
              exact d2 k hk
            · rcases d4 w with q | q
              · have := oth i h1 h2 e w q; omega
              · omega
        · have key : ∀ p, (zIn m R p ∧ ¬ p = q0) → ¬ p = R i0 → to + n0 ≤ B1 p ∨ B1 p + n p ≤ to := fun p ⟨⟨i, i1, i2⟩, hp⟩ e => by
            subst i2
            obtain ⟨d1, d2, d3, d4⟩ := c1 i i1 hp
            by_cases z : n (R i) = 0
            · right; rw [z, d1.2 z]; omega
            · rcases d4 (by omega) with q | q
              · have := oth i i1 hp e (by omega) q; omega
              · omega
          by_cases e : p = R i0
          · have e' : ¬ p' = R i0 := fun w => hne (e.trans w.symm)
            simp only [if_pos e, if_neg e']
            rw [e, ← en0]
            exact key p' hp' e'
          · by_cases e' : p' = R i0
            · simp only [if_neg e, if_pos e']
              rw [e', ← en0]
              exact (key p hp e).symm
            · simp only [if_neg e, if_neg e']
              exact c2 p p' hp hp' hne
        · have one := zSs_one (f := fun i => if R i = q0 then 0 else if to + n0 ≤ (if R i = R i0 then to else B1 (R i)) then n (R i) else 0) (g := fun i => if R i = q0 then 0 else if to ≤ B1 (R i) then n (R i) else 0) m p1 (fun j hj hne => by
            show (if R j = q0 then 0 else if to + n0 ≤ (if R j = R i0 then to else B1 (R j)) then n (R j) else 0) = (if R j = q0 then 0 else if to ≤ B1 (R j) then n (R j) else 0)
            have ne : ¬ R j = R i0 := fun w => hne (hi j i0 hj p1 w)
            rw [if_neg ne]
            by_cases c : R j = q0
            · rw [if_pos c, if_pos c]
            · rw [if_neg c, if_neg c]
              by_cases z : n (R j) = 0
              · rw [z]; split <;> split <;> rfl
              · obtain ⟨_, _, _, d4⟩ := c1 j hj c
                by_cases w : to ≤ B1 (R j)
                · have := oth j hj c ne (by omega) w
                  rw [if_pos w, if_pos (by omega)]
                · rw [if_neg w, if_neg (by omega)])
          have v1 : (if R i0 = q0 then 0 else if to ≤ B1 (R i0) then n (R i0) else 0) = n0 := by rw [if_neg p2, if_pos p4, en0]
          have v2 : (if R i0 = q0 then 0 else if to + n0 ≤ (if R i0 = R i0 then to else B1 (R i0)) then n (R i0) else 0) = 0 := by rw [if_neg p2, if_pos rfl, if_neg (by omega)]
          have one' : zSs (fun i => if R i = q0 then 0 else if to + n0 ≤ (if R i = R i0 then to else B1 (R i)) then n (R i) else 0) m + (if R i0 = q0 then 0 else if to ≤ B1 (R i0) then n (R i0) else 0) = zSs (fun i => if R i = q0 then 0 else if to ≤ B1 (R i) then n (R i) else 0) m + (if R i0 = q0 then 0 else if to + n0 ≤ (if R i0 = R i0 then to else B1 (R i0)) then n (R i0) else 0) := one
          rw [v1, v2] at one'
          show to + n0 + zSs (fun i => if R i = q0 then 0 else if to + n0 ≤ (if R i = R i0 then to else B1 (R i)) then n (R i) else 0) m = tot
          omega
        · have one := zSs_one (f := fun i => if R i = q0 then 0 else if to + n0 ≤ (if R i = R i0 then to else B1 (R i)) ∧ 0 < n (R i) then 1 else 0) (g := fun i => if R i = q0 then 0 else if to ≤ B1 (R i) ∧ 0 < n (R i) then 1 else 0) m p1 (fun j hj hne => by
            show (if R j = q0 then 0 else if to + n0 ≤ (if R j = R i0 then to else B1 (R j)) ∧ 0 < n (R j) then 1 else 0) = (if R j = q0 then 0 else if to ≤ B1 (R j) ∧ 0 < n (R j) then 1 else 0)
            have ne : ¬ R j = R i0 := fun w => hne (hi j i0 hj p1 w)
            rw [if_neg ne]
            by_cases c : R j = q0
            · rw [if_pos c, if_pos c]
            · rw [if_neg c, if_neg c]
              by_cases z : 0 < n (R j)
              · obtain ⟨_, _, _, d4⟩ := c1 j hj c
                by_cases w : to ≤ B1 (R j)
                · have := oth j hj c ne z w
                  rw [if_pos ⟨by omega, z⟩, if_pos ⟨w, z⟩]
                · rw [if_neg (fun v => by have := v.1; omega), if_neg (fun v => w v.1)]
              · rw [if_neg (fun v => z v.2), if_neg (fun v => z v.2)])
          have v1 : (if R i0 = q0 then 0 else if to ≤ B1 (R i0) ∧ 0 < n (R i0) then 1 else 0) = 1 := by rw [if_neg p2, if_pos ⟨p4, p3⟩]
          have v2 : (if R i0 = q0 then 0 else if to + n0 ≤ (if R i0 = R i0 then to else B1 (R i0)) ∧ 0 < n (R i0) then 1 else 0) = 0 := by rw [if_neg p2, if_pos rfl, if_neg (fun v => by have := v.1; omega)]
          have one' : zSs (fun i => if R i = q0 then 0 else if to + n0 ≤ (if R i = R i0 then to else B1 (R i)) ∧ 0 < n (R i) then 1 else 0) m + (if R i0 = q0 then 0 else if to ≤ B1 (R i0) ∧ 0 < n (R i0) then 1 else 0) = zSs (fun i => if R i = q0 then 0 else if to ≤ B1 (R i) ∧ 0 < n (R i) then 1 else 0) m + (if R i0 = q0 then 0 else if to + n0 ≤ (if R i0 = R i0 then to else B1 (R i0)) ∧ 0 < n (R i0) then 1 else 0) := one
          rw [v1, v2] at one'
          show x + 1 + zSs (fun i => if R i = q0 then 0 else if to + n0 ≤ (if R i = R i0 then to else B1 (R i)) ∧ 0 < n (R i) then 1 else 0) m ≤ m
          omega
  obtain ⟨u2, z1, z2⟩ := loop m 0 (zFU - m - 1) 0 u B (by omega) (fun _ _ => rfl) rfl (fun i h1 h2 => by
    obtain ⟨b1, b2, b3⟩ := a5 (R i) ⟨⟨i, h1, rfl⟩, h2⟩
    exact ⟨b1, b3, by omega, fun _ => Or.inl (Nat.zero_le _)⟩) a6 (by
    rw [Nat.zero_add, et]
    exact zSs_congr m (fun i h1 => by
      show (if R i = q0 then 0 else if 0 ≤ B (R i) then n (R i) else 0) = (if R i = q0 then 0 else n (R i))
      rw [if_pos (Nat.zero_le _)])) (by
    rw [Nat.zero_add]
    have : ∀ k, zSs (fun i => if R i = q0 then 0 else if 0 ≤ B (R i) ∧ 0 < n (R i) then 1 else 0) k ≤ k := by
      intro k
      induction k with
      | zero => exact Nat.le_refl _
      | succ k ih =>
        show zSs _ k + (if R k = q0 then 0 else if 0 ≤ B (R k) ∧ 0 < n (R k) then 1 else 0) ≤ k + 1
        have : (if R k = q0 then 0 else if 0 ≤ B (R k) ∧ 0 < n (R k) then 1 else 0) ≤ 1 := by
          split
          · omega
          · split <;> omega
        omega
    exact this m)
  rw [show zFU - m - 1 + m + 1 = zFU by unfold zFU; omega, show Int32.ofNat 0 = 0 from rfl] at z1
  exact ⟨u2, z1, z2⟩
