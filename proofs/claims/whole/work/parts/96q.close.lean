/-! the reference: processes move together -/
def zcdM (u : zS) (b to j : Nat) : zS := fun k i => if (k = 52 ∨ k = 53) ∧ to ≤ i ∧ i < to + j then u k (b + (i - to)) else u k i
theorem zcdM_row {u : zS} {b to j k : Nat} (h : ¬ (k = 52 ∨ k = 53)) : zcdM u b to j k = u k := by
  funext i; unfold zcdM; rw [if_neg (fun w => h w.1)]
theorem zcdM_in {u : zS} {b to j k i : Nat} (h : k = 52 ∨ k = 53) (hi : i < j) : zcdM u b to j k (to + i) = u k (b + i) := by
  unfold zcdM; rw [if_pos ⟨h, by omega, by omega⟩, show to + i - to = i by omega]
theorem zcdM_out {u : zS} {b to j k i : Nat} (h : i < to ∨ to + j ≤ i) : zcdM u b to j k i = u k i := by
  unfold zcdM; rw [if_neg (by omega)]
theorem zcdM_0 {u : zS} {b to : Nat} : zcdM u b to 0 = u := by
  funext k i; exact zcdM_out (by omega)
theorem zcdM_step {u : zS} {b to j : Nat} : zu (zu (zcdM u b to j) 52 (to + j) (u 52 (b + j))) 53 (to + j) (u 53 (b + j)) = zcdM u b to (j + 1) := by
  funext k i
  by_cases e : i = to + j
  · subst e
    by_cases k1 : k = 53
    · subst k1; rw [zu_same, zcdM_in (Or.inr rfl) (by omega)]
    · rw [zu_ne1 k1]
      by_cases k2 : k = 52
      · subst k2; rw [zu_same, zcdM_in (Or.inl rfl) (by omega)]
      · rw [zu_ne1 k2, zcdM_row (by omega), zcdM_row (by omega)]
  · rw [zu_ne2 e, zu_ne2 e]
    unfold zcdM
    by_cases c : (k = 52 ∨ k = 53) ∧ to ≤ i ∧ i < to + j
    · rw [if_pos c, if_pos ⟨c.1, c.2.1, by omega⟩]
    · rw [if_neg c, if_neg (fun w => c ⟨w.1, w.2.1, by omega⟩)]
/-- the copying of one process -/
theorem pl_close122 {k4 : Int32 → Int32 → zS → zR} {to x2 p b many : Nat} {u : zS} (hp : p < 2600) (h51 : u 51 p = Int32.ofNat b) (hto : to ≤ b) (hb : b + many ≤ 24000) : ∀ (d j fu : Nat), j + d = many → lX12_close_122 k4 (fu + d + 1) (Int32.ofNat to) (Int32.ofNat x2) (Int32.ofNat p) (Int32.ofNat many) (Int32.ofNat j) (zcdM u b to j) = k4 (Int32.ofNat (to + many)) (Int32.ofNat (x2 + 1)) (zu (zcdM u b to many) 51 p (Int32.ofNat to)) := by
  intro d
  induction d with
  | zero =>
    intro j fu hj
    have : j = many := by omega
    subst this
    show bX12_close_122 k4 _ _ _ _ _ _ _ = _
    unfold bX12_close_122
    rw [if_pos (Int32.le_refl _), zn_wr hp (by decide), pl_let, pl_let, zn_add, zn_1]
  | succ d ih =>
    intro j fu hj
    rw [← ih (j + 1) fu (by omega)]
    show bX12_close_122 k4 (lX12_close_122 k4 (fu + d + 1)) _ _ _ _ _ _ = _
    unfold bX12_close_122
    have e51 : ∀ v : zS, v 51 = u 51 → zrd v 51 2600 (Int32.ofNat p) = fun F => F (Int32.ofNat b) := fun v e => by funext F; rw [zn_rd hp (by decide), e, h51]
    rw [if_neg (fun w => by have := (zn_le (by omega) (by omega)).mp w; omega), e51 _ (zcdM_row (by decide))]
    show zrd (zcdM u b to j) 52 24000 (Int32.ofNat b + Int32.ofNat j) _ = _
    rw [zn_add, zn_add, zn_rd (by omega) (by decide), zcdM_out (by omega), zn_wr (by omega) (by decide), e51 _ (by rw [zu_row (by decide), zcdM_row (by decide)])]
    show zrd _ 53 24000 (Int32.ofNat b + Int32.ofNat j) _ = _
    rw [zn_add, zn_rd (by omega) (by decide), zu_ne1 (by decide), zcdM_out (by omega), zn_wr (by omega) (by decide), zcdM_step, pl_let, zn_1]
/-- what the reference sees of the ring while it moves -/
def zRgM (m : Nat) (R no : Nat → Nat) (u : zS) : Prop := u 0 85 = Int32.ofNat m ∧ m ≤ 2500 ∧ (∀ i, i < m → u 46 i = Int32.ofNat (R i) ∧ R i < 2501) ∧ (∀ i j, i < m → j < m → R i = R j → i = j) ∧ ∀ i, i < m → ∃ q b, u 48 (R i) = Int32.ofNat q ∧ q < 300 ∧ u 31 q = Int32.ofNat b ∧ u 31 (q + 1) = Int32.ofNat (b + no (R i)) ∧ b + no (R i) ≤ 3000
theorem zRgM_own {m i : Nat} {R no : Nat → Nat} {u : zS} (h : zRgM m R no u) (hi : i < m) : ∀ v : zS, v 48 = u 48 → v 31 = u 31 → ∀ F : Int32 → zS → zR, (zrd v 48 2600 (Int32.ofNat (R i)) fun x => zbd (mX12_ownMany x v) F) = F (Int32.ofNat (no (R i))) v := fun v h1 h2 F => by
  obtain ⟨_, _, h3, _, h5⟩ := h
  obtain ⟨q, b, c1, c2, c3, c4, c5⟩ := h5 i hi
  have := (h3 i hi).2
  rw [zn_rd (by omega) (by decide), h1, c1, pl_own (by omega) (by rw [h2]; exact c3) (by rw [h2]; exact c4) (by omega), pl_bd]
/-- the one that lies lowest of those not yet moved -/
theorem pl_close17 {k4 : Int32 → Int32 → zS → zR} {m to x2 : Nat} {R no B : Nat → Nat} {ok : Nat → Prop} {u : zS} (h : zRgM m R no u) (hto : to ≤ 24000) (hB : ∀ i, i < m → (ok i ∧ u 51 (R i) = Int32.ofNat (B i) ∧ B i ≤ 24000) ∨ (¬ ok i ∧ u 51 (R i) = -1)) : ∀ (d k fu : Nat) (best : Int32), k + d = m → ((best = -1 ∧ ∀ i, i < k → ok i → 0 < no (R i) → B i < to) ∨ ∃ i0, i0 < k ∧ best = Int32.ofNat (R i0) ∧ ok i0 ∧ 0 < no (R i0) ∧ to ≤ B i0 ∧ ∀ i, i < k → ok i → 0 < no (R i) → to ≤ B i → B i0 ≤ B i) →
    (lX12_close_17 k4 (fu + d + 1) (Int32.ofNat to) (Int32.ofNat x2) best (Int32.ofNat k) u = bX12_close_199 (Int32.ofNat to) u ∧ ∀ i, i < m → ok i → 0 < no (R i) → B i < to) ∨ ∃ i0, i0 < m ∧ ok i0 ∧ 0 < no (R i0) ∧ to ≤ B i0 ∧ (∀ i, i < m → ok i → 0 < no (R i) → to ≤ B i → B i0 ≤ B i) ∧ lX12_close_17 k4 (fu + d + 1) (Int32.ofNat to) (Int32.ofNat x2) best (Int32.ofNat k) u = lX12_close_122 k4 zFU (Int32.ofNat to) (Int32.ofNat x2) (Int32.ofNat (R i0)) (Int32.ofNat (no (R i0))) 0 u := by
  have h0 := h
  obtain ⟨h1, h2, h3, h4, h5⟩ := h
  intro d
  induction d with
  | zero =>
    intro k fu best hk hb
    have : k = m := by omega
    subst this
    rcases hb with ⟨b1, b2⟩ | ⟨i0, b1, b2, b3, b4, b5, b6⟩
    · left
      refine ⟨?_, b2⟩
      show bX12_close_17 k4 _ _ _ _ _ u = _
      unfold bX12_close_17
      rw [h1, if_pos (Int32.le_refl _), b1, if_neg (by decide)]
    · right
      refine ⟨i0, b1, b3, b4, b5, b6, ?_⟩
      have := (h3 i0 b1).2
      show bX12_close_17 k4 _ _ _ _ _ u = _
      unfold bX12_close_17
      rw [h1, if_pos (Int32.le_refl _), b2, if_pos (zn_0le (by omega)), zRgM_own h0 b1 u rfl rfl]
  | succ d ih =>
    intro k fu best hk hb
    have hkm : k < m := by omega
    obtain ⟨g1, g2⟩ := h3 k hkm
    have nle : ¬ u 0 85 ≤ Int32.ofNat k := by rw [h1, zn_le (by omega) (by omega)]; omega
    have r46 : ∀ F : Int32 → zR, zrd u 46 2600 (Int32.ofNat k) F = F (Int32.ofNat (R k)) := fun F => by rw [zn_rd (by omega) (by decide), g1]
    have nx : ∀ bst : Int32, bX12_close_94 k4 (lX12_close_17 k4 (fu + d + 1)) (Int32.ofNat to) (Int32.ofNat x2) bst (Int32.ofNat k) u = lX12_close_17 k4 (fu + d + 1) (Int32.ofNat to) (Int32.ofNat x2) bst (Int32.ofNat (k + 1)) u := fun bst => by
      unfold bX12_close_94; rw [pl_let, zn_1]
    have t86 : bX12_close_86 k4 (lX12_close_17 k4 (fu + d + 1)) (Int32.ofNat to) (Int32.ofNat x2) (Int32.ofNat k) u = lX12_close_17 k4 (fu + d + 1) (Int32.ofNat to) (Int32.ofNat x2) (Int32.ofNat (R k)) (Int32.ofNat (k + 1)) u := by
      unfold bX12_close_86; rw [r46, nx]
    have stp : lX12_close_17 k4 (fu + (d + 1) + 1) (Int32.ofNat to) (Int32.ofNat x2) best (Int32.ofNat k) u = if Int32.ofNat (no (R k)) ≤ 0 then lX12_close_17 k4 (fu + d + 1) (Int32.ofNat to) (Int32.ofNat x2) best (Int32.ofNat (k + 1)) u else if u 51 (R k) < Int32.ofNat to then lX12_close_17 k4 (fu + d + 1) (Int32.ofNat to) (Int32.ofNat x2) best (Int32.ofNat (k + 1)) u else if best < 0 then lX12_close_17 k4 (fu + d + 1) (Int32.ofNat to) (Int32.ofNat x2) (Int32.ofNat (R k)) (Int32.ofNat (k + 1)) u else zrd u 51 2600 best fun v4310 => if v4310 ≤ u 51 (R k) then lX12_close_17 k4 (fu + d + 1) (Int32.ofNat to) (Int32.ofNat x2) best (Int32.ofNat (k + 1)) u else lX12_close_17 k4 (fu + d + 1) (Int32.ofNat to) (Int32.ofNat x2) (Int32.ofNat (R k)) (Int32.ofNat (k + 1)) u := by
      show bX12_close_17 k4 (lX12_close_17 k4 (fu + d + 1)) _ _ _ _ u = _
      unfold bX12_close_17
      rw [if_neg nle, r46, zRgM_own h0 hkm u rfl rfl, nx, t86]
      have r51 : ∀ F : Int32 → zR, zrd u 51 2600 (Int32.ofNat (R k)) F = F (u 51 (R k)) := fun F => zn_rd (by omega) (by decide)
      simp only [r46, r51]
    have keep : (∀ i0 : Nat, True) → ¬ (ok k ∧ 0 < no (R k) ∧ to ≤ B k) → ((best = -1 ∧ ∀ i, i < k + 1 → ok i → 0 < no (R i) → B i < to) ∨ ∃ i0, i0 < k + 1 ∧ best = Int32.ofNat (R i0) ∧ ok i0 ∧ 0 < no (R i0) ∧ to ≤ B i0 ∧ ∀ i, i < k + 1 → ok i → 0 < no (R i) → to ≤ B i → B i0 ≤ B i) := fun _ hn => by
      rcases hb with ⟨b1, b2⟩ | ⟨i0, b1, b2, b3, b4, b5, b6⟩
      · refine Or.inl ⟨b1, fun i hi c1 c2 => ?_⟩
        by_cases e : i = k
        · subst e; exact Nat.lt_of_not_le (fun w => hn ⟨c1, c2, w⟩)
        · exact b2 i (by omega) c1 c2
      · refine Or.inr ⟨i0, by omega, b2, b3, b4, b5, fun i hi c1 c2 c3 => ?_⟩
        by_cases e : i = k
        · subst e; exact absurd ⟨c1, c2, c3⟩ hn
        · exact b6 i (by omega) c1 c2 c3
    rw [stp]
    by_cases c1 : no (R k) = 0
    · rw [c1, if_pos (by decide)]
      exact ih (k + 1) fu best (by omega) (keep (fun _ => trivial) (fun w => by omega))
    · obtain ⟨_, _, _, _, _, _, bq⟩ := h5 k hkm
      rw [if_neg (show ¬ Int32.ofNat (no (R k)) ≤ 0 from fun w => by have := (zn_le (b := 0) (by omega) (by decide)).mp w; omega)]
      rcases hB k hkm with ⟨o1, o2, o3⟩ | ⟨o1, o2⟩
      · by_cases c2 : B k < to
        · rw [o2, if_pos ((zn_lt (by omega) (by omega)).mpr c2)]
          exact ih (k + 1) fu best (by omega) (keep (fun _ => trivial) (fun w => by omega))
        · rw [o2, if_neg (fun w => c2 ((zn_lt (by omega) (by omega)).mp w))]
          rcases hb with ⟨b1, b2⟩ | ⟨i0, b1, b2, b3, b4, b5, b6⟩
          · rw [b1, if_pos (by decide)]
            refine ih (k + 1) fu _ (by omega) (Or.inr ⟨k, by omega, rfl, o1, by omega, by omega, fun i hi q1 q2 q3 => ?_⟩)
            by_cases e : i = k
            · subst e; exact Nat.le_refl _
            · have := b2 i (by omega) q1 q2; omega
          · have hR0 := (h3 i0 (by omega)).2
            rcases hB i0 (by omega) with ⟨p1, p2, p3⟩ | ⟨p1, _⟩
            · rw [b2, if_neg (zn_neg (by omega)), zn_rd (by omega) (by decide), p2]
              by_cases c3 : B i0 ≤ B k
              · rw [if_pos ((zn_le (by omega) (by omega)).mpr c3)]
                refine ih (k + 1) fu _ (by omega) (Or.inr ⟨i0, by omega, rfl, b3, b4, b5, fun i hi q1 q2 q3 => ?_⟩)
                by_cases e : i = k
                · subst e; exact c3
                · exact b6 i (by omega) q1 q2 q3
              · rw [if_neg (fun w => c3 ((zn_le (by omega) (by omega)).mp w))]
                refine ih (k + 1) fu _ (by omega) (Or.inr ⟨k, by omega, rfl, o1, by omega, by omega, fun i hi q1 q2 q3 => ?_⟩)
                by_cases e : i = k
                · subst e; exact Nat.le_refl _
                · have := b6 i (by omega) q1 q2 q3; omega
            · exact absurd b3 p1
      · rw [o2, if_pos (show (-1 : Int32) < Int32.ofNat to by
          have e1 : (-1 : Int32).toInt = -1 := by decide
          rw [pl_lt, e1, pl_ofn (by omega)]; omega)]
        exact ih (k + 1) fu best (by omega) (keep (fun _ => trivial) (fun w => o1 w.1))
