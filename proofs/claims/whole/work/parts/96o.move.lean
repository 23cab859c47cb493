/-! the class: processes move to the other half -/
/-- the ring as the class holds it -/
def zLkC (m : Nat) (R : Nat → Nat) (t : zS) : Prop := t 60 10 = (if m = 0 then -1 else Int32.ofNat (R 0)) ∧ t 60 11 = (if m = 0 then -1 else Int32.ofNat (R (m - 1))) ∧ ∀ i, i < m → t 137 (R i) = (if i + 1 < m then Int32.ofNat (R (i + 1)) else -1) ∧ t 139 (R i) = (if i = 0 then -1 else Int32.ofNat (R (i - 1)))
theorem zcp_in {t : zS} {c a b n k : Nat} (h : k < n) : zcp t c a b n c (b + k) = t c (a + k) := by rw [zcp_mv]; exact zmv_in h
theorem zcp_out {t : zS} {c a b n j : Nat} (h : j < b ∨ b + n ≤ j) : zcp t c a b n c j = t c j := by rw [zcp_mv]; exact zmv_out h
theorem zcp_row {t : zS} {c a b n k : Nat} (h : ¬ k = c) : zcp t c a b n k = t k := by rw [zcp_mv]; exact zmv_row h
theorem zMoveC {m : Nat} {R n : Nat → Nat} {num H t : zS} (h : zMC (zIn m R) n num H t) (hl : zLkC m R t) (hR : ∀ i, i < m → R i < 2501) (hi : ∀ i j, i < m → j < m → R i = R j → i = j) (hm : m ≤ 2500) (hs : zSs (fun i => n (R i)) m ≤ 12000) : ∃ t2, mX8_move t = some (0, t2) ∧ zMC (zIn m R) n num H t2 ∧ t2 60 15 = Int32.ofNat (zSs (fun i => n (R i)) m) ∧ (∀ r, ¬ (r = 60 ∨ r = 133 ∨ r = 143 ∨ r = 145) → t2 r = t r) ∧ ∀ j, ¬ (j = 14 ∨ j = 15) → t2 60 j = t 60 j := by
  obtain ⟨hf, us, B, a1, a2, a3, a4, a5, a6⟩ := h
  obtain ⟨S, eS⟩ : ∃ S : Nat → Nat, S = zSs (fun i => n (R i)) := ⟨_, rfl⟩
  have S1 : ∀ i, S (i + 1) = S i + n (R i) := fun i => by rw [eS]; rfl
  have Sle : ∀ i, i ≤ m → S i ≤ 12000 := fun i hi => by
    have := zSs_le (f := fun i => n (R i)) (m - i) i
    rw [show i + (m - i) = m by omega] at this
    rw [eS]; omega
  have Smo : ∀ i j, i < j → j ≤ m → S i + n (R i) ≤ S j := fun i j h1 h2 => by
    rw [eS]; exact zSs_at h1
  obtain ⟨hg, eg⟩ : ∃ hg, hg = 12000 - hf := ⟨_, rfl⟩
  have hg2 : hg = 0 ∨ hg = 12000 := by omega
  obtain ⟨t0, e0⟩ : ∃ t0, t0 = zu (zu t 60 14 (Int32.ofNat hg)) 60 15 0 := ⟨_, rfl⟩
  have start : mX8_move t = lX8_move_24 zFU (if m = 0 then -1 else Int32.ofNat (R 0)) 0 t0 := by
    unfold mX8_move
    rw [pl_pt, pl_pt, pl_let, a2, show (12000 : Int32) - Int32.ofNat hf = Int32.ofNat hg by rw [eg]; exact zn_sub (a := 12000) (by omega) (by decide), ← e0]
    rw [show t0 60 10 = t 60 10 by rw [e0, zu_ne2 (by decide), zu_ne2 (by decide)], hl.1]
  have loop : ∀ (d j fu : Nat) (t1 : zS), j + d = m → t1 60 14 = Int32.ofNat hg → t1 60 15 = Int32.ofNat (S j) → (∀ i, i < j → t1 133 (R i) = Int32.ofNat (hg + S i) ∧ ∀ k, k < n (R i) → t1 143 (hg + S i + k) = num (R i) k ∧ t1 145 (hg + S i + k) = H (R i) k) → (∀ i, j ≤ i → i < m → t1 133 (R i) = Int32.ofNat (B (R i)) ∧ ∀ k, k < n (R i) → t1 143 (B (R i) + k) = num (R i) k ∧ t1 145 (B (R i) + k) = H (R i) k) → (∀ r, ¬ (r = 60 ∨ r = 133 ∨ r = 143 ∨ r = 145) → t1 r = t r) → (∀ j, ¬ (j = 14 ∨ j = 15) → t1 60 j = t 60 j) → ∃ t2, lX8_move_24 (fu + d + 1) (if j = m then -1 else Int32.ofNat (R j)) (Int32.ofNat j) t1 = some (0, t2) ∧ t2 60 14 = Int32.ofNat hg ∧ t2 60 15 = Int32.ofNat (S m) ∧ (∀ i, i < m → t2 133 (R i) = Int32.ofNat (hg + S i) ∧ ∀ k, k < n (R i) → t2 143 (hg + S i + k) = num (R i) k ∧ t2 145 (hg + S i + k) = H (R i) k) ∧ (∀ r, ¬ (r = 60 ∨ r = 133 ∨ r = 143 ∨ r = 145) → t2 r = t r) ∧ ∀ j, ¬ (j = 14 ∨ j = 15) → t2 60 j = t 60 j := by
    intro d
    induction d with
    | zero =>
      intro j fu t1 hj b1 b2 b3 b4 b5 b6
      have : j = m := by omega
      subst this
      refine ⟨t1, ?_, b1, b2, b3, b5, b6⟩
      show bX8_move_24 _ _ _ t1 = _
      unfold bX8_move_24
      rw [if_pos rfl, if_neg (show ¬ (2501 : Int32) ≤ Int32.ofNat j from fun w => by have := (zn_le (a := 2501) (by decide) (by omega)).mp w; omega), if_pos (by decide)]
    | succ d ih =>
      intro j fu t1 hj b1 b2 b3 b4 b5 b6
      have hjm : j < m := by omega
      obtain ⟨c1, c2⟩ := b4 j (Nat.le_refl _) hjm
      obtain ⟨d1, d2, d3, d4, d5⟩ := a5 (R j) ⟨j, hjm, rfl⟩
      have hRj := hR j hjm
      have Sj := Sle (j + 1) (by omega)
      rw [S1] at Sj
      have g134 : mX5_get 134 2501 (Int32.ofNat (R j)) t1 = some (Int32.ofNat (n (R j)), t1) := by rw [← d2, ← b5 135 (by decide)]; exact zn_get hRj (by decide)
      have g132 : ∀ t' : zS, t' 133 = t1 133 → mX5_get 132 2501 (Int32.ofNat (R j)) t' = some (Int32.ofNat (B (R j)), t') := fun t' e => by rw [← c1, ← e]; exact zn_get hRj (by decide)
      obtain ⟨ta, ea⟩ : ∃ ta, ta = zcp t1 143 (B (R j)) (hg + S j) (n (R j)) := ⟨_, rfl⟩
      obtain ⟨tb, eb⟩ : ∃ tb, tb = zcp ta 145 (B (R j)) (hg + S j) (n (R j)) := ⟨_, rfl⟩
      obtain ⟨tc, ec⟩ : ∃ tc, tc = zu (zu tb 133 (R j) (Int32.ofNat (hg + S j))) 60 15 (Int32.ofNat (S j + n (R j))) := ⟨_, rfl⟩
      have fa : ∀ r, ¬ r = 143 → ta r = t1 r := fun r hr => by rw [ea]; exact zcp_row hr
      have fb : ∀ r, ¬ (r = 143 ∨ r = 145) → tb r = t1 r := fun r hr => by rw [eb, zcp_row (by omega)]; exact fa r (by omega)
      have fc : ∀ r, ¬ (r = 143 ∨ r = 145 ∨ r = 133 ∨ r = 60) → tc r = t1 r := fun r hr => by rw [ec, zu_row (by omega), zu_row (by omega)]; exact fb r (by omega)
      have e143 : tc 143 = ta 143 := by rw [ec, zu_row (by decide), zu_row (by decide), eb, zcp_row (by decide)]
      have e145 : tc 145 = tb 145 := by rw [ec, zu_row (by decide), zu_row (by decide)]
      have far : ∀ x, (x < hg + S j ∨ hg + S j + n (R j) ≤ x) → tc 143 x = t1 143 x ∧ tc 145 x = t1 145 x := fun x hx => by
        rw [e143, e145, ea, eb, zcp_out hx, zcp_out hx, fa 145 (by decide)]
        exact ⟨rfl, rfl⟩
      have e60 : ∀ x, ¬ x = 15 → tc 60 x = t1 60 x := fun x hx => by rw [ec, zu_ne2 hx, zu_ne1 (by decide), fb 60 (by decide)]
      obtain ⟨t2, z1, z2⟩ := ih (j + 1) fu tc (by omega) (by rw [e60 14 (by decide)]; exact b1) (by rw [ec, zu_same, S1]) (fun i hij => by
        by_cases e : i = j
        · subst e
          refine ⟨by rw [ec, zu_ne1 (by decide), zu_same], fun k hk => ?_⟩
          rw [e143, e145, ea, eb, zcp_in hk, zcp_in hk, fa 145 (by decide)]
          exact c2 k hk
        · obtain ⟨x1, x2⟩ := b3 i (by omega)
          refine ⟨by rw [ec, zu_ne1 (by decide), zu_ne2 (fun w => e (hi i j (by omega) hjm w)), fb 133 (by decide)]; exact x1, fun k hk => ?_⟩
          have := Smo i j (by omega) (by omega)
          obtain ⟨y1, y2⟩ := far (hg + S i + k) (by omega)
          rw [y1, y2]
          exact x2 k hk) (fun i h1 h2 => by
        obtain ⟨x1, x2⟩ := b4 i (by omega) h2
        refine ⟨by rw [ec, zu_ne1 (by decide), zu_ne2 (fun w => by have := hi i j h2 hjm w; omega), fb 133 (by decide)]; exact x1, fun k hk => ?_⟩
        obtain ⟨_, _, w3, w4, _⟩ := a5 (R i) ⟨i, h2, rfl⟩
        obtain ⟨y1, y2⟩ := far (B (R i) + k) (by omega)
        rw [y1, y2]
        exact x2 k hk) (fun r hr => by rw [fc r (by omega)]; exact b5 r hr) (fun x hx => by rw [e60 x (by omega)]; exact b6 x hx)
      refine ⟨t2, ?_, z2⟩
      rw [← z1]
      show bX8_move_24 (lX8_move_24 (fu + d + 1)) _ _ t1 = _
      have hN : ∀ t' : zS, t' 137 = t 137 → mX5_get 136 2501 (Int32.ofNat (R j)) t' = some (if j + 1 = m then -1 else Int32.ofNat (R (j + 1)), t') := fun t' e => by
        have := zn_get (c := 136) (n := 2501) (k := R j) (t := t') hRj (by decide)
        rw [this, e, (hl.2.2 j hjm).1]
        by_cases q : j + 1 = m
        · rw [if_neg (by omega), if_pos q]
        · rw [if_pos (by omega), if_neg q]
      unfold bX8_move_24
      rw [if_neg (show ¬ j = m by omega), if_neg (show ¬ (2501 : Int32) ≤ Int32.ofNat j from fun w => by have := (zn_le (a := 2501) (by decide) (by omega)).mp w; omega), if_neg (zn_neg (by omega)), g134, pl_bd, g132 t1 rfl, pl_bd, b1, b2, zn_add, pl_copy (a := B (R j)) (b := hg + S j) (m := n (R j)) (pl_ofn (by omega)) (pl_ofn (by omega)) (pl_ofn (by omega)) (by omega) (by omega) (by decide), pl_bd, ← ea, g132 ta (fa 133 (by decide)), pl_bd, fa 60 (by decide), b1, b2, zn_add, pl_copy (a := B (R j)) (b := hg + S j) (m := n (R j)) (pl_ofn (by omega)) (pl_ofn (by omega)) (pl_ofn (by omega)) (by omega) (by omega) (by decide), pl_bd, ← eb, fb 60 (by decide), b1, b2, zn_add, zn_set hRj (by decide), pl_bd, pl_pt, zu_ne1 (by decide), fb 60 (by decide), b2, zn_add, ← ec, hN tc (by rw [fc 137 (by decide)]; exact b5 137 (by decide)), pl_bd, pl_let, zn_1]
  obtain ⟨t2, z1, z2, z3, z4, z5, z6⟩ := loop m 0 (zFU - m - 1) t0 (by omega) (by rw [e0, zu_ne2 (by decide), zu_same]) (by rw [e0, zu_same, eS]; rfl) (fun i hi => absurd hi (Nat.not_lt_zero _)) (fun i _ hi => by
    obtain ⟨w1, _, _, _, w5⟩ := a5 (R i) ⟨i, hi, rfl⟩
    rw [e0, zu_row (by decide), zu_row (by decide), zu_row (by decide), zu_row (by decide), zu_row (by decide), zu_row (by decide)]
    exact ⟨w1, w5⟩) (fun r hr => by rw [e0, zu_row (by omega), zu_row (by omega)]) (fun j hj => by rw [e0, zu_ne2 (by omega), zu_ne2 (by omega)])
  rw [show zFU - m - 1 + m + 1 = zFU by unfold zFU; omega, show Int32.ofNat 0 = 0 from rfl] at z1
  refine ⟨t2, ?_, ⟨hg, S m, fun p => (t2 133 p).toNatClampNeg, hg2, z2, z3, Sle m (Nat.le_refl _), fun p hp => ?_, fun p p' hp hp' hne => ?_⟩, by rw [z3, eS], z5, z6⟩
  · rw [start, ← z1]
    congr 1
    by_cases q : m = 0
    · rw [if_pos q, if_pos q.symm]
    · rw [if_neg q, if_neg (fun w => q w.symm)]
  · obtain ⟨i, i1, i2⟩ := hp
    subst i2
    obtain ⟨w1, w2⟩ := z4 i i1
    have := Smo i m i1 (Nat.le_refl _)
    have sm := Sle m (Nat.le_refl _)
    have eb : (t2 133 (R i)).toNatClampNeg = hg + S i := by rw [w1]; exact pl_clamp (pl_ofn (by omega))
    show t2 133 (R i) = Int32.ofNat (t2 133 (R i)).toNatClampNeg ∧ t2 135 (R i) = Int32.ofNat (n (R i)) ∧ hg ≤ (t2 133 (R i)).toNatClampNeg ∧ (t2 133 (R i)).toNatClampNeg + n (R i) ≤ hg + S m ∧ ∀ k, k < n (R i) → t2 143 ((t2 133 (R i)).toNatClampNeg + k) = num (R i) k ∧ t2 145 ((t2 133 (R i)).toNatClampNeg + k) = H (R i) k
    rw [eb]
    refine ⟨w1, by rw [z5 135 (by decide)]; exact (a5 (R i) ⟨i, i1, rfl⟩).2.1, by omega, by omega, w2⟩
  · obtain ⟨i, i1, i2⟩ := hp
    obtain ⟨j, j1, j2⟩ := hp'
    subst i2; subst j2
    have sm := Sle m (Nat.le_refl _)
    have l1 := Smo i m i1 (Nat.le_refl _)
    have l2 := Smo j m j1 (Nat.le_refl _)
    show (t2 133 (R i)).toNatClampNeg + n (R i) ≤ (t2 133 (R j)).toNatClampNeg ∨ (t2 133 (R j)).toNatClampNeg + n (R j) ≤ (t2 133 (R i)).toNatClampNeg
    rw [(z4 i i1).1, (z4 j j1).1, show (Int32.ofNat (hg + S i)).toNatClampNeg = hg + S i from pl_clamp (pl_ofn (by omega)), show (Int32.ofNat (hg + S j)).toNatClampNeg = hg + S j from pl_clamp (pl_ofn (by omega))]
    rcases Nat.lt_or_ge i j with l | l
    · left; have := Smo i j l (by omega); omega
    · by_cases e : i = j
      · subst e; exact absurd rfl hne
      · right; have := Smo j i (by omega) (by omega); omega
