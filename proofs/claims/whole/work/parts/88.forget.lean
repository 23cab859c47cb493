/-! the class's known words: forget -/
theorem zn_1 (k : Nat) : Int32.ofNat k + 1 = Int32.ofNat (k + 1) := nI_1 k
theorem zhash_congr2 {g g' : Nat → Int32} : ∀ (m p : Nat) (v : Int32), (∀ i, i < m → g (p + i) = g' (p + i)) → zhash g m p v = zhash g' m p v := by
  intro m
  induction m with
  | zero => intro p v _; rfl
  | succ m ih =>
    intro p v h
    have h0 : g p = g' p := h 0 (by omega)
    unfold zhash
    rw [h0]
    refine ih (p + 1) _ (fun i hi => ?_)
    have := h (i + 1) (by omega)
    rw [show p + (i + 1) = p + 1 + i by omega] at this
    exact this
theorem zsame_congr2 {g g' : Nat → Int32} {m p q : Nat} (h1 : ∀ i, i < m → g (p + i) = g' (p + i)) (h2 : ∀ i, i < m → g (q + i) = g' (q + i)) : zsame g m p q = true ↔ zsame g' m p q = true := by
  rw [zsame_iff, zsame_iff]
  constructor
  · intro h i hi; rw [← h1 i hi, ← h2 i hi]; exact h i hi
  · intro h i hi; rw [h1 i hi, h2 i hi]; exact h i hi
theorem zNT_congr {t t2 : zS} {n : Nat} {fl sl : Nat → Nat} (h : zNT t n fl sl) (h1 : t2 50 5 = t 50 5) (h2 : t2 71 = t 71) (h3 : t2 73 = t 73) (h4 : ∀ j, j < fl n → t2 69 j = t 69 j) : zNT t2 n fl sl := by
  have hle := zNT_le h
  have hr : ∀ v, v < n → ∀ i, i < fl (v + 1) - fl v → t2 69 (fl v + i) = t 69 (fl v + i) := by
    intro v hv i hi
    have := hle (n - (v + 1)) (v + 1) (by omega)
    exact h4 _ (by omega)
  obtain ⟨q1, q2, q3, q4, q5, q6, q7, q8, q9, q10⟩ := h
  refine ⟨q1, by rw [h1]; exact q2, q3, fun v hv => by rw [h2]; exact q4 v hv, q5, q6, fun v hv => by rw [h3]; exact q7 v hv, fun s hs => by rw [h3]; exact q8 s hs, fun v w hv hw hl hsm => ?_, fun v hv => ?_⟩
  · refine q9 v w hv hw hl ((zsame_congr2 (hr v hv) (fun i hi => ?_)).mp hsm)
    rw [hl] at hi
    exact hr w hw i hi
  · rw [zhash_congr2 _ _ _ (hr v hv)]
    exact q10 v hv
/-- what the cutting of words may touch -/
def zWfr (t t2 : zS) : Prop := ∀ k, k ≠ 50 → k ≠ 67 → k ≠ 69 → k ≠ 71 → k ≠ 73 → t2 k = t k
theorem zWfr_refl (t : zS) : zWfr t t := fun _ _ _ _ _ _ => rfl
theorem zWfr_trans {a b c : zS} (h : zWfr a b) (h2 : zWfr b c) : zWfr a c := fun k k1 k2 k3 k4 k5 => (h2 k k1 k2 k3 k4 k5).trans (h k k1 k2 k3 k4 k5)
theorem zWfr_zu {t : zS} {k j : Nat} {v : Int32} (h : k = 50 ∨ k = 67 ∨ k = 69 ∨ k = 71 ∨ k = 73) : zWfr t (zu t k j v) := by
  intro k' k1 k2 k3 k4 k5
  exact zu_row (by rcases h with h | h | h | h | h <;> subst h <;> assumption)
def zkc (i : Nat) : Int32 := (zsb 0).getD i 0
def zkw : Nat → Nat
  | 0 => 0
  | i + 1 => if zkc i = 32 then zkw i + 1 else zkw i
def zku : Nat → Nat
  | 0 => 0
  | i + 1 => if zkc i = 32 then zku i else zku i + 1
def zkf (v : Nat) : Nat := [0, 4, 8, 12, 16, 20, 24, 28, 32, 37, 43, 45, 49, 54, 57, 60, 63, 66, 70].getD v 0
def zkl (j : Nat) : Int32 := ((zsb 0).filter (fun x => !(x == 32))).getD j 0
theorem zk_all : ∀ i, i < 88 → (zkc i = 32 → zku i = zkf (zkw i + 1) ∧ zkw i < 18 ∧ zkf (zkw i) ≤ zku i ∧ ∀ w, w < zkw i → ¬ (zkf (w + 1) - zkf w = zku i - zkf (zkw i) ∧ zsame zkl (zku i - zkf (zkw i)) (zkf w) (zkf (zkw i)) = true)) ∧ (¬ zkc i = 32 → zkl (zku i) = zkc i ∧ zkf (zkw i) ≤ zku i ∧ zku i < 70) := by decide +kernel
theorem zk_88 : zkw 88 = 18 ∧ zku 88 = 70 ∧ (zsb 0).length = 88 := by decide +kernel
theorem zk_f : ∀ v, v < 18 → zkf v < zkf (v + 1) ∧ zkf (v + 1) ≤ 70 := by decide
def zKI (t : zS) (n e : Nat) (fl sl : Nat → Nat) : Prop := zNT t n fl sl ∧ (∀ v, v ≤ n → fl v = zkf v) ∧ t 50 6 = Int32.ofNat e ∧ ∀ j, j < e → t 69 j = zkl j
theorem pl_knownL : ∀ (d i fu : Nat) (t : zS) (fl sl : Nat → Nat), d + i = 88 → zKI t (zkw i) (zku i) fl sl → ∃ t2 fl2 sl2, lX10_forget_38 (fu + d + 1) (Int32.ofNat i) t = some (0, t2) ∧ zKI t2 18 70 fl2 sl2 ∧ zWfr t t2 ∧ t2 50 4 = t 50 4 := by
  intro d
  induction d with
  | zero =>
    intro i fu t fl sl hi h
    have e : i = 88 := by omega
    subst e
    rw [lX10_forget_38]
    unfold bX10_forget_38
    rw [if_pos (by decide)]
    rw [zk_88.1, zk_88.2.1] at h
    exact ⟨t, fl, sl, rfl, h, zWfr_refl t, rfl⟩
  | succ d ih =>
    intro i fu t fl sl hi h
    obtain ⟨hN, hf, h6, hl⟩ := h
    have ei : (Int32.ofNat i).toInt = (i : Int) := pl_ofn (by omega)
    have z88 : (88 : Int32).toInt = 88 := by decide
    obtain ⟨kA, kB⟩ := zk_all i (by omega)
    have hzi := zofn (k := i) (by omega)
    have hsc : ∀ k, zsc 0 (Int32.ofNat i) k = k (zkc i) := by
      intro k
      unfold zsc
      rw [if_pos ⟨hzi.1, by rw [hzi.2, zk_88.2.2]; omega⟩, hzi.2]
      rfl
    rw [show fu + (d + 1) + 1 = (fu + d + 1) + 1 by omega, lX10_forget_38]
    unfold bX10_forget_38
    rw [if_neg (fun w => by have := pl_le.mp w; omega), hsc]
    by_cases hc : zkc i = 32
    · obtain ⟨k1, k2, k3, k4⟩ := kA hc
      rw [if_pos hc]
      have hfw := hf (zkw i) (Nat.le_refl _)
      have ku70 : zku i ≤ 70 := by rw [k1]; exact (zk_f _ k2).2
      rcases pl_nameNumber hN h6 (by rw [hfw]; exact k3) (by omega) (by omega) with ⟨v, hv, hz, _⟩ | ⟨_, s, hs, hm, hN2⟩
      · exfalso
        unfold zeqn at hz
        have l1 := zk_f v (by omega)
        rw [hf (v + 1) (by omega), hf v (by omega), hfw] at hz
        refine k4 v hv ⟨hz.1, (zsame_congr2 (fun q hq => hl _ ?_) (fun q hq => hl _ ?_)).mp hz.2⟩
        · have : zkf (v + 1) ≤ zkf (zkw i) := by
            have := zNT_le hN (zkw i - (v + 1)) (v + 1) (by omega)
            rw [hf (v + 1) (by omega), hfw] at this
            exact this
          omega
        · omega
      · rw [hm, pl_bd]
        unfold bX10_forget_93
        rw [pl_let, zn_1]
        have e1 : zkw (i + 1) = zkw i + 1 := by rw [zkw, if_pos hc]
        have e2 : zku (i + 1) = zku i := by rw [zku, if_pos hc]
        obtain ⟨t2, fl2, sl2, r1, r2, r3, r4⟩ := ih (i + 1) fu _ (zup fl (zkw i + 1) (zku i)) (zup sl (zkw i) s) (by omega) (by
          rw [e1, e2]
          refine ⟨hN2, fun v hv => ?_, by rw [zu_ne1 (by decide), zu_ne2 (by decide), zu_ne1 (by decide)]; exact h6, fun j hj => by rw [zu_ne1 (by decide), zu_ne1 (by decide), zu_ne1 (by decide)]; exact hl j hj⟩
          by_cases e3 : v = zkw i + 1
          · subst e3; simp [zup, k1]
          · simp only [zup, e3, if_false]; exact hf v (by omega))
        refine ⟨t2, fl2, sl2, r1, r2, zWfr_trans (zWfr_trans (zWfr_trans (zWfr_zu (by decide)) (zWfr_zu (by decide))) (zWfr_zu (by decide))) r3, ?_⟩
        rw [r4, zu_ne1 (by decide), zu_ne2 (by decide), zu_ne1 (by decide)]
    · obtain ⟨k1, k2, k3⟩ := kB hc
      have hfw := hf (zkw i) (Nat.le_refl _)
      have e6 : (t 50 6).toInt = (zku i : Int) := by rw [h6]; exact pl_ofn (by omega)
      rw [if_neg hc, hsc, pl_set (m := zku i) (by decide) e6 (by omega), pl_bd, pl_pt]
      unfold bX10_forget_93
      rw [pl_let, zn_1, zu_ne1 (by decide), h6, zn_1]
      have e1 : zkw (i + 1) = zkw i := by rw [zkw, if_neg hc]
      have e2 : zku (i + 1) = zku i + 1 := by rw [zku, if_neg hc]
      obtain ⟨t2, fl2, sl2, r1, r2, r3, r4⟩ := ih (i + 1) fu (zu (zu t 69 (zku i) (zkc i)) 50 6 (Int32.ofNat (zku i + 1))) fl sl (by omega) (by
        rw [e1, e2]
        refine ⟨zNT_congr hN (by rw [zu_ne2 (by decide), zu_ne1 (by decide)]) (by rw [zu_row (by decide), zu_row (by decide)]) (by rw [zu_row (by decide), zu_row (by decide)]) (fun j hj => by rw [zu_ne1 (by decide), zu_ne2 (by omega)]), hf, by rw [zu_same], fun j hj => ?_⟩
        rw [zu_ne1 (by decide)]
        by_cases e3 : j = zku i
        · subst e3; rw [zu_same, k1]
        · rw [zu_ne2 e3]; exact hl j (by omega))
      refine ⟨t2, fl2, sl2, r1, r2, zWfr_trans (zWfr_trans (zWfr_zu (by decide)) (zWfr_zu (by decide))) r3, ?_⟩
      rw [r4, zu_ne2 (by decide), zu_ne1 (by decide)]
theorem pl_forgetW {t : zS} : ∃ t2 fl sl, mX10_forget t = some (0, t2) ∧ zKI t2 18 70 fl sl ∧ zWfr t t2 ∧ t2 50 4 = 0 := by
  have z0 : (0 : Int32).toInt = ((0 : Nat) : Int) := by decide
  have z4 : (4096 : Int32).toInt = ((4096 : Nat) : Int) := by decide
  unfold mX10_forget
  rw [pl_pt, pl_pt, pl_pt, pl_set (m := 0) (by decide) z0 (by decide), pl_bd, pl_fill (a := 0) (b := 4096) z0 z4 (by decide) (by decide) (by decide), pl_bd]
  have hfr : zWfr t (zfl (zu (zu (zu (zu t 50 4 0) 50 5 0) 50 6 0) (70 + 1) 0 0) (72 + 1) 0 4096 (-1)) := by
    have hf1 : zWfr t (zu (zu (zu (zu t 50 4 0) 50 5 0) 50 6 0) (70 + 1) 0 0) := zWfr_trans (zWfr_trans (zWfr_trans (zWfr_zu (by decide)) (zWfr_zu (by decide))) (zWfr_zu (by decide))) (zWfr_zu (by decide))
    refine zWfr_trans hf1 ?_
    intro k k1 k2 k3 k4 k5
    funext j
    unfold zfl
    rw [if_neg (fun w => k5 w.1)]
  have zf : ∀ k j, k ≠ 73 → zfl (zu (zu (zu (zu t 50 4 0) 50 5 0) 50 6 0) (70 + 1) 0 0) (72 + 1) 0 4096 (-1) k j = zu (zu (zu (zu t 50 4 0) 50 5 0) 50 6 0) (70 + 1) 0 0 k j := by
    intro k j hk
    unfold zfl
    rw [if_neg (fun w => hk w.1)]
  obtain ⟨t2, fl, sl, r1, r2, r3, r4⟩ := pl_knownL 88 0 (999999 - 88) (zfl (zu (zu (zu (zu t 50 4 0) 50 5 0) 50 6 0) (70 + 1) 0 0) (72 + 1) 0 4096 (-1)) (fun _ => 0) (fun _ => 0) rfl (by
    refine ⟨⟨by decide, ?_, rfl, fun v hv => ?_, fun v hv => absurd hv (Nat.not_lt_zero v), by decide, fun v hv => absurd hv (Nat.not_lt_zero v), fun s hs => Or.inl ?_, fun v w hv => absurd hv (Nat.not_lt_zero v), fun v hv => absurd hv (Nat.not_lt_zero v)⟩, fun v hv => ?_, ?_, fun j hj => absurd hj (Nat.not_lt_zero j)⟩
    · rw [zf _ _ (by decide), zu_ne1 (by decide), zu_ne2 (by decide), zu_same]; rfl
    · have : v = 0 := Nat.le_zero.mp hv
      subst this
      rw [zf _ _ (by decide)]; exact zu_same _ _ _ _
    · unfold zfl
      rw [if_pos ⟨rfl, Nat.zero_le _, hs⟩]
      decide
    · have : v = 0 := Nat.le_zero.mp hv
      subst this
      rfl
    · rw [zf _ _ (by decide), zu_ne1 (by decide), zu_same]; rfl)
  exact ⟨t2, fl, sl, r1, r2, zWfr_trans hfr r3, by rw [r4, zf _ _ (by decide), zu_ne1 (by decide), zu_ne2 (by decide), zu_ne2 (by decide), zu_same]⟩
