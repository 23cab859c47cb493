/-! NAMES of a proc: slots -/
theorem zAt_nmj {G : zTxt} {i : Nat} {t u : zS} (h : zAt G i t u) (hc : t 5 9 = 17) : i < G.2.2.1 ∧ zltb (G.1 (zpos G.1 G.2.1 i)) = true ∧ t 5 11 = Int32.ofNat (G.2.2.2 i) ∧ 17 ≤ G.2.2.2 i ∧ G.2.2.2 i < 1600 := by
  have hw := (zAt_w h).2.2.2
  obtain ⟨v, w, v1, v2, v3, v4, v5⟩ := zAt_nmv h hc
  have hi : i < G.2.2.1 := by
    rcases Nat.lt_or_ge i G.2.2.1 with q | q
    · exact q
    · have h3 : i ≤ G.2.2.1 := h.2.2.2.2.1
      have := hw.mpr (by omega)
      rw [hc] at this; exact absurd this (by decide)
  obtain ⟨b1, ⟨c1, c2, c3, c4⟩, b3⟩ := h.1.2.2.1 i hi
  have e9 : t 5 9 = t 67 (3 * i) := h.2.2.2.2.2.2.1
  have e11 : t 5 11 = t 67 (3 * i + 2) := h.2.2.2.2.2.2.2.2.1
  cases hl : zltb (G.1 (zpos G.1 G.2.1 i)) with
  | true =>
    obtain ⟨f1, f2⟩ := c2 hl
    have b4 := b3 hl
    refine ⟨hi, rfl, by rw [e11, f2], ?_, b4⟩
    rw [e11, f2] at v1
    have := (zn_inj (by omega) (by omega)).mp v1
    omega
  | false =>
    exfalso
    rw [e9] at hc
    cases hd : zdig (G.1 (zpos G.1 G.2.1 i)) with
    | true =>
      have f1 := (c3 hl hd).1
      rw [hc] at f1
      by_cases q : zend G.1 G.2.1 (zpos G.1 G.2.1 i) - zpos G.1 G.2.1 i ≤ 9
      · rw [if_pos q] at f1; exact absurd f1 (by decide)
      · rw [if_neg q] at f1; exact absurd f1 (by decide)
    | false =>
      have f1 := (c4 hl hd).1
      unfold zsgk at f1
      rw [hc] at f1
      by_cases q : G.1 (zpos G.1 G.2.1 i) = 61 ∧ zpos G.1 G.2.1 i + 1 < G.2.1 ∧ G.1 (zpos G.1 G.2.1 i + 1) = 61
      · rw [if_pos q] at f1; exact absurd f1 (by decide)
      · rw [if_neg q] at f1
        by_cases q2 : G.1 (zpos G.1 G.2.1 i) ∈ zSgs
        · rw [if_pos q2] at f1
          rw [← f1] at q2; exact absurd q2 (by decide)
        · rw [if_neg q2] at f1; exact absurd f1 (by decide)
/-- a NAME that stands at one of the words ahead of i -/
def zWd (G : zTxt) (i v : Nat) : Prop := ∃ j, j < i ∧ j < G.2.2.1 ∧ zltb (G.1 (zpos G.1 G.2.1 j)) = true ∧ G.2.2.2 j = v
theorem zWd_mono {G : zTxt} {i i2 v : Nat} (h : zWd G i v) (hi : i ≤ i2) : zWd G i2 v := by
  obtain ⟨j, h1, h2⟩ := h
  exact ⟨j, by omega, h2⟩
/-- proc p has n slots; the reference's begin at b -/
def zSl (G : zTxt) (i p b n : Nat) (t u : zS) : Prop := t 4 10 = Int32.ofNat (p + 1) ∧ u 0 60 = Int32.ofNat p ∧ t 39 p = Int32.ofNat n ∧ u 31 p = Int32.ofNat b ∧ u 31 (p + 1) = Int32.ofNat (b + n) ∧ p < 300 ∧
  (∀ v, v < 1600 → t 49 v = -1 ∨ ∃ q, q ≤ p ∧ t 49 v = Int32.ofNat q) ∧
  ∃ m : Nat → Nat, (∀ k, k < n → m k < 1600 ∧ t 49 (m k) = Int32.ofNat p ∧ t 47 (m k) = Int32.ofNat k ∧ (∃ w, u 33 (b + k) = Int32.ofNat w ∧ (zBk G)[w]? = some (m k)) ∧ zWd G i (m k)) ∧ ∀ v, v < 1600 → t 49 v = Int32.ofNat p → ∃ k, k < n ∧ m k = v
theorem zSl_of {G : zTxt} {i i2 p b n : Nat} {t u t2 u2 : zS} (h : zSl G i p b n t u) (hi : i ≤ i2) (h4 : t2 4 10 = t 4 10) (h0 : u2 0 60 = u 0 60) (h39 : t2 39 = t 39) (h47 : t2 47 = t 47) (h49 : t2 49 = t 49) (g31 : u2 31 = u 31) (g33 : u2 33 = u 33) : zSl G i2 p b n t2 u2 := by
  obtain ⟨a1, a2, a3, a4, a5, a6, a7, m, a8, a9⟩ := h
  unfold zSl
  rw [h4, h0, h39, h47, h49, g31, g33]
  refine ⟨a1, a2, a3, a4, a5, a6, a7, m, fun k hk => ?_, a9⟩
  obtain ⟨c1, c2, c3, c4, c5⟩ := a8 k hk
  exact ⟨c1, c2, c3, c4, zWd_mono c5 hi⟩
/-- the reference's search -/
theorem pl_ownL {u : zS} {p b n w : Nat} (hp : p < 300) (h60 : u 0 60 = Int32.ofNat p) (h31 : u 31 p = Int32.ofNat b) (h31' : u 31 (p + 1) = Int32.ofNat (b + n)) (hb : b + n ≤ 3000) : ∀ (d j fu : Nat), d + j = n →
    ((∃ k, j ≤ k ∧ k < n ∧ u 33 (b + k) = Int32.ofNat w ∧ (∀ l, j ≤ l → l < k → ¬ u 33 (b + l) = Int32.ofNat w) ∧ lX12_ownOf_10 (fu + d + 1) (Int32.ofNat w) (Int32.ofNat (b + j)) u = some (Int32.ofNat k, u)) ∨
     ((∀ l, j ≤ l → l < n → ¬ u 33 (b + l) = Int32.ofNat w) ∧ (b + n < 3000 → lX12_ownOf_10 (fu + d + 1) (Int32.ofNat w) (Int32.ofNat (b + j)) u = some (Int32.ofNat n, zu (zu u 33 (b + n) (Int32.ofNat w)) 31 (p + 1) (Int32.ofNat (b + (n + 1))))))) := by
  intro d
  induction d with
  | zero =>
    intro j fu hd
    refine Or.inr ⟨fun l h1 h2 => by omega, fun hbn => ?_⟩
    show bX12_ownOf_10 _ _ _ _ = _
    unfold bX12_ownOf_10
    rw [h60, zn_1, zn_rd (by omega) (by decide), h31', if_pos (by rw [zn_le (by omega) (by omega)]; omega), zn_rd (by omega) (by decide), h31', zn_wr (by omega) (by decide)]
    have e : Int32.ofNat (b + n + 1) = Int32.ofNat (b + (n + 1)) := rfl
    simp (disch := first | omega | decide | assumption) only [zu_same, zu_ne1, zu_ne2, zu_row, pl_bd, pl_pt, pl_let, zn_set, zn_get, zn_rd, zn_wr, zn_1, zn_m, Nat.reduceAdd, h60, h31', h31]
    rw [zn_sub (by omega) (by omega), show b + n - b = n by omega]
    rfl
  | succ d ih =>
    intro j fu hd
    have e1 : lX12_ownOf_10 (fu + (d + 1) + 1) (Int32.ofNat w) (Int32.ofNat (b + j)) u = if u 33 (b + j) = Int32.ofNat w then some (Int32.ofNat j, u) else lX12_ownOf_10 (fu + d + 1) (Int32.ofNat w) (Int32.ofNat (b + (j + 1))) u := by
      show bX12_ownOf_10 (lX12_ownOf_10 (fu + d + 1)) _ _ _ = _
      unfold bX12_ownOf_10
      rw [h60, zn_1, zn_rd (by omega) (by decide), h31', if_neg (by rw [zn_le (by omega) (by omega)]; omega), zn_rd (by omega) (by decide)]
      by_cases q : u 33 (b + j) = Int32.ofNat w
      · rw [if_pos q, if_pos q, zn_rd (by omega) (by decide), h31, zn_sub (by omega) (by omega), show b + j - b = j by omega]
      · rw [if_neg q, if_neg q, pl_let, zn_1]; rfl
    rw [e1]
    by_cases q : u 33 (b + j) = Int32.ofNat w
    · rw [if_pos q]
      exact Or.inl ⟨j, Nat.le_refl _, by omega, q, fun l h1 h2 => by omega, rfl⟩
    · rw [if_neg q]
      rcases ih (j + 1) fu (by omega) with ⟨k, k1, k2, k3, k4, k5⟩ | ⟨k1, k2⟩
      · refine Or.inl ⟨k, by omega, k2, k3, fun l h1 h2 => ?_, k5⟩
        by_cases e : l = j
        · rw [e]; exact q
        · exact k4 l (by omega) h2
      · refine Or.inr ⟨fun l h1 h2 => ?_, k2⟩
        by_cases e : l = j
        · rw [e]; exact q
        · exact k1 l (by omega) h2
def zpSC (k j : Nat) : Bool := !(k == 39 || k == 47 || k == 49)
def zpSM (k j : Nat) : Bool := !(k == 31 || k == 33)
/-- a NAME's slot on both sides -/
theorem zSl_own {G : zTxt} {i p b n v w : Nat} {t u : zS} (hB : (zBk G).length ≤ 1600) (h : zSl G i p b n t u) (hb : b + n < 3000) (hv : v < 1600) (hw : (zBk G)[w]? = some v) (hj : zWd G (i + 1) v) : ∃ k t2 u2 n2, mX6_slotFor (Int32.ofNat v) t = some (Int32.ofNat k, t2) ∧ mX12_ownOf (Int32.ofNat w) u = some (Int32.ofNat k, u2) ∧ k < n2 ∧ n ≤ n2 ∧ n2 ≤ n + 1 ∧ zSl G (i + 1) p b n2 t2 u2 ∧ zFP zpSC t t2 ∧ zFP zpSM u u2 ∧ (∀ q, ¬ q = p → t2 39 q = t 39 q) ∧ (∀ q, ¬ q = p + 1 → u2 31 q = u 31 q) ∧ (∀ k, k < b + n → u2 33 k = u 33 k) ∧ (n2 = n → ∃ k, k < n ∧ t 49 v = Int32.ofNat p) ∧ (t 49 v = Int32.ofNat p → n2 = n) := by
  have hl := zLs_lt hw
  obtain ⟨a1, a2, a3, a4, a5, a6, a7, m, a8, a9⟩ := h
  have own := pl_ownL (w := w) a6 a2 a4 a5 (by omega) n 0 (zFU - n - 1) (by omega)
  rw [show zFU - n - 1 + n + 1 = zFU by unfold zFU; omega] at own
  have eM : mX12_ownOf (Int32.ofNat w) u = lX12_ownOf_10 zFU (Int32.ofNat w) (Int32.ofNat (b + 0)) u := by
    unfold mX12_ownOf
    rw [a2, zn_rd (by omega) (by decide), a4]; rfl
  have v4 : t 4 10 - 1 = Int32.ofNat p := by rw [a1]; exact zn_m p
  have inj : ∀ k l, k < n → l < n → m k = m l → k = l := fun k l hk hl' e => by
    have h1 := (a8 k hk).2.2.1
    have h2 := (a8 l hl').2.2.1
    rw [e, h2] at h1
    exact ((zn_inj (by omega) (by omega)).mp h1).symm
  by_cases q : t 49 v = Int32.ofNat p
  · obtain ⟨k, k1, k2⟩ := a9 v hv q
    obtain ⟨c1, c2, c3, ⟨w1, c4, c4'⟩, c5⟩ := a8 k k1
    rw [k2] at c4' c3
    have ew := zB_inj c4' hw
    subst ew
    rcases own with ⟨k', _, d2, d3, d4, d5⟩ | ⟨d1, _⟩
    · have ek : k' = k := by
        obtain ⟨e1, e2, e3, ⟨w2, e4, e5⟩, _⟩ := a8 k' d2
        rw [d3] at e4
        have l2 := zLs_lt e5
        have := (zn_inj (by omega) (by omega)).mp e4
        subst this
        rw [hw] at e5
        exact inj k' k d2 k1 (by rw [k2]; exact (Option.some.inj e5).symm)
      subst ek
      refine ⟨k', t, u, n, ?_, by rw [eM]; exact d5, k1, Nat.le_refl _, by omega, ⟨a1, a2, a3, a4, a5, a6, a7, m, fun k hk => ?_, a9⟩, zFP_refl _ _, zFP_refl _ _, fun _ _ => rfl, fun _ _ => rfl, fun _ _ => rfl, fun _ => ⟨k', k1, q⟩, fun _ => rfl⟩
      · unfold mX6_slotFor bX6_slotFor_62
        rw [pl_let, v4, zn_get hv (by decide), pl_bd, if_pos q, zn_get hv (by decide), pl_bd]
        show some (t 47 v, t) = _
        rw [c3]
      · obtain ⟨c1, c2, c3, c4, c5⟩ := a8 k hk
        exact ⟨c1, c2, c3, c4, zWd_mono c5 (by omega)⟩
    · exact absurd c4 (d1 k (Nat.zero_le _) k1)
  · rcases own with ⟨k', _, d2, d3, d4, d5⟩ | ⟨d1, d2⟩
    · exfalso
      obtain ⟨e1, e2, e3, ⟨w2, e4, e5⟩, _⟩ := a8 k' d2
      rw [d3] at e4
      have l2 := zLs_lt e5
      have := (zn_inj (by omega) (by omega)).mp e4
      subst this
      rw [hw] at e5
      rw [← Option.some.inj e5] at e2
      exact q e2
    · have nk : ∀ k, k < n → ¬ m k = v := fun k hk e => q (by rw [← e]; exact (a8 k hk).2.1)
      refine ⟨n, zu (zu (zu t 49 v (Int32.ofNat p)) 47 v (Int32.ofNat n)) 39 p (Int32.ofNat (n + 1)), _, n + 1, ?_, by rw [eM]; exact d2 hb, by omega, by omega, by omega, ⟨?_, ?_, ?_, ?_, ?_, a6, fun v' hv' => ?_, zup m n v, fun k hk => ?_, fun v' hv' hq => ?_⟩, zFP_zu (zFP_zu (zFP_zu (zFP_refl _ _) rfl) rfl) rfl, zFP_zu (zFP_zu (zFP_refl _ _) rfl) rfl, fun q hq => by simp (disch := first | omega | decide | assumption) only [zu_same, zu_ne1, zu_ne2, zu_row, pl_bd, pl_pt, pl_let, zn_set, zn_get, zn_rd, zn_wr, zn_1, zn_m, Nat.reduceAdd], fun q hq => by simp (disch := first | omega | decide | assumption) only [zu_same, zu_ne1, zu_ne2, zu_row, pl_bd, pl_pt, pl_let, zn_set, zn_get, zn_rd, zn_wr, zn_1, zn_m, Nat.reduceAdd], fun k hk => by simp (disch := first | omega | decide | assumption) only [zu_same, zu_ne1, zu_ne2, zu_row, pl_bd, pl_pt, pl_let, zn_set, zn_get, zn_rd, zn_wr, zn_1, zn_m, Nat.reduceAdd], fun e => by omega, fun e => absurd e q⟩
      · unfold mX6_slotFor bX6_slotFor_62
        rw [pl_let, v4, zn_get hv (by decide), pl_bd, if_neg q, zn_set hv (by decide), pl_bd, zn_get (by omega) (by decide), pl_bd]
        simp (disch := first | omega | decide | assumption) only [zu_same, zu_ne1, zu_ne2, zu_row, pl_bd, pl_pt, pl_let, zn_set, zn_get, zn_rd, zn_wr, zn_1, zn_m, Nat.reduceAdd, a3]
      · simp (disch := first | omega | decide | assumption) only [zu_same, zu_ne1, zu_ne2, zu_row, pl_bd, pl_pt, pl_let, zn_set, zn_get, zn_rd, zn_wr, zn_1, zn_m, Nat.reduceAdd, a1]
      · simp (disch := first | omega | decide | assumption) only [zu_same, zu_ne1, zu_ne2, zu_row, pl_bd, pl_pt, pl_let, zn_set, zn_get, zn_rd, zn_wr, zn_1, zn_m, Nat.reduceAdd, a2]
      · simp (disch := first | omega | decide | assumption) only [zu_same, zu_ne1, zu_ne2, zu_row, pl_bd, pl_pt, pl_let, zn_set, zn_get, zn_rd, zn_wr, zn_1, zn_m, Nat.reduceAdd]
      · simp (disch := first | omega | decide | assumption) only [zu_same, zu_ne1, zu_ne2, zu_row, pl_bd, pl_pt, pl_let, zn_set, zn_get, zn_rd, zn_wr, zn_1, zn_m, Nat.reduceAdd, a4]
      · simp (disch := first | omega | decide | assumption) only [zu_same, zu_ne1, zu_ne2, zu_row, pl_bd, pl_pt, pl_let, zn_set, zn_get, zn_rd, zn_wr, zn_1, zn_m, Nat.reduceAdd]
      · by_cases e : v' = v
        · subst e
          exact Or.inr ⟨p, Nat.le_refl _, by simp (disch := first | omega | decide | assumption) only [zu_same, zu_ne1, zu_ne2, zu_row, pl_bd, pl_pt, pl_let, zn_set, zn_get, zn_rd, zn_wr, zn_1, zn_m, Nat.reduceAdd]⟩
        · have : zu (zu (zu t 49 v (Int32.ofNat p)) 47 v (Int32.ofNat n)) 39 p (Int32.ofNat (n + 1)) 49 v' = t 49 v' := by simp (disch := first | omega | decide | assumption) only [zu_same, zu_ne1, zu_ne2, zu_row, pl_bd, pl_pt, pl_let, zn_set, zn_get, zn_rd, zn_wr, zn_1, zn_m, Nat.reduceAdd]
          rw [this]; exact a7 v' hv'
      · by_cases e : k = n
        · subst e
          rw [zup_at]
          exact ⟨hv, by simp (disch := first | omega | decide | assumption) only [zu_same, zu_ne1, zu_ne2, zu_row, pl_bd, pl_pt, pl_let, zn_set, zn_get, zn_rd, zn_wr, zn_1, zn_m, Nat.reduceAdd], by simp (disch := first | omega | decide | assumption) only [zu_same, zu_ne1, zu_ne2, zu_row, pl_bd, pl_pt, pl_let, zn_set, zn_get, zn_rd, zn_wr, zn_1, zn_m, Nat.reduceAdd], ⟨w, by simp (disch := first | omega | decide | assumption) only [zu_same, zu_ne1, zu_ne2, zu_row, pl_bd, pl_pt, pl_let, zn_set, zn_get, zn_rd, zn_wr, zn_1, zn_m, Nat.reduceAdd], hw⟩, hj⟩
        · have hk' : k < n := by omega
          obtain ⟨c1, c2, c3, ⟨w1, c4, c4'⟩, c5⟩ := a8 k hk'
          have := nk k hk'
          rw [zup_ne e]
          exact ⟨c1, by simp (disch := first | omega | decide | assumption) only [zu_same, zu_ne1, zu_ne2, zu_row, pl_bd, pl_pt, pl_let, zn_set, zn_get, zn_rd, zn_wr, zn_1, zn_m, Nat.reduceAdd, c2], by simp (disch := first | omega | decide | assumption) only [zu_same, zu_ne1, zu_ne2, zu_row, pl_bd, pl_pt, pl_let, zn_set, zn_get, zn_rd, zn_wr, zn_1, zn_m, Nat.reduceAdd, c3], ⟨w1, by simp (disch := first | omega | decide | assumption) only [zu_same, zu_ne1, zu_ne2, zu_row, pl_bd, pl_pt, pl_let, zn_set, zn_get, zn_rd, zn_wr, zn_1, zn_m, Nat.reduceAdd, c4], c4'⟩, zWd_mono c5 (by omega)⟩
      · by_cases e : v' = v
        · exact ⟨n, by omega, by rw [zup_at, e]⟩
        · have : zu (zu (zu t 49 v (Int32.ofNat p)) 47 v (Int32.ofNat n)) 39 p (Int32.ofNat (n + 1)) 49 v' = t 49 v' := by simp (disch := first | omega | decide | assumption) only [zu_same, zu_ne1, zu_ne2, zu_row, pl_bd, pl_pt, pl_let, zn_set, zn_get, zn_rd, zn_wr, zn_1, zn_m, Nat.reduceAdd]
          rw [this] at hq
          obtain ⟨k, k1, k2⟩ := a9 v' hv' hq
          exact ⟨k, by omega, by rw [zup_ne (by omega)]; exact k2⟩
