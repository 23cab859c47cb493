/-! one word further on both sides -/
theorem zn_neg {k : Nat} (h : k < 2147483648) : ¬ Int32.ofNat k < 0 := fun w => by
  have := (zn_lt (b := 0) h (by decide)).mp w
  omega
theorem zn_0le {k : Nat} (h : k < 2147483648) : (0 : Int32) ≤ Int32.ofNat k := (zofn h).1
theorem zskip_congr {g g2 : Nat → Int32} {n : Nat} (h : ∀ j, j < n → g j = g2 j) : ∀ d p, zskip g n d p = zskip g2 n d p := by
  intro d
  induction d with
  | zero => intro p; rfl
  | succ d ih =>
    intro p
    unfold zskip
    by_cases c : p < n
    · rw [h p c, ih (p + 1)]
    · rw [if_neg (fun w => c w.1), if_neg (fun w => c w.1)]
theorem zrun_congr {f : Int32 → Bool} {g g2 : Nat → Int32} {n : Nat} (h : ∀ j, j < n → g j = g2 j) : ∀ d p, zrun f g n d p = zrun f g2 n d p := by
  intro d
  induction d with
  | zero => intro p; rfl
  | succ d ih =>
    intro p
    unfold zrun
    by_cases c : p < n
    · rw [h p c, ih (p + 1)]
    · rw [if_neg (fun w => c w.1), if_neg (fun w => c w.1)]
theorem z61_congr {g g2 : Nat → Int32} {n p : Nat} (h : ∀ j, j < n → g j = g2 j) (hp : p < n) : (g p = 61 ∧ p + 1 < n ∧ g (p + 1) = 61) ↔ (g2 p = 61 ∧ p + 1 < n ∧ g2 (p + 1) = 61) := by
  rw [h p hp]
  constructor
  · rintro ⟨a, b, c⟩; exact ⟨a, b, by rw [← h _ b]; exact c⟩
  · rintro ⟨a, b, c⟩; exact ⟨a, b, by rw [h _ b]; exact c⟩
theorem zend_congr {g g2 : Nat → Int32} {n p : Nat} (h : ∀ j, j < n → g j = g2 j) (hp : p < n) : zend g n p = zend g2 n p := by
  have e := z61_congr h hp
  unfold zend
  rw [zrun_congr h, zrun_congr h, h p hp]
  rw [h p hp] at e
  by_cases c : g2 p = 61 ∧ p + 1 < n ∧ g2 (p + 1) = 61
  · rw [if_pos (e.mpr c), if_pos c]
  · rw [if_neg (fun w => c (e.mp w)), if_neg c]
theorem zpos_congr {g g2 : Nat → Int32} {n : Nat} (h : ∀ j, j < n → g j = g2 j) : ∀ j, zpos g n j = zpos g2 n j := by
  intro j
  induction j with
  | zero => exact zskip_congr h _ _
  | succ j ih =>
    unfold zpos
    rw [ih]
    by_cases c : zpos g2 n j < n
    · rw [if_pos c, if_pos c, zend_congr h c, zskip_congr h]
    · rw [if_neg c, if_neg c]
theorem znum_congr {g g2 : Nat → Int32} {n : Nat} (h : ∀ j, j < n → g j = g2 j) : ∀ (m p : Nat) (v : Int32), p + m ≤ n → znum g m p v = znum g2 m p v := by
  intro m
  induction m with
  | zero => intro p v _; rfl
  | succ m ih => intro p v hp; unfold znum; rw [h p (by omega)]; exact ih _ _ (by omega)
theorem zWds_congr {g g2 : Nat → Int32} {n m : Nat} {V : Nat → Nat} {t : zS} (h : ∀ j, j < n → g j = g2 j) (w : zWds g n m V t) : zWds g2 n m V t := by
  obtain ⟨a1, a2, a3, a4, a5, a6, a7⟩ := w
  have ep := zpos_congr h
  have lt : ∀ j, j < m → zpos g2 n j < n := fun j hj => by rw [← ep]; exact (a3 j hj).1
  have ee : ∀ j, j < m → zend g n (zpos g2 n j) = zend g2 n (zpos g2 n j) := fun j hj => zend_congr h (lt j hj)
  have eg : ∀ j, j < m → g (zpos g2 n j) = g2 (zpos g2 n j) := fun j hj => h _ (lt j hj)
  refine ⟨by rw [← ep]; exact a1, a2, fun j hj => ⟨lt j hj, ?_, ?_⟩, a4, a5, fun j k hj hk hlj hlk => ?_, fun j k hj hk hlj => ?_⟩
  · have := (a3 j hj).2.1
    have hz := zend_lt (g := g2) (lt j hj)
    unfold zRow at this ⊢
    rw [ep, eg j hj, ee j hj, znum_congr h _ _ _ (by omega)] at this
    have e4 : zsgk g n (zpos g2 n j) = zsgk g2 n (zpos g2 n j) := by
      have e := z61_congr h (lt j hj)
      unfold zsgk
      rw [eg j hj]
      rw [eg j hj] at e
      by_cases c : g2 (zpos g2 n j) = 61 ∧ zpos g2 n j + 1 < n ∧ g2 (zpos g2 n j + 1) = 61
      · rw [if_pos (e.mpr c), if_pos c]
      · rw [if_neg (fun w => c (e.mp w)), if_neg c]
    rw [e4] at this
    exact this
  · have := (a3 j hj).2.2
    rw [ep, eg j hj] at this; exact this
  · have := a6 j k hj hk (by rw [ep, eg j hj]; exact hlj) (by rw [ep, eg k hk]; exact hlk)
    rw [this]
    unfold zTx
    rw [ep, ep, ee j hj, ee k hk]
    have hz := zend_lt (g := g2) (lt j hj)
    have hz2 := zend_lt (g := g2) (lt k hk)
    constructor
    · rintro ⟨c1, c2⟩; exact ⟨c1, fun i hi => by rw [← h _ (by omega), ← h _ (by omega)]; exact c2 i hi⟩
    · rintro ⟨c1, c2⟩; exact ⟨c1, fun i hi => by rw [h _ (by omega), h _ (by omega)]; exact c2 i hi⟩
  · have := a7 j k hj hk (by rw [ep, eg j hj]; exact hlj)
    rw [this]
    unfold zKn
    rw [ep, ee j hj]
    have hz := zend_lt (g := g2) (lt j hj)
    constructor
    · rintro ⟨c1, c2⟩; exact ⟨c1, fun i hi => by rw [← h _ (by omega)]; exact c2 i hi⟩
    · rintro ⟨c1, c2⟩; exact ⟨c1, fun i hi => by rw [h _ (by omega)]; exact c2 i hi⟩
/-- a word as the class has it (kind c, value x) and as the reference has it (r, y) -/
def zWC (B : List Nat) (c x r y : Int32) : Prop := (∃ k, k < 17 ∧ c = Int32.ofNat k ∧ r = 5 ∧ y = Int32.ofNat (k + 1)) ∨ (c = 17 ∧ r = 2 ∧ ∃ v w, x = Int32.ofNat v ∧ y = Int32.ofNat w ∧ 17 ≤ v ∧ v < 1600 ∧ B[w]? = some v) ∨ (c = 18 ∧ r = 3 ∧ x = y) ∨ (c = 19 ∧ r = 0) ∨ (c = 20 ∧ r = 1) ∨ (c = 256 ∧ r = 4 ∧ y = 69) ∨ (c ∈ zSgs ∧ r = 4 ∧ y = c)
def zTxt : Type := (Nat → Int32) × Nat × Nat × (Nat → Nat)
/-- all names of a text, in the reference's order -/
def zBk (G : zTxt) : List Nat := zNs G.1 G.2.1 G.2.2.1 G.2.2.2 (G.2.2.1 + 1)
/-- both stand at word i, and nothing is wrong yet -/
def zAt (G : zTxt) (i : Nat) (t u : zS) : Prop := zWds G.1 G.2.1 G.2.2.1 G.2.2.2 t ∧ u 2 = G.1 ∧ u 0 3 = Int32.ofNat G.2.1 ∧ G.2.1 ≤ 3000 ∧ i ≤ G.2.2.1 ∧ t 5 8 = Int32.ofNat i ∧ t 5 9 = t 67 (3 * i) ∧ t 5 10 = t 67 (3 * i + 1) ∧ t 5 11 = t 67 (3 * i + 2) ∧ t 5 12 = -1 ∧ u 0 9 = -1 ∧ zNM G.1 G.2.1 G.2.2.1 G.2.2.2 (i + 1) u ∧ zWM G.1 G.2.1 G.2.2.1 G.2.2.2 i u
theorem zAt_w {G : zTxt} {i : Nat} {t u : zS} (h : zAt G i t u) : zWC (zBk G) (t 5 9) (t 5 11) (u 0 5) (u 0 8) ∧ t 5 10 = u 0 6 ∧ t 5 10 = Int32.ofNat (zpos G.1 G.2.1 i) ∧ (t 5 9 = 19 ↔ i = G.2.2.1) := by
  obtain ⟨g, n, m, V⟩ := G
  obtain ⟨a1, a2, a3, a4, a5, a6, a7, a8, a9, a10, a11, a12, a13⟩ := h
  dsimp only at *
  rw [a7, a8, a9]
  rcases Nat.lt_or_ge i m with hi | hi
  · obtain ⟨b1, b2, b3⟩ := a1.2.2.1 i hi
    obtain ⟨c1, c2, c3, c4⟩ := b2
    obtain ⟨d1, d2, d3⟩ := a13
    obtain ⟨e1, e2, e3, e4⟩ := d3 b1
    refine ⟨?_, by rw [c1, d1], c1, ?_⟩
    · cases hl : zltb (g (zpos g n i)) with
      | true =>
        obtain ⟨f1, f2⟩ := c2 hl
        obtain ⟨h1, h2⟩ := e2 hl
        by_cases q : V i < 17
        · obtain ⟨h3, h4⟩ := h1 q
          rw [if_pos q] at f1
          exact Or.inl ⟨V i, q, f1, h3, h4⟩
        · obtain ⟨h3, w, h4, h5⟩ := h2 (by omega)
          rw [if_neg q] at f1
          refine Or.inr (Or.inl ⟨f1, h3, V i, w, f2, h4, by omega, b3 hl, ?_⟩)
          have := zLs_mono h5 (m - i)
          rw [show i + 1 + (m - i) = m + 1 by omega] at this
          exact this
      | false =>
        cases hd : zdig (g (zpos g n i)) with
        | true =>
          obtain ⟨f1, f2⟩ := c3 hl hd
          obtain ⟨h1, h2⟩ := e3 hl hd
          by_cases q : zend g n (zpos g n i) - zpos g n i ≤ 9
          · rw [if_pos q] at f1 h1
            exact Or.inr (Or.inr (Or.inl ⟨f1, h1, by rw [f2, h2 q]⟩))
          · rw [if_neg q] at f1 h1
            exact Or.inr (Or.inr (Or.inr (Or.inr (Or.inl ⟨f1, h1⟩))))
        | false =>
          obtain ⟨f1, f2⟩ := c4 hl hd
          obtain ⟨h1, h2⟩ := e4 hl hd
          unfold zsgk at f1
          by_cases q : g (zpos g n i) = 61 ∧ zpos g n i + 1 < n ∧ g (zpos g n i + 1) = 61
          · rw [if_pos q] at f1 h2
            rw [if_pos (by rw [q.1]; decide)] at h1
            exact Or.inr (Or.inr (Or.inr (Or.inr (Or.inr (Or.inl ⟨f1, h1, h2⟩)))))
          · rw [if_neg q] at f1 h2
            by_cases q2 : g (zpos g n i) ∈ zSgs
            · rw [if_pos q2] at f1 h1
              exact Or.inr (Or.inr (Or.inr (Or.inr (Or.inr (Or.inr ⟨by rw [f1]; exact q2, h1, by rw [h2, f1]⟩)))))
            · rw [if_neg q2] at f1 h1
              exact Or.inr (Or.inr (Or.inr (Or.inr (Or.inl ⟨f1, h1⟩))))
    · refine ⟨fun e => ?_, fun e => by omega⟩
      exfalso
      cases hl : zltb (g (zpos g n i)) with
      | true =>
        obtain ⟨f1, f2⟩ := c2 hl
        rw [f1] at e
        by_cases q : V i < 17
        · rw [if_pos q] at e
          have := (zn_inj (a := V i) (b := 19) (by omega) (by decide)).mp e
          omega
        · rw [if_neg q] at e; exact absurd e (by decide)
      | false =>
        cases hd : zdig (g (zpos g n i)) with
        | true =>
          obtain ⟨f1, f2⟩ := c3 hl hd
          rw [f1] at e
          by_cases q : zend g n (zpos g n i) - zpos g n i ≤ 9
          · rw [if_pos q] at e; exact absurd e (by decide)
          · rw [if_neg q] at e; exact absurd e (by decide)
        | false =>
          obtain ⟨f1, f2⟩ := c4 hl hd
          rw [f1] at e
          unfold zsgk at e
          by_cases q : g (zpos g n i) = 61 ∧ zpos g n i + 1 < n ∧ g (zpos g n i + 1) = 61
          · rw [if_pos q] at e; exact absurd e (by decide)
          · rw [if_neg q] at e
            by_cases q2 : g (zpos g n i) ∈ zSgs
            · rw [if_pos q2] at e
              rw [e] at q2
              exact absurd q2 (by decide)
            · rw [if_neg q2] at e; exact absurd e (by decide)
  · have e : i = m := by omega
    subst e
    obtain ⟨b1, b2, b3⟩ := a1.2.2.2.1
    obtain ⟨d1, d2, d3⟩ := a13
    have hz := a1.1
    refine ⟨Or.inr (Or.inr (Or.inr (Or.inl ⟨b1, (d2 hz).1⟩))), by rw [b2, d1, hz], by rw [b2, hz], ?_⟩
    rw [b1]; exact ⟨fun _ => rfl, fun _ => rfl⟩
/-- what a step of the class's reader touches -/
def zSfr (t t2 : zS) : Prop := (∀ k, k ≠ 5 → t2 k = t k) ∧ ∀ j, j ≠ 8 → j ≠ 9 → j ≠ 10 → j ≠ 11 → t2 5 j = t 5 j
theorem zAt_step {G : zTxt} {i : Nat} {t u : zS} (h : zAt G i t u) (hi : ¬ t 5 9 = 19) : ∃ t2 u2, mX7_step t = some (0, t2) ∧ mX12_next u = some (0, u2) ∧ zAt G (i + 1) t2 u2 ∧ zSfr t t2 ∧ zMfr u u2 := by
  have hw := zAt_w h
  obtain ⟨g, n, m, V⟩ := G
  obtain ⟨a1, a2, a3, a4, a5, a6, a7, a8, a9, a10, a11, a12, a13⟩ := h
  dsimp only at *
  have him : i < m := by
    rcases Nat.lt_or_ge i m with q | q
    · exact q
    · exact absurd (hw.2.2.2.mpr (by omega)) hi
  have hp := (a1.2.2.1 i him).1
  have hz := zend_lt (g := g) hp
  have hmn := a1.2.1
  obtain ⟨u2, r1, r2, r3, r4⟩ := pl_next (i := i + 1) (p0 := zend g n (zpos g n i)) (zWf_of a1) a4 a2 a3 (a13.2.2 hp).1 hz.2 (by
    show _ = (if zpos g n i < n then zskip g n (n - zend g n (zpos g n i)) (zend g n (zpos g n i)) else n)
    rw [if_pos hp]) (by omega) a12
  have e3 : (3 : Int32) * Int32.ofNat (i + 1) = Int32.ofNat (3 * (i + 1)) := zn_mul 3 (i + 1)
  have e1 : Int32.ofNat (3 * (i + 1)) + 1 = Int32.ofNat (3 * (i + 1) + 1) := zn_1 _
  have e2 : Int32.ofNat (3 * (i + 1)) + 2 = Int32.ofNat (3 * (i + 1) + 2) := zn_add (3 * (i + 1)) 2
  refine ⟨zu (zu (zu (zu t 5 8 (Int32.ofNat (i + 1))) 5 9 (t 67 (3 * (i + 1)))) 5 10 (t 67 (3 * (i + 1) + 1))) 5 11 (t 67 (3 * (i + 1) + 2)), u2, ?_, r1, ?_, ?_, r2⟩
  · unfold mX7_step
    rw [pl_pt, a6, zn_1, pl_let, zu_same, e3, e1, e2, if_neg (by rw [zu_ne2 (by decide), a10]; decide), if_neg (zn_neg (by omega)), if_neg (show ¬ (9003 : Int32) ≤ Int32.ofNat (3 * (i + 1) + 2) from fun w => by have := (zn_le (a := 9003) (by decide) (by omega)).mp w; omega)]
    rw [zn_rd (by omega) (by decide), pl_pt, zn_rd (by omega) (by decide), pl_pt, zn_rd (by omega) (by decide), pl_pt]
    simp only [zu_row (show (67 : Nat) ≠ 5 by decide)]
  · refine ⟨?_, by rw [r2.1 2 (by decide) (by decide) (by decide)]; exact a2, by rw [r2.2 3 (by decide) (by decide) (by decide) (by decide) (by decide) (by decide)]; exact a3, a4, (show i + 1 ≤ m by omega), by simp [zu], by simp [zu], by simp [zu], by simp [zu], by simp [zu, a10], by rw [r2.2 9 (by decide) (by decide) (by decide) (by decide) (by decide) (by decide)]; exact a11, r3, r4⟩
    unfold zWds at a1 ⊢
    simp only [zu_row (show (67 : Nat) ≠ 5 by decide), zu_row (show (50 : Nat) ≠ 5 by decide)]
    exact a1
  · refine ⟨fun k hk => ?_, fun j j1 j2 j3 j4 => ?_⟩
    · rw [zu_row hk, zu_row hk, zu_row hk, zu_row hk]
    · rw [zu_ne2 j4, zu_ne2 j3, zu_ne2 j2, zu_ne2 j1]
