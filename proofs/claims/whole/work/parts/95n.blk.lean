/-! CHECK: BLOCKS in lockstep -/
def zBadC (t u : zS) (b : Int32) (t2 u2 : zS) : Prop := zCf t t2 ∧ zCm u u2 ∧ (b = 0 ∨ b = 1) ∧ ∃ p, 0 ≤ p ∧ t2 6 6 = p ∧ u2 0 67 = p ∧ t2 6 5 = t 6 5
/-- what stays while the statements of Rg are checked -/
def zFrC (w : Nat → Nat) (n d kp : Nat) (Rg : Nat → Prop) (t u g t2 u2 g2 : zS) : Prop := zCf t t2 ∧ zCm u u2 ∧ t2 6 = t 6 ∧ u2 0 67 = -1 ∧ u2 0 68 = u 0 68 ∧ u2 0 70 = u 0 70 ∧ (∀ k, n ≤ k → k < n * (1 + 2 * d) → t2 58 k = t 58 k) ∧ (∀ k, k < 1500 * d → u2 42 k = u 42 k) ∧ (∀ k, k < kp → u2 43 k = u 43 k) ∧ (∀ x, x < 1000 → ¬ Rg x → t2 107 x = t 107 x ∧ zGs g g2 x) ∧ ∀ e, e < 1600 → ¬ Rg (w e) → t2 113 e = t 113 e
theorem zFrC_trans {w : Nat → Nat} {n d kp : Nat} {R1 R2 R3 : Nat → Prop} {t u g t1 u1 g1 t2 u2 g2 : zS} (h : zFrC w n d kp R1 t u g t1 u1 g1) (h2 : zFrC w n d kp R2 t1 u1 g1 t2 u2 g2) (e1 : ∀ x, R1 x → R3 x) (e2 : ∀ x, R2 x → R3 x) : zFrC w n d kp R3 t u g t2 u2 g2 := by
  obtain ⟨a1, a2, a3, a4, a5, a6, a7, a8, a9, a10, a11⟩ := h
  obtain ⟨b1, b2, b3, b4, b5, b6, b7, b8, b9, b10, b11⟩ := h2
  refine ⟨zCf_trans a1 b1, zCm_trans a2 b2, b3.trans a3, b4, b5.trans a5, b6.trans a6, fun k k1 k2 => (b7 k k1 k2).trans (a7 k k1 k2), fun k hk => (b8 k hk).trans (a8 k hk), fun k hk => (b9 k hk).trans (a9 k hk), fun x hx hn => ?_, fun e he hn => ?_⟩
  · obtain ⟨p1, p2, p3, p4⟩ := a10 x hx (fun q => hn (e1 x q))
    obtain ⟨q1, q2, q3, q4⟩ := b10 x hx (fun q => hn (e2 x q))
    exact ⟨q1.trans p1, q2.trans p2, q3.trans p3, q4.trans p4⟩
  · exact (b11 e he (fun q => hn (e2 _ q))).trans (a11 e he (fun q => hn (e1 _ q)))
/-- a good statement behind it -/
def zStG (w : Nat → Nat) (f : Nat → Nat) (N Q S n d kp s : Nat) (t u g : zS) (b : Int32) (t2 u2 g2 : zS) : Prop := (b = 0 ∨ b = 1) ∧ zFrC w n d kp (fun x => zSub t s x ∧ x < S) t u g t2 u2 g2 ∧ zKp N t2 ∧ zRw f N n d t2 u2 ∧ g2 s = t 58 ∧ g2 (2000 + s) = t2 58 ∧ g2 (6000 + s) 0 = b ∧ zVis g2 s ∧ zAn0 (zD t) N Q n t2 g2 s ∧ ∀ x, zSub t s x → ¬ x = s → x < S → zVis g2 x → zAn (zD t) N Q n t2 g2 x
/-- checkers of a statement at depth d -/
def zPS (G : zTxt) (f : Nat → Nat) (N M P A T Q Pa bb S F C R W V : Nat) (o : Nat → Nat × Nat) (w : Nat → Nat) (n q d : Nat) (sc sm : Int32 → Int32 → zS → zR) : Prop := ∀ (t u g : zS) (kp s : Nat), zCx G f N M P A T Q Pa bb S F C R W V o w t u → zCk f N n d q t u → u 0 70 = Int32.ofNat kp → kp ≤ n * d → s < S → o s = (d, q) → (∀ x, x < S → zSub t s x → ¬ zVis g x) →
  ∃ b b' t2 u2 g2, sc (Int32.ofNat s) (Int32.ofNat d) t = some (b, t2) ∧ sm (Int32.ofNat s) (Int32.ofNat d) u = some (b', u2) ∧
    (zBadC t u b t2 u2 ∨ (t 87 s = 9 ∧ 0 ≤ t 99 s ∧ b = 1 ∧ b' = 1 ∧ t2 6 6 = -1 ∧ u2 0 67 = t 89 s ∧ zCf t t2 ∧ zCm u u2 ∧ t2 6 5 = t 6 5) ∨ (b' = b ∧ zStG w f N Q S n d kp s t u g b t2 u2 g2))
/-- a good rest of a BLOCK behind it -/
def zBkG (w : Nat → Nat) (f : Nat → Nat) (N Q S n d kp s : Nat) (t u g : zS) (b : Int32) (t2 u2 g2 : zS) : Prop := (b = 0 ∨ b = 1) ∧ zFrC w n d kp (zReg S t s) t u g t2 u2 g2 ∧ zKp N t2 ∧ zRw f N n d t2 u2 ∧ g2 s = t 58 ∧ zVis g2 s ∧ (∀ x, zReg S t s x → zVis g2 x → zAn (zD t) N Q n t2 g2 x) ∧ ∀ j y, zNxt t j s y → t 99 y = -1 → g2 (2000 + y) = t2 58 ∧ g2 (6000 + y) 0 = b
/-- checkers of a BLOCK at depth d -/
def zPC (G : zTxt) (f : Nat → Nat) (N M P A T Q Pa bb S F C R W V : Nat) (o : Nat → Nat × Nat) (w : Nat → Nat) (n q d : Nat) (bc bm : Int32 → Int32 → zS → zR) : Prop := ∀ (t u g : zS) (kp s : Nat), zCx G f N M P A T Q Pa bb S F C R W V o w t u → zCk f N n d q t u → u 0 70 = Int32.ofNat kp → kp ≤ n * d → s < S → o s = (d, q) → (∀ x, zReg S t s x → ¬ zVis g x) →
  ∃ b b' t2 u2 g2, bc (Int32.ofNat s) (Int32.ofNat d) t = some (b, t2) ∧ bm (Int32.ofNat s) (Int32.ofNat d) u = some (b', u2) ∧ (zBadC t u b t2 u2 ∨ (b' = b ∧ zBkG w f N Q S n d kp s t u g b t2 u2 g2))
/-- the owner of a branch -/
theorem zOwn {G : zTxt} {f : Nat → Nat} {N M P A T Q Pa bb S F C R W V x m : Nat} {e : Nat → Nat} {o : Nat → Nat × Nat} {w : Nat → Nat} {t u : zS} (hx : zCx G f N M P A T Q Pa bb S F C R W V o w t u) (hs : x < S) (hk : t 87 x = 7 ∨ t 87 x = 10 ∨ t 87 x = 12) (hl : zLk (t 115) 1600 m (t 105 x) e) : ∀ i, i < m → w (e i) = x ∧ (t 111 (e i) = -1 ∨ ∃ r, t 111 (e i) = Int32.ofNat r ∧ r < S ∧ t 101 r = Int32.ofNat x ∧ o r = ((o x).1 + 1, (o x).2) ∧ o (10000 + r) = (r, 0)) := by
  obtain ⟨hg, hb, hK, hP, hCp, hF, hC, hS, hQ, hR2, hW, hV, hbb, hPa⟩ := hx
  have hst := (hP.2.2.2.2.2.2.2.2.2.2.2.2.2.2.2 x hs).1.2
  have bl : ∀ (beh a b : Int32), zBl t o x S beh a b → (a = -1 ∨ ∃ r, a = Int32.ofNat r ∧ r < S ∧ t 101 r = Int32.ofNat x ∧ o r = ((o x).1 + 1, (o x).2) ∧ o (10000 + r) = (r, 0)) := fun beh a b q => by
    rcases q with q | ⟨r, q1, _, _, q4, q5, q6⟩
    · exact Or.inl q.1
    · exact Or.inr ⟨r, q1, q4, q6, q5.1, q5.2⟩
  -- the chain is unique
  have uni : ∀ (m' : Nat) (e' : Nat → Nat), zLk (t 115) W m' (t 105 x) e' → ∀ i, i < m → i < m' ∧ e i = e' i := by
    intro m' e' hl'
    intro i
    induction i with
    | zero =>
      intro h0
      have h1 := hl.1
      have h2 := hl'.1
      rw [if_neg (by omega)] at h1
      have l1 := (hl.2 0 h0).1
      by_cases c : m' = 0
      · rw [if_pos c] at h2
        rw [h2] at h1
        exact absurd (show (0 : Int32) ≤ -1 by rw [h1]; exact zn_0le (by omega)) zn_m1
      · rw [if_neg c] at h2
        have l2 := (hl'.2 0 (by omega)).1
        rw [h2] at h1
        exact ⟨by omega, ((zn_inj (by omega) (by omega)).mp h1).symm⟩
    | succ i ih =>
      intro h0
      obtain ⟨a1, a2⟩ := ih (by omega)
      have b1 := (hl.2 i (by omega)).2
      have b2 := (hl'.2 i a1).2
      have l1 := (hl.2 (i + 1) h0).1
      rw [if_pos h0, a2, b2] at b1
      by_cases c : i + 1 < m'
      · rw [if_pos c] at b1
        have l2 := (hl'.2 (i + 1) c).1
        exact ⟨c, ((zn_inj (by omega) (by omega)).mp b1).symm⟩
      · rw [if_neg c] at b1
        exact absurd (show (0 : Int32) ≤ -1 by rw [b1]; exact zn_0le (by omega)) zn_m1
  rcases hst with ⟨e1, _⟩ | ⟨e1, _⟩ | ⟨e1, _⟩ | ⟨e1, _⟩ | ⟨e1, _⟩ | ⟨e1, _, _, _, e5, _⟩ | ⟨e1, _⟩ | ⟨e1, _, _, _, _, e5, _⟩ | ⟨e1, _, _, _, _, e5, _⟩
  · exact absurd hk (by rcases e1 with e | e <;> rw [e.1] <;> decide)
  · exact absurd hk (by rw [e1]; decide)
  · exact absurd hk (by rcases e1 with e | e | e <;> rw [e.1] <;> decide)
  · exact absurd hk (by rw [e1]; decide)
  · exact absurd hk (by rw [e1]; decide)
  · obtain ⟨m', a, e', c1, c2, c3, c4, c5, c6, c7⟩ := e5
    intro i hi
    obtain ⟨u1, u2⟩ := uni m' e' c2 i hi
    obtain ⟨d1, d2, d3⟩ := c6 i u1
    rw [u2]
    exact ⟨d3, bl _ _ _ d2⟩
  · exact absurd hk (by rcases e1 with e | e | e <;> rw [e.1] <;> decide)
  · obtain ⟨e0, e1', c1, c2, c3, c4, c5, c6, c7, c8, c9, _⟩ := e5
    have lk : zLk (t 115) W 2 (t 105 x) (fun i => if i = 0 then e0 else e1') := ⟨by rw [if_neg (by decide)]; exact c3, fun j hj => by
      by_cases ej : j = 0
      · subst ej
        exact ⟨c1, c4⟩
      · have : j = 1 := by omega
        subst this
        exact ⟨c2, c5⟩⟩
    intro i hi
    obtain ⟨u1, u2⟩ := uni 2 _ lk i hi
    rw [u2]
    by_cases ei : i = 0
    · rw [if_pos ei]; exact ⟨c8, bl _ _ _ c6⟩
    · rw [if_neg ei]; exact ⟨c9, bl _ _ _ c7⟩
  · obtain ⟨e0, c1, c2, c3, c4, c5⟩ := e5
    have lk : zLk (t 115) W 1 (t 105 x) (fun _ => e0) := ⟨by rw [if_neg (by decide)]; exact c2, fun j hj => ⟨c1, by rw [if_neg (by omega)]; exact c3⟩⟩
    intro i hi
    obtain ⟨u1, u2⟩ := uni 1 _ lk i hi
    rw [u2]
    exact ⟨c5, bl _ _ _ c4⟩
