/-! where a process goes on, and what it holds there -/
def zRx (D : zCo) (N : Nat) (t : zS) (x y : Int32) : Prop := x = y ∨ zRe D N t x y
theorem zRx_tr {D : zCo} {N : Nat} {t : zS} {x y z : Int32} (hN : N ≤ 3000) (h : zRx D N t x y) (h2 : zRx D N t y z) : zRx D N t x z := by
  rcases h with h | h
  · rw [h]; exact h2
  · rcases h2 with h2 | h2
    · rw [← h2]; exact Or.inr h
    · refine Or.inr ?_
      rcases h with ⟨a1, a2⟩ | ⟨a, b, a1, a2, a3, a4, a5⟩
      · rcases h2 with ⟨b1, b2⟩ | ⟨c, d, b1, b2, b3, b4, b5⟩
        · exact Or.inl ⟨a1, b2⟩
        · rw [a2] at b3
          have := b1.1
          exact absurd (show (0 : Int32) ≤ -1 by rw [b3]; exact zn_0le (by omega)) zn_m1
      · rcases h2 with ⟨b1, b2⟩ | ⟨c, d, b1, b2, b3, b4, b5⟩
        · rw [b1] at a4
          have := a2.1
          exact absurd (show (0 : Int32) ≤ -1 by rw [a4]; exact zn_0le (by omega)) zn_m1
        · rw [a4] at b3
          have l1 := a2.1
          have l2 := b1.1
          have e := (zn_inj (by omega) (by omega)).mp b3
          subst e
          exact Or.inr ⟨a, d, a1, b2, a3, b4, zEqv_eq.tr _ _ _ a5 b5⟩
theorem zRx_m {D : zCo} {N : Nat} {t : zS} {x y : Int32} (hN : N ≤ 3000) (h : zRx D N t x y) (hy : y = -1) : x = -1 := by
  rcases h with h | h
  · rw [h]; exact hy
  · rcases h with ⟨a1, _⟩ | ⟨a, b, a1, a2, a3, a4, a5⟩
    · exact a1
    · rw [hy] at a4
      have := a2.1
      exact absurd (show (0 : Int32) ≤ -1 by rw [a4]; exact zn_0le (by omega)) zn_m1
/-- at a with states r -/
def zGoA (N n q : Nat) (t g : zS) (a : Int32) (r : Nat → Int32) : Prop := (a = -1 ∧ ∀ k, k < n → r k = -1) ∨ ∃ y, a = Int32.ofNat y ∧ zPath t q y ∧ ∀ k, k < n → zRx (zD t) N t (r k) (g y k)
theorem zGo_of {N n q : Nat} {t g : zS} {a : Int32} {r r2 : Nat → Int32} (hN : N ≤ 3000) (h : zGoA N n q t g a r2) (hr : ∀ k, k < n → zRx (zD t) N t (r k) (r2 k)) : zGoA N n q t g a r := by
  rcases h with ⟨h1, h2⟩ | ⟨y, h1, h2, h3⟩
  · exact Or.inl ⟨h1, fun k hk => zRx_m hN (hr k hk) (h2 k hk)⟩
  · exact Or.inr ⟨y, h1, h2, fun k hk => zRx_tr hN (hr k hk) (h3 k hk)⟩
/-- a process of proc q may only come to noted statements -/
theorem zPath_An {G : zTxt} {f : Nat → Nat} {N M P A T Q Pa bb S F C R W V n q : Nat} {o : Nat → Nat × Nat} {w : Nat → Nat} {t u g : zS} (h : zGd G f N M P A T Q Pa bb S F C R W V o w t u g) (hq : q < Q) (h39 : t 39 q = Int32.ofNat n) (hn : n ≤ 3000) : ∀ y, zPath t q y → zVis g y ∧ zAn (zD t) N Q n t g y := by
  obtain ⟨hx, hpq, _⟩ := h
  obtain ⟨n', p1, p2, p3, k, a, _, p4, p5, p6⟩ := hpq q hq
  have en : n' = n := by
    rw [h39] at p1
    exact ((zn_inj (by omega) (by omega)).mp p1).symm
  subst en
  have fin : ∀ y, zPath t q y → zVis g y → zVis g y ∧ zAn (zD t) N Q n' t g y := fun y h1 h2 => ⟨h2, p3 y (zPath_S hx hq y h1).2.1 h2⟩
  intro y hy
  refine fin y hy ?_
  refine zPath_ind (A := zVis g) (fun y h1 hy => ?_) (fun x y hp hA h1 hy => ?_) (fun h e y hp hA hb h1 hy => ?_) y hy
  · rcases p6 with ⟨c1, _⟩ | ⟨s, c1, c2, c3, _⟩
    · rw [c1] at h1
      exact absurd (show (0 : Int32) ≤ -1 by rw [h1]; exact zn_0le (by omega)) zn_m1
    · rw [c1] at h1
      have := (zn_inj (by have := (zTre_x hx).1; omega) (by omega)).mp h1
      subst this; exact c3
  · exact ((fin x hp hA).2.2 y h1 hy).1
  · rcases zBo_An hx (zPath_S hx hq h hp).1 hb (fin h hp hA).2.1 with ⟨_, b⟩ | ⟨_, r0, b, _⟩
    · rcases b with b | ⟨r, b1, b2, b3, _⟩
      · rw [b] at h1
        exact absurd (show (0 : Int32) ≤ -1 by rw [h1]; exact zn_0le (by omega)) zn_m1
      · rw [b1] at h1
        have := (zn_inj (by omega) (by omega)).mp h1
        subst this; exact b3
    · exact zBr_vis b h1 hy
/-- behind a statement that comes to its end -/
theorem zAft {G : zTxt} {f : Nat → Nat} {N M P A T Q Pa bb S F C R W V n q : Nat} {o : Nat → Nat × Nat} {w : Nat → Nat} {t u g : zS} (h : zGd G f N M P A T Q Pa bb S F C R W V o w t u g) (hq : q < Q) (h39 : t 39 q = Int32.ofNat n) (hn : n ≤ 3000) : ∀ z y, y < z → zPath t q y → g (6000 + y) 0 = 0 → zGoA N n q t g (t 103 y) (g (2000 + y)) := by
  have hx := h.1
  have tre := zTre_x hx
  have hS := tre.1
  have hN := hx.1.2.2.2.1
  intro z
  induction z with
  | zero => intro y h; omega
  | succ z ih =>
    intro y hyz hp h0
    obtain ⟨s1, s2, s3, j, r0, s4, s5, s6⟩ := zPath_S hx hq y hp
    obtain ⟨v1, v2, v3⟩ := zPath_An h hq h39 hn y hp
    obtain ⟨a1, a2, a3⟩ := h.2.2 y s1
    rcases (tre.2 y s1).1 with e | ⟨r, e1, e2, e3, _⟩
    · rcases s6 with ⟨c1, c2⟩ | ⟨p, eb, c1, c2, c3, c4, c5⟩
      · -- the end of the proc
        rw [a1 e c2]
        obtain ⟨n', p1, p2, p3, k, a, _, p4, p5, p6⟩ := h.2.1 q hq
        have en : n' = n := by
          rw [h39] at p1
          exact ((zn_inj (by omega) (by omega)).mp p1).symm
        subst en
        rcases p6 with ⟨d1, _⟩ | ⟨s, d1, d2, d3, d4, d5⟩
        · rw [d1] at c1
          exact absurd (show (0 : Int32) ≤ -1 by rw [c1]; exact zn_0le (by omega)) zn_m1
        · rw [d1] at c1
          have := (zn_inj (by omega) (by omega)).mp c1
          subst this
          rcases d5 j y s4 e with q' | ⟨_, q'⟩
          · rw [h0] at q'; exact absurd q' (by decide)
          · exact Or.inl ⟨rfl, q'⟩
      · obtain ⟨p1, _⟩ := zPath_S hx hq p c1
        obtain ⟨w1, w2, w3⟩ := zPath_An h hq h39 hn p c1
        obtain ⟨b1, b2⟩ := a3 p e c4 (by omega)
        rcases zBo_An hx p1 c2 w2 with ⟨k, b⟩ | ⟨k, r1, b, _⟩
        · rw [b1 k]
          rcases b with b | ⟨r, d1, d2, d3, d4, d5⟩
          · rw [c3] at b
            exact absurd (show (0 : Int32) ≤ -1 by rw [← b]; exact zn_0le (by omega)) zn_m1
          · rw [c3] at d1
            have := (zn_inj (by omega) (by omega)).mp d1
            subst this
            rcases d5 j y s4 e with q' | ⟨_, q'⟩
            · rw [h0] at q'; exact absurd q' (by decide)
            · exact Or.inr ⟨p, rfl, c1, fun k hk => Or.inr (q' k hk)⟩
        · rw [b2 k]
          rcases b with ⟨b, _⟩ | ⟨r, d1, d2, d3, d4, d5⟩
          · rw [c3] at b
            exact absurd (show (0 : Int32) ≤ -1 by rw [← b]; exact zn_0le (by omega)) zn_m1
          · rw [c3] at d1
            have := (zn_inj (by omega) (by omega)).mp d1
            subst this
            rcases d5 j y s4 e with q' | ⟨_, q1, q2⟩
            · rw [h0] at q'; exact absurd q' (by decide)
            · exact zGo_of hN (ih p (by omega) c1 q1) (fun k hk => Or.inr (q2 k hk))
    · obtain ⟨b1, b2, b3⟩ := v3 r e1 (by omega)
      rw [a2 r e1 (by omega)]
      exact Or.inr ⟨r, rfl, zPath_n hp e1 (by omega), fun k _ => Or.inl (by rw [b3])⟩
/-- into a BLOCK of if or case -/
theorem zGo_br {G : zTxt} {f : Nat → Nat} {N M P A T Q Pa bb S F C R W V n q y e : Nat} {o : Nat → Nat × Nat} {w : Nat → Nat} {t u g : zS} {r0 : Nat → Int32} (h : zGd G f N M P A T Q Pa bb S F C R W V o w t u g) (hq : q < Q) (h39 : t 39 q = Int32.ofNat n) (hn : n ≤ 3000) (hp : zPath t q y) (hb : zBo t y e) (hr : zBr (zD t) N n t g y (t 111 e) r0) : zGoA N n q t g (if t 111 e = -1 then t 103 y else t 111 e) r0 := by
  have hN := h.1.1.2.2.2.1
  rcases hr with ⟨h1, h2, h3⟩ | ⟨r, h1, h2, h3, h4, _⟩
  · rw [if_pos h1]
    exact zGo_of hN (zAft h hq h39 hn (y + 1) y (by omega) hp h2) (fun k hk => Or.inr (h3 k hk))
  · rw [if_neg (fun q => absurd (show (0 : Int32) ≤ -1 by rw [← q, h1]; exact zn_0le (by omega)) zn_m1)]
    exact Or.inr ⟨r, h1, zPath_b hp hb h1 h2, fun k hk => Or.inl (h4 k hk).symm⟩
theorem zGo_wb {G : zTxt} {f : Nat → Nat} {N M P A T Q Pa bb S F C R W V n q y e : Nat} {o : Nat → Nat × Nat} {w : Nat → Nat} {t u g : zS} (h : zGd G f N M P A T Q Pa bb S F C R W V o w t u g) (hp : zPath t q y) (hb : zBo t y e) (hr : zWb (zD t) N n t g y (t 111 e)) : zGoA N n q t g (if t 111 e = -1 then Int32.ofNat y else t 111 e) (g y) := by
  rcases hr with h1 | ⟨r, h1, h2, h3, h4, _⟩
  · rw [if_pos h1]
    exact Or.inr ⟨y, rfl, hp, fun k hk => Or.inl rfl⟩
  · rw [if_neg (fun q => absurd (show (0 : Int32) ≤ -1 by rw [← q, h1]; exact zn_0le (by omega)) zn_m1)]
    exact Or.inr ⟨r, h1, zPath_b hp hb h1 h2, fun k hk => Or.inl (h4 k hk).symm⟩
/-- a process begins -/
theorem zGo_0 {G : zTxt} {f : Nat → Nat} {N M P A T Q Pa bb S F C R W V n q a k : Nat} {o : Nat → Nat × Nat} {w : Nat → Nat} {t u g : zS} (h : zGd G f N M P A T Q Pa bb S F C R W V o w t u g) (hq : q < Q) (h39 : t 39 q = Int32.ofNat n) (hn : n ≤ 3000) (h37 : t 37 q = Int32.ofNat k) (h35 : t 35 q = Int32.ofNat a) (hk : k ≤ 3000) (ha : a ≤ 3000) : zGoA N n q t g (t 41 q) (zRz (zD t) t a k) := by
  have hS := (zTre_x h.1).1
  obtain ⟨n', p1, p2, p3, k', a', ⟨b1, b2⟩, p4, p5, p6⟩ := h.2.1 q hq
  have en : n' = n := by
    rw [h39] at p1
    exact ((zn_inj (by omega) (by omega)).mp p1).symm
  subst en
  have ek : k' = k := by
    rw [h37] at p4
    exact ((zn_inj (by omega) (by omega)).mp p4).symm
  have ea : a' = a := by
    rw [h35] at p5
    exact ((zn_inj (by omega) (by omega)).mp p5).symm
  subst ek; subst ea
  rcases p6 with ⟨d1, d2⟩ | ⟨s, d1, d2, d3, d4, d5⟩
  · exact Or.inl ⟨d1, d2⟩
  · exact Or.inr ⟨s, d1, zPath_0 d1 (by omega), fun x hx => Or.inl (d4 x hx).symm⟩
