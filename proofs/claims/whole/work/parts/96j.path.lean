/-! what a process may come to -/
/-- e is a BLOCK of h -/
def zBo (t : zS) (h e : Nat) : Prop := (t 87 h = 7 ∨ t 87 h = 10 ∨ t 87 h = 12) ∧ ∃ m e' i, zLk (t 115) 1600 m (t 105 h) e' ∧ i < m ∧ e' i = e
def zPt (t : zS) (q : Nat) : Nat → Nat → Prop
  | 0, y => t 41 q = Int32.ofNat y ∧ y < 1000
  | n + 1, y => zPt t q n y ∨ (∃ x, zPt t q n x ∧ t 99 x = Int32.ofNat y ∧ y < 1000) ∨ ∃ h e, zPt t q n h ∧ zBo t h e ∧ t 111 e = Int32.ofNat y ∧ y < 1000
def zPath (t : zS) (q y : Nat) : Prop := ∃ n, zPt t q n y
theorem zPath_0 {t : zS} {q y : Nat} (h : t 41 q = Int32.ofNat y) (hy : y < 1000) : zPath t q y := ⟨0, h, hy⟩
theorem zPath_n {t : zS} {q x y : Nat} (h : zPath t q x) (h1 : t 99 x = Int32.ofNat y) (hy : y < 1000) : zPath t q y := by
  obtain ⟨n, h⟩ := h
  exact ⟨n + 1, Or.inr (Or.inl ⟨x, h, h1, hy⟩)⟩
theorem zPath_b {t : zS} {q h e y : Nat} (hp : zPath t q h) (hb : zBo t h e) (h1 : t 111 e = Int32.ofNat y) (hy : y < 1000) : zPath t q y := by
  obtain ⟨n, hp⟩ := hp
  exact ⟨n + 1, Or.inr (Or.inr ⟨h, e, hp, hb, h1, hy⟩)⟩
theorem zPath_ind {t : zS} {q : Nat} {A : Nat → Prop} (h0 : ∀ y, t 41 q = Int32.ofNat y → y < 1000 → A y) (h1 : ∀ x y, zPath t q x → A x → t 99 x = Int32.ofNat y → y < 1000 → A y) (h2 : ∀ h e y, zPath t q h → A h → zBo t h e → t 111 e = Int32.ofNat y → y < 1000 → A y) : ∀ y, zPath t q y → A y := by
  have all : ∀ n y, zPt t q n y → A y := by
    intro n
    induction n with
    | zero => intro y h; exact h0 y h.1 h.2
    | succ n ih =>
      intro y h
      rcases h with h | ⟨x, a1, a2, a3⟩ | ⟨x, e, a1, a2, a3, a4⟩
      · exact ih y h
      · exact h1 x y ⟨n, a1⟩ (ih x a1) a2 a3
      · exact h2 x e y ⟨n, a1⟩ (ih x a1) a2 a3 a4
  intro y ⟨n, h⟩
  exact all n y h
/-- a good program, checked and settled -/
def zGd (G : zTxt) (f : Nat → Nat) (N M P A T Q Pa bb S F C R W V : Nat) (o : Nat → Nat × Nat) (w : Nat → Nat) (t u g : zS) : Prop := zCx G f N M P A T Q Pa bb S F C R W V o w t u ∧ (∀ q, q < Q → zPq N Q S q t g) ∧ zAf S t
theorem zNxt_snoc {t : zS} : ∀ (k r x y : Nat), zNxt t k r x → t 99 x = Int32.ofNat y → y < 1000 → zNxt t (k + 1) r y := by
  intro k
  induction k with
  | zero => intro r x y h h1 hy; have : x = r := h; subst this; exact ⟨y, h1, hy, rfl⟩
  | succ k ih =>
    intro r x y h h1 hy
    obtain ⟨z, z1, z2, z3⟩ := h
    exact ⟨z, z1, z2, ih z x y z3 h1 hy⟩
theorem zSub_in {t : zS} {y h r : Nat} (hs : zSub t y h) (h1 : t 101 r = Int32.ofNat h) (hh : h < 1000) : zSub t y r := by
  obtain ⟨k, hs⟩ := hs
  exact ⟨k + 1, h, h1, hh, hs⟩
theorem zBo_own {G : zTxt} {f : Nat → Nat} {N M P A T Q Pa bb S F C R W V h e : Nat} {o : Nat → Nat × Nat} {w : Nat → Nat} {t u : zS} (hx : zCx G f N M P A T Q Pa bb S F C R W V o w t u) (hs : h < S) (hb : zBo t h e) {r : Nat} (h1 : t 111 e = Int32.ofNat r) (hr : r < 1000) : r < S ∧ t 101 r = Int32.ofNat h := by
  have hS := (zTre_x hx).1
  obtain ⟨hk, m, e', i, hl, hi, ei⟩ := hb
  obtain ⟨_, o2⟩ := zOwn hx hs hk hl i hi
  rw [ei, h1] at o2
  rcases o2 with o2 | ⟨r', o2, o3, o4, _⟩
  · exact absurd (show (0 : Int32) ≤ -1 by rw [← o2]; exact zn_0le (by omega)) zn_m1
  · have er := (zn_inj (by omega) (by omega)).mp o2
    subst er
    exact ⟨o3, o4⟩
theorem zPath_S {G : zTxt} {f : Nat → Nat} {N M P A T Q Pa bb S F C R W V q : Nat} {o : Nat → Nat × Nat} {w : Nat → Nat} {t u : zS} (hx : zCx G f N M P A T Q Pa bb S F C R W V o w t u) (hq : q < Q) : ∀ y, zPath t q y → y < S ∧ zRb S t (t 41 q) y ∧ (o y).2 = q ∧ ∃ j r0, zNxt t j r0 y ∧ r0 < S ∧ ((t 41 q = Int32.ofNat r0 ∧ t 101 y = -1) ∨ ∃ h e, zPath t q h ∧ zBo t h e ∧ t 111 e = Int32.ofNat r0 ∧ t 101 y = Int32.ofNat h ∧ h < y) := by
  have tre := zTre_x hx
  have hS := tre.1
  obtain ⟨_, _, _, _, _, _, _, _, _, _, _, _, _, _, hbody, _⟩ := hx.2.2.2.1.2.2.2.2.2.2.1 q hq
  have reg : ∀ y, zRb S t (t 41 q) y → y < S ∧ (o y).2 = q := fun y h => zRb_q hx hq h
  refine zPath_ind (fun y h1 hy => ?_) (fun x y hp ⟨c1, c2, c3, j, r0, c4, c5, c6⟩ h1 hy => ?_) (fun h e y hp ⟨c1, c2, c3, _⟩ hb h1 hy => ?_)
  · rcases hbody with ⟨e1, _⟩ | ⟨s, e1, e2, e3, e4, e5⟩
    · rw [e1] at h1
      exact absurd (show (0 : Int32) ≤ -1 by rw [h1]; exact zn_0le (by omega)) zn_m1
    · rw [e2] at h1
      have := (zn_inj (by omega) (by omega)).mp h1
      subst this
      have rb : zRb S t (t 41 q) s := ⟨s, e2, by omega, e1, 0, s, rfl, zSub_refl t s⟩
      exact ⟨e1, rb, (reg s rb).2, 0, s, rfl, e1, Or.inl ⟨e2, e5⟩⟩
  · rcases (tre.2 x c1).1 with e | ⟨r, e1, e2, e3, e4, e5, e6⟩
    · rw [e] at h1
      exact absurd (show (0 : Int32) ≤ -1 by rw [h1]; exact zn_0le (by omega)) zn_m1
    · rw [e1] at h1
      have := (zn_inj (by omega) (by omega)).mp h1
      subst this
      have rb : zRb S t (t 41 q) r := by
        obtain ⟨s, a1, a2, a3, k, y, a4, a5⟩ := c2
        by_cases ex : x = y
        · subst ex
          exact ⟨s, a1, a2, e3, k + 1, r, zNxt_snoc k s x r a4 e1 (by omega), zSub_refl t r⟩
        · exact ⟨s, a1, a2, e3, k, y, a4, (zSub_next tre c1 a5 ex e1 (by omega)).1⟩
      refine ⟨e3, rb, (reg r rb).2, j + 1, r0, zNxt_snoc j r0 x r c4 e1 (by omega), c5, ?_⟩
      rw [e6]
      rcases c6 with c6 | ⟨h, e, d1, d2, d3, d4, d5⟩
      · exact Or.inl c6
      · exact Or.inr ⟨h, e, d1, d2, d3, d4, by omega⟩
  · obtain ⟨b1, b2⟩ := zBo_own hx c1 hb h1 hy
    have rb : zRb S t (t 41 q) y := by
      obtain ⟨s, a1, a2, a3, k, z, a4, a5⟩ := c2
      exact ⟨s, a1, a2, b1, k, z, a4, zSub_in a5 b2 (by omega)⟩
    have lt : h < y := by
      rcases (tre.2 y b1).2.2 with ⟨p1, _⟩ | ⟨p, p1, p2, _⟩
      · rw [p1] at b2
        exact absurd (show (0 : Int32) ≤ -1 by rw [b2]; exact zn_0le (by omega)) zn_m1
      · rw [p1] at b2
        have := (zn_inj (by omega) (by omega)).mp b2
        omega
    exact ⟨b1, rb, (reg y rb).2, 0, y, rfl, b1, Or.inr ⟨h, e, hp, hb, h1, b2, lt⟩⟩
theorem zBr_vis {D : zCo} {N n r : Nat} {t g : zS} {s : Nat} {fb : Int32} {r0 : Nat → Int32} (h : zBr D N n t g s fb r0) (hf : fb = Int32.ofNat r) (hr : r < 1000) : zVis g r := by
  rcases h with ⟨h1, _⟩ | ⟨r', h1, h2, h3, _⟩
  · rw [h1] at hf
    exact absurd (show (0 : Int32) ≤ -1 by rw [hf]; exact zn_0le (by omega)) zn_m1
  · rw [h1] at hf
    have := (zn_inj (by omega) (by omega)).mp hf
    subst this; exact h3
theorem zLk_fun {F : Nat → Int32} {P n n2 : Nat} {h : Int32} (hP : P < 2147483648) : ∀ {e e2 : Nat → Nat}, zLk F P n h e → zLk F P n2 h e2 → ∀ j, j < n → j < n2 → e j = e2 j := by
  intro e e2 h1 h2 j
  induction j with
  | zero =>
    intro j1 j2
    have a := h1.1
    have b := h2.1
    rw [if_neg (by omega)] at a b
    rw [a] at b
    exact (zn_inj (by have := (h1.2 0 j1).1; omega) (by have := (h2.2 0 j2).1; omega)).mp b
  | succ j ih =>
    intro j1 j2
    have e1 := ih (by omega) (by omega)
    have a := (h1.2 j (by omega)).2
    have b := (h2.2 j (by omega)).2
    rw [if_pos j1] at a
    rw [if_pos j2, ← e1, a] at b
    exact (zn_inj (by have := (h1.2 (j + 1) j1).1; omega) (by have := (h2.2 (j + 1) j2).1; omega)).mp b
/-- the notes of a BLOCK of h -/
theorem zBo_An {G : zTxt} {f : Nat → Nat} {N M P A T Q Pa bb S F C R W V n h e : Nat} {o : Nat → Nat × Nat} {w : Nat → Nat} {t u g : zS} (hx : zCx G f N M P A T Q Pa bb S F C R W V o w t u) (hs : h < S) (hb : zBo t h e) (ha : zAn0 (zD t) N Q n t g h) : (t 87 h = 12 ∧ zWb (zD t) N n t g h (t 111 e)) ∨ (¬ t 87 h = 12 ∧ ∃ r0, zBr (zD t) N n t g h (t 111 e) r0 ∧ (t 87 h = 10 → r0 = g h)) := by
  have hW := hx.2.2.2.2.2.2.2.2.2.2.1
  obtain ⟨hk, m, e', i, hl, hi, ei⟩ := hb
  obtain ⟨_, _, a3, a4, a5⟩ := ha
  have e0' : ∀ x, t 105 h = Int32.ofNat x → x < 1600 → e' 0 = x := fun x q1 q2 => by
    have := hl.1
    rw [if_neg (by omega), q1] at this
    exact ((zn_inj (by omega) (by have := (hl.2 0 (by omega)).1; omega)).mp this).symm
  have hst := (hx.2.2.2.1.2.2.2.2.2.2.2.2.2.2.2.2.2.2.2 h hs).1.2
  rcases hk with k | k | k
  · right
    obtain ⟨c, a, m2, e2, b1, b2, b3, b4, b5, b6, b7, b8, b9⟩ := a5 k
    have hm : i < m2 := by
      by_cases q : i < m2
      · exact q
      · exfalso
        have hm0 : 0 < m2 := by
          by_cases z : 0 < m2
          · exact z
          · have x1 := b6.1
            have x2 := hl.1
            rw [if_pos (by omega)] at x1
            rw [if_neg (by omega), x1] at x2
            exact absurd (show (0 : Int32) ≤ -1 by rw [x2]; exact zn_0le (by have := (hl.2 0 (by omega)).1; omega)) zn_m1
        have y1 := (b6.2 (m2 - 1) (by omega)).2
        have y2 := (hl.2 (m2 - 1) (by omega)).2
        rw [if_neg (by omega)] at y1
        rw [if_pos (by omega), ← zLk_fun (by decide) b6 hl (m2 - 1) (by omega) (by omega), y1] at y2
        exact absurd (show (0 : Int32) ≤ -1 by rw [y2]; exact zn_0le (by have := (hl.2 (m2 - 1 + 1) (by omega)).1; omega)) zn_m1
    obtain ⟨y, _, _, y3⟩ := b9 i hm
    rw [zLk_fun (by decide) b6 hl i hm hi, ei] at y3
    exact ⟨by rw [k]; decide, _, y3, fun q => by rw [k] at q; exact absurd q (by decide)⟩
  · right
    obtain ⟨e0, e1, b1, b2, b3, b4, b5, b6⟩ := a3 k
    refine ⟨by rw [k]; decide, g h, ?_, fun _ => rfl⟩
    have x0 := e0' e0 b1 b2
    by_cases i0 : i = 0
    · subst i0; rw [← ei, x0]; exact b5
    · have n0 := (hl.2 0 (by omega)).2
      rw [if_pos (by omega), x0, b3] at n0
      have x1 := (zn_inj (by omega) (by have := (hl.2 (0 + 1) (by omega)).1; omega)).mp n0
      by_cases i1 : i = 1
      · subst i1; rw [← ei, ← show e1 = e' 1 from x1]; exact b6
      · exfalso
        have end1 : t 115 e1 = -1 := by
          rcases hst with ⟨w1, _⟩ | ⟨w1, _⟩ | ⟨w1, _⟩ | ⟨w1, _⟩ | ⟨w1, _⟩ | ⟨w1, _⟩ | ⟨w1, _⟩ | ⟨w1, _, _, _, _, w5, _⟩ | ⟨w1, _⟩
          · rcases w1 with w1 | w1 <;> rw [w1.1] at k <;> exact absurd k (by decide)
          · rw [w1] at k; exact absurd k (by decide)
          · rcases w1 with w1 | w1 | w1 <;> rw [w1.1] at k <;> exact absurd k (by decide)
          · rw [w1] at k; exact absurd k (by decide)
          · rw [w1] at k; exact absurd k (by decide)
          · rw [w1] at k; exact absurd k (by decide)
          · rcases w1 with w1 | w1 | w1 <;> rw [w1.1] at k <;> exact absurd k (by decide)
          · obtain ⟨f0, f1, c1, c2, c3, c4, c5, _⟩ := w5
            rw [c3] at b1
            have y1 := (zn_inj (by omega) (by omega)).mp b1
            subst y1
            rw [c4] at b3
            have y2 := (zn_inj (by omega) (by omega)).mp b3
            subst y2
            exact c5
          · rw [w1] at k; exact absurd k (by decide)
        have n1 := (hl.2 1 (by omega)).2
        rw [if_pos (by omega), ← show e1 = e' 1 from x1, end1] at n1
        exact absurd (show (0 : Int32) ≤ -1 by rw [n1]; exact zn_0le (by have := (hl.2 (1 + 1) (by omega)).1; omega)) zn_m1
  · left
    obtain ⟨e0, b1, b2, b3, _⟩ := a4 k
    have x0 := e0' e0 b1 b2
    by_cases i0 : i = 0
    · subst i0; rw [← ei, x0]; exact ⟨k, b3⟩
    · exfalso
      have end0 : t 115 e0 = -1 := by
        rcases hst with ⟨w1, _⟩ | ⟨w1, _⟩ | ⟨w1, _⟩ | ⟨w1, _⟩ | ⟨w1, _⟩ | ⟨w1, _⟩ | ⟨w1, _⟩ | ⟨w1, _⟩ | ⟨w1, _, _, _, _, w5, _⟩
        · rcases w1 with w1 | w1 <;> rw [w1.1] at k <;> exact absurd k (by decide)
        · rw [w1] at k; exact absurd k (by decide)
        · rcases w1 with w1 | w1 | w1 <;> rw [w1.1] at k <;> exact absurd k (by decide)
        · rw [w1] at k; exact absurd k (by decide)
        · rw [w1] at k; exact absurd k (by decide)
        · rw [w1] at k; exact absurd k (by decide)
        · rcases w1 with w1 | w1 | w1 <;> rw [w1.1] at k <;> exact absurd k (by decide)
        · rw [w1] at k; exact absurd k (by decide)
        · obtain ⟨f0, c1, c2, c3, _⟩ := w5
          rw [c2] at b1
          have y1 := (zn_inj (by omega) (by omega)).mp b1
          subst y1
          exact c3
      have n1 := (hl.2 0 (by omega)).2
      rw [if_pos (by omega), x0, end0] at n1
      exact absurd (show (0 : Int32) ≤ -1 by rw [n1]; exact zn_0le (by have := (hl.2 (0 + 1) (by omega)).1; omega)) zn_m1
