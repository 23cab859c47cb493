/-! CHECK: the tree of statements -/
/-- y is k BLOCKS further out -/
def zAnc (t : zS) : Nat → Nat → Nat → Prop
  | 0, y, x => x = y
  | k + 1, y, x => ∃ h, t 101 x = Int32.ofNat h ∧ h < 1000 ∧ zAnc t k y h
def zSub (t : zS) (s x : Nat) : Prop := ∃ k, zAnc t k s x
def zNxt (t : zS) : Nat → Nat → Nat → Prop
  | 0, r, y => y = r
  | k + 1, r, y => ∃ z, t 99 r = Int32.ofNat z ∧ z < 1000 ∧ zNxt t k z y
/-- what stands in the rest of a BLOCK from r on -/
def zReg (S : Nat) (t : zS) (r x : Nat) : Prop := x < S ∧ ∃ k y, zNxt t k r y ∧ zSub t y x
def zTre (o : Nat → Nat × Nat) (S : Nat) (t : zS) : Prop := S ≤ 1000 ∧ ∀ s, s < S → (t 99 s = -1 ∨ ∃ r, t 99 s = Int32.ofNat r ∧ s < r ∧ r < S ∧ o r = o s ∧ o (10000 + r) = o (10000 + s) ∧ t 101 r = t 101 s) ∧ zPa o t s
theorem zTre_x {G : zTxt} {f : Nat → Nat} {N M P A T Q Pa bb S F C R W V : Nat} {o : Nat → Nat × Nat} {w : Nat → Nat} {t u : zS} (h : zCx G f N M P A T Q Pa bb S F C R W V o w t u) : zTre o S t := by
  obtain ⟨_, _, _, hP, _, _, _, hS, _⟩ := h
  refine ⟨hS, fun s hs => ?_⟩
  obtain ⟨_, c2, c3, _⟩ := hP.2.2.2.2.2.2.2.2.2.2.2.2.2.2.2 s hs
  refine ⟨?_, c3⟩
  rcases c2 with ⟨a, _⟩ | ⟨r, a1, _, _, a4, a5, a6, a7⟩
  · exact Or.inl a
  · exact Or.inr ⟨r, a1, a4, a5, a6.1, a6.2, a7⟩
theorem zAnc_at {o : Nat → Nat × Nat} {S : Nat} {t : zS} (h : zTre o S t) : ∀ k y x, x < S → zAnc t k y x → y < S ∧ y ≤ x ∧ (o x).1 = (o y).1 + k ∧ (o x).2 = (o y).2 := by
  intro k
  induction k with
  | zero => intro y x hx ha; subst ha; exact ⟨hx, Nat.le_refl _, rfl, rfl⟩
  | succ k ih =>
    intro y x hx ha
    obtain ⟨p, p1, p2, p3⟩ := ha
    have hS := h.1
    rcases (h.2 x hx).2.2 with ⟨q, _⟩ | ⟨p', q1, q2, q3, _⟩
    · rw [q] at p1
      exact absurd (show (0 : Int32) ≤ -1 by rw [p1]; exact zn_0le (by omega)) zn_m1
    · rw [q1] at p1
      have e := (zn_inj (by omega) (by omega)).mp p1
      subst e
      obtain ⟨a1, a2, a3, a4⟩ := ih y p' (by omega) p3
      exact ⟨a1, by omega, by rw [q3]; show (o p').1 + 1 = _; omega, by rw [q3]; exact a4⟩
theorem zAnc_fun {t : zS} : ∀ k y y' x, zAnc t k y x → zAnc t k y' x → y = y' := by
  intro k
  induction k with
  | zero => intro y y' x h h'; exact h.symm.trans h'
  | succ k ih =>
    intro y y' x h h'
    obtain ⟨p, p1, p2, p3⟩ := h
    obtain ⟨p', p1', p2', p3'⟩ := h'
    rw [p1] at p1'
    have e := (zn_inj (by omega) (by omega)).mp p1'
    subst e
    exact ih y y' p p3 p3'
theorem zAnc_up {t : zS} {s y : Nat} (h : t 101 y = Int32.ofNat s) (hs : s < 1000) : ∀ k x, zAnc t k y x → zAnc t (k + 1) s x := by
  intro k
  induction k with
  | zero => intro x hx; subst hx; exact ⟨s, h, hs, rfl⟩
  | succ k ih =>
    intro x hx
    obtain ⟨p, p1, p2, p3⟩ := hx
    exact ⟨p, p1, p2, ih p p3⟩
theorem zNxt_at {o : Nat → Nat × Nat} {S : Nat} {t : zS} (h : zTre o S t) : ∀ k r y, r < S → zNxt t k r y → y < S ∧ r ≤ y ∧ o y = o r ∧ o (10000 + y) = o (10000 + r) ∧ t 101 y = t 101 r := by
  intro k
  induction k with
  | zero => intro r y hr hn; subst hn; exact ⟨hr, Nat.le_refl _, rfl, rfl, rfl⟩
  | succ k ih =>
    intro r y hr hn
    obtain ⟨z, z1, z2, z3⟩ := hn
    rcases (h.2 r hr).1 with q | ⟨r', q1, q2, q3, q4, q5, q6⟩
    · rw [q] at z1
      exact absurd (show (0 : Int32) ≤ -1 by rw [z1]; exact zn_0le (by omega)) zn_m1
    · rw [q1] at z1
      have hS := h.1
      have e := (zn_inj (by omega) (by omega)).mp z1
      subst e
      obtain ⟨a1, a2, a3, a4, a5⟩ := ih r' y q3 z3
      exact ⟨a1, by omega, a3.trans q4, a4.trans q5, a5.trans q6⟩
/-- two statements of one depth that hold the same one are one -/
theorem zSub_one {o : Nat → Nat × Nat} {S : Nat} {t : zS} (h : zTre o S t) {s s' x : Nat} (hx : x < S) (h1 : zSub t s x) (h2 : zSub t s' x) (hd : (o s).1 = (o s').1) : s = s' := by
  obtain ⟨k, k1⟩ := h1
  obtain ⟨k', k1'⟩ := h2
  have a := (zAnc_at h k s x hx k1).2.2.1
  have b := (zAnc_at h k' s' x hx k1').2.2.1
  have e : k = k' := by omega
  subst e
  exact zAnc_fun k s s' x k1 k1'
theorem zReg_rest {o : Nat → Nat × Nat} {S : Nat} {t : zS} (h : zTre o S t) {s r x : Nat} (hs : s < S) (h99 : t 99 s = Int32.ofNat r) (hr : r < 1000) (h1 : zSub t s x) : ¬ zReg S t r x := by
  rintro ⟨hx, k, y, y1, y2⟩
  have hS := h.1
  rcases (h.2 s hs).1 with q | ⟨r', q1, q2, q3, q4, q5, q6⟩
  · rw [q] at h99
    exact absurd (show (0 : Int32) ≤ -1 by rw [h99]; exact zn_0le (by omega)) zn_m1
  · rw [q1] at h99
    have e := (zn_inj (by omega) (by omega)).mp h99
    subst e
    obtain ⟨a1, a2, a3, _⟩ := zNxt_at h k r' y q3 y1
    have := zSub_one h hx h1 y2 (by rw [a3, q4])
    omega
theorem zReg_two {o : Nat → Nat × Nat} {S : Nat} {t : zS} (h : zTre o S t) {r r' x : Nat} (hr : r < S) (hr' : r' < S) (ho : (o r).1 = (o r').1) (h1 : o (10000 + r) = (r, 0)) (h2 : o (10000 + r') = (r', 0)) (hne : ¬ r = r') (hx : zReg S t r x) : ¬ zReg S t r' x := by
  rintro ⟨_, k', y', y1', y2'⟩
  obtain ⟨hxS, k, y, y1, y2⟩ := hx
  obtain ⟨a1, a2, a3, a4, _⟩ := zNxt_at h k r y hr y1
  obtain ⟨b1, b2, b3, b4, _⟩ := zNxt_at h k' r' y' hr' y1'
  have := zSub_one h hxS y2 y2' (by rw [a3, b3]; exact ho)
  subst this
  rw [a4, h1] at b4
  rw [h2] at b4
  exact hne (congrArg Prod.fst b4)
theorem zReg_in {o : Nat → Nat × Nat} {S : Nat} {t : zS} (h : zTre o S t) {s r x : Nat} (hs : s < S) (hr : r < S) (h101 : t 101 r = Int32.ofNat s) (hx : zReg S t r x) : zSub t s x ∧ ¬ x = s ∧ x < S := by
  obtain ⟨hxS, k, y, y1, m, y2⟩ := hx
  have hS := h.1
  obtain ⟨a1, a2, a3, a4, a5⟩ := zNxt_at h k r y hr y1
  have up := zAnc_up (t := t) (s := s) (y := y) (by rw [a5]; exact h101) (by omega) m x y2
  refine ⟨⟨m + 1, up⟩, fun e => ?_, hxS⟩
  have := (zAnc_at h (m + 1) s x hxS up).2.2.1
  rw [e] at this
  omega
theorem zReg_self {S : Nat} {t : zS} {s x : Nat} (hx : x < S) (h : zSub t s x) : zReg S t s x := ⟨hx, 0, s, rfl, h⟩
theorem zReg_next {S : Nat} {t : zS} {s r x : Nat} (h99 : t 99 s = Int32.ofNat r) (hr : r < 1000) (h : zReg S t r x) : zReg S t s x := by
  obtain ⟨hx, k, y, y1, y2⟩ := h
  exact ⟨hx, k + 1, y, ⟨r, h99, hr, y1⟩, y2⟩
theorem zReg_cases {S : Nat} {t : zS} {s x : Nat} (h : zReg S t s x) : zSub t s x ∨ ∃ r, t 99 s = Int32.ofNat r ∧ r < 1000 ∧ zReg S t r x := by
  obtain ⟨hx, k, y, y1, y2⟩ := h
  cases k with
  | zero =>
    have e : y = s := y1
    subst e
    exact Or.inl y2
  | succ k =>
    obtain ⟨z, z1, z2, z3⟩ := y1
    exact Or.inr ⟨z, z1, z2, hx, k, y, z3, y2⟩
theorem zSub_cases {o : Nat → Nat × Nat} {S : Nat} {t : zS} (h : zTre o S t) {s x : Nat} (hx : x < S) (hs : zSub t s x) : x = s ∨ ∃ y, y < S ∧ t 101 y = Int32.ofNat s ∧ zSub t y x := by
  obtain ⟨k, k1⟩ := hs
  have go : ∀ k x, x < S → zAnc t k s x → x = s ∨ ∃ y, y < S ∧ t 101 y = Int32.ofNat s ∧ zSub t y x := by
    intro k
    induction k with
    | zero => intro x _ q; exact Or.inl q
    | succ k ih =>
      intro x hx q
      obtain ⟨p, p1, p2, p3⟩ := q
      have hp : p < S := by
        rcases (h.2 x hx).2.2 with ⟨e, _⟩ | ⟨p', q1, q2, _⟩
        · rw [e] at p1
          exact absurd (show (0 : Int32) ≤ -1 by rw [p1]; exact zn_0le (by omega)) zn_m1
        · rw [q1] at p1
          have := (zn_inj (by have := h.1; omega) (by omega)).mp p1
          omega
      rcases ih p hp p3 with e | ⟨y, y1, y2, m, y3⟩
      · exact Or.inr ⟨x, hx, by rw [← e]; exact p1, 0, rfl⟩
      · exact Or.inr ⟨y, y1, y2, m + 1, p, p1, p2, y3⟩
  exact go k x hx k1
