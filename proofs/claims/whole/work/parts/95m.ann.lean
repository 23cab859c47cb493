/-! CHECK: what is noted of each statement -/
def zVis (g : zS) (x : Nat) : Prop := g (6000 + x) 2 = 1
/-- a BLOCK inside if or case -/
def zBr (D : zCo) (N n : Nat) (t g : zS) (s : Nat) (fb : Int32) (r0 : Nat → Int32) : Prop :=
  (fb = -1 ∧ g (6000 + s) 0 = 0 ∧ ∀ k, k < n → zRe D N t (r0 k) (g (2000 + s) k)) ∨
  ∃ r, fb = Int32.ofNat r ∧ r < 1000 ∧ zVis g r ∧ (∀ k, k < n → g r k = r0 k) ∧ ∀ j y, zNxt t j r y → t 99 y = -1 → g (6000 + y) 0 = 1 ∨ (g (6000 + y) 0 = 0 ∧ g (6000 + s) 0 = 0 ∧ ∀ k, k < n → zRe D N t (g (2000 + y) k) (g (2000 + s) k))
/-- the BLOCK of while -/
def zWb (D : zCo) (N n : Nat) (t g : zS) (s : Nat) (fb : Int32) : Prop :=
  fb = -1 ∨ ∃ r, fb = Int32.ofNat r ∧ r < 1000 ∧ zVis g r ∧ (∀ k, k < n → g r k = g s k) ∧ ∀ j y, zNxt t j r y → t 99 y = -1 → g (6000 + y) 0 = 1 ∨ (g (6000 + y) 0 = 0 ∧ ∀ k, k < n → zRe D N t (g (2000 + y) k) (g s k))
def zAn0 (D : zCo) (N Q n : Nat) (t g : zS) (x : Nat) : Prop :=
  (¬ (t 87 x = 7 ∨ t 87 x = 8 ∨ t 87 x = 9 ∨ t 87 x = 10 ∨ t 87 x = 12) → zSt1 D N t x (g x) (g (2000 + x)) ∧ g (6000 + x) 0 = 0) ∧
  (t 87 x = 8 ∨ t 87 x = 9 → zSt2 D N Q n t x (g x) (g (2000 + x)) ∧ g (6000 + x) 0 = (if t 87 x = 9 then 1 else 0)) ∧
  (t 87 x = 10 → ∃ e0 e1, t 105 x = Int32.ofNat e0 ∧ e0 < 1600 ∧ t 115 e0 = Int32.ofNat e1 ∧ e1 < 1600 ∧ zBr D N n t g x (t 111 e0) (g x) ∧ zBr D N n t g x (t 111 e1) (g x)) ∧
  (t 87 x = 12 → ∃ e0, t 105 x = Int32.ofNat e0 ∧ e0 < 1600 ∧ zWb D N n t g x (t 111 e0) ∧ (∀ k, k < n → g (2000 + x) k = g x k) ∧ g (6000 + x) 0 = 0) ∧
  (t 87 x = 7 → ∃ c a m e, t 91 x = Int32.ofNat c ∧ c < n ∧ g x c = Int32.ofNat a ∧ zV N t a ∧ D.kd a = 9 ∧ zLk (t 115) 1600 m (t 105 x) e ∧ t 13 (a / 2) = Int32.ofNat m ∧ zDs m e (t 109) ∧ ∀ j, j < m → ∃ y, D.pt a (t 109 (e j)) = some y ∧ t 113 (e j) = zCz D y ∧ zBr D N n t g x (t 111 (e j)) (zur (g x) c (zHo D y)))
def zAn (D : zCo) (N Q n : Nat) (t g : zS) (x : Nat) : Prop := zAn0 D N Q n t g x ∧ ∀ r, t 99 x = Int32.ofNat r → r < 1000 → zVis g r ∧ g (6000 + x) 0 = 0 ∧ g r = g (2000 + x)
/-- notes of a statement stay -/
def zGs (g g2 : zS) (x : Nat) : Prop := g2 x = g x ∧ g2 (2000 + x) = g (2000 + x) ∧ g2 (6000 + x) = g (6000 + x)
theorem zSt1_f {D : zCo} {N s : Nat} {t t2 : zS} {r r2 : Nat → Int32} (h : zSt1 D N t s r r2) (hf : zCf t t2) (h107 : t2 107 s = t 107 s) : zSt1 D N t2 s r r2 := by
  have tr := zTr_f hf
  unfold zSt1 at *
  rw [hf.2.2 87 (by decide), hf.2.2 91 (by decide), hf.2.2 93 (by decide), h107]
  rcases h with h | h | ⟨h, c, a, h1, h2, h3, h4⟩ | ⟨h, c, e, a, h1, h2, h3, h4, h5, h6⟩ | ⟨h, c, e, a, b, h1, h2, h3, h4, h5, h6, h7, h8⟩ | ⟨h, c, e, a, h1, h2, h3, h4, h5, h6⟩ | ⟨h, c, a, y, h1, h2, h3, h4⟩
  · exact Or.inl h
  · exact Or.inr (Or.inl h)
  · exact Or.inr (Or.inr (Or.inl ⟨h, c, a, h1, h2, (zV_of tr _).mpr h3, h4⟩))
  · exact Or.inr (Or.inr (Or.inr (Or.inl ⟨h, c, e, a, h1, h2, h3, h4, (zV_of tr _).mpr h5, h6⟩)))
  · exact Or.inr (Or.inr (Or.inr (Or.inr (Or.inl ⟨h, c, e, a, b, h1, h2, h3, h4, (zV_of tr _).mpr h5, h6, (zV_of tr _).mpr h7, h8⟩))))
  · exact Or.inr (Or.inr (Or.inr (Or.inr (Or.inr (Or.inl ⟨h, c, e, a, h1, h2, h3, h4, (zV_of tr _).mpr h5, h6⟩)))))
  · exact Or.inr (Or.inr (Or.inr (Or.inr (Or.inr (Or.inr ⟨h, c, a, y, h1, h2, (zV_of tr _).mpr h3, h4⟩)))))
theorem zSt2_f {D : zCo} {N Q n s : Nat} {t t2 : zS} {r r2 : Nat → Int32} (h : zSt2 D N Q n t s r r2) (hf : zCf t t2) (h107 : t2 107 s = t 107 s) : zSt2 D N Q n t2 s r r2 := by
  have tr := zTr_f hf
  obtain ⟨v, x, p0, np, a, m, h1, h2, h3, h4, h5, h6, h7, h8, h9⟩ := h
  refine ⟨v, x, p0, np, a, m, by rw [hf.2.2 93 (by decide)]; exact h1, h2, by rw [hf.2.2 33 (by decide)]; exact h3, h4, by rw [hf.2.2 35 (by decide)]; exact h5, by rw [hf.2.2 37 (by decide)]; exact h6, by rw [hf.2.2 95 (by decide)]; exact h7, by rw [hf.2.2 97 (by decide)]; exact h8, ?_⟩
  rw [hf.2.2 91 (by decide), hf.2.2 87 (by decide), hf.2.2 45 (by decide), h107]
  rcases h9 with ⟨q1, q2, q3, q4⟩ | ⟨c, c0, r1, q1, q2, q3, q4, q5, q6, q7, q8, q9, q10⟩
  · exact Or.inl ⟨q1, q2, zGv_of tr (hf.2.2 45 (by decide)) (hf.2.2 83 (by decide)) _ _ _ _ _ q3, q4⟩
  · exact Or.inr ⟨c, c0, r1, q1, q2, q3, q4, q5, q6, zGv_of tr (hf.2.2 45 (by decide)) (hf.2.2 83 (by decide)) _ _ _ _ _ q7, q8, by rw [zSg2_of tr]; exact q9, by rw [zSg2_of tr]; exact q10⟩
theorem zNxt_f {t t2 : zS} (h : t2 99 = t 99) : ∀ k r y, zNxt t2 k r y ↔ zNxt t k r y := by
  intro k
  induction k with
  | zero => intro r y; exact Iff.rfl
  | succ k ih =>
    intro r y
    constructor
    · rintro ⟨z, z1, z2, z3⟩
      exact ⟨z, by rw [← h]; exact z1, z2, (ih z y).mp z3⟩
    · rintro ⟨z, z1, z2, z3⟩
      exact ⟨z, by rw [h]; exact z1, z2, (ih z y).mpr z3⟩
theorem zAnc_f {t t2 : zS} (h : t2 101 = t 101) : ∀ k y x, zAnc t2 k y x ↔ zAnc t k y x := by
  intro k
  induction k with
  | zero => intro y x; exact Iff.rfl
  | succ k ih =>
    intro y x
    constructor
    · rintro ⟨z, z1, z2, z3⟩
      exact ⟨z, by rw [← h]; exact z1, z2, (ih y z).mp z3⟩
    · rintro ⟨z, z1, z2, z3⟩
      exact ⟨z, by rw [h]; exact z1, z2, (ih y z).mpr z3⟩
theorem zSub_f {t t2 : zS} (hf : zCf t t2) (s x : Nat) : zSub t2 s x ↔ zSub t s x := by
  unfold zSub
  constructor
  · rintro ⟨k, q⟩; exact ⟨k, (zAnc_f (hf.2.2 101 (by decide)) k s x).mp q⟩
  · rintro ⟨k, q⟩; exact ⟨k, (zAnc_f (hf.2.2 101 (by decide)) k s x).mpr q⟩
theorem zReg_f {S : Nat} {t t2 : zS} (hf : zCf t t2) (r x : Nat) : zReg S t2 r x ↔ zReg S t r x := by
  unfold zReg
  constructor
  · rintro ⟨hx, k, y, q1, q2⟩; exact ⟨hx, k, y, (zNxt_f (hf.2.2 99 (by decide)) k r y).mp q1, (zSub_f hf y x).mp q2⟩
  · rintro ⟨hx, k, y, q1, q2⟩; exact ⟨hx, k, y, (zNxt_f (hf.2.2 99 (by decide)) k r y).mpr q1, (zSub_f hf y x).mpr q2⟩
theorem zRe_f {D : zCo} {N : Nat} {t t2 : zS} {x y : Int32} (hf : zCf t t2) (h : zRe D N t x y) : zRe D N t2 x y := zRe_of (zTr_f hf) h
theorem zBr_f {D : zCo} {N n s : Nat} {t t2 g g2 : zS} {fb : Int32} {r0 : Nat → Int32} (h : zBr D N n t g s fb r0) (hf : zCf t t2) (hs : zGs g g2 s) (hg : ∀ r j y, fb = Int32.ofNat r → r < 1000 → zNxt t j r y → zGs g g2 y) : zBr D N n t2 g2 s fb r0 := by
  rcases h with ⟨h1, h2, h3⟩ | ⟨r, h1, h2, h3, h4, h5⟩
  · exact Or.inl ⟨h1, by rw [hs.2.2]; exact h2, fun k hk => by rw [hs.2.1]; exact zRe_f hf (h3 k hk)⟩
  · have gr := hg r 0 r h1 h2 rfl
    refine Or.inr ⟨r, h1, h2, by unfold zVis; rw [gr.2.2]; exact h3, fun k hk => by rw [gr.1]; exact h4 k hk, fun j y q1 q2 => ?_⟩
    have q1' := (zNxt_f (hf.2.2 99 (by decide)) j r y).mp q1
    rw [hf.2.2 99 (by decide)] at q2
    have gy := hg r j y h1 h2 q1'
    rw [gy.2.2, gy.2.1, hs.2.2, hs.2.1]
    rcases h5 j y q1' q2 with q | ⟨q3, q4, q5⟩
    · exact Or.inl q
    · exact Or.inr ⟨q3, q4, fun k hk => zRe_f hf (q5 k hk)⟩
theorem zWb_f {D : zCo} {N n s : Nat} {t t2 g g2 : zS} {fb : Int32} (h : zWb D N n t g s fb) (hf : zCf t t2) (hs : zGs g g2 s) (hg : ∀ r j y, fb = Int32.ofNat r → r < 1000 → zNxt t j r y → zGs g g2 y) : zWb D N n t2 g2 s fb := by
  rcases h with h1 | ⟨r, h1, h2, h3, h4, h5⟩
  · exact Or.inl h1
  · have gr := hg r 0 r h1 h2 rfl
    refine Or.inr ⟨r, h1, h2, by unfold zVis; rw [gr.2.2]; exact h3, fun k hk => by rw [gr.1, hs.1]; exact h4 k hk, fun j y q1 q2 => ?_⟩
    have q1' := (zNxt_f (hf.2.2 99 (by decide)) j r y).mp q1
    rw [hf.2.2 99 (by decide)] at q2
    have gy := hg r j y h1 h2 q1'
    rw [gy.2.2, gy.2.1, hs.1]
    rcases h5 j y q1' q2 with q | ⟨q3, q5⟩
    · exact Or.inl q
    · exact Or.inr ⟨q3, fun k hk => zRe_f hf (q5 k hk)⟩
/-- all notes stay that a statement's notes speak of -/
theorem zAn0_f {D : zCo} {N Q n x : Nat} {t t2 g g2 : zS} (h : zAn0 D N Q n t g x) (hf : zCf t t2) (h107 : t2 107 x = t 107 x) (h113 : ∀ m e j, zLk (t 115) 1600 m (t 105 x) e → j < m → t2 113 (e j) = t 113 (e j)) (hs : zGs g g2 x) (hg : ∀ e r j y, t 111 e = Int32.ofNat r → r < 1000 → (∃ m e', zLk (t 115) 1600 m (t 105 x) e' ∧ ∃ i, i < m ∧ e' i = e) → zNxt t j r y → zGs g g2 y) (h10 : t 87 x = 10 → ∀ e0 e1, t 105 x = Int32.ofNat e0 → e0 < 1600 → t 115 e0 = Int32.ofNat e1 → e1 < 1600 → t 115 e1 = -1) (h12 : t 87 x = 12 → ∀ e0, t 105 x = Int32.ofNat e0 → e0 < 1600 → t 115 e0 = -1) : zAn0 D N Q n t2 g2 x := by
  have r := hf.2.2
  obtain ⟨a1, a2, a3, a4, a5⟩ := h
  unfold zAn0
  rw [r 87 (by decide), r 105 (by decide), r 115 (by decide), r 111 (by decide), r 91 (by decide), r 13 (by decide), r 109 (by decide), hs.1, hs.2.1, hs.2.2]
  refine ⟨fun q => ?_, fun q => ?_, fun q => ?_, fun q => ?_, fun q => ?_⟩
  · exact ⟨zSt1_f (a1 q).1 hf h107, (a1 q).2⟩
  · exact ⟨zSt2_f (a2 q).1 hf h107, (a2 q).2⟩
  · obtain ⟨e0, e1, b1, b2, b3, b4, b5, b6⟩ := a3 q
    have lk : zLk (t 115) 1600 2 (t 105 x) (fun i => if i = 0 then e0 else e1) := ⟨by rw [if_neg (by decide)]; exact b1, fun j hj => by
      by_cases ej : j = 0
      · subst ej
        exact ⟨b2, b3⟩
      · have : j = 1 := by omega
        subst this
        exact ⟨b4, h10 q e0 e1 b1 b2 b3 b4⟩⟩
    refine ⟨e0, e1, b1, b2, b3, b4, zBr_f b5 hf hs (fun r' j y q1 q2 q3 => hg e0 r' j y q1 q2 ⟨2, _, lk, 0, by decide, rfl⟩ q3), zBr_f b6 hf hs (fun r' j y q1 q2 q3 => hg e1 r' j y q1 q2 ⟨2, _, lk, 1, by decide, rfl⟩ q3)⟩
  · obtain ⟨e0, b1, b2, b3, b4, b5⟩ := a4 q
    have lk : zLk (t 115) 1600 1 (t 105 x) (fun _ => e0) := ⟨by rw [if_neg (by decide)]; exact b1, fun j hj => ⟨b2, by rw [if_neg (by omega)]; exact h12 q e0 b1 b2⟩⟩
    exact ⟨e0, b1, b2, zWb_f b3 hf hs (fun r' j y q1 q2 q3 => hg e0 r' j y q1 q2 ⟨1, _, lk, 0, by decide, rfl⟩ q3), b4, b5⟩
  · obtain ⟨c, a, m, e, b1, b2, b3, b4, b5, b6, b7, b8, b9⟩ := a5 q
    refine ⟨c, a, m, e, b1, b2, b3, (zV_of (zTr_f hf) _).mpr b4, b5, b6, b7, b8, fun j hj => ?_⟩
    obtain ⟨y, y1, y2, y3⟩ := b9 j hj
    exact ⟨y, y1, by rw [h113 m e j b6 hj]; exact y2, zBr_f y3 hf hs (fun r' i z q1 q2 q3 => hg (e j) r' i z q1 q2 ⟨m, e, b6, j, hj, rfl⟩ q3)⟩
