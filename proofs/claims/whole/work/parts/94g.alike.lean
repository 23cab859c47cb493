/-! EQUAL: what is let wait (the class) -/
theorem zTr_pair {t t2 : zS} (h3 : ∀ j, ¬ j = 12 → t2 3 j = t 3 j) (hr : ∀ j, ¬ (j = 3 ∨ j = 31) → t2 j = t j) : zTr t t2 := ⟨hr 9 (by decide), hr 11 (by decide), hr 13 (by decide), hr 15 (by decide), hr 17 (by decide), hr 19 (by decide), hr 21 (by decide), hr 23 (by decide), hr 25 (by decide), h3 13 (by decide), h3 14 (by decide), h3 15 (by decide)⟩
theorem zTr_trans {a b c : zS} (h : zTr a b) (h2 : zTr b c) : zTr a c := by
  obtain ⟨a1, a2, a3, a4, a5, a6, a7, a8, a9, a10, a11, a12⟩ := h
  obtain ⟨b1, b2, b3, b4, b5, b6, b7, b8, b9, b10, b11, b12⟩ := h2
  exact ⟨b1.trans a1, b2.trans a2, b3.trans a3, b4.trans a4, b5.trans a5, b6.trans a6, b7.trans a7, b8.trans a8, b9.trans a9, b10.trans a10, b11.trans a11, b12.trans a12⟩
theorem pl_behind0 {s d : Nat} {t : zS} (hs : s < 6000) (h : t 13 (s / 2) = Int32.ofNat d) : mX2_behindOf (Int32.ofNat s) t = some (Int32.ofNat (2 * d + s % 2), t) := by
  obtain ⟨s1, s2⟩ := zb_s s hs
  have g : mX5_get 12 3000 (Int32.ofNat (s / 2)) t = some (Int32.ofNat d, t) := by rw [← h]; exact zn_get (by omega) (by decide)
  unfold mX2_behindOf
  rw [s1, g, pl_bd, s2, zn_dbl]
theorem pl_inside0 {s d : Nat} {t : zS} (hs : s < 6000) (h : t 11 (s / 2) = Int32.ofNat d) : mX2_insideOf (Int32.ofNat s) t = some (Int32.ofNat (2 * d), t) := by
  obtain ⟨s1, s2⟩ := zb_s s hs
  have g : mX5_get 10 3000 (Int32.ofNat (s / 2)) t = some (Int32.ofNat d, t) := by rw [← h]; exact zn_get (by omega) (by decide)
  unfold mX2_insideOf
  rw [s1, g, pl_bd, zn_dbl0]
def zPush (D : zCo) (N : Nat) (t : zS) (a b k : Nat) (W : List (Nat × Nat)) (t2 : zS) (W2 : List (Nat × Nat)) : Prop := t2 3 12 = Int32.ofNat (k + zDc D a) ∧ zWk (zQc N t) (t2 31) (k + zDc D a) W2 ∧ zSm D (fun x y => (x, y) ∈ W2) a b ∧ (∀ e, e ∈ W → e ∈ W2) ∧ (∀ e, e ∈ W2 → e ∈ W ∨ (zSm D (zEq D) a b → zEq D e.1 e.2))
def zFq (t t2 : zS) : Prop := (∀ j, ¬ j = 12 → t2 3 j = t 3 j) ∧ ∀ j, ¬ (j = 3 ∨ j = 31) → t2 j = t j
theorem zFq_refl (t : zS) : zFq t t := ⟨fun _ _ => rfl, fun _ _ => rfl⟩
theorem zFq_trans {a b c : zS} (h : zFq a b) (h2 : zFq b c) : zFq a c := ⟨fun j hj => (h2.1 j hj).trans (h.1 j hj), fun j hj => (h2.2 j hj).trans (h.2 j hj)⟩
theorem zV_lt {G : zTxt} {f : Nat → Nat} {N M P A T s : Nat} {t u : zS} (h : zTG G f N M P A T t u) (hv : zV N t s) : s < 6000 := by
  have hN := h.2.2.2.1
  have := hv.1
  omega
theorem pl_goOn {G : zTxt} {f : Nat → Nat} {N M P A T a b k : Nat} {W : List (Nat × Nat)} {t u : zS} (h : zTG G f N M P A T t u) (ha : zV N t a) (hb : zV N t b) (he : (zD t).kd a = (zD t).kd b) (h8 : ¬ ((zD t).kd a = 8 ∨ (zD t).kd a = 9)) (h12 : t 3 12 = Int32.ofNat k) (hk : k ≤ 6000) (hW : zWk (zQc N t) (t 31) k W) : ∃ t2 W2, mX2_goOnAlike (Int32.ofNat a) (Int32.ofNat b) t = some (1, t2) ∧ zPush (zD t) N t a b k W t2 W2 ∧ zFq t t2 := by
  have la := zV_lt h ha
  have lb := zV_lt h hb
  have eK := pl_kindOf (t := t) la
  unfold mX2_goOnAlike
  rw [eK, pl_bd]
  rcases zV_at h ha with ⟨q, _⟩ | ⟨q, _⟩ | ⟨q, _⟩ | ⟨q, _⟩
  · rw [if_neg (by rw [q]; decide), if_neg (by rw [q]; decide)]
    unfold bX2_goOnAlike_32
    rw [if_pos (by rw [q]; decide)]
    have ed : zDc (zD t) a = 0 := by unfold zDc; rw [q]; rfl
    refine ⟨t, W, rfl, ⟨by rw [ed]; exact h12, by rw [ed]; exact hW, ⟨he, fun w => ?_, fun w => ?_, fun w => absurd w h8⟩, fun _ w => w, fun _ w => Or.inl w⟩, zFq_refl t⟩
    · rw [q] at w; exact absurd w (by decide)
    · rw [q] at w; exact absurd w (by decide)
  · obtain ⟨_, _, d, d1, d2, d3⟩ := pl_thenOf h ha (by rcases q with q | q; exact Or.inl q; exact Or.inr (Or.inl q))
    obtain ⟨_, _, d', d1', d2', d3'⟩ := pl_thenOf h hb (by rw [← he]; rcases q with q | q; exact Or.inl q; exact Or.inr (Or.inl q))
    have n67 : ¬ ((zD t).kd a = 6 ∨ (zD t).kd a = 7) := by rcases q with q | q <;> rw [q] <;> decide
    rw [if_neg (fun w => n67 (Or.inl w)), if_neg (fun w => n67 (Or.inr w))]
    unfold bX2_goOnAlike_32
    rw [if_neg (by rcases q with q | q <;> rw [q] <;> decide), pl_behind0 la d2, pl_bd, pl_behind0 lb d2', pl_bd]
    obtain ⟨t2, z1, z2, z3, z4, z5⟩ := pl_pairUp (a := (zD t).bh a) (b := (zD t).bh b) h12 (by omega) hW ⟨2 * d + a % 2, by omega, rfl, d3.symm⟩ ⟨2 * d' + b % 2, by omega, rfl, d3'.symm⟩
    rw [z1, pl_bd]
    have ed : zDc (zD t) a = 1 := by unfold zDc; rw [if_pos q]
    refine ⟨t2, _, rfl, ⟨by rw [ed]; exact z2, by rw [ed]; exact z3, ⟨he, fun w => List.mem_cons_self, fun w => absurd w n67, fun w => absurd w h8⟩, fun e w => List.mem_cons_of_mem _ w, fun e w => ?_⟩, z4, z5⟩
    rcases List.mem_cons.mp w with w | w
    · subst w
      exact Or.inr (fun s => s.2.1 q)
    · exact Or.inl w
  · obtain ⟨_, _, d, d1, d2, d3⟩ := pl_thenOf h ha (by rcases q with q | q; exact Or.inr (Or.inr (Or.inl q)); exact Or.inr (Or.inr (Or.inr q)))
    obtain ⟨_, _, d', d1', d2', d3'⟩ := pl_thenOf h hb (by rw [← he]; rcases q with q | q; exact Or.inr (Or.inr (Or.inl q)); exact Or.inr (Or.inr (Or.inr q)))
    obtain ⟨_, _, c, c1, c2, c3⟩ := pl_givenOf h ha q
    obtain ⟨_, _, c', c1', c2', c3'⟩ := pl_givenOf h hb (by rw [← he]; exact q)
    have e18 : (if (zD t).kd a = 6 then bX2_goOnAlike_18 (Int32.ofNat a) (Int32.ofNat b) ((zD t).kd a) t else if (zD t).kd a = 7 then bX2_goOnAlike_18 (Int32.ofNat a) (Int32.ofNat b) ((zD t).kd a) t else bX2_goOnAlike_32 (Int32.ofNat a) (Int32.ofNat b) ((zD t).kd a) t) = bX2_goOnAlike_18 (Int32.ofNat a) (Int32.ofNat b) ((zD t).kd a) t := by
      rcases q with q | q
      · rw [if_pos q]
      · rw [if_neg (by rw [q]; decide), if_pos q]
    rw [e18]
    unfold bX2_goOnAlike_18
    rw [pl_inside0 la c2, pl_bd, pl_inside0 lb c2', pl_bd]
    obtain ⟨t1, y1, y2, y3, y4, y5⟩ := pl_pairUp (a := (zD t).inn a) (b := (zD t).inn b) h12 (by omega) hW ⟨2 * c, by omega, rfl, c3.symm⟩ ⟨2 * c', by omega, rfl, c3'.symm⟩
    rw [y1, pl_bd]
    have tr := zTr_pair y4 y5
    unfold bX2_goOnAlike_32
    rw [if_neg (by rcases q with q | q <;> rw [q] <;> decide), pl_behind0 (t := t1) la (by rw [y5 13 (by decide)]; exact d2), pl_bd, pl_behind0 (t := t1) lb (by rw [y5 13 (by decide)]; exact d2'), pl_bd]
    rw [← zQc_of tr] at y3
    obtain ⟨t2, z1, z2, z3, z4, z5⟩ := pl_pairUp (a := (zD t).bh a) (b := (zD t).bh b) y2 (by omega) y3 ⟨2 * d + a % 2, by omega, rfl, by rw [zSg2_of tr]; exact d3.symm⟩ ⟨2 * d' + b % 2, by omega, rfl, by rw [zSg2_of tr]; exact d3'.symm⟩
    rw [z1, pl_bd]
    rw [zQc_of tr] at z3
    have n45 : ¬ ((zD t).kd a = 4 ∨ (zD t).kd a = 5) := by rcases q with q | q <;> rw [q] <;> decide
    have ed : zDc (zD t) a = 2 := by unfold zDc; rw [if_neg n45, if_pos q]
    refine ⟨t2, _, rfl, ⟨by rw [ed]; exact z2, by rw [ed]; exact z3, ⟨he, fun w => absurd w n45, fun w => ⟨List.mem_cons_of_mem _ List.mem_cons_self, List.mem_cons_self⟩, fun w => absurd w h8⟩, fun e w => List.mem_cons_of_mem _ (List.mem_cons_of_mem _ w), fun e w => ?_⟩, zFq_trans ⟨y4, y5⟩ ⟨z4, z5⟩⟩
    rcases List.mem_cons.mp w with w | w
    · subst w
      exact Or.inr (fun s => (s.2.2.1 q).2)
    · rcases List.mem_cons.mp w with w | w
      · subst w
        exact Or.inr (fun s => (s.2.2.1 q).1)
      · exact Or.inl w
  · exact absurd q h8
/-! the same LABELS -/
def zix (lab : Nat → Int32) (l : Int32) : Nat → Nat
  | 0 => 0
  | n + 1 => if lab n = l then n else zix lab l n
theorem zix_at {lab : Nat → Int32} {l : Int32} : ∀ n, (∃ i, i < n ∧ lab i = l) → zix lab l n < n ∧ lab (zix lab l n) = l := by
  intro n
  induction n with
  | zero => rintro ⟨i, h, _⟩; omega
  | succ n ih =>
    rintro ⟨i, h1, h2⟩
    unfold zix
    by_cases c : lab n = l
    · rw [if_pos c]; exact ⟨Nat.lt_succ_self n, c⟩
    · rw [if_neg c]
      have hi : i < n := by
        rcases Nat.lt_or_ge i n with w | w
        · exact w
        · have : i = n := by omega
          subst this; exact absurd h2 c
      obtain ⟨a, b⟩ := ih ⟨i, hi, h2⟩
      exact ⟨by omega, b⟩
theorem zLab {n : Nat} {x y : Nat → Int32} (hx : ∀ i j, i < j → j < n → ¬ x i = x j) (h : ∀ i, i < n → ∃ j, j < n ∧ y j = x i) (j0 : Nat) (hj : j0 < n) : ∃ i, i < n ∧ x i = y j0 := by
  by_cases c : ∃ i, i < n ∧ x i = y j0
  · exact c
  · exfalso
    have z : ∀ i, i < n → zix y (x i) n < n ∧ y (zix y (x i) n) = x i := fun i hi => zix_at n (h i hi)
    have := zpig n (n + 1) (fun i => if i < n then zix y (x i) n else j0) (fun i hi => by
      show (if i < n then zix y (x i) n else j0) < n
      by_cases q : i < n
      · rw [if_pos q]; exact (z i q).1
      · rw [if_neg q]; exact hj) (fun i j hi hj2 e => by
      have e' : (if i < n then zix y (x i) n else j0) = (if j < n then zix y (x j) n else j0) := e
      by_cases q : i < n
      · by_cases q2 : j < n
        · rw [if_pos q, if_pos q2] at e'
          have ex : x i = x j := by rw [← (z i q).2, ← (z j q2).2, e']
          rcases Nat.lt_trichotomy i j with w | w | w
          · exact absurd ex (hx i j w q2)
          · exact w
          · exact absurd ex.symm (hx j i w q)
        · rw [if_pos q, if_neg q2] at e'
          exact absurd ⟨i, q, by rw [← e']; exact (z i q).2.symm⟩ c
      · by_cases q2 : j < n
        · rw [if_neg q, if_pos q2] at e'
          exact absurd ⟨j, q2, by rw [e']; exact (z j q2).2.symm⟩ c
        · omega)
    omega
/-- a state with LABELS, in parts -/
theorem zV_lab {G : zTxt} {f : Nat → Nat} {N M P A T s : Nat} {t u : zS} (h : zTG G f N M P A T t u) (hv : zV N t s) (hk : (zD t).kd s = 8 ∨ (zD t).kd s = 9) : ∃ n a e, 0 < n ∧ n ≤ 1500 ∧ P ≤ 1500 ∧ t 13 (s / 2) = Int32.ofNat n ∧ u 8 (f (s / 2)) = Int32.ofNat n ∧ u 7 (f (s / 2)) = Int32.ofNat a ∧ a + n ≤ 1500 ∧ zLk (t 19) P n (t 11 (s / 2)) e ∧ zPs (zBk G) f N n e (t 15) (t 17) (fun j => u 9 (a + j)) (fun j => u 10 (a + j)) ∧ zDs n e (t 15) ∧ (∀ l, (zD t).pt s l = none ↔ ∀ i, i < n → ¬ t 15 (e i) = l) ∧ ∀ i, i < n → ∃ x, x < N ∧ t 17 (e i) = Int32.ofNat x ∧ (zD t).pt s (t 15 (e i)) = some (zSg2 t (2 * x + s % 2)) := by
  have hN := h.2.2.2.1
  have hP := h.2.2.2.2.2.2.1
  rcases zV_at h hv with ⟨q, _⟩ | ⟨q, _⟩ | ⟨q, _⟩ | ⟨_, _, n, a, e, c1, c2, c3, c4, c5, c6, c7, c8, c9⟩
  · rw [q] at hk; exact absurd hk (by decide)
  · rcases q with q | q <;> rw [q] at hk <;> exact absurd hk (by decide)
  · rcases q with q | q <;> rw [q] at hk <;> exact absurd hk (by decide)
  · refine ⟨n, a, e, c1, c2, hP, c3, c4, c5, c6, c7, c8, c9, fun l => ?_, fun i hi => ?_⟩
    · rw [zD_pt]
      rcases zFd_all (by omega) (by omega) c7 l with ⟨b1, b2⟩ | ⟨i, b1, b2, b3⟩
      · rw [b1]; exact ⟨fun _ => b2, fun _ => rfl⟩
      · rw [b2]
        exact ⟨fun w => (by cases w), fun w => absurd b3 (w i b1)⟩
    · obtain ⟨x, x1, x2, x3⟩ := (c8 i hi).2
      refine ⟨x, x1, x2, ?_⟩
      rw [zD_pt, zFd_at (by omega) (by omega) c7 c9 hi]
      show some (zSg2 t (2 * (t 17 (e i)).toNatClampNeg + s % 2)) = _
      rw [x2, show (Int32.ofNat x).toNatClampNeg = x from pl_clamp (pl_ofn (by omega))]
