/-! STATEMENTS as both hold them -/
/-- a row's first places stay -/
def zLm (L : Nat → Nat) (t t2 : zS) : Prop := ∀ k j, j < L k → t2 k j = t k j
theorem zLm_refl (L : Nat → Nat) (t : zS) : zLm L t t := fun _ _ _ => rfl
theorem zLm_trans {L L2 : Nat → Nat} {a b c : zS} (h : zLm L a b) (h2 : zLm L2 b c) (hl : ∀ k, L k ≤ L2 k) : zLm L a c := fun k j hj => (h2 k j (Nat.lt_of_lt_of_le hj (hl k))).trans (h k j hj)
theorem zLm_zu {L : Nat → Nat} {a t : zS} {k j : Nat} {v : Int32} (h : zLm L a t) (hj : L k ≤ j) : zLm L a (zu t k j v) := by
  intro k' j' q
  rw [← h k' j' q]
  by_cases e : k' = k
  · subst e
    exact zu_ne2 (by omega)
  · exact zu_ne1 e
def zLQ (p S F R W q k : Nat) : Nat := if k = 5 ∨ k = 51 ∨ k = 52 ∨ k = 47 ∨ k = 49 then 0 else if k = 39 then p else if k = 75 ∨ k = 77 then F else if k = 79 ∨ k = 81 ∨ k = 83 then R else if k = 54 ∨ k = 56 then q else if k = 109 ∨ k = 111 ∨ k = 113 ∨ k = 115 then W else if 87 ≤ k ∧ k ≤ 107 ∧ ¬ k = 103 then S else 1000000
def zLR (p b S n C R V q H k : Nat) : Nat := if k = 0 ∨ k = 3 ∨ k = 4 then 0 else if k = 31 then p + 1 else if k = 33 then b + n else if k = 27 then C else if k = 25 ∨ k = 26 then R else if k = 23 ∨ k = 24 then V else if 35 ≤ k ∧ k ≤ 38 then q else if k = 39 then 2 * H else if 14 ≤ k ∧ k ≤ 22 then S else 1000000
/-- fields of the reference that blocks leave alone -/
def zF0 (u u2 : zS) : Prop := ∀ j, ¬ ((4 ≤ j ∧ j ≤ 11) ∨ j = 26 ∨ j = 36 ∨ j = 39 ∨ j = 42 ∨ j = 52 ∨ j = 59 ∨ j = 61) → u2 0 j = u 0 j
theorem zF0_refl (u : zS) : zF0 u u := fun _ _ => rfl
theorem zF0_trans {a b c : zS} (h : zF0 a b) (h2 : zF0 b c) : zF0 a c := fun j hj => (h2 j hj).trans (h j hj)
/-- a slot of proc q -/
def zSo (t : zS) (q : Nat) (x y : Int32) : Prop := ∃ k n, x = Int32.ofNat k ∧ y = Int32.ofNat k ∧ t 39 q = Int32.ofNat n ∧ k < n ∧ n ≤ 3000
/-- an EXPRESSION -/
def zFm (t u : zS) (q F C : Nat) (x y z : Int32) : Prop := ∃ a l c c2 n, x = Int32.ofNat a ∧ y = Int32.ofNat (a + l) ∧ z = Int32.ofNat c ∧ 0 < l ∧ a + l ≤ F ∧ c2 < C ∧ t 39 q = Int32.ofNat n ∧ n ≤ 3000 ∧ zSg (t 75) (t 77) (u 27) n 250 l a c 0 c2 1 ∧ u 27 c2 = 0
def zArg (t u : zS) (q F C k : Nat) : Prop := zFm t u q F C (t 79 k) (t 81 k) (u 25 k) ∧ ((t 83 k = -1 ∧ u 26 k = -1) ∨ zSo t q (t 83 k) (u 26 k))
def zCl (t u : zS) (q F C R s : Nat) : Prop := ∃ v a m, t 93 s = Int32.ofNat v ∧ v < 1600 ∧ t 95 s = Int32.ofNat a ∧ t 97 s = Int32.ofNat (a + m) ∧ u 19 s = Int32.ofNat a ∧ u 20 s = Int32.ofNat m ∧ a + m ≤ R ∧ ∀ k, a ≤ k → k < a + m → zArg t u q F C k
/-- a BLOCK inside statement s -/
def zBl (t : zS) (o : Nat → Nat × Nat) (s S : Nat) (beh x y : Int32) : Prop := (x = -1 ∧ y = beh) ∨ ∃ r, x = Int32.ofNat r ∧ y = Int32.ofNat r ∧ s < r ∧ r < S ∧ (o r = ((o s).1 + 1, (o s).2) ∧ o (10000 + r) = (r, 0)) ∧ t 101 r = Int32.ofNat s
def zBc (B : List Nat) (o : Nat → Nat × Nat) (w : Nat → Nat) (S W V : Nat) (t u : zS) (s : Nat) : Prop := ∃ n a e, 0 < n ∧ zLk (t 115) W n (t 105 s) e ∧ u 19 s = Int32.ofNat a ∧ u 20 s = Int32.ofNat n ∧ a + n ≤ V ∧ (∀ j, j < n → zNm B (t 109 (e j)) (u 23 (a + j)) ∧ zBl t o s S (-2 - Int32.ofNat s) (t 111 (e j)) (u 24 (a + j)) ∧ w (e j) = s) ∧ zDs n e (t 109) ∧ ∀ j l, j < l → l < n → t 111 (e j) = t 111 (e l) → t 111 (e j) = -1
def zBi (o : Nat → Nat × Nat) (w : Nat → Nat) (S W : Nat) (t u : zS) (s : Nat) : Prop := ∃ e0 e1, e0 < W ∧ e1 < W ∧ t 105 s = Int32.ofNat e0 ∧ t 115 e0 = Int32.ofNat e1 ∧ t 115 e1 = -1 ∧ zBl t o s S (-2 - Int32.ofNat s) (t 111 e0) (u 19 s) ∧ zBl t o s S (-2 - Int32.ofNat s) (t 111 e1) (u 20 s) ∧ w e0 = s ∧ w e1 = s ∧ (t 111 e0 = t 111 e1 → t 111 e0 = -1)
def zBw (o : Nat → Nat × Nat) (w : Nat → Nat) (S W : Nat) (t u : zS) (s : Nat) : Prop := ∃ e0, e0 < W ∧ t 105 s = Int32.ofNat e0 ∧ t 115 e0 = -1 ∧ zBl t o s S (Int32.ofNat s) (t 111 e0) (u 19 s) ∧ w e0 = s
/-- words if, while, case ahead of word i -/
def zKc (G : zTxt) : Nat → Nat
  | 0 => 0
  | i + 1 => zKc G i + (if i < G.2.2.1 ∧ zltb (G.1 (zpos G.1 G.2.1 i)) = true ∧ (G.2.2.2 i = 7 ∨ G.2.2.2 i = 10 ∨ G.2.2.2 i = 12) then 1 else 0)
/-- no EXPRESSION -/
def zNo (t u : zS) (s : Nat) : Prop := t 95 s = 0 ∧ t 97 s = 0 ∧ u 18 s = -1
/-- depth of a statement that holds others -/
def zDp (G : zTxt) (o : Nat → Nat × Nat) (s : Nat) : Prop := (o s).1 ≤ 38 ∧ (o s).1 + 1 ≤ zKc G G.2.2.1
def zStm (G : zTxt) (o : Nat → Nat × Nat) (w : Nat → Nat) (S F C R W V : Nat) (t u : zS) (s : Nat) : Prop := (t 89 s = u 15 s ∧ 0 ≤ t 89 s) ∧
  ((((t 87 s = 17 ∧ u 14 s = 0) ∨ (t 87 s = 2 ∧ u 14 s = 1)) ∧ zSo t (o s).2 (t 91 s) (u 16 s) ∧ t 93 s = -1 ∧ zFm t u (o s).2 F C (t 95 s) (t 97 s) (u 18 s)) ∨
   (t 87 s = 13 ∧ u 14 s = 12 ∧ t 91 s = -1 ∧ u 16 s = -1 ∧ t 93 s = -1 ∧ zFm t u (o s).2 F C (t 95 s) (t 97 s) (u 18 s)) ∨
   (((t 87 s = 3 ∧ u 14 s = 2) ∨ (t 87 s = 4 ∧ u 14 s = 3) ∨ (t 87 s = 5 ∧ u 14 s = 4)) ∧ zSo t (o s).2 (t 91 s) (u 16 s) ∧ zSo t (o s).2 (t 93 s) (u 17 s) ∧ zNo t u s) ∨
   (t 87 s = 6 ∧ u 14 s = 5 ∧ zSo t (o s).2 (t 91 s) (u 16 s) ∧ zNm (zBk G) (t 93 s) (u 17 s) ∧ zNo t u s) ∨
   (t 87 s = 14 ∧ u 14 s = 13 ∧ zSo t (o s).2 (t 91 s) (u 16 s) ∧ t 93 s = -1 ∧ zNo t u s) ∨
   (t 87 s = 7 ∧ u 14 s = 6 ∧ zSo t (o s).2 (t 91 s) (u 16 s) ∧ zNo t u s ∧ zBc (zBk G) o w S W V t u s ∧ zDp G o s) ∨
   (((t 87 s = 8 ∧ u 14 s = 7 ∧ t 91 s = -1 ∧ u 16 s = -1) ∨ (t 87 s = 8 ∧ u 14 s = 8 ∧ zSo t (o s).2 (t 91 s) (u 16 s)) ∨ (t 87 s = 9 ∧ u 14 s = 9 ∧ t 91 s = -1 ∧ u 16 s = -1)) ∧ u 18 s = -1 ∧ zCl t u (o s).2 F C R s) ∨
   (t 87 s = 10 ∧ u 14 s = 10 ∧ t 91 s = -1 ∧ u 16 s = -1 ∧ zFm t u (o s).2 F C (t 95 s) (t 97 s) (u 18 s) ∧ zBi o w S W t u s ∧ zDp G o s) ∨
   (t 87 s = 12 ∧ u 14 s = 11 ∧ t 91 s = -1 ∧ u 16 s = -1 ∧ zFm t u (o s).2 F C (t 95 s) (t 97 s) (u 18 s) ∧ zBw o w S W t u s ∧ zDp G o s))
/-- where one goes on behind the last statement of a BLOCK -/
def zBeh (t : zS) (x : Int32) : Int32 := if x = -1 then -1 else if t 87 x.toNatClampNeg = 12 then x else -2 - x
/-- nothing is CLOSED behind a statement of numbers -/
def zP0 (t : zS) (s : Nat) : Prop := (t 87 s = 17 ∨ t 87 s = 13 ∨ t 87 s = 14) → t 107 s = 0
/-- parent, and what is next -/
def zPa (o : Nat → Nat × Nat) (t : zS) (s : Nat) : Prop := ((o s).1 ≤ 39 ∧ zP0 t s) ∧ ((t 101 s = -1 ∧ (o s).1 = 0) ∨ ∃ h, t 101 s = Int32.ofNat h ∧ h < s ∧ o s = ((o h).1 + 1, (o h).2) ∧ (t 87 h = 7 ∨ t 87 h = 10 ∨ t 87 h = 12))
def zLn (o : Nat → Nat × Nat) (S : Nat) (t u : zS) (s : Nat) : Prop := (t 99 s = -1 ∧ u 22 s = -1 ∧ u 21 s = zBeh t (t 101 s)) ∨ ∃ r, t 99 s = Int32.ofNat r ∧ u 22 s = Int32.ofNat r ∧ u 21 s = Int32.ofNat r ∧ s < r ∧ r < S ∧ (o r = o s ∧ o (10000 + r) = o (10000 + s)) ∧ t 101 r = t 101 s
def zBB (G : zTxt) (i d p b H : Nat) (f : Nat → Nat) (N M A S n F C R W V q : Nat) (o : Nat → Nat × Nat) (w : Nat → Nat) (Y Z : List Nat) (t u : zS) : Prop :=
  zEB G i d p b n F C t u ∧ zAK (zBk G) f N M S q t u ∧ t 52 15 = Int32.ofNat S ∧ u 0 26 = Int32.ofNat S ∧ t 51 7 = Int32.ofNat R ∧ u 0 39 = Int32.ofNat R ∧ t 52 16 = Int32.ofNat W ∧ u 0 36 = Int32.ofNat V ∧ u 0 59 = Int32.ofNat (2 * H) ∧ u 0 19 = Int32.ofNat A ∧
  (∀ s, s < S → ¬ s ∈ Y → zStm G o w S F C R W V t u s) ∧ (∀ s, s < S → ¬ s ∈ Z → zLn o S t u s) ∧ ∀ s, s < S → zPa o t s ∧ (o s).2 ≤ p
def zBN (i A H b S n F C R W V q : Nat) : Prop := 3 * S ≤ i + 1 ∧ F ≤ i ∧ C ≤ 2 * i ∧ 2 * R ≤ i ∧ 2 * W ≤ i ∧ 2 * A + 2 * V + 2 * H ≤ i + 1 ∧ 2 * q ≤ i ∧ b + n ≤ i
def zBF (i S n F C R W V q i2 S2 n2 F2 C2 R2 W2 V2 q2 : Nat) : Prop := 3 * S2 + i ≤ 3 * S + i2 ∧ F2 + i ≤ F + i2 ∧ C2 + 2 * i ≤ C + 2 * i2 ∧ 2 * R2 + i ≤ 2 * R + i2 ∧ 2 * W2 + i ≤ 2 * W + i2 ∧ 2 * V2 + i ≤ 2 * V + i2 ∧ 2 * q2 + i ≤ 2 * q + i2 ∧ n2 + i ≤ n + i2
def zBX (p b H S n F C R W V q S2 n2 F2 C2 R2 W2 V2 q2 : Nat) (o o2 : Nat → Nat × Nat) (w w2 : Nat → Nat) (t u t2 u2 : zS) : Prop := S ≤ S2 ∧ n ≤ n2 ∧ F ≤ F2 ∧ C ≤ C2 ∧ R ≤ R2 ∧ W ≤ W2 ∧ V ≤ V2 ∧ q ≤ q2 ∧ (∀ s, (s < S ∨ (10000 ≤ s ∧ s < 10000 + S)) → o2 s = o s) ∧ (∀ k, k < W → w2 k = w k) ∧ zLm (zLQ p S F R W q) t t2 ∧ zLm (zLR p b S n C R V q H) u u2 ∧ zF0 u u2
theorem zBX_refl {p b H S n F C R W V q : Nat} {o : Nat → Nat × Nat} {w : Nat → Nat} {t u : zS} : zBX p b H S n F C R W V q S n F C R W V q o o w w t u t u := ⟨Nat.le_refl _, Nat.le_refl _, Nat.le_refl _, Nat.le_refl _, Nat.le_refl _, Nat.le_refl _, Nat.le_refl _, Nat.le_refl _, fun _ _ => rfl, fun _ _ => rfl, zLm_refl _ _, zLm_refl _ _, zF0_refl _⟩
theorem zLQ_mono {p S F R W q S2 F2 R2 W2 q2 : Nat} (h1 : S ≤ S2) (h2 : F ≤ F2) (h3 : R ≤ R2) (h4 : W ≤ W2) (h5 : q ≤ q2) (k : Nat) : zLQ p S F R W q k ≤ zLQ p S2 F2 R2 W2 q2 k := by
  unfold zLQ
  repeat' split
  all_goals omega
theorem zLR_mono {p b S n C R V q H S2 n2 C2 R2 V2 q2 H2 : Nat} (h1 : S ≤ S2) (h2 : n ≤ n2) (h3 : C ≤ C2) (h4 : R ≤ R2) (h5 : V ≤ V2) (h6 : q ≤ q2) (h7 : H ≤ H2) (k : Nat) : zLR p b S n C R V q H k ≤ zLR p b S2 n2 C2 R2 V2 q2 H2 k := by
  unfold zLR
  repeat' split
  all_goals omega
theorem zBX_trans {p b H H2 S n F C R W V q S2 n2 F2 C2 R2 W2 V2 q2 S3 n3 F3 C3 R3 W3 V3 q3 : Nat} {o o2 o3 : Nat → Nat × Nat} {w w2 w3 : Nat → Nat} {t u t2 u2 t3 u3 : zS} (h : zBX p b H S n F C R W V q S2 n2 F2 C2 R2 W2 V2 q2 o o2 w w2 t u t2 u2) (k : zBX p b H2 S2 n2 F2 C2 R2 W2 V2 q2 S3 n3 F3 C3 R3 W3 V3 q3 o2 o3 w2 w3 t2 u2 t3 u3) (hH : H ≤ H2) : zBX p b H S n F C R W V q S3 n3 F3 C3 R3 W3 V3 q3 o o3 w w3 t u t3 u3 := by
  obtain ⟨a1, a2, a3, a4, a5, a6, a7, a8, a9, a10, a11, a12, a13⟩ := h
  obtain ⟨b1, b2, b3, b4, b5, b6, b7, b8, b9, b10, b11, b12, b13⟩ := k
  exact ⟨by omega, by omega, by omega, by omega, by omega, by omega, by omega, by omega, fun s hs => (b9 s (by omega)).trans (a9 s hs), fun k hk => (b10 k (by omega)).trans (a10 k hk), zLm_trans a11 b11 (zLQ_mono a1 a3 a5 a6 a8), zLm_trans a12 b12 (zLR_mono a1 a2 a4 a5 a7 a8 hH), zF0_trans a13 b13⟩
