/-! TYPES as both hold them -/
/-- a child on both sides -/
def zCh (f : Nat → Nat) (N : Nat) (x y : Int32) : Prop := ∃ d, d < N ∧ x = Int32.ofNat d ∧ y = Int32.ofNat (f d)
/-- a name on both sides -/
def zNm (B : List Nat) (x y : Int32) : Prop := ∃ v w, v < 1600 ∧ x = Int32.ofNat v ∧ y = Int32.ofNat w ∧ B[w]? = some v
/-- n parts in a chain from h -/
def zLk (F : Nat → Int32) (P n : Nat) (h : Int32) (e : Nat → Nat) : Prop := (h = if n = 0 then -1 else Int32.ofNat (e 0)) ∧ ∀ j, j < n → e j < P ∧ F (e j) = (if j + 1 < n then Int32.ofNat (e (j + 1)) else -1)
def zPs (B : List Nat) (f : Nat → Nat) (N n : Nat) (e : Nat → Nat) (L Q : Nat → Int32) (x y : Nat → Int32) : Prop := ∀ j, j < n → zNm B (L (e j)) (x j) ∧ zCh f N (Q (e j)) (y j)
def zDs (n : Nat) (e : Nat → Nat) (L : Nat → Int32) : Prop := ∀ j k, j < k → k < n → ¬ L (e j) = L (e k)
/-- a node on both sides -/
def zTL (B : List Nat) (R : Int32 → Int32 → Prop) (f : Nat → Nat) (N P A : Nat) (t u : zS) (c : Nat) : Prop :=
  (t 9 c = 0 ∧ u 5 (f c) = 0) ∨
  (((t 9 c = 2 ∧ u 5 (f c) = 1) ∨ (t 9 c = 3 ∧ u 5 (f c) = 2)) ∧ R (t 11 c) (u 6 (f c))) ∨
  (((t 9 c = 4 ∧ u 5 (f c) = 3) ∨ (t 9 c = 5 ∧ u 5 (f c) = 4)) ∧ zCh f N (t 13 c) (u 6 (f c))) ∨
  (((t 9 c = 6 ∧ u 5 (f c) = 5) ∨ (t 9 c = 7 ∧ u 5 (f c) = 6)) ∧ zCh f N (t 11 c) (u 7 (f c)) ∧ zCh f N (t 13 c) (u 6 (f c))) ∨
  (((t 9 c = 8 ∧ u 5 (f c) = 7) ∨ (t 9 c = 9 ∧ u 5 (f c) = 8)) ∧ ∃ n a e, 0 < n ∧ t 13 c = Int32.ofNat n ∧ u 8 (f c) = Int32.ofNat n ∧ u 7 (f c) = Int32.ofNat a ∧ a + n ≤ A ∧ zLk (t 19) P n (t 11 c) e ∧ zPs B f N n e (t 15) (t 17) (fun j => u 9 (a + j)) (fun j => u 10 (a + j)) ∧ zDs n e (t 15) ∧ ∀ j, j < n → f (10000 + e j) = c)
/-- what a node lets wait -/
def zW (K H : Nat → Int32) : Nat → Nat
  | 0 => 0
  | c + 1 => zW K H c + (if K c = 4 ∨ K c = 5 then 1 else if K c = 6 ∨ K c = 7 then 2 else if K c = 8 ∨ K c = 9 then (H c).toNatClampNeg else 0)
def zTD (B : List Nat) (R : Int32 → Int32 → Prop) (f : Nat → Nat) (X : List Nat) (N M P A : Nat) (t u : zS) : Prop :=
  t 3 13 = Int32.ofNat N ∧ u 0 14 = Int32.ofNat M ∧ t 3 14 = Int32.ofNat P ∧ u 0 19 = Int32.ofNat A ∧ (∀ c, c < N → f c < M) ∧ (∀ c d, c < N → d < N → f c = f d → c = d) ∧ ∀ c, c < N → ¬ c ∈ X → zTL B R f N P A t u c
/-- mentions and asks -/
def zA1 (B : List Nat) (M S : Nat) (t u : zS) (k : Nat) : Prop := (t 54 k = u 36 k ∧ 0 ≤ t 54 k) ∧ ∃ v w, v < 1600 ∧ B[w]? = some v ∧ u 35 k = Int32.ofNat w ∧
  ((t 56 k = Int32.ofNat (2 * v) ∧ u 37 k = 0 ∧ ∃ m, m < M ∧ u 38 k = Int32.ofNat m ∧ u 6 m = Int32.ofNat w ∧ (u 5 m = 1 ∨ u 5 m = 2)) ∨
   (t 56 k = Int32.ofNat (2 * v + 1) ∧ u 37 k = 1 ∧ ∃ s, s < S ∧ u 38 k = Int32.ofNat s ∧ t 93 s = Int32.ofNat v ∧ (t 87 s = 8 ∨ t 87 s = 9)))
def zAK (B : List Nat) (f : Nat → Nat) (N M S q : Nat) (t u : zS) : Prop := t 5 7 = Int32.ofNat q ∧ u 0 52 = Int32.ofNat q ∧ (∀ k, k < q → zA1 B M S t u k) ∧ (∀ c, c < N → (t 9 c = 2 ∨ t 9 c = 3) → ∃ k, k < q ∧ u 37 k = 0 ∧ u 38 k = Int32.ofNat (f c)) ∧ ∀ s, s < S → (t 87 s = 8 ∨ t 87 s = 9) → ∃ k, k < q ∧ u 37 k = 1 ∧ u 38 k = Int32.ofNat s
theorem zTL_of {B : List Nat} {R : Int32 → Int32 → Prop} {f : Nat → Nat} {N P A c : Nat} {t u t2 u2 : zS} (h : zTL B R f N P A t u c) (h9 : t2 9 = t 9) (h11 : t2 11 = t 11) (h13 : t2 13 = t 13) (h15 : t2 15 = t 15) (h17 : t2 17 = t 17) (h19 : t2 19 = t 19) (g5 : u2 5 = u 5) (g6 : u2 6 = u 6) (g7 : u2 7 = u 7) (g8 : u2 8 = u 8) (g9 : u2 9 = u 9) (g10 : u2 10 = u 10) : zTL B R f N P A t2 u2 c := by
  unfold zTL at *
  rw [h9, h11, h13, h15, h17, h19, g5, g6, g7, g8, g9, g10]
  exact h
theorem zTD_of {B : List Nat} {R : Int32 → Int32 → Prop} {f : Nat → Nat} {X : List Nat} {N M P A : Nat} {t u t2 u2 : zS} (h : zTD B R f X N M P A t u) (h3 : t2 3 13 = t 3 13) (h4 : t2 3 14 = t 3 14) (g1 : u2 0 14 = u 0 14) (g2 : u2 0 19 = u 0 19) (h9 : t2 9 = t 9) (h11 : t2 11 = t 11) (h13 : t2 13 = t 13) (h15 : t2 15 = t 15) (h17 : t2 17 = t 17) (h19 : t2 19 = t 19) (g5 : u2 5 = u 5) (g6 : u2 6 = u 6) (g7 : u2 7 = u 7) (g8 : u2 8 = u 8) (g9 : u2 9 = u 9) (g10 : u2 10 = u 10) : zTD B R f X N M P A t2 u2 := by
  obtain ⟨a1, a2, a3, a4, a5, a6, a7⟩ := h
  exact ⟨by rw [h3, a1], by rw [g1, a2], by rw [h4, a3], by rw [g2, a4], a5, a6, fun c c1 c2 => zTL_of (a7 c c1 c2) h9 h11 h13 h15 h17 h19 g5 g6 g7 g8 g9 g10⟩
theorem zAK_of {B : List Nat} {f : Nat → Nat} {N M S q : Nat} {t u t2 u2 : zS} (h : zAK B f N M S q t u) (h7 : t2 5 7 = t 5 7) (g7 : u2 0 52 = u 0 52) (h9 : t2 9 = t 9) (h54 : t2 54 = t 54) (h56 : t2 56 = t 56) (h93 : t2 93 = t 93) (h87 : t2 87 = t 87) (g5 : u2 5 = u 5) (g6 : u2 6 = u 6) (g35 : u2 35 = u 35) (g36 : u2 36 = u 36) (g37 : u2 37 = u 37) (g38 : u2 38 = u 38) : zAK B f N M S q t2 u2 := by
  unfold zAK zA1 at *
  rw [h7, g7, h9, h54, h56, h93, h87, g5, g6, g35, g36, g37, g38]
  exact h
/-- a child is still one when more come -/
theorem zCh_ext {f f2 : Nat → Nat} {N N2 : Nat} {x y : Int32} (h : zCh f N x y) (hf : ∀ c, c < N → f2 c = f c) (hN : N ≤ N2) : zCh f2 N2 x y := by
  obtain ⟨d, d1, d2, d3⟩ := h
  exact ⟨d, by omega, d2, by rw [hf d d1]; exact d3⟩
theorem zLk_ext {F F2 : Nat → Int32} {P P2 n : Nat} {h : Int32} {e : Nat → Nat} (hh : zLk F P n h e) (hF : ∀ j, j < n → F2 (e j) = F (e j)) (hP : P ≤ P2) : zLk F2 P2 n h e := by
  obtain ⟨h1, h2⟩ := hh
  refine ⟨h1, fun j hj => ?_⟩
  obtain ⟨a, b⟩ := h2 j hj
  exact ⟨by omega, by rw [hF j hj]; exact b⟩
theorem zPs_ext {B : List Nat} {f f2 : Nat → Nat} {N N2 n : Nat} {e : Nat → Nat} {L Q L2 Q2 x y x2 y2 : Nat → Int32} (h : zPs B f N n e L Q x y) (hf : ∀ c, c < N → f2 c = f c) (hN : N ≤ N2) (hL : ∀ j, j < n → L2 (e j) = L (e j)) (hQ : ∀ j, j < n → Q2 (e j) = Q (e j)) (hx : ∀ j, j < n → x2 j = x j) (hy : ∀ j, j < n → y2 j = y j) : zPs B f2 N2 n e L2 Q2 x2 y2 := by
  intro j hj
  obtain ⟨a, b⟩ := h j hj
  rw [hL j hj, hQ j hj, hx j hj, hy j hj]
  exact ⟨a, zCh_ext b hf hN⟩
theorem zDs_ext {n : Nat} {e : Nat → Nat} {L L2 : Nat → Int32} (h : zDs n e L) (hL : ∀ j, j < n → L2 (e j) = L (e j)) : zDs n e L2 := by
  intro j k h1 h2
  rw [hL j (by omega), hL k h2]
  exact h j k h1 h2
/-- a node is still one when more come -/
theorem zTL_ext {B : List Nat} {R : Int32 → Int32 → Prop} {f f2 : Nat → Nat} {N P A N2 P2 A2 c : Nat} {t u t2 u2 : zS} (h : zTL B R f N P A t u c) (hN : N ≤ N2) (hP : P ≤ P2) (hA : A ≤ A2) (hc : c < N) (hf : ∀ c, c < N → f2 c = f c) (ho : ∀ k, k < P → f2 (10000 + k) = f (10000 + k)) (h9 : t2 9 c = t 9 c) (h11 : t2 11 c = t 11 c) (h13 : t2 13 c = t 13 c) (hp : ∀ k, k < P → f (10000 + k) = c → t2 15 k = t 15 k ∧ t2 17 k = t 17 k ∧ t2 19 k = t 19 k) (g5 : u2 5 (f c) = u 5 (f c)) (g6 : u2 6 (f c) = u 6 (f c)) (g7 : u2 7 (f c) = u 7 (f c)) (g8 : u2 8 (f c) = u 8 (f c)) (ga : ∀ a, a < A → u2 9 a = u 9 a ∧ u2 10 a = u 10 a) : zTL B R f2 N2 P2 A2 t2 u2 c := by
  unfold zTL at *
  rw [hf c hc, h9, h11, h13, g5, g6, g7, g8]
  rcases h with h | h | ⟨h1, h2⟩ | ⟨h1, h2, h3⟩ | ⟨h1, n, a, e, b0, b1, b2, b3, b4, b5, b6, b7, b8⟩
  · exact Or.inl h
  · exact Or.inr (Or.inl h)
  · exact Or.inr (Or.inr (Or.inl ⟨h1, zCh_ext h2 hf hN⟩))
  · exact Or.inr (Or.inr (Or.inr (Or.inl ⟨h1, zCh_ext h2 hf hN, zCh_ext h3 hf hN⟩)))
  · refine Or.inr (Or.inr (Or.inr (Or.inr ⟨h1, n, a, e, b0, b1, b2, b3, by omega, zLk_ext b5 (fun j hj => (hp _ (b5.2 j hj).1 (b8 j hj)).2.2) hP, ?_, ?_, fun j hj => by rw [ho _ (b5.2 j hj).1]; exact b8 j hj⟩)))
    · exact zPs_ext b6 hf hN (fun j hj => (hp _ (b5.2 j hj).1 (b8 j hj)).1) (fun j hj => (hp _ (b5.2 j hj).1 (b8 j hj)).2.1) (fun j hj => (ga _ (by omega)).1) (fun j hj => (ga _ (by omega)).2)
    · exact zDs_ext b7 (fun j hj => (hp _ (b5.2 j hj).1 (b8 j hj)).1)
theorem zW_congr {K H K2 H2 : Nat → Int32} : ∀ n, (∀ c, c < n → K2 c = K c ∧ ((K c = 8 ∨ K c = 9) → H2 c = H c)) → zW K2 H2 n = zW K H n := by
  intro n
  induction n with
  | zero => intro _; rfl
  | succ n ih =>
    intro h
    obtain ⟨a, b⟩ := h n (by omega)
    unfold zW
    rw [ih (fun c hc => h c (by omega)), a]
    by_cases q : K n = 8 ∨ K n = 9
    · rw [b q]
    · rw [if_neg q, if_neg q]
/-- one part more -/
theorem zW_bump {K H H2 : Nat → Int32} {c m : Nat} (hk : K c = 8 ∨ K c = 9) (h1 : H c = Int32.ofNat m) (h2 : H2 c = Int32.ofNat (m + 1)) (hm : m < 100000) (ho : ∀ d, ¬ d = c → H2 d = H d) : ∀ n, c < n → zW K H2 n = zW K H n + 1 := by
  intro n
  induction n with
  | zero => intro h; omega
  | succ n ih =>
    intro h
    unfold zW
    by_cases e : c = n
    · subst e
      rw [zW_congr c (fun d hd => ⟨rfl, fun _ => ho d (by omega)⟩), h1, h2]
      have e1 : (Int32.ofNat m).toNatClampNeg = m := pl_clamp (pl_ofn (by omega))
      have e2 : (Int32.ofNat (m + 1)).toNatClampNeg = m + 1 := pl_clamp (pl_ofn (by omega))
      rw [e1, e2]
      have n4 : ¬ (K c = 4 ∨ K c = 5) := by rcases hk with q | q <;> rw [q] <;> decide
      have n6 : ¬ (K c = 6 ∨ K c = 7) := by rcases hk with q | q <;> rw [q] <;> decide
      rw [if_neg n4, if_neg n4, if_neg n6, if_neg n6, if_pos hk, if_pos hk]
      omega
    · rw [ih (by omega), ho n (fun w => e w.symm)]
      omega
