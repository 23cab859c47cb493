/-! the whole program so far, between two definitions -/
/-- a PARAMETER: a number, or a channel with its TYPE -/
def zPm (f : Nat → Nat) (N : Nat) (x y : Int32) : Prop := (x = -1 ∧ y = -1) ∨ ∃ c, c < N ∧ x = Int32.ofNat (2 * c) ∧ y = Int32.ofNat (f c)
/-- a proc on both sides -/
def zPd (G : zTxt) (f : Nat → Nat) (N S Pa bb : Nat) (o : Nat → Nat × Nat) (t u : zS) (x : Nat) : Prop := ∃ n b k a, t 39 x = Int32.ofNat n ∧ u 31 x = Int32.ofNat b ∧ u 31 (x + 1) = Int32.ofNat (b + n) ∧ b + n ≤ bb ∧ t 37 x = Int32.ofNat k ∧ u 32 x = Int32.ofNat k ∧ k ≤ n ∧ t 35 x = Int32.ofNat a ∧ a + k ≤ Pa ∧ (∀ j, j < k → zPm f N (t 45 (a + j)) (u 34 (b + j))) ∧
  ((t 41 x = -1 ∧ u 29 x = -1) ∨ ∃ s, s < S ∧ t 41 x = Int32.ofNat s ∧ u 29 x = Int32.ofNat s ∧ (o s = (0, x) ∧ o (10000 + s) = (s, 0)) ∧ t 101 s = -1) ∧ (t 43 x = u 30 x ∧ 0 ≤ t 43 x) ∧
  ∃ m : Nat → Nat, (∀ j, j < n → zWd G G.2.2.1 (m j)) ∧ ∀ j l, j < n → l < n → m j = m l → j = l
/-- types by name -/
def zDs2 (G : zTxt) (f : Nat → Nat) (N T : Nat) (t u : zS) : Prop := t 3 15 = Int32.ofNat T ∧ u 0 22 = Int32.ofNat T ∧ zBy (zBk G) T (t 25) (u 11) ∧ ∀ k, k < T → (t 23 k = u 12 k ∧ 0 ≤ t 23 k) ∧ zCh f N (t 21 k) (u 13 k)
/-- procs and statements -/
def zPs2 (G : zTxt) (f : Nat → Nat) (N K Q Pa bb S F C R W V : Nat) (o : Nat → Nat × Nat) (w : Nat → Nat) (t u : zS) : Prop :=
  t 4 10 = Int32.ofNat K ∧ u 0 44 = Int32.ofNat K ∧ t 4 9 = Int32.ofNat Pa ∧ u 31 Q = Int32.ofNat bb ∧ zBy (zBk G) K (t 33) (u 28) ∧ (∀ v, v < 1600 → t 49 v = -1 ∨ ∃ x, x < K ∧ t 49 v = Int32.ofNat x) ∧ (∀ x, x < Q → zPd G f N S Pa bb o t u x) ∧
  t 51 6 = Int32.ofNat F ∧ u 0 42 = Int32.ofNat C ∧ t 52 15 = Int32.ofNat S ∧ u 0 26 = Int32.ofNat S ∧ t 51 7 = Int32.ofNat R ∧ u 0 39 = Int32.ofNat R ∧ t 52 16 = Int32.ofNat W ∧ u 0 36 = Int32.ofNat V ∧
  ∀ s, s < S → zStm G o w S F C R W V t u s ∧ zLn o S t u s ∧ zPa o t s ∧ (o s).2 < Q
def zTN (G : zTxt) (i N M P A T Q Pa bb S F C R W V q : Nat) (t : zS) : Prop := N ≤ i ∧ M ≤ i ∧ P ≤ A ∧ zW (t 9) (t 13) N ≤ i ∧ 3 * S ≤ i ∧ F ≤ i ∧ C ≤ 2 * i ∧ 2 * R ≤ i ∧ 2 * W ≤ i ∧ 2 * A + 2 * V ≤ i ∧ 2 * q ≤ i ∧ bb ≤ i ∧ 2 * Pa ≤ i ∧ 9 * T + 10 * Q ≤ zpos G.1 G.2.1 i
def zTop (G : zTxt) (i : Nat) (f : Nat → Nat) (N M P A T Q Pa bb S F C R W V q : Nat) (o : Nat → Nat × Nat) (w : Nat → Nat) (t u : zS) : Prop :=
  zTB G S 0 i 0 f [] N M P A q t u ∧ zDs2 G f N T t u ∧ zPs2 G f N Q Q Pa bb S F C R W V o w t u ∧ zTN G i N M P A T Q Pa bb S F C R W V q t
/-- something went wrong in a definition -/
def zGE (t u t2 u2 : zS) : Prop := zEr t2 u2 ∧ zFP zpR t t2 ∧ zFP zpM u u2
theorem zPm_ext {f f2 : Nat → Nat} {N N2 : Nat} {x y : Int32} (h : zPm f N x y) (hf : ∀ c, c < N → f2 c = f c) (hN : N ≤ N2) : zPm f2 N2 x y := by
  rcases h with h | ⟨c, c1, c2, c3⟩
  · exact Or.inl h
  · exact Or.inr ⟨c, by omega, c2, by rw [hf c c1]; exact c3⟩
def zpDC (k j : Nat) : Bool := zpTC k j && !(k == 3 || k == 21 || k == 23 || k == 25)
def zpDM (k j : Nat) : Bool := zpTM k j && !((k == 0 && j == 22) || k == 11 || k == 12 || k == 13)
theorem zFP_DC {t t2 : zS} (h : zFP zpTC t t2) : zFP zpDC t t2 := zFP_mono h (fun k j q => by unfold zpDC at q; exact (Bool.and_eq_true _ _ ▸ q).1)
theorem zFP_DM {t t2 : zS} (h : zFP zpTM t t2) : zFP zpDM t t2 := zFP_mono h (fun k j q => by unfold zpDM at q; exact (Bool.and_eq_true _ _ ▸ q).1)
/-- while a TYPE is read, procs and statements stay -/
theorem zPs2_D {G : zTxt} {f f2 : Nat → Nat} {N N2 K Q Pa bb S F C R W V : Nat} {o : Nat → Nat × Nat} {w : Nat → Nat} {t u t2 u2 : zS} (h : zPs2 G f N K Q Pa bb S F C R W V o w t u) (ht : zFP zpDC t t2) (hu : zFP zpDM u u2) (hf : ∀ c, c < N → f2 c = f c) (hN : N ≤ N2) (hS : S ≤ 1000) : zPs2 G f2 N2 K Q Pa bb S F C R W V o w t2 u2 := by
  obtain ⟨a1, a2, a3, a4, a5, a6, a7, a8, a9, a10, a11, a12, a13, a14, a15, a16⟩ := h
  have r : ∀ k, (∀ j, zpDC k j = true) → t2 k = t k := fun k hk => zFP_row k ht hk
  have g : ∀ k, (∀ j, zpDM k j = true) → u2 k = u k := fun k hk => zFP_row k hu hk
  have g0 : ∀ j, zpDM 0 j = true → u2 0 j = u 0 j := fun j hj => hu 0 j hj
  have rS : ∀ k, 87 ≤ k ∧ k ≤ 115 → t2 k = t k := fun k hk => r k (fun j => by
    unfold zpDC zpTC
    rw [if_neg (by omega)]
    simp only [Bool.and_eq_true, Bool.not_eq_true', Bool.or_eq_false_iff, beq_eq_false_iff_ne]
    omega)
  have gS : ∀ k, 14 ≤ k ∧ k ≤ 34 → u2 k = u k := fun k hk => g k (fun j => by
    unfold zpDM zpTM
    rw [if_neg (by omega)]
    simp only [Bool.and_eq_true, Bool.not_eq_true', Bool.or_eq_false_iff, Bool.and_eq_false_iff, decide_eq_false_iff_not, beq_eq_false_iff_ne]
    omega)
  refine ⟨by rw [r 4 (fun _ => rfl)]; exact a1, by rw [g0 44 rfl]; exact a2, by rw [r 4 (fun _ => rfl)]; exact a3, by rw [gS 31 (by decide)]; exact a4, by rw [r 33 (fun _ => rfl), gS 28 (by decide)]; exact a5, by rw [r 49 (fun _ => rfl)]; exact a6, fun x hx => ?_, by rw [r 51 (fun _ => rfl)]; exact a8, by rw [g0 42 rfl]; exact a9, by rw [r 52 (fun _ => rfl)]; exact a10, by rw [g0 26 rfl]; exact a11, by rw [r 51 (fun _ => rfl)]; exact a12, by rw [g0 39 rfl]; exact a13, by rw [r 52 (fun _ => rfl)]; exact a14, by rw [g0 36 rfl]; exact a15, fun s hs => ?_⟩
  · obtain ⟨n, b, k, a, c1, c2, c3, c4, c5, c6, c7, c8, c9, c10, c11, c12, c13⟩ := a7 x hx
    unfold zPd
    rw [r 39 (fun _ => rfl), gS 31 (by decide), r 37 (fun _ => rfl), gS 32 (by decide), r 35 (fun _ => rfl), r 45 (fun _ => rfl), gS 34 (by decide), r 41 (fun _ => rfl), gS 29 (by decide), r 43 (fun _ => rfl), gS 30 (by decide), rS 101 (by decide)]
    exact ⟨n, b, k, a, c1, c2, c3, c4, c5, c6, c7, c8, c9, fun j hj => zPm_ext (c10 j hj) hf hN, c11, c12, c13⟩
  · obtain ⟨c1, c2, c3, c4⟩ := a16 s hs
    refine ⟨zStm_ext c1 hs (Nat.le_refl _) (Nat.le_refl _) (Nat.le_refl _) (Nat.le_refl _) (Nat.le_refl _) (Nat.le_refl _) (fun _ _ => rfl) (fun k hk => by rw [rS k (by omega)]) (fun k hk => by rw [gS k (by omega)]) (fun x _ => by rw [rS 101 (by decide)]) (fun x _ => ⟨by rw [r 75 (fun _ => rfl)], by rw [r 77 (fun _ => rfl)]⟩) (fun c _ => by rw [gS 27 (by decide)]) (fun x _ => ⟨by rw [r 79 (fun _ => rfl)], by rw [r 81 (fun _ => rfl)], by rw [r 83 (fun _ => rfl)]⟩) (fun x _ => ⟨by rw [gS 25 (by decide)], by rw [gS 26 (by decide)]⟩) (fun x _ hw => ⟨hw, by rw [rS 109 (by decide)], by rw [rS 111 (by decide)], by rw [rS 115 (by decide)]⟩) (fun x _ => ⟨by rw [gS 23 (by decide)], by rw [gS 24 (by decide)]⟩) (fun m hm hm2 => ⟨m, by rw [r 39 (fun _ => rfl)]; exact hm, Nat.le_refl _, hm2⟩), zLn_ext c2 c3 hs (Nat.le_refl _) hS (fun _ _ => rfl) (by rw [rS 99 (by decide)]) (by rw [gS 21 (by decide)]) (by rw [gS 22 (by decide)]) (fun x _ => by rw [rS 101 (by decide)]) (fun x _ => by rw [rS 87 (by decide)]), zPa_ext c3 hs (fun _ _ => rfl) (by rw [rS 101 (by decide)]) (fun x _ => by rw [rS 87 (by decide)]) (by rw [rS 107 (by decide)]), c4⟩
theorem zDs2_T {G : zTxt} {f f2 : Nat → Nat} {N N2 T : Nat} {t u t2 u2 : zS} (h : zDs2 G f N T t u) (ht : zFP zpTC t t2) (hu : zFP zpTM u u2) (hf : ∀ c, c < N → f2 c = f c) (hN : N ≤ N2) : zDs2 G f2 N2 T t2 u2 := by
  obtain ⟨a1, a2, a3, a4⟩ := h
  refine ⟨by rw [ht 3 15 rfl]; exact a1, by rw [hu 0 22 rfl]; exact a2, by rw [zFP_row 25 ht (fun _ => rfl), zFP_row 11 hu (fun _ => rfl)]; exact a3, fun k hk => ?_⟩
  rw [zFP_row 23 ht (fun _ => rfl), zFP_row 12 hu (fun _ => rfl), zFP_row 21 ht (fun _ => rfl), zFP_row 13 hu (fun _ => rfl)]
  exact ⟨(a4 k hk).1, zCh_ext (a4 k hk).2 hf hN⟩
