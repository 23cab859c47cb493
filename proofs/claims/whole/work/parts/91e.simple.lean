/-! a STATEMENT under way: its NAMES and EXPRESSIONS -/
/-- an EXPRESSION, and the reference's mark behind it -/
theorem zTold0 {G : zTxt} {i d p b n F C : Nat} {t u : zS} (h : zES G i d p b n F C t u) (hd : d ≤ 40) : ∃ r t2 r' u2, mX7_readExpressionr t = some (r, t2) ∧ mX12_told u = some (r', u2) ∧
    ((∃ i2 n2 F2 C2 l, i < i2 ∧ zEB G i2 d p b n2 F2 (C2 + 1) t2 u2 ∧ r' = Int32.ofNat C ∧ F2 = F + l ∧ 0 < l ∧ zSg (t2 75) (t2 77) (u2 27) n2 250 l F C 0 C2 1 ∧ u2 27 C2 = 0 ∧ zEX p b n F C n2 F2 (C2 + 1) t u t2 u2 ∧ F2 + i ≤ F + i2 ∧ C2 + 2 * i ≤ C + 2 * i2 ∧ n2 + i ≤ n + i2 ∧ b + n2 ≤ i2 ∧ ((i2 = i + 1 ∧ l = 1 ∧ (t 5 9 = 17 → t2 75 F = 17)) ∨ (i + 2 ≤ i2 ∧ (t 5 9 = 17 → 2 ≤ l)))) ∨ zEE 6165 t u t2 u2) := by
  obtain ⟨r, t2, r', u2, a1, a2, a3⟩ := zExprs hd G p b i n F C t u h
  unfold mX12_told
  rw [pl_let, a2, pl_bd, a1, h.1.2.2.2.2.2]
  rcases a3 with ⟨i2, n2, F2, C2, ⟨hB, m1, m2, m3⟩, X, g1, l, g2, g3, g4, g5, g6, g7, g8⟩ | e
  · have hl := zAt_lt hB.1
    rw [zm_put hB.2.2.2.2.2 (by omega), pl_bd]
    have z := g7 0 250 (by omega)
    have hle := zSg_le l z
    refine ⟨_, _, _, _, rfl, rfl, Or.inl ⟨i2, n2, F2, C2, l, g1, zEB_m hB, rfl, g2, g3, zSg_of (Nat.le_refl _) (Nat.le_refl _) l z (fun j _ _ => ⟨rfl, rfl⟩) (fun j j1 j2 => by simp (disch := first | omega | decide | assumption) only [zu_same, zu_ne1, zu_ne2, zu_row, pl_bd, pl_pt, pl_let, zn_set, zn_get, zn_rd, zn_wr, zn_1, zn_m, Nat.reduceAdd]), by simp (disch := first | omega | decide | assumption) only [zu_same, zu_ne1, zu_ne2, zu_row, pl_bd, pl_pt, pl_let, zn_set, zn_get, zn_rd, zn_wr, zn_1, zn_m, Nat.reduceAdd], zEX_m X, g4, g5, g6, m3, g8⟩⟩
  · obtain ⟨a1, ⟨C3, b1, b2⟩, a3, a4⟩ := e
    rw [zm_put b1 (by omega), pl_bd]
    exact ⟨_, _, _, _, rfl, rfl, Or.inr ⟨⟨a1.1, a1.2.1, by simp (disch := first | omega | decide | assumption) only [zu_same, zu_ne1, zu_ne2, zu_row, pl_bd, pl_pt, pl_let, zn_set, zn_get, zn_rd, zn_wr, zn_1, zn_m, Nat.reduceAdd]; exact a1.2.2⟩, ⟨C3 + 1, by simp (disch := first | omega | decide | assumption) only [zu_same, zu_ne1, zu_ne2, zu_row, pl_bd, pl_pt, pl_let, zn_set, zn_get, zn_rd, zn_wr, zn_1, zn_m, Nat.reduceAdd], by omega⟩, a3, zFP_zu (zFP_zu a4 rfl) rfl⟩⟩
/-- statement S is under way: i0, t0, u0 ahead of it -/
def zUW (G : zTxt) (i0 i d p b H : Nat) (f : Nat → Nat) (N M A S n F C R W V q n2 F2 C2 : Nat) (o : Nat → Nat × Nat) (w : Nat → Nat) (t0 u0 t u : zS) : Prop :=
  zEB G i d p b n2 F2 C2 t u ∧ zBX p b H S n F C R W V q S n2 F2 C2 R W V q o o w w t0 u0 t u ∧ zAK (zBk G) f N M S q t u ∧ t 52 15 = Int32.ofNat (S + 1) ∧ u 0 26 = Int32.ofNat (S + 1) ∧ t 51 7 = Int32.ofNat R ∧ u 0 39 = Int32.ofNat R ∧ t 52 16 = Int32.ofNat W ∧ u 0 36 = Int32.ofNat V ∧ u 0 59 = Int32.ofNat (2 * H) ∧ u 0 19 = Int32.ofNat A ∧ i0 ≤ i ∧ F2 + i0 ≤ F + i ∧ C2 + 2 * i0 ≤ C + 2 * i ∧ n2 + i0 ≤ n + i ∧ zFP zpR t0 t ∧ zFP zpM u0 u
/-- rows of statement s that stay -/
def zRS (Lc Lm : List Nat) (s : Nat) (t u t2 u2 : zS) : Prop := (∀ k, 87 ≤ k → k ≤ 107 → ¬ k ∈ Lc → t2 k s = t k s) ∧ (∀ k, 14 ≤ k → k ≤ 22 → ¬ k ∈ Lm → u2 k s = u k s)
theorem zAK_fr {B : List Nat} {f : Nat → Nat} {N M S q : Nat} {t u t2 u2 : zS} (h : zAK B f N M S q t u) (h7 : t2 5 7 = t 5 7) (g7 : u2 0 52 = u 0 52) (h9 : t2 9 = t 9) (h54 : t2 54 = t 54) (h56 : t2 56 = t 56) (h93 : ∀ s, s < S → t2 93 s = t 93 s) (h87 : ∀ s, s < S → t2 87 s = t 87 s) (g5 : u2 5 = u 5) (g6 : u2 6 = u 6) (g35 : u2 35 = u 35) (g36 : u2 36 = u 36) (g37 : u2 37 = u 37) (g38 : u2 38 = u 38) : zAK B f N M S q t2 u2 := by
  obtain ⟨a1, a2, a3, a4⟩ := h
  refine ⟨by rw [h7]; exact a1, by rw [g7]; exact a2, fun k hk => ?_, by rw [h9, g37, g38]; exact a4.1, fun s hs hk => by rw [g37, g38]; rw [h87 s hs] at hk; exact a4.2 s hs hk⟩
  obtain ⟨b1, v, w, b2, b3, b4, b5⟩ := a3 k hk
  unfold zA1
  rw [h54, h56, g5, g6, g35, g36, g37, g38]
  refine ⟨b1, v, w, b2, b3, b4, ?_⟩
  rcases b5 with b5 | ⟨c1, c2, s, c3, c4, c5, c6⟩
  · exact Or.inl b5
  · exact Or.inr ⟨c1, c2, s, c3, c4, by rw [h93 s c3]; exact c5, by rw [h87 s c3]; exact c6⟩
/-- inside an EXPRESSION or a NAME nothing else moves -/
theorem zUW_E {G : zTxt} {i0 i i2 d p b H : Nat} {f : Nat → Nat} {N M A S n F C R W V q n2 F2 C2 n3 F3 C3 : Nat} {o : Nat → Nat × Nat} {w : Nat → Nat} {t0 u0 t u t2 u2 : zS} (h : zUW G i0 i d p b H f N M A S n F C R W V q n2 F2 C2 o w t0 u0 t u) (hE : zEB G i2 d p b n3 F3 C3 t2 u2) (hX : zEX p b n2 F2 C2 n3 F3 C3 t u t2 u2) (hi : i ≤ i2) (e1 : F3 + i ≤ F2 + i2) (e2 : C3 + 2 * i0 ≤ C + 2 * i2) (e3 : n3 + i ≤ n2 + i2) : zUW G i0 i2 d p b H f N M A S n F C R W V q n3 F3 C3 o w t0 u0 t2 u2 ∧ zRS [] [] S t u t2 u2 := by
  obtain ⟨a1, a2, a3, a4, a5, a6, a7, a8, a9, a10, a11, a12, a13, a14, a15, a16, a17⟩ := h
  have hB := zBX_ofE (H := H) (S := S) (R := R) (W := W) (V := V) (q := q) (o := o) (w := w) hX
  obtain ⟨x1, x2, x3, x4, x5, x6, x7, x8, x9, x10, x11⟩ := hX
  have r : ∀ k, (∀ j, zpEC k j = true) → t2 k = t k := fun k hk => zFP_row k x4 hk
  have g : ∀ k, (∀ j, zpEM k j = true) → u2 k = u k := fun k hk => zFP_row k x5 hk
  have g0 : ∀ j, zpEM 0 j = true → u2 0 j = u 0 j := fun j hj => x5 0 j hj
  refine ⟨⟨hE, zBX_trans a2 hB (Nat.le_refl _), zAK_fr a3 x11 (g0 52 rfl) (r 9 (fun _ => rfl)) (r 54 (fun _ => rfl)) (r 56 (fun _ => rfl)) (fun s _ => by rw [r 93 (fun _ => rfl)]) (fun s _ => by rw [r 87 (fun _ => rfl)]) (g 5 (fun _ => rfl)) (g 6 (fun _ => rfl)) (g 35 (fun _ => rfl)) (g 36 (fun _ => rfl)) (g 37 (fun _ => rfl)) (g 38 (fun _ => rfl)), by rw [r 52 (fun _ => rfl)]; exact a4, by rw [g0 26 rfl]; exact a5, by rw [x4 51 7 rfl]; exact a6, by rw [g0 39 rfl]; exact a7, by rw [r 52 (fun _ => rfl)]; exact a8, by rw [g0 36 rfl]; exact a9, by rw [g0 59 rfl]; exact a10, by rw [g0 19 rfl]; exact a11, by omega, by omega, e2, by omega, zFP_trans a16 (zFP_ER x4), zFP_trans a17 (zFP_EM x5)⟩, fun k k1 k2 _ => x4 k S ?_, fun k k1 k2 _ => x5 k S ?_⟩
  · unfold zpEC
    rw [if_neg (by omega)]
    simp only [Bool.not_eq_true', Bool.or_eq_false_iff, beq_eq_false_iff_ne]
    omega
  · unfold zpEM
    rw [if_neg (by omega)]
    simp only [Bool.not_eq_true', Bool.or_eq_false_iff, beq_eq_false_iff_ne]
    omega
/-- a row of statement S is written -/
theorem zUW_zu {G : zTxt} {i0 i d p b H : Nat} {f : Nat → Nat} {N M A S n F C R W V q n2 F2 C2 : Nat} {o : Nat → Nat × Nat} {w : Nat → Nat} {t0 u0 t u : zS} {k : Nat} {v : Int32} (h : zUW G i0 i d p b H f N M A S n F C R W V q n2 F2 C2 o w t0 u0 t u) (hk : k = 91 ∨ k = 93 ∨ k = 95 ∨ k = 97 ∨ k = 105) : zUW G i0 i d p b H f N M A S n F C R W V q n2 F2 C2 o w t0 u0 (zu t k S v) u := by
  obtain ⟨⟨b1, b2, b3, b4, b5, b6⟩, a2, a3, a4, a5, a6, a7, a8, a9, a10, a11, a12, a13, a14, a15, a16, a17⟩ := h
  have r : ∀ k', ¬ k' = k → zu t k S v k' = t k' := fun k' hk' => zu_row hk'
  refine ⟨⟨zAt_of b1 (fun j _ _ => by rw [r 5 (by omega)]) (r 67 (by omega)) (by rw [r 50 (by omega)]) (fun _ _ _ => rfl) rfl rfl rfl, by rw [r 5 (by omega)]; exact b2, b3, zSl_of b4 (Nat.le_refl _) (by rw [r 4 (by omega)]) rfl (r 39 (by omega)) (r 47 (by omega)) (r 49 (by omega)) rfl rfl, by rw [r 51 (by omega)]; exact b5, b6⟩, ⟨a2.1, a2.2.1, a2.2.2.1, a2.2.2.2.1, a2.2.2.2.2.1, a2.2.2.2.2.2.1, a2.2.2.2.2.2.2.1, a2.2.2.2.2.2.2.2.1, a2.2.2.2.2.2.2.2.2.1, a2.2.2.2.2.2.2.2.2.2.1, zLm_zu a2.2.2.2.2.2.2.2.2.2.2.1 (by rcases hk with e | e | e | e | e <;> subst e <;> exact Nat.le_refl S), a2.2.2.2.2.2.2.2.2.2.2.2⟩, zAK_fr a3 (by rw [r 5 (by omega)]) rfl (r 9 (by omega)) (r 54 (by omega)) (r 56 (by omega)) (fun s hs => by
      by_cases e : k = 93
      · subst e; exact zu_ne2 (by omega)
      · rw [r 93 (fun w => e w.symm)]) (fun s hs => by
      by_cases e : k = 87
      · subst e; exact zu_ne2 (by omega)
      · rw [r 87 (fun w => e w.symm)]) rfl rfl rfl rfl rfl rfl, by rw [r 52 (by omega)]; exact a4, a5, by rw [r 51 (by omega)]; exact a6, a7, by rw [r 52 (by omega)]; exact a8, a9, a10, a11, a12, a13, a14, a15, zFP_zu a16 (by rcases hk with e | e | e | e | e <;> subst e <;> rfl), a17⟩
theorem zUW_mu {G : zTxt} {i0 i d p b H : Nat} {f : Nat → Nat} {N M A S n F C R W V q n2 F2 C2 : Nat} {o : Nat → Nat × Nat} {w : Nat → Nat} {t0 u0 t u : zS} {k : Nat} {v : Int32} (h : zUW G i0 i d p b H f N M A S n F C R W V q n2 F2 C2 o w t0 u0 t u) (hk : 14 ≤ k ∧ k ≤ 20) : zUW G i0 i d p b H f N M A S n F C R W V q n2 F2 C2 o w t0 u0 t (zu u k S v) := by
  obtain ⟨⟨b1, b2, b3, b4, b5, b6⟩, a2, a3, a4, a5, a6, a7, a8, a9, a10, a11, a12, a13, a14, a15, a16, a17⟩ := h
  have r : ∀ k', ¬ k' = k → zu u k S v k' = u k' := fun k' hk' => zu_row hk'
  have hk2 : k = 14 ∨ k = 15 ∨ k = 16 ∨ k = 17 ∨ k = 18 ∨ k = 19 ∨ k = 20 := by omega
  refine ⟨⟨zAt_of b1 (fun j _ _ => rfl) rfl rfl (fun _ _ _ => by rw [r 0 (by omega)]) (r 2 (by omega)) (r 3 (by omega)) (r 4 (by omega)), b2, by rw [r 0 (by omega)]; exact b3, zSl_of b4 (Nat.le_refl _) rfl (by rw [r 0 (by omega)]) rfl rfl rfl (r 31 (by omega)) (r 33 (by omega)), b5, by rw [r 0 (by omega)]; exact b6⟩, ⟨a2.1, a2.2.1, a2.2.2.1, a2.2.2.2.1, a2.2.2.2.2.1, a2.2.2.2.2.2.1, a2.2.2.2.2.2.2.1, a2.2.2.2.2.2.2.2.1, a2.2.2.2.2.2.2.2.2.1, a2.2.2.2.2.2.2.2.2.2.1, a2.2.2.2.2.2.2.2.2.2.2.1, zLm_zu a2.2.2.2.2.2.2.2.2.2.2.2.1 (by rcases hk2 with e | e | e | e | e | e | e <;> subst e <;> exact Nat.le_refl S), fun j hj => by rw [r 0 (by omega)]; exact a2.2.2.2.2.2.2.2.2.2.2.2.2 j hj⟩, zAK_fr a3 rfl (by rw [r 0 (by omega)]) rfl rfl rfl (fun s hs => rfl) (fun s hs => rfl) (r 5 (by omega)) (r 6 (by omega)) (r 35 (by omega)) (r 36 (by omega)) (r 37 (by omega)) (r 38 (by omega)), a4, by rw [r 0 (by omega)]; exact a5, a6, by rw [r 0 (by omega)]; exact a7, a8, by rw [r 0 (by omega)]; exact a9, by rw [r 0 (by omega)]; exact a10, by rw [r 0 (by omega)]; exact a11, a12, a13, a14, a15, a16, zFP_zu a17 (by rcases hk2 with e | e | e | e | e | e | e <;> subst e <;> rfl)⟩
