/-! ARGUMENTS -/
def zUC (G : zTxt) (i0 i d p b H : Nat) (f : Nat → Nat) (N M A S n F C R W V q n2 F2 C2 m v : Nat) (hx : Int32) (o : Nat → Nat × Nat) (w : Nat → Nat) (t0 u0 t u : zS) : Prop :=
  zEB G i d p b n2 F2 C2 t u ∧ zBX p b H S n F C R W V q S n2 F2 C2 (R + m) W V (q + 1) o o w w t0 u0 t u ∧ zAK (zBk G) f N M (S + 1) (q + 1) t u ∧ t 52 15 = Int32.ofNat (S + 1) ∧ u 0 26 = Int32.ofNat (S + 1) ∧ t 51 7 = Int32.ofNat (R + m) ∧ u 0 39 = Int32.ofNat (R + m) ∧ t 52 16 = Int32.ofNat W ∧ u 0 36 = Int32.ofNat V ∧ u 0 59 = Int32.ofNat (2 * H) ∧ u 0 19 = Int32.ofNat A ∧ zFP zpR t0 t ∧ zFP zpM u0 u ∧
  ((t 89 S = u 15 S ∧ 0 ≤ t 89 S) ∧ t 93 S = Int32.ofNat v ∧ v < 1600 ∧ u 18 S = -1 ∧ t 95 S = Int32.ofNat R ∧ u 19 S = Int32.ofNat R ∧ u 20 S = Int32.ofNat m ∧ t 99 S = -1 ∧ t 101 S = hx) ∧
  ((t 87 S = 8 ∧ u 14 S = 7 ∧ t 91 S = -1 ∧ u 16 S = -1) ∨ (t 87 S = 8 ∧ u 14 S = 8 ∧ zSo t p (t 91 S) (u 16 S)) ∨ (t 87 S = 9 ∧ u 14 S = 9 ∧ t 91 S = -1 ∧ u 16 S = -1)) ∧
  (∀ k, R ≤ k → k < R + m → zArg t u p F2 C2 k) ∧ F2 + i0 ≤ F + i ∧ C2 + 2 * i0 ≤ C + 2 * i ∧ n2 + i0 ≤ n + i
theorem zUC_E {G : zTxt} {i0 i i2 d d2 p b H : Nat} {f : Nat → Nat} {N M A S n F C R W V q n2 F2 C2 n3 F3 C3 m v : Nat} {hx : Int32} {o : Nat → Nat × Nat} {w : Nat → Nat} {t0 u0 t u t2 u2 : zS} (h : zUC G i0 i d p b H f N M A S n F C R W V q n2 F2 C2 m v hx o w t0 u0 t u) (hE : zEB G i2 d2 p b n3 F3 C3 t2 u2) (hX : zEX p b n2 F2 C2 n3 F3 C3 t u t2 u2) (hn3 : n3 ≤ 3000) (e1 : F3 + i0 ≤ F + i2) (e2 : C3 + 2 * i0 ≤ C + 2 * i2) (e3 : n3 + i0 ≤ n + i2) : zUC G i0 i2 d2 p b H f N M A S n F C R W V q n3 F3 C3 m v hx o w t0 u0 t2 u2 := by
  obtain ⟨a1, a2, a3, a4, a5, a6, a7, a8, a9, a10, a11, a12, a13, ⟨s1, s2, s3, s4, s5, s6, s7, s8, s9⟩, a15, a16, _⟩ := h
  have hB := zBX_ofE (H := H) (S := S) (R := R + m) (W := W) (V := V) (q := q + 1) (o := o) (w := w) hX
  obtain ⟨x1, x2, x3, x4, x5, x6, x7, x8, x9, x10, x11⟩ := hX
  have r : ∀ k, (∀ j, zpEC k j = true) → t2 k = t k := fun k hk => zFP_row k x4 hk
  have g : ∀ k, (∀ j, zpEM k j = true) → u2 k = u k := fun k hk => zFP_row k x5 hk
  have g0 : ∀ j, zpEM 0 j = true → u2 0 j = u 0 j := fun j hj => x5 0 j hj
  have hg : zGr t t2 p := zGr_of a1.2.2.2.1 hE.2.2.2.1 x1 hn3 (Nat.le_refl _) (fun j hj => x6 j (by omega))
  refine ⟨hE, zBX_trans a2 hB (Nat.le_refl _), zAK_fr a3 x11 (g0 52 rfl) (r 9 (fun _ => rfl)) (r 54 (fun _ => rfl)) (r 56 (fun _ => rfl)) (fun s _ => by rw [r 93 (fun _ => rfl)]) (fun s _ => by rw [r 87 (fun _ => rfl)]) (g 5 (fun _ => rfl)) (g 6 (fun _ => rfl)) (g 35 (fun _ => rfl)) (g 36 (fun _ => rfl)) (g 37 (fun _ => rfl)) (g 38 (fun _ => rfl)), by rw [r 52 (fun _ => rfl)]; exact a4, by rw [g0 26 rfl]; exact a5, by rw [x4 51 7 rfl]; exact a6, by rw [g0 39 rfl]; exact a7, by rw [r 52 (fun _ => rfl)]; exact a8, by rw [g0 36 rfl]; exact a9, by rw [g0 59 rfl]; exact a10, by rw [g0 19 rfl]; exact a11, zFP_trans a12 (zFP_ER x4), zFP_trans a13 (zFP_EM x5), ⟨by rw [r 89 (fun _ => rfl), g 15 (fun _ => rfl)]; exact s1, by rw [r 93 (fun _ => rfl)]; exact s2, s3, by rw [g 18 (fun _ => rfl)]; exact s4, by rw [r 95 (fun _ => rfl)]; exact s5, by rw [g 19 (fun _ => rfl)]; exact s6, by rw [g 20 (fun _ => rfl)]; exact s7, by rw [r 99 (fun _ => rfl)]; exact s8, by rw [r 101 (fun _ => rfl)]; exact s9⟩, ?_, fun k k1 k2 => ?_, e1, e2, e3⟩
  · rw [r 87 (fun _ => rfl), g 14 (fun _ => rfl), r 91 (fun _ => rfl), g 16 (fun _ => rfl)]
    rcases a15 with a | ⟨c1, c2, c3⟩ | a
    · exact Or.inl a
    · exact Or.inr (Or.inl ⟨c1, c2, zSo_ext c3 hg⟩)
    · exact Or.inr (Or.inr a)
  · obtain ⟨c1, c2⟩ := a16 k k1 k2
    unfold zArg
    rw [r 79 (fun _ => rfl), r 81 (fun _ => rfl), r 83 (fun _ => rfl), g 25 (fun _ => rfl), g 26 (fun _ => rfl)]
    refine ⟨zFm_ext c1 hg x2 x3 x9 x10, ?_⟩
    rcases c2 with c2 | c2
    · exact Or.inl c2
    · exact Or.inr (zSo_ext c2 hg)
theorem zSE_ofC {G : zTxt} {i0 i d p b H cb : Nat} {f : Nat → Nat} {N M A S n F C R W V q n2 F2 C2 m v : Nat} {hx : Int32} {o : Nat → Nat × Nat} {w : Nat → Nat} {t0 u0 t u t2 u2 : zS} (h : zUC G i0 i d p b H f N M A S n F C R W V q n2 F2 C2 m v hx o w t0 u0 t u) (hb : 2 * A + 2 * V + 2 * H ≤ 3002) (he : zEE cb t u t2 u2) (hcb : cb ≤ 6400) : zSE H t0 u0 t2 u2 := by
  obtain ⟨a1, a2, a3, a4, a5, a6, a7, a8, a9, a10, a11, a12, a13, _⟩ := h
  exact zSE_pre (zSE_ofE he hcb a11 a9 a10 hb) a12 a13
/-- an ARGUMENT more -/
def zca (t : zS) (k : Nat) (x y z : Int32) : zS := zu (zu (zu (zu t 79 k x) 81 k y) 83 k z) 51 7 (Int32.ofNat (k + 1))
def zma (u : zS) (k s m : Nat) (x y : Int32) : zS := zu (zu (zu (zu u 25 k x) 26 k y) 0 39 (Int32.ofNat (k + 1))) 20 s (Int32.ofNat (m + 1))
theorem zUC_arg {G : zTxt} {i0 i d p b H : Nat} {f : Nat → Nat} {N M A S n F C R W V q n2 F2 C2 m v : Nat} {hx x y z x' y' : Int32} {o : Nat → Nat × Nat} {w : Nat → Nat} {t0 u0 t u : zS} (h : zUC G i0 i d p b H f N M A S n F C R W V q n2 F2 C2 m v hx o w t0 u0 t u) (hfm : zFm t u p F2 C2 x y x') (hal : (z = -1 ∧ y' = -1) ∨ zSo t p z y') : zUC G i0 i d p b H f N M A S n F C R W V q n2 F2 C2 (m + 1) v hx o w t0 u0 (zca t (R + m) x y z) (zma u (R + m) S m x' y') := by
  obtain ⟨⟨b1, b2, b3, b4, b5, b6⟩, a2, a3, a4, a5, a6, a7, a8, a9, a10, a11, a12, a13, ⟨s1, s2, s3, s4, s5, s6, s7, s8, s9⟩, a15, a16, e1, e2, e3⟩ := h
  have r : ∀ k, ¬ (k = 79 ∨ k = 81 ∨ k = 83 ∨ k = 51) → zca t (R + m) x y z k = t k := fun k hk => by unfold zca; simp (disch := first | omega | decide | assumption) only [zu_same, zu_ne1, zu_ne2, zu_row, pl_bd, pl_pt, pl_let, zn_set, zn_get, zn_rd, zn_wr, zn_1, zn_m, Nat.reduceAdd]
  have r51 : ∀ j, ¬ j = 7 → zca t (R + m) x y z 51 j = t 51 j := fun j hj => by unfold zca; simp (disch := first | omega | decide | assumption) only [zu_same, zu_ne1, zu_ne2, zu_row, pl_bd, pl_pt, pl_let, zn_set, zn_get, zn_rd, zn_wr, zn_1, zn_m, Nat.reduceAdd]
  have g : ∀ k, ¬ (k = 25 ∨ k = 26 ∨ k = 0 ∨ k = 20) → zma u (R + m) S m x' y' k = u k := fun k hk => by unfold zma; simp (disch := first | omega | decide | assumption) only [zu_same, zu_ne1, zu_ne2, zu_row, pl_bd, pl_pt, pl_let, zn_set, zn_get, zn_rd, zn_wr, zn_1, zn_m, Nat.reduceAdd]
  have g0 : ∀ j, ¬ j = 39 → zma u (R + m) S m x' y' 0 j = u 0 j := fun j hj => by unfold zma; simp (disch := first | omega | decide | assumption) only [zu_same, zu_ne1, zu_ne2, zu_row, pl_bd, pl_pt, pl_let, zn_set, zn_get, zn_rd, zn_wr, zn_1, zn_m, Nat.reduceAdd]
  have hg : zGr t (zca t (R + m) x y z) p := fun m' hm hm2 => ⟨m', by rw [r 39 (by omega)]; exact hm, Nat.le_refl _, hm2⟩
  have f75 : ∀ k, k < F2 → zca t (R + m) x y z 75 k = t 75 k ∧ zca t (R + m) x y z 77 k = t 77 k := fun k _ => ⟨by rw [r 75 (by omega)], by rw [r 77 (by omega)]⟩
  have f27 : ∀ c, c < C2 → zma u (R + m) S m x' y' 27 c = u 27 c := fun c _ => by rw [g 27 (by omega)]
  obtain ⟨y1, y2, y3, y4, y5, y6, y7, y8, y9, y10, y11, y12, y13⟩ := a2
  refine ⟨⟨zAt_of b1 (fun j _ _ => by rw [r 5 (by omega)]) (r 67 (by omega)) (by rw [r 50 (by omega)]) (fun j _ _ => g0 j (by omega)) (g 2 (by omega)) (g 3 (by omega)) (g 4 (by omega)), by rw [r 5 (by omega)]; exact b2, by rw [g0 10 (by omega)]; exact b3, zSl_of b4 (Nat.le_refl _) (by rw [r 4 (by omega)]) (g0 60 (by omega)) (r 39 (by omega)) (r 47 (by omega)) (r 49 (by omega)) (g 31 (by omega)) (g 33 (by omega)), by rw [r51 6 (by omega)]; exact b5, by rw [g0 42 (by omega)]; exact b6⟩,
    ⟨y1, y2, y3, y4, by omega, y6, y7, y8, y9, y10, ?_, ?_, fun j hj => by rw [g0 j (by omega)]; exact y13 j hj⟩,
    zAK_fr a3 (by rw [r 5 (by omega)]) (g0 52 (by omega)) (r 9 (by omega)) (r 54 (by omega)) (r 56 (by omega)) (fun s _ => by rw [r 93 (by omega)]) (fun s _ => by rw [r 87 (by omega)]) (g 5 (by omega)) (g 6 (by omega)) (g 35 (by omega)) (g 36 (by omega)) (g 37 (by omega)) (g 38 (by omega)), by rw [r 52 (by omega)]; exact a4, by rw [g0 26 (by omega)]; exact a5, by unfold zca; simp (disch := first | omega | decide | assumption) only [zu_same, zu_ne1, zu_ne2, zu_row, pl_bd, pl_pt, pl_let, zn_set, zn_get, zn_rd, zn_wr, zn_1, zn_m, Nat.reduceAdd]; rfl, by unfold zma; simp (disch := first | omega | decide | assumption) only [zu_same, zu_ne1, zu_ne2, zu_row, pl_bd, pl_pt, pl_let, zn_set, zn_get, zn_rd, zn_wr, zn_1, zn_m, Nat.reduceAdd]; rfl, by rw [r 52 (by omega)]; exact a8, by rw [g0 36 (by omega)]; exact a9, by rw [g0 59 (by omega)]; exact a10, by rw [g0 19 (by omega)]; exact a11, ?_, ?_,
    ⟨by rw [r 89 (by omega), g 15 (by omega)]; exact s1, by rw [r 93 (by omega)]; exact s2, s3, by rw [g 18 (by omega)]; exact s4, by rw [r 95 (by omega)]; exact s5, by rw [g 19 (by omega)]; exact s6, by unfold zma; simp (disch := first | omega | decide | assumption) only [zu_same, zu_ne1, zu_ne2, zu_row, pl_bd, pl_pt, pl_let, zn_set, zn_get, zn_rd, zn_wr, zn_1, zn_m, Nat.reduceAdd], by rw [r 99 (by omega)]; exact s8, by rw [r 101 (by omega)]; exact s9⟩, ?_, fun k k1 k2 => ?_, e1, e2, e3⟩
  · unfold zca
    exact zLm_zu (zLm_zu (zLm_zu (zLm_zu y11 (show R ≤ R + m by omega)) (show R ≤ R + m by omega)) (show R ≤ R + m by omega)) (Nat.zero_le _)
  · unfold zma
    exact zLm_zu (zLm_zu (zLm_zu (zLm_zu y12 (show R ≤ R + m by omega)) (show R ≤ R + m by omega)) (Nat.zero_le _)) (Nat.le_refl S)
  · unfold zca
    exact zFP_zu (zFP_zu (zFP_zu (zFP_zu a12 rfl) rfl) rfl) rfl
  · unfold zma
    exact zFP_zu (zFP_zu (zFP_zu (zFP_zu a13 rfl) rfl) rfl) rfl
  · rw [r 87 (by omega), g 14 (by omega), r 91 (by omega), g 16 (by omega)]
    rcases a15 with a | ⟨c1, c2, c3⟩ | a
    · exact Or.inl a
    · exact Or.inr (Or.inl ⟨c1, c2, zSo_ext c3 hg⟩)
    · exact Or.inr (Or.inr a)
  · by_cases e : k = R + m
    · subst e
      unfold zArg
      have q1 : zca t (R + m) x y z 79 (R + m) = x := by unfold zca; simp (disch := first | omega | decide | assumption) only [zu_same, zu_ne1, zu_ne2, zu_row, pl_bd, pl_pt, pl_let, zn_set, zn_get, zn_rd, zn_wr, zn_1, zn_m, Nat.reduceAdd]
      have q2 : zca t (R + m) x y z 81 (R + m) = y := by unfold zca; simp (disch := first | omega | decide | assumption) only [zu_same, zu_ne1, zu_ne2, zu_row, pl_bd, pl_pt, pl_let, zn_set, zn_get, zn_rd, zn_wr, zn_1, zn_m, Nat.reduceAdd]
      have q3 : zca t (R + m) x y z 83 (R + m) = z := by unfold zca; simp (disch := first | omega | decide | assumption) only [zu_same, zu_ne1, zu_ne2, zu_row, pl_bd, pl_pt, pl_let, zn_set, zn_get, zn_rd, zn_wr, zn_1, zn_m, Nat.reduceAdd]
      have q4 : zma u (R + m) S m x' y' 25 (R + m) = x' := by unfold zma; simp (disch := first | omega | decide | assumption) only [zu_same, zu_ne1, zu_ne2, zu_row, pl_bd, pl_pt, pl_let, zn_set, zn_get, zn_rd, zn_wr, zn_1, zn_m, Nat.reduceAdd]
      have q5 : zma u (R + m) S m x' y' 26 (R + m) = y' := by unfold zma; simp (disch := first | omega | decide | assumption) only [zu_same, zu_ne1, zu_ne2, zu_row, pl_bd, pl_pt, pl_let, zn_set, zn_get, zn_rd, zn_wr, zn_1, zn_m, Nat.reduceAdd]
      rw [q1, q2, q3, q4, q5]
      refine ⟨zFm_ext hfm hg (Nat.le_refl _) (Nat.le_refl _) f75 f27, ?_⟩
      rcases hal with c2 | c2
      · exact Or.inl c2
      · exact Or.inr (zSo_ext c2 hg)
    · obtain ⟨c1, c2⟩ := a16 k k1 (by omega)
      unfold zArg
      have q1 : zca t (R + m) x y z 79 k = t 79 k := by unfold zca; simp (disch := first | omega | decide | assumption) only [zu_same, zu_ne1, zu_ne2, zu_row, pl_bd, pl_pt, pl_let, zn_set, zn_get, zn_rd, zn_wr, zn_1, zn_m, Nat.reduceAdd]
      have q2 : zca t (R + m) x y z 81 k = t 81 k := by unfold zca; simp (disch := first | omega | decide | assumption) only [zu_same, zu_ne1, zu_ne2, zu_row, pl_bd, pl_pt, pl_let, zn_set, zn_get, zn_rd, zn_wr, zn_1, zn_m, Nat.reduceAdd]
      have q3 : zca t (R + m) x y z 83 k = t 83 k := by unfold zca; simp (disch := first | omega | decide | assumption) only [zu_same, zu_ne1, zu_ne2, zu_row, pl_bd, pl_pt, pl_let, zn_set, zn_get, zn_rd, zn_wr, zn_1, zn_m, Nat.reduceAdd]
      have q4 : zma u (R + m) S m x' y' 25 k = u 25 k := by unfold zma; simp (disch := first | omega | decide | assumption) only [zu_same, zu_ne1, zu_ne2, zu_row, pl_bd, pl_pt, pl_let, zn_set, zn_get, zn_rd, zn_wr, zn_1, zn_m, Nat.reduceAdd]
      have q5 : zma u (R + m) S m x' y' 26 k = u 26 k := by unfold zma; simp (disch := first | omega | decide | assumption) only [zu_same, zu_ne1, zu_ne2, zu_row, pl_bd, pl_pt, pl_let, zn_set, zn_get, zn_rd, zn_wr, zn_1, zn_m, Nat.reduceAdd]
      rw [q1, q2, q3, q4, q5]
      refine ⟨zFm_ext c1 hg (Nat.le_refl _) (Nat.le_refl _) f75 f27, ?_⟩
      rcases c2 with c2 | c2
      · exact Or.inl c2
      · exact Or.inr (zSo_ext c2 hg)
