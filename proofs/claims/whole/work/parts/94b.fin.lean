/-! NAMES replaced: what a state stands for -/
theorem zb_s0 : ∀ a, a < 78 → ∀ b, b < 78 → (Int32.ofNat (78 * a + b) >>> (1 &&& 31 : Int32) = Int32.ofNat ((78 * a + b) / 2) ∧ Int32.ofNat (78 * a + b) &&& 1 = Int32.ofNat ((78 * a + b) % 2)) := by decide +kernel
theorem zb_s (s : Nat) (h : s < 6000) : Int32.ofNat s >>> (1 &&& 31 : Int32) = Int32.ofNat (s / 2) ∧ Int32.ofNat s &&& 1 = Int32.ofNat (s % 2) := by
  have := zb_s0 (s / 78) (by omega) (s % 78) (by omega)
  rw [show 78 * (s / 78) + s % 78 = s by omega] at this
  exact this
/-- the other side -/
def zflp (s : Nat) : Nat := 2 * (s / 2) + (1 - s % 2)
theorem zb_x0 : ∀ a, a < 78 → ∀ b, b < 78 → (Int32.ofNat (78 * a + b) ^^^ 1 = Int32.ofNat (zflp (78 * a + b)) ∧ Int32.ofNat (78 * a + b) ^^^ 0 = Int32.ofNat (78 * a + b)) := by decide +kernel
theorem zb_x (s : Nat) (h : s < 6000) : Int32.ofNat s ^^^ 1 = Int32.ofNat (zflp s) ∧ Int32.ofNat s ^^^ 0 = Int32.ofNat s := by
  have := zb_x0 (s / 78) (by omega) (s % 78) (by omega)
  rw [show 78 * (s / 78) + s % 78 = s by omega] at this
  exact this
theorem zflp_2 (s : Nat) : zflp s / 2 = s / 2 ∧ zflp s % 2 = 1 - s % 2 ∧ zflp (zflp s) = s := by
  unfold zflp
  refine ⟨by omega, by omega, by omega⟩
/-- the node behind a NAME -/
def zNd (t : zS) (c : Nat) : Nat := (t 21 (t 25 (t 11 c).toNatClampNeg).toNatClampNeg).toNatClampNeg
def zFz (t : zS) : Nat → Nat → Nat
  | 0, s => s
  | n + 1, s => if t 9 (s / 2) = 2 then zFz t n (2 * zNd t (s / 2) + s % 2) else if t 9 (s / 2) = 3 then zFz t n (2 * zNd t (s / 2) + (1 - s % 2)) else s
def zEn (t : zS) : Nat → Nat → Prop
  | 0, c => ¬ (t 9 c = 2 ∨ t 9 c = 3)
  | n + 1, c => (t 9 c = 2 ∨ t 9 c = 3) → zEn t n (zNd t c)
theorem zFz_fl {t : zS} : ∀ n s, zFz t n (zflp s) = zflp (zFz t n s) := by
  intro n
  induction n with
  | zero => intro s; rfl
  | succ n ih =>
    intro s
    obtain ⟨e1, e2, e3⟩ := zflp_2 s
    unfold zFz
    rw [e1, e2]
    have m : s % 2 < 2 := Nat.mod_lt _ (by decide)
    by_cases c : t 9 (s / 2) = 2
    · rw [if_pos c, if_pos c, ← ih]
      congr 1
      unfold zflp
      omega
    · rw [if_neg c, if_neg c]
      by_cases c2 : t 9 (s / 2) = 3
      · rw [if_pos c2, if_pos c2, ← ih]
        congr 1
        unfold zflp
        omega
      · rw [if_neg c2, if_neg c2]
theorem zFz_stop {t : zS} {n s : Nat} (h : ¬ (t 9 (s / 2) = 2 ∨ t 9 (s / 2) = 3)) : zFz t n s = s := by
  cases n with
  | zero => rfl
  | succ n =>
    unfold zFz
    rw [if_neg (fun w => h (Or.inl w)), if_neg (fun w => h (Or.inr w))]
theorem zFz_name {t : zS} {n s : Nat} (h : t 9 (s / 2) = 2 ∨ t 9 (s / 2) = 3) : zFz t (n + 1) s = zFz t n (2 * zNd t (s / 2) + (if t 9 (s / 2) = 3 then 1 - s % 2 else s % 2)) := by
  conv => lhs; unfold zFz
  rcases h with h | h
  · rw [if_pos h, if_neg (by rw [h]; decide)]
  · rw [if_neg (by rw [h]; decide), if_pos h, if_pos h]
theorem zEn_mono {t : zS} : ∀ n c, zEn t n c → zEn t (n + 1) c := by
  intro n
  induction n with
  | zero => intro c h w; exact absurd w h
  | succ n ih => intro c h w; exact ih _ (h w)
theorem zEn_le {t : zS} {n c : Nat} (h : zEn t n c) : ∀ d, zEn t (n + d) c := by
  intro d
  induction d with
  | zero => exact h
  | succ d ih => exact zEn_mono _ _ ih
theorem zFz_le {t : zS} : ∀ n s, zEn t n (s / 2) → ∀ d, zFz t (n + d) s = zFz t n s := by
  intro n
  induction n with
  | zero => intro s h d; rw [zFz_stop h, zFz_stop h]
  | succ n ih =>
    intro s h d
    by_cases c : t 9 (s / 2) = 2 ∨ t 9 (s / 2) = 3
    · rw [show n + 1 + d = n + d + 1 by omega, zFz_name c, zFz_name c]
      refine ih _ ?_ d
      rw [show (2 * zNd t (s / 2) + (if t 9 (s / 2) = 3 then 1 - s % 2 else s % 2)) / 2 = zNd t (s / 2) by split <;> omega]
      exact h c
    · rw [zFz_stop c, zFz_stop c]
theorem zFz_end {t : zS} : ∀ n s, zEn t n (s / 2) → ¬ (t 9 (zFz t n s / 2) = 2 ∨ t 9 (zFz t n s / 2) = 3) := by
  intro n
  induction n with
  | zero => intro s h; exact h
  | succ n ih =>
    intro s h
    by_cases c : t 9 (s / 2) = 2 ∨ t 9 (s / 2) = 3
    · rw [zFz_name c]
      refine ih _ ?_
      rw [show (2 * zNd t (s / 2) + (if t 9 (s / 2) = 3 then 1 - s % 2 else s % 2)) / 2 = zNd t (s / 2) by split <;> omega]
      exact h c
    · rw [zFz_stop c]; exact c
/-- all TYPES of a good program -/
def zTG (G : zTxt) (f : Nat → Nat) (N M P A T : Nat) (t u : zS) : Prop := zTD (zBk G) (zRn T (t 25)) f [] N M P A t u ∧ zDs2 G f N T t u ∧ (∀ x, x < T → zIt (zNx t) T x = none) ∧ N ≤ 3000 ∧ M ≤ 3000 ∧ T ≤ 390 ∧ P ≤ 1500 ∧ A ≤ 1500 ∧ zW (t 9) (t 13) N ≤ 3000 ∧ (zBk G).length ≤ 1600
/-- rows of types -/
def zTr (t t2 : zS) : Prop := t2 9 = t 9 ∧ t2 11 = t 11 ∧ t2 13 = t 13 ∧ t2 15 = t 15 ∧ t2 17 = t 17 ∧ t2 19 = t 19 ∧ t2 21 = t 21 ∧ t2 23 = t 23 ∧ t2 25 = t 25 ∧ t2 3 13 = t 3 13 ∧ t2 3 14 = t 3 14 ∧ t2 3 15 = t 3 15
def zTrM (u u2 : zS) : Prop := u2 5 = u 5 ∧ u2 6 = u 6 ∧ u2 7 = u 7 ∧ u2 8 = u 8 ∧ u2 9 = u 9 ∧ u2 10 = u 10 ∧ u2 11 = u 11 ∧ u2 12 = u 12 ∧ u2 13 = u 13 ∧ u2 0 14 = u 0 14 ∧ u2 0 19 = u 0 19 ∧ u2 0 22 = u 0 22
theorem zTr_refl (t : zS) : zTr t t := ⟨rfl, rfl, rfl, rfl, rfl, rfl, rfl, rfl, rfl, rfl, rfl, rfl⟩
theorem zTrM_refl (t : zS) : zTrM t t := ⟨rfl, rfl, rfl, rfl, rfl, rfl, rfl, rfl, rfl, rfl, rfl, rfl⟩
theorem zNx_of {t t2 : zS} (h : zTr t t2) : zNx t2 = zNx t := by
  obtain ⟨h9, h11, h13, h15, h17, h19, h21, h23, h25, _⟩ := h
  funext k
  unfold zNx
  rw [h9, h11, h21, h25]
theorem zTG_of {G : zTxt} {f : Nat → Nat} {N M P A T : Nat} {t u t2 u2 : zS} (h : zTG G f N M P A T t u) (ht : zTr t t2) (hu : zTrM u u2) : zTG G f N M P A T t2 u2 := by
  have hn := zNx_of ht
  obtain ⟨h9, h11, h13, h15, h17, h19, h21, h23, h25, x1, x2, x3⟩ := ht
  obtain ⟨g5, g6, g7, g8, g9, g10, g11, g12, g13, y1, y2, y3⟩ := hu
  obtain ⟨a1, a2, a3, a4, a5, a6, a7, a8, a9, a10⟩ := h
  refine ⟨?_, ?_, by rw [hn]; exact a3, a4, a5, a6, a7, a8, by rw [h9, h13]; exact a9, a10⟩
  · rw [h25]
    exact zTD_of a1 x1 x2 y1 y2 h9 h11 h13 h15 h17 h19 g5 g6 g7 g8 g9 g10
  · unfold zDs2 at *
    rw [x3, y3, h25, g11, h23, g12, h21, g13]
    exact a2
theorem zTG_lkd {G : zTxt} {f : Nat → Nat} {N M P A T Q Pa bb S F C R W V : Nat} {o : Nat → Nat × Nat} {w : Nat → Nat} {t u : zS} (h : zLkd G f N M P A T Q Pa bb S F C R W V o w t u) : zTG G f N M P A T t u := by
  obtain ⟨h1, h2, h3, h4, h5, h6, ⟨i, q, hN, i3, hT, _⟩, h8, _⟩ := h
  obtain ⟨n1, n2, n3, n4, n5, n6, n7, n8, n9, n10, n11, n12, n13, n14⟩ := hN
  exact ⟨h1, h2, h5, by omega, by omega, by omega, by omega, by omega, by omega, h8⟩
/-- a NAME's node and what is behind it, on both sides -/
theorem zNd_at {G : zTxt} {f : Nat → Nat} {N M P A T c : Nat} {t u : zS} (h : zTG G f N M P A T t u) (hc : c < N) : (¬ (t 9 c = 2 ∨ t 9 c = 3) ∧ ¬ (u 5 (f c) = 1 ∨ u 5 (f c) = 2)) ∨ (((t 9 c = 2 ∧ u 5 (f c) = 1) ∨ (t 9 c = 3 ∧ u 5 (f c) = 2)) ∧ ∃ v k, v < 1600 ∧ t 11 c = Int32.ofNat v ∧ t 25 v = Int32.ofNat k ∧ u 6 (f c) = Int32.ofNat k ∧ k < T ∧ t 21 k = Int32.ofNat (zNd t c) ∧ u 13 k = Int32.ofNat (f (zNd t c)) ∧ zNd t c < N) := by
  obtain ⟨a1, a2, a3, a4, a5, a6, a7, a8, a9, a10⟩ := h
  rcases zTL_nm (a1.2.2.2.2.2.2 c hc (by simp)) with q | ⟨q, v, k, b1, b2, b3, b4, b5⟩
  · exact Or.inl q
  · obtain ⟨_, d, d1, d2, d3⟩ := a2.2.2.2 k b5
    have e : zNd t c = d := by
      unfold zNd
      rw [b2, show (Int32.ofNat v).toNatClampNeg = v from pl_clamp (pl_ofn (by omega)), b3, show (Int32.ofNat k).toNatClampNeg = k from pl_clamp (pl_ofn (by omega)), d2]
      exact pl_clamp (pl_ofn (by omega))
    exact Or.inr ⟨q, v, k, b1, b2, b3, b4, b5, by rw [e]; exact d2, by rw [e]; exact d3, by rw [e]; exact d1⟩
theorem zEn_it {G : zTxt} {f : Nat → Nat} {N M P A T : Nat} {t u : zS} (h : zTG G f N M P A T t u) : ∀ n x, x < T → zIt (zNx t) n x = none → zEn t n (t 21 x).toNatClampNeg := by
  have hN := h.2.2.2.1
  have hT := h.2.2.2.2.2.1
  intro n
  induction n with
  | zero => intro x _ hx; cases hx
  | succ n ih =>
    intro x hxT hx
    have e : zIt (zNx t) (1 + n) x = (zIt (zNx t) 1 x).bind (zIt (zNx t) n) := zIt_add n
    rw [show 1 + n = n + 1 by omega, hx] at e
    obtain ⟨c, c1, c2, c3, c4, d⟩ := zNx_at h.1 h.2.1 hxT hN (by omega)
    have ec : (t 21 x).toNatClampNeg = c := by rw [c3]; exact pl_clamp (pl_ofn (by omega))
    rw [ec]
    intro w
    rcases d with ⟨_, d2, _⟩ | ⟨v, k, d1, d2, d3, d4, d5, d6, d7⟩
    · exact absurd w d2
    · have e1 : zIt (zNx t) 1 x = some k := d1
      rw [e1] at e
      have := ih k d7 e.symm
      have en : zNd t c = (t 21 k).toNatClampNeg := by
        unfold zNd
        rw [d4, show (Int32.ofNat v).toNatClampNeg = v from pl_clamp (pl_ofn (by omega)), d5, show (Int32.ofNat k).toNatClampNeg = k from pl_clamp (pl_ofn (by omega))]
      rw [en]; exact this
theorem zEn_root {G : zTxt} {f : Nat → Nat} {N M P A T x : Nat} {t u : zS} (h : zTG G f N M P A T t u) (hx : x < T) : zEn t T (t 21 x).toNatClampNeg := zEn_it h T x hx (h.2.2.1 x hx)
theorem zEn_all {G : zTxt} {f : Nat → Nat} {N M P A T c : Nat} {t u : zS} (h : zTG G f N M P A T t u) (hc : c < N) : zEn t (T + 1) c := by
  intro w
  have hT := h.2.2.2.2.2.1
  have hN := h.2.2.2.1
  rcases zNd_at h hc with ⟨q, _⟩ | ⟨q, v, k, b1, b2, b3, b4, b5, b6, b7, b8⟩
  · exact absurd w q
  · have := zEn_root h b5
    rw [b6, show (Int32.ofNat (zNd t c)).toNatClampNeg = zNd t c from pl_clamp (pl_ofn (by omega))] at this
    exact this
/-- the state that a state stands for -/
def zSg2 (t : zS) (s : Nat) : Nat := zFz t 400 s
theorem zSg2_eq {G : zTxt} {f : Nat → Nat} {N M P A T s : Nat} {t u : zS} (h : zTG G f N M P A T t u) (hs : s / 2 < N) {n : Nat} (hn : T + 1 ≤ n) : zFz t n s = zSg2 t s := by
  have ho := zEn_all h hs
  have hT := h.2.2.2.2.2.1
  have e1 := zFz_le (T + 1) s ho (n - (T + 1))
  have e2 := zFz_le (T + 1) s ho (400 - (T + 1))
  rw [show T + 1 + (n - (T + 1)) = n by omega] at e1
  rw [show T + 1 + (400 - (T + 1)) = 400 by omega] at e2
  unfold zSg2
  rw [e1, e2]
theorem zFz_lt {G : zTxt} {f : Nat → Nat} {N M P A T : Nat} {t u : zS} (h : zTG G f N M P A T t u) : ∀ n s, s / 2 < N → zFz t n s / 2 < N := by
  intro n
  induction n with
  | zero => intro s hs; exact hs
  | succ n ih =>
    intro s hs
    rcases zNd_at h hs with ⟨q, _⟩ | ⟨q, v, k, b1, b2, b3, b4, b5, b6, b7, b8⟩
    · rw [zFz_stop q]; exact hs
    · rw [zFz_name (by rcases q with e | e; exact Or.inl e.1; exact Or.inr e.1)]
      refine ih _ ?_
      rw [show (2 * zNd t (s / 2) + (if t 9 (s / 2) = 3 then 1 - s % 2 else s % 2)) / 2 = zNd t (s / 2) by split <;> omega]
      exact b8
theorem zSg2_fl {t : zS} {s : Nat} : zSg2 t (zflp s) = zflp (zSg2 t s) := zFz_fl 400 s
theorem zSg2_stop {t : zS} {s : Nat} (h : ¬ (t 9 (s / 2) = 2 ∨ t 9 (s / 2) = 3)) : zSg2 t s = s := zFz_stop h
theorem zSg2_end {G : zTxt} {f : Nat → Nat} {N M P A T s : Nat} {t u : zS} (h : zTG G f N M P A T t u) (hs : s / 2 < N) : ¬ (t 9 (zSg2 t s / 2) = 2 ∨ t 9 (zSg2 t s / 2) = 3) := by
  have e := zSg2_eq h hs (Nat.le_refl _)
  rw [← e]
  exact zFz_end _ _ (zEn_all h hs)
theorem zFz_of {t t2 : zS} (h : zTr t t2) : ∀ n s, zFz t2 n s = zFz t n s := by
  obtain ⟨h9, h11, h13, h15, h17, h19, h21, h23, h25, _⟩ := h
  have e : ∀ c, zNd t2 c = zNd t c := fun c => by unfold zNd; rw [h11, h21, h25]
  intro n
  induction n with
  | zero => intro s; rfl
  | succ n ih => intro s; unfold zFz; rw [h9, e, ih, ih]
theorem zSg2_of {t t2 : zS} (h : zTr t t2) (s : Nat) : zSg2 t2 s = zSg2 t s := zFz_of h 400 s
