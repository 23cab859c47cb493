/-! type NAME = TYPE ; on both sides -/
theorem zTB_tu {G : zTxt} {S H i d : Nat} {f : Nat → Nat} {X : List Nat} {N M P A q : Nat} {t u t2 u2 : zS} (h : zTB G S H i d f X N M P A q t u) (hr : ∀ k, k = 5 ∨ (9 ≤ k ∧ k ≤ 19) ∨ k = 50 ∨ k = 54 ∨ k = 56 ∨ k = 67 ∨ k = 87 ∨ k = 93 → t2 k = t k) (h3 : t2 3 13 = t 3 13) (h4 : t2 3 14 = t 3 14) (gr : ∀ k, (2 ≤ k ∧ k ≤ 10) ∨ (35 ≤ k ∧ k ≤ 38) → u2 k = u k) (g0 : ∀ j, j ≤ 11 ∨ j = 14 ∨ j = 19 ∨ j = 52 ∨ j = 59 → u2 0 j = u 0 j) : zTB G S H i d f X N M P A q t2 u2 := by
  obtain ⟨a1, a2, a3, b, c, a6⟩ := h
  have r5 := hr 5 (by decide)
  exact ⟨zAt_of a1 (fun j _ _ => by rw [r5]) (hr 67 (by decide)) (by rw [hr 50 (by decide)]) (fun j j1 _ => g0 j (by omega)) (gr 2 (by omega)) (gr 3 (by omega)) (gr 4 (by omega)), by rw [r5]; exact a2, by rw [g0 10 (by omega)]; exact a3, zTD_of b h3 h4 (g0 14 (by omega)) (g0 19 (by omega)) (hr 9 (by omega)) (hr 11 (by omega)) (hr 13 (by omega)) (hr 15 (by omega)) (hr 17 (by omega)) (hr 19 (by omega)) (gr 5 (by omega)) (gr 6 (by omega)) (gr 7 (by omega)) (gr 8 (by omega)) (gr 9 (by omega)) (gr 10 (by omega)), zAK_of c (by rw [r5]) (g0 52 (by omega)) (hr 9 (by omega)) (hr 54 (by omega)) (hr 56 (by omega)) (hr 93 (by omega)) (hr 87 (by omega)) (gr 5 (by omega)) (gr 6 (by omega)) (gr 35 (by omega)) (gr 36 (by omega)) (gr 37 (by omega)) (gr 38 (by omega)), by rw [g0 59 (by omega)]; exact a6⟩
theorem zEc_form {t : zS} (h : zEc t) : mX7_readFormr t = some (-1, t) := by
  show lX7_readForm_6 (grgX7_readForm 299) zFU (-1) (-1) 0 t = _
  rw [show zFU = (zFU - 1) + 1 by unfold zFU; omega]
  show bX7_readForm_6 (grgX7_readForm 299) (lX7_readForm_6 (grgX7_readForm 299) (zFU - 1)) (-1) (-1) 0 t = _
  unfold bX7_readForm_6
  rw [if_neg (by decide), if_pos h.2]
theorem zDs2_def {G : zTxt} {f f2 : Nat → Nat} {N N2 T v w : Nat} {t u t2 u2 : zS} (h : zDs2 G f N T t u) (hv : v < 1600) (hw : (zBk G)[w]? = some v) (hno : t 25 v = -1) (hT : T < 400) (a1 : t2 3 15 = Int32.ofNat (T + 1)) (b1 : u2 0 22 = Int32.ofNat (T + 1)) (a25 : t2 25 = fun x => if x = v then Int32.ofNat T else t 25 x) (b11 : u2 11 = fun k => if k = T then Int32.ofNat w else u 11 k) (hk : ∀ k, k < T → t2 23 k = t 23 k ∧ u2 12 k = u 12 k ∧ t2 21 k = t 21 k ∧ u2 13 k = u 13 k) (e : t2 23 T = u2 12 T ∧ 0 ≤ t2 23 T) (hc : zCh f2 N2 (t2 21 T) (u2 13 T)) (hf : ∀ c, c < N → f2 c = f c) (hN : N ≤ N2) : zDs2 G f2 N2 (T + 1) t2 u2 := by
  obtain ⟨c1, c2, c3, c4⟩ := h
  refine ⟨a1, b1, by rw [a25, b11]; exact zBy_add c3 hv hw hno (by omega), fun k hk2 => ?_⟩
  by_cases q : k = T
  · subst q; exact ⟨e, hc⟩
  · obtain ⟨d1, d2, d3, d4⟩ := hk k (by omega)
    obtain ⟨e1, e2⟩ := c4 k (by omega)
    rw [d1, d2, d3, d4]
    exact ⟨e1, zCh_ext e2 hf hN⟩
/-- the numbers behind a definition -/
theorem zTN_def {G : zTxt} {i i2 N M P A T Q Pa bb S F C R W V q N2 M2 P2 A2 q2 : Nat} {t t2 t0 u0 : zS} (h : zTN G i N M P A T Q Pa bb S F C R W V q t) (ha : zAt G i2 t0 u0) (hi : i + 5 ≤ i2) (hp : zpos G.1 G.2.1 i + 5 ≤ zpos G.1 G.2.1 (i + 1)) (h1 : N2 ≤ i2) (h2 : M2 ≤ i2) (h3 : P2 ≤ A2) (h4 : zW (t2 9) (t2 13) N2 ≤ i2) (h5 : 2 * A2 + 2 * V ≤ i2) (h6 : 2 * q2 ≤ i2) : zTN G i2 N2 M2 P2 A2 (T + 1) Q Pa bb S F C R W V q2 t2 := by
  have hm := ha.2.2.2.2.1
  have hz := zpos_inc ha (i2 - (i + 1)) (i + 1) (by omega)
  rw [show i + 1 + (i2 - (i + 1)) = i2 by omega] at hz
  obtain ⟨b1, b2, b3, b4, b5, b6, b7, b8, b9, b10, b11, b12, b13, b14⟩ := h
  refine ⟨h1, h2, h3, h4, ?_, ?_, ?_, ?_, ?_, h5, h6, ?_, ?_, ?_⟩ <;> omega
theorem zGE_T {z H : Nat} {t u t1 u1 t2 u2 : zS} (h : zXE z H t1 u1 t2 u2) (h1 : zFP zpR t t1) (h2 : zFP zpM u u1) : zGE t u t2 u2 := ⟨h.1, zFP_trans h1 (zFP_R h.2.2.1), zFP_trans h2 (zFP_M h.2.2.2)⟩
theorem zGE_c {t u t2 u2 t3 : zS} (h : zGE t u t2 u2) (h2 : zEs t2 t3) : zGE t u t3 u2 := ⟨zEr_of h.1 h2.1 h2.2.2 rfl, zFP_trans h.2.1 h2.2.1, h.2.2⟩
theorem zGE_fr {t u t1 u1 t2 u2 : zS} (he : zEr t2 u2) (hs : zSf t1 t2) (hm : zMf u1 u2) (h1 : zFP zpR t t1) (h2 : zFP zpM u u1) : zGE t u t2 u2 := ⟨he, zFP_trans h1 (zFP_rS hs), zFP_trans h2 (zFP_M (zFP_N hm))⟩
