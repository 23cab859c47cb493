/-! EXPRESSIONS in lockstep -/
theorem zXok_mono {G : zTxt} {d nd nd2 p b i0 n0 F0 C0 i n F C : Nat} {t0 u0 t u : zS} (h : zXok G d nd p b i0 n0 F0 C0 t0 u0 i n F C t u) (hn : nd ≤ nd2) : zXok G d nd2 p b i0 n0 F0 C0 t0 u0 i n F C t u := by
  obtain ⟨a1, a2, a3, l, l1, l2, l3, l4, l5, l6, l7⟩ := h
  exact ⟨a1, a2, a3, l, l1, l2, l3, l4, l5, fun h hb hh => l6 h hb (by omega), l7⟩
theorem zEE_k {cb : Nat} {t u t2 u2 : zS} (h : zEE cb t u t2 u2) : t2 5 9 = 21 ∧ 0 ≤ u2 0 9 := ⟨h.1.1, zEr_m h.1⟩
theorem zAt_sv {G : zTxt} {i : Nat} {t u : zS} (h : zAt G i t u) (hc : t 5 9 ∈ zSgs) : u 0 8 = t 5 9 := by
  rcases (zAt_w h).1 with ⟨k, a1, a2, a3, a4⟩ | ⟨a1, a2, a3⟩ | ⟨a1, a2, a3⟩ | ⟨a1, a2⟩ | ⟨a1, a2⟩ | ⟨a1, a2, a3⟩ | ⟨a1, a2, a3⟩
  · rw [a2] at hc; exact absurd hc (zsg_k k a1)
  · rw [a1] at hc; exact absurd hc (by decide)
  · rw [a1] at hc; exact absurd hc (by decide)
  · rw [a1] at hc; exact absurd hc (by decide)
  · rw [a1] at hc; exact absurd hc (by decide)
  · rw [a1] at hc; exact absurd hc (by decide)
  · exact a3
theorem zAt_sv2 {G : zTxt} {i : Nat} {t u : zS} (h : zAt G i t u) (hc : t 5 9 = 256) : u 0 8 = 69 := by
  rcases (zAt_w h).1 with ⟨k, a1, a2, a3, a4⟩ | ⟨a1, a2, a3⟩ | ⟨a1, a2, a3⟩ | ⟨a1, a2⟩ | ⟨a1, a2⟩ | ⟨a1, a2, a3⟩ | ⟨a1, a2, a3⟩
  · rw [a2] at hc; have := (zn_inj (b := 256) (by omega) (by decide)).mp hc; omega
  · rw [a1] at hc; exact absurd hc (by decide)
  · rw [a1] at hc; exact absurd hc (by decide)
  · rw [a1] at hc; exact absurd hc (by decide)
  · rw [a1] at hc; exact absurd hc (by decide)
  · exact a3
  · rw [hc] at a1; exact absurd a1 (by decide)
theorem zProdL {g : GgX7_readExpression} {m : GgX12_compared} {G : zTxt} {d nd nd2 cb p b i0 n0 F0 C0 : Nat} {t0 u0 : zS} (hs : zPX d nd2 cb g.2.2.2 m.2.2.2) (hnd : nd2 + 1 ≤ nd) (hcb : cb < 8999) : ∀ (k i fc fm x n F C : Nat) (t u : zS), 3001 ≤ k + i → 2 * x ≤ i → zXok G d nd p b i0 n0 F0 C0 t0 u0 i n F C t u → ∃ r t2 r' u2, lX7_readProduct_6 g (fc + k + 1) (Int32.ofNat x) t = some (r, t2) ∧ lX12_product_4 m (fm + k + 1) u = some (r', u2) ∧ ((∃ i2 n2 F2 C2, zXok G d nd p b i0 n0 F0 C0 t0 u0 i2 n2 F2 C2 t2 u2) ∨ zEE (cb + 1) t0 u0 t2 u2) := by
  intro k
  induction k with
  | zero =>
    intro i fc fm x n F C t u hk hx h
    have := zAt_lt h.1.1.1
    omega
  | succ k ih =>
    intro i fc fm x n F C t u hk hx h
    have hl := zAt_lt h.1.1.1
    have hA := h.1.1.1
    show ∃ r t2 r' u2, bX7_readProduct_6 g (lX7_readProduct_6 g (fc + k + 1)) (Int32.ofNat x) t = some (r, t2) ∧ bX12_product_4 m (lX12_product_4 m (fm + k + 1)) u = some (r', u2) ∧ _
    have go : ∀ op : Int32, t 5 9 = op → op ∈ zSgs → zOp op op → ∃ r t2 r' u2, bX7_readProduct_40 g (lX7_readProduct_6 g (fc + k + 1)) (Int32.ofNat x) t = some (r, t2) ∧ bX12_product_31 m (lX12_product_4 m (fm + k + 1)) u = some (r', u2) ∧ ((∃ i2 n2 F2 C2, zXok G d nd p b i0 n0 F0 C0 t0 u0 i2 n2 F2 C2 t2 u2) ∨ zEE (cb + 1) t0 u0 t2 u2) := by
      intro op h9 ho1 ho2
      have h8 := zAt_sv hA (by rw [h9]; exact ho1)
      obtain ⟨t3, u3, a1, a2, a3⟩ := zIter (kc := fun t => zlet (Int32.ofNat x + 1) fun v => lX7_readProduct_6 g (fc + k + 1) v t) (km := lX12_product_4 m (fm + k + 1)) hs h hnd hcb (by rw [h9]; exact (zsg_19 ho1).1) ho2
      unfold bX7_readProduct_40 bX12_product_31
      rw [pl_let, pl_let, h8, h9, a1, a2, pl_let, zn_1]
      rcases a3 with ⟨i2, n2, F2, C2, a4, a5⟩ | a3
      · exact ih i2 fc fm (x + 1) n2 F2 C2 t3 u3 (by omega) (by omega) a5
      · obtain ⟨k1, k2⟩ := zEE_k a3
        refine ⟨0, t3, 0, u3, ?_, ?_, Or.inr a3⟩
        · show bX7_readProduct_6 g (lX7_readProduct_6 g (fc + k)) _ _ = _
          unfold bX7_readProduct_6
          rw [k1, if_neg (show ¬ (21 : Int32) = 42 by decide), if_neg (show ¬ (21 : Int32) = 47 by decide), if_neg (show ¬ (21 : Int32) = 37 by decide)]
          exact ite_self _
        · show bX12_product_4 m (lX12_product_4 m (fm + k)) _ = _
          unfold bX12_product_4
          rw [zEm_sg k2, pl_bd, if_pos rfl, zEm_sg k2, pl_bd, if_pos rfl, zEm_sg k2, pl_bd, if_pos rfl]
    unfold bX7_readProduct_6 bX12_product_4
    rw [if_neg (show ¬ (3000 : Int32) ≤ Int32.ofNat x from fun w => by have := (zn_le (a := 3000) (by decide) (by omega)).mp w; omega), zAt_sg hA (c := 42) (by decide), pl_bd, zAt_sg hA (c := 47) (by decide), pl_bd, zAt_sg hA (c := 37) (by decide), pl_bd]
    by_cases q42 : t 5 9 = 42
    · rw [if_pos q42, if_pos q42, if_neg pl_10]
      exact go 42 q42 (by decide) (Or.inl ⟨rfl, by decide⟩)
    rw [if_neg q42, if_neg q42, if_pos rfl]
    by_cases q47 : t 5 9 = 47
    · rw [if_pos q47, if_pos q47, if_neg pl_10]
      exact go 47 q47 (by decide) (Or.inl ⟨rfl, by decide⟩)
    rw [if_neg q47, if_neg q47, if_pos rfl]
    by_cases q37 : t 5 9 = 37
    · rw [if_pos q37, if_pos q37, if_neg pl_10]
      exact go 37 q37 (by decide) (Or.inl ⟨rfl, by decide⟩)
    rw [if_neg q37, if_neg q37, if_pos rfl]
    exact ⟨_, _, _, _, rfl, rfl, Or.inl ⟨i, n, F, C, h⟩⟩
theorem zSumL {g : GgX7_readExpression} {m : GgX12_compared} {G : zTxt} {d nd nd2 cb p b i0 n0 F0 C0 : Nat} {t0 u0 : zS} (hs : zPX d nd2 cb g.2.2.1 m.2.2.1) (hnd : nd2 + 1 ≤ nd) (hcb : cb < 8999) : ∀ (k i fc fm x n F C : Nat) (t u : zS), 3001 ≤ k + i → 2 * x ≤ i → zXok G d nd p b i0 n0 F0 C0 t0 u0 i n F C t u → ∃ r t2 r' u2, lX7_readSum_6 g (fc + k + 1) (Int32.ofNat x) t = some (r, t2) ∧ lX12_sum_4 m (fm + k + 1) u = some (r', u2) ∧ ((∃ i2 n2 F2 C2, zXok G d nd p b i0 n0 F0 C0 t0 u0 i2 n2 F2 C2 t2 u2) ∨ zEE (cb + 1) t0 u0 t2 u2) := by
  intro k
  induction k with
  | zero =>
    intro i fc fm x n F C t u hk hx h
    have := zAt_lt h.1.1.1
    omega
  | succ k ih =>
    intro i fc fm x n F C t u hk hx h
    have hl := zAt_lt h.1.1.1
    have hA := h.1.1.1
    show ∃ r t2 r' u2, bX7_readSum_6 g (lX7_readSum_6 g (fc + k + 1)) (Int32.ofNat x) t = some (r, t2) ∧ bX12_sum_4 m (lX12_sum_4 m (fm + k + 1)) u = some (r', u2) ∧ _
    have go : ∀ op : Int32, t 5 9 = op → op ∈ zSgs → zOp op op → ∃ r t2 r' u2, bX7_readSum_31 g (lX7_readSum_6 g (fc + k + 1)) (Int32.ofNat x) t = some (r, t2) ∧ bX12_sum_22 m (lX12_sum_4 m (fm + k + 1)) u = some (r', u2) ∧ ((∃ i2 n2 F2 C2, zXok G d nd p b i0 n0 F0 C0 t0 u0 i2 n2 F2 C2 t2 u2) ∨ zEE (cb + 1) t0 u0 t2 u2) := by
      intro op h9 ho1 ho2
      have h8 := zAt_sv hA (by rw [h9]; exact ho1)
      obtain ⟨t3, u3, a1, a2, a3⟩ := zIter (kc := fun t => zlet (Int32.ofNat x + 1) fun v => lX7_readSum_6 g (fc + k + 1) v t) (km := lX12_sum_4 m (fm + k + 1)) hs h hnd hcb (by rw [h9]; exact (zsg_19 ho1).1) ho2
      unfold bX7_readSum_31 bX12_sum_22
      rw [pl_let, pl_let, h8, h9, a1, a2, pl_let, zn_1]
      rcases a3 with ⟨i2, n2, F2, C2, a4, a5⟩ | a3
      · exact ih i2 fc fm (x + 1) n2 F2 C2 t3 u3 (by omega) (by omega) a5
      · obtain ⟨k1, k2⟩ := zEE_k a3
        refine ⟨0, t3, 0, u3, ?_, ?_, Or.inr a3⟩
        · show bX7_readSum_6 g (lX7_readSum_6 g (fc + k)) _ _ = _
          unfold bX7_readSum_6
          rw [k1, if_neg (show ¬ (21 : Int32) = 43 by decide), if_neg (show ¬ (21 : Int32) = 45 by decide)]
          exact ite_self _
        · show bX12_sum_4 m (lX12_sum_4 m (fm + k)) _ = _
          unfold bX12_sum_4
          rw [zEm_sg k2, pl_bd, if_pos rfl, zEm_sg k2, pl_bd, if_pos rfl]
    unfold bX7_readSum_6 bX12_sum_4
    rw [if_neg (show ¬ (3000 : Int32) ≤ Int32.ofNat x from fun w => by have := (zn_le (a := 3000) (by decide) (by omega)).mp w; omega), zAt_sg hA (c := 43) (by decide), pl_bd, zAt_sg hA (c := 45) (by decide), pl_bd]
    by_cases q42 : t 5 9 = 43
    · rw [if_pos q42, if_pos q42, if_neg pl_10]
      exact go 43 q42 (by decide) (Or.inl ⟨rfl, by decide⟩)
    rw [if_neg q42, if_neg q42, if_pos rfl]
    by_cases q47 : t 5 9 = 45
    · rw [if_pos q47, if_pos q47, if_neg pl_10]
      exact go 45 q47 (by decide) (Or.inl ⟨rfl, by decide⟩)
    rw [if_neg q47, if_neg q47, if_pos rfl]
    exact ⟨_, _, _, _, rfl, rfl, Or.inl ⟨i, n, F, C, h⟩⟩
theorem zProd {g : GgX7_readExpression} {m : GgX12_compared} {d nd cb : Nat} (hs : zPX d nd cb g.2.2.2 m.2.2.2) (hcb : cb < 8999) : zPX d (nd + 1) (cb + 1) (mX7_readProduct g) (mX12_product m) := by
  intro G p b i n F C t u h
  obtain ⟨r, t2, r', u2, a1, a2, a3⟩ := hs G p b i n F C t u h
  unfold mX7_readProduct mX12_product
  rw [a1, pl_bd, a2, pl_bd]
  rcases a3 with ⟨i2, n2, F2, C2, a3⟩ | a3
  · obtain ⟨r, t3, r', u3, b1, b2, b3⟩ := zProdL (nd := nd + 1) hs (Nat.le_refl _) hcb 3001 i2 (zFU - 3002) (zFU - 3002) 0 n2 F2 C2 t2 u2 (by omega) (by omega) (zXok_mono a3 (by omega))
    rw [show zFU - 3002 + 3001 + 1 = zFU by unfold zFU; omega] at b1 b2
    exact ⟨r, t3, r', u3, b1, b2, b3⟩
  · obtain ⟨k1, k2⟩ := zEE_k a3
    refine ⟨0, t2, 0, u2, ?_, ?_, Or.inr (zEE_mono a3 (by omega))⟩
    · show bX7_readProduct_6 g _ _ _ = _
      unfold bX7_readProduct_6
      rw [k1, if_neg (show ¬ (21 : Int32) = 42 by decide), if_neg (show ¬ (21 : Int32) = 47 by decide), if_neg (show ¬ (21 : Int32) = 37 by decide)]
      exact ite_self _
    · show bX12_product_4 m _ _ = _
      unfold bX12_product_4
      rw [zEm_sg k2, pl_bd, if_pos rfl, zEm_sg k2, pl_bd, if_pos rfl, zEm_sg k2, pl_bd, if_pos rfl]
theorem zSum {g : GgX7_readExpression} {m : GgX12_compared} {d nd cb : Nat} (hs : zPX d nd cb g.2.2.1 m.2.2.1) (hcb : cb < 8999) : zPX d (nd + 1) (cb + 1) (mX7_readSum g) (mX12_sum m) := by
  intro G p b i n F C t u h
  obtain ⟨r, t2, r', u2, a1, a2, a3⟩ := hs G p b i n F C t u h
  unfold mX7_readSum mX12_sum
  rw [a1, pl_bd, a2, pl_bd]
  rcases a3 with ⟨i2, n2, F2, C2, a3⟩ | a3
  · obtain ⟨r, t3, r', u3, b1, b2, b3⟩ := zSumL (nd := nd + 1) hs (Nat.le_refl _) hcb 3001 i2 (zFU - 3002) (zFU - 3002) 0 n2 F2 C2 t2 u2 (by omega) (by omega) (zXok_mono a3 (by omega))
    rw [show zFU - 3002 + 3001 + 1 = zFU by unfold zFU; omega] at b1 b2
    exact ⟨r, t3, r', u3, b1, b2, b3⟩
  · obtain ⟨k1, k2⟩ := zEE_k a3
    refine ⟨0, t2, 0, u2, ?_, ?_, Or.inr (zEE_mono a3 (by omega))⟩
    · show bX7_readSum_6 g _ _ _ = _
      unfold bX7_readSum_6
      rw [k1, if_neg (show ¬ (21 : Int32) = 43 by decide), if_neg (show ¬ (21 : Int32) = 45 by decide)]
      exact ite_self _
    · show bX12_sum_4 m _ _ = _
      unfold bX12_sum_4
      rw [zEm_sg k2, pl_bd, if_pos rfl, zEm_sg k2, pl_bd, if_pos rfl]
theorem zExpr {g : GgX7_readExpression} {m : GgX12_compared} {d nd cb : Nat} (hs : zPX d nd cb g.2.1 m.2.1) (hcb : cb < 8999) : zPX d (nd + 1) (cb + 1) (mX7_readExpression g) (mX12_compared m) := by
  intro G p b i n F C t u h
  obtain ⟨r, t2, r', u2, a1, a2, a3⟩ := hs G p b i n F C t u h
  unfold mX7_readExpression mX12_compared
  rw [a1, pl_bd, a2, pl_bd]
  rcases a3 with ⟨i2, n2, F2, C2, a3⟩ | a3
  · have hA := a3.1.1.1
    rw [zAt_sg hA (c := 60) (by decide), pl_bd, zAt_sgE hA, pl_bd]
    by_cases q60 : t2 5 9 = 60
    · rw [if_pos q60, if_pos q60, if_neg pl_10]
      have h8 := zAt_sv hA (by rw [q60]; decide)
      unfold bX7_readExpression_23 bX12_compared_23
      obtain ⟨t3, u3, b1, b2, b3⟩ := zIter (kc := fun t => some (0, t)) (km := fun t => some (0, t)) (op := 60) (code := 60) (nd := nd + 1) hs (zXok_mono a3 (by omega)) (Nat.le_refl _) hcb (by rw [q60]; decide) (Or.inl ⟨rfl, by decide⟩)
      rw [pl_let, pl_let, h8, q60, b1, b2]
      refine ⟨_, _, _, _, rfl, rfl, ?_⟩
      rcases b3 with ⟨i3, n3, F3, C3, _, b4⟩ | b3
      · exact Or.inl ⟨i3, n3, F3, C3, b4⟩
      · exact Or.inr b3
    · rw [if_neg q60, if_neg q60, if_pos rfl]
      by_cases q256 : t2 5 9 = 256
      · rw [if_pos q256, if_pos q256, if_neg pl_10]
        have h8 := zAt_sv2 hA q256
        unfold bX7_readExpression_23 bX12_compared_23
        obtain ⟨t3, u3, b1, b2, b3⟩ := zIter (kc := fun t => some (0, t)) (km := fun t => some (0, t)) (op := 256) (code := 69) (nd := nd + 1) hs (zXok_mono a3 (by omega)) (Nat.le_refl _) hcb (by rw [q256]; decide) (Or.inr ⟨rfl, rfl⟩)
        rw [pl_let, pl_let, h8, q256, b1, b2]
        refine ⟨_, _, _, _, rfl, rfl, ?_⟩
        rcases b3 with ⟨i3, n3, F3, C3, _, b4⟩ | b3
        · exact Or.inl ⟨i3, n3, F3, C3, b4⟩
        · exact Or.inr b3
      · rw [if_neg q256, if_neg q256, if_pos rfl]
        exact ⟨_, _, _, _, rfl, rfl, Or.inl ⟨i2, n2, F2, C2, zXok_mono a3 (by omega)⟩⟩
  · obtain ⟨k1, k2⟩ := zEE_k a3
    rw [k1, if_neg (show ¬ (21 : Int32) = 60 by decide), if_neg (show ¬ (21 : Int32) = 256 by decide), zEm_sg k2, pl_bd, if_pos rfl, zEm_sg k2, pl_bd, if_pos rfl]
    exact ⟨_, _, _, _, rfl, rfl, Or.inr (zEE_mono a3 (by omega))⟩
