/-! main -/
theorem zAt_last {G : zTxt} {i : Nat} {t u : zS} (h : zAt G i t u) (h9 : t 5 9 = 19) : i = G.2.2.1 := by
  have h5 := (zAt_end h).mpr h9
  obtain ⟨a1, a2, a3, a4, a5, a6, a7, a8, a9, a10, a11, a12, a13⟩ := h
  rcases Nat.lt_or_ge i G.2.2.1 with q | q
  · exfalso
    obtain ⟨_, c1, c2, c3⟩ := a13.2.2 (a1.2.2.1 i q).1
    cases b : zltb (G.1 (zpos G.1 G.2.1 i)) with
    | true =>
      rcases Nat.lt_or_ge (G.2.2.2 i) 17 with v | v
      · have := ((c1 b).1 v).1
        rw [h5] at this; exact absurd this (by decide)
      · have := ((c1 b).2 v).1
        rw [h5] at this; exact absurd this (by decide)
    | false =>
      cases b2 : zdig (G.1 (zpos G.1 G.2.1 i)) with
      | true =>
        have := (c2 b b2).1
        rw [h5] at this
        by_cases e : zend G.1 G.2.1 (zpos G.1 G.2.1 i) - zpos G.1 G.2.1 i ≤ 9
        · rw [if_pos e] at this; exact absurd this (by decide)
        · rw [if_neg e] at this; exact absurd this (by decide)
      | false =>
        have := (c3 b b2).1
        rw [h5] at this
        by_cases e : G.1 (zpos G.1 G.2.1 i) ∈ zSgs
        · rw [if_pos e] at this; exact absurd this (by decide)
        · rw [if_neg e] at this; exact absurd this (by decide)
  · omega
theorem pl_idStep {u : zS} {w p l L fu : Nat} {x1 x2 x3 x4 : Int32} (h11 : u 0 11 = Int32.ofNat L) (hw : w < L) (hL : L ≤ 1600) (h3 : u 3 w = Int32.ofNat p) (h4 : u 4 w = Int32.ofNat l) (hb : p + l ≤ 3000) : lX12_idOf_3 (fu + 1) x1 x2 x3 x4 (Int32.ofNat w) u = if l = 4 ∧ zls (u 2) [x1, x2, x3, x4] p = true then some (Int32.ofNat w, u) else lX12_idOf_3 fu x1 x2 x3 x4 (Int32.ofNat (w + 1)) u := by
  have hz : zls (u 2) [x1, x2, x3, x4] p = true ↔ u 2 p = x1 ∧ u 2 (p + 1) = x2 ∧ u 2 (p + 2) = x3 ∧ u 2 (p + 3) = x4 := by
    simp only [zls, Bool.and_true, Bool.and_eq_true, decide_eq_true_iff]
  show bX12_idOf_3 (lX12_idOf_3 fu) x1 x2 x3 x4 _ u = _
  unfold bX12_idOf_3 bX12_idOf_86
  rw [h11, if_neg (show ¬ Int32.ofNat L ≤ Int32.ofNat w by rw [zn_le (by omega) (by omega)]; omega), zn_rd (by omega) (by decide), zn_rd (by omega) (by decide), h3, h4]
  simp only [pl_let, zn_1]
  by_cases c : l = 4
  · subst c
    rw [if_pos (show Int32.ofNat 4 = 4 from rfl), zn_rd (by omega) (by decide)]
    have k2 : Int32.ofNat p + 2 = Int32.ofNat (p + 2) := zn_add p 2
    have k3 : Int32.ofNat p + 3 = Int32.ofNat (p + 3) := zn_add p 3
    by_cases c0 : u 2 p = x1
    · rw [if_pos c0, zn_rd (by omega) (by decide)]
      by_cases c1 : u 2 (p + 1) = x2
      · rw [if_pos c1, k2, zn_rd (by omega) (by decide)]
        by_cases c2 : u 2 (p + 2) = x3
        · rw [if_pos c2, k3, zn_rd (by omega) (by decide)]
          by_cases c3 : u 2 (p + 3) = x4
          · rw [if_pos c3, if_pos ⟨rfl, hz.mpr ⟨c0, c1, c2, c3⟩⟩]
          · rw [if_neg c3, if_neg (fun w => c3 (hz.mp w.2).2.2.2)]
        · rw [if_neg c2, if_neg (fun w => c2 (hz.mp w.2).2.2.1)]
      · rw [if_neg c1, if_neg (fun w => c1 (hz.mp w.2).2.1)]
    · rw [if_neg c0, if_neg (fun w => c0 (hz.mp w.2).1)]
  · rw [if_neg (show ¬ Int32.ofNat l = (4 : Int32) from fun w => c ((zn_inj (a := l) (b := 4) (by omega) (by decide)).mp w)), if_neg (fun w => c w.1)]
/-- the number of the NAME main -/
theorem pl_idMain {G : zTxt} {i : Nat} {t u : zS} (h : zAt G i t u) (h9 : t 5 9 = 19) : ∃ r, mX12_idOf 109 97 105 110 u = some (r, u) ∧ ((∃ w : Nat, r = Int32.ofNat w ∧ (zBk G)[w]? = some 17) ∨ (r = -1 ∧ ∀ w : Nat, ¬ (zBk G)[w]? = some 17)) := by
  have ei := zAt_last h h9
  have hB := zBk_len h
  subst ei
  obtain ⟨W, a2, a3, a4, a5, a6, a7, a8, a9, a10, a11, a12, a13⟩ := h
  have hM : u 0 11 = Int32.ofNat (zBk G).length := a12.1
  have loop : ∀ (d w fu : Nat), d + w = (zBk G).length → (∀ x, x < w → ¬ (zBk G)[x]? = some 17) → ∃ r, lX12_idOf_3 (fu + d + 1) 109 97 105 110 (Int32.ofNat w) u = some (r, u) ∧ ((∃ w : Nat, r = Int32.ofNat w ∧ (zBk G)[w]? = some 17) ∨ (r = -1 ∧ ∀ w : Nat, ¬ (zBk G)[w]? = some 17)) := by
    intro d
    induction d with
    | zero =>
      intro w fu hd hno
      refine ⟨-1, ?_, Or.inr ⟨rfl, fun x hx => hno x (by have := zLs_lt hx; omega) hx⟩⟩
      show bX12_idOf_3 _ _ _ _ _ _ _ = _
      unfold bX12_idOf_3
      rw [hM, if_pos ((zn_le (by omega) (by omega)).mpr (by omega))]
    | succ d ih =>
      intro w fu hd hno
      have hwl : w < (zBk G).length := by omega
      obtain ⟨v, hv⟩ : ∃ v, (zBk G)[w]? = some v := ⟨_, List.getElem?_eq_getElem hwl⟩
      obtain ⟨j, j1, j2, j3, j4, j5⟩ := a12.2 w v hv
      have hz := zend_lt (g := G.1) (W.2.2.1 j j1).1
      rw [show fu + (d + 1) + 1 = fu + d + 1 + 1 by omega, pl_idStep hM hwl hB j4 j5 (by omega), a2]
      have hq : (zend G.1 G.2.1 (zpos G.1 G.2.1 j) - zpos G.1 G.2.1 j = 4 ∧ zls G.1 [109, 97, 105, 110] (zpos G.1 G.2.1 j) = true) ↔ v = 17 := by
        have e := W.2.2.2.2.2.2 j 17 j1 (by decide) j2
        rw [j3] at e
        rw [e, zKn_iff (by decide)]
        exact Iff.rfl
      by_cases c : v = 17
      · rw [if_pos (hq.mpr c)]
        subst c
        exact ⟨_, rfl, Or.inl ⟨w, rfl, hv⟩⟩
      · rw [if_neg (fun x => c (hq.mp x))]
        refine ih (w + 1) fu (by omega) (fun x hx => ?_)
        by_cases e : x = w
        · rw [e, hv]
          exact fun q => c (Option.some.inj q)
        · exact hno x (by omega)
  have := loop (zBk G).length 0 (zFU - (zBk G).length - 1) (by omega) (fun x hx => absurd hx (Nat.not_lt_zero x))
  rw [show zFU - (zBk G).length - 1 + (zBk G).length + 1 = zFU by unfold zFU; omega] at this
  exact this
/-- the proc main -/
theorem pl_main {G : zTxt} {i K : Nat} {t u : zS} (h : zAt G i t u) (h9 : t 5 9 = 19) (hP : zBy (zBk G) K (t 33) (u 28)) (h44 : u 0 44 = Int32.ofNat K) (hK : K ≤ 300) : (zbd (mX12_idOf 109 97 105 110 u) fun r u2 => zbd (mX12_procOfId r u2) fun r u3 => bX12_program_267 r u3) = bX12_program_267 (t 33 17) u := by
  obtain ⟨r, r1, r2⟩ := pl_idMain h h9
  rw [r1, pl_bd]
  rcases r2 with ⟨w, r2, r3⟩ | ⟨r2, r3⟩
  · rw [r2, pl_procOfId h hP h44 hK (by decide) r3, pl_bd]
  · have e : t 33 17 = -1 := by
      rcases hP.1 17 (by decide) with e | ⟨k, k1, k2, x, k3, k4⟩
      · exact e
      · exact absurd k4 (r3 x)
    rw [r2, e]
    have hB := zBk_len h
    have loop : ∀ (d j fu : Nat), d + j = K → lX12_procOfId_2 (fu + d + 1) (-1) (Int32.ofNat j) u = some (-1, u) := by
      intro d
      induction d with
      | zero =>
        intro j fu hd
        show bX12_procOfId_2 _ _ _ _ = _
        unfold bX12_procOfId_2
        rw [if_pos (by rw [h44, zn_le (by omega) (by omega)]; omega)]
      | succ d ih =>
        intro j fu hd
        show bX12_procOfId_2 (lX12_procOfId_2 (fu + d + 1)) _ _ _ = _
        unfold bX12_procOfId_2
        obtain ⟨v', x, k1, k2, k3, k4⟩ := hP.2 j (by omega)
        have l2 := zLs_lt k3
        rw [if_neg (by rw [h44, zn_le (by omega) (by omega)]; omega), zn_rd (by omega) (by decide), k2, if_neg (fun w => absurd (show (0 : Int32) ≤ -1 by rw [← w]; exact zn_0le (by omega)) zn_m1), pl_let, zn_1]
        exact ih (j + 1) fu (by omega)
    have := loop K 0 (zFU - K - 1) (by omega)
    rw [show zFU - K - 1 + K + 1 = zFU by unfold zFU; omega] at this
    rw [show mX12_procOfId (-1) u = some (-1, u) from this, pl_bd]
