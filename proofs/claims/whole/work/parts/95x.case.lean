/-! CHECK: case, what it asks -/
theorem zCasL {G : zTxt} {f : Nat → Nat} {N M P A T W a m na : Nat} {e : Nat → Nat} {h : Int32} {t u : zS} (hg : zTG G f N M P A T t u) (hv : zV N t a) (hka : (zD t).kd a = 9) (hW : W ≤ 1500) (hm : m ≤ 1500) (hl : zLk (t 115) W m h e) (hna : t 13 (a / 2) = Int32.ofNat na) (hn : na ≤ 1500) : ∀ (l j fu : Nat), j + l = m → ∃ r, lX1_isGoodCase_52 (fu + l + 1) (Int32.ofNat a) (Int32.ofNat j) (if j < m then Int32.ofNat (e j) else -1) (Int32.ofNat j) t = some (r, t) ∧ ((r = 1 ∧ (∀ i, j ≤ i → i < m → ∃ y, (zD t).pt a (t 109 (e i)) = some y) ∧ m = na) ∨ (r = 0 ∧ ((∃ i, j ≤ i ∧ i < m ∧ (zD t).pt a (t 109 (e i)) = none) ∨ ¬ m = na))) := by
  have la := zV_lt hg hv
  have hN := hg.2.2.2.1
  have e113 : ∀ j : Nat, j = m → bX1_isGoodCase_113 (Int32.ofNat a) (Int32.ofNat j) t = some (if m = na then 1 else 0, t) := fun j hj => by
    unfold bX1_isGoodCase_113 mX2_choices
    have := hv.1
    rw [(zb_s a la).1, show mX5_get 12 3000 (Int32.ofNat (a / 2)) t = some (t 13 (a / 2), t) from zn_get (by omega) (by decide), pl_bd, pl_bd, hna, hj]
    by_cases c : m = na
    · rw [if_pos c, if_pos (by rw [c])]
    · rw [if_neg c, if_neg (fun q => c ((zn_inj (by omega) (by omega)).mp q))]
  intro l
  induction l with
  | zero =>
    intro j fu hj
    have ej : j = m := by omega
    refine ⟨if m = na then 1 else 0, ?_, ?_⟩
    · show bX1_isGoodCase_52 _ _ _ _ _ t = _
      unfold bX1_isGoodCase_52
      rw [if_neg (show ¬ (1600 : Int32) ≤ Int32.ofNat j from fun w => by have := (zn_le (a := 1600) (by decide) (by omega)).mp w; omega), if_neg (show ¬ j < m by omega), if_pos (by decide), e113 j ej]
    · by_cases c : m = na
      · rw [if_pos c]; exact Or.inl ⟨rfl, fun i a1 a2 => by omega, c⟩
      · rw [if_neg c]; exact Or.inr ⟨rfl, Or.inr c⟩
  | succ l ih =>
    intro j fu hj
    have hj1 : j < m := by omega
    obtain ⟨b1, b2⟩ := hl.2 j hj1
    have st : lX1_isGoodCase_52 (fu + (l + 1) + 1) (Int32.ofNat a) (Int32.ofNat j) (if j < m then Int32.ofNat (e j) else -1) (Int32.ofNat j) t = zbd (mX2_byLabel (Int32.ofNat a) (t 109 (e j)) t) fun r1345 t1346 => if 0 ≤ r1345 then zbd (mX5_get 114 1600 (Int32.ofNat (e j)) t1346) fun r1349 t1350 => lX1_isGoodCase_52 (fu + l + 1) (Int32.ofNat a) (Int32.ofNat (j + 1)) r1349 (Int32.ofNat (j + 1)) t1350 else some (0, t1346) := by
      show bX1_isGoodCase_52 (lX1_isGoodCase_52 (fu + l + 1)) _ _ _ _ t = _
      unfold bX1_isGoodCase_52
      rw [if_neg (show ¬ (1600 : Int32) ≤ Int32.ofNat j from fun w => by have := (zn_le (a := 1600) (by decide) (by omega)).mp w; omega), if_pos hj1, if_neg (zn_neg (by omega)), show mX5_get 108 1600 (Int32.ofNat (e j)) t = some (t 109 (e j), t) from zn_get (by omega) (by decide), pl_bd]
      simp only [pl_let, zn_1]
    rw [st]
    rcases pl_byLabelC hg hv (Or.inr hka) (t 109 (e j)) with ⟨c1, c2⟩ | ⟨dd, c0, c1, c2⟩
    · rw [c1, pl_bd, if_neg zn_m1]
      exact ⟨0, rfl, Or.inr ⟨rfl, Or.inl ⟨j, Nat.le_refl _, hj1, c2⟩⟩⟩
    · rw [c1, pl_bd, if_pos (zn_0le (by omega)), show mX5_get 114 1600 (Int32.ofNat (e j)) t = some (t 115 (e j), t) from zn_get (by omega) (by decide), pl_bd, b2]
      obtain ⟨r, r1, r2⟩ := ih (j + 1) fu (by omega)
      refine ⟨r, r1, ?_⟩
      rcases r2 with ⟨d1, d2, d3⟩ | ⟨d1, d2⟩
      · refine Or.inl ⟨d1, fun i a1 a2 => ?_, d3⟩
        by_cases ei : i = j
        · rw [ei]; exact ⟨_, c2⟩
        · exact d2 i (by omega) a2
      · refine Or.inr ⟨d1, d2.imp (fun ⟨i, a1, a2, a3⟩ => ⟨i, by omega, a2, a3⟩) id⟩
theorem zCasM {gm : GgX12_checkBlock} {G : zTxt} {f : Nat → Nat} {N M P A T s c d b a0 m : Nat} {l0 : Nat → Int32} {t u : zS} (hg : zTG G f N M P A T t u) (hv : zV N t b) (hkb : (zD t).kd b = 9) (hd : d ≤ 43) (hc : c < 1500) (hs : s < 1600) (h42 : u 42 (1500 * d + c) = Int32.ofNat (zF f b)) (h19 : u 19 s = Int32.ofNat a0) (h20 : u 20 s = Int32.ofNat m) (ham : a0 + m ≤ 1500) (hl : ∀ j, j < m → zNm (zBk G) (l0 j) (u 23 (a0 + j))) : ∀ (l j fv : Nat), j + l = m → (lX12_checkCase_55 gm (fv + l + 1) (Int32.ofNat s) (Int32.ofNat d) (Int32.ofNat c) 1 (Int32.ofNat (a0 + j)) u = bX12_checkCase_111 gm (Int32.ofNat s) (Int32.ofNat d) (Int32.ofNat c) 1 u ∧ ∀ i, j ≤ i → i < m → ∃ y, (zD t).pt b (l0 i) = some y) ∨ (lX12_checkCase_55 gm (fv + l + 1) (Int32.ofNat s) (Int32.ofNat d) (Int32.ofNat c) 1 (Int32.ofNat (a0 + j)) u = bX12_checkCase_111 gm (Int32.ofNat s) (Int32.ofNat d) (Int32.ofNat c) 0 u ∧ ∃ i, j ≤ i ∧ i < m ∧ (zD t).pt b (l0 i) = none) := by
  intro l
  induction l with
  | zero =>
    intro j fv hj
    refine Or.inl ⟨?_, fun i a1 a2 => by omega⟩
    show bX12_checkCase_55 gm _ _ _ _ _ _ u = _
    unfold bX12_checkCase_55
    rw [zn_rd hs (by decide), zn_rd hs (by decide), h19, h20, zn_add, if_pos ((zn_le (by omega) (by omega)).mpr (by omega))]
  | succ l ih =>
    intro j fv hj
    have hj1 : j < m := by omega
    obtain ⟨v, w, q1, q2, q3, q4⟩ := hl j hj1
    have st : lX12_checkCase_55 gm (fv + (l + 1) + 1) (Int32.ofNat s) (Int32.ofNat d) (Int32.ofNat c) 1 (Int32.ofNat (a0 + j)) u = zbd (mX12_byLabel (Int32.ofNat (zF f b)) (Int32.ofNat w) u) fun r4115 t4116 => if r4115 < 0 then lX12_checkCase_55 gm (fv + l + 1) (Int32.ofNat s) (Int32.ofNat d) (Int32.ofNat c) 0 (Int32.ofNat (a0 + (j + 1))) t4116 else lX12_checkCase_55 gm (fv + l + 1) (Int32.ofNat s) (Int32.ofNat d) (Int32.ofNat c) 1 (Int32.ofNat (a0 + (j + 1))) t4116 := by
      show bX12_checkCase_55 gm (lX12_checkCase_55 gm (fv + l + 1)) _ _ _ _ _ u = _
      unfold bX12_checkCase_55 bX12_checkCase_103
      rw [zn_rd hs (by decide), zn_rd hs (by decide), h19, h20, zn_add, if_neg (fun w => by have := (zn_le (by omega) (by omega)).mp w; omega), if_neg pl_10, pl_channel hd hc, pl_bd, zn_rd (by omega) (by decide), h42, q3]
      simp only [pl_let, zn_1]
      rfl
    rw [st]
    rcases pl_byLabelM hg hv (Or.inr hkb) q1 q4 with ⟨b3, b4⟩ | ⟨y, b0', b3, b4⟩
    · rw [b3, pl_bd, if_pos (by decide)]
      refine Or.inr ⟨?_, j, Nat.le_refl _, hj1, by rw [q2]; exact b4⟩
      show bX12_checkCase_55 gm _ _ _ _ _ _ u = _
      unfold bX12_checkCase_55
      rw [zn_rd hs (by decide), zn_rd hs (by decide), h19, h20, zn_add]
      by_cases c : Int32.ofNat (a0 + m) ≤ Int32.ofNat (a0 + (j + 1))
      · rw [if_pos c]
      · rw [if_neg c, if_pos rfl]
    · have lF := (zF_lt hg b0'.1).1
      rw [b3, pl_bd, if_neg (zn_neg (by omega))]
      rcases ih (j + 1) fv (by omega) with ⟨d1, d2⟩ | ⟨d1, i, d2, d3, d4⟩
      · refine Or.inl ⟨d1, fun i a1 a2 => ?_⟩
        by_cases ei : i = j
        · rw [ei, q2]; exact ⟨_, b4⟩
        · exact d2 i (by omega) a2
      · exact Or.inr ⟨d1, i, by omega, d3, d4⟩
