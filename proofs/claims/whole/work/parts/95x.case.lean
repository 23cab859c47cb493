/-! CHECK: case, what it asks -/
theorem zCasL {G : zTxt} {f : Nat → Nat} {N M P A T W a m na : Nat} {e : Nat → Nat} {h : Int32} {t u : zS} (hg : zTG G f N M P A T t u) (hv : zV N t a) (hka : (zD t).kd a = 9) (hW : W ≤ 1500) (hm : m ≤ 1500) (hl : zLk (t 115) W m h e) (hna : t 13 (a / 2) = Int32.ofNat na) (hn : na ≤ 1500) : ∀ (l j fu : Nat), j + l = m → ∃ r, lX1_isGoodCase_52 (fu + l + 1) (Int32.ofNat a) (Int32.ofNat j) (if j < m then Int32.ofNat (e j) else -1) (Int32.ofNat j) t = some (r, t) ∧ ((r = 1 ∧ (∀ i, j ≤ i → i < m → ∃ y, (zD t).pt a (t 109 (e i)) = some y) ∧ m = na) ∨ (r = 0 ∧ ((∃ i, j ≤ i ∧ i < m ∧ (zD t).pt a (t 109 (e i)) = none) ∨ ¬ m = na))) := by
  have la := zV_lt hg hv
  have hN := hg.2.2.2.1
  have e113 : ∀ j : Nat, j = m → bX1_isGoodCase_113 (Int32.ofNat a) (Int32.ofNat j) t = some (if m = na then 1 else 0, t) := fun j hj => by
    unfold bX1_isGoodCase_113 mX2_choices
    have := hv.1
    rw [(zb_s a la).1, show mX5_get 12 3000 (Int32.ofNat (a / 2)) t = some (t 13 (a / 2), t) from zn_get (by omega) (by decide), pl_bd, pl_bd, hna, hj]
    by_cases c : m = na
    · rw [if_pos c, if_pos (by rw [c])]
    · rw [if_neg c, if_neg (fun q => c ((zn_inj (by omega) (by omega)).mp q))]
  intro l
  induction l with
  | zero =>
    intro j fu hj
    have ej : j = m := by omega
    refine ⟨if m = na then 1 else 0, ?_, ?_⟩
    · show bX1_isGoodCase_52 _ _ _ _ _ t = _
      unfold bX1_isGoodCase_52
      rw [if_neg (show ¬ (1600 : Int32) ≤ Int32.ofNat j from fun w => by have := (zn_le (a := 1600) (by decide) (by omega)).mp w; omega), if_neg (show ¬ j < m by omega), if_pos (by decide), e113 j ej]
    · by_cases c : m = na
      · rw [if_pos c]; exact Or.inl ⟨rfl, fun i a1 a2 => by omega, c⟩
      · rw [if_neg c]; exact Or.inr ⟨rfl, Or.inr c⟩
  | succ l ih =>
    intro j fu hj
    have hj1 : j < m := by omega
    obtain ⟨b1, b2⟩ := hl.2 j hj1
    have st : lX1_isGoodCase_52 (fu + (l + 1) + 1) (Int32.ofNat a) (Int32.ofNat j) (if j < m then Int32.ofNat (e j) else -1) (Int32.ofNat j) t = zbd (mX2_byLabel (Int32.ofNat a) (t 109 (e j)) t) fun r1345 t1346 => if 0 ≤ r1345 then zbd (mX5_get 114 1600 (Int32.ofNat (e j)) t1346) fun r1349 t1350 => lX1_isGoodCase_52 (fu + l + 1) (Int32.ofNat a) (Int32.ofNat (j + 1)) r1349 (Int32.ofNat (j + 1)) t1350 else some (0, t1346) := by
      show bX1_isGoodCase_52 (lX1_isGoodCase_52 (fu + l + 1)) _ _ _ _ t = _
      unfold bX1_isGoodCase_52
      rw [if_neg (show ¬ (1600 : Int32) ≤ Int32.ofNat j from fun w => by have := (zn_le (a := 1600) (by decide) (by omega)).mp w; omega), if_pos hj1, if_neg (zn_neg (by omega)), show mX5_get 108 1600 (Int32.ofNat (e j)) t = some (t 109 (e j), t) from zn_get (by omega) (by decide), pl_bd]
      simp only [pl_let, zn_1]
    rw [st]
    rcases pl_byLabelC hg hv (Or.inr hka) (t 109 (e j)) with ⟨c1, c2⟩ | ⟨dd, c0, c1, c2⟩
    · rw [c1, pl_bd, if_neg zn_m1]
      exact ⟨0, rfl, Or.inr ⟨rfl, Or.inl ⟨j, Nat.le_refl _, hj1, c2⟩⟩⟩
    · rw [c1, pl_bd, if_pos (zn_0le (by omega)), show mX5_get 114 1600 (Int32.ofNat (e j)) t = some (t 115 (e j), t) from zn_get (by omega) (by decide), pl_bd, b2]
      obtain ⟨r, r1, r2⟩ := ih (j + 1) fu (by omega)
      refine ⟨r, r1, ?_⟩
      rcases r2 with ⟨d1, d2, d3⟩ | ⟨d1, d2⟩
      · refine Or.inl ⟨d1, fun i a1 a2 => ?_, d3⟩
        by_cases ei : i = j
        · rw [ei]; exact ⟨_, c2⟩
        · exact d2 i (by omega) a2
      · refine Or.inr ⟨d1, d2.imp (fun ⟨i, a1, a2, a3⟩ => ⟨i, by omega, a2, a3⟩) id⟩
theorem zCasM {gm : GgX12_checkBlock} {G : zTxt} {f : Nat → Nat} {N M P A T s c d b a0 m : Nat} {l0 : Nat → Int32} {t u : zS} (hg : zTG G f N M P A T t u) (hv : zV N t b) (hkb : (zD t).kd b = 9) (hd : d ≤ 43) (hc : c < 1500) (hs : s < 1600) (h42 : u 42 (1500 * d + c) = Int32.ofNat (zF f b)) (h19 : u 19 s = Int32.ofNat a0) (h20 : u 20 s = Int32.ofNat m) (ham : a0 + m ≤ 1500) (hl : ∀ j, j < m → zNm (zBk G) (l0 j) (u 23 (a0 + j))) : ∀ (l j fv : Nat), j + l = m → (lX12_checkCase_55 gm (fv + l + 1) (Int32.ofNat s) (Int32.ofNat d) (Int32.ofNat c) 1 (Int32.ofNat (a0 + j)) u = bX12_checkCase_111 gm (Int32.ofNat s) (Int32.ofNat d) (Int32.ofNat c) 1 u ∧ ∀ i, j ≤ i → i < m → ∃ y, (zD t).pt b (l0 i) = some y) ∨ (lX12_checkCase_55 gm (fv + l + 1) (Int32.ofNat s) (Int32.ofNat d) (Int32.ofNat c) 1 (Int32.ofNat (a0 + j)) u = bX12_checkCase_111 gm (Int32.ofNat s) (Int32.ofNat d) (Int32.ofNat c) 0 u ∧ ∃ i, j ≤ i ∧ i < m ∧ (zD t).pt b (l0 i) = none) := by
  intro l
  induction l with
  | zero =>
    intro j fv hj
    refine Or.inl ⟨?_, fun i a1 a2 => by omega⟩
    show bX12_checkCase_55 gm _ _ _ _ _ _ u = _
    unfold bX12_checkCase_55
    rw [zn_rd hs (by decide), zn_rd hs (by decide), h19, h20, zn_add, if_pos ((zn_le (by omega) (by omega)).mpr (by omega))]
  | succ l ih =>
    intro j fv hj
    have hj1 : j < m := by omega
    obtain ⟨v, w, q1, q2, q3, q4⟩ := hl j hj1
    have st : lX12_checkCase_55 gm (fv + (l + 1) + 1) (Int32.ofNat s) (Int32.ofNat d) (Int32.ofNat c) 1 (Int32.ofNat (a0 + j)) u = zbd (mX12_byLabel (Int32.ofNat (zF f b)) (Int32.ofNat w) u) fun r4115 t4116 => if r4115 < 0 then lX12_checkCase_55 gm (fv + l + 1) (Int32.ofNat s) (Int32.ofNat d) (Int32.ofNat c) 0 (Int32.ofNat (a0 + (j + 1))) t4116 else lX12_checkCase_55 gm (fv + l + 1) (Int32.ofNat s) (Int32.ofNat d) (Int32.ofNat c) 1 (Int32.ofNat (a0 + (j + 1))) t4116 := by
      show bX12_checkCase_55 gm (lX12_checkCase_55 gm (fv + l + 1)) _ _ _ _ _ u = _
      unfold bX12_checkCase_55 bX12_checkCase_103
      rw [zn_rd hs (by decide), zn_rd hs (by decide), h19, h20, zn_add, if_neg (fun w => by have := (zn_le (by omega) (by omega)).mp w; omega), if_neg pl_10, pl_channel hd hc, pl_bd, zn_rd (by omega) (by decide), h42, q3]
      simp only [pl_let, zn_1]
      rfl
    rw [st]
    rcases pl_byLabelM hg hv (Or.inr hkb) q1 q4 with ⟨b3, b4⟩ | ⟨y, b0', b3, b4⟩
    · rw [b3, pl_bd, if_pos (by decide)]
      refine Or.inr ⟨?_, j, Nat.le_refl _, hj1, by rw [q2]; exact b4⟩
      show bX12_checkCase_55 gm _ _ _ _ _ _ u = _
      unfold bX12_checkCase_55
      rw [zn_rd hs (by decide), zn_rd hs (by decide), h19, h20, zn_add]
      by_cases c : Int32.ofNat (a0 + m) ≤ Int32.ofNat (a0 + (j + 1))
      · rw [if_pos c]
      · rw [if_neg c, if_pos rfl]
    · have lF := (zF_lt hg b0'.1).1
      rw [b3, pl_bd, if_neg (zn_neg (by omega))]
      rcases ih (j + 1) fv (by omega) with ⟨d1, d2⟩ | ⟨d1, i, d2, d3, d4⟩
      · refine Or.inl ⟨d1, fun i a1 a2 => ?_⟩
        by_cases ei : i = j
        · rw [ei, q2]; exact ⟨_, b4⟩
        · exact d2 i (by omega) a2
      · exact Or.inr ⟨d1, i, by omega, d3, d4⟩
/-- what case asks of its CHANNEL -/
theorem zCasG {gm : GgX12_checkBlock} {G : zTxt} {f : Nat → Nat} {N M P A T Q Pa bb S F C R W V n q d s c m a0 : Nat} {e : Nat → Nat} {o : Nat → Nat × Nat} {w : Nat → Nat} {t u : zS} (hx : zCx G f N M P A T Q Pa bb S F C R W V o w t u) (hc : zCk f N n d q t u) (hs : s < S) (h91 : t 91 s = Int32.ofNat c) (h16 : u 16 s = Int32.ofNat c) (hcn : c < n) (hm : 0 < m) (hl : zLk (t 115) W m (t 105 s) e) (h19 : u 19 s = Int32.ofNat a0) (h20 : u 20 s = Int32.ofNat m) (ham : a0 + m ≤ V) (hnm : ∀ j, j < m → zNm (zBk G) (t 109 (e j)) (u 23 (a0 + j))) :
    (mX1_isGoodCase (Int32.ofNat s) t = some (0, t) ∧ mX12_checkCase gm (Int32.ofNat s) (Int32.ofNat d) u = some (0, zu u 0 67 (t 89 s))) ∨
    (mX1_isGoodCase (Int32.ofNat s) t = some (1, t) ∧ mX12_checkCase gm (Int32.ofNat s) (Int32.ofNat d) u = bX12_checkCase_111 gm (Int32.ofNat s) (Int32.ofNat d) (Int32.ofNat c) 1 u ∧ ∃ a b, zV N t a ∧ zV N t b ∧ zEq (zD t) a b ∧ t 58 c = Int32.ofNat a ∧ u 42 (1500 * d + c) = Int32.ofNat (zF f b) ∧ (zD t).kd a = 9 ∧ (zD t).kd b = 9 ∧ t 13 (a / 2) = Int32.ofNat m ∧ ∀ j, j < m → ∃ y y', (zD t).pt a (t 109 (e j)) = some y ∧ (zD t).pt b (t 109 (e j)) = some y' ∧ zEq (zD t) y y') := by
  have hg := hx.1
  have hS := (zTre_x hx).1
  obtain ⟨k1, k2, k3, k4, k5, k6, k7, k8⟩ := hc
  have hP := hx.2.2.2.1
  obtain ⟨⟨⟨p1, p2⟩, _⟩, _, _, _⟩ := hP.2.2.2.2.2.2.2.2.2.2.2.2.2.2.2 s hs
  have hW := hx.2.2.2.2.2.2.2.2.2.2.1
  have hV := hx.2.2.2.2.2.2.2.2.2.2.2.1
  have hs16 : s < 1600 := by omega
  have hr := k8 c hcn
  have m0 : zFU - m - 1 + m + 1 = zFU := by unfold zFU; omega
  have bad0 : bX12_checkCase_111 gm (Int32.ofNat s) (Int32.ofNat d) (Int32.ofNat c) 0 u = some (0, zu u 0 67 (t 89 s)) := by
    unfold bX12_checkCase_111
    rw [if_pos rfl, zn_rd hs16 (by decide), pl_isBad k3, pl_bd, p1]
  have e44 : bX12_checkCase_44 gm (Int32.ofNat s) (Int32.ofNat d) (Int32.ofNat c) u = some (0, zu u 0 67 (t 89 s)) := by
    unfold bX12_checkCase_44 bX12_checkCase_45
    rw [zn_rd hs16 (by decide), h19]
    show bX12_checkCase_55 gm (lX12_checkCase_55 gm (zFU - 1)) _ _ _ _ _ u = _
    unfold bX12_checkCase_55
    rw [zn_rd hs16 (by decide), zn_rd hs16 (by decide), bad0]
    by_cases cc : u 19 s + u 20 s ≤ Int32.ofNat a0
    · rw [if_pos cc]
    · rw [if_neg cc, if_pos rfl]
  have eC : mX1_isGoodCase (Int32.ofNat s) t = if zKs t (t 58 c) = 9 then lX1_isGoodCase_52 zFU (t 58 c) 0 (t 105 s) 0 t else some (0, t) := by
    unfold mX1_isGoodCase
    rw [show mX5_get 90 1000 (Int32.ofNat s) t = some (t 91 s, t) from zn_get (by omega) (by decide), pl_bd, h91, show mX5_get 57 80000 (Int32.ofNat c) t = some (t 58 c, t) from zn_get (by omega) (by decide), pl_bd, pl_kindS hg hr, pl_bd, show mX5_get 104 1000 (Int32.ofNat s) t = some (t 105 s, t) from zn_get (by omega) (by decide), pl_bd]
  have eM : mX12_checkCase gm (Int32.ofNat s) (Int32.ofNat d) u = if zKs t (t 58 c) = 9 then zrd u 8 3100 (u 42 (1500 * d + c) / 2) fun v4128 => if v4128 = Int32.ofNat m then bX12_checkCase_45 gm (Int32.ofNat s) (Int32.ofNat d) (Int32.ofNat c) 1 u else some (0, zu u 0 67 (t 89 s)) else some (0, zu u 0 67 (t 89 s)) := by
    unfold mX12_checkCase
    rw [zn_rd hs16 (by decide), h16, pl_isOne hg (by omega) (by omega) hr (Or.inr (Or.inr (Or.inr (Or.inr (Or.inr rfl))))), pl_bd]
    by_cases cc : zKs t (t 58 c) = 9
    · rw [if_pos cc, if_pos (show zKs t (t 58 c) = 8 + 1 from cc), if_neg pl_10, pl_channel (by omega) (by omega), pl_bd, e44]
      congr 1
      funext v
      rw [zn_rd hs16 (by decide), h20]
    · rw [if_neg cc, if_neg (show ¬ zKs t (t 58 c) = 8 + 1 from cc), if_pos rfl, e44]
  rw [eC, eM]
  by_cases cc : zKs t (t 58 c) = 9
  · rw [if_pos cc, if_pos cc]
    obtain ⟨a, b, v1, v2, v4, v5, v6, ka, kb⟩ := zKs_at hg hr cc (by decide)
    obtain ⟨na, _, _, _, l2, _, l3, _⟩ := zV_lab hg v1 (Or.inr ka)
    obtain ⟨nb, _, _, _, l2', _, l3', l4', _⟩ := zV_lab hg v2 (Or.inr kb)
    have sm := (zEq_sm v4).2.2.2 (Or.inr ka)
    have ec : na = nb := by
      have := sm.1
      rw [zD_ct, zD_ct, l3, l3'] at this
      exact (zn_inj (by omega) (by omega)).mp this
    have lF := zF_lt hg v2.1
    have h8 : zrd u 8 3100 (u 42 (1500 * d + c) / 2) (fun v4128 => if v4128 = Int32.ofNat m then bX12_checkCase_45 gm (Int32.ofNat s) (Int32.ofNat d) (Int32.ofNat c) 1 u else some (0, zu u 0 67 (t 89 s))) = if Int32.ofNat nb = Int32.ofNat m then bX12_checkCase_45 gm (Int32.ofNat s) (Int32.ofNat d) (Int32.ofNat c) 1 u else some (0, zu u 0 67 (t 89 s)) := by
      rw [v6, (zn_hlf (by omega)).1, (zF_2 f b).1, zn_rd (by omega) (by decide), l4']
    rw [h8]
    obtain ⟨r, r1, r2⟩ := zCasL hg v1 ka hW (by omega) hl l3 l2 m 0 (zFU - m - 1) (by omega)
    rw [m0, if_pos hm] at r1
    have h105 : t 105 s = Int32.ofNat (e 0) := by have := hl.1; rw [if_neg (by omega)] at this; exact this
    have r1' : lX1_isGoodCase_52 zFU (t 58 c) 0 (t 105 s) 0 t = some (r, t) := by rw [v5, h105]; exact r1
    rw [r1']
    have e45 : bX12_checkCase_45 gm (Int32.ofNat s) (Int32.ofNat d) (Int32.ofNat c) 1 u = lX12_checkCase_55 gm zFU (Int32.ofNat s) (Int32.ofNat d) (Int32.ofNat c) 1 (Int32.ofNat (a0 + 0)) u := by
      unfold bX12_checkCase_45
      rw [zn_rd hs16 (by decide), h19, Nat.add_zero]
    have M := zCasM (gm := gm) (l0 := fun j => t 109 (e j)) hg v2 kb (by omega) (by omega) hs16 v6 h19 h20 (by omega) hnm m 0 (zFU - m - 1) (by omega)
    rw [m0] at M
    rw [e45]
    rcases r2 with ⟨d1, d2, d3⟩ | ⟨d1, d2⟩
    · rw [if_pos (by rw [d3, ec]), d1]
      refine Or.inr ⟨rfl, ?_, a, b, v1, v2, v4, v5, v6, ka, kb, by rw [l3, d3], fun j hj => ?_⟩
      · rcases M with ⟨q1, _⟩ | ⟨_, i, q1, q2, q3⟩
        · exact q1
        · obtain ⟨y, hy⟩ := d2 i (by omega) q2
          have al := sm.2 (t 109 (e i))
          rw [hy, show (zD t).pt b (t 109 (e i)) = none from q3] at al
          exact al.elim
      · obtain ⟨y, hy⟩ := d2 j (by omega) hj
        have al := sm.2 (t 109 (e j))
        rw [hy] at al
        cases q : (zD t).pt b (t 109 (e j)) with
        | none => rw [q] at al; exact al.elim
        | some y' => rw [q] at al; exact ⟨y, y', hy, rfl, al⟩
    · rw [d1]
      refine Or.inl ⟨rfl, ?_⟩
      by_cases en : Int32.ofNat nb = Int32.ofNat m
      · rw [if_pos en]
        have en' := (zn_inj (by omega) (by omega)).mp en
        rcases d2 with ⟨i, i1, i2, i3⟩ | d2
        · rcases M with ⟨_, q2⟩ | ⟨q1, _⟩
          · obtain ⟨y, hy⟩ := q2 i (by omega) i2
            have al := sm.2 (t 109 (e i))
            rw [i3, show (zD t).pt b (t 109 (e i)) = some y from hy] at al
            exact al.elim
          · rw [q1, bad0]
        · exact absurd (by omega) d2
      · rw [if_neg en]
  · rw [if_neg cc, if_neg cc]
    exact Or.inl ⟨rfl, rfl⟩
