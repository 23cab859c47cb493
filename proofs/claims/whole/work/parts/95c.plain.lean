/-! CHECK: plain statements, tools -/
def zHo (D : zCo) (y : Nat) : Int32 := if D.kd y = 0 then -1 else Int32.ofNat y
def zCz (D : zCo) (y : Nat) : Int32 := if D.kd y = 0 then 1 else 0
def zur (r : Nat → Int32) (c : Nat) (v : Int32) : Nat → Int32 := fun k => if k = c then v else r k
theorem zur_zu {t : zS} {k j : Nat} {v : Int32} : zu t k j v k = zur (t k) j v := by
  funext l
  unfold zur
  by_cases e : l = j
  · rw [if_pos e, e, zu_same]
  · rw [if_neg e, zu_ne2 e]
/-- what a plain statement does to the states -/
def zSt1 (D : zCo) (N : Nat) (t : zS) (s : Nat) (r r2 : Nat → Int32) : Prop :=
  ((t 87 s = 17 ∨ t 87 s = 14) ∧ (∃ c, t 91 s = Int32.ofNat c ∧ r c = -1) ∧ r2 = r) ∨
  (t 87 s = 13 ∧ r2 = r) ∨
  (t 87 s = 2 ∧ ∃ c a, (t 91 s = Int32.ofNat c ∧ c < 3000) ∧ r c = Int32.ofNat a ∧ zV N t a ∧ D.kd a = 4 ∧ t 107 s = zCz D (D.bh a) ∧ r2 = zur r c (zHo D (D.bh a))) ∨
  (t 87 s = 3 ∧ ∃ c e a, (t 91 s = Int32.ofNat c ∧ c < 3000) ∧ (t 93 s = Int32.ofNat e ∧ e < 3000) ∧ r e = -1 ∧ r c = Int32.ofNat a ∧ zV N t a ∧ D.kd a = 5 ∧ t 107 s = zCz D (D.bh a) ∧ r2 = zur r c (zHo D (D.bh a))) ∨
  (t 87 s = 4 ∧ ∃ c e a b, (t 91 s = Int32.ofNat c ∧ c < 3000) ∧ (t 93 s = Int32.ofNat e ∧ e < 3000) ∧ ¬ c = e ∧ r e = Int32.ofNat b ∧ zV N t b ∧ r c = Int32.ofNat a ∧ zV N t a ∧ D.kd a = 6 ∧ zEq D b (D.inn a) ∧ t 107 s = zCz D (D.bh a) ∧ r2 = zur (zur r e (-1)) c (zHo D (D.bh a))) ∨
  (t 87 s = 5 ∧ ∃ c e a, (t 91 s = Int32.ofNat c ∧ c < 3000) ∧ (t 93 s = Int32.ofNat e ∧ e < 3000) ∧ r e = -1 ∧ r c = Int32.ofNat a ∧ zV N t a ∧ D.kd a = 7 ∧ t 107 s = zCz D (D.bh a) ∧ r2 = zur (zur r e (zHo D (D.inn a))) c (zHo D (D.bh a))) ∨
  (t 87 s = 6 ∧ ∃ c a y, (t 91 s = Int32.ofNat c ∧ c < 3000) ∧ r c = Int32.ofNat a ∧ zV N t a ∧ D.kd a = 8 ∧ D.pt a (t 93 s) = some y ∧ t 107 s = zCz D y ∧ r2 = zur r c (zHo D y))
/-- what stays when one statement is checked -/
def zC1 (N n d s : Nat) (t u t2 u2 : zS) : Prop := zCf t t2 ∧ zCm u u2 ∧ zKp N t2 ∧ t2 6 = t 6 ∧ u2 0 68 = u 0 68 ∧ u2 0 70 = u 0 70 ∧ (∀ k, n ≤ k → t2 58 k = t 58 k) ∧ (∀ x, ¬ x = s → t2 107 x = t 107 x) ∧ t2 113 = t 113 ∧ u2 43 = u 43 ∧ ∀ k, (k < 1500 * d ∨ 1500 * d + n ≤ k) → u2 42 k = u 42 k
theorem zC1_refl {N n d s : Nat} {t u : zS} (hk : zKp N t) : zC1 N n d s t u t u := ⟨zCf_refl t, zCm_refl u, hk, rfl, rfl, rfl, fun _ _ => rfl, fun _ _ => rfl, rfl, rfl, fun _ _ => rfl⟩
theorem zC1_trans {N n d s : Nat} {t u t1 u1 t2 u2 : zS} (h : zC1 N n d s t u t1 u1) (h2 : zC1 N n d s t1 u1 t2 u2) : zC1 N n d s t u t2 u2 := by
  obtain ⟨a1, a2, a3, a4, a5, a6, a7, a8, a9, a10, a11⟩ := h
  obtain ⟨b1, b2, b3, b4, b5, b6, b7, b8, b9, b10, b11⟩ := h2
  exact ⟨zCf_trans a1 b1, zCm_trans a2 b2, b3, b4.trans a4, b5.trans a5, b6.trans a6, fun k hk => (b7 k hk).trans (a7 k hk), fun x hx => (b8 x hx).trans (a8 x hx), b9.trans a9, b10.trans a10, fun k hk => (b11 k hk).trans (a11 k hk)⟩
theorem zC1_58 {N n d s k : Nat} {t u : zS} {v : Int32} (hK : zKp N t) (hk : k < n) : zC1 N n d s t u (zu t 58 k v) u := by
  have hf : zCf t (zu t 58 k v) := zCf_zu (Or.inl rfl)
  exact ⟨hf, zCm_refl u, zKp_of hK (zTr_f hf) (zu_row (by decide)), zu_row (by decide), rfl, rfl, fun j hj => zu_ne2 (by omega), fun x _ => zu_ne1 (by decide), zu_row (by decide), rfl, fun _ _ => rfl⟩
theorem zC1_42 {N n d s k : Nat} {t u : zS} {v : Int32} (hK : zKp N t) (hk : k < n) : zC1 N n d s t u t (zu u 42 (1500 * d + k) v) :=
  ⟨zCf_refl t, zCm_zu (Or.inl rfl), hK, rfl, zu_ne1 (by decide), zu_ne1 (by decide), fun _ _ => rfl, fun _ _ => rfl, rfl, zu_row (by decide), fun j hj => zu_ne2 (by omega)⟩
theorem zC1_107 {N n d s : Nat} {t u : zS} {v : Int32} (hK : zKp N t) (hp : ¬ (t 87 s = 17 ∨ t 87 s = 13 ∨ t 87 s = 14)) : zC1 N n d s t u (zu t 107 s v) u := by
  have hf : zCf t (zu t 107 s v) := zCf_zu (Or.inr (Or.inl ⟨rfl, hp⟩))
  exact ⟨hf, zCm_refl u, zKp_of hK (zTr_f hf) (zu_row (by decide)), zu_row (by decide), rfl, rfl, fun j hj => zu_ne1 (by decide), fun x hx => zu_ne2 hx, zu_row (by decide), rfl, fun _ _ => rfl⟩
theorem zC1_bad {N n d s : Nat} {t u : zS} {v : Int32} (hK : zKp N t) : zC1 N n d s t u t (zu u 0 67 v) :=
  ⟨zCf_refl t, zCm_zu (Or.inr (Or.inr ⟨rfl, Or.inl rfl⟩)), hK, rfl, zu_ne2 (by decide), zu_ne2 (by decide), fun _ _ => rfl, fun _ _ => rfl, rfl, zu_row (by decide), fun j hj => zu_ne1 (by decide)⟩
theorem zC1_eq {N n d s : Nat} {t u t2 u2 : zS} (hK : zKp N t2) (ht : zFc t t2) (hu : zFm2 u u2) : zC1 N n d s t u t2 u2 :=
  ⟨zCf_c ht, zCm_m hu, hK, ht.2 6 (by decide), hu.1 68 (by decide), hu.1 70 (by decide), fun k _ => by rw [ht.2 58 (by decide)], fun x _ => by rw [ht.2 107 (by decide)], ht.2 113 (by decide), hu.2 43 (by decide), fun k _ => by rw [hu.2 42 (by decide)]⟩
theorem pl_527b {g : GgX12_checkBlock} {s : Nat} {u : zS} (hs : s < 1600) (h67 : u 0 67 = -1) (h14 : ¬ u 14 s = 9) : bX12_checkOne_527 g (Int32.ofNat s) 0 u = some (0, zu u 0 67 (u 15 s)) := by
  unfold bX12_checkOne_527 mX12_isBad bX12_checkOne_542
  rw [if_pos rfl, zn_rd hs (by decide), if_neg (show ¬ 0 ≤ u 0 67 by rw [h67]; decide), pl_pt, pl_bd, zn_rd hs (by decide), zu_ne1 (by decide), if_neg h14]
theorem pl_527g {g : GgX12_checkBlock} {s : Nat} {u : zS} (hs : s < 1600) (h14 : ¬ u 14 s = 9) : bX12_checkOne_527 g (Int32.ofNat s) 1 u = some (0, u) := by
  unfold bX12_checkOne_527 bX12_checkOne_542
  rw [if_neg pl_10, zn_rd hs (by decide), if_neg h14]
theorem pl_goOnC {G : zTxt} {f : Nat → Nat} {N M P A T s c y : Nat} {t u : zS} (h : zTG G f N M P A T t u) (hb : zBg T t) (hs : s < 1000) (h91 : t 91 s = Int32.ofNat c) (hc : c < 80000) (hy : y / 2 < N) : mX1_goOn (Int32.ofNat s) (Int32.ofNat y) t = some (1, zu (zu t 58 c (zHo (zD t) (zSg2 t y))) 107 s (zCz (zD t) (zSg2 t y))) := by
  have hN := h.2.2.2.1
  have g90 : mX5_get 90 1000 (Int32.ofNat s) t = some (Int32.ofNat c, t) := by rw [← h91]; exact zn_get hs (by decide)
  unfold mX1_goOn
  rw [if_pos (zn_0le (by omega)), g90, pl_bd, pl_hold h hb hc hy, pl_bd, zn_set hs (by decide), pl_bd]
  rfl
/-- the class's look at a plain statement -/
theorem pl_gp {s : Nat} {t : zS} {x2 st kd oth b : Int32} (hs : s < 1000) (h1 : mX5_get 57 80000 (t 91 s) t = some (st, t)) (h2 : mX2_kindOf st t = some (kd, t)) (h3 : mX5_get 57 80000 (t 93 s) t = some (oth, t)) (h4 : mX3_isWithout (t 95 s) (t 97 s) t = some (b, t)) : mX1_isGoodPlain (Int32.ofNat s) x2 t = if x2 = 2 then if kd = 4 then if b = 0 then some (0, t) else zbd (mX2_behindOf st t) fun r1398 t1399 => zbd (mX1_goOn (Int32.ofNat s) r1398 t1399) fun r1401 t1402 => if r1401 = 0 then some (0, t1402) else some (1, t1402) else some (0, t) else if x2 = 3 then if kd = 5 then if 0 ≤ oth then some (0, t) else zbd (mX2_behindOf st t) fun r1405 t1406 => zbd (mX1_goOn (Int32.ofNat s) r1405 t1406) fun r1408 t1409 => if r1408 = 0 then some (0, t1409) else some (1, t1409) else some (0, t) else if x2 = 4 then if kd = 6 then if t 91 s = t 93 s then some (0, t) else if oth < 0 then some (0, t) else zbd (mX2_insideOf st t) fun r1412 t1413 => zbd (mX2_equal oth r1412 t1413) fun r1415 t1416 => if r1415 = 0 then some (0, t1416) else zbd (mX5_set 57 80000 (t 93 s) (-1) t1416) fun r1418 t1419 => zbd (mX2_behindOf st t1419) fun r1421 t1422 => zbd (mX1_goOn (Int32.ofNat s) r1421 t1422) fun r1424 t1425 => z01 r1424 (some (r1424, t1425)) else some (0, t) else if x2 = 5 then if kd = 7 then if oth < 0 then zbd (mX2_insideOf st t) fun r1429 t1430 => zbd (mX1_hold (t 93 s) r1429 t1430) fun r1432 t1433 => zbd (mX2_behindOf st t1433) fun r1435 t1436 => zbd (mX1_goOn (Int32.ofNat s) r1435 t1436) fun r1438 t1439 => z01 r1438 (some (r1438, t1439)) else some (0, t) else some (0, t) else if x2 = 6 then if kd = 8 then zbd (mX2_byLabel st (t 93 s) t) fun r1443 t1444 => zbd (mX1_goOn (Int32.ofNat s) r1443 t1444) fun r1446 t1447 => if r1446 = 0 then some (0, t1447) else some (1, t1447) else some (0, t) else if 0 ≤ st then some (0, t) else if b = 0 then some (0, t) else some (1, t) := by
  have g90 : mX5_get 90 1000 (Int32.ofNat s) t = some (t 91 s, t) := zn_get hs (by decide)
  have g92 : mX5_get 92 1000 (Int32.ofNat s) t = some (t 93 s, t) := zn_get hs (by decide)
  have g94 : mX5_get 94 1000 (Int32.ofNat s) t = some (t 95 s, t) := zn_get hs (by decide)
  have g96 : mX5_get 96 1000 (Int32.ofNat s) t = some (t 97 s, t) := zn_get hs (by decide)
  unfold mX1_isGoodPlain
  rw [g90, pl_bd, g92, pl_bd, h1, pl_bd, h2, pl_bd, h3, pl_bd, g94, pl_bd, g96, pl_bd, h4, pl_bd]
