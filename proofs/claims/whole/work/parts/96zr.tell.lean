/-! ARGUMENTS are told on both sides -/
def zFt (t t2 : zS) : Prop := ∀ k, ¬ (k = 51 ∨ k = 62 ∨ k = 85) → t2 k = t k
def zFtM (u u2 : zS) : Prop := (∀ k, ¬ (k = 0 ∨ k = 58 ∨ k = 59 ∨ k = 60) → u2 k = u k) ∧ ∀ j, ¬ j = 107 → u2 0 j = u 0 j
/-- the reference behind all ARGUMENTS -/
def zCX (x1 x2 x3 x4 x5 x6 x7 : Int32) (t : zS) : zR := if x4 = 0 then bX12_calls_216 x1 x2 x3 x4 x5 x6 (-1) t else zrd t 34 3000 x7 fun v4549 => zbd (mX12_plain (2 * v4549) t) fun r4551 t4552 => bX12_calls_216 x1 x2 x3 x4 x5 x6 r4551 t4552
theorem zTell {n : Nat → Nat} {m mr p q y x a p0 b0 sk Fm Cm : Nat} {R pq : Nat → Nat} {fr fd : Nat} {fp : Nat → Nat} {sp ac : Nat → Int32} {num H t0 u0 tS uS : zS} {x4 x5 : Int32} (hA : zAC n mr R pq fr fd fp sp ac num H tS) (hR : zAR n mr R pq fr fd fp sp ac num H uS) (hp : zIn mr R p) (hp2 : p < 2501) (hy : y < 1000) (hx : x < 300) (hF : Fm ≤ 3000) (hC : Cm ≤ 8000) (hq : t0 39 q = Int32.ofNat (n (pq p))) (hn : n (pq p) ≤ 1100)
    (ht : ∀ k, (k = 35 ∨ k = 45 ∨ (75 ≤ k ∧ k ≤ 83) ∨ k = 97) → tS k = t0 k) (hu : ∀ k, (k = 25 ∨ k = 26 ∨ k = 27 ∨ k = 34) → uS k = u0 k) (h97 : t0 97 y = Int32.ofNat (a + m)) (h19 : uS 19 y = Int32.ofNat a) (h20 : uS 20 y = Int32.ofNat m) (ham : a + m ≤ 1500) (h35 : t0 35 x = Int32.ofNat p0) (hpk : p0 + (sk + m) ≤ 1500) (hbk : b0 + (sk + m) ≤ 3000) (hsm : sk + m ≤ 1500)
    (hpm : ∀ i, i < m → (t0 45 (p0 + (sk + i)) = -1 ∧ u0 34 (b0 + (sk + i)) = -1) ∨ (0 ≤ t0 45 (p0 + (sk + i)) ∧ 0 ≤ u0 34 (b0 + (sk + i)) ∧ t0 83 (a + i) = Int32.ofNat (zJa t0 a i) ∧ zJa t0 a i < 3000)) (harg : ∀ k, a ≤ k → k < a + m → zArg t0 u0 q Fm Cm k) :
    ∀ (d i fu fv : Nat) (t u : zS), i + d = m → zFt tS t → zFtM uS u → (∀ i', i' < i → (0 ≤ t0 45 (p0 + (sk + i')) → t 62 (sk + i') = H p (zJa t0 a i') ∧ u 60 i' = H p (zJa t0 a i') ∧ u 59 i' = 0) ∧ (¬ 0 ≤ t0 45 (p0 + (sk + i')) → t 62 (sk + i') = u 59 i' ∧ u 60 i' = -1)) →
      ∃ t2 u2, zFt tS t2 ∧ zFtM uS u2 ∧ ((lX4_tellAll_17 (fu + d + 1) (Int32.ofNat p) (Int32.ofNat y) (Int32.ofNat x) (Int32.ofNat sk) (Int32.ofNat a) (Int32.ofNat (a + i)) t = some (1, t2) ∧ lX12_calls_73 (fv + d + 1) (Int32.ofNat p) (Int32.ofNat y) (Int32.ofNat x) x4 x5 (Int32.ofNat sk) (Int32.ofNat b0) (Int32.ofNat i) u = zCX (Int32.ofNat p) (Int32.ofNat y) (Int32.ofNat x) x4 x5 (Int32.ofNat sk) (Int32.ofNat b0) u2 ∧ ∀ i', i' < m → (0 ≤ t0 45 (p0 + (sk + i')) → t2 62 (sk + i') = H p (zJa t0 a i') ∧ u2 60 i' = H p (zJa t0 a i') ∧ u2 59 i' = 0) ∧ (¬ 0 ≤ t0 45 (p0 + (sk + i')) → t2 62 (sk + i') = u2 59 i' ∧ u2 60 i' = -1)) ∨
        (lX4_tellAll_17 (fu + d + 1) (Int32.ofNat p) (Int32.ofNat y) (Int32.ofNat x) (Int32.ofNat sk) (Int32.ofNat a) (Int32.ofNat (a + i)) t = some (0, zu t2 7 16 3) ∧ lX12_calls_73 (fv + d + 1) (Int32.ofNat p) (Int32.ofNat y) (Int32.ofNat x) x4 x5 (Int32.ofNat sk) (Int32.ofNat b0) (Int32.ofNat i) u = some (0, zu u2 0 72 3))) := by
  intro d
  induction d with
  | zero =>
    intro i fu fv t u hi f1 f2 told
    have : i = m := by omega
    subst this
    refine ⟨t, u, f1, f2, Or.inl ⟨?_, ?_, told⟩⟩
    · show bX4_tellAll_17 _ _ _ _ _ _ _ t = _
      unfold bX4_tellAll_17
      rw [zn_get hy (by decide), pl_bd, f1 97 (by decide), ht 97 (by decide), h97, if_pos (Int32.le_refl _)]
    · show bX12_calls_73 _ _ _ _ _ _ _ _ _ u = _
      unfold bX12_calls_73
      rw [zn_rd (by omega) (by decide), f2.1 20 (by decide), h20, if_pos (Int32.le_refl _)]
      rfl
  | succ d ih =>
    intro i fu fv t u hi f1 f2 told
    have him : i < m := by omega
    have h1 : zAC n mr R pq fr fd fp sp ac num H t := zAC_of hA (f1 60 (by decide)) (fun k k1 k2 => f1 k (by omega))
    have h2 : zAR n mr R pq fr fd fp sp ac num H u := zAR_of hR (fun j hj => f2.2 j (by omega)) (fun k k1 k2 => f2.1 k (by omega))
    obtain ⟨bM, e1, e2, e3, _⟩ := zAR_at h2 hp
    have fm : mX6_form (Int32.ofNat x) (Int32.ofNat (sk + i)) t = some (t0 45 (p0 + (sk + i)), t) := by
      rw [pl_form (by omega) (by rw [f1 35 (by decide), ht 35 (by decide)]; exact h35) (by omega), f1 45 (by decide), ht 45 (by decide)]
    have stC : lX4_tellAll_17 (fu + (d + 1) + 1) (Int32.ofNat p) (Int32.ofNat y) (Int32.ofNat x) (Int32.ofNat sk) (Int32.ofNat a) (Int32.ofNat (a + i)) t = if t0 45 (p0 + (sk + i)) < 0 then zbd (mX4_work (Int32.ofNat p) (t0 79 (a + i)) (t0 81 (a + i)) t) fun r2071 t2072 => if r2071 = 0 then some (0, t2072) else zbd (mX5_set 61 1600 (Int32.ofNat (sk + i)) (t2072 51 8) t2072) fun r2074 t2075 => lX4_tellAll_17 (fu + d + 1) (Int32.ofNat p) (Int32.ofNat y) (Int32.ofNat x) (Int32.ofNat sk) (Int32.ofNat a) (Int32.ofNat (a + (i + 1))) t2075 else zbd (mX8_channel (Int32.ofNat p) (t0 83 (a + i)) t) fun r2080 t2081 => zbd (mX5_set 61 1600 (Int32.ofNat (sk + i)) r2080 t2081) fun r2083 t2084 => lX4_tellAll_17 (fu + d + 1) (Int32.ofNat p) (Int32.ofNat y) (Int32.ofNat x) (Int32.ofNat sk) (Int32.ofNat a) (Int32.ofNat (a + (i + 1))) t2084 := by
      show bX4_tellAll_17 (lX4_tellAll_17 (fu + d + 1)) _ _ _ _ _ _ t = _
      unfold bX4_tellAll_17 bX4_tellAll_141
      have sub : Int32.ofNat sk + Int32.ofNat (a + i) - Int32.ofNat a = Int32.ofNat (sk + i) := by
        rw [zn_add, zn_sub (by omega) (by omega), show sk + (a + i) - a = sk + i by omega]
      simp only [pl_let, zn_1]
      rw [zn_get hy (by decide), pl_bd, f1 97 (by decide), ht 97 (by decide), h97, if_neg (fun w => by have := (zn_le (by omega) (by omega)).mp w; omega), sub, fm, pl_bd, zn_get (show a + i < 1600 by omega) (by decide), pl_bd, zn_get (show a + i < 1600 by omega) (by decide), pl_bd, zn_get (show a + i < 1600 by omega) (by decide), pl_bd, f1 79 (by decide), ht 79 (by decide), f1 81 (by decide), ht 81 (by decide), f1 83 (by decide), ht 83 (by decide)]
      rfl
    obtain ⟨ua, ea⟩ : ∃ ua, ua = zu (zu u 60 i (-1)) 59 i 0 := ⟨_, rfl⟩
    have ra : ∀ r, ¬ (r = 59 ∨ r = 60) → ua r = u r := fun r hr => by rw [ea, zu_row (by omega), zu_row (by omega)]
    have stM : lX12_calls_73 (fv + (d + 1) + 1) (Int32.ofNat p) (Int32.ofNat y) (Int32.ofNat x) x4 x5 (Int32.ofNat sk) (Int32.ofNat b0) (Int32.ofNat i) u = if u0 34 (b0 + (sk + i)) < 0 then zbd (mX12_worth (Int32.ofNat p) (u0 25 (a + i)) ua) fun r4565 t4566 => zwr t4566 59 1600 (Int32.ofNat i) r4565 fun t4569 => if (t4569 0 107) = 0 then lX12_calls_73 (fv + d + 1) (Int32.ofNat p) (Int32.ofNat y) (Int32.ofNat x) x4 x5 (Int32.ofNat sk) (Int32.ofNat b0) (Int32.ofNat (i + 1)) t4569 else zbd (mX12_ends 3 t4569) fun r4570 t4571 => z01 r4570 (some (r4570, t4571)) else zrd ua 51 2600 (Int32.ofNat p) fun v4574 => zrd ua 26 1600 (Int32.ofNat (a + i)) fun v4576 => zrd ua 53 24000 (v4574 + v4576) fun v4578 => zwr ua 60 1600 (Int32.ofNat i) v4578 fun t4581 => lX12_calls_73 (fv + d + 1) (Int32.ofNat p) (Int32.ofNat y) (Int32.ofNat x) x4 x5 (Int32.ofNat sk) (Int32.ofNat b0) (Int32.ofNat (i + 1)) t4581 := by
      show bX12_calls_73 (lX12_calls_73 (fv + d + 1)) _ _ _ _ _ _ _ _ u = _
      unfold bX12_calls_73 bX12_calls_188
      simp only [pl_let, zn_1]
      rw [zn_rd (by omega) (by decide), f2.1 20 (by decide), h20, if_neg (fun w => by have := (zn_le (by omega) (by omega)).mp w; omega), zn_rd (by omega) (by decide), f2.1 19 (by decide), h19, zn_add, zn_wr (by omega) (by decide), zn_wr (by omega) (by decide), ← ea, zn_add, zn_add, show b0 + sk + i = b0 + (sk + i) by omega, zn_rd (by omega) (by decide), ra 34 (by decide), f2.1 34 (by decide), hu 34 (by decide), zn_rd (show a + i < 1600 by omega) (by decide), ra 25 (by decide), f2.1 25 (by decide), hu 25 (by decide)]
    have hF0 := harg (a + i) (by omega) (by omega)
    have fua : zFtM uS ua := ⟨fun k hk => by rw [ra k (by omega), f2.1 k (by omega)], fun j hj => by rw [ra 0 (by decide), f2.2 j hj]⟩
    -- one told
    have one : ∀ (v : Int32) (tb ub : zS), zFt tS tb → zFtM uS ub → (∀ j, ¬ j = sk + i → tb 62 j = t 62 j) → (∀ j, ¬ j = i → ub 59 j = u 59 j ∧ ub 60 j = u 60 j) → ((0 ≤ t0 45 (p0 + (sk + i)) → tb 62 (sk + i) = H p (zJa t0 a i) ∧ ub 60 i = H p (zJa t0 a i) ∧ ub 59 i = 0) ∧ (¬ 0 ≤ t0 45 (p0 + (sk + i)) → tb 62 (sk + i) = ub 59 i ∧ ub 60 i = -1)) → ∀ i', i' < i + 1 → (0 ≤ t0 45 (p0 + (sk + i')) → tb 62 (sk + i') = H p (zJa t0 a i') ∧ ub 60 i' = H p (zJa t0 a i') ∧ ub 59 i' = 0) ∧ (¬ 0 ≤ t0 45 (p0 + (sk + i')) → tb 62 (sk + i') = ub 59 i' ∧ ub 60 i' = -1) := fun _ tb ub _ _ g1 g2 g3 i' hi' => by
      by_cases e : i' = i
      · subst e; exact g3
      · rw [g1 _ (by omega), (g2 i' e).1, (g2 i' e).2]
        exact told i' (by omega)
    rw [stC, stM]
    rcases hpm i him with ⟨c1, c2⟩ | ⟨c1, c2, c3, c4⟩
    · rw [c1, c2, if_pos (by decide), if_pos (by decide)]
      obtain ⟨tb, ub, g1, g2, res⟩ := zExp (t0 := t0) (u0 := u0) (q := q) h1 (zAR_of h2 (u2 := ua) (fun j hj => by rw [ra 0 (by decide)]) (fun k k1 k2 => ra k (by omega))) hp hp2 (by rw [f1 75 (by decide), ht 75 (by decide)]) (by rw [f1 77 (by decide), ht 77 (by decide)]) (by rw [ra 27 (by decide), f2.1 27 (by decide), hu 27 (by decide)]) hq (by omega) hF hC hF0.1
      rcases res with ⟨m1, m2, m3⟩ | ⟨m1, ⟨v, m2⟩, m3⟩
      · rw [m1, pl_bd, if_neg pl_10, zn_set (by omega) (by decide), pl_bd, m2, pl_bd, zn_wr (by omega) (by decide), zu_ne1 (show (0 : Nat) ≠ 59 by decide), if_pos m3]
        refine ih (i + 1) fu fv _ _ (by omega) (fun k hk => by rw [zu_row (by omega), g1.1 k (by omega), f1 k hk]) ⟨fun k hk => by rw [zu_row (by omega), g2.1 k (by omega), fua.1 k hk], fun j hj => by rw [zu_ne1 (by decide), g2.2 j hj, fua.2 j hj]⟩ ?_
        refine one 0 _ _ (fun k hk => by rw [zu_row (by omega), g1.1 k (by omega), f1 k hk]) ⟨fun k hk => by rw [zu_row (by omega), g2.1 k (by omega), fua.1 k hk], fun j hj => by rw [zu_ne1 (by decide), g2.2 j hj, fua.2 j hj]⟩ (fun j hj => by rw [zu_ne2 hj, g1.1 62 (by decide)]) (fun j hj => ⟨by rw [zu_ne2 hj, g2.1 59 (by decide), ea, zu_ne2 hj, zu_ne1 (by decide)], by rw [zu_ne1 (by decide), g2.1 60 (by decide), ea, zu_ne1 (by decide), zu_ne2 hj]⟩) ⟨fun w => by rw [c1] at w; exact absurd w (by decide), fun _ => ⟨by rw [zu_same, zu_same], by rw [zu_ne1 (by decide), g2.1 60 (by decide), ea, zu_ne1 (by decide), zu_same]⟩⟩
      · rw [m1, pl_bd, if_pos rfl, m2, pl_bd, zn_wr (by omega) (by decide), zu_ne1 (show (0 : Nat) ≠ 59 by decide), if_neg (by rw [m3]; decide)]
        exact ⟨tb, zu ub 59 i v, fun k hk => by rw [g1.1 k (by omega), f1 k hk], ⟨fun k hk => by rw [zu_row (by omega), g2.1 k (by omega), fua.1 k hk], fun j hj => by rw [zu_ne1 (by decide), g2.2 j hj, fua.2 j hj]⟩, Or.inr ⟨rfl, rfl⟩⟩
    · have so : ∃ kk, kk < n (pq p) ∧ t0 83 (a + i) = Int32.ofNat kk ∧ u0 26 (a + i) = Int32.ofNat kk := by
        rcases hF0.2 with ⟨x1, _⟩ | x1
        · rw [c3] at x1
          exact absurd (show (0 : Int32) ≤ -1 by rw [← x1]; exact zn_0le (by omega)) zn_m1
        · exact zSo_k x1 hq (by omega)
      obtain ⟨kk, x1, x2, x3⟩ := so
      have ekk : kk = zJa t0 a i := by
        rw [c3] at x2
        exact ((zn_inj (by omega) (by omega)).mp x2).symm
      subst ekk
      have ch : mX8_channel (Int32.ofNat p) (Int32.ofNat (zJa t0 a i)) t = some (H p (zJa t0 a i), t) := zCh_get h1.2.2.2.2.2.2 hp hp2 x1
      rw [if_neg (fun w => by have z1 := Int32.le_iff_toInt_le.mp c1; have z2 := Int32.lt_iff_toInt_lt.mp w; omega), if_neg (fun w => by have z1 := Int32.le_iff_toInt_le.mp c2; have z2 := Int32.lt_iff_toInt_lt.mp w; omega), c3, ch, pl_bd, zn_set (by omega) (by decide), pl_bd, zn_rd (by omega) (by decide), ra 51 (by decide), e1, zn_rd (by omega) (by decide), ra 26 (by decide), f2.1 26 (by decide), hu 26 (by decide), x3, zn_add, zn_rd (by omega) (by decide), ra 53 (by decide), (e3 _ x1).2, zn_wr (by omega) (by decide)]
      refine ih (i + 1) fu fv _ _ (by omega) (fun k hk => by rw [zu_row (by omega), f1 k hk]) ⟨fun k hk => by rw [zu_row (by omega), fua.1 k hk], fun j hj => by rw [zu_ne1 (by decide), fua.2 j hj]⟩ ?_
      refine one 0 _ _ (fun k hk => by rw [zu_row (by omega), f1 k hk]) ⟨fun k hk => by rw [zu_row (by omega), fua.1 k hk], fun j hj => by rw [zu_ne1 (by decide), fua.2 j hj]⟩ (fun j hj => by rw [zu_ne2 hj]) (fun j hj => ⟨by rw [zu_ne1 (by decide), ea, zu_ne2 hj, zu_ne1 (by decide)], by rw [zu_ne2 hj, ea, zu_ne1 (by decide), zu_ne2 hj]⟩) ⟨fun _ => ⟨by rw [zu_same], by rw [zu_same], by rw [zu_ne1 (by decide), ea, zu_same]⟩, fun w => absurd c1 w⟩
