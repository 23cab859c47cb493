/-! CHECK: case, the loop over its BLOCKS -/
/-- behind the last BLOCK of case -/
def zCEnd (w : Nat → Nat) (f : Nat → Nat) (N Q S n d kp s c a m : Nat) (e : Nat → Nat) (t u g : zS) (b : Int32) (t2 u2 : zS) : Prop := ∃ t3 u3 uF g3 X, ∃ ρ : Nat → Int32, zBI w N Q S n d kp s t u g t3 u3 g3 (fun x => ∃ i, i < m ∧ zRb S t (t 111 (e i)) x) ∧ t2 = zmv t3 58 X 58 0 n ∧ u2 = zu uF 0 70 (Int32.ofNat kp) ∧ zFrC w n d kp (fun _ => False) t3 u3 g3 t3 uF g3 ∧ (∀ k, k < n → zRs (zD t) N t f (t3 58 (X + k)) (uF 42 (1500 * d + k))) ∧ (b = 0 ∨ b = 1) ∧ (b = 1 ∨ ∀ k, k < n → t3 58 (X + k) = ρ k) ∧ ∀ i, i < m → ∃ y, (zD t).pt a (t 109 (e i)) = some y ∧ t3 113 (e i) = zCz (zD t) y ∧ zBr (zD t) N n t (zGn g3 s (t 58) ρ b) s (t 111 (e i)) (zur (t 58) c (zHo (zD t) y))
theorem zCasE {gc : GgX1_checkBlock} {gm : GgX12_checkBlock} {G : zTxt} {f : Nat → Nat} {N M P A T Q Pa bb S F C R W V n q d kp s c a a0 m : Nat} {e : Nat → Nat} {o : Nat → Nat × Nat} {w : Nat → Nat} {t u g t1 u1 g1 : zS} {x6 x7 x9 : Int32} {ρ : Nat → Int32} (hx : zCx G f N M P A T Q Pa bb S F C R W V o w t u) (hc : zCk f N n d q t u) (hkp : kp ≤ n * d) (hs : s < S) (hq : q < Q) (hA : n * (3 + 2 * d) ≤ 80000) (hd : d ≤ 38) (h19 : u 19 s = Int32.ofNat a0) (h20 : u 20 s = Int32.ofNat m) (ham : a0 + m ≤ 1500) (h6 : x6 = 0 ∨ x6 = 1) (h7 : x7 = 0 ∨ x7 = 1) (hI : zBI w N Q S n d kp s t u g t1 u1 g1 (fun x => ∃ i, i < m ∧ zRb S t (t 111 (e i)) x)) (hρ : x6 = 0 → ∀ k, k < n → t1 58 (n * (1 + 2 * d) + n + k) = ρ k ∧ zRs (zD t) N t f (ρ k) (u1 43 (kp + k))) (hn : x7 = 1 → ∀ i, i < m → ∃ y, (zD t).pt a (t 109 (e i)) = some y ∧ t1 113 (e i) = zCz (zD t) y ∧ zBr (zD t) N n t (zGn g1 s (t 58) ρ x6) s (t 111 (e i)) (zur (t 58) c (zHo (zD t) y))) (fu fv : Nat) :
    ∃ t2 u2, lX1_checkBranches_57 gc (fu + 1) (Int32.ofNat s) (Int32.ofNat d) 1 (Int32.ofNat (n * (1 + 2 * d))) (Int32.ofNat (n * (1 + 2 * d) + n)) x6 x7 (-1) x9 t1 = some (x6, t2) ∧ lX12_checkCase_148 gm (fv + 1) (Int32.ofNat s) (Int32.ofNat d) (Int32.ofNat c) (Int32.ofNat kp) (if x6 = 0 then 1 else 0) x7 (Int32.ofNat (a0 + m)) u1 = some (x6, u2) ∧ (zBadC t u x6 t2 u2 ∨ zCEnd w f N Q S n d kp s c a m e t u g x6 t2 u2) := by
  have hS := (zTre_x hx).1
  have hs1 : s < 1000 := by omega
  obtain ⟨v1, v2, v3, v4⟩ := zlv n d
  have own := zCk_ownV hx hc hq
  obtain ⟨k1, k2, k3, k4, k5, k6, k7, k8⟩ := hc
  have hP := hx.2.2.2.1
  obtain ⟨⟨⟨p1, p2⟩, _⟩, _, _, _⟩ := hP.2.2.2.2.2.2.2.2.2.2.2.2.2.2.2 s hs
  have t6 : t1 6 = t 6 := hI.1.2.2.1
  have u67 : u1 0 67 = -1 := hI.1.2.2.2.1
  have f1 : zCf t t1 := hI.1.1
  have m1 : zCm u u1 := hI.1.2.1
  have own1 : ∀ v : zS, v 31 = u1 31 → v 0 68 = u1 0 68 → mX12_ownMany (v 0 68) v = some (Int32.ofNat n, v) := fun v e1 e2 => own v (by rw [e1, m1.2 31 (by decide)]) (by rw [e2, hI.1.2.2.2.2.1])
  obtain ⟨uF, euF⟩ : ∃ uF : zS → zS, uF = fun v => if x6 = 0 then zmv v 43 kp 42 (1500 * d) n else v := ⟨_, rfl⟩
  have e294 : ∀ v : zS, v 31 = u1 31 → v 0 68 = u1 0 68 → bX12_checkCase_294 gm (Int32.ofNat d) (Int32.ofNat kp) (if x6 = 0 then 1 else 0) v = some (x6, zu (uF v) 0 70 (Int32.ofNat kp)) := fun v a1 a2 => by
    unfold bX12_checkCase_294 bX12_checkCase_306
    rw [euF]
    rcases h6 with c6 | c6
    · rw [c6, if_pos (rfl : (0 : Int32) = 0), if_neg pl_10, pl_backAll (by omega) (by omega) (by omega) (fun v' b1 b2 => own1 v' (by rw [b1, a1]) (by rw [b2, a2])), pl_bd, pl_pt, if_neg pl_10]
      show _ = some (0, zu (if (0 : Int32) = 0 then _ else _) 0 70 _)
      rw [if_pos rfl]
    · rw [c6, if_neg pl_10, if_pos rfl, pl_pt, if_pos rfl]
      show _ = some (1, zu (if (1 : Int32) = 0 then _ else _) 0 70 _)
      rw [if_neg pl_10]
  have e148 : lX12_checkCase_148 gm (fv + 1) (Int32.ofNat s) (Int32.ofNat d) (Int32.ofNat c) (Int32.ofNat kp) (if x6 = 0 then 1 else 0) x7 (Int32.ofNat (a0 + m)) u1 = if x7 = 0 then some (x6, zu (uF (zu u1 0 67 (t 89 s))) 0 70 (Int32.ofNat kp)) else some (x6, zu (uF u1) 0 70 (Int32.ofNat kp)) := by
    show bX12_checkCase_148 gm _ _ _ _ _ _ _ _ u1 = _
    unfold bX12_checkCase_148
    rw [zn_rd (by omega) (by decide), zn_rd (by omega) (by decide), m1.2 19 (by decide), m1.2 20 (by decide), h19, h20, zn_add, if_pos ((zn_le (by omega) (by omega)).mpr (Nat.le_refl _)), zn_rd (by omega) (by decide), pl_isBad u67, pl_bd, m1.2 15 (by decide), ← p1, e294 _ (zu_row (by decide)) (zu_ne2 (by decide)), e294 _ rfl rfl]
  have uFm : ∀ v : zS, zCm v (uF v) := fun v => by
    rw [euF]
    rcases h6 with c6 | c6
    · show zCm v (if x6 = 0 then _ else _)
      rw [if_pos c6]; exact zCm_mv (Or.inl rfl)
    · show zCm v (if x6 = 0 then _ else _)
      rw [if_neg (by rw [c6]; decide)]; exact zCm_refl _
  have uF0 : ∀ v : zS, uF v 0 = v 0 := fun v => by
    rw [euF]
    show (if x6 = 0 then _ else _ : zS) 0 = _
    by_cases c6 : x6 = 0
    · rw [if_pos c6, zmv_row (by decide)]
    · rw [if_neg c6]
  rw [e148, pl_257 hs1 (by rw [t6]; exact k1) (by omega) (by omega) h6]
  rcases h7 with c7 | c7
  · rw [if_pos c7, if_pos c7]
    refine ⟨_, _, rfl, rfl, Or.inl ⟨zCf_trans f1 (zCf_trans (zCf_zu (Or.inr (Or.inr (Or.inr ⟨rfl, Or.inr rfl⟩)))) zCf_mv), zCm_trans m1 (zCm_trans (zCm_zu (Or.inr (Or.inr ⟨rfl, Or.inl rfl⟩))) (zCm_trans (uFm _) (zCm_zu (Or.inr (Or.inr ⟨rfl, Or.inr (Or.inr rfl)⟩))))), h6, t 89 s, p2, ?_, ?_, ?_⟩⟩
    · rw [zmv_row (by decide), zu_same, f1.2.2 89 (by decide)]
    · rw [zu_ne2 (by decide), uF0, zu_same]
    · rw [zmv_row (by decide), zu_ne2 (by decide), t6]
  · rw [if_neg (show ¬ x7 = 0 by rw [c7]; decide), if_neg (show ¬ x7 = 0 by rw [c7]; decide)]
    refine ⟨_, _, rfl, rfl, Or.inr ⟨t1, u1, uF u1, g1, _, ρ, hI, rfl, rfl, ?_, fun k hk => ?_, h6, ?_, hn c7⟩⟩
    · rw [euF]
      show zFrC _ _ _ _ _ _ _ _ _ (if x6 = 0 then _ else _) _
      by_cases c6 : x6 = 0
      · rw [if_pos c6]; exact zFrC_mvM u67 (Or.inl ⟨rfl, Nat.le_refl _⟩)
      · rw [if_neg c6]; exact zFrC_c u67 (zFc_refl _) (zFm2_refl _)
    · rw [euF]
      show zRs _ _ _ _ _ ((if x6 = 0 then _ else _ : zS) 42 _)
      by_cases c6 : x6 = 0
      · rw [if_pos c6, if_pos c6, zmv_in hk, (hρ c6 k hk).1]
        exact (hρ c6 k hk).2
      · rw [if_neg c6, if_neg c6, hI.2.2.1 k hk, hI.2.2.2.1 k hk]
        exact k8 k hk
    · rcases h6 with c6 | c6
      · exact Or.inr fun k hk => by rw [if_pos c6]; exact (hρ c6 k hk).1
      · exact Or.inl c6
