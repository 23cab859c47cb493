/-! CHECK: plain statements in lockstep -/
theorem pl_getm {c n : Nat} {t : zS} : mX5_get c n (-1) t = some (-1, t) := by
  unfold mX5_get
  rfl
theorem zSo_n {t : zS} {q n : Nat} {x y : Int32} (h : zSo t q x y) (h39 : t 39 q = Int32.ofNat n) (hn : n ≤ 1100) : ∃ k, k < n ∧ x = Int32.ofNat k ∧ y = Int32.ofNat k := by
  obtain ⟨k, m, a1, a2, a3, a4, a5⟩ := h
  rw [h39] at a3
  have := (zn_inj (by omega) (by omega)).mp a3
  exact ⟨k, by omega, a1, a2⟩
theorem zRw_of {f : Nat → Nat} {N n d : Nat} {t u t2 u2 : zS} (h : zRw f N n d t u) (tr : zTr t t2) (h58 : ∀ k, k < n → t2 58 k = t 58 k) (h42 : ∀ k, k < n → u2 42 (1500 * d + k) = u 42 (1500 * d + k)) : zRw f N n d t2 u2 := by
  intro k hk
  rw [h58 k hk, h42 k hk, zD_of tr]
  rcases h k hk with q | ⟨a, b, v1, v2, v3⟩
  · exact Or.inl q
  · exact Or.inr ⟨a, b, (zV_of tr _).mpr v1, (zV_of tr _).mpr v2, v3⟩
/-- a slot goes on -/
theorem zGc {G : zTxt} {f : Nat → Nat} {N M P A T Q Pa bb S F C R W V n d q s c y1 y2 : Nat} {o : Nat → Nat × Nat} {w : Nat → Nat} {t u : zS} (hx : zCx G f N M P A T Q Pa bb S F C R W V o w t u) (hk : zCk f N n d q t u) (hc : c < n) (v1 : zV N t y1) (v2 : zV N t y2) (he : zEq (zD t) y1 y2) (hp : ¬ (t 87 s = 17 ∨ t 87 s = 13 ∨ t 87 s = 14)) : zC1 N n d s t u (zu (zu t 58 c (zHo (zD t) y1)) 107 s (zCz (zD t) y1)) (zu u 42 (1500 * d + c) (if (zD t).kd y2 = 0 then -1 else Int32.ofNat (zF f y2))) ∧ zRw f N n d (zu (zu t 58 c (zHo (zD t) y1)) 107 s (zCz (zD t) y1)) (zu u 42 (1500 * d + c) (if (zD t).kd y2 = 0 then -1 else Int32.ofNat (zF f y2))) ∧ zu (zu t 58 c (zHo (zD t) y1)) 107 s (zCz (zD t) y1) 58 = zur (t 58) c (zHo (zD t) y1) ∧ zu (zu t 58 c (zHo (zD t) y1)) 107 s (zCz (zD t) y1) 107 s = zCz (zD t) y1 := by
  have k1 := hx.2.2.1
  have a1 : zC1 N n d s t u (zu t 58 c (zHo (zD t) y1)) u := zC1_58 k1 hc
  have a2 : zC1 N n d s (zu t 58 c (zHo (zD t) y1)) u (zu (zu t 58 c (zHo (zD t) y1)) 107 s (zCz (zD t) y1)) u := zC1_107 a1.2.2.1 (by rw [zu_ne1 (by decide)]; exact hp)
  have a3 : zC1 N n d s (zu (zu t 58 c (zHo (zD t) y1)) 107 s (zCz (zD t) y1)) u (zu (zu t 58 c (zHo (zD t) y1)) 107 s (zCz (zD t) y1)) (zu u 42 (1500 * d + c) (if (zD t).kd y2 = 0 then -1 else Int32.ofNat (zF f y2))) := zC1_42 a2.2.2.1 hc
  refine ⟨zC1_trans a1 (zC1_trans a2 a3), ?_, ?_, zu_same _ _ _ _⟩
  · have := zRw_set (k := c) hk.2.2.2.2.2.2.2 (zRs_new (f := f) v1 v2 he)
    exact zRw_of this (zTr_f a2.1) (fun k _ => zu_ne1 (by decide)) (fun _ _ => rfl)
  · rw [zu_row (by decide), zur_zu]
/-- both say that it is bad, or both go on -/
def zP1 (f : Nat → Nat) (N n d s : Nat) (t u : zS) (b : Int32) (t2 u2 : zS) : Prop := zC1 N n d s t u t2 u2 ∧ ((b = 0 ∧ u2 0 67 = t 89 s) ∨ (b = 1 ∧ u2 0 67 = -1 ∧ zRw f N n d t2 u2 ∧ zSt1 (zD t) N t2 s (t 58) (t2 58)))
theorem zP1_bad {f : Nat → Nat} {N n d s : Nat} {t u t2 u2 : zS} (h : zC1 N n d s t u t2 u2) (h89 : t 89 s = u 15 s) (hu : u2 15 = u 15) : zP1 f N n d s t u 0 t2 (zu u2 0 67 (u2 15 s)) := ⟨zC1_trans h (zC1_bad h.2.2.1), Or.inl ⟨rfl, by rw [zu_same, hu, h89]⟩⟩
theorem zPlain1 {G : zTxt} {f : Nat → Nat} {N M P A T Q Pa bb S F C R W V n d q s : Nat} {o : Nat → Nat × Nat} {w : Nat → Nat} {t u : zS} (g : GgX12_checkBlock) (hx : zCx G f N M P A T Q Pa bb S F C R W V o w t u) (hk : zCk f N n d q t u) (hs : s < S) (hq : (o s).2 = q) (hkd : t 87 s = 17 ∨ t 87 s = 13 ∨ t 87 s = 14 ∨ t 87 s = 2) : ∃ b t2 u2, mX1_isGoodPlain (Int32.ofNat s) (t 87 s) t = some (b, t2) ∧ mX12_checkOne g (Int32.ofNat s) (Int32.ofNat d) u = some (0, u2) ∧ zP1 f N n d s t u b t2 u2 := by
  have hx0 := hx
  have hk0 := hk
  obtain ⟨hg, hb, hK, hP, _, hF, hC, hS, _⟩ := hx
  obtain ⟨k1, k2, k3, k4, k5, k6, k7, k8⟩ := hk
  obtain ⟨⟨⟨p1, p2⟩, hst⟩, _, _, _⟩ := hP.2.2.2.2.2.2.2.2.2.2.2.2.2.2.2 s hs
  have hs1 : s < 1000 := by omega
  have hs16 : s < 1600 := by omega
  have r1 : zC1 N n d s t u t u := zC1_refl hK
  have hbad : zP1 f N n d s t u 0 t (zu u 0 67 (u 15 s)) := zP1_bad r1 p1 rfl
  rcases hst with ⟨e1, e2, e3, e4⟩ | ⟨e1, e2, e3, e4, e5, e6⟩ | ⟨e1, _⟩ | ⟨e1, _⟩ | ⟨e1, e2, e3, e4, e5⟩ | ⟨e1, _⟩ | ⟨e1, _⟩ | ⟨e1, _⟩ | ⟨e1, _⟩
  · -- NAME = .. and send
    rw [hq] at e2 e4
    obtain ⟨c, c1, c2, c3⟩ := zSo_n e2 k5 k6
    obtain ⟨b, b1, b2, b3⟩ := zWithout hg k8 (by omega) (by omega) e4 k5 hF hC
    have g57 : mX5_get 57 80000 (t 91 s) t = some (t 58 c, t) := by rw [c2]; exact zn_get (by omega) (by decide)
    have g57' : mX5_get 57 80000 (t 93 s) t = some (-1, t) := by rw [e3]; exact pl_getm
    have hr := k8 c c1
    have GP := fun x2 => pl_gp (x2 := x2) hs1 g57 (pl_kindS hg hr) g57' b2
    unfold mX12_checkOne
    rw [zn_rd hs16 (by decide), zn_rd hs16 (by decide), zn_rd hs16 (by decide), zn_rd hs16 (by decide)]
    rcases e1 with ⟨e1, e1'⟩ | ⟨e1, e1'⟩
    · -- set
      have n14 : ¬ u 14 s = 9 := by rw [e1']; decide
      rw [e1, GP, e1', if_pos rfl, c3, pl_channel (by omega) (by omega), pl_bd]
      simp only [show ¬ (17 : Int32) = 2 by decide, show ¬ (17 : Int32) = 3 by decide, show ¬ (17 : Int32) = 4 by decide, show ¬ (17 : Int32) = 5 by decide, show ¬ (17 : Int32) = 6 by decide, if_false]
      unfold bX12_checkOne_123 bX12_checkOne_124
      rcases zRs_neg hg hr with ⟨_, _, n1, n2, n3, _⟩ | ⟨_, _, n1, n2, _⟩
      · rw [if_neg n1, if_neg n2, zn_rd hs16 (by decide), b3, pl_bd]
        rcases b1 with b1 | b1
        · rw [b1, if_pos rfl, if_pos rfl, pl_527b hs16 k3 n14]
          exact ⟨_, _, _, rfl, rfl, hbad⟩
        · rw [b1, if_neg pl_10, if_neg pl_10, pl_527g hs16 n14]
          exact ⟨_, _, _, rfl, rfl, r1, Or.inr ⟨rfl, k3, k8, Or.inl ⟨Or.inl e1, ⟨c, c2, n3⟩, rfl⟩⟩⟩
      · rw [if_pos n1, if_pos n2, pl_527b hs16 k3 n14]
        exact ⟨_, _, _, rfl, rfl, hbad⟩
    · -- send
      have n14 : ¬ u 14 s = 9 := by rw [e1']; decide
      rw [e1, GP, if_pos rfl, e1', if_neg (show ¬ (1 : Int32) = 0 by decide), if_pos (show (1 : Int32) = 1 from rfl), c3, pl_isOne hg (by omega) (by omega) hr (Or.inl rfl), pl_bd]
      unfold bX12_checkOne_192 bX12_checkOne_193
      by_cases q4 : zKs t (t 58 c) = 4
      · rw [if_pos q4, if_pos (show zKs t (t 58 c) = 3 + 1 from q4), if_neg pl_10, zn_rd hs16 (by decide), b3, pl_bd]
        rcases b1 with b1 | b1
        · rw [b1, if_pos rfl, if_pos rfl, if_pos rfl, pl_527b hs16 k3 n14]
          exact ⟨_, _, _, rfl, rfl, hbad⟩
        · rcases zRs_neg hg hr with ⟨n1, _⟩ | ⟨n1, _, _, _, a, a', v1, v2, v3, v4, v5, v6⟩
          · unfold zKs at q4
            rw [if_pos n1] at q4
            exact absurd q4 (by decide)
          · have la := zV_lt hg v1
            have ka : (zD t).kd a = 4 := by
              unfold zKs at q4
              rw [if_neg n1, v5, show (Int32.ofNat a).toNatClampNeg = a from pl_clamp (pl_ofn (by omega))] at q4
              exact q4
            have ka' : (zD t).kd a' = 4 := by rw [← (zEq_sm v4).1]; exact ka
            obtain ⟨w1, _, dd, d1, d2, d3⟩ := pl_thenOf hg v1 (Or.inl ka)
            obtain ⟨w1', w2', _⟩ := pl_thenOf hg v2 (Or.inl ka')
            have he := (zEq_sm v4).2.1 (Or.inl ka)
            obtain ⟨z1, z2, z3, z4⟩ := zGc (s := s) hx0 hk0 c1 w1 w1' he (by rw [e1]; decide)
            rw [b1, if_neg pl_10, if_neg pl_10, if_neg pl_10, v5, pl_behind0 la d2, pl_bd, pl_goOnC hg hb hs1 c2 (by omega) (by omega), pl_bd, if_neg pl_10, pl_channel (by omega) (by omega), pl_bd, v6, w2', pl_bd, pl_setCh hg (by omega) (by omega) w1', pl_bd, ← d3, pl_527g hs16 (by rw [zu_ne1 (by decide)]; exact n14)]
            exact ⟨_, _, _, rfl, rfl, z1, Or.inr ⟨rfl, by rw [zu_ne1 (by decide)]; exact k3, z2, Or.inr (Or.inr (Or.inl ⟨by rw [z1.1.2.2 87 (by decide)]; exact e1, c, a, ⟨by rw [z1.1.2.2 91 (by decide)]; exact c2, by omega⟩, v5, (zV_of (zTr_f z1.1) _).mpr v1, ka, z4, z3⟩))⟩⟩
      · rw [if_neg q4, if_neg (show ¬ zKs t (t 58 c) = 3 + 1 from q4), if_pos rfl, if_pos rfl, pl_527b hs16 k3 n14]
        exact ⟨_, _, _, rfl, rfl, hbad⟩
  · -- put
    rw [hq] at e6
    have n14 : ¬ u 14 s = 9 := by rw [e2]; decide
    obtain ⟨b, b1, b2, b3⟩ := zWithout hg k8 (by omega) (by omega) e6 k5 hF hC
    have g57 : mX5_get 57 80000 (t 91 s) t = some (-1, t) := by rw [e3]; exact pl_getm
    have g57' : mX5_get 57 80000 (t 93 s) t = some (-1, t) := by rw [e5]; exact pl_getm
    have GP := fun x2 => pl_gp (x2 := x2) hs1 g57 pl_kindOf_m g57' b2
    unfold mX12_checkOne
    rw [zn_rd hs16 (by decide), zn_rd hs16 (by decide), zn_rd hs16 (by decide), zn_rd hs16 (by decide), e1, GP, e2]
    simp only [show ¬ (13 : Int32) = 2 by decide, show ¬ (13 : Int32) = 3 by decide, show ¬ (13 : Int32) = 4 by decide, show ¬ (13 : Int32) = 5 by decide, show ¬ (13 : Int32) = 6 by decide, show ¬ (12 : Int32) = 0 by decide, show ¬ (12 : Int32) = 1 by decide, show ¬ (12 : Int32) = 2 by decide, show ¬ (12 : Int32) = 3 by decide, show ¬ (12 : Int32) = 4 by decide, show ¬ (12 : Int32) = 5 by decide, show ¬ (12 : Int32) = 6 by decide, show ¬ (12 : Int32) = 7 by decide, show ¬ (12 : Int32) = 8 by decide, show ¬ (12 : Int32) = 9 by decide, show ¬ (12 : Int32) = 10 by decide, show ¬ (12 : Int32) = 11 by decide, if_false, if_true]
    rw [if_neg zn_m1, b3, pl_bd]
    rcases b1 with b1 | b1
    · rw [b1, if_pos rfl, pl_527b hs16 k3 n14]
      exact ⟨_, _, _, rfl, rfl, hbad⟩
    · rw [b1, if_neg pl_10, pl_527g hs16 n14]
      exact ⟨_, _, _, rfl, rfl, r1, Or.inr ⟨rfl, k3, k8, Or.inr (Or.inl ⟨e1, rfl⟩)⟩⟩
  · exact absurd hkd (by rcases e1 with e | e | e <;> rw [e.1] <;> decide)
  · exact absurd hkd (by rw [e1]; decide)
  · -- get
    rw [hq] at e3
    have n14 : ¬ u 14 s = 9 := by rw [e2]; decide
    obtain ⟨c, c1, c2, c3⟩ := zSo_n e3 k5 k6
    have g57 : mX5_get 57 80000 (t 91 s) t = some (t 58 c, t) := by rw [c2]; exact zn_get (by omega) (by decide)
    have g57' : mX5_get 57 80000 (t 93 s) t = some (-1, t) := by rw [e4]; exact pl_getm
    have hw : mX3_isWithout (t 95 s) (t 97 s) t = some (1, t) := by
      rw [e5.1, e5.2.1]
      show bX3_isWithout_3 (lX3_isWithout_3 (zFU - 1)) 0 0 t = _
      unfold bX3_isWithout_3
      rw [if_pos (by decide)]
    have hr := k8 c c1
    have GP := fun x2 => pl_gp (x2 := x2) hs1 g57 (pl_kindS hg hr) g57' hw
    unfold mX12_checkOne
    rw [zn_rd hs16 (by decide), zn_rd hs16 (by decide), zn_rd hs16 (by decide), zn_rd hs16 (by decide), e1, GP, e2]
    simp only [show ¬ (14 : Int32) = 2 by decide, show ¬ (14 : Int32) = 3 by decide, show ¬ (14 : Int32) = 4 by decide, show ¬ (14 : Int32) = 5 by decide, show ¬ (14 : Int32) = 6 by decide, show ¬ (13 : Int32) = 0 by decide, show ¬ (13 : Int32) = 1 by decide, show ¬ (13 : Int32) = 2 by decide, show ¬ (13 : Int32) = 3 by decide, show ¬ (13 : Int32) = 4 by decide, show ¬ (13 : Int32) = 5 by decide, show ¬ (13 : Int32) = 6 by decide, show ¬ (13 : Int32) = 7 by decide, show ¬ (13 : Int32) = 8 by decide, show ¬ (13 : Int32) = 9 by decide, show ¬ (13 : Int32) = 10 by decide, show ¬ (13 : Int32) = 11 by decide, show ¬ (13 : Int32) = 12 by decide, if_false, if_true]
    rw [c3, pl_channel (by omega) (by omega), pl_bd]
    unfold bX12_checkOne_159
    rcases zRs_neg hg hr with ⟨_, _, n1, n2, n3, _⟩ | ⟨_, _, n1, n2, _⟩
    · rw [if_neg n1, if_neg n2, if_neg pl_10, pl_527g hs16 n14]
      exact ⟨_, _, _, rfl, rfl, r1, Or.inr ⟨rfl, k3, k8, Or.inl ⟨Or.inr e1, ⟨c, c2, n3⟩, rfl⟩⟩⟩
    · rw [if_pos n1, if_pos n2, pl_527b hs16 k3 n14]
      exact ⟨_, _, _, rfl, rfl, hbad⟩
  · exact absurd hkd (by rw [e1]; decide)
  · exact absurd hkd (by rcases e1 with e | e | e <;> rw [e.1] <;> decide)
  · exact absurd hkd (by rw [e1]; decide)
  · exact absurd hkd (by rw [e1]; decide)
