/-! CHECK: BLOCKS, the loop -/
theorem zSub_trans {t : zS} {s x y : Nat} (h1 : zSub t s x) (h2 : zSub t x y) : zSub t s y := by
  obtain ⟨k, k1⟩ := h1
  obtain ⟨m, m1⟩ := h2
  have go : ∀ m y, zAnc t m x y → zAnc t (k + m) s y := by
    intro m
    induction m with
    | zero => intro y q; have q : y = x := q; subst q; exact k1
    | succ m ih =>
      intro y q
      obtain ⟨p, p1, p2, p3⟩ := q
      exact ⟨p, p1, p2, ih p p3⟩
  exact ⟨k + m, go m y m1⟩
theorem zSub_refl (t : zS) (s : Nat) : zSub t s s := ⟨0, rfl⟩
/-- the one behind x stands where x stands -/
theorem zSub_next {o : Nat → Nat × Nat} {S : Nat} {t : zS} (h : zTre o S t) {s x r : Nat} (hx : x < S) (h1 : zSub t s x) (hne : ¬ x = s) (h99 : t 99 x = Int32.ofNat r) (hr : r < 1000) : zSub t s r ∧ r < S := by
  have hS := h.1
  rcases (h.2 x hx).1 with q | ⟨r', q1, q2, q3, q4, q5, q6⟩
  · rw [q] at h99
    exact absurd (show (0 : Int32) ≤ -1 by rw [h99]; exact zn_0le (by omega)) zn_m1
  · rw [q1] at h99
    have e := (zn_inj (by omega) (by omega)).mp h99
    subst e
    obtain ⟨k, k1⟩ := h1
    cases k with
    | zero => exact absurd k1 hne
    | succ k =>
      obtain ⟨p, p1, p2, p3⟩ := k1
      exact ⟨⟨k + 1, p, by rw [q6]; exact p1, p2, p3⟩, q3⟩
theorem zAn0_k {G : zTxt} {f : Nat → Nat} {N M P A T Q Pa bb S F C R W V n x : Nat} {o : Nat → Nat × Nat} {w : Nat → Nat} {R2 : Nat → Prop} {D : zCo} {t u g t2 g2 : zS} (hx : zCx G f N M P A T Q Pa bb S F C R W V o w t u) (hxS : x < S) (h : zAn0 D N Q n t g x) (a1 : zCf t t2) (a10 : ∀ x, x < 1000 → ¬ R2 x → t2 107 x = t 107 x ∧ zGs g g2 x) (a11 : ∀ e, e < 1600 → ¬ R2 (w e) → t2 113 e = t 113 e) (hn : ∀ y, zSub t x y → y < S → ¬ R2 y) : zAn0 D N Q n t2 g2 x := by
  have tre := zTre_x hx
  have hS := tre.1
  have kk : t 87 x = 10 ∨ t 87 x = 12 → t 87 x = 7 ∨ t 87 x = 10 ∨ t 87 x = 12 := fun q => Or.inr q
  have hP := hx.2.2.2.1
  have hst := (hP.2.2.2.2.2.2.2.2.2.2.2.2.2.2.2 x hxS).1.2
  have nR : ∀ y, zSub t x y → y < S → zGs g g2 y := fun y y1 y2 => (a10 y (by omega) (hn y y1 y2)).2
  have self := a10 x (by omega) (hn x (zSub_refl t x) hxS)
  have h7 : ∀ m e, zLk (t 115) 1600 m (t 105 x) e → 0 < m → t 87 x = 7 ∨ t 87 x = 10 ∨ t 87 x = 12 → ∀ i, i < m → w (e i) = x ∧ (t 111 (e i) = -1 ∨ ∃ r, t 111 (e i) = Int32.ofNat r ∧ r < S ∧ t 101 r = Int32.ofNat x ∧ o r = ((o x).1 + 1, (o x).2) ∧ o (10000 + r) = (r, 0)) := fun m e hl _ hk => zOwn hx hxS hk hl
  by_cases hk : t 87 x = 7 ∨ t 87 x = 10 ∨ t 87 x = 12
  · refine zAn0_f h a1 self.1 (fun m e j hl hj => ?_) self.2 (fun e r j y q1 q2 q3 q4 => ?_) (fun q => ?_) (fun q => ?_)
    · obtain ⟨o1, _⟩ := zOwn hx hxS hk hl j hj
      exact a11 (e j) (hl.2 j hj).1 (by rw [o1]; exact hn x (zSub_refl t x) hxS)
    · obtain ⟨m, e', hl, i, hi, ei⟩ := q3
      obtain ⟨_, o2⟩ := zOwn hx hxS hk hl i hi
      rw [ei, q1] at o2
      rcases o2 with o2 | ⟨r', o2, o3, o4, _⟩
      · exact absurd (show (0 : Int32) ≤ -1 by rw [← o2]; exact zn_0le (by omega)) zn_m1
      · have er := (zn_inj (by omega) (by omega)).mp o2
        subst er
        obtain ⟨b1, b2, b3, b4, b5⟩ := zNxt_at tre j r y o3 q4
        exact nR y ⟨1, x, by rw [b5]; exact o4, by omega, rfl⟩ b1
    · intro e0 e1 q1 q2 q3 q4
      rcases hst with ⟨w1, _⟩ | ⟨w1, _⟩ | ⟨w1, _⟩ | ⟨w1, _⟩ | ⟨w1, _⟩ | ⟨w1, _⟩ | ⟨w1, _⟩ | ⟨w1, _, _, _, _, w5, _⟩ | ⟨w1, _⟩
      · rcases w1 with w1 | w1 <;> rw [w1.1] at q <;> exact absurd q (by decide)
      · rw [w1] at q; exact absurd q (by decide)
      · rcases w1 with w1 | w1 | w1 <;> rw [w1.1] at q <;> exact absurd q (by decide)
      · rw [w1] at q; exact absurd q (by decide)
      · rw [w1] at q; exact absurd q (by decide)
      · rw [w1] at q; exact absurd q (by decide)
      · rcases w1 with w1 | w1 | w1 <;> rw [w1.1] at q <;> exact absurd q (by decide)
      · obtain ⟨f0, f1, c1, c2, c3, c4, c5, _⟩ := w5
        have hW := hx.2.2.2.2.2.2.2.2.2.2.1
        rw [c3] at q1
        have x1 := (zn_inj (by omega) (by omega)).mp q1
        subst x1
        rw [c4] at q3
        have x2 := (zn_inj (by omega) (by omega)).mp q3
        subst x2
        exact c5
      · rw [w1] at q; exact absurd q (by decide)
    · intro e0 q1 q2
      rcases hst with ⟨w1, _⟩ | ⟨w1, _⟩ | ⟨w1, _⟩ | ⟨w1, _⟩ | ⟨w1, _⟩ | ⟨w1, _⟩ | ⟨w1, _⟩ | ⟨w1, _⟩ | ⟨w1, _, _, _, _, w5, _⟩
      · rcases w1 with w1 | w1 <;> rw [w1.1] at q <;> exact absurd q (by decide)
      · rw [w1] at q; exact absurd q (by decide)
      · rcases w1 with w1 | w1 | w1 <;> rw [w1.1] at q <;> exact absurd q (by decide)
      · rw [w1] at q; exact absurd q (by decide)
      · rw [w1] at q; exact absurd q (by decide)
      · rw [w1] at q; exact absurd q (by decide)
      · rcases w1 with w1 | w1 | w1 <;> rw [w1.1] at q <;> exact absurd q (by decide)
      · rw [w1] at q; exact absurd q (by decide)
      · obtain ⟨f0, c1, c2, c3, _⟩ := w5
        have hW := hx.2.2.2.2.2.2.2.2.2.2.1
        rw [c2] at q1
        have x1 := (zn_inj (by omega) (by omega)).mp q1
        subst x1
        exact c3
  · obtain ⟨b1, b2, b3, b4, b5⟩ := h
    have r := a1.2.2
    unfold zAn0
    rw [r 87 (by decide), self.2.1, self.2.2.1, self.2.2.2]
    exact ⟨fun q => ⟨zSt1_f (b1 q).1 a1 self.1, (b1 q).2⟩, fun q => ⟨zSt2_f (b2 q).1 a1 self.1, (b2 q).2⟩, fun q => absurd (Or.inr (Or.inl q)) hk, fun q => absurd (Or.inr (Or.inr q)) hk, fun q => absurd (Or.inl q) hk⟩
theorem zAn_k {G : zTxt} {f : Nat → Nat} {N M P A T Q Pa bb S F C R W V n x : Nat} {o : Nat → Nat × Nat} {w : Nat → Nat} {R2 : Nat → Prop} {D : zCo} {t u g t2 g2 : zS} (hx : zCx G f N M P A T Q Pa bb S F C R W V o w t u) (hxS : x < S) (h : zAn D N Q n t g x) (a1 : zCf t t2) (a10 : ∀ x, x < 1000 → ¬ R2 x → t2 107 x = t 107 x ∧ zGs g g2 x) (a11 : ∀ e, e < 1600 → ¬ R2 (w e) → t2 113 e = t 113 e) (hn : ∀ y, zSub t x y → y < S → ¬ R2 y) (hr : ∀ r, t 99 x = Int32.ofNat r → r < 1000 → ¬ R2 r) : zAn D N Q n t2 g2 x := by
  have tre := zTre_x hx
  have hS := tre.1
  refine ⟨zAn0_k hx hxS h.1 a1 a10 a11 hn, fun r q1 q2 => ?_⟩
  rw [a1.2.2 99 (by decide)] at q1
  obtain ⟨p1, p2, p3⟩ := h.2 r q1 q2
  have gx := (a10 x (by omega) (hn x (zSub_refl t x) hxS)).2
  have gr := (a10 r q2 (hr r q1 q2)).2
  exact ⟨by unfold zVis; rw [gr.2.2]; exact p1, by rw [gx.2.2]; exact p2, by rw [gr.1, gx.2.1]; exact p3⟩
theorem zAn0_keep {G : zTxt} {f : Nat → Nat} {N M P A T Q Pa bb S F C R W V n d kp x : Nat} {o : Nat → Nat × Nat} {w : Nat → Nat} {R2 : Nat → Prop} {D : zCo} {t u g t2 u2 g2 : zS} (hx : zCx G f N M P A T Q Pa bb S F C R W V o w t u) (hxS : x < S) (h : zAn0 D N Q n t g x) (hf : zFrC w n d kp R2 t u g t2 u2 g2) (hn : ∀ y, zSub t x y → y < S → ¬ R2 y) : zAn0 D N Q n t2 g2 x := zAn0_k hx hxS h hf.1 hf.2.2.2.2.2.2.2.2.2.1 hf.2.2.2.2.2.2.2.2.2.2 hn
theorem zAn_keep {G : zTxt} {f : Nat → Nat} {N M P A T Q Pa bb S F C R W V n d kp x : Nat} {o : Nat → Nat × Nat} {w : Nat → Nat} {R2 : Nat → Prop} {D : zCo} {t u g t2 u2 g2 : zS} (hx : zCx G f N M P A T Q Pa bb S F C R W V o w t u) (hxS : x < S) (h : zAn D N Q n t g x) (hf : zFrC w n d kp R2 t u g t2 u2 g2) (hn : ∀ y, zSub t x y → y < S → ¬ R2 y) (hr : ∀ r, t 99 x = Int32.ofNat r → r < 1000 → ¬ R2 r) : zAn D N Q n t2 g2 x := zAn_k hx hxS h hf.1 hf.2.2.2.2.2.2.2.2.2.1 hf.2.2.2.2.2.2.2.2.2.2 hn hr
theorem zBlkC {gc : GgX1_checkBlock} {gm : GgX12_checkBlock} {G : zTxt} {f : Nat → Nat} {N M P A T Q Pa bb S F C R W V n q d : Nat} {o : Nat → Nat × Nat} {w : Nat → Nat} (hS : zPS G f N M P A T Q Pa bb S F C R W V o w n q d gc.2.1 gm.2.1) : ∀ (k i fu fv : Nat) (aw : Int32) (t u g : zS) (kp s : Nat), S ≤ k + s → i ≤ s → zCx G f N M P A T Q Pa bb S F C R W V o w t u → zCk f N n d q t u → u 0 70 = Int32.ofNat kp → kp ≤ n * d → s < S → o s = (d, q) → (∀ x, zReg S t s x → ¬ zVis g x) →
    ∃ b b' t2 u2 g2, lX1_checkBlock_8 gc (fu + k + 1) (Int32.ofNat d) aw (Int32.ofNat s) (Int32.ofNat i) t = some (b, t2) ∧ lX12_checkBlock_2 gm (fv + k + 1) (Int32.ofNat d) (Int32.ofNat s) u = some (b', u2) ∧ (zBadC t u b t2 u2 ∨ (b' = b ∧ zBkG w f N Q S n d kp s t u g b t2 u2 g2)) := by
  intro k
  induction k with
  | zero => intro i fu fv aw t u g kp s h1 h2 h3 h4 h5 h6 h7; omega
  | succ k ih =>
    intro i fu fv aw t u g kp s hk hi hx hc h70 hkp hs ho hv
    have tre := zTre_x hx
    have hS1 := tre.1
    have hc0 := hc
    obtain ⟨k1, k2, k3, k4, k5, k6, k7, k8⟩ := hc
    have hP := hx.2.2.2.1
    obtain ⟨⟨⟨p1, p2⟩, _⟩, hLn, _, _⟩ := hP.2.2.2.2.2.2.2.2.2.2.2.2.2.2.2 s hs
    obtain ⟨b, b', t1, u1, g1, s1, s2, s3⟩ := hS t u g kp s hx hc0 h70 hkp hs ho (fun x hx hsub => hv x (zReg_self hx hsub))
    have g98 : ∀ t' : zS, t' 99 = t 99 → mX5_get 98 1000 (Int32.ofNat s) t' = some (t 99 s, t') := fun t' e => by rw [← e]; exact zn_get (by omega) (by decide)
    have eC : lX1_checkBlock_8 gc (fu + (k + 1) + 1) (Int32.ofNat d) aw (Int32.ofNat s) (Int32.ofNat i) t = zbd (mX5_get 98 1000 (Int32.ofNat s) t1) fun r1474 t1475 => if 0 ≤ (t1475 6 6) then lX1_checkBlock_8 gc (fu + k + 1) (Int32.ofNat d) b r1474 (Int32.ofNat (i + 1)) t1475 else if b = 0 then lX1_checkBlock_8 gc (fu + k + 1) (Int32.ofNat d) b r1474 (Int32.ofNat (i + 1)) t1475 else if r1474 < 0 then lX1_checkBlock_8 gc (fu + k + 1) (Int32.ofNat d) b r1474 (Int32.ofNat (i + 1)) t1475 else zbd (mX1_fail (Int32.ofNat s) t1475) fun r1477 t1478 => lX1_checkBlock_8 gc (fu + k + 1) (Int32.ofNat d) b r1474 (Int32.ofNat (i + 1)) t1478 := by
      show bX1_checkBlock_8 gc (lX1_checkBlock_8 gc (fu + k + 1)) _ _ _ _ t = _
      unfold bX1_checkBlock_8 bX1_checkBlock_78
      rw [if_neg (show ¬ (1000 : Int32) ≤ Int32.ofNat i from fun w => by have := (zn_le (a := 1000) (by decide) (by omega)).mp w; omega), if_neg (zn_neg (by omega)), if_neg (by rw [k2]; decide), if_neg (show ¬ (40 : Int32) < Int32.ofNat d from fun w => by have := (zn_lt (a := 40) (by decide) (by omega)).mp w; omega), s1, pl_bd]
      simp only [pl_let, zn_1]
    have eM : lX12_checkBlock_2 gm (fv + (k + 1) + 1) (Int32.ofNat d) (Int32.ofNat s) u = if b' = 0 then zrd u1 22 1600 (Int32.ofNat s) fun v3844 => lX12_checkBlock_2 gm (fv + k + 1) (Int32.ofNat d) v3844 u1 else zrd u1 22 1600 (Int32.ofNat s) fun v3837 => if v3837 < 0 then some (1, u1) else zrd u1 15 1600 (Int32.ofNat s) fun v3839 => zbd (mX12_isBad v3839 u1) fun r3841 t3842 => some (1, t3842) := by
      show bX12_checkBlock_2 gm (lX12_checkBlock_2 gm (fv + k + 1)) _ _ u = _
      unfold bX12_checkBlock_2
      rw [if_neg (zn_neg (by omega)), if_neg (by rw [k3]; decide), s2, pl_bd]
    -- the class stops
    have stopC : ∀ (t' : zS) (x : Int32), (x < 0 ∨ 0 ≤ t' 6 6) → (b = 0 ∨ b = 1) → lX1_checkBlock_8 gc (fu + k + 1) (Int32.ofNat d) b x (Int32.ofNat (i + 1)) t' = some (b, t') := fun t' x hq hb => by
      have z : z01 b (some (b, t')) = some (b, t') := by rcases hb with e | e <;> rw [e] <;> rfl
      show bX1_checkBlock_8 gc _ _ _ _ _ t' = _
      unfold bX1_checkBlock_8
      by_cases c1 : (1000 : Int32) ≤ Int32.ofNat (i + 1)
      · rw [if_pos c1, z]
      · rw [if_neg c1]
        by_cases c2 : x < 0
        · rw [if_pos c2, z]
        · rw [if_neg c2, if_pos (hq.elim (fun w => absurd w c2) id), z]
    have stopM : ∀ (u' : zS) (x : Int32), (x < 0 ∨ 0 ≤ u' 0 67) → lX12_checkBlock_2 gm (fv + k + 1) (Int32.ofNat d) x u' = some (0, u') := fun u' x hq => by
      show bX12_checkBlock_2 gm _ _ _ u' = _
      unfold bX12_checkBlock_2
      by_cases c2 : x < 0
      · rw [if_pos c2]
      · rw [if_neg c2, if_pos (hq.elim (fun w => absurd w c2) id)]
    have lnx : (t 99 s = -1 ∧ u 22 s = -1) ∨ ∃ r, r < S ∧ t 99 s = Int32.ofNat r ∧ u 22 s = Int32.ofNat r ∧ s < r := by
      rcases hLn with ⟨a1, a2, _⟩ | ⟨r, a1, a2, _, a4, a5, _⟩
      · exact Or.inl ⟨a1, a2⟩
      · exact Or.inr ⟨r, a5, a1, a2, a4⟩
    have failC : ∀ t' : zS, t' 89 = t 89 → mX1_fail (Int32.ofNat s) t' = some (0, zu t' 6 6 (t 89 s)) := fun t' e => by
      unfold mX1_fail
      rw [show mX5_get 88 1000 (Int32.ofNat s) t' = some (t 89 s, t') by rw [← e]; exact zn_get (by omega) (by decide), pl_bd, pl_pt]
    rw [eC, eM]
    rcases s3 with ⟨c1, c2, c3, p, c4, c5, c6, c65⟩ | ⟨c1, c2, c3, c4, c5, c6, c7, c8, c65⟩ | ⟨c1, c2⟩
    · -- bad inside
      rw [g98 t1 (c1.2.2 99 (by decide)), pl_bd, if_pos (by rw [c5]; exact c4), stopC t1 _ (Or.inr (by rw [c5]; exact c4)) c3]
      have r22 : u1 22 = u 22 := c2.2 22 (by decide)
      have fin : zBadC t u b t1 u1 := ⟨c1, c2, c3, p, c4, c5, c6, c65⟩
      by_cases cb : b' = 0
      · rw [if_pos cb, zn_rd (by omega) (by decide), stopM u1 _ (Or.inr (by rw [c6]; exact c4))]
        exact ⟨b, 0, t1, u1, g, rfl, rfl, Or.inl fin⟩
      · rw [if_neg cb, zn_rd (by omega) (by decide)]
        by_cases c22 : u1 22 s < 0
        · rw [if_pos c22]
          exact ⟨b, 1, t1, u1, g, rfl, rfl, Or.inl fin⟩
        · rw [if_neg c22, zn_rd (by omega) (by decide)]
          unfold mX12_isBad
          rw [if_pos (by rw [c6]; exact c4), pl_bd]
          exact ⟨b, 1, t1, u1, g, rfl, rfl, Or.inl fin⟩
    · -- become, and more behind it
      rcases lnx with ⟨l1, _⟩ | ⟨r, l1, l2, l3, l4⟩
      · rw [l1] at c2; exact absurd c2 zn_m1
      · subst c3
        rw [g98 t1 (c7.2.2 99 (by decide)), pl_bd, if_neg (by rw [c5]; decide), if_neg pl_10, l2, if_neg (zn_neg (by omega)), failC t1 (c7.2.2 89 (by decide)), pl_bd, c4, if_neg pl_10, zn_rd (by omega) (by decide), c8.2 22 (by decide), l3, if_neg (zn_neg (by omega)), zn_rd (by omega) (by decide)]
        rw [stopC _ _ (Or.inr (by rw [zu_same]; exact p2)) (Or.inr rfl)]
        unfold mX12_isBad
        rw [if_pos (by rw [c6]; exact p2), pl_bd]
        exact ⟨1, 1, _, u1, g, rfl, rfl, Or.inl ⟨zCf_trans c7 (zCf_zu (Or.inr (Or.inr (Or.inr ⟨rfl, Or.inr rfl⟩)))), c8, Or.inr rfl, t 89 s, p2, zu_same _ _ _ _, c6, by rw [zu_ne2 (by decide)]; exact c65⟩⟩
    · -- good
      rw [c1]
      obtain ⟨d1, d2, d3, d4, d5, d6, d7, d8, d9, d10⟩ := c2
      have f1 := d2.1
      have m1 := d2.2.1
      have e66 : t1 6 6 = -1 := by rw [d2.2.2.1]; exact k2
      have e67 : u1 0 67 = -1 := d2.2.2.2.1
      have r22 : u1 22 = u 22 := m1.2 22 (by decide)
      have hx1 := zCx_of hx f1 m1 d3
      rw [g98 t1 (f1.2.2 99 (by decide)), pl_bd, if_neg (by rw [e66]; decide)]
      rcases lnx with ⟨l1, l2⟩ | ⟨r, l1, l2, l3, l4⟩
      · -- the last one
        have post : zBkG w f N Q S n d kp s t u g b t1 u1 g1 := by
          refine ⟨d1, zFrC_trans (R3 := zReg S t s) d2 ⟨zCf_refl _, zCm_refl _, rfl, e67, rfl, rfl, fun _ _ _ => rfl, fun _ _ => rfl, fun _ _ => rfl, fun _ _ _ => ⟨rfl, rfl, rfl, rfl⟩, fun _ _ _ => rfl⟩ (fun x q => zReg_self q.2 q.1) (R2 := fun _ => False) (fun _ q => q.elim), d3, d4, d5, d8, fun x q1 q2 => ?_, fun j y q1 q2 => ?_⟩
          · rcases zReg_cases q1 with q | ⟨r, q, _⟩
            · by_cases ex : x = s
              · subst ex
                refine ⟨d9, fun r q3 q4 => ?_⟩
                rw [f1.2.2 99 (by decide), l1] at q3
                exact absurd (show (0 : Int32) ≤ -1 by rw [q3]; exact zn_0le (by omega)) zn_m1
              · exact d10 x q ex q1.1 q2
            · rw [l1] at q
              exact absurd (show (0 : Int32) ≤ -1 by rw [q]; exact zn_0le (by omega)) zn_m1
          · cases j with
            | zero =>
              have e : y = s := q1
              subst e
              exact ⟨d6, d7⟩
            | succ j =>
              obtain ⟨z, z1, z2, _⟩ := q1
              rw [l1] at z1
              exact absurd (show (0 : Int32) ≤ -1 by rw [z1]; exact zn_0le (by omega)) zn_m1
        have sc := stopC t1 (t 99 s) (Or.inl (by rw [l1]; decide)) d1
        rw [l1] at sc
        rw [l1]
        rcases d1 with db | db
        · rw [if_pos db, sc, if_pos db, zn_rd (by omega) (by decide), r22, l2, stopM u1 _ (Or.inl (by decide))]
          exact ⟨b, 0, t1, u1, g1, rfl, rfl, Or.inr ⟨db.symm, post⟩⟩
        · rw [if_neg (by rw [db]; decide), if_pos (by decide), sc, if_neg (by rw [db]; decide), zn_rd (by omega) (by decide), r22, l2, if_pos (by decide)]
          exact ⟨b, 1, t1, u1, g1, rfl, rfl, Or.inr ⟨db.symm, post⟩⟩
      · rcases d1 with db | db
        · -- on to the next
          have hne : ∀ x, zReg S t r x → ¬ (zSub t s x ∧ x < S) := fun x q1 q2 => zReg_rest tre hs l2 (by omega) q2.1 q1
          have hc1 : zCk f N n d q t1 u1 := ⟨by rw [d2.2.2.1]; exact k1, e66, e67, by rw [d2.2.2.2.2.1]; exact k4, by rw [f1.2.2 39 (by decide)]; exact k5, k6, k7, d4⟩
          obtain ⟨_, _, o3, _⟩ := zNxt_at tre 1 s r hs ⟨r, l2, by omega, rfl⟩
          obtain ⟨b2, b2', t2, u2, g2, z1, z2, z3⟩ := ih (i + 1) fu fv b t1 u1 g1 kp r (by omega) (by omega) hx1 hc1 (by rw [d2.2.2.2.2.2.1]; exact h70) hkp l1 (o3.trans ho) (fun x q1 q2 => by
            have q1' := (zReg_f f1 r x).mp q1
            have gs := (d2.2.2.2.2.2.2.2.2.2.1 x (by have := q1'.1; omega) (hne x q1')).2
            refine hv x (zReg_next l2 (by omega) q1') ?_
            unfold zVis at *
            rw [gs.2.2] at q2
            exact q2)
          rw [if_pos db, l2, z1, if_pos db, zn_rd (by omega) (by decide), r22, l3, z2]
          refine ⟨b2, b2', t2, u2, g2, rfl, rfl, ?_⟩
          rcases z3 with ⟨y1, y2, y3, y4⟩ | ⟨y0, y1, y2, y3, y4, y5, y6, y7, y8⟩
          · obtain ⟨p', y5, y6, y7, y8⟩ := y4
            exact Or.inl ⟨zCf_trans f1 y1, zCm_trans m1 y2, y3, p', y5, y6, y7, by rw [y8, d2.2.2.1]⟩
          · refine Or.inr ⟨y0, y1, zFrC_trans d2 y2 (fun x q => zReg_self q.2 q.1) (fun x q => zReg_next l2 (by omega) ((zReg_f f1 r x).mp q)), y3, y4, ?_, ?_, fun x q1 q2 => ?_, fun j y q1 q2 => ?_⟩
            · have gs := (y2.2.2.2.2.2.2.2.2.2.1 s (by omega) (fun q => hne s ((zReg_f f1 r s).mp q) ⟨zSub_refl t s, hs⟩)).2
              rw [gs.1]; exact d5
            · have gs := (y2.2.2.2.2.2.2.2.2.2.1 s (by omega) (fun q => hne s ((zReg_f f1 r s).mp q) ⟨zSub_refl t s, hs⟩)).2
              unfold zVis
              rw [gs.2.2]; exact d8
            · have eD : zD t1 = zD t := zD_of (zTr_f f1)
              rcases zReg_cases q1 with q | ⟨r', q3, q4, q5⟩
              · have nx : ∀ y, zSub t1 x y → y < S → ¬ zReg S t1 r y := fun y y1' y2' y3' => hne y ((zReg_f f1 r y).mp y3') ⟨zSub_trans q ((zSub_f f1 x y).mp y1'), y2'⟩
                have gx := (y2.2.2.2.2.2.2.2.2.2.1 x (by have := q1.1; omega) (nx x (zSub_refl t1 x) q1.1)).2
                by_cases ex : x = s
                · subst ex
                  refine ⟨zAn0_keep hx1 hs d9 y2 nx, fun r' q3 q4 => ?_⟩
                  rw [y2.1.2.2 99 (by decide), f1.2.2 99 (by decide), l2] at q3
                  have er := (zn_inj (by omega) (by omega)).mp q3
                  subst er
                  exact ⟨y6, by rw [gx.2.2, d7]; exact db, by rw [y5, gx.2.1, d6]⟩
                · have vx : zVis g1 x := by
                    unfold zVis at *
                    rw [gx.2.2] at q2
                    exact q2
                  exact zAn_keep hx1 q1.1 (d10 x q ex q1.1 vx) y2 nx (fun r' q3 q4 q5 => by
                    rw [f1.2.2 99 (by decide)] at q3
                    obtain ⟨v1, v2⟩ := zSub_next tre q1.1 q ex q3 q4
                    exact hne r' ((zReg_f f1 r r').mp q5) ⟨v1, v2⟩)
              · rw [l2] at q3
                have er := (zn_inj (by omega) (by omega)).mp q3
                subst er
                rw [← eD]
                exact y7 x ((zReg_f f1 r x).mpr q5) q2
            · cases j with
              | zero =>
                have e : y = s := q1
                subst e
                rw [l2] at q2
                exact absurd (show (0 : Int32) ≤ -1 by rw [← q2]; exact zn_0le (by omega)) zn_m1
              | succ j =>
                obtain ⟨z, w1, w2, w3⟩ := q1
                rw [l2] at w1
                have er := (zn_inj (by omega) (by omega)).mp w1
                subst er
                exact y8 j y ((zNxt_f (f1.2.2 99 (by decide)) j r y).mpr w3) (by rw [f1.2.2 99 (by decide)]; exact q2)
        · -- away, and more behind it
          rw [if_neg (by rw [db]; decide), l2, if_neg (zn_neg (by omega)), failC t1 (f1.2.2 89 (by decide)), pl_bd, if_neg (by rw [db]; decide), zn_rd (by omega) (by decide), r22, l3, if_neg (zn_neg (by omega)), zn_rd (by omega) (by decide), stopC _ _ (Or.inr (by rw [zu_same]; exact p2)) (Or.inr db)]
          unfold mX12_isBad
          rw [if_neg (by rw [e67]; decide), pl_pt, pl_bd]
          exact ⟨b, 1, _, _, g, rfl, rfl, Or.inl ⟨zCf_trans f1 (zCf_zu (Or.inr (Or.inr (Or.inr ⟨rfl, Or.inr rfl⟩)))), zCm_trans m1 (zCm_zu (Or.inr (Or.inr ⟨rfl, Or.inl rfl⟩))), Or.inr db, t 89 s, p2, zu_same _ _ _ _, by rw [zu_same, m1.2 15 (by decide), p1], by rw [zu_ne2 (by decide), d2.2.2.1]⟩⟩
theorem zBlockC {gc : GgX1_checkBlock} {gm : GgX12_checkBlock} {G : zTxt} {f : Nat → Nat} {N M P A T Q Pa bb S F C R W V n q d : Nat} {o : Nat → Nat × Nat} {w : Nat → Nat} (hS : zPS G f N M P A T Q Pa bb S F C R W V o w n q d gc.2.1 gm.2.1) : zPC G f N M P A T Q Pa bb S F C R W V o w n q d (mX1_checkBlock gc) (mX12_checkBlock gm) := by
  intro t u g kp s hx hc h70 hkp hs ho hv
  have hS1 := (zTre_x hx).1
  have := zBlkC hS (S - s) 0 (zFU - (S - s) - 1) (zFU - (S - s) - 1) 0 t u g kp s (by omega) (Nat.zero_le _) hx hc h70 hkp hs ho hv
  rw [show zFU - (S - s) - 1 + (S - s) + 1 = zFU by unfold zFU; omega] at this
  exact this
