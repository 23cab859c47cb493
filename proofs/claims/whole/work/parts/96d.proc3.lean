/-! CHECK: a proc -/
/-- what is noted of a good proc -/
def zPrG (w : Nat → Nat) (N Q S n q : Nat) (t g t2 g2 : zS) : Prop := zKp N t2 ∧ (∀ x, x < 1000 → ¬ zRb S t (t 41 q) x → t2 107 x = t 107 x ∧ zGs g g2 x) ∧ (∀ e, e < 1600 → ¬ zRb S t (t 41 q) (w e) → t2 113 e = t 113 e) ∧ (∀ x, zRb S t (t 41 q) x → zVis g2 x → zAn (zD t) N Q n t2 g2 x) ∧ ∃ k a, (k ≤ 3000 ∧ a ≤ 3000) ∧ t 37 q = Int32.ofNat k ∧ t 35 q = Int32.ofNat a ∧ ((t 41 q = -1 ∧ ∀ x, x < n → zRz (zD t) t a k x = -1) ∨ ∃ s, t 41 q = Int32.ofNat s ∧ s < S ∧ zVis g2 s ∧ (∀ x, x < n → g2 s x = zRz (zD t) t a k x) ∧ ∀ j y, zNxt t j s y → t 99 y = -1 → g2 (6000 + y) 0 = 1 ∨ (g2 (6000 + y) 0 = 0 ∧ ∀ x, x < n → g2 (2000 + y) x = -1))
theorem zProcC {G : zTxt} {f : Nat → Nat} {N M P A T Q Pa bb S F C R W V n q : Nat} {o : Nat → Nat × Nat} {w : Nat → Nat} {t u g : zS} (hx : zCx G f N M P A T Q Pa bb S F C R W V o w t u) (hq : q < Q) (h39 : t 39 q = Int32.ofNat n) (hn : n ≤ 1100) (h67 : u 0 67 = -1) (hF : ∀ x, x ≤ 38 → x + 1 ≤ zKc G G.2.2.1 → n * (3 + 2 * x) ≤ 80000) (hv : ∀ x, zRb S t (t 41 q) x → ¬ zVis g x) : ∃ p r t2 u2 g2, mX1_check (Int32.ofNat q) t = some (p, t2) ∧ mX12_check (Int32.ofNat q) u = some (r, u2) ∧ zCf t t2 ∧ zCm u u2 ∧ ((0 ≤ p ∧ u2 0 67 = p) ∨ (p = -1 ∧ u2 0 67 = -1 ∧ zPrG w N Q S n q t g t2 g2)) := by
  have hS := (zTre_x hx).1
  have hQ := hx.2.2.2.2.2.2.2.2.1
  obtain ⟨t1, u1, z1, z2, z3, z4, z5, z6, z7, z8, z9, k, a, zka, z10, z11, z12⟩ := zProcIn hx hq h39 hn h67
  obtain ⟨_, _, _, _, _, _, _, _, _, _, _, _, _, _, hbody, ⟨p1, p2⟩, _⟩ := hx.2.2.2.1.2.2.2.2.2.2.1 q hq
  have hx1 := zCx_of hx z3 z4 z5
  have z60 := z6
  obtain ⟨k1, k2, k3, k4, k5, k6, k7, k8⟩ := z6
  have eD : zD t1 = zD t := zD_of (zTr_f z3)
  have rbe : zRb S t1 (t 41 q) = zRb S t (t 41 q) := funext fun x => propext ⟨fun ⟨r, a1, a2, a3⟩ => ⟨r, a1, a2, (zReg_f z3 _ _).mp a3⟩, fun ⟨r, a1, a2, a3⟩ => ⟨r, a1, a2, (zReg_f z3 _ _).mpr a3⟩⟩
  -- the BLOCK
  have blk : ∃ b b' t2 u2 g2, mX1_checkBlockr (t 41 q) 0 t1 = some (b, t2) ∧ mX12_checkBlockr (u 29 q) 0 u1 = some (b', u2) ∧ (zBadC t1 u1 b t2 u2 ∨ (b' = b ∧ (b = 0 ∨ b = 1) ∧ zFrC w n 0 0 (zRb S t (t 41 q)) t1 u1 g t2 u2 g2 ∧ zKp N t2 ∧ zRw f N n 0 t2 u2 ∧ (∀ x, zRb S t (t 41 q) x → zVis g2 x → zAn (zD t) N Q n t2 g2 x) ∧ ((t 41 q = -1 ∧ b = 0 ∧ t2 = t1) ∨ ∃ s, t 41 q = Int32.ofNat s ∧ s < S ∧ g2 s = t1 58 ∧ zVis g2 s ∧ ∀ j y, zNxt t j s y → t 99 y = -1 → g2 (2000 + y) = t2 58 ∧ g2 (6000 + y) 0 = b))) := by
    rcases hbody with ⟨e1, e2⟩ | ⟨s, e1, e2, e3, e4, e5⟩
    · refine ⟨0, 0, t1, u1, g, by rw [e1]; rfl, by rw [e2]; rfl, Or.inr ⟨rfl, Or.inl rfl, ⟨zCf_refl _, zCm_refl _, rfl, k3, rfl, rfl, fun _ _ _ => rfl, fun _ _ => rfl, fun _ _ => rfl, fun _ _ _ => ⟨rfl, rfl, rfl, rfl⟩, fun _ _ _ => rfl⟩, z5, k8, fun x h => ?_, Or.inl ⟨e1, rfl, rfl⟩⟩⟩
      obtain ⟨r, a1, a2, _⟩ := h
      rw [e1] at a1
      exact absurd (show (0 : Int32) ≤ -1 by rw [a1]; exact zn_0le (by omega)) zn_m1
    · have rb : ∀ x, zRb S t (t 41 q) x ↔ zReg S t1 s x := fun x => by
        rw [← rbe]
        constructor
        · rintro ⟨r, a1, a2, a3⟩
          rw [e2] at a1
          have := (zn_inj (by omega) (by omega)).mp a1
          rw [this]; exact a3
        · intro h; exact ⟨s, e2, by omega, h⟩
      obtain ⟨b, b', t2, u2, g2, y1, y2, y3⟩ := zBlock0 hq hF t1 u1 g 0 s hx1 z60 z7 (by omega) e1 e4.1 (fun x h => hv x ((rb x).mpr h))
      refine ⟨b, b', t2, u2, g2, by rw [e2]; exact y1, by rw [e3]; exact y2, y3.imp id fun ⟨c1, c2, c3, c4, c5, c6, c7, c8, c9⟩ => ⟨c1, c2, by rw [show zRb S t (t 41 q) = zReg S t1 s from funext fun x => propext (rb x)]; exact c3, c4, c5, fun x h1 h2 => by have := c8 x ((rb x).mp h1) h2; rw [eD] at this; exact this, Or.inr ⟨s, e2, e1, c6, c7, fun j y h1 h2 => c9 j y ((zNxt_f (z3.2.2 99 (by decide)) j s y).mpr h1) (by rw [z3.2.2 99 (by decide)]; exact h2)⟩⟩⟩
  obtain ⟨b, b', t2, u2, g2, y1, y2, y3⟩ := blk
  rw [z1, z2]
  unfold zChkT zChkM
  rw [show mX5_get 40 400 (Int32.ofNat q) t1 = some (t 41 q, t1) by rw [← z3.2.2 41 (by decide)]; exact zn_get (by omega) (by decide), pl_bd, y1, pl_bd, zn_rd (by omega) (by decide), z4.2 29 (by decide), y2, pl_bd]
  rcases y3 with ⟨c1, c2, c3, p, c4, c5, c6, c7⟩ | ⟨eb, c1, c2, c3, c4, c5, c6⟩
  · rw [if_pos (by rw [c5]; exact c4), if_pos (show 0 ≤ u2 0 67 by rw [c6]; exact c4)]
    refine ⟨_, 0, _, u2, g, rfl, ?_, zCf_trans z3 c1, zCm_trans z4 c2, Or.inl ⟨by rw [c5]; exact c4, by rw [c5]; exact c6⟩⟩
    by_cases cb : b' = 0
    · rw [if_pos cb]
    · rw [if_neg cb]
  subst eb
  have t6 : t2 6 6 = -1 := by rw [c2.2.2.1]; exact k2
  have u67 : u2 0 67 = -1 := c2.2.2.2.1
  have f2 : zCf t t2 := zCf_trans z3 c2.1
  have m2 : zCm u u2 := zCm_trans z4 c2.2.1
  have good : (b' = 1 ∨ (b' = 0 ∧ ∀ x, x < n → t2 58 x = -1)) → zPrG w N Q S n q t g t2 g2 := fun h => by
    refine ⟨c3, fun x x1 x2 => ?_, fun e e1 e2 => ?_, c5, k, a, zka, z10, z11, ?_⟩
    · have := c2.2.2.2.2.2.2.2.2.2.1 x x1 x2
      rw [z8] at this; exact this
    · have := c2.2.2.2.2.2.2.2.2.2.2 e e1 e2
      rw [z9] at this; exact this
    · rcases c6 with ⟨d1, d2, d3⟩ | ⟨s, d1, d2, d3, d4, d5⟩
      · refine Or.inl ⟨d1, fun x hx => ?_⟩
        rcases h with h | ⟨_, h⟩
        · rw [d2] at h; exact absurd h (by decide)
        · have := h x hx
          rw [d3, z12 x hx] at this; exact this
      · refine Or.inr ⟨s, d1, d2, d4, fun x hx => by rw [d3]; exact z12 x hx, fun j y h1 h2 => ?_⟩
        obtain ⟨l1, l2⟩ := d5 j y h1 h2
        rw [l1, l2]
        exact h
  rw [if_neg (by rw [t6]; decide)]
  rcases c1 with cb | cb
  · rw [if_pos cb, if_pos cb, if_neg (show ¬ 0 ≤ u2 0 67 by rw [u67]; decide)]
    have hx2 := zCx_of hx f2 m2 c3
    have hc2 : zCk f N n 0 q t2 u2 := ⟨by rw [c2.2.2.1]; exact k1, t6, u67, by rw [c2.2.2.2.2.1]; exact k4, by rw [f2.2.2 39 (by decide)]; exact h39, hn, by omega, c4⟩
    obtain ⟨hb, w1, w2, w3⟩ := zHas hx2 hc2 hq
    rw [w1, pl_bd, show mX12_hasAny 0 u2 = some (hb, u2) from w2, pl_bd]
    rcases w3 with ⟨e1, e2⟩ | ⟨e1, _⟩
    · rw [if_pos e1, if_pos e1]
      exact ⟨_, 0, t2, u2, g2, rfl, rfl, f2, m2, Or.inr ⟨t6, u67, good (Or.inr ⟨cb, e2⟩)⟩⟩
    · rw [if_neg (by rw [e1]; decide), if_neg (by rw [e1]; decide), show mX5_get 42 400 (Int32.ofNat q) t2 = some (t 43 q, t2) by rw [← f2.2.2 43 (by decide)]; exact zn_get (by omega) (by decide), pl_bd, pl_pt, zn_rd (by omega) (by decide), m2.2 30 (by decide), pl_isBad u67, pl_bd]
      exact ⟨_, 0, _, _, g, rfl, rfl, zCf_trans f2 (zCf_zu (Or.inr (Or.inr (Or.inr ⟨rfl, Or.inr rfl⟩)))), zCm_trans m2 (zCm_zu (Or.inr (Or.inr ⟨rfl, Or.inl rfl⟩))), Or.inl ⟨by rw [zu_same]; exact p2, by rw [zu_same, zu_same]; exact p1.symm⟩⟩
  · rw [if_neg (show ¬ b' = 0 by rw [cb]; decide), if_neg (show ¬ b' = 0 by rw [cb]; decide)]
    exact ⟨_, 0, t2, u2, g2, rfl, rfl, f2, m2, Or.inr ⟨t6, u67, good (Or.inl cb)⟩⟩
