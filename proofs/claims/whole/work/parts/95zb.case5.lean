/-! CHECK: the statement case -/
theorem zCasS {gc gc1 gc0 : GgX1_checkBlock} {gm gm1 gm0 : GgX12_checkBlock} {G : zTxt} {f : Nat → Nat} {N M P A T Q Pa bb S F C R W V n q d kp s : Nat} {o : Nat → Nat × Nat} {w : Nat → Nat} {t u g : zS} (eC1 : gc.2.2.1 = mX1_checkBranches gc1) (eM1 : gm.2.2.2.1 = mX12_checkCase gm1) (eC : gc1.1 = mX1_checkBlock gc0) (eM : gm1.1 = mX12_checkBlock gm0) (hB : zPC G f N M P A T Q Pa bb S F C R W V o w n q (d + 1) (mX1_checkBlock gc0) (mX12_checkBlock gm0)) (hx : zCx G f N M P A T Q Pa bb S F C R W V o w t u) (hc : zCk f N n d q t u) (h70 : u 0 70 = Int32.ofNat kp) (hkp : kp ≤ n * d) (hs : s < S) (ho : o s = (d, q)) (hq : q < Q) (hA : n * (3 + 2 * d) ≤ 80000) (hv : ∀ x, x < S → zSub t s x → ¬ zVis g x) (hk : t 87 s = 7) :
    ∃ b b' t2 u2 g2, mX1_checkStatement gc (Int32.ofNat s) (Int32.ofNat d) t = some (b, t2) ∧ mX12_checkOne gm (Int32.ofNat s) (Int32.ofNat d) u = some (b', u2) ∧ (zBadC t u b t2 u2 ∨ (b' = b ∧ zStG w f N Q S n d kp s t u g b t2 u2 g2)) := by
  have tre := zTre_x hx
  have hS := tre.1
  have hs1 : s < 1000 := by omega
  have hs16 : s < 1600 := by omega
  obtain ⟨v1, v2, v3, v4⟩ := zlv n d
  have hP := hx.2.2.2.1
  obtain ⟨⟨⟨p1, p2⟩, hst⟩, _, _, _⟩ := hP.2.2.2.2.2.2.2.2.2.2.2.2.2.2.2 s hs
  have hW := hx.2.2.2.2.2.2.2.2.2.2.1
  have st : u 14 s = 6 ∧ zSo t (o s).2 (t 91 s) (u 16 s) ∧ zBc (zBk G) o w S W V t u s ∧ zDp G o s := by
    rcases hst with ⟨e1, _⟩ | ⟨e1, _⟩ | ⟨e1, _⟩ | ⟨e1, _⟩ | ⟨e1, _⟩ | ⟨_, e2, e3, _, e5, e6⟩ | ⟨e1, _⟩ | ⟨e1, _⟩ | ⟨e1, _⟩
    · exact absurd hk (by rcases e1 with e | e <;> rw [e.1] <;> decide)
    · exact absurd hk (by rw [e1]; decide)
    · exact absurd hk (by rcases e1 with e | e | e <;> rw [e.1] <;> decide)
    · exact absurd hk (by rw [e1]; decide)
    · exact absurd hk (by rw [e1]; decide)
    · exact ⟨e2, e3, e5, e6⟩
    · exact absurd hk (by rcases e1 with e | e | e <;> rw [e.1] <;> decide)
    · exact absurd hk (by rw [e1]; decide)
    · exact absurd hk (by rw [e1]; decide)
  obtain ⟨e14, ⟨c, nn, s1, s2, s3, s4, s5⟩, ⟨m, a0, e, b1, b2, b3, b4, b5, b6, b7, b8⟩, dp⟩ := st
  have hd : d ≤ 38 := by have := dp.1; rw [ho] at this; exact this
  have hc0 := hc
  have own := zCk_ownV hx hc hq
  obtain ⟨k1, k2, k3, k4, k5, k6, k7, k8⟩ := hc
  have hcn : c < n := by
    rw [ho] at s3
    rw [show t 39 (d, q).2 = t 39 q from rfl, k5] at s3
    have := (zn_inj (by omega) (by omega)).mp s3
    omega
  have eCls : ∀ b, mX1_isGoodCase (Int32.ofNat s) t = some (b, t) → mX1_checkStatement gc (Int32.ofNat s) (Int32.ofNat d) t = bX1_checkStatement_145 gc (Int32.ofNat s) (Int32.ofNat d) 7 b t := fun b h => by
    unfold mX1_checkStatement
    rw [show mX5_get 86 1000 (Int32.ofNat s) t = some (t 87 s, t) from zn_get hs1 (by decide), pl_bd, hk, if_neg (by decide), if_neg (by decide), if_pos rfl, h, pl_bd]
  have eRef : mX12_checkOne gm (Int32.ofNat s) (Int32.ofNat d) u = zbd (mX12_checkCase gm1 (Int32.ofNat s) (Int32.ofNat d) u) fun r3970 t3971 => z01 r3970 (some (r3970, t3971)) := by
    unfold mX12_checkOne
    rw [zn_rd hs16 (by decide), zn_rd hs16 (by decide), zn_rd hs16 (by decide), e14, if_neg (by decide), if_neg (by decide), if_neg (by decide), if_neg (by decide), if_neg (by decide), if_neg (by decide), if_pos rfl, eM1]
  rw [eRef]
  rcases zCasG (gm := gm1) hx hc0 hs s1 s2 hcn b1 b2 b3 b4 b5 (fun j hj => (b6 j hj).1) with ⟨z1, z2⟩ | ⟨z1, z2, a, b, va, vb, veq, h58, h42, ka, kb, h13, hpt⟩
  · rw [eCls 0 z1, pl_145b hs1, z2, pl_bd]
    exact ⟨0, 0, _, _, g, rfl, rfl, Or.inl ⟨zCf_zu (Or.inr (Or.inr (Or.inr ⟨rfl, Or.inr rfl⟩))), zCm_zu (Or.inr (Or.inr ⟨rfl, Or.inl rfl⟩)), Or.inl rfl, t 89 s, p2, zu_same _ _ _ _, zu_same _ _ _ _, zu_ne2 (by decide)⟩⟩
  rw [eCls 1 z1, z2]
  obtain ⟨uu, euu⟩ : ∃ uu, uu = zu u 0 70 (Int32.ofNat (kp + n)) := ⟨_, rfl⟩
  have mU : zCm u uu := by rw [euu]; exact zCm_zu (Or.inr (Or.inr ⟨rfl, Or.inr (Or.inr rfl)⟩))
  have hxU := zCx_of hx (zCf_refl t) mU hx.2.2.1
  have uu42 : uu 42 = u 42 := by rw [euu]; exact zu_row (by decide)
  have hcU : zCk f N n d q t uu := ⟨k1, k2, by rw [euu, zu_ne2 (by decide)]; exact k3, by rw [euu, zu_ne2 (by decide)]; exact k4, k5, k6, k7, fun k hk => by rw [uu42]; exact k8 k hk⟩
  have I0 : zBI w N Q S n d kp s t uu g (zmv t 58 0 58 (n * (1 + 2 * d)) n) uu g (fun x => ∃ i, i < 0 ∧ zRb S t (t 111 (e i)) x) := by
    have := zBI_0 (w := w) (Q := Q) (d := d) (n := n) (kp := kp) (s := s) hx.2.2.1 (u := uu) (by rw [euu, zu_ne2 (by decide)]; exact k3) hv
    rw [show (fun x => ∃ i, i < 0 ∧ zRb S t (t 111 (e i)) x) = (fun _ => False) from funext fun x => propext ⟨fun ⟨i, h, _⟩ => by omega, fun h => h.elim⟩]
    exact this
  have hV := hx.2.2.2.2.2.2.2.2.2.2.2.1
  have m0 : zFU - m - 1 + m + 1 = zFU := by unfold zFU; omega
  obtain ⟨r, r', t2, u2, w1, w2, w3, w4⟩ := zCasLoop eC eM hB hxU hcU (by rw [euu, zu_same]) hkp hs ho hq hA hd b2 s1 hcn (by rw [mU.2 19 (by decide)]; exact b3) (by rw [mU.2 20 (by decide)]; exact b4) b5 (fun j hj => by rw [mU.2 23 (by decide), mU.2 24 (by decide)]; exact b6 j hj) b7 b8 va vb h58 (by rw [uu42]; exact h42) ka kb hpt m 0 (zFU - m - 1) (zFU - m - 1) 1 1 (fun _ => 0) _ _ _ (by omega) (Or.inr rfl) (Or.inr rfl) I0 (fun h => absurd h (by decide)) (fun _ i hi => by omega)
  rw [m0] at w1 w2
  have h105 : t 105 s = Int32.ofNat (e 0) := by have := b2.1; rw [if_neg (by omega)] at this; exact this
  have eC2 : mX1_checkBranches gc1 (Int32.ofNat s) (Int32.ofNat d) 1 t = some (r, t2) := by
    unfold mX1_checkBranches
    rw [k1, zn_lvl, pl_let, pl_let, zn_add, show mX5_copy 57 80000 0 (Int32.ofNat (n * (1 + 2 * d))) (Int32.ofNat n) t = some (0, zmv t 58 0 58 (n * (1 + 2 * d)) n) from pl_cp (a := 0) (by omega) (by omega), pl_bd, show mX5_get 104 1000 (Int32.ofNat s) (zmv t 58 0 58 (n * (1 + 2 * d)) n) = some ((zmv t 58 0 58 (n * (1 + 2 * d)) n) 105 s, (zmv t 58 0 58 (n * (1 + 2 * d)) n)) from zn_get hs1 (by decide), pl_bd, zmv_row (by decide), h105]
    rw [if_pos b1] at w1
    exact w1
  have eM2 : bX12_checkCase_111 gm1 (Int32.ofNat s) (Int32.ofNat d) (Int32.ofNat c) 1 u = some (r', u2) := by
    unfold bX12_checkCase_111
    rw [if_neg pl_10, pl_kept (n := n) h70 (own u rfl rfl), pl_bd, ← euu, zn_rd hs16 (by decide), mU.2 19 (by decide), b3]
    exact w2
  have zb : ∀ (x : Int32) (y : zS), x = 0 ∨ x = 1 → z01 x (some (x, y)) = some (x, y) := fun x y h => by rcases h with e | e <;> rw [e] <;> rfl
  have hr : r = 0 ∨ r = 1 := by
    rcases w4 with w4 | w4
    · exact w4.2.2.1
    · rw [← w4.1]; exact w3
  rw [eM2, pl_bd, zb r' u2 w3]
  have eSt : bX1_checkStatement_145 gc (Int32.ofNat s) (Int32.ofNat d) 7 1 t = some (r, t2) := by
    unfold bX1_checkStatement_145 bX1_checkStatement_169 bX1_checkStatement_183
    rw [if_neg pl_10, if_pos rfl, if_pos rfl, eC1, eC2, pl_bd, zb r t2 hr]
  rw [eSt]
  rcases w4 with ⟨y1, y2, y3⟩ | ⟨er, t3, u3, uF, g3, X, ρ, c1, c2, c3, c4, c5, c6, c7, c8⟩
  · exact ⟨r, r', t2, u2, g, rfl, rfl, Or.inl ⟨y1, zCm_trans mU y2, y3⟩⟩
  refine ⟨r, r', t2, u2, zGn g3 s (t 58) (t2 58) r, rfl, rfl, Or.inr ⟨er, ?_⟩⟩
  have hE := c1.1
  rw [euu] at hE
  have h1' := zBack70 hE h70
  have hx2 := zCx_of hx h1'.1 h1'.2.1 c1.2.1
  have e4 : ∀ k, k < n → t2 58 k = t3 58 (X + k) := fun k hk => by
    have := zmv_in (u := t3) (k1 := 58) (a := X) (k2 := 58) (b := 0) hk
    rw [show 0 + k = k by omega] at this
    rw [c2]; exact this
  have f4 : zCf t t2 := by rw [c2]; exact zCf_trans c1.1.1 zCf_mv
  have fr : zFrC w n d kp (fun _ => False) t3 (zu u3 0 70 (Int32.ofNat kp)) g3 t2 u2 g3 := by
    rw [c2, c3]
    exact zFrC_trans (R1 := fun _ => False) (R2 := fun _ => False) (zOn70 c4) (zFrC_mvC (by rw [zu_ne2 (by decide)]; exact c4.2.2.2.1) (Or.inl (by omega))) (fun _ a => a) (fun _ a => a)
  refine zFinC (q := q) hx2 hs hv h1' c1.2.2.2.2.1 (zFrC_gn hs1 fr) (by rw [c2]; exact zKp_mv c1.2.1) (fun k hk => ?_) c6 ?_
  · rw [e4 k hk, c3, zu_ne1 (by decide)]
    exact zRs_of (zTr_f f4) (c5 k hk)
  · obtain ⟨g1', g2', g3', g4'⟩ := zGn_at (g := g3) (r := t 58) (r2 := t2 58) (b := r) hs1
    have k87 : t2 87 s = 7 := by rw [f4.2.2 87 (by decide)]; exact hk
    refine ⟨fun w => absurd (Or.inl k87) w, fun w => absurd w (by rw [k87]; decide), fun w => absurd w (by rw [k87]; decide), fun w => absurd w (by rw [k87]; decide), fun _ => ⟨c, a, m, e, by rw [f4.2.2 91 (by decide)]; exact s1, hcn, by rw [g1']; exact h58, (zV_of (zTr_f f4) _).mpr va, ka, ?_, by rw [f4.2.2 13 (by decide)]; exact h13, by rw [f4.2.2 109 (by decide)]; exact b7, fun j hj => ?_⟩⟩
    · rw [f4.2.2 115 (by decide), f4.2.2 105 (by decide)]
      exact ⟨b2.1, fun j hj => ⟨by have := (b2.2 j hj).1; omega, (b2.2 j hj).2⟩⟩
    · obtain ⟨y, d1, d2, d3⟩ := c8 j hj
      rw [g1', f4.2.2 109 (by decide), f4.2.2 111 (by decide)]
      refine ⟨y, d1, by rw [c2, zmv_row (by decide)]; exact d2, ?_⟩
      have d4 : zBr (zD t) N n t (zGn g3 s (t 58) (t2 58) r) s (t 111 (e j)) (zur (t 58) c (zHo (zD t) y)) := zBr_gn hs1 d3 (fun x jj z q1 q2 q3 => by
        rcases zBl_fb hs1 (b6 j hj).2.1 with ⟨i1, _⟩ | ⟨rr, i1, _, i3, _, i5⟩
        · rw [i1] at q1
          exact absurd (show (0 : Int32) ≤ -1 by rw [q1]; exact zn_0le (by omega)) zn_m1
        · have ex : rr = x := by rw [i1] at q1; exact (zn_inj (by omega) (by omega)).mp q1
          subst ex
          have an := zNxt_at tre jj rr z i3 q3
          exact ⟨by omega, (zReg_in tre hs i3 i5 ⟨an.1, jj, z, q3, zSub_refl t z⟩).2.1, rfl, rfl, rfl⟩) (c7.imp id fun h => ⟨rfl, fun k hk => by rw [e4 k hk]; exact h k hk⟩)
      exact zBr_f d4 f4 ⟨rfl, rfl, rfl⟩ (fun _ _ _ _ _ _ => ⟨rfl, rfl, rfl⟩)
