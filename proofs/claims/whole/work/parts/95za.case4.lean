/-! CHECK: case, one BLOCK after another -/
theorem zCasLoop {gc gc0 : GgX1_checkBlock} {gm gm0 : GgX12_checkBlock} {G : zTxt} {f : Nat → Nat} {N M P A T Q Pa bb S F C R W V n q d kp s c a b a0 m : Nat} {e : Nat → Nat} {o : Nat → Nat × Nat} {w : Nat → Nat} {t u g : zS} (eC : gc.1 = mX1_checkBlock gc0) (eM : gm.1 = mX12_checkBlock gm0) (hB : zPC G f N M P A T Q Pa bb S F C R W V o w n q (d + 1) (mX1_checkBlock gc0) (mX12_checkBlock gm0)) (hx : zCx G f N M P A T Q Pa bb S F C R W V o w t u) (hc : zCk f N n d q t u) (h70 : u 0 70 = Int32.ofNat (kp + n)) (hkp : kp ≤ n * d) (hs : s < S) (ho : o s = (d, q)) (hq : q < Q) (hA : n * (3 + 2 * d) ≤ 80000) (hd : d ≤ 38) (hl : zLk (t 115) W m (t 105 s) e) (h91 : t 91 s = Int32.ofNat c) (hcn : c < n) (h19 : u 19 s = Int32.ofNat a0) (h20 : u 20 s = Int32.ofNat m) (ham : a0 + m ≤ V) (hbr : ∀ j, j < m → zNm (zBk G) (t 109 (e j)) (u 23 (a0 + j)) ∧ zBl t o s S (-2 - Int32.ofNat s) (t 111 (e j)) (u 24 (a0 + j)) ∧ w (e j) = s) (hds : zDs m e (t 109)) (hdis : ∀ j l, j < l → l < m → t 111 (e j) = t 111 (e l) → t 111 (e j) = -1) (va : zV N t a) (vb : zV N t b) (h58 : t 58 c = Int32.ofNat a) (h42 : u 42 (1500 * d + c) = Int32.ofNat (zF f b)) (ka : (zD t).kd a = 9) (kb : (zD t).kd b = 9) (hpt : ∀ j, j < m → ∃ y y', (zD t).pt a (t 109 (e j)) = some y ∧ (zD t).pt b (t 109 (e j)) = some y' ∧ zEq (zD t) y y') :
    ∀ (l j fu fv : Nat) (x6 x7 : Int32) (ρ : Nat → Int32) (t1 u1 g1 : zS), j + l = m → (x6 = 0 ∨ x6 = 1) → (x7 = 0 ∨ x7 = 1) → zBI w N Q S n d kp s t u g t1 u1 g1 (fun x => ∃ i, i < j ∧ zRb S t (t 111 (e i)) x) → (x6 = 0 → ∀ k, k < n → t1 58 (n * (1 + 2 * d) + n + k) = ρ k ∧ zRs (zD t) N t f (ρ k) (u1 43 (kp + k))) → (x7 = 1 → ∀ i, i < j → ∃ y, (zD t).pt a (t 109 (e i)) = some y ∧ t1 113 (e i) = zCz (zD t) y ∧ zBr (zD t) N n t (zGn g1 s (t 58) ρ x6) s (t 111 (e i)) (zur (t 58) c (zHo (zD t) y))) →
    ∃ r r' t2 u2, lX1_checkBranches_57 gc (fu + l + 1) (Int32.ofNat s) (Int32.ofNat d) 1 (Int32.ofNat (n * (1 + 2 * d))) (Int32.ofNat (n * (1 + 2 * d) + n)) x6 x7 (if j < m then Int32.ofNat (e j) else -1) (Int32.ofNat j) t1 = some (r, t2) ∧ lX12_checkCase_148 gm (fv + l + 1) (Int32.ofNat s) (Int32.ofNat d) (Int32.ofNat c) (Int32.ofNat kp) (if x6 = 0 then 1 else 0) x7 (Int32.ofNat (a0 + j)) u1 = some (r', u2) ∧ (r' = 0 ∨ r' = 1) ∧ (zBadC t u r t2 u2 ∨ (r' = r ∧ zCEnd w f N Q S n d kp s c a m e t u g r t2 u2)) := by
  have tre := zTre_x hx
  have hS := tre.1
  have hs1 : s < 1000 := by omega
  obtain ⟨v1, v2, v3, v4⟩ := zlv n d
  have own := zCk_ownV hx hc hq
  have hW := hx.2.2.2.2.2.2.2.2.2.2.1
  have hV := hx.2.2.2.2.2.2.2.2.2.2.2.1
  have hN := hx.1.2.2.2.1
  have hc0 := hc
  obtain ⟨k1, k2, k3, k4, k5, k6, k7, k8⟩ := hc
  intro l
  induction l with
  | zero =>
    intro j fu fv x6 x7 ρ t1 u1 g1 hj h6 h7 hI hρ hn
    have ej : j = m := by omega
    subst ej
    obtain ⟨t2, u2, z1, z2, z3⟩ := zCasE (gc := gc) (gm := gm) (x9 := Int32.ofNat j) hx hc0 hkp hs hq hA hd h19 h20 (by omega) h6 h7 hI hρ hn fu fv
    rw [if_neg (Nat.lt_irrefl j)]
    exact ⟨x6, x6, t2, u2, z1, z2, h6, z3.imp id (fun a => ⟨rfl, a⟩)⟩
  | succ l ih =>
    intro j fu fv x6 x7 ρ t1 u1 g1 hj h6 h7 hI hρ hn
    have hj1 : j < m := by omega
    obtain ⟨lk1, lk2⟩ := hl.2 j hj1
    obtain ⟨⟨lv, lw, q1, q2, q3, q4⟩, hbl, hwe⟩ := hbr j hj1
    obtain ⟨y, y', hy1, hy2, hy3⟩ := hpt j hj1
    have t6 : t1 6 = t 6 := hI.1.2.2.1
    have u67 : u1 0 67 = -1 := hI.1.2.2.2.1
    have f1 : zCf t t1 := hI.1.1
    have m1 : zCm u u1 := hI.1.2.1
    have own1 : ∀ v : zS, v 31 = u1 31 → v 0 68 = u1 0 68 → mX12_ownMany (v 0 68) v = some (Int32.ofNat n, v) := fun v e1 e2 => own v (by rw [e1, m1.2 31 (by decide)]) (by rw [e2, hI.1.2.2.2.2.1])
    -- the class ahead of the BLOCK
    obtain ⟨tc, etc⟩ : ∃ tc, tc = zmv t1 58 (n * (1 + 2 * d)) 58 0 n := ⟨_, rfl⟩
    have fc : zCf t tc := by rw [etc]; exact zCf_trans f1 zCf_mv
    have hxc := zCx_of hx fc (zCm_refl u) (by rw [etc]; exact zKp_mv hI.2.1)
    have eDc : zD tc = zD t := zD_of (zTr_f fc)
    have vac : zV N tc a := (zV_of (zTr_f fc) _).mpr va
    have c58 : tc 58 c = Int32.ofNat a := by
      have := zmv_in (u := t1) (k1 := 58) (a := n * (1 + 2 * d)) (k2 := 58) (b := 0) hcn
      rw [show 0 + c = c by omega] at this
      rw [etc, this, hI.2.2.1 c hcn]; exact h58
    obtain ⟨dd, c0, cl, cpt⟩ : ∃ dd, dd < N ∧ mX2_byLabel (Int32.ofNat a) (t 109 (e j)) tc = some (Int32.ofNat (2 * dd + a % 2), tc) ∧ (zD tc).pt a (t 109 (e j)) = some (zSg2 tc (2 * dd + a % 2)) := by
      rcases pl_byLabelC hxc.1 vac (Or.inr (by rw [eDc]; exact ka)) (t 109 (e j)) with ⟨_, b2⟩ | h
      · rw [eDc, hy1] at b2; cases b2
      · exact h
    have ey : zSg2 tc (2 * dd + a % 2) = y := by
      rw [eDc, hy1] at cpt
      exact (Option.some.inj cpt).symm
    have vy : zV N t y := by
      have := zV_sg (s := 2 * dd + a % 2) hxc.1 (by omega)
      rw [ey] at this
      exact (zV_of (zTr_f fc) _).mp this
    obtain ⟨t0, et0⟩ : ∃ t0, t0 = zu (zu (zmv t1 58 (n * (1 + 2 * d)) 58 0 n) 58 c (zHo (zD t) y)) 113 (e j) (zCz (zD t) y) := ⟨_, rfl⟩
    have eCls : lX1_checkBranches_57 gc (fu + (l + 1) + 1) (Int32.ofNat s) (Int32.ofNat d) 1 (Int32.ofNat (n * (1 + 2 * d))) (Int32.ofNat (n * (1 + 2 * d) + n)) x6 x7 (if j < m then Int32.ofNat (e j) else -1) (Int32.ofNat j) t1 = bX1_checkBranches_151 gc (lX1_checkBranches_57 gc (fu + l + 1)) (Int32.ofNat s) (Int32.ofNat d) 1 (Int32.ofNat (n * (1 + 2 * d))) (Int32.ofNat (n * (1 + 2 * d) + n)) x6 x7 (Int32.ofNat (e j)) (Int32.ofNat j) t0 := by
      rw [if_pos hj1]
      show bX1_checkBranches_57 gc (lX1_checkBranches_57 gc (fu + l + 1)) _ _ _ _ _ _ _ _ _ t1 = _
      unfold bX1_checkBranches_57
      have hold := pl_hold (k := c) (s := 2 * dd + a % 2) hxc.1 hxc.2.1 (by omega) (by omega)
      rw [ey, eDc] at hold
      rw [if_neg (show ¬ (1600 : Int32) ≤ Int32.ofNat j from fun w => by have := (zn_le (a := 1600) (by decide) (by omega)).mp w; omega), if_neg (zn_neg (by omega)), t6, k1, show mX5_copy 57 80000 (Int32.ofNat (n * (1 + 2 * d))) 0 (Int32.ofNat n) t1 = some (0, tc) by rw [etc]; exact pl_cp (b := 0) (by omega) (by omega), pl_bd, if_neg pl_10, show mX5_get 90 1000 (Int32.ofNat s) tc = some (Int32.ofNat c, tc) by rw [← h91, ← fc.2.2 91 (by decide)]; exact zn_get hs1 (by decide), pl_bd, show mX5_get 57 80000 (Int32.ofNat c) tc = some (Int32.ofNat a, tc) by rw [← c58]; exact zn_get (by omega) (by decide), pl_bd, show mX5_get 108 1600 (Int32.ofNat (e j)) tc = some (t 109 (e j), tc) by rw [← fc.2.2 109 (by decide)]; exact zn_get (by omega) (by decide), pl_bd, cl, pl_bd, hold, pl_bd, show ∀ v (t' : zS), mX5_set 112 1600 (Int32.ofNat (e j)) v t' = some (0, zu t' 113 (e j) v) from fun v t' => zn_set (by omega) (by decide), pl_bd, et0, ← etc]
      rfl
    -- the reference ahead of it
    obtain ⟨uc, euc⟩ : ∃ uc, uc = zmv u1 42 (1500 * d) 42 (1500 * (d + 1)) n := ⟨_, rfl⟩
    have mc : zCm u uc := by rw [euc]; exact zCm_trans m1 (zCm_mv (Or.inl rfl))
    have hxm := zCx_of hx (zCf_refl t) mc hx.2.2.1
    have uc42 : uc 42 (1500 * d + c) = Int32.ofNat (zF f b) := by
      rw [euc, zmv_out (by omega), hI.2.2.2.1 c hcn]; exact h42
    obtain ⟨vy', ml⟩ : zV N t y' ∧ mX12_byLabel (Int32.ofNat (zF f b)) (Int32.ofNat lw) uc = some (Int32.ofNat (zF f y'), uc) := by
      rcases pl_byLabelM hxm.1 vb (Or.inr kb) q1 q4 with ⟨_, b2⟩ | ⟨z, b0, b1, b2⟩
      · rw [← q2, hy2] at b2; cases b2
      · rw [← q2, hy2] at b2
        rw [Option.some.inj b2]; exact ⟨b0, b1⟩
    obtain ⟨u0, eu0⟩ : ∃ u0, u0 = zu (zmv u1 42 (1500 * d) 42 (1500 * (d + 1)) n) 42 (1500 * (d + 1) + c) (if (zD t).kd y' = 0 then -1 else Int32.ofNat (zF f y')) := ⟨_, rfl⟩
    obtain ⟨n1, n2, n3, n4, n5, n6, n7, n8, n9⟩ := zEntC (kq := kp + n) hx hc0 hI hcn hwe vy vy' hy3 t0 u0 et0 eu0
    have f0 : zCf t t0 := zCf_trans f1 n1.1
    have fb := zBl_fb hs1 hbl
    have dis : ∀ x, zRb S t (t 111 (e j)) x → ¬ ∃ i, i < j ∧ zRb S t (t 111 (e i)) x := fun x b1 ⟨i, i1, i2⟩ => zRb_two tre (hbr i (by omega)).2.1 hbl (hdis i j i1 hj1) i2 b1
    obtain ⟨r1, r1', t2, u2, g2, z1, z2, z3⟩ := zRunB (kp := kp) (kq := kp + n) hB hx hc0 h70 (by omega) (by omega) hs ho hd hI n1 n2 n4 (fun k hk => n5 _ (by omega)) (fun k hk => n6 _ (by omega)) fb dis
    have eRef : lX12_checkCase_148 gm (fv + (l + 1) + 1) (Int32.ofNat s) (Int32.ofNat d) (Int32.ofNat c) (Int32.ofNat kp) (if x6 = 0 then 1 else 0) x7 (Int32.ofNat (a0 + j)) u1 = if (u2 0 67) < 0 then if r1' = 0 then if (if x6 = 0 then (1 : Int32) else 0) = 0 then zbd (mX12_keepAll (Int32.ofNat (d + 1)) (Int32.ofNat kp) u2) fun _ v => lX12_checkCase_148 gm (fv + l + 1) (Int32.ofNat s) (Int32.ofNat d) (Int32.ofNat c) (Int32.ofNat kp) 1 x7 (Int32.ofNat (a0 + (j + 1))) v else if x7 = 0 then lX12_checkCase_148 gm (fv + l + 1) (Int32.ofNat s) (Int32.ofNat d) (Int32.ofNat c) (Int32.ofNat kp) 1 0 (Int32.ofNat (a0 + (j + 1))) u2 else zbd (mX12_isKept (Int32.ofNat (d + 1)) (Int32.ofNat kp) u2) fun r v => if r = 0 then lX12_checkCase_148 gm (fv + l + 1) (Int32.ofNat s) (Int32.ofNat d) (Int32.ofNat c) (Int32.ofNat kp) 1 0 (Int32.ofNat (a0 + (j + 1))) v else lX12_checkCase_148 gm (fv + l + 1) (Int32.ofNat s) (Int32.ofNat d) (Int32.ofNat c) (Int32.ofNat kp) 1 1 (Int32.ofNat (a0 + (j + 1))) v else lX12_checkCase_148 gm (fv + l + 1) (Int32.ofNat s) (Int32.ofNat d) (Int32.ofNat c) (Int32.ofNat kp) (if x6 = 0 then 1 else 0) x7 (Int32.ofNat (a0 + (j + 1))) u2 else some (0, u2) := by
      show bX12_checkCase_148 gm (lX12_checkCase_148 gm (fv + l + 1)) _ _ _ _ _ _ _ u1 = _
      unfold bX12_checkCase_148 bX12_checkCase_255 bX12_checkCase_256 bX12_checkCase_270 bX12_checkCase_273
      rw [zn_rd (by omega) (by decide), zn_rd (by omega) (by decide), m1.2 19 (by decide), m1.2 20 (by decide), h19, h20, zn_add, if_neg (fun w => by have := (zn_le (by omega) (by omega)).mp w; omega), pl_copyDown (by omega) (by omega) own1, pl_bd, ← euc, pl_channel (by omega) (by omega), pl_bd, zn_rd (by omega) (by decide), mc.2 23 (by decide), uc42, q3, ml, pl_bd, zn_1, pl_setCh hxm.1 (by omega) (by omega) vy', pl_bd, zn_rd (by omega) (by decide), euc, ← eu0, n1.2.1.2 24 (by decide), m1.2 24 (by decide), eM, z2, pl_bd]
      simp only [pl_let, zn_1]
      rfl
    rw [eCls, eRef, pl_151 (by omega) (by rw [f0.2.2 111 (by decide), zn_1, eC]; exact z1)]
    rcases z3 with ⟨y1, y2, y3, p, y4, y5, y6, y7⟩ | ⟨ebb, zg⟩
    · have nn : ¬ p < 0 := Int32.not_lt.mpr y4
      rw [if_neg (by rw [y5]; exact nn), if_neg (by rw [y6]; exact nn)]
      exact ⟨0, 0, t2, u2, rfl, rfl, Or.inl rfl, Or.inl ⟨y1, y2, Or.inl rfl, p, y4, y5, y6, y7⟩⟩
    subst ebb
    obtain ⟨hbv, I2, rw2, l2, kk2, gs2, h113, nt2⟩ := zg
    have eDn : (fun x => (∃ i, i < j ∧ zRb S t (t 111 (e i)) x) ∨ zRb S t (t 111 (e j)) x) = (fun x => ∃ i, i < j + 1 ∧ zRb S t (t 111 (e i)) x) := by
      funext x
      apply propext
      constructor
      · rintro (⟨i, i1, i2⟩ | i2)
        · exact ⟨i, by omega, i2⟩
        · exact ⟨j, by omega, i2⟩
      · rintro ⟨i, i1, i2⟩
        by_cases ei : i = j
        · rw [ei] at i2; exact Or.inr i2
        · exact Or.inl ⟨i, by omega, i2⟩
    rw [eDn] at I2
    have tt6 : t2 6 = t 6 := I2.1.2.2.1
    have u267 : u2 0 67 = -1 := I2.1.2.2.2.1
    have f2 : zCf t t2 := I2.1.1
    have m2 : zCm u u2 := I2.1.2.1
    have own2 : ∀ v : zS, v 31 = u2 31 → v 0 68 = u2 0 68 → mX12_ownMany (v 0 68) v = some (Int32.ofNat n, v) := fun v e1 e2 => own v (by rw [e1, m2.2 31 (by decide)]) (by rw [e2, I2.1.2.2.2.2.1])
    have inR : ∀ i x jj y, i < m → t 111 (e i) = Int32.ofNat x → x < 1000 → zNxt t jj x y → y < S ∧ ¬ y = s ∧ zRb S t (t 111 (e i)) y := fun i x jj y hi b1 b2 b3 => by
      rcases zBl_fb hs1 (hbr i hi).2.1 with ⟨d1, _⟩ | ⟨r, d1, _, d3, _, d5⟩
      · rw [d1] at b1
        exact absurd (show (0 : Int32) ≤ -1 by rw [b1]; exact zn_0le (by omega)) zn_m1
      · have ex : r = x := by rw [d1] at b1; exact (zn_inj (by omega) (by omega)).mp b1
        subst ex
        have a := zNxt_at tre jj r y d3 b3
        have hr : zReg S t r y := ⟨a.1, jj, y, b3, zSub_refl t y⟩
        exact ⟨a.1, (zReg_in tre hs d3 d5 hr).2.1, r, d1, b2, hr⟩
    have sNot : ¬ zRb S t (t 111 (e j)) s := fun ⟨r, b1, b2, b3⟩ => by
      rcases fb with ⟨d1, _⟩ | ⟨r', d1, _, d3, _, d5⟩
      · rw [d1] at b1
        exact absurd (show (0 : Int32) ≤ -1 by rw [b1]; exact zn_0le (by omega)) zn_m1
      · have ex : r' = r := by rw [d1] at b1; exact (zn_inj (by omega) (by omega)).mp b1
        subst ex
        exact (zReg_in tre hs d3 d5 b3).2.1 rfl
    have c113 : ∀ i, i < j + 1 → ∀ y2, (zD t).pt a (t 109 (e i)) = some y2 → (i < j → t1 113 (e i) = zCz (zD t) y2) → t2 113 (e i) = zCz (zD t) y2 := fun i hi y2 b1 b2 => by
      have li := (hl.2 i (by omega)).1
      rw [h113 (e i) (by omega) (by rw [(hbr i (by omega)).2.2]; exact sNot)]
      by_cases ei : i = j
      · rw [ei, hy1] at b1
        rw [ei, n7, Option.some.inj b1]
      · rw [n8 (e i) (fun q => hds i j (by omega) hj1 (by rw [q]))]
        exact b2 (by omega)
    have notes : ∀ (x6' : Int32) (ρ' : Nat → Int32) (t3 : zS), t3 113 = t2 113 → x7 = 1 → (x6 = 1 ∨ (x6' = x6 ∧ ∀ k, k < n → ρ' k = ρ k)) → (r1' = 1 ∨ (r1' = 0 ∧ x6' = 0 ∧ ∀ k, k < n → zRe (zD t) N t (t2 58 k) (ρ' k))) → ∀ i, i < j + 1 → ∃ y, (zD t).pt a (t 109 (e i)) = some y ∧ t3 113 (e i) = zCz (zD t) y ∧ zBr (zD t) N n t (zGn g2 s (t 58) ρ' x6') s (t 111 (e i)) (zur (t 58) c (zHo (zD t) y)) := fun x6' ρ' t3 a1 a2 a3 a4 i hi => by
      rw [a1]
      by_cases ei : i = j
      · rw [ei]
        refine ⟨y, hy1, c113 j (by omega) y hy1 (fun q => absurd q (Nat.lt_irrefl j)), zBr_mk tre hs (fun r b1 b2 => ?_) nt2 (fun _ _ => ⟨rfl, rfl, rfl⟩) n3 a4⟩
        rcases fb with ⟨d1, _⟩ | ⟨r', d1, _, d3, _, d5⟩
        · rw [d1] at b1
          exact absurd (show (0 : Int32) ≤ -1 by rw [b1]; exact zn_0le (by omega)) zn_m1
        · rw [d1] at b1
          rw [← (zn_inj (by omega) (by omega)).mp b1]; exact d5
      · obtain ⟨y2, b1, b2, b3⟩ := hn a2 i (by omega)
        refine ⟨y2, b1, c113 i hi y2 b1 (fun _ => b2), zBr_gn hs1 b3 (fun x jj z d1 d2 d3 => ?_) a3⟩
        obtain ⟨w1, w2, w3⟩ := inR i x jj z (by omega) d1 d2 d3
        exact ⟨by omega, w2, gs2 z (by omega) (fun q => dis z q ⟨i, by omega, w3⟩)⟩
    have keepT : ∀ k, k < n → t2 58 (n * (1 + 2 * d) + n + k) = t1 58 (n * (1 + 2 * d) + n + k) := fun k hk => by
      rw [l2 _ (by omega) (by omega), n5 _ (by omega)]
    have keepU : ∀ k, k < n → u2 43 (kp + k) = u1 43 (kp + k) := fun k hk => by
      rw [kk2 _ (by omega), n9]
    have nx : ∀ t3 : zS, zCf t t3 → t3 115 (e j) = if j + 1 < m then Int32.ofNat (e (j + 1)) else -1 := fun t3 h => by
      rw [h.2.2 115 (by decide)]; exact lk2
    have t25 : t2 6 5 = Int32.ofNat n := by rw [tt6]; exact k1
    rw [if_pos (show t2 6 6 < 0 by rw [tt6, k2]; decide), if_pos (show u2 0 67 < 0 by rw [u267]; decide)]
    rcases hbv with cb | cb
    · rw [if_pos cb, if_pos cb]
      rcases h6 with c6 | c6
      · rw [if_pos c6, if_neg (show ¬ (if x6 = 0 then (1 : Int32) else 0) = 0 by rw [if_pos c6]; decide)]
        rcases h7 with c7 | c7
        · rw [if_pos c7, if_pos c7, nx t2 f2]
          have := ih (j + 1) fu fv x6 0 ρ t2 u2 g2 (by omega) (Or.inl c6) (Or.inl rfl) I2 (fun _ k hk => by rw [keepT k hk, keepU k hk]; exact hρ c6 k hk) (fun q => absurd q (by decide))
          rw [if_pos c6] at this
          exact this
        · rw [if_neg (show ¬ x7 = 0 by rw [c7]; decide), if_neg (show ¬ x7 = 0 by rw [c7]; decide)]
          have hx2 := zCx_of hx f2 m2 I2.2.1
          obtain ⟨cc, t3, u3, q1', q2', q3', q4', q5', q6'⟩ := zKept (q := q) (a0 := n * (1 + 2 * d) + n) (kp := kp) hx2 t25 (by omega) (by omega) (by omega) (by omega) own2 rw2 (fun k hk => by rw [keepT k hk, keepU k hk, (hρ c6 k hk).1]; exact zRs_of (zTr_f f2) (hρ c6 k hk).2)
          rw [q1', pl_bd, q2', pl_bd, nx t3 (zCf_trans f2 (zCf_c q3'))]
          have I3 := zBI_mv hx I2 (zFrC_c u267 q3' q5') q4' (fun k hk => by rw [q3'.2 58 (by decide)]) (fun k hk => by rw [q5'.2 42 (by decide)])
          have ρ3 : x6 = 0 → ∀ k, k < n → t3 58 (n * (1 + 2 * d) + n + k) = ρ k ∧ zRs (zD t) N t f (ρ k) (u3 43 (kp + k)) := fun _ k hk => by
            rw [q3'.2 58 (by decide), q5'.2 43 (by decide), keepT k hk, keepU k hk]; exact hρ c6 k hk
          rcases q6' with ⟨d1, d2⟩ | ⟨d1, _⟩
          · rw [if_neg (show ¬ cc = 0 by rw [d1]; decide), if_neg (show ¬ cc = 0 by rw [d1]; decide)]
            have := ih (j + 1) fu fv x6 1 ρ t3 u3 g2 (by omega) (Or.inl c6) (Or.inr rfl) I3 ρ3 (fun _ => notes x6 ρ t3 (q3'.2 113 (by decide)) c7 (Or.inr ⟨rfl, fun _ _ => rfl⟩) (Or.inr ⟨cb, c6, fun k hk => by
              have a := zRe_back f2 (d2 k hk)
              rw [keepT k hk, (hρ c6 k hk).1] at a
              exact a⟩))
            rw [if_pos c6] at this
            exact this
          · rw [if_pos d1, if_pos d1]
            have := ih (j + 1) fu fv x6 0 ρ t3 u3 g2 (by omega) (Or.inl c6) (Or.inl rfl) I3 ρ3 (fun q => absurd q (by decide))
            rw [if_pos c6] at this
            exact this
      · have n6' : ¬ x6 = 0 := by rw [c6]; decide
        rw [if_neg n6', if_pos (show (if x6 = 0 then (1 : Int32) else 0) = 0 by rw [if_neg n6']), show mX5_copy 57 80000 0 (Int32.ofNat (n * (1 + 2 * d) + n)) (t2 6 5) t2 = some (0, zmv t2 58 0 58 (n * (1 + 2 * d) + n) n) by rw [t25]; exact pl_cp (a := 0) (by omega) (by omega), pl_bd, pl_keepAll (by omega) (by omega) (by omega) own2, pl_bd, nx _ (zCf_trans f2 zCf_mv)]
        exact ih (j + 1) fu fv 0 x7 (t2 58) _ _ g2 (by omega) (Or.inl rfl) h7 (zBI_mv hx I2 (zFrC_trans (R1 := fun _ => False) (R2 := fun _ => False) (zFrC_mvC u267 (Or.inr (by omega))) (zFrC_mvM u267 (Or.inr ⟨rfl, Nat.le_refl _⟩)) (fun _ a => a) (fun _ a => a)) (zKp_mv I2.2.1) (fun k hk => zmv_out (by omega)) (fun k hk => by rw [zmv_row (by decide)])) (fun _ k hk => ⟨by rw [zmv_in hk, show 0 + k = k by omega], by rw [zmv_in hk]; exact zRs_back f2 (rw2 k hk)⟩) (fun c7 => notes 0 (t2 58) _ (zmv_row (by decide)) c7 (Or.inl c6) (Or.inr ⟨cb, rfl, fun k hk => zRe_refl (zRs_back f2 (rw2 k hk))⟩))
    · rw [if_neg (show ¬ r1' = 0 by rw [cb]; decide), if_neg (show ¬ r1' = 0 by rw [cb]; decide), nx t2 f2]
      exact ih (j + 1) fu fv x6 x7 ρ t2 u2 g2 (by omega) h6 h7 I2 (fun c6 k hk => by rw [keepT k hk, keepU k hk]; exact hρ c6 k hk) (fun c7 => notes x6 ρ t2 rfl c7 (Or.inr ⟨rfl, fun _ _ => rfl⟩) (Or.inl cb))
