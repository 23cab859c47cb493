/-! CHECK: if, both sides -/
/-- the reference's if behind its condition -/
def zIfM (g : GgX12_checkBlock) (x1 x2 : Int32) (t4035 : zS) : zR := zbd (mX12_copyDown x2 t4035) fun r4037 t4038 => zrd t4038 19 1600 x1 fun v4040 => zbd (g.1 v4040 (x2 + 1) t4038) fun r4042 t4043 => if (t4043 0 67) < 0 then zbd (mX12_keptFrom t4043) fun r4045 t4046 => if r4042 = 0 then zbd (mX12_keepAll (x2 + 1) r4045 t4046) fun r4048 t4049 => bX12_checkIf_73 g x1 x2 r4042 r4045 t4049 else bX12_checkIf_73 g x1 x2 r4042 r4045 t4046 else some (0, t4043)
theorem zBl_fb {t : zS} {o : Nat → Nat × Nat} {s S : Nat} {x y : Int32} (hs : s < 1000) (h : zBl t o s S (-2 - Int32.ofNat s) x y) : (x = -1 ∧ y < 0) ∨ ∃ r, x = Int32.ofNat r ∧ y = Int32.ofNat r ∧ r < S ∧ o r = ((o s).1 + 1, (o s).2) ∧ t 101 r = Int32.ofNat s := by
  rcases h with ⟨h1, h2⟩ | ⟨r, h1, h2, _, h4, h5, h6⟩
  · exact Or.inl ⟨h1, by rw [h2]; exact zn_beh hs⟩
  · exact Or.inr ⟨r, h1, h2, h4, h5.1, h6⟩
/-- first words of different BLOCKS: no statement in both -/
theorem zRb_two {o : Nat → Nat × Nat} {s S x : Nat} {t : zS} {fa fb ya yb be : Int32} (tre : zTre o S t) (ha : zBl t o s S be fa ya) (hb : zBl t o s S be fb yb) (hne : fa = fb → fa = -1) (h1 : zRb S t fa x) : ¬ zRb S t fb x := by
  have hS := tre.1
  rintro ⟨r', p1, p2, p3⟩
  obtain ⟨r, q1, q2, q3⟩ := h1
  rcases ha with ⟨a1, _⟩ | ⟨ra, a1, _, _, a4, a5, _⟩
  · rw [a1] at q1
    exact absurd (show (0 : Int32) ≤ -1 by rw [q1]; exact zn_0le (by omega)) zn_m1
  · rcases hb with ⟨b1, _⟩ | ⟨rb, b1, _, _, b4, b5, _⟩
    · rw [b1] at p1
      exact absurd (show (0 : Int32) ≤ -1 by rw [p1]; exact zn_0le (by omega)) zn_m1
    · have e1 : ra = r := by rw [a1] at q1; exact (zn_inj (by omega) (by omega)).mp q1
      have e2 : rb = r' := by rw [b1] at p1; exact (zn_inj (by omega) (by omega)).mp p1
      subst e1 e2
      refine zReg_two tre a4 b4 (by rw [a5.1, b5.1]) a5.2 b5.2 (fun e => ?_) q3 p3
      have := hne (by rw [a1, b1, e])
      rw [a1] at this
      exact absurd (show (0 : Int32) ≤ -1 by rw [← this]; exact zn_0le (by omega)) zn_m1
theorem zIfC {gc gc0 : GgX1_checkBlock} {gm gm0 : GgX12_checkBlock} {G : zTxt} {f : Nat → Nat} {N M P A T Q Pa bb S F C R W V n q d kp s e0 e1 : Nat} {o : Nat → Nat × Nat} {w : Nat → Nat} {t u g : zS} (eC : gc.1 = mX1_checkBlock gc0) (eM : gm.1 = mX12_checkBlock gm0) (hB : zPC G f N M P A T Q Pa bb S F C R W V o w n q (d + 1) (mX1_checkBlock gc0) (mX12_checkBlock gm0)) (hx : zCx G f N M P A T Q Pa bb S F C R W V o w t u) (hc : zCk f N n d q t u) (h70 : u 0 70 = Int32.ofNat kp) (hkp : kp ≤ n * d) (hs : s < S) (ho : o s = (d, q)) (hq : q < Q) (hA : n * (3 + 2 * d) ≤ 80000) (hd : d ≤ 38) (hv : ∀ x, x < S → zSub t s x → ¬ zVis g x) (hk : t 87 s = 10) (h0 : e0 < 1600) (h1 : e1 < 1600) (h105 : t 105 s = Int32.ofNat e0) (h115 : t 115 e0 = Int32.ofNat e1) (h115b : t 115 e1 = -1) (hb0 : zBl t o s S (-2 - Int32.ofNat s) (t 111 e0) (u 19 s)) (hb1 : zBl t o s S (-2 - Int32.ofNat s) (t 111 e1) (u 20 s)) (hne : t 111 e0 = t 111 e1 → t 111 e0 = -1) :
    ∃ b b' t2 u2 g2, mX1_checkBranches gc (Int32.ofNat s) (Int32.ofNat d) 0 t = some (b, t2) ∧ zIfM gm (Int32.ofNat s) (Int32.ofNat d) u = some (b', u2) ∧ (b' = 0 ∨ b' = 1) ∧ (zBadC t u b t2 u2 ∨ (b' = b ∧ zStG w f N Q S n d kp s t u g b t2 u2 g2)) := by
  have tre := zTre_x hx
  have hS := tre.1
  have hs1 : s < 1000 := by omega
  obtain ⟨v1, v2, v3, v4⟩ := zlv n d
  have own := zCk_ownV hx hc hq
  have hc0 := hc
  obtain ⟨k1, k2, k3, k4, k5, k6, k7, k8⟩ := hc
  have hP := hx.2.2.2.1
  obtain ⟨⟨⟨p1, p2⟩, _⟩, _, _, _⟩ := hP.2.2.2.2.2.2.2.2.2.2.2.2.2.2.2 s hs
  have fb0 := zBl_fb hs1 hb0
  have fb1 := zBl_fb hs1 hb1
  obtain ⟨L, eL⟩ : ∃ L, L = n * (1 + 2 * d) := ⟨_, rfl⟩
  -- the class copies
  have cp : ∀ (t' : zS) (a b : Nat), t' 6 5 = Int32.ofNat n → a + n ≤ 80000 → b + n ≤ 80000 → mX5_copy 57 80000 (Int32.ofNat a) (Int32.ofNat b) (t' 6 5) t' = some (0, zmv t' 58 a 58 b n) := fun t' a b e ha hb => by
    rw [e]; exact pl_cp ha hb
  obtain ⟨tA, etA⟩ : ∃ tA, tA = zmv t 58 0 58 (n * (1 + 2 * d)) n := ⟨_, rfl⟩
  have I0 : zBI w N Q S n d kp s t u g tA u g (fun _ => False) := by rw [etA]; exact zBI_0 hx.2.2.1 k3 hv
  obtain ⟨n1, n2, n3, n4, n5, n6⟩ := zEnt (kq := kp) k8 k6 I0
  obtain ⟨t0, et0⟩ : ∃ t0, t0 = zmv tA 58 (n * (1 + 2 * d)) 58 0 n := ⟨_, rfl⟩
  obtain ⟨u0, eu0⟩ : ∃ u0, u0 = zmv u 42 (1500 * d) 42 (1500 * (d + 1)) n := ⟨_, rfl⟩
  rw [← et0] at n1 n2 n3 n4 n5
  rw [← eu0] at n1 n4 n6
  have f0 : zCf t t0 := zCf_trans I0.1.1 n1.1
  have m0 : zCm u u0 := zCm_trans I0.1.2.1 n1.2.1
  obtain ⟨b1, b1', tB, uB, gB, z1, z2, z3⟩ := zRunB (kp := kp) hB hx hc0 h70 (by omega) (Nat.le_refl _) hs ho hd I0 n1 n2 n4 (fun k hk => n5 _ (by omega)) (fun k hk => n6 _ (by omega)) fb0 (fun _ _ a => a)
  have at57 : ∀ (fu i e : Nat) (x6 x7 : Int32) (t' : zS), i < 1600 → e < 1600 → t' 6 5 = Int32.ofNat n → lX1_checkBranches_57 gc (fu + 1) (Int32.ofNat s) (Int32.ofNat d) 0 (Int32.ofNat L) (Int32.ofNat (L + n)) x6 x7 (Int32.ofNat e) (Int32.ofNat i) t' = bX1_checkBranches_151 gc (lX1_checkBranches_57 gc fu) (Int32.ofNat s) (Int32.ofNat d) 0 (Int32.ofNat L) (Int32.ofNat (L + n)) x6 x7 (Int32.ofNat e) (Int32.ofNat i) (zmv t' 58 L 58 0 n) := fun fu i e x6 x7 t' hi he h5 => by
    show bX1_checkBranches_57 gc _ _ _ _ _ _ _ _ _ _ t' = _
    unfold bX1_checkBranches_57
    rw [if_neg (show ¬ (1600 : Int32) ≤ Int32.ofNat i from fun w => by have := (zn_le (a := 1600) (by decide) (by omega)).mp w; omega), if_neg (zn_neg (by omega)), show (0 : Int32) = Int32.ofNat 0 from rfl, cp t' L 0 h5 (by omega) (by omega), pl_bd, if_pos rfl]
  have eCls : mX1_checkBranches gc (Int32.ofNat s) (Int32.ofNat d) 0 t = bX1_checkBranches_151 gc (lX1_checkBranches_57 gc (zFU - 1)) (Int32.ofNat s) (Int32.ofNat d) 0 (Int32.ofNat L) (Int32.ofNat (L + n)) 1 1 (Int32.ofNat e0) (Int32.ofNat 0) t0 := by
    unfold mX1_checkBranches
    have c0 : mX5_copy 57 80000 0 (Int32.ofNat L) (Int32.ofNat n) t = some (0, tA) := by
      rw [etA, ← eL]; exact pl_cp (a := 0) (by omega) (by omega)
    rw [k1, zn_lvl, ← eL, pl_let, pl_let, zn_add, c0, pl_bd, show mX5_get 104 1000 (Int32.ofNat s) tA = some (tA 105 s, tA) from zn_get hs1 (by decide), pl_bd, I0.1.1.2.2 105 (by decide), h105]
    have := at57 (zFU - 1) 0 e0 1 1 tA (by omega) h0 (by rw [I0.1.2.2.1]; exact k1)
    rw [show zFU - 1 + 1 = zFU from rfl] at this
    rw [et0, ← eL]; exact this
  have eRef : zIfM gm (Int32.ofNat s) (Int32.ofNat d) u = if (uB 0 67) < 0 then zbd (mX12_keptFrom uB) fun r4045 t4046 => if b1' = 0 then zbd (mX12_keepAll (Int32.ofNat (d + 1)) r4045 t4046) fun r4048 t4049 => bX12_checkIf_73 gm (Int32.ofNat s) (Int32.ofNat d) b1' r4045 t4049 else bX12_checkIf_73 gm (Int32.ofNat s) (Int32.ofNat d) b1' r4045 t4046 else some (0, uB) := by
    unfold zIfM
    rw [pl_copyDown (by omega) (by omega) own, pl_bd, ← eu0, zn_rd (by omega) (by decide), m0.2 19 (by decide), zn_1, eM, z2, pl_bd]
  have r111 : t0 111 e0 = t 111 e0 := by rw [f0.2.2 111 (by decide)]
  rw [eCls, eRef, pl_151 h0 (by rw [r111, zn_1, eC]; exact z1)]
  rcases z3 with ⟨y1, y2, y3, p, y4, y5, y6, y7⟩ | ⟨ebb, zg⟩
  · have nn : ¬ p < 0 := Int32.not_lt.mpr y4
    rw [if_neg (by rw [y5]; exact nn), if_neg (by rw [y6]; exact nn)]
    exact ⟨0, 0, tB, uB, g, rfl, rfl, Or.inl rfl, Or.inl ⟨y1, y2, Or.inl rfl, p, y4, y5, y6, y7⟩⟩
  subst ebb
  obtain ⟨hb1v, IB, rB, lB, kB, gsB, _, ntB⟩ := zg
  have tB6 : tB 6 = t 6 := IB.1.2.2.1
  have uB67 : uB 0 67 = -1 := IB.1.2.2.2.1
  rw [if_pos (show tB 6 6 < 0 by rw [tB6, k2]; decide), if_pos (show uB 0 67 < 0 by rw [uB67]; decide), if_neg (by decide : ¬ (1 : Int32) = 0)]
  -- what is kept of the first BLOCK
  obtain ⟨tC, etC⟩ : ∃ tC, tC = if b1' = 0 then zmv tB 58 0 58 (L + n) n else tB := ⟨_, rfl⟩
  obtain ⟨uC, euC⟩ : ∃ uC, uC = if b1' = 0 then zmv (zu uB 0 70 (Int32.ofNat (kp + n))) 42 (1500 * (d + 1)) 43 kp n else zu uB 0 70 (Int32.ofNat (kp + n)) := ⟨_, rfl⟩
  obtain ⟨x6, ex6⟩ : ∃ x6 : Int32, x6 = if b1' = 0 then 0 else 1 := ⟨_, rfl⟩
  have IB7 := zBI_70 (v := Int32.ofNat (kp + n)) IB
  obtain ⟨uu, euu⟩ : ∃ uu, uu = zu u 0 70 (Int32.ofNat (kp + n)) := ⟨_, rfl⟩
  rw [← euu] at IB7
  have mU : zCm u uu := by rw [euu]; exact zCm_zu (Or.inr (Or.inr ⟨rfl, Or.inr (Or.inr rfl)⟩))
  have hxU := zCx_of hx (zCf_refl t) mU hx.2.2.1
  have uu42 : uu 42 = u 42 := by rw [euu]; exact zu_row (by decide)
  have hcU : zCk f N n d q t uu := ⟨k1, k2, by rw [euu, zu_ne2 (by decide)]; exact k3, by rw [euu, zu_ne2 (by decide)]; exact k4, k5, k6, k7, fun k hk => by rw [uu42]; exact k8 k hk⟩
  have uB767 : (zu uB 0 70 (Int32.ofNat (kp + n))) 0 67 = -1 := by rw [zu_ne2 (by decide)]; exact uB67
  have IC : zBI w N Q S n d kp s t uu g tC uC gB (fun x => False ∨ zRb S t (t 111 e0) x) := by
    rw [etC, euC]
    by_cases c : b1' = 0
    · rw [if_pos c, if_pos c]
      refine zBI_mv hxU IB7 (zFrC_trans (R1 := fun _ => False) (R2 := fun _ => False) (zFrC_mvC uB767 (Or.inr (by omega))) (zFrC_mvM uB767 (Or.inr ⟨rfl, Nat.le_refl _⟩)) (fun _ a => a) (fun _ a => a)) (zKp_mv IB.2.1) (fun k hk => zmv_out (by omega)) (fun k hk => by rw [zmv_row (by decide)])
    · rw [if_neg c, if_neg c]; exact IB7
  have tC6 : tC 6 = t 6 := IC.1.2.2.1
  have fC : zCf t tC := IC.1.1
  have mC : zCm uu uC := IC.1.2.1
  have ownC : ∀ v : zS, v 31 = uC 31 → v 0 68 = uC 0 68 → mX12_ownMany (v 0 68) v = some (Int32.ofNat n, v) := fun v e1 e2 => own v (by rw [e1, mC.2 31 (by decide), mU.2 31 (by decide)]) (by rw [e2, IC.1.2.2.2.2.1, euu, zu_ne2 (by decide)])
  have ownB : ∀ v : zS, v 31 = uB 31 → v 0 68 = uB 0 68 → mX12_ownMany (v 0 68) v = some (Int32.ofNat n, v) := fun v e1 e2 => own v (by rw [e1, IB.1.2.1.2 31 (by decide)]) (by rw [e2, IB.1.2.2.2.2.1])
  have eRef2 : (zbd (mX12_keptFrom uB) fun r4045 t4046 => if b1' = 0 then zbd (mX12_keepAll (Int32.ofNat (d + 1)) r4045 t4046) fun r4048 t4049 => bX12_checkIf_73 gm (Int32.ofNat s) (Int32.ofNat d) b1' r4045 t4049 else bX12_checkIf_73 gm (Int32.ofNat s) (Int32.ofNat d) b1' r4045 t4046) = bX12_checkIf_73 gm (Int32.ofNat s) (Int32.ofNat d) b1' (Int32.ofNat kp) uC := by
    rw [pl_kept (n := n) (by rw [IB.1.2.2.2.2.2.1]; exact h70) (ownB uB rfl rfl), pl_bd, euC]
    by_cases c : b1' = 0
    · rw [if_pos c, if_pos c, pl_keepAll (by omega) (by omega) (by omega) (fun v e1 e2 => ownB v (by rw [e1]; exact zu_row (by decide)) (by rw [e2, zu_ne2 (by decide)])), pl_bd]
    · rw [if_neg c, if_neg c]
  have eCls2 : (if b1' = 0 then zbd (mX5_copy 57 80000 0 (Int32.ofNat (L + n)) (tB 6 5) tB) fun _ t3 => lX1_checkBranches_57 gc (zFU - 1) (Int32.ofNat s) (Int32.ofNat d) 0 (Int32.ofNat L) (Int32.ofNat (L + n)) 0 1 (t3 115 e0) (Int32.ofNat (0 + 1)) t3 else lX1_checkBranches_57 gc (zFU - 1) (Int32.ofNat s) (Int32.ofNat d) 0 (Int32.ofNat L) (Int32.ofNat (L + n)) 1 1 (tB 115 e0) (Int32.ofNat (0 + 1)) tB) = lX1_checkBranches_57 gc (zFU - 1) (Int32.ofNat s) (Int32.ofNat d) 0 (Int32.ofNat L) (Int32.ofNat (L + n)) x6 1 (Int32.ofNat e1) (Int32.ofNat 1) tC := by
    have r115 : tC 115 e0 = Int32.ofNat e1 := by rw [fC.2.2 115 (by decide)]; exact h115
    rw [ex6]
    by_cases c : b1' = 0
    · rw [if_pos c] at etC
      rw [if_pos c, if_pos c, show (0 : Int32) = Int32.ofNat 0 from rfl, cp tB 0 (L + n) (by rw [tB6]; exact k1) (by omega) (by omega), pl_bd, ← etC, r115]
    · rw [if_neg c] at etC
      rw [if_neg c, if_neg c, ← etC, r115]
  rw [eCls2, eRef2]
  -- the second BLOCK
  obtain ⟨o1, o2, o3, o4, o5, o6⟩ := zEnt (kq := kp + n) hcU.2.2.2.2.2.2.2 k6 IC
  obtain ⟨t3, et3⟩ : ∃ t3, t3 = zmv tC 58 (n * (1 + 2 * d)) 58 0 n := ⟨_, rfl⟩
  obtain ⟨u3, eu3⟩ : ∃ u3, u3 = zmv uC 42 (1500 * d) 42 (1500 * (d + 1)) n := ⟨_, rfl⟩
  rw [← et3] at o1 o2 o3 o4 o5
  rw [← eu3] at o1 o4 o6
  have f3 : zCf t t3 := zCf_trans fC o1.1
  obtain ⟨b2, b2', tD, uD, gD, w1, w2, w3⟩ := zRunB (kp := kp) (kq := kp + n) hB hxU hcU (by rw [euu, zu_same]) (by omega) (by omega) hs ho hd IC o1 o2 o4 (fun k hk => o5 _ (by omega)) (fun k hk => o6 _ (by omega)) fb1 (fun x a b => b.elim id (fun b => zRb_two tre hb0 hb1 hne b a))
  have e73 : bX12_checkIf_73 gm (Int32.ofNat s) (Int32.ofNat d) b1' (Int32.ofNat kp) uC = if (uD 0 67) < 0 then if b1' = 0 then if b2' = 0 then zbd (mX12_isKept (Int32.ofNat (d + 1)) (Int32.ofNat kp) uD) fun r4029 t4030 => if r4029 = 0 then bX12_checkIf_128 gm (Int32.ofNat s) (Int32.ofNat d) b1' (Int32.ofNat kp) b2' 0 t4030 else bX12_checkIf_145 gm (Int32.ofNat d) b1' (Int32.ofNat kp) b2' t4030 else bX12_checkIf_145 gm (Int32.ofNat d) b1' (Int32.ofNat kp) b2' uD else bX12_checkIf_145 gm (Int32.ofNat d) b1' (Int32.ofNat kp) b2' uD else some (0, uD) := by
    have m20 : u3 20 s = u 20 s := by rw [o1.2.1.2 20 (by decide), mC.2 20 (by decide), mU.2 20 (by decide)]
    unfold bX12_checkIf_73 bX12_checkIf_123
    rw [pl_copyDown (by omega) (by omega) ownC, pl_bd, ← eu3, zn_rd (by omega) (by decide), m20, zn_1, eM, w2, pl_bd]
    rfl
  have at2 := at57 (zFU - 2) 1 e1 x6 1 tC (by omega) h1 (by rw [tC6]; exact k1)
  rw [show zFU - 2 + 1 = zFU - 1 from rfl, eL, ← et3, ← eL] at at2
  rw [at2, e73, pl_151 h1 (by rw [f3.2.2 111 (by decide), zn_1, eC]; exact w1)]
  rcases w3 with ⟨y1, y2, y3, p, y4, y5, y6, y7⟩ | ⟨ebb, zg⟩
  · have nn : ¬ p < 0 := Int32.not_lt.mpr y4
    rw [if_neg (by rw [y5]; exact nn), if_neg (by rw [y6]; exact nn)]
    exact ⟨0, 0, tD, uD, g, rfl, rfl, Or.inl rfl, Or.inl ⟨y1, zCm_trans mU y2, Or.inl rfl, p, y4, y5, y6, y7⟩⟩
  subst ebb
  obtain ⟨hb2v, ID, rD, lD, kD, gsD, _, ntD⟩ := zg
  have tD6 : tD 6 = t 6 := ID.1.2.2.1
  have uD67 : uD 0 67 = -1 := ID.1.2.2.2.1
  have fD : zCf t tD := ID.1.1
  have mD : zCm uu uD := ID.1.2.1
  have hxD := zCx_of hxU fD mD ID.2.1
  have ownD : ∀ v : zS, v 31 = uD 31 → v 0 68 = uD 0 68 → mX12_ownMany (v 0 68) v = some (Int32.ofNat n, v) := fun v e1 e2 => own v (by rw [e1, mD.2 31 (by decide), mU.2 31 (by decide)]) (by rw [e2, ID.1.2.2.2.2.1, euu, zu_ne2 (by decide)])
  rw [if_pos (show tD 6 6 < 0 by rw [tD6, k2]; decide), if_pos (show uD 0 67 < 0 by rw [uD67]; decide)]
  have hB0 : ∀ k, k < n → zRs (zD t) N t f (tB 58 k) (uB 42 (1500 * (d + 1) + k)) := fun k hk => zRs_back IB.1.1 (rB k hk)
  have hD0 : ∀ k, k < n → zRs (zD t) N t f (tD 58 k) (uD 42 (1500 * (d + 1) + k)) := fun k hk => zRs_back fD (rD k hk)
  have endT : b1' = 0 → ∀ k, k < n → tD 58 (L + n + k) = tB 58 k := fun c k hk => by
    rw [lD _ (by omega) (by omega), o5 _ (by omega), etC, if_pos c, zmv_in hk, show 0 + k = k by omega]
  have endU : b1' = 0 → ∀ k, k < n → uD 43 (kp + k) = uB 42 (1500 * (d + 1) + k) := fun c k hk => by
    rw [kD _ (by omega), eu3, zmv_row (by decide), euC, if_pos c, zmv_in hk, zu_ne1 (by decide)]
  have fin257 : ∀ (x6 x7 : Int32) (t' : zS), t' 6 5 = Int32.ofNat n → zCf t t' → x6 = 0 ∨ x6 = 1 → lX1_checkBranches_57 gc (zFU - 2) (Int32.ofNat s) (Int32.ofNat d) 0 (Int32.ofNat L) (Int32.ofNat (L + n)) x6 x7 (t' 115 e1) (Int32.ofNat (1 + 1)) t' = if x7 = 0 then some (x6, zmv (zu t' 6 6 (t' 89 s)) 58 (if x6 = 0 then L + n else L) 58 0 n) else some (x6, zmv t' 58 (if x6 = 0 then L + n else L) 58 0 n) := fun x6 x7 t' h5 hf h6 => by
    rw [hf.2.2 115 (by decide), h115b]
    exact pl_257 (fu := zFU - 3) hs1 h5 (by omega) (by omega) h6
  -- the end, common
  have done : ∀ (tE uE uF : zS) (X : Nat) (bF : Int32), zBI w N Q S n d kp s t uu g tE uE gD (fun x => (False ∨ zRb S t (t 111 e0) x) ∨ zRb S t (t 111 e1) x) → zFrC w n d kp (fun _ => False) tE uE gD tE uF gD → (∀ k, k < n → zRs (zD t) N t f (tE 58 (X + k)) (uF 42 (1500 * d + k))) → (bF = 0 ∨ bF = 1) → (b1' = 1 ∨ (b1' = 0 ∧ bF = 0 ∧ ∀ k, k < n → zRe (zD t) N t (tB 58 k) (tE 58 (X + k)))) → (b2' = 1 ∨ (b2' = 0 ∧ bF = 0 ∧ ∀ k, k < n → zRe (zD t) N t (tD 58 k) (tE 58 (X + k)))) → zStG w f N Q S n d kp s t u g bF (zmv tE 58 X 58 0 n) (zu uF 0 70 (Int32.ofNat kp)) (zGn gD s (t 58) ((zmv tE 58 X 58 0 n) 58) bF) := by
    intro tE uE uF X bF c1 c2 c3 c4 c5 c6
    have hE := c1.1
    rw [euu] at hE
    have h1' := zBack70 hE h70
    have hx2 := zCx_of hx h1'.1 h1'.2.1 c1.2.1
    have e4 : ∀ k, k < n → (zmv tE 58 X 58 0 n) 58 k = tE 58 (X + k) := fun k hk => by
      have := zmv_in (u := tE) (k1 := 58) (a := X) (k2 := 58) (b := 0) hk
      rw [show 0 + k = k by omega] at this
      exact this
    have f4 : zCf t (zmv tE 58 X 58 0 n) := zCf_trans c1.1.1 zCf_mv
    refine zFinC (q := q) hx2 hs hv h1' c1.2.2.2.2.1 (zFrC_gn hs1 (zFrC_trans (R1 := fun _ => False) (R2 := fun _ => False) (zOn70 c2) (zFrC_mvC (by rw [zu_ne2 (by decide)]; exact c2.2.2.2.1) (Or.inl (by omega))) (fun _ a => a) (fun _ a => a))) (zKp_mv c1.2.1) (fun k hk => ?_) c4 ?_
    · rw [e4 k hk, zu_ne1 (by decide)]
      exact zRs_of (zTr_f f4) (c3 k hk)
    · obtain ⟨g1', g2', g3', g4'⟩ := zGn_at (g := gD) (r := t 58) (r2 := (zmv tE 58 X 58 0 n) 58) (b := bF) hs1
      have k87 : (zmv tE 58 X 58 0 n) 87 s = 10 := by rw [f4.2.2 87 (by decide)]; exact hk
      have l0 : ∀ r, t 111 e0 = Int32.ofNat r → r < S → t 101 r = Int32.ofNat s := fun r a1 a2 => by
        rcases fb0 with ⟨b1, _⟩ | ⟨r', b1, _, b3, _, b5⟩
        · rw [b1] at a1
          exact absurd (show (0 : Int32) ≤ -1 by rw [a1]; exact zn_0le (by omega)) zn_m1
        · rw [b1] at a1
          rw [← (zn_inj (by omega) (by omega)).mp a1]; exact b5
      have l1 : ∀ r, t 111 e1 = Int32.ofNat r → r < S → t 101 r = Int32.ofNat s := fun r a1 a2 => by
        rcases fb1 with ⟨b1, _⟩ | ⟨r', b1, _, b3, _, b5⟩
        · rw [b1] at a1
          exact absurd (show (0 : Int32) ≤ -1 by rw [a1]; exact zn_0le (by omega)) zn_m1
        · rw [b1] at a1
          rw [← (zn_inj (by omega) (by omega)).mp a1]; exact b5
      have re4 : ∀ (y : zS), (∀ k, k < n → zRe (zD t) N t (y 58 k) (tE 58 (X + k))) → ∀ k, k < n → zRe (zD t) N t (y 58 k) ((zmv tE 58 X 58 0 n) 58 k) := fun y a k hk => by rw [e4 k hk]; exact a k hk
      have B0 : zBr (zD t) N n t (zGn gD s (t 58) ((zmv tE 58 X 58 0 n) 58) bF) s (t 111 e0) (t 58) := zBr_mk tre hs l0 ntB (fun x a => gsD x (by obtain ⟨_, _, _, a3⟩ := a; have := a3.1; omega) (zRb_two tre hb0 hb1 hne a)) n3 (c5.imp id fun a => ⟨a.1, a.2.1, re4 tB a.2.2⟩)
      have B1 : zBr (zD t) N n t (zGn gD s (t 58) ((zmv tE 58 X 58 0 n) 58) bF) s (t 111 e1) (t 58) := zBr_mk tre hs l1 ntD (fun x a => ⟨rfl, rfl, rfl⟩) o3 (c6.imp id fun a => ⟨a.1, a.2.1, re4 tD a.2.2⟩)
      refine ⟨fun w => absurd (Or.inr (Or.inr (Or.inr (Or.inl k87)))) w, fun w => absurd w (by rw [k87]; decide), fun _ => ⟨e0, e1, by rw [f4.2.2 105 (by decide)]; exact h105, h0, by rw [f4.2.2 115 (by decide)]; exact h115, h1, ?_, ?_⟩, fun w => absurd w (by rw [k87]; decide), fun w => absurd w (by rw [k87]; decide)⟩
      · rw [g1', f4.2.2 111 (by decide)]
        exact zBr_f B0 f4 ⟨rfl, rfl, rfl⟩ (fun _ _ _ _ _ _ => ⟨rfl, rfl, rfl⟩)
      · rw [g1', f4.2.2 111 (by decide)]
        exact zBr_f B1 f4 ⟨rfl, rfl, rfl⟩ (fun _ _ _ _ _ _ => ⟨rfl, rfl, rfl⟩)
  have up : ∀ (uE : zS) (b : Int32), uE 31 = uD 31 → uE 0 68 = uD 0 68 → bX12_checkIf_145 gm (Int32.ofNat d) b (Int32.ofNat kp) 0 uE = some (0, zu (zmv uE 42 (1500 * (d + 1)) 42 (1500 * d) n) 0 70 (Int32.ofNat kp)) := fun uE b a1 a2 => by
    unfold bX12_checkIf_145 bX12_checkIf_172
    rw [if_pos rfl, zn_1, pl_copyUp (by omega) (by omega) rfl (by omega) (fun v e1 e2 => ownD v (by rw [e1, a1]) (by rw [e2, a2])), pl_bd, pl_pt]
    by_cases c : b = 0
    · rw [if_pos c]
    · rw [if_neg c, if_pos rfl]
  have t5D : tD 6 5 = Int32.ofNat n := by rw [tD6]; exact k1
  rcases hb1v with c1 | c1
  · have ex : x6 = 0 := by rw [ex6, if_pos c1]
    rw [ex, if_pos (rfl : (0 : Int32) = 0), if_neg pl_10, if_pos c1]
    rcases hb2v with c2 | c2
    · rw [if_pos c2, if_pos c2]
      obtain ⟨c, tE, uE, q1, q2, q3, q4, q5, q6⟩ := zKept (q := q) (a0 := L + n) (kp := kp) hxD t5D (by omega) (by omega) (by omega) (by omega) ownD rD (fun k hk => by rw [endT c1 k hk, endU c1 k hk]; exact zRs_of (zTr_f fD) (hB0 k hk))
      have tE6 : tE 6 = t 6 := by rw [q3.2 6 (by decide)]; exact tD6
      have fE : zCf t tE := zCf_trans fD (zCf_c q3)
      have mE : zCm u uE := zCm_trans mU (zCm_trans mD (zCm_m q5))
      rw [q1, pl_bd, q2, pl_bd, fin257 _ _ tE (by rw [tE6]; exact k1) fE (Or.inl rfl), if_pos (rfl : (0 : Int32) = 0)]
      rcases q6 with ⟨d1, d2⟩ | ⟨d1, _⟩
      · rw [if_neg (show ¬ c = 0 by rw [d1]; decide), if_neg pl_10, if_neg (show ¬ c = 0 by rw [d1]; decide), c2, up uE b1' (q5.2 31 (by decide)) (q5.1 68 (by decide))]
        refine ⟨0, 0, _, _, _, rfl, rfl, Or.inl rfl, Or.inr ⟨rfl, done tE uE (zmv uE 42 (1500 * (d + 1)) 42 (1500 * d) n) (L + n) 0 (zBI_mv hxU ID (zFrC_c uD67 q3 q5) q4 (fun k hk => by rw [q3.2 58 (by decide)]) (fun k hk => by rw [q5.2 42 (by decide)])) (zFrC_mvM (by rw [q5.1 67 (by decide)]; exact uD67) (Or.inl ⟨rfl, Nat.le_refl _⟩)) (fun k hk => ?_) (Or.inl rfl) (Or.inr ⟨c1, rfl, fun k hk => ?_⟩) (Or.inr ⟨c2, rfl, fun k hk => ?_⟩)⟩⟩
        · rw [zmv_in hk, q3.2 58 (by decide), q5.2 42 (by decide)]
          exact zRs_tr hx.1 (zRe_back fD (d2 k hk)) (hD0 k hk)
        · rw [q3.2 58 (by decide), endT c1 k hk]
          exact zRe_refl (hB0 k hk)
        · rw [q3.2 58 (by decide)]
          exact zRe_back fD (d2 k hk)
      · rw [if_pos d1, if_pos (rfl : (0 : Int32) = 0), if_pos d1]
        have e128 : bX12_checkIf_128 gm (Int32.ofNat s) (Int32.ofNat d) b1' (Int32.ofNat kp) b2' 0 uE = some (0, zu (zmv (zu uE 0 67 (t 89 s)) 42 (1500 * (d + 1)) 42 (1500 * d) n) 0 70 (Int32.ofNat kp)) := by
          unfold bX12_checkIf_128
          rw [if_pos rfl, zn_rd (by omega) (by decide), mE.2 15 (by decide), ← p1, pl_isBad (by rw [q5.1 67 (by decide)]; exact uD67), pl_bd, c2, up _ b1' (by rw [zu_row (by decide)]; exact q5.2 31 (by decide)) (by rw [zu_ne2 (by decide)]; exact q5.1 68 (by decide))]
        rw [e128]
        refine ⟨0, 0, _, _, g, rfl, rfl, Or.inl rfl, Or.inl ⟨zCf_trans fE (zCf_trans (zCf_zu (Or.inr (Or.inr (Or.inr ⟨rfl, Or.inr rfl⟩)))) zCf_mv), zCm_trans mE (zCm_trans (zCm_zu (Or.inr (Or.inr ⟨rfl, Or.inl rfl⟩))) (zCm_trans (zCm_mv (Or.inl rfl)) (zCm_zu (Or.inr (Or.inr ⟨rfl, Or.inr (Or.inr rfl)⟩))))), Or.inl rfl, t 89 s, p2, ?_, ?_, ?_⟩⟩
        · rw [zmv_row (by decide), zu_same, fE.2.2 89 (by decide)]
        · rw [zu_ne2 (by decide), zmv_row (by decide), zu_same]
        · rw [zmv_row (by decide), zu_ne2 (by decide), tE6]
    · rw [if_neg (show ¬ b2' = 0 by rw [c2]; decide), if_neg (show ¬ b2' = 0 by rw [c2]; decide), fin257 _ _ tD t5D fD (Or.inl rfl), if_neg pl_10, if_pos (rfl : (0 : Int32) = 0)]
      have e145 : bX12_checkIf_145 gm (Int32.ofNat d) b1' (Int32.ofNat kp) b2' uD = some (0, zu (zmv uD 43 kp 42 (1500 * d) n) 0 70 (Int32.ofNat kp)) := by
        unfold bX12_checkIf_145 bX12_checkIf_172
        rw [if_neg (show ¬ b2' = 0 by rw [c2]; decide), if_pos c1, pl_backAll (by omega) (by omega) (by omega) ownD, pl_bd, pl_pt, if_pos c1]
      rw [e145]
      refine ⟨0, 0, _, _, _, rfl, rfl, Or.inl rfl, Or.inr ⟨rfl, done tD uD (zmv uD 43 kp 42 (1500 * d) n) (L + n) 0 ID (zFrC_mvM uD67 (Or.inl ⟨rfl, Nat.le_refl _⟩)) (fun k hk => ?_) (Or.inl rfl) (Or.inr ⟨c1, rfl, fun k hk => ?_⟩) (Or.inl c2)⟩⟩
      · rw [zmv_in hk, endT c1 k hk, endU c1 k hk]
        exact hB0 k hk
      · rw [endT c1 k hk]
        exact zRe_refl (hB0 k hk)
  · have n1' : ¬ b1' = 0 := by rw [c1]; decide
    have ex : x6 = 1 := by rw [ex6, if_neg n1']
    rw [ex, if_neg pl_10, if_neg n1']
    rcases hb2v with c2 | c2
    · rw [if_pos c2, show mX5_copy 57 80000 0 (Int32.ofNat (L + n)) (tD 6 5) tD = _ from cp tD 0 (L + n) t5D (by omega) (by omega), pl_bd, fin257 _ _ (zmv tD 58 0 58 (L + n) n) (by rw [zmv_row (by decide)]; exact t5D) (zCf_trans fD zCf_mv) (Or.inl rfl), if_neg pl_10, if_pos (rfl : (0 : Int32) = 0), c2, up uD b1' rfl rfl]
      have eE : ∀ k, k < n → (zmv tD 58 0 58 (L + n) n) 58 (L + n + k) = tD 58 k := fun k hk => by rw [zmv_in hk, show 0 + k = k by omega]
      refine ⟨0, 0, _, _, _, rfl, rfl, Or.inl rfl, Or.inr ⟨rfl, done (zmv tD 58 0 58 (L + n) n) uD (zmv uD 42 (1500 * (d + 1)) 42 (1500 * d) n) (L + n) 0 (zBI_mv hxU ID (zFrC_mvC uD67 (Or.inr (by omega))) (zKp_mv ID.2.1) (fun k hk => zmv_out (by omega)) (fun k hk => rfl)) (zFrC_mvM uD67 (Or.inl ⟨rfl, Nat.le_refl _⟩)) (fun k hk => ?_) (Or.inl rfl) (Or.inl c1) (Or.inr ⟨c2, rfl, fun k hk => ?_⟩)⟩⟩
      · rw [eE k hk, zmv_in hk]
        exact hD0 k hk
      · rw [eE k hk]
        exact zRe_refl (hD0 k hk)
    · have n2' : ¬ b2' = 0 := by rw [c2]; decide
      rw [if_neg n2', fin257 _ _ tD t5D fD (Or.inr rfl), if_neg pl_10, if_neg pl_10]
      have e145 : bX12_checkIf_145 gm (Int32.ofNat d) b1' (Int32.ofNat kp) b2' uD = some (1, zu uD 0 70 (Int32.ofNat kp)) := by
        unfold bX12_checkIf_145 bX12_checkIf_172
        rw [if_neg n2', if_neg n1', pl_pt, if_neg n1', if_neg n2']
      rw [e145]
      refine ⟨1, 1, _, _, _, rfl, rfl, Or.inr rfl, Or.inr ⟨rfl, done tD uD uD L 1 ID (zFrC_c uD67 (zFc_refl _) (zFm2_refl _)) (fun k hk => ?_) (Or.inr rfl) (Or.inl c1) (Or.inl c2)⟩⟩
      rw [eL, ID.2.2.1 k hk, ID.2.2.2.1 k hk, uu42]
      exact k8 k hk
/-- the statement if -/
theorem zIfS {gc gc1 gc0 : GgX1_checkBlock} {gm gm1 gm0 : GgX12_checkBlock} {G : zTxt} {f : Nat → Nat} {N M P A T Q Pa bb S F C R W V n q d kp s : Nat} {o : Nat → Nat × Nat} {w : Nat → Nat} {t u g : zS} (eC1 : gc.2.2.1 = mX1_checkBranches gc1) (eM1 : gm.2.2.1 = mX12_checkIf gm1) (eC : gc1.1 = mX1_checkBlock gc0) (eM : gm1.1 = mX12_checkBlock gm0) (hB : zPC G f N M P A T Q Pa bb S F C R W V o w n q (d + 1) (mX1_checkBlock gc0) (mX12_checkBlock gm0)) (hx : zCx G f N M P A T Q Pa bb S F C R W V o w t u) (hc : zCk f N n d q t u) (h70 : u 0 70 = Int32.ofNat kp) (hkp : kp ≤ n * d) (hs : s < S) (ho : o s = (d, q)) (hq : q < Q) (hA : n * (3 + 2 * d) ≤ 80000) (hv : ∀ x, x < S → zSub t s x → ¬ zVis g x) (hk : t 87 s = 10) :
    ∃ b b' t2 u2 g2, mX1_checkStatement gc (Int32.ofNat s) (Int32.ofNat d) t = some (b, t2) ∧ mX12_checkOne gm (Int32.ofNat s) (Int32.ofNat d) u = some (b', u2) ∧ (zBadC t u b t2 u2 ∨ (b' = b ∧ zStG w f N Q S n d kp s t u g b t2 u2 g2)) := by
  have hS := (zTre_x hx).1
  have hs1 : s < 1000 := by omega
  have hs16 : s < 1600 := by omega
  have hP := hx.2.2.2.1
  obtain ⟨⟨⟨p1, p2⟩, hst⟩, _, _, _⟩ := hP.2.2.2.2.2.2.2.2.2.2.2.2.2.2.2 s hs
  have hW := hx.2.2.2.2.2.2.2.2.2.2.1
  have st : u 14 s = 10 ∧ zFm t u (o s).2 F C (t 95 s) (t 97 s) (u 18 s) ∧ zBi o w S W t u s ∧ zDp G o s := by
    rcases hst with ⟨e1, _⟩ | ⟨e1, _⟩ | ⟨e1, _⟩ | ⟨e1, _⟩ | ⟨e1, _⟩ | ⟨e1, _⟩ | ⟨e1, _⟩ | ⟨_, e2, _, _, e5, e6, e7⟩ | ⟨e1, _⟩
    · exact absurd hk (by rcases e1 with e | e <;> rw [e.1] <;> decide)
    · exact absurd hk (by rw [e1]; decide)
    · exact absurd hk (by rcases e1 with e | e | e <;> rw [e.1] <;> decide)
    · exact absurd hk (by rw [e1]; decide)
    · exact absurd hk (by rw [e1]; decide)
    · exact absurd hk (by rw [e1]; decide)
    · exact absurd hk (by rcases e1 with e | e | e <;> rw [e.1] <;> decide)
    · exact ⟨e2, e5, e6, e7⟩
    · exact absurd hk (by rw [e1]; decide)
  obtain ⟨e14, fm, ⟨e0, e1, w1, w2, w3, w4, w5, w6, w7, _, _, w8⟩, dp⟩ := st
  have hd : d ≤ 38 := by have := dp.1; rw [ho] at this; exact this
  rw [ho] at fm
  have hc0 := hc
  obtain ⟨k1, k2, k3, k4, k5, k6, k7, k8⟩ := hc
  obtain ⟨b, hb, i1, i2⟩ := zWithout hx.1 k8 (by omega) (by omega) fm k5 hx.2.2.2.2.2.1 hx.2.2.2.2.2.2.1
  have eCls : mX1_checkStatement gc (Int32.ofNat s) (Int32.ofNat d) t = bX1_checkStatement_145 gc (Int32.ofNat s) (Int32.ofNat d) 10 b t := by
    unfold mX1_checkStatement bX1_checkStatement_99
    rw [show mX5_get 86 1000 (Int32.ofNat s) t = some (t 87 s, t) from zn_get hs1 (by decide), pl_bd, hk, if_neg (by decide), if_neg (by decide), if_neg (by decide), if_pos rfl, show mX5_get 94 1000 (Int32.ofNat s) t = some (t 95 s, t) from zn_get hs1 (by decide), pl_bd, show mX5_get 96 1000 (Int32.ofNat s) t = some (t 97 s, t) from zn_get hs1 (by decide), pl_bd, i1, pl_bd]
  have eRef : mX12_checkOne gm (Int32.ofNat s) (Int32.ofNat d) u = zbd (mX12_checkIf gm1 (Int32.ofNat s) (Int32.ofNat d) u) fun r3987 t3988 => z01 r3987 (some (r3987, t3988)) := by
    unfold mX12_checkOne
    rw [zn_rd hs16 (by decide), zn_rd hs16 (by decide), zn_rd hs16 (by decide), e14, if_neg (by decide), if_neg (by decide), if_neg (by decide), if_neg (by decide), if_neg (by decide), if_neg (by decide), if_neg (by decide), if_neg (by decide), if_neg (by decide), if_neg (by decide), if_pos rfl, eM1]
  have eIf : mX12_checkIf gm1 (Int32.ofNat s) (Int32.ofNat d) u = if b = 0 then some (0, zu u 0 67 (t 89 s)) else zIfM gm1 (Int32.ofNat s) (Int32.ofNat d) u := by
    unfold mX12_checkIf
    rw [zn_rd hs16 (by decide), i2, pl_bd]
    by_cases c : b = 0
    · rw [if_pos c, if_pos c, zn_rd hs16 (by decide), pl_isBad k3, pl_bd, p1]
    · rw [if_neg c, if_neg c]; rfl
  rw [eCls, eRef, eIf]
  rcases hb with eb | eb
  · rw [eb, pl_145b hs1, if_pos rfl, pl_bd]
    exact ⟨0, 0, _, _, g, rfl, rfl, Or.inl ⟨zCf_zu (Or.inr (Or.inr (Or.inr ⟨rfl, Or.inr rfl⟩))), zCm_zu (Or.inr (Or.inr ⟨rfl, Or.inl rfl⟩)), Or.inl rfl, t 89 s, p2, zu_same _ _ _ _, zu_same _ _ _ _, zu_ne2 (by decide)⟩⟩
  · obtain ⟨b, b', t2, u2, g2, z1, z2, z3, z4⟩ := zIfC (g := g) eC eM hB hx hc0 h70 hkp hs ho hq hA hd hv hk (by omega) (by omega) w3 w4 w5 w6 w7 w8
    rw [eb, if_neg pl_10, z2, pl_bd]
    have zb : ∀ (x : Int32) (y : zS), x = 0 ∨ x = 1 → z01 x (some (x, y)) = some (x, y) := fun x y h => by rcases h with e | e <;> rw [e] <;> rfl
    have hbv : b = 0 ∨ b = 1 := by
      rcases z4 with z4 | z4
      · exact z4.2.2.1
      · rw [← z4.1]; exact z3
    refine ⟨b, b', t2, u2, g2, ?_, zb b' u2 z3, z4⟩
    unfold bX1_checkStatement_145 bX1_checkStatement_169 bX1_checkStatement_183
    rw [if_neg pl_10, if_neg (by decide), if_pos rfl, if_neg (by decide), eC1, z1, pl_bd, zb b t2 hbv]
