/-! CHECK: while, both sides -/
theorem zWhileC {gc gc0 : GgX1_checkBlock} {gm gm0 : GgX12_checkBlock} {G : zTxt} {f : Nat → Nat} {N M P A T Q Pa bb S F C R W V n q d kp s e0 : Nat} {o : Nat → Nat × Nat} {w : Nat → Nat} {t u g : zS} (eC : gc.1 = mX1_checkBlock gc0) (eM : gm.1 = mX12_checkBlock gm0) (hB : zPC G f N M P A T Q Pa bb S F C R W V o w n q (d + 1) (mX1_checkBlock gc0) (mX12_checkBlock gm0)) (hx : zCx G f N M P A T Q Pa bb S F C R W V o w t u) (hc : zCk f N n d q t u) (h70 : u 0 70 = Int32.ofNat kp) (hkp : kp ≤ n * d) (hs : s < S) (ho : o s = (d, q)) (hq : q < Q) (hA : n * (3 + 2 * d) ≤ 80000) (hd : d ≤ 38) (hv : ∀ x, x < S → zSub t s x → ¬ zVis g x) (hk : t 87 s = 12) (h0 : e0 < 1600) (h105 : t 105 s = Int32.ofNat e0) (hbl : zBl t o s S (Int32.ofNat s) (t 111 e0) (u 19 s)) :
    ∃ t2 u2 g2, mX1_checkRound gc (Int32.ofNat s) (Int32.ofNat d) t = some (0, t2) ∧ (zbd (mX12_copyDown (Int32.ofNat d) u) fun r4145 t4146 => zrd t4146 19 1600 (Int32.ofNat s) fun v4148 => if v4148 = Int32.ofNat s then bX12_checkWhile_60 gm (Int32.ofNat s) (Int32.ofNat d) t4146 else zrd t4146 19 1600 (Int32.ofNat s) fun v4150 => zbd (gm.1 v4150 (Int32.ofNat d + 1) t4146) fun r4152 t4153 => if r4152 = 0 then bX12_checkWhile_60 gm (Int32.ofNat s) (Int32.ofNat d) t4153 else bX12_checkWhile_61 gm (Int32.ofNat s) (Int32.ofNat d) 1 t4153) = some (0, u2) ∧ (zBadC t u 0 t2 u2 ∨ zStG w f N Q S n d kp s t u g 0 t2 u2 g2) := by
  have tre := zTre_x hx
  have hS := tre.1
  obtain ⟨v1, v2, v3, v4⟩ := zlv n d
  have own := zCk_ownV hx hc hq
  have hc0 := hc
  obtain ⟨k1, k2, k3, k4, k5, k6, k7, k8⟩ := hc
  have hP := hx.2.2.2.1
  obtain ⟨⟨⟨p1, p2⟩, _⟩, _, _, _⟩ := hP.2.2.2.2.2.2.2.2.2.2.2.2.2.2.2 s hs
  obtain ⟨t1, et1⟩ : ∃ t1, t1 = zmv t 58 0 58 (n * (1 + 2 * d)) n := ⟨_, rfl⟩
  obtain ⟨u1, eu1⟩ : ∃ u1, u1 = zmv u 42 (1500 * d) 42 (1500 * (d + 1)) n := ⟨_, rfl⟩
  have f1 : zCf t t1 := by rw [et1]; exact zCf_mv
  have m1 : zCm u u1 := by rw [eu1]; exact zCm_mv (Or.inl rfl)
  have t6 : t1 6 = t 6 := by rw [et1]; exact zmv_row (by decide)
  have u0 : u1 0 = u 0 := by rw [eu1]; exact zmv_row (by decide)
  have lowT : ∀ k, k < n → t1 58 k = t 58 k := fun k hk => by rw [et1]; exact zmv_out (by omega)
  have keepT : ∀ k, k < n → t1 58 (n * (1 + 2 * d) + k) = t 58 k := fun k hk => by
    rw [et1, zmv_in hk, show 0 + k = k by omega]
  have inU : ∀ k, k < n → u1 42 (1500 * (d + 1) + k) = u 42 (1500 * d + k) := fun k hk => by rw [eu1]; exact zmv_in hk
  have lowU : ∀ k, k < 1500 * (d + 1) → u1 42 k = u 42 k := fun k hk => by rw [eu1]; exact zmv_out (by omega)
  have K1 : zKp N t1 := by rw [et1]; exact zKp_mv hx.2.2.1
  have hx1 := zCx_of hx f1 m1 K1
  have hc1 : zCk f N n (d + 1) q t1 u1 := zCk_in (a := 0) hx hc0 (by omega) f1 m1 t6 (by rw [u0]; exact k3) (by rw [u0]) lowT inU
  have sub1 : ∀ x, zSub t1 s x ↔ zSub t s x := fun x => zSub_f f1 s x
  -- where the BLOCK begins
  have bl : (t 111 e0 = -1 ∧ u 19 s = Int32.ofNat s) ∨ ∃ r, t 111 e0 = Int32.ofNat r ∧ u 19 s = Int32.ofNat r ∧ s < r ∧ r < S ∧ o r = ((o s).1 + 1, (o s).2) ∧ t 101 r = Int32.ofNat s := by
    rcases hbl with q | ⟨r, q1, q2, q3, q4, q5, q6⟩
    · exact Or.inl q
    · exact Or.inr ⟨r, q1, q2, q3, q4, q5.1, q6⟩
  have rin : ∀ x, zRb S t1 (t 111 e0) x → zSub t s x ∧ x < S ∧ ¬ x = s := fun x q => by
    obtain ⟨r, q1, q2, q3⟩ := q
    rcases bl with ⟨b1, _⟩ | ⟨r', b1, b2, b3, b4, b5, b6⟩
    · rw [b1] at q1
      exact absurd (show (0 : Int32) ≤ -1 by rw [q1]; exact zn_0le (by omega)) zn_m1
    · rw [b1] at q1
      have e := (zn_inj (by omega) (by omega)).mp q1
      subst e
      obtain ⟨z1, z2, z3⟩ := zReg_in tre hs b4 b6 ((zReg_f f1 _ _).mp q3)
      exact ⟨z1, z3, z2⟩
  have fr01 : zFrC w n d kp (fun _ => False) t u g t1 u1 g := by
    rw [et1, eu1]
    exact zFrC_trans (R1 := fun _ => False) (R2 := fun _ => False) (zFrC_mvC k3 (Or.inr (Nat.le_refl _))) (zFrC_mvM k3 (Or.inl ⟨rfl, by omega⟩)) (fun _ q => q) (fun _ q => q)
  -- both enter it
  have ent : ∃ b b' t2 u2 g2, mX1_checkBlock gc0 (t 111 e0) (Int32.ofNat (d + 1)) t1 = some (b, t2) ∧ (if u 19 s = Int32.ofNat s then bX12_checkWhile_60 gm (Int32.ofNat s) (Int32.ofNat d) u1 else zbd (mX12_checkBlock gm0 (u 19 s) (Int32.ofNat (d + 1)) u1) fun r4152 t4153 => if r4152 = 0 then bX12_checkWhile_60 gm (Int32.ofNat s) (Int32.ofNat d) t4153 else bX12_checkWhile_61 gm (Int32.ofNat s) (Int32.ofNat d) 1 t4153) = bX12_checkWhile_61 gm (Int32.ofNat s) (Int32.ofNat d) (if b' = 0 then 0 else 1) u2 ∧ (zBadC t1 u1 b t2 u2 ∨ (b' = b ∧ zBrG w f N Q S n d kp (t 111 e0) t1 u1 g b t2 u2 g2)) := by
    have hv1 : ∀ x, zRb S t1 (t 111 e0) x → ¬ zVis g x := fun x q => hv x (rin x q).2.1 (rin x q).1
    rcases bl with ⟨b1, b2⟩ | ⟨r, b1, b2, b3, b4, b5, b6⟩
    · obtain ⟨b, b', t2, u2, g2, z1, z2, z3⟩ := zBranchC (fb := t 111 e0) (fb' := -1) hB hx1 hc1 (by rw [u0]; exact h70) (by omega) hs ho (Or.inl ⟨b1, by decide⟩) hv1
      have el : mX12_checkBlock gm0 (-1) (Int32.ofNat (d + 1)) u1 = some (0, u1) := rfl
      rw [el] at z2
      cases z2
      exact ⟨b, 0, t2, u1, g2, z1, by rw [if_pos b2, if_pos rfl]; rfl, z3⟩
    · obtain ⟨b, b', t2, u2, g2, z1, z2, z3⟩ := zBranchC (fb := t 111 e0) (fb' := u 19 s) hB hx1 hc1 (by rw [u0]; exact h70) (by omega) hs ho (Or.inr ⟨r, b1, b2, b4, b5⟩) hv1
      refine ⟨b, b', t2, u2, g2, z1, ?_, z3⟩
      rw [if_neg (by rw [b2]; exact fun w => by have := (zn_inj (by omega) (by omega)).mp w; omega), z2, pl_bd]
      by_cases c : b' = 0
      · rw [if_pos c, if_pos c]; rfl
      · rw [if_neg c, if_neg c]
  obtain ⟨b, b', t2, u2, g2, z1, z2, z3⟩ := ent
  have eRef : (zbd (mX12_copyDown (Int32.ofNat d) u) fun r4145 t4146 => zrd t4146 19 1600 (Int32.ofNat s) fun v4148 => if v4148 = Int32.ofNat s then bX12_checkWhile_60 gm (Int32.ofNat s) (Int32.ofNat d) t4146 else zrd t4146 19 1600 (Int32.ofNat s) fun v4150 => zbd (gm.1 v4150 (Int32.ofNat d + 1) t4146) fun r4152 t4153 => if r4152 = 0 then bX12_checkWhile_60 gm (Int32.ofNat s) (Int32.ofNat d) t4153 else bX12_checkWhile_61 gm (Int32.ofNat s) (Int32.ofNat d) 1 t4153) = bX12_checkWhile_61 gm (Int32.ofNat s) (Int32.ofNat d) (if b' = 0 then 0 else 1) u2 := by
    rw [pl_copyDown (by omega) (by omega) own, pl_bd, ← eu1, zn_rd (by omega) (by decide), zn_rd (by omega) (by decide), m1.2 19 (by decide), zn_1, eM]
    exact z2
  have cp : ∀ t' : zS, t' 6 5 = Int32.ofNat n → bX1_checkRound_79 gc (Int32.ofNat (n * (1 + 2 * d))) t' = some (0, zmv t' 58 (n * (1 + 2 * d)) 58 0 n) := fun t' e => by
    unfold bX1_checkRound_79
    rw [e, show (0 : Int32) = Int32.ofNat 0 from rfl, pl_cp (by omega) (by omega), pl_bd]
  have eCls : mX1_checkRound gc (Int32.ofNat s) (Int32.ofNat d) t = if 0 ≤ (t2 6 6) then bX1_checkRound_79 gc (Int32.ofNat (n * (1 + 2 * d))) t2 else if b = 0 then zbd (mX1_isSame (Int32.ofNat (n * (1 + 2 * d))) t2) fun r1588 t1589 => if r1588 = 0 then zbd (mX1_fail (Int32.ofNat s) t1589) fun r1591 t1592 => bX1_checkRound_79 gc (Int32.ofNat (n * (1 + 2 * d))) t1592 else bX1_checkRound_79 gc (Int32.ofNat (n * (1 + 2 * d))) t1589 else bX1_checkRound_79 gc (Int32.ofNat (n * (1 + 2 * d))) t2 := by
    unfold mX1_checkRound
    have c0 : mX5_copy 57 80000 0 (Int32.ofNat (n * (1 + 2 * d))) (Int32.ofNat n) t = some (0, t1) := by
      rw [et1]; exact pl_cp (a := 0) (by omega) (by omega)
    rw [k1, zn_lvl, pl_let, c0, pl_bd, show mX5_get 104 1000 (Int32.ofNat s) t1 = some (t1 105 s, t1) from zn_get (by omega) (by decide), pl_bd, f1.2.2 105 (by decide), h105, show mX5_get 110 1600 (Int32.ofNat e0) t1 = some (t1 111 e0, t1) from zn_get (by omega) (by decide), pl_bd, f1.2.2 111 (by decide), zn_1, eC, z1, pl_bd]
  rw [eCls, eRef]
  have gn1 : ∀ (t' : zS) (x : Nat), x < 1000 → ¬ x = s → zGs g2 (zGn g2 s (t 58) (t' 58) 0) x := fun t' x h1 h2 => zGn_ne (by omega) h1 h2
  rcases z3 with ⟨y1, y2, y3, p, y4, y5, y6, y7⟩ | ⟨ebb, y1, y2, y3, y4, y5, y6⟩
  · -- bad inside
    rw [if_pos (by rw [y5]; exact y4), cp t2 (by rw [y7, t6]; exact k1)]
    refine ⟨_, u2, g, rfl, ?_, Or.inl ⟨zCf_trans f1 (zCf_trans y1 zCf_mv), zCm_trans m1 y2, Or.inl rfl, p, y4, by rw [zmv_row (by decide)]; exact y5, y6, by rw [zmv_row (by decide), y7, t6]⟩⟩
    unfold bX12_checkWhile_61
    rw [if_pos (by rw [y6]; exact y4)]
  · subst ebb
    have fin6 : t2 6 = t 6 := by rw [y2.2.2.1]; exact t6
    have n66 : ¬ 0 ≤ t2 6 6 := by rw [fin6, k2]; decide
    have n67 : ¬ 0 ≤ u2 0 67 := by rw [y2.2.2.2.1]; decide
    have f2 : zCf t t2 := zCf_trans f1 y2.1
    have m2 : zCm u u2 := zCm_trans m1 y2.2.1
    have hx2 := zCx_of hx f2 m2 y3
    have keep2 : ∀ k, k < n → t2 58 (n * (1 + 2 * d) + k) = t 58 k := fun k hk => by
      rw [y2.2.2.2.2.2.2.1 _ (by omega) (by omega)]; exact keepT k hk
    have u42 : ∀ k, k < n → u2 42 (1500 * d + k) = u 42 (1500 * d + k) := fun k hk => by
      rw [y2.2.2.2.2.2.2.2.1 _ (by omega)]; exact lowU _ (by omega)
    have eD1 : zD t1 = zD t := zD_of (zTr_f f1)
    have eD2 : zD t2 = zD t := zD_of (zTr_f f2)
    rw [if_neg n66]
    -- the end, common
    have done : ∀ (t3 u3 : zS), zFc t2 t3 → zFm2 u2 u3 → zKp N t3 → (b' = 1 ∨ (b' = 0 ∧ ∀ k, k < n → zRe (zD t) N t (t2 58 k) (t 58 k))) → zStG w f N Q S n d kp s t u g 0 (zmv t3 58 (n * (1 + 2 * d)) 58 0 n) u3 (zGn g2 s (t 58) ((zmv t3 58 (n * (1 + 2 * d)) 58 0 n) 58) 0) := by
      intro t3 u3 c1 c2 c3 c4
      have f3 : zCf t t3 := zCf_trans f2 (zCf_c c1)
      have m3 : zCm u u3 := zCm_trans m2 (zCm_m c2)
      have hx3 := zCx_of hx f3 m3 c3
      have fr23 : zFrC w n d kp (fun _ => False) t2 u2 g2 t3 u3 g2 := zFrC_c y2.2.2.2.1 c1 c2
      have h673 : u3 0 67 = -1 := fr23.2.2.2.1
      have e43 : ∀ k, k < n → (zmv t3 58 (n * (1 + 2 * d)) 58 0 n) 58 k = t 58 k := fun k hk => by
        have := zmv_in (u := t3) (k1 := 58) (a := n * (1 + 2 * d)) (k2 := 58) (b := 0) hk
        rw [show 0 + k = k by omega] at this
        rw [this, c1.2 58 (by decide)]; exact keep2 k hk
      refine zFinC (q := q) hx3 hs hv (zFrC_trans (zFrC_trans (R3 := fun x => zSub t s x ∧ x < S) fr01 (zFrC_up (R2 := fun x => zSub t s x ∧ x < S) y2 (Nat.le_refl _) (fun x q => ⟨(rin x q).1, (rin x q).2.1⟩)) (fun _ q => q.elim) (fun _ q => q)) fr23 (fun _ q => q) (fun _ q => q.elim)) (fun x x1 x2 x3 x4 => ?_) (zFrC_gn (by omega) (zFrC_mvC h673 (Or.inl (by omega)))) (zKp_mv c3) (fun k hk => ?_) (Or.inl rfl) ?_
      · by_cases cr : zRb S t1 (t 111 e0) x
        · have a := y5 x cr x4
          rw [eD1] at a
          exact zAn_keep hx2 x3 a fr23 (fun _ _ _ q => q) (fun _ _ _ q => q)
        · have := (y2.2.2.2.2.2.2.2.2.2.1 x (by omega) cr).2.2.2
          refine absurd ?_ (hv x x3 x1)
          unfold zVis at *
          rw [this] at x4
          exact x4
      · rw [e43 k hk, c2.2 42 (by decide), u42 k hk]
        exact zRs_of (zTr_f (zCf_trans f3 zCf_mv)) (k8 k hk)
      · obtain ⟨g1', g2', g3', g4'⟩ := zGn_at (g := g2) (r := t 58) (r2 := (zmv t3 58 (n * (1 + 2 * d)) 58 0 n) 58) (b := 0) (show s < 1000 by omega)
        have f4 : zCf t (zmv t3 58 (n * (1 + 2 * d)) 58 0 n) := zCf_trans f3 zCf_mv
        have k87 : (zmv t3 58 (n * (1 + 2 * d)) 58 0 n) 87 s = 12 := by rw [f4.2.2 87 (by decide)]; exact hk
        refine ⟨fun w => absurd (Or.inr (Or.inr (Or.inr (Or.inr k87)))) w, fun w => absurd w (by rw [k87]; decide), fun w => absurd w (by rw [k87]; decide), fun _ => ⟨e0, by rw [f4.2.2 105 (by decide)]; exact h105, h0, ?_, fun k hk => by rw [g2', g1']; exact e43 k hk, g3'⟩, fun w => absurd w (by rw [k87]; decide)⟩
        rw [f4.2.2 111 (by decide)]
        rcases y6 with ⟨q1, _⟩ | ⟨r, q1, q2, q3, q4, q5⟩
        · exact Or.inl q1
        · rcases bl with ⟨b1, _⟩ | ⟨r', b1, b2, b3, b4, b5, b6⟩
          · exact Or.inl b1
          · rw [b1] at q1
            have er := (zn_inj (by omega) (by omega)).mp q1
            subst er
            have gr := gn1 (zmv t3 58 (n * (1 + 2 * d)) 58 0 n) r' (by omega) (by omega)
            refine Or.inr ⟨r', b1, by omega, by unfold zVis; rw [gr.2.2]; exact q4, fun k hk => by rw [gr.1, q3, g1']; exact lowT k hk, fun j y w1 w2 => ?_⟩
            have w1' := (zNxt_f (f4.2.2 99 (by decide)) j r' y).mp w1
            have ny := zNxt_at tre j r' y b4 w1'
            have gy := gn1 (zmv t3 58 (n * (1 + 2 * d)) 58 0 n) y (by omega) (by omega)
            obtain ⟨l1, l2⟩ := q5 j y ((zNxt_f (f1.2.2 99 (by decide)) j r' y).mpr w1') (by rw [f1.2.2 99 (by decide)]; rw [f4.2.2 99 (by decide)] at w2; exact w2)
            rw [gy.2.2, gy.2.1, l1, l2, g1']
            rcases c4 with c4 | ⟨c4, c5⟩
            · exact Or.inl c4
            · exact Or.inr ⟨c4, fun k hk => zRe_f f4 (c5 k hk)⟩
    rcases y1 with eb | eb
    · rw [if_pos eb]
      have hp : ∀ k, k < n → zRs (zD t2) N t2 f (t2 58 k) (u2 42 (1500 * (d + 1) + k)) := y4
      have hq2 : ∀ k, k < n → zRs (zD t2) N t2 f (t2 58 (n * (1 + 2 * d) + k)) (u2 42 (1500 * d + k)) := fun k hk => by
        rw [keep2 k hk, u42 k hk]
        exact zRs_of (zTr_f f2) (k8 k hk)
      obtain ⟨c, t3, u3, s1, s2, s3, s4, s5, s6⟩ := zSameW (q := q) hx2 (by rw [fin6]; exact k1) (by omega) (by omega) (by omega) (fun v e1 e2 => own v (by rw [e1, m2.2 31 (by decide)]) (by rw [e2, y2.2.2.2.2.1, u0])) hp hq2
      rw [s1, pl_bd]
      have e61 : bX12_checkWhile_61 gm (Int32.ofNat s) (Int32.ofNat d) (if b' = 0 then 0 else 1) u2 = if c = 0 then zrd u3 15 1600 (Int32.ofNat s) fun v4135 => zbd (mX12_isBad v4135 u3) fun r4137 t4138 => some (0, t4138) else some (0, u3) := by
        unfold bX12_checkWhile_61
        rw [if_neg n67, if_pos eb, if_pos rfl, zn_1, s2, pl_bd]
      rw [e61]
      rcases s6 with ⟨c1, c2⟩ | ⟨c1, c2⟩
      · rw [if_neg (by rw [c1]; decide), if_neg (by rw [c1]; decide), cp t3 (by rw [s3.2 6 (by decide), fin6]; exact k1)]
        refine ⟨_, u3, _, rfl, rfl, Or.inr (done t3 u3 s3 s5 s4 (Or.inr ⟨eb, fun k hk => ?_⟩))⟩
        have a := c2 k hk
        rw [keep2 k hk, eD2] at a
        obtain a | ⟨a1, a2, a3, a4, a5, a6, a7⟩ := a
        · exact Or.inl a
        · exact Or.inr ⟨a1, a2, (zV_of (zTr_f f2) _).mp a3, (zV_of (zTr_f f2) _).mp a4, a5, a6, a7⟩
      · have f3 : zCf t t3 := zCf_trans f2 (zCf_c s3)
        rw [if_pos c1, if_pos c1, pl_fail (by omega), pl_bd, cp _ (by rw [zu_ne2 (by decide), s3.2 6 (by decide), fin6]; exact k1), zn_rd (by omega) (by decide), pl_isBad (by rw [s5.1 67 (by decide)]; exact y2.2.2.2.1), pl_bd]
        refine ⟨_, _, g, rfl, rfl, Or.inl ⟨zCf_trans f3 (zCf_trans (zCf_zu (Or.inr (Or.inr (Or.inr ⟨rfl, Or.inr rfl⟩)))) zCf_mv), zCm_trans m2 (zCm_trans (zCm_m s5) (zCm_zu (Or.inr (Or.inr ⟨rfl, Or.inl rfl⟩)))), Or.inl rfl, t 89 s, p2, ?_, ?_, ?_⟩⟩
        · rw [zmv_row (by decide), zu_same, f3.2.2 89 (by decide)]
        · rw [zu_same, s5.2 15 (by decide), m2.2 15 (by decide)]; exact p1.symm
        · rw [zmv_row (by decide), zu_ne2 (by decide), s3.2 6 (by decide), fin6]
    · rw [if_neg (by rw [eb]; decide), cp t2 (by rw [fin6]; exact k1)]
      refine ⟨_, u2, _, rfl, ?_, Or.inr (done t2 u2 (zFc_refl _) (zFm2_refl _) y3 (Or.inl eb))⟩
      unfold bX12_checkWhile_61
      rw [if_neg n67, if_neg (by rw [eb]; decide)]
/-- the statement while -/
theorem zWhileS {gc gc1 gc0 : GgX1_checkBlock} {gm gm1 gm0 : GgX12_checkBlock} {G : zTxt} {f : Nat → Nat} {N M P A T Q Pa bb S F C R W V n q d kp s : Nat} {o : Nat → Nat × Nat} {w : Nat → Nat} {t u g : zS} (eC1 : gc.2.2.2 = mX1_checkRound gc1) (eM1 : gm.2.2.2.2 = mX12_checkWhile gm1) (eC : gc1.1 = mX1_checkBlock gc0) (eM : gm1.1 = mX12_checkBlock gm0) (hB : zPC G f N M P A T Q Pa bb S F C R W V o w n q (d + 1) (mX1_checkBlock gc0) (mX12_checkBlock gm0)) (hx : zCx G f N M P A T Q Pa bb S F C R W V o w t u) (hc : zCk f N n d q t u) (h70 : u 0 70 = Int32.ofNat kp) (hkp : kp ≤ n * d) (hs : s < S) (ho : o s = (d, q)) (hq : q < Q) (hA : n * (3 + 2 * d) ≤ 80000) (hv : ∀ x, x < S → zSub t s x → ¬ zVis g x) (hk : t 87 s = 12) :
    ∃ b b' t2 u2 g2, mX1_checkStatement gc (Int32.ofNat s) (Int32.ofNat d) t = some (b, t2) ∧ mX12_checkOne gm (Int32.ofNat s) (Int32.ofNat d) u = some (b', u2) ∧ (zBadC t u b t2 u2 ∨ (b' = b ∧ zStG w f N Q S n d kp s t u g b t2 u2 g2)) := by
  have hS := (zTre_x hx).1
  have hs1 : s < 1000 := by omega
  have hs16 : s < 1600 := by omega
  have hP := hx.2.2.2.1
  obtain ⟨⟨⟨p1, p2⟩, hst⟩, _, _, _⟩ := hP.2.2.2.2.2.2.2.2.2.2.2.2.2.2.2 s hs
  have hW := hx.2.2.2.2.2.2.2.2.2.2.1
  have st : u 14 s = 11 ∧ zFm t u (o s).2 F C (t 95 s) (t 97 s) (u 18 s) ∧ zBw o w S W t u s ∧ zDp G o s := by
    rcases hst with ⟨e1, _⟩ | ⟨e1, _⟩ | ⟨e1, _⟩ | ⟨e1, _⟩ | ⟨e1, _⟩ | ⟨e1, _⟩ | ⟨e1, _⟩ | ⟨e1, _⟩ | ⟨_, e2, _, _, e5, e6, e7⟩
    · exact absurd hk (by rcases e1 with e | e <;> rw [e.1] <;> decide)
    · exact absurd hk (by rw [e1]; decide)
    · exact absurd hk (by rcases e1 with e | e | e <;> rw [e.1] <;> decide)
    · exact absurd hk (by rw [e1]; decide)
    · exact absurd hk (by rw [e1]; decide)
    · exact absurd hk (by rw [e1]; decide)
    · exact absurd hk (by rcases e1 with e | e | e <;> rw [e.1] <;> decide)
    · exact absurd hk (by rw [e1]; decide)
    · exact ⟨e2, e5, e6, e7⟩
  obtain ⟨e14, fm, ⟨e0, w1, w2, _, w4, _⟩, dp⟩ := st
  have hd : d ≤ 38 := by have := dp.1; rw [ho] at this; exact this
  rw [ho] at fm
  have hc0 := hc
  obtain ⟨k1, k2, k3, k4, k5, k6, k7, k8⟩ := hc
  obtain ⟨b, hb, i1, i2⟩ := zWithout hx.1 k8 (by omega) (by omega) fm k5 hx.2.2.2.2.2.1 hx.2.2.2.2.2.2.1
  have eCls : mX1_checkStatement gc (Int32.ofNat s) (Int32.ofNat d) t = bX1_checkStatement_145 gc (Int32.ofNat s) (Int32.ofNat d) 12 b t := by
    unfold mX1_checkStatement bX1_checkStatement_99
    rw [show mX5_get 86 1000 (Int32.ofNat s) t = some (t 87 s, t) from zn_get hs1 (by decide), pl_bd, hk, if_neg (by decide), if_neg (by decide), if_neg (by decide), if_neg (by decide), if_pos rfl, show mX5_get 94 1000 (Int32.ofNat s) t = some (t 95 s, t) from zn_get hs1 (by decide), pl_bd, show mX5_get 96 1000 (Int32.ofNat s) t = some (t 97 s, t) from zn_get hs1 (by decide), pl_bd, i1, pl_bd]
  have eRef : mX12_checkOne gm (Int32.ofNat s) (Int32.ofNat d) u = zbd (mX12_checkWhile gm1 (Int32.ofNat s) (Int32.ofNat d) u) fun r3992 t3993 => some (0, t3993) := by
    unfold mX12_checkOne
    rw [zn_rd hs16 (by decide), zn_rd hs16 (by decide), zn_rd hs16 (by decide), e14, if_neg (by decide), if_neg (by decide), if_neg (by decide), if_neg (by decide), if_neg (by decide), if_neg (by decide), if_neg (by decide), if_neg (by decide), if_neg (by decide), if_neg (by decide), if_neg (by decide), if_pos rfl, eM1]
  rw [eCls, eRef]
  unfold mX12_checkWhile
  rw [zn_rd hs16 (by decide), i2, pl_bd]
  rcases hb with eb | eb
  · rw [eb, pl_145b hs1, if_pos rfl, zn_rd hs16 (by decide), pl_isBad k3, pl_bd, pl_bd]
    exact ⟨0, 0, _, _, g, rfl, rfl, Or.inl ⟨zCf_zu (Or.inr (Or.inr (Or.inr ⟨rfl, Or.inr rfl⟩))), zCm_zu (Or.inr (Or.inr ⟨rfl, Or.inl rfl⟩)), Or.inl rfl, t 89 s, p2, zu_same _ _ _ _, by rw [zu_same]; exact p1.symm, zu_ne2 (by decide)⟩⟩
  · obtain ⟨t2, u2, g2, z1, z2, z3⟩ := zWhileC (g := g) eC eM hB hx hc0 h70 hkp hs ho hq hA hd hv hk (by omega) w2 w4
    rw [eb, if_neg pl_10, z2, pl_bd]
    refine ⟨0, 0, t2, u2, g2, ?_, rfl, z3.imp id (fun a => ⟨rfl, a⟩)⟩
    unfold bX1_checkStatement_145 bX1_checkStatement_199
    rw [if_neg pl_10, if_neg (by decide), if_neg (by decide), if_pos rfl, eC1, z1, pl_bd, if_neg (by decide)]
