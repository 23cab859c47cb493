/-! CHECK: recv, pass, take, pick in lockstep -/
theorem zCk_of {f : Nat → Nat} {N n d q s : Nat} {t u t2 u2 : zS} (hk : zCk f N n d q t u) (h1 : zC1 N n d s t u t2 u2) (h67 : u2 0 67 = -1) (hr : zRw f N n d t2 u2) : zCk f N n d q t2 u2 := by
  obtain ⟨k1, k2, k3, k4, k5, k6, k7, k8⟩ := hk
  obtain ⟨a1, a2, a3, a4, a5, a6, a7, a8, a9, a10, a11⟩ := h1
  exact ⟨by rw [a4]; exact k1, by rw [a4]; exact k2, h67, by rw [a5]; exact k4, by rw [a1.2.2 39 (by decide)]; exact k5, k6, k7, hr⟩
/-- a slot with a kind -/
theorem zKs_at {G : zTxt} {f : Nat → Nat} {N M P A T : Nat} {t u : zS} {x y k : Int32} (h : zTG G f N M P A T t u) (hr : zRs (zD t) N t f x y) (hk : zKs t x = k) (hn : ¬ k = -1) : ∃ a b, zV N t a ∧ zV N t b ∧ zEq (zD t) a b ∧ x = Int32.ofNat a ∧ y = Int32.ofNat (zF f b) ∧ (zD t).kd a = k ∧ (zD t).kd b = k := by
  rcases zRs_neg h hr with ⟨n1, _⟩ | ⟨n1, _, _, _, a, b, v1, v2, v3, v4, v5, v6⟩
  · unfold zKs at hk
    rw [if_pos n1] at hk
    exact absurd hk.symm hn
  · have la := zV_lt h v1
    unfold zKs at hk
    rw [if_neg n1, v5, show (Int32.ofNat a).toNatClampNeg = a from pl_clamp (pl_ofn (by omega))] at hk
    exact ⟨a, b, v1, v2, v4, v5, v6, hk, by rw [← (zEq_sm v4).1]; exact hk⟩
theorem zPlain2 {G : zTxt} {f : Nat → Nat} {N M P A T Q Pa bb S F C R W V n d q s : Nat} {o : Nat → Nat × Nat} {w : Nat → Nat} {t u : zS} (g : GgX12_checkBlock) (hx : zCx G f N M P A T Q Pa bb S F C R W V o w t u) (hk : zCk f N n d q t u) (hs : s < S) (hq : (o s).2 = q) (hkd : t 87 s = 3 ∨ t 87 s = 4 ∨ t 87 s = 5) : ∃ b t2 u2, mX1_isGoodPlain (Int32.ofNat s) (t 87 s) t = some (b, t2) ∧ mX12_checkOne g (Int32.ofNat s) (Int32.ofNat d) u = some (0, u2) ∧ zP1 f N n d s t u b t2 u2 := by
  have hx0 := hx
  have hk0 := hk
  obtain ⟨hg, hb, hK, hP, _, hF, hC, hS, _⟩ := hx
  obtain ⟨k1, k2, k3, k4, k5, k6, k7, k8⟩ := hk
  have hN := hg.2.2.2.1
  obtain ⟨⟨⟨p1, p2⟩, hst⟩, _, _, _⟩ := hP.2.2.2.2.2.2.2.2.2.2.2.2.2.2.2 s hs
  have hs1 : s < 1000 := by omega
  have hs16 : s < 1600 := by omega
  have r1 : zC1 N n d s t u t u := zC1_refl hK
  have hbad : zP1 f N n d s t u 0 t (zu u 0 67 (u 15 s)) := zP1_bad r1 p1 rfl
  rcases hst with ⟨e1, _⟩ | ⟨e1, _⟩ | ⟨e1, e2, e3, e4⟩ | ⟨e1, _⟩ | ⟨e1, _⟩ | ⟨e1, _⟩ | ⟨e1, _⟩ | ⟨e1, _⟩ | ⟨e1, _⟩
  · exact absurd hkd (by rcases e1 with e | e <;> rw [e.1] <;> decide)
  · exact absurd hkd (by rw [e1]; decide)
  · rw [hq] at e2 e3
    obtain ⟨c, c1, c2, c3⟩ := zSo_n e2 k5 k6
    obtain ⟨e, d1, d2, d3⟩ := zSo_n e3 k5 k6
    have g57 : mX5_get 57 80000 (t 91 s) t = some (t 58 c, t) := by rw [c2]; exact zn_get (by omega) (by decide)
    have g57' : mX5_get 57 80000 (t 93 s) t = some (t 58 e, t) := by rw [d2]; exact zn_get (by omega) (by decide)
    have hw : mX3_isWithout (t 95 s) (t 97 s) t = some (1, t) := by
      rw [e4.1, e4.2.1]
      show bX3_isWithout_3 (lX3_isWithout_3 (zFU - 1)) 0 0 t = _
      unfold bX3_isWithout_3
      rw [if_pos (by decide)]
    have hr := k8 c c1
    have hre := k8 e d1
    have GP := fun x2 => pl_gp (x2 := x2) hs1 g57 (pl_kindS hg hr) g57' hw
    have ch : ∀ (u' : zS) (k : Nat), k < n → mX12_channel (Int32.ofNat d) (Int32.ofNat k) u' = some (u' 42 (1500 * d + k), u') := fun u' k hk => pl_channel (by omega) (by omega)
    unfold mX12_checkOne
    rw [zn_rd hs16 (by decide), zn_rd hs16 (by decide), zn_rd hs16 (by decide), c3, d3]
    rcases e1 with ⟨e1, e1'⟩ | ⟨e1, e1'⟩ | ⟨e1, e1'⟩
    · -- recv
      have n14 : ¬ u 14 s = 9 := by rw [e1']; decide
      rw [e1, GP, e1']
      simp only [show ¬ (3 : Int32) = 2 by decide, show ¬ (2 : Int32) = 0 by decide, show ¬ (2 : Int32) = 1 by decide, if_false, if_true]
      rw [pl_isOne hg (by omega) (by omega) hr (Or.inr (Or.inl rfl)), pl_bd]
      unfold bX12_checkOne_243 bX12_checkOne_244
      by_cases q4 : zKs t (t 58 c) = 5
      · rw [if_pos q4, if_pos (show zKs t (t 58 c) = 4 + 1 from q4), if_neg pl_10, ch u e d1, pl_bd]
        rcases zRs_neg hg hre with ⟨_, _, n1, n2, n3, _⟩ | ⟨_, _, n1, n2, _⟩
        · obtain ⟨a, a', v1, v2, v4, v5, v6, ka, ka'⟩ := zKs_at hg hr q4 (by decide)
          have la := zV_lt hg v1
          obtain ⟨w1, _, dd, x1, x2, x3⟩ := pl_thenOf hg v1 (Or.inr (Or.inl ka))
          obtain ⟨w1', w2', _⟩ := pl_thenOf hg v2 (Or.inr (Or.inl ka'))
          have he := (zEq_sm v4).2.1 (Or.inr ka)
          obtain ⟨z1, z2, z3, z4⟩ := zGc (s := s) hx0 hk0 c1 w1 w1' he (by rw [e1]; decide)
          rw [if_neg n1, if_neg n2, if_neg pl_10, v5, pl_behind0 la x2, pl_bd, pl_goOnC hg hb hs1 c2 (by omega) (by omega), pl_bd, if_neg pl_10, ch u c c1, pl_bd, v6, w2', pl_bd, pl_setCh hg (by omega) (by omega) w1', pl_bd, ← x3, pl_527g hs16 (by rw [zu_ne1 (by decide)]; exact n14)]
          exact ⟨_, _, _, rfl, rfl, z1, Or.inr ⟨rfl, by rw [zu_ne1 (by decide)]; exact k3, z2, Or.inr (Or.inr (Or.inr (Or.inl ⟨by rw [z1.1.2.2 87 (by decide)]; exact e1, c, e, a, ⟨by rw [z1.1.2.2 91 (by decide)]; exact c2, by omega⟩, ⟨by rw [z1.1.2.2 93 (by decide)]; exact d2, by omega⟩, n3, v5, (zV_of (zTr_f z1.1) _).mpr v1, ka, z4, z3⟩)))⟩⟩
        · rw [if_pos n1, if_pos n2, if_pos rfl, pl_527b hs16 k3 n14]
          exact ⟨_, _, _, rfl, rfl, hbad⟩
      · rw [if_neg q4, if_neg (show ¬ zKs t (t 58 c) = 4 + 1 from q4), if_pos rfl, if_pos rfl, pl_527b hs16 k3 n14]
        exact ⟨_, _, _, rfl, rfl, hbad⟩
    · -- pass
      have n14 : ¬ u 14 s = 9 := by rw [e1']; decide
      rw [e1, GP, e1']
      simp only [show ¬ (4 : Int32) = 2 by decide, show ¬ (4 : Int32) = 3 by decide, show ¬ (3 : Int32) = 0 by decide, show ¬ (3 : Int32) = 1 by decide, show ¬ (3 : Int32) = 2 by decide, if_false, if_true]
      rw [pl_isOne hg (by omega) (by omega) hr (Or.inr (Or.inr (Or.inl rfl))), pl_bd]
      unfold bX12_checkOne_324 bX12_checkOne_325
      by_cases q4 : zKs t (t 58 c) = 6
      · rw [if_pos q4, if_pos (show zKs t (t 58 c) = 5 + 1 from q4), if_neg pl_10, c2, d2]
        by_cases ce : c = e
        · rw [if_pos (by rw [ce]), if_pos (by rw [ce]), if_pos rfl, pl_527b hs16 k3 n14]
          exact ⟨_, _, _, rfl, rfl, hbad⟩
        · have nce : ¬ Int32.ofNat c = Int32.ofNat e := fun x => ce ((zn_inj (by omega) (by omega)).mp x)
          rw [if_neg nce, if_neg nce, ch u e d1, pl_bd]
          rcases zRs_neg hg hre with ⟨n1, n2, _⟩ | ⟨n1, n2, _, _, b, b', y1, y2, y3, y4, y5, y6⟩
          · rw [if_pos n1, if_pos n2, if_pos rfl, pl_527b hs16 k3 n14]
            exact ⟨_, _, _, rfl, rfl, hbad⟩
          · obtain ⟨a, a', v1, v2, v4, v5, v6, ka, ka'⟩ := zKs_at hg hr q4 (by decide)
            have la := zV_lt hg v1
            obtain ⟨w1, _, dd, x1, x2, x3⟩ := pl_thenOf hg v1 (Or.inr (Or.inr (Or.inl ka)))
            obtain ⟨w1', w2', _⟩ := pl_thenOf hg v2 (Or.inr (Or.inr (Or.inl ka')))
            obtain ⟨i1, _, di, j1, j2, j3⟩ := pl_givenOf hg v1 (Or.inl ka)
            obtain ⟨i1', i2', _⟩ := pl_givenOf hg v2 (Or.inl ka')
            have heI := ((zEq_sm v4).2.2.1 (Or.inl ka)).1
            have heB := ((zEq_sm v4).2.2.1 (Or.inl ka)).2
            rw [if_neg n1, if_neg n2, v5, pl_inside0 la j2, pl_bd, ch u e d1, pl_bd, ch u c c1, pl_bd, v6, i2', pl_bd, y5, y6]
            obtain ⟨t1, t1K, t1F, t1E⟩ := zEqual (o1 := b) (o2 := 2 * di) hg hb hK y1.1 (by omega)
            obtain ⟨u1, u1F, u1E⟩ := zEqualM (o1 := b') (o2 := (zD t).inn a') hg y2.1 i1'.1
            rw [zV_self y1, ← j3] at t1E
            rw [zV_self y2, zV_self i1'] at u1E
            have same : zEq (zD t) b ((zD t).inn a) ↔ zEq (zD t) b' ((zD t).inn a') := ⟨fun x => zEqv_eq.tr _ _ _ (zEqv_eq.sy _ _ y4) (zEqv_eq.tr _ _ _ x heI), fun x => zEqv_eq.tr _ _ _ y4 (zEqv_eq.tr _ _ _ x (zEqv_eq.sy _ _ heI))⟩
            have c11 : zC1 N n d s t u t1 u1 := zC1_eq t1K t1F u1F
            have k31 : u1 0 67 = -1 := by rw [u1F.1 67 (by decide)]; exact k3
            have n141 : ¬ u1 14 s = 9 := by rw [u1F.2 14 (by decide)]; exact n14
            rcases t1E with ⟨t1E, te⟩ | ⟨t1E, te⟩
            · rcases u1E with ⟨u1E, ue⟩ | ⟨u1E, ue⟩
              · rw [t1E, pl_bd, if_neg pl_10, u1E, pl_bd, if_neg pl_10, if_neg pl_10, zn_set (by omega) (by decide), pl_bd, zn_15, zn_wr (by omega) (by decide)]
                -- e is given away
                have k81 : zRw f N n d t1 u1 := zRw_of k8 (zTr_c t1F) (fun k _ => by rw [t1F.2 58 (by decide)]) (fun k _ => by rw [u1F.2 42 (by decide)])
                have c12 : zC1 N n d s t u (zu t1 58 e (-1)) (zu u1 42 (1500 * d + e) (-1)) := zC1_trans c11 (zC1_trans (zC1_58 t1K d1) (zC1_42 (zC1_58 (d := d) (s := s) (u := u1) t1K d1).2.2.1 d1))
                have k82 := zRw_set (k := e) k81 (Or.inl ⟨rfl, rfl⟩)
                have k32 : zu u1 42 (1500 * d + e) (-1) 0 67 = -1 := by rw [zu_ne1 (by decide)]; exact k31
                have hx2 := zCx_of hx0 c12.1 c12.2.1 c12.2.2.1
                have hk2 := zCk_of hk0 c12 k32 k82
                have tr := zTr_f c12.1
                have eD := zD_of tr
                have w1t := (zV_of tr _).mpr w1
                have w1t' := (zV_of tr _).mpr w1'
                obtain ⟨z1, z2, z3, z4⟩ := zGc (s := s) hx2 hk2 c1 w1t w1t' (by rw [eD]; exact heB) (by rw [c12.1.2.2 87 (by decide), e1]; decide)
                rw [eD] at z1 z2 z3 z4
                have w2t := (pl_thenOf hx2.1 ((zV_of tr _).mpr v2) (by rw [eD]; exact Or.inr (Or.inr (Or.inl ka')))).2.1
                rw [eD] at w2t
                rw [pl_behind0 (t := zu t1 (57 + 1) e (-1)) la (by rw [zu_ne1 (by decide), t1F.2 13 (by decide)]; exact x2), pl_bd, pl_goOnC hx2.1 hx2.2.1 hs1 (by rw [zu_ne1 (by decide), t1F.2 91 (by decide)]; exact c2) (by omega) (by omega), pl_bd, ch _ c c1, pl_bd, zu_ne2 (show ¬ 1500 * d + c = 1500 * d + e by omega), u1F.2 42 (by decide), v6, w2t, pl_bd, pl_setCh hx2.1 (by omega) (by omega) w1t', pl_bd, pl_527g hs16 (by rw [zu_ne1 (by decide), zu_ne1 (by decide)]; exact n141), zSg2_of tr, ← x3, eD]
                refine ⟨_, _, _, rfl, rfl, zC1_trans c12 z1, Or.inr ⟨rfl, by rw [zu_ne1 (by decide)]; exact k32, z2, ?_⟩⟩
                rw [z3, zur_zu, t1F.2 58 (by decide)]
                refine Or.inr (Or.inr (Or.inr (Or.inr (Or.inl ⟨?_, c, e, a, b, ⟨?_, by omega⟩, ⟨?_, by omega⟩, ce, y5, ?_, v5, ?_, ka, te, ?_, rfl⟩))))
                · rw [(zC1_trans c12 z1).1.2.2 87 (by decide)]; exact e1
                · rw [(zC1_trans c12 z1).1.2.2 91 (by decide)]; exact c2
                · rw [(zC1_trans c12 z1).1.2.2 93 (by decide)]; exact d2
                · exact (zV_of (zTr_f (zC1_trans c12 z1).1) _).mpr y1
                · exact (zV_of (zTr_f (zC1_trans c12 z1).1) _).mpr v1
                · exact z4
              · exact absurd (same.mp te) ue
            · rcases u1E with ⟨u1E, ue⟩ | ⟨u1E, ue⟩
              · exact absurd (same.mpr ue) te
              · rw [t1E, pl_bd, if_pos rfl, u1E, pl_bd, if_pos rfl, if_pos rfl, pl_527b hs16 k31 n141]
                exact ⟨_, _, _, rfl, rfl, zP1_bad c11 p1 (u1F.2 15 (by decide))⟩
      · rw [if_neg q4, if_neg (show ¬ zKs t (t 58 c) = 5 + 1 from q4), if_pos rfl, if_pos rfl, pl_527b hs16 k3 n14]
        exact ⟨_, _, _, rfl, rfl, hbad⟩
    · -- take
      have n14 : ¬ u 14 s = 9 := by rw [e1']; decide
      rw [e1, GP, e1']
      simp only [show ¬ (5 : Int32) = 2 by decide, show ¬ (5 : Int32) = 3 by decide, show ¬ (5 : Int32) = 4 by decide, show ¬ (4 : Int32) = 0 by decide, show ¬ (4 : Int32) = 1 by decide, show ¬ (4 : Int32) = 2 by decide, show ¬ (4 : Int32) = 3 by decide, if_false, if_true]
      rw [pl_isOne hg (by omega) (by omega) hr (Or.inr (Or.inr (Or.inr (Or.inl rfl)))), pl_bd]
      unfold bX12_checkOne_393 bX12_checkOne_394
      by_cases q4 : zKs t (t 58 c) = 7
      · rw [if_pos q4, if_pos (show zKs t (t 58 c) = 6 + 1 from q4), if_neg pl_10, ch u e d1, pl_bd, d2]
        rcases zRs_neg hg hre with ⟨n0, _, n1, n2, n3, _⟩ | ⟨n0, _, n1, n2, y⟩
        · obtain ⟨a, a', v1, v2, v4, v5, v6, ka, ka'⟩ := zKs_at hg hr q4 (by decide)
          have la := zV_lt hg v1
          have ce : ¬ c = e := fun x => by
            rw [x, n3] at v5
            exact absurd (show (0 : Int32) ≤ -1 by rw [v5]; exact zn_0le (by omega)) zn_m1
          obtain ⟨w1, _, dd, x1, x2, x3⟩ := pl_thenOf hg v1 (Or.inr (Or.inr (Or.inr ka)))
          obtain ⟨w1', w2', _⟩ := pl_thenOf hg v2 (Or.inr (Or.inr (Or.inr ka')))
          obtain ⟨i1, _, di, j1, j2, j3⟩ := pl_givenOf hg v1 (Or.inr ka)
          obtain ⟨i1', i2', _⟩ := pl_givenOf hg v2 (Or.inr ka')
          have heI := ((zEq_sm v4).2.2.1 (Or.inr ka)).1
          have heB := ((zEq_sm v4).2.2.1 (Or.inr ka)).2
          rw [if_pos n0, if_neg n2, if_neg pl_10, v5, pl_inside0 la j2, pl_bd, pl_hold hg hb (by omega) (by omega), pl_bd, ch u c c1, pl_bd, v6, i2', pl_bd, pl_setCh hg (by omega) (by omega) i1', pl_bd, ← j3]
          have k82 := zRw_set (k := e) k8 (zRs_new (f := f) i1 i1' heI)
          have c12 : zC1 N n d s t u (zu t 58 e (if (zD t).kd ((zD t).inn a) = 0 then -1 else Int32.ofNat ((zD t).inn a))) (zu u 42 (1500 * d + e) (if (zD t).kd ((zD t).inn a') = 0 then -1 else Int32.ofNat (zF f ((zD t).inn a')))) := zC1_trans (zC1_58 hK d1) (zC1_42 (zC1_58 (d := d) (s := s) (u := u) hK d1).2.2.1 d1)
          have k32 : zu u 42 (1500 * d + e) (if (zD t).kd ((zD t).inn a') = 0 then -1 else Int32.ofNat (zF f ((zD t).inn a'))) 0 67 = -1 := by rw [zu_ne1 (by decide)]; exact k3
          have hx2 := zCx_of hx0 c12.1 c12.2.1 c12.2.2.1
          have hk2 := zCk_of hk0 c12 k32 k82
          have tr := zTr_f c12.1
          have eD := zD_of tr
          have w1t := (zV_of tr _).mpr w1
          have w1t' := (zV_of tr _).mpr w1'
          obtain ⟨z1, z2, z3, z4⟩ := zGc (s := s) hx2 hk2 c1 w1t w1t' (by rw [eD]; exact heB) (by rw [c12.1.2.2 87 (by decide), e1]; decide)
          rw [eD] at z1 z2 z3 z4
          have w2t := (pl_thenOf hx2.1 ((zV_of tr _).mpr v2) (by rw [eD]; exact Or.inr (Or.inr (Or.inr ka')))).2.1
          rw [eD] at w2t
          rw [pl_behind0 la (by rw [zu_ne1 (by decide)]; exact x2), pl_bd, pl_goOnC hx2.1 hx2.2.1 hs1 (by rw [zu_ne1 (by decide)]; exact c2) (by omega) (by omega), pl_bd, ch _ c c1, pl_bd, zu_ne2 (show ¬ 1500 * d + c = 1500 * d + e by omega), v6, w2t, pl_bd, pl_setCh hx2.1 (by omega) (by omega) w1t', pl_bd, pl_527g hs16 (by rw [zu_ne1 (by decide), zu_ne1 (by decide)]; exact n14), zSg2_of tr, ← x3, eD]
          refine ⟨_, _, _, rfl, rfl, zC1_trans c12 z1, Or.inr ⟨rfl, by rw [zu_ne1 (by decide)]; exact k32, z2, ?_⟩⟩
          rw [z3, zur_zu]
          refine Or.inr (Or.inr (Or.inr (Or.inr (Or.inr (Or.inl ⟨?_, c, e, a, ⟨?_, by omega⟩, ⟨?_, by omega⟩, n3, v5, ?_, ka, ?_, rfl⟩)))))
          · rw [(zC1_trans c12 z1).1.2.2 87 (by decide)]; exact e1
          · rw [(zC1_trans c12 z1).1.2.2 91 (by decide)]; exact c2
          · rw [(zC1_trans c12 z1).1.2.2 93 (by decide)]; exact d2
          · exact (zV_of (zTr_f (zC1_trans c12 z1).1) _).mpr v1
          · exact z4
        · rw [if_neg n0, if_pos n2, if_pos rfl, pl_527b hs16 k3 n14]
          exact ⟨_, _, _, rfl, rfl, hbad⟩
      · rw [if_neg q4, if_neg (show ¬ zKs t (t 58 c) = 6 + 1 from q4), if_pos rfl, if_pos rfl, pl_527b hs16 k3 n14]
        exact ⟨_, _, _, rfl, rfl, hbad⟩
  · exact absurd hkd (by rw [e1]; decide)
  · exact absurd hkd (by rw [e1]; decide)
  · exact absurd hkd (by rw [e1]; decide)
  · exact absurd hkd (by rcases e1 with e | e | e <;> rw [e.1] <;> decide)
  · exact absurd hkd (by rw [e1]; decide)
  · exact absurd hkd (by rw [e1]; decide)
