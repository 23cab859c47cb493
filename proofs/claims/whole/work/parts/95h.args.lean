/-! CHECK: ARGUMENTS -/
/-- channels are given away one by one -/
def zGv (D : zCo) (N : Nat) (t : zS) (b : Nat) : Nat → Nat → Nat → (Nat → Int32) → (Nat → Int32) → Prop
  | 0, _, _, r, r2 => r2 = r
  | m + 1, a, k, r, r2 => (t 45 (b + k) = -1 ∧ zGv D N t b m (a + 1) (k + 1) r r2) ∨ ∃ j x c, (t 83 a = Int32.ofNat j ∧ j < 3000) ∧ r j = Int32.ofNat x ∧ zV N t x ∧ c < N ∧ t 45 (b + k) = Int32.ofNat (2 * c) ∧ zEq D x (zSg2 t (2 * c)) ∧ zGv D N t b m (a + 1) (k + 1) (zur r j (-1)) r2
theorem zArg_f {q F C k : Nat} {t u t2 u2 : zS} (ht : zCf t t2) (hu : zCm u u2) : zArg t2 u2 q F C k = zArg t u q F C k := by
  unfold zArg zFm zSo
  rw [ht.2.2 79 (by decide), ht.2.2 81 (by decide), ht.2.2 83 (by decide), ht.2.2 39 (by decide), ht.2.2 75 (by decide), ht.2.2 77 (by decide), hu.2 25 (by decide), hu.2 26 (by decide), hu.2 27 (by decide)]
theorem zF_dbl (f : Nat → Nat) (c : Nat) : zF f (2 * c) = 2 * f c := by
  unfold zF
  rw [show 2 * c / 2 = c by omega]
  omega
theorem zArgsC {G : zTxt} {f : Nat → Nat} {N M P A T Q Pa bb S F C R W V n d q s a m x np p0 b0 sk : Nat} {o : Nat → Nat × Nat} {w : Nat → Nat} {t u : zS} {to : Int32} (hx : zCx G f N M P A T Q Pa bb S F C R W V o w t u) (hk : zCk f N n d q t u) (hs : s < S) (h97 : t 97 s = Int32.ofNat (a + m)) (h19 : u 19 s = Int32.ofNat a) (h20 : u 20 s = Int32.ofNat m) (hR : a + m ≤ R) (hArg : ∀ k, a ≤ k → k < a + m → zArg t u q F C k) (hxQ : x < Q) (h35 : t 35 x = Int32.ofNat p0) (h31 : u 31 x = Int32.ofNat b0) (hnp : np = m + sk) (hp0 : p0 + np ≤ Pa) (hb0 : b0 + np ≤ bb) (hPm : ∀ j, j < np → zPm f N (t 45 (p0 + j)) (u 34 (b0 + j))) : ∀ (e i fu fv : Nat) (t1 u1 : zS), e + i = m → zC1 N n d s t u t1 u1 → u1 0 67 = -1 → zRw f N n d t1 u1 → ∃ b t2 u2, lX1_givesArguments_52 (fu + e + 1) (Int32.ofNat s) (Int32.ofNat x) (Int32.ofNat (sk + i)) (Int32.ofNat (a + i)) t1 = some (b, t2) ∧ zC1 N n d s t u t2 u2 ∧ u2 0 67 = -1 ∧ ((b = 0 ∧ lX12_checkCall_79 (fv + e + 1) (Int32.ofNat s) (Int32.ofNat d) (Int32.ofNat x) to (Int32.ofNat sk) (Int32.ofNat i) u1 = some (0, u2)) ∨ (b = 1 ∧ lX12_checkCall_79 (fv + e + 1) (Int32.ofNat s) (Int32.ofNat d) (Int32.ofNat x) to (Int32.ofNat sk) (Int32.ofNat i) u1 = lX12_checkCall_79 (fv + 1) (Int32.ofNat s) (Int32.ofNat d) (Int32.ofNat x) to (Int32.ofNat sk) (Int32.ofNat m) u2 ∧ zRw f N n d t2 u2 ∧ zGv (zD t) N t p0 e (a + i) (sk + i) (t1 58) (t2 58))) := by
  have hx0 := hx
  have hk0 := hk
  obtain ⟨hg, hb, hK, hP, _, hF, hC, hS, hQ, hR2, hW, hV, hbb, hPa⟩ := hx
  obtain ⟨k1, k2, k3, k4, k5, k6, k7, k8⟩ := hk
  have hN := hg.2.2.2.1
  have hs1 : s < 1000 := by omega
  have hs16 : s < 1600 := by omega
  intro e
  induction e with
  | zero =>
    intro i fu fv t1 u1 he h1 h67 hr
    have ei : i = m := by omega
    subst ei
    refine ⟨1, t1, u1, ?_, h1, h67, Or.inr ⟨rfl, rfl, hr, rfl⟩⟩
    show bX1_givesArguments_52 _ _ _ _ _ t1 = _
    unfold bX1_givesArguments_52
    rw [show mX5_get 96 1000 (Int32.ofNat s) t1 = some (Int32.ofNat (a + i), t1) by rw [← h97, ← h1.1.2.2 97 (by decide)]; exact zn_get hs1 (by decide), pl_bd, if_pos ((zn_le (by omega) (by omega)).mpr (Nat.le_refl _))]
  | succ e ih =>
    intro i fu fv t1 u1 he h1 h67 hr
    have hx1 := zCx_of hx0 h1.1 h1.2.1 h1.2.2.1
    have hk1 := zCk_of hk0 h1 h67 hr
    have tr := zTr_f h1.1
    have eD := zD_of tr
    have hA1 : zArg t1 u1 q F C (a + i) := by rw [zArg_f h1.1 h1.2.1]; exact hArg (a + i) (by omega) (by omega)
    have r45 : t1 45 = t 45 := h1.1.2.2 45 (by decide)
    have g96 : mX5_get 96 1000 (Int32.ofNat s) t1 = some (Int32.ofNat (a + m), t1) := by rw [← h97, ← h1.1.2.2 97 (by decide)]; exact zn_get hs1 (by decide)
    have g34 : mX5_get 34 400 (Int32.ofNat x) t1 = some (Int32.ofNat p0, t1) := by rw [← h35, ← h1.1.2.2 35 (by decide)]; exact zn_get (by omega) (by decide)
    have g44 : mX5_get 44 1600 (Int32.ofNat (p0 + (sk + i))) t1 = some (t 45 (p0 + (sk + i)), t1) := by rw [← r45]; exact zn_get (by omega) (by decide)
    have gF : mX6_form (Int32.ofNat x) (Int32.ofNat (sk + i)) t1 = some (t 45 (p0 + (sk + i)), t1) := by
      unfold mX6_form
      rw [g34, pl_bd, zn_add, g44, pl_bd]
    have g82 : mX5_get 82 1600 (Int32.ofNat (a + i)) t1 = some (t1 83 (a + i), t1) := zn_get (by omega) (by decide)
    have eC : lX1_givesArguments_52 (fu + (e + 1) + 1) (Int32.ofNat s) (Int32.ofNat x) (Int32.ofNat (sk + i)) (Int32.ofNat (a + i)) t1 = if 0 ≤ t 45 (p0 + (sk + i)) then zbd (mX5_get 57 80000 (t1 83 (a + i)) t1) fun r1275 t1276 => if r1275 < 0 then some (0, t1276) else zbd (mX5_get 57 80000 (t1 83 (a + i)) t1276) fun r1278 t1279 => zbd (mX2_equal r1278 (t 45 (p0 + (sk + i))) t1279) fun r1281 t1282 => if r1281 = 0 then some (0, t1282) else zbd (mX5_set 57 80000 (t1 83 (a + i)) (-1) t1282) fun r1284 t1285 => lX1_givesArguments_52 (fu + e + 1) (Int32.ofNat s) (Int32.ofNat x) (Int32.ofNat (sk + (i + 1))) (Int32.ofNat (a + (i + 1))) t1285 else zbd (mX3_isWithout (t1 79 (a + i)) (t1 81 (a + i)) t1) fun r1293 t1294 => if r1293 = 0 then some (0, t1294) else lX1_givesArguments_52 (fu + e + 1) (Int32.ofNat s) (Int32.ofNat x) (Int32.ofNat (sk + (i + 1))) (Int32.ofNat (a + (i + 1))) t1294 := by
      show bX1_givesArguments_52 (lX1_givesArguments_52 (fu + e + 1)) _ _ _ _ t1 = _
      unfold bX1_givesArguments_52 bX1_givesArguments_183
      rw [g96, pl_bd, if_neg (show ¬ Int32.ofNat (a + m) ≤ Int32.ofNat (a + i) by rw [zn_le (by omega) (by omega)]; omega), gF, pl_bd, g82, pl_bd, show mX5_get 78 1600 (Int32.ofNat (a + i)) t1 = some (t1 79 (a + i), t1) from zn_get (by omega) (by decide), pl_bd, show mX5_get 80 1600 (Int32.ofNat (a + i)) t1 = some (t1 81 (a + i), t1) from zn_get (by omega) (by decide), pl_bd]
      simp only [pl_let, zn_1]
      rfl
    have r31 : u1 31 = u 31 := h1.2.1.2 31 (by decide)
    have r34 : u1 34 = u 34 := h1.2.1.2 34 (by decide)
    have r19 : u1 19 = u 19 := h1.2.1.2 19 (by decide)
    have r20 : u1 20 = u 20 := h1.2.1.2 20 (by decide)
    have eM : lX12_checkCall_79 (fv + (e + 1) + 1) (Int32.ofNat s) (Int32.ofNat d) (Int32.ofNat x) to (Int32.ofNat sk) (Int32.ofNat i) u1 = if 0 ≤ u 34 (b0 + (sk + i)) then zrd u1 26 1600 (Int32.ofNat (a + i)) fun v3804 => if v3804 < 0 then some (0, u1) else zbd (mX12_channel (Int32.ofNat d) v3804 u1) fun r3806 t3807 => if r3806 < 0 then some (0, t3807) else zbd (mX12_channel (Int32.ofNat d) v3804 t3807) fun r3809 t3810 => zbd (mX12_areEqual r3809 (2 * u 34 (b0 + (sk + i))) t3810) fun r3812 t3813 => if r3812 = 0 then some (0, t3813) else zwr t3813 42 66000 ((1500 * Int32.ofNat d) + v3804) (-1) fun t3816 => lX12_checkCall_79 (fv + e + 1) (Int32.ofNat s) (Int32.ofNat d) (Int32.ofNat x) to (Int32.ofNat sk) (Int32.ofNat (i + 1)) t3816 else zrd u1 25 1600 (Int32.ofNat (a + i)) fun v3817 => zbd (mX12_areNumbers v3817 (Int32.ofNat d) u1) fun r3819 t3820 => if r3819 = 0 then some (0, t3820) else lX12_checkCall_79 (fv + e + 1) (Int32.ofNat s) (Int32.ofNat d) (Int32.ofNat x) to (Int32.ofNat sk) (Int32.ofNat (i + 1)) t3820 := by
      show bX12_checkCall_79 (lX12_checkCall_79 (fv + e + 1)) _ _ _ _ _ _ u1 = _
      unfold bX12_checkCall_79 bX12_checkCall_200
      rw [zn_rd hs16 (by decide), r20, h20, if_neg (show ¬ Int32.ofNat m ≤ Int32.ofNat i by rw [zn_le (by omega) (by omega)]; omega), zn_rd (by omega) (by decide), r31, h31, zn_add, zn_add, show b0 + sk + i = b0 + (sk + i) by omega, zn_rd (by omega) (by decide), r34, zn_rd hs16 (by decide), r19, h19, zn_add, pl_let]
      simp only [pl_let, zn_1]
    rw [eC, eM]
    rcases hPm (sk + i) (by omega) with ⟨m1, m2⟩ | ⟨c, m0, m1, m2⟩
    · -- a number
      rw [if_neg (by rw [m1]; decide), if_neg (by rw [m2]; decide), zn_rd (by omega) (by decide)]
      obtain ⟨b, b1, b2, b3⟩ := zWithout hx1.1 hr (by omega) (by omega) hA1.1 hk1.2.2.2.2.1 hF hC
      rw [b2, pl_bd, b3, pl_bd]
      rcases b1 with b1 | b1
      · rw [b1, if_pos rfl, if_pos rfl]
        exact ⟨0, t1, u1, rfl, h1, h67, Or.inl ⟨rfl, rfl⟩⟩
      · rw [b1, if_neg pl_10, if_neg pl_10]
        obtain ⟨b', t2, u2, z1, z2, z3, z4⟩ := ih (i + 1) fu fv t1 u1 (by omega) h1 h67 hr
        refine ⟨b', t2, u2, z1, z2, z3, ?_⟩
        rcases z4 with z4 | ⟨z4, z5, z6, z7⟩
        · exact Or.inl z4
        · exact Or.inr ⟨z4, z5, z6, Or.inl ⟨m1, z7⟩⟩
    · -- a channel
      have hfc := hg.1.2.2.2.2.1 c m0
      have hM := hg.2.2.2.2.1
      rw [if_pos (by rw [m1]; exact zn_0le (by omega)), if_pos (by rw [m2]; exact zn_0le (by omega)), zn_rd (by omega) (by decide)]
      rcases hA1.2 with ⟨a1, a2⟩ | ⟨hso⟩
      · rw [a1, a2, pl_getm, pl_bd, if_pos (by decide), if_pos (by decide)]
        exact ⟨0, t1, u1, rfl, h1, h67, Or.inl ⟨rfl, rfl⟩⟩
      · obtain ⟨j, j1, j2, j3⟩ := zSo_n (by assumption) hk1.2.2.2.2.1 k6
        have g57 : mX5_get 57 80000 (t1 83 (a + i)) t1 = some (t1 58 j, t1) := by rw [j2]; exact zn_get (by omega) (by decide)
        rw [g57, pl_bd, j3, if_neg (zn_neg (by omega)), pl_channel (by omega) (by omega), pl_bd]
        rcases zRs_neg hx1.1 (hr j j1) with ⟨n1, n2, _⟩ | ⟨n1, n2, _, _, y, y', v1, v2, v3, v4, v5, v6⟩
        · rw [if_pos n1, if_pos n2]
          exact ⟨0, t1, u1, rfl, h1, h67, Or.inl ⟨rfl, rfl⟩⟩
        · rw [if_neg n1, if_neg n2, g57, pl_bd, pl_channel (by omega) (by omega), pl_bd, v5, v6, m1, m2, zn_dbl0, ← zF_dbl]
          obtain ⟨t2, t2K, t2F, t2E⟩ := zEqual (o1 := y) (o2 := 2 * c) hx1.1 hx1.2.1 hx1.2.2.1 v1.1 (by omega)
          obtain ⟨u2, u2F, u2E⟩ := zEqualM (o1 := y') (o2 := 2 * c) hx1.1 v2.1 (by omega)
          rw [zV_self v1] at t2E
          rw [zV_self v2] at u2E
          have same : zEq (zD t1) y (zSg2 t1 (2 * c)) ↔ zEq (zD t1) y' (zSg2 t1 (2 * c)) := ⟨fun x => zEqv_eq.tr _ _ _ (zEqv_eq.sy _ _ v4) x, fun x => zEqv_eq.tr _ _ _ v4 x⟩
          have c2 : zC1 N n d s t u t2 u2 := zC1_trans h1 (zC1_eq t2K t2F u2F)
          have k67 : u2 0 67 = -1 := by rw [u2F.1 67 (by decide)]; exact h67
          rcases t2E with ⟨t2E, te⟩ | ⟨t2E, te⟩
          · rcases u2E with ⟨u2E, ue⟩ | ⟨u2E, ue⟩
            · rw [t2E, pl_bd, if_neg pl_10, u2E, pl_bd, if_neg pl_10, j2, zn_set (by omega) (by decide), pl_bd, zn_15, zn_wr (by omega) (by decide)]
              have hr2 : zRw f N n d t2 u2 := zRw_of hr (zTr_c t2F) (fun k _ => by rw [t2F.2 58 (by decide)]) (fun k _ => by rw [u2F.2 42 (by decide)])
              have hr3 := zRw_set (k := j) hr2 (Or.inl ⟨rfl, rfl⟩)
              have c3 : zC1 N n d s t u (zu t2 58 j (-1)) (zu u2 42 (1500 * d + j) (-1)) := zC1_trans c2 (zC1_trans (zC1_58 t2K j1) (zC1_42 (zC1_58 (d := d) (s := s) (u := u2) t2K j1).2.2.1 j1))
              obtain ⟨b', t3, u3, z1, z2, z3, z4⟩ := ih (i + 1) fu fv _ _ (by omega) c3 (by rw [zu_ne1 (by decide)]; exact k67) hr3
              refine ⟨b', t3, u3, z1, z2, z3, ?_⟩
              rcases z4 with z4 | ⟨z4, z5, z6, z7⟩
              · exact Or.inl z4
              · refine Or.inr ⟨z4, z5, z6, Or.inr ⟨j, y, c, ⟨by rw [← h1.1.2.2 83 (by decide)]; exact j2, by omega⟩, v5, (zV_of tr _).mp v1, m0, m1, ?_, ?_⟩⟩
                · rw [← eD, ← zSg2_of tr]; exact te
                · rw [zur_zu, t2F.2 58 (by decide)] at z7
                  exact z7
            · exact absurd (same.mp te) ue
          · rcases u2E with ⟨u2E, ue⟩ | ⟨u2E, ue⟩
            · exact absurd (same.mpr ue) te
            · rw [t2E, pl_bd, if_pos rfl, u2E, pl_bd, if_pos rfl]
              exact ⟨0, t2, u2, rfl, c2, k67, Or.inl ⟨rfl, rfl⟩⟩
