/-! EQUAL: LABELS compared (the class) -/
theorem pl_choose {G : zTxt} {f : Nat → Nat} {N M P A T a b k : Nat} {W : List (Nat × Nat)} {t u : zS} (h : zTG G f N M P A T t u) (ha : zV N t a) (hb : zV N t b) (he : (zD t).kd a = (zD t).kd b) (h8 : (zD t).kd a = 8 ∨ (zD t).kd a = 9) (h12 : t 3 12 = Int32.ofNat k) (hk : k + zDc (zD t) a ≤ 6002) (hW : zWk (zQc N t) (t 31) k W) : ∃ t2, zFq t t2 ∧ ((mX2_chooseAlike (Int32.ofNat a) (Int32.ofNat b) t = some (0, t2) ∧ ¬ zSm (zD t) (zEq (zD t)) a b) ∨ ∃ W2, mX2_chooseAlike (Int32.ofNat a) (Int32.ofNat b) t = some (1, t2) ∧ zPush (zD t) N t a b k W t2 W2) := by
  have la := zV_lt h ha
  have lb := zV_lt h hb
  have hN := h.2.2.2.1
  obtain ⟨n, aa, e, c1, c2, cP, c3, _, _, _, c7, c8, c9, c10, c11⟩ := zV_lab h ha h8
  obtain ⟨n', aa', e', c1', c2', _, c3', _, _, _, c7', c8', c9', c10', c11'⟩ := zV_lab h hb (by rw [← he]; exact h8)
  obtain ⟨sa1, sa2⟩ := zb_s a la
  obtain ⟨sb1, sb2⟩ := zb_s b lb
  have ed : zDc (zD t) a = n := by
    unfold zDc
    rw [if_neg (by rcases h8 with q | q <;> rw [q] <;> decide), if_neg (by rcases h8 with q | q <;> rw [q] <;> decide), if_pos h8, zD_ct, c3]
    exact pl_clamp (pl_ofn (by omega))
  rw [ed] at hk
  have ga : mX2_choices (Int32.ofNat a) t = some (Int32.ofNat n, t) := by
    unfold mX2_choices
    rw [sa1, show mX5_get 12 3000 (Int32.ofNat (a / 2)) t = some (t 13 (a / 2), t) from zn_get (by omega) (by decide), pl_bd, c3]
  have gb : mX2_choices (Int32.ofNat b) t = some (Int32.ofNat n', t) := by
    unfold mX2_choices
    rw [sb1, show mX5_get 12 3000 (Int32.ofNat (b / 2)) t = some (t 13 (b / 2), t) from zn_get (by omega) (by decide), pl_bd, c3']
  unfold mX2_chooseAlike
  rw [ga, pl_bd, gb, pl_bd]
  by_cases hn : n = n'
  · subst hn
    rw [if_pos rfl, sa1, show mX5_get 10 3000 (Int32.ofNat (a / 2)) t = some (t 11 (a / 2), t) from zn_get (by omega) (by decide), pl_bd]
    have hx : t 11 (a / 2) = if 0 < n then Int32.ofNat (e 0) else -1 := by
      rw [c7.1, if_neg (by omega), if_pos c1]
    have loop : ∀ (d j fu : Nat) (t1 : zS) (W1 : List (Nat × Nat)), d + j = n → zFq t t1 → t1 3 12 = Int32.ofNat (k + j) → zWk (zQc N t) (t1 31) (k + j) W1 → (∀ e, e ∈ W → e ∈ W1) → (∀ i, i < j → ∃ x y, (zD t).pt a (t 15 (e i)) = some x ∧ (zD t).pt b (t 15 (e i)) = some y ∧ (x, y) ∈ W1) → (∀ q, q ∈ W1 → q ∈ W ∨ ∃ l x y, (zD t).pt a l = some x ∧ (zD t).pt b l = some y ∧ q = (x, y)) → ∃ t2, zFq t t2 ∧ ((lX2_chooseAlike_29 (fu + d + 1) (Int32.ofNat a) (Int32.ofNat b) (if j < n then Int32.ofNat (e j) else -1) (Int32.ofNat j) t1 = some (0, t2) ∧ ¬ zSm (zD t) (zEq (zD t)) a b) ∨ ∃ W2, lX2_chooseAlike_29 (fu + d + 1) (Int32.ofNat a) (Int32.ofNat b) (if j < n then Int32.ofNat (e j) else -1) (Int32.ofNat j) t1 = some (1, t2) ∧ zPush (zD t) N t a b k W t2 W2) := by
      intro d
      induction d with
      | zero =>
        intro j fu t1 W1 hd hq h1 hW1 hs1 hp hm
        have ej : j = n := by omega
        subst ej
        refine ⟨t1, hq, Or.inr ⟨W1, ?_, by rw [ed]; exact h1, by rw [ed]; exact hW1, ⟨he, fun w => ?_, fun w => ?_, fun _ => ⟨by rw [zD_ct, zD_ct, c3, c3'], fun l => ?_⟩⟩, hs1, fun q hq2 => ?_⟩⟩
        · rw [if_neg (Nat.lt_irrefl _)]
          show bX2_chooseAlike_29 _ _ _ _ _ t1 = _
          unfold bX2_chooseAlike_29
          rw [if_neg (show ¬ (1600 : Int32) ≤ Int32.ofNat j from fun w => by have := (zn_le (a := 1600) (by decide) (by omega)).mp w; omega), if_pos (by decide)]
        · rcases h8 with q | q <;> rw [q] at w <;> exact absurd w (by decide)
        · rcases h8 with q | q <;> rw [q] at w <;> exact absurd w (by decide)
        · by_cases ci : ∃ i, i < j ∧ t 15 (e i) = l
          · obtain ⟨i, i1, i2⟩ := ci
            obtain ⟨x, y, x1, x2, x3⟩ := hp i i1
            rw [← i2, x1, x2]
            exact x3
          · have na : (zD t).pt a l = none := (c10 l).mpr (fun i hi w => ci ⟨i, hi, w⟩)
            have nb : (zD t).pt b l = none := by
              rw [c10' l]
              intro i' hi' w
              have := zLab (x := fun i => t 15 (e i)) (y := fun i => t 15 (e' i)) (n := j) c9 (fun i hi => by
                obtain ⟨x, y, x1, x2, x3⟩ := hp i hi
                by_cases c : ∃ i', i' < j ∧ t 15 (e' i') = t 15 (e i)
                · exact c
                · rw [(c10' _).mpr (fun i' hi' w => c ⟨i', hi', w⟩)] at x2; cases x2) i' hi'
              obtain ⟨i, i1, i2⟩ := this
              exact ci ⟨i, i1, i2.trans w⟩
            rw [na, nb]
            trivial
        · rcases hm q hq2 with w | ⟨l, x, y, w1, w2, w3⟩
          · exact Or.inl w
          · refine Or.inr (fun s => ?_)
            have := (s.2.2.2 h8).2 l
            rw [w1, w2] at this
            rw [w3]; exact this
      | succ d ih =>
        intro j fu t1 W1 hd hq h1 hW1 hs1 hp hm
        have hj : j < n := by omega
        have tr := zTr_pair hq.1 hq.2
        obtain ⟨p1, p2⟩ := c7.2 j hj
        obtain ⟨x, x1, x2, x3⟩ := c11 j hj
        have g14 : mX5_get 14 1600 (Int32.ofNat (e j)) t1 = some (t 15 (e j), t1) := by
          rw [zn_get (by omega) (by decide), show t1 (14 + 1) = t 15 from hq.2 15 (by decide)]
        have c7b : zLk (t1 19) P n (t1 11 (b / 2)) e' := by rw [hq.2 19 (by decide), hq.2 11 (by decide)]; exact c7'
        have gF : mX2_findPart (Int32.ofNat (b / 2)) (t 15 (e j)) t1 = some (zOi (zFd t 1600 (t 11 (b / 2)) (t 15 (e j))), t1) := by
          rw [pl_findP (by omega) c2 (by omega) c7b, zFd_of tr, hq.2 11 (by decide)]
        rw [if_pos hj]
        have est : lX2_chooseAlike_29 (fu + (d + 1) + 1) (Int32.ofNat a) (Int32.ofNat b) (Int32.ofNat (e j)) (Int32.ofNat j) t1 = if 0 ≤ zOi (zFd t 1600 (t 11 (b / 2)) (t 15 (e j))) then zbd (mX5_get 16 1600 (Int32.ofNat (e j)) t1) fun r1170 t1171 => zbd (mX5_get 16 1600 (zOi (zFd t 1600 (t 11 (b / 2)) (t 15 (e j)))) t1171) fun r1173 t1174 => zbd (mX2_pairUp ((2 * r1170) + (Int32.ofNat a &&& 1)) ((2 * r1173) + (Int32.ofNat b &&& 1)) t1174) fun r1176 t1177 => zbd (mX5_get 18 1600 (Int32.ofNat (e j)) t1177) fun r1179 t1180 => zlet (Int32.ofNat j + 1) fun v1182 => lX2_chooseAlike_29 (fu + d + 1) (Int32.ofNat a) (Int32.ofNat b) r1179 v1182 t1180 else some (0, t1) := by
          show bX2_chooseAlike_29 (lX2_chooseAlike_29 (fu + d + 1)) _ _ _ _ t1 = _
          unfold bX2_chooseAlike_29
          rw [if_neg (show ¬ (1600 : Int32) ≤ Int32.ofNat j from fun w => by have := (zn_le (a := 1600) (by decide) (by omega)).mp w; omega), if_neg (zn_neg (by omega)), g14, pl_bd, sb1, gF, pl_bd]
        rw [est]
        rcases zFd_all (by omega) (by omega) c7' (t 15 (e j)) with ⟨b1, b2⟩ | ⟨i', b1, b2, b3⟩
        · rw [b1]
          refine ⟨t1, hq, Or.inl ⟨by rw [if_neg (show ¬ (0 : Int32) ≤ zOi none from zn_m1)], fun s => ?_⟩⟩
          have := (s.2.2.2 h8).2 (t 15 (e j))
          rw [x3, (c10' _).mpr b2] at this
          exact this
        · obtain ⟨x', x1', x2', x3'⟩ := c11' i' b1
          have he' := (c7'.2 i' b1).1
          rw [b2]
          have g16 : mX5_get 16 1600 (Int32.ofNat (e j)) t1 = some (Int32.ofNat x, t1) := by
            rw [zn_get (by omega) (by decide), show t1 (16 + 1) = t 17 from hq.2 17 (by decide), x2]
          have g16' : mX5_get 16 1600 (zOi (some (e' i'))) t1 = some (Int32.ofNat x', t1) := by
            show mX5_get 16 1600 (Int32.ofNat (e' i')) t1 = _
            rw [zn_get (by omega) (by decide), show t1 (16 + 1) = t 17 from hq.2 17 (by decide), x2']
          rw [if_pos (show (0 : Int32) ≤ zOi (some (e' i')) from zn_0le (by omega)), g16, pl_bd, g16', pl_bd, sa2, sb2, zn_dbl, zn_dbl]
          rw [← zQc_of tr] at hW1
          obtain ⟨t2, z1, z2, z3, z4, z5⟩ := pl_pairUp (a := zSg2 t (2 * x + a % 2)) (b := zSg2 t (2 * x' + b % 2)) h1 (by omega) hW1 ⟨2 * x + a % 2, by omega, rfl, by rw [zSg2_of tr]⟩ ⟨2 * x' + b % 2, by omega, rfl, by rw [zSg2_of tr]⟩
          rw [zQc_of tr] at z3
          have hq2 : zFq t t2 := zFq_trans hq ⟨z4, z5⟩
          have g18 : mX5_get 18 1600 (Int32.ofNat (e j)) t2 = some (if j + 1 < n then Int32.ofNat (e (j + 1)) else -1, t2) := by
            rw [zn_get (by omega) (by decide), show t2 (18 + 1) = t 19 from hq2.2 19 (by decide), p2]
          rw [z1, pl_bd, g18, pl_bd, pl_let, zn_1]
          have x3b : (zD t).pt b (t 15 (e j)) = some (zSg2 t (2 * x' + b % 2)) := by rw [← b3]; exact x3'
          exact ih (j + 1) fu t2 _ (by omega) hq2 z2 z3 (fun q w => List.mem_cons_of_mem _ (hs1 q w)) (fun i hi => by
            by_cases ei : i = j
            · subst ei
              exact ⟨_, _, x3, x3b, List.mem_cons_self⟩
            · obtain ⟨y1, y2, y3, y4, y5⟩ := hp i (by omega)
              exact ⟨y1, y2, y3, y4, List.mem_cons_of_mem _ y5⟩) (fun q hq => by
            rcases List.mem_cons.mp hq with w | w
            · exact Or.inr ⟨_, _, _, x3, x3b, w⟩
            · exact hm q w)
    rw [hx]
    have := loop n 0 (zFU - n - 1) t W (by omega) (zFq_refl t) h12 hW (fun _ w => w) (fun i hi => absurd hi (Nat.not_lt_zero i)) (fun q w => Or.inl w)
    rw [show zFU - n - 1 + n + 1 = zFU by unfold zFU; omega] at this
    exact this
  · rw [if_neg (fun w => hn ((zn_inj (by omega) (by omega)).mp w))]
    refine ⟨t, zFq_refl t, Or.inl ⟨rfl, fun s => ?_⟩⟩
    have := (s.2.2.2 h8).1
    rw [zD_ct, zD_ct, c3, c3'] at this
    exact hn ((zn_inj (by omega) (by omega)).mp this)
