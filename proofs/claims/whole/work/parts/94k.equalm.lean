/-! EQUAL: the reference -/
theorem pl_chooseM {G : zTxt} {f : Nat → Nat} {N M P A T a b k : Nat} {W : List (Nat × Nat)} {t u : zS} {k44 : zS → zR} (h : zTG G f N M P A T t u) (ha : zV N t a) (hb : zV N t b) (he : (zD t).kd a = (zD t).kd b) (h8 : (zD t).kd a = 8 ∨ (zD t).kd a = 9) (h65 : u 0 65 = Int32.ofNat (2 * k)) (hk : k + zDc (zD t) a ≤ 13000) (hW : zWk (zQm f N t) (u 41) k W) : ∃ u2, zFpp u u2 ∧ ((bX12_areEqual_152 k44 (Int32.ofNat (zF f a)) (Int32.ofNat (zF f b)) u = some (0, u2) ∧ ¬ zSm (zD t) (zEq (zD t)) a b) ∨ ∃ W2, bX12_areEqual_152 k44 (Int32.ofNat (zF f a)) (Int32.ofNat (zF f b)) u = k44 u2 ∧ zPuM (zD t) f N t a b k W u2 W2) := by
  have hN := h.2.2.2.1
  have hB := h.2.2.2.2.2.2.2.2.2
  obtain ⟨n, aa, e, c1, c2, cP, c3, c4, c5, c6, c7, c8, c9, c10, c11⟩ := zV_lab h ha h8
  obtain ⟨n', aa', e', c1', c2', _, c3', c4', c5', c6', c7', c8', c9', c10', c11'⟩ := zV_lab h hb (by rw [← he]; exact h8)
  obtain ⟨l1, l2, l3⟩ := zF_lt h ha.1
  obtain ⟨m1, m2, m3⟩ := zF_lt h hb.1
  obtain ⟨f1, f2⟩ := zF_2 f a
  obtain ⟨g1, g2⟩ := zF_2 f b
  have ed : zDc (zD t) a = n := by
    unfold zDc
    rw [if_neg (by rcases h8 with q | q <;> rw [q] <;> decide), if_neg (by rcases h8 with q | q <;> rw [q] <;> decide), if_pos h8, zD_ct, c3]
    exact pl_clamp (pl_ofn (by omega))
  rw [ed] at hk
  unfold bX12_areEqual_152
  rw [(zn_hlf (by omega)).1, (zn_hlf (by omega)).1, f1, g1, zn_rd (by omega) (by decide), zn_rd (by omega) (by decide), c4, c4']
  by_cases hn : n = n'
  · subst hn
    rw [if_pos rfl, zn_rd (by omega) (by decide), c5]
    have loop : ∀ (d j fu : Nat) (u1 : zS) (W1 : List (Nat × Nat)), d + j = n → zFpp u u1 → u1 0 65 = Int32.ofNat (2 * (k + j)) → zWk (zQm f N t) (u1 41) (k + j) W1 → (∀ e, e ∈ W → e ∈ W1) → (∀ i, i < j → ∃ x y, (zD t).pt a (t 15 (e i)) = some x ∧ (zD t).pt b (t 15 (e i)) = some y ∧ (x, y) ∈ W1) → (∀ q, q ∈ W1 → q ∈ W ∨ ∃ l x y, (zD t).pt a l = some x ∧ (zD t).pt b l = some y ∧ q = (x, y)) → ∃ u2, zFpp u u2 ∧ ((lX12_areEqual_184 k44 (fu + d + 1) (Int32.ofNat (zF f a)) (Int32.ofNat (zF f b)) (Int32.ofNat (aa + j)) u1 = some (0, u2) ∧ ¬ zSm (zD t) (zEq (zD t)) a b) ∨ ∃ W2, lX12_areEqual_184 k44 (fu + d + 1) (Int32.ofNat (zF f a)) (Int32.ofNat (zF f b)) (Int32.ofNat (aa + j)) u1 = k44 u2 ∧ zPuM (zD t) f N t a b k W u2 W2) := by
      intro d
      induction d with
      | zero =>
        intro j fu u1 W1 hd hq h1 hW1 hs1 hp hm
        have ej : j = n := by omega
        subst ej
        refine ⟨u1, hq, Or.inr ⟨W1, ?_, by rw [ed]; exact h1, by rw [ed]; exact hW1, ⟨he, fun w => ?_, fun w => ?_, fun _ => ⟨by rw [zD_ct, zD_ct, c3, c3'], fun l => ?_⟩⟩, hs1, fun q hq2 => ?_⟩⟩
        · show bX12_areEqual_184 k44 _ _ _ _ u1 = _
          unfold bX12_areEqual_184
          rw [(zn_hlf (by omega)).1, f1, zn_rd (by omega) (by decide), zn_rd (by omega) (by decide), hq.2 7 (by decide), hq.2 8 (by decide), c5, c4, zn_add, if_pos ((zn_le (by omega) (by omega)).mpr (Nat.le_refl _))]
          rfl
        · rcases h8 with q | q <;> rw [q] at w <;> exact absurd w (by decide)
        · rcases h8 with q | q <;> rw [q] at w <;> exact absurd w (by decide)
        · by_cases ci : ∃ i, i < j ∧ t 15 (e i) = l
          · obtain ⟨i, i1, i2⟩ := ci
            obtain ⟨x, y, x1, x2, x3⟩ := hp i i1
            rw [← i2, x1, x2]
            exact x3
          · have na : (zD t).pt a l = none := (c10 l).mpr (fun i hi w => ci ⟨i, hi, w⟩)
            have nb : (zD t).pt b l = none := by
              rw [c10' l]
              intro i' hi' w
              have := zLab (x := fun i => t 15 (e i)) (y := fun i => t 15 (e' i)) (n := j) c9 (fun i hi => by
                obtain ⟨x, y, x1, x2, x3⟩ := hp i hi
                by_cases c : ∃ i', i' < j ∧ t 15 (e' i') = t 15 (e i)
                · exact c
                · rw [(c10' _).mpr (fun i' hi' w => c ⟨i', hi', w⟩)] at x2; cases x2) i' hi'
              obtain ⟨i, i1, i2⟩ := this
              exact ci ⟨i, i1, i2.trans w⟩
            rw [na, nb]
            trivial
        · rcases hm q hq2 with w | ⟨l, x, y, w1, w2, w3⟩
          · exact Or.inl w
          · refine Or.inr (fun s => ?_)
            have := (s.2.2.2 h8).2 l
            rw [w1, w2] at this
            rw [w3]; exact this
      | succ d ih =>
        intro j fu u1 W1 hd hq h1 hW1 hs1 hp hm
        have hj : j < n := by omega
        have hu1 := zTG_of h (zTr_refl t) (zTrM_m (zFpp_m hq))
        obtain ⟨x, x1, x2, x3⟩ := c11 j hj
        obtain ⟨⟨vj, wj, p1, p2, p3, p4⟩, xx, xx1, xx2, xx3⟩ := c8 j hj
        have exx : xx = x := by
          rw [x2] at xx2
          exact ((zn_inj (by omega) (by omega)).mp xx2).symm
        subst exx
        have r9 : u1 9 (aa + j) = Int32.ofNat wj := by rw [hq.2 9 (by decide)]; exact p3
        have r10 : u1 10 (aa + j) = Int32.ofNat (f xx) := by rw [hq.2 10 (by decide)]; exact xx3
        have est : lX12_areEqual_184 k44 (fu + (d + 1) + 1) (Int32.ofNat (zF f a)) (Int32.ofNat (zF f b)) (Int32.ofNat (aa + j)) u1 = zbd (mX12_byLabel (Int32.ofNat (zF f b)) (Int32.ofNat wj) u1) fun r3627 t3628 => if 0 ≤ r3627 then zrd t3628 10 1600 (Int32.ofNat (aa + j)) fun v3630 => zbd (mX12_plain ((2 * v3630) + Int32.ofNat (a % 2)) t3628) fun r3632 t3633 => zbd (mX12_pair r3632 r3627 t3633) fun r3635 t3636 => lX12_areEqual_184 k44 (fu + d + 1) (Int32.ofNat (zF f a)) (Int32.ofNat (zF f b)) (Int32.ofNat (aa + (j + 1))) t3636 else some (0, t3628) := by
          show bX12_areEqual_184 k44 (lX12_areEqual_184 k44 (fu + d + 1)) _ _ _ u1 = _
          unfold bX12_areEqual_184
          rw [(zn_hlf (by omega)).2, (zn_hlf (by omega)).1, f1, f2, zn_rd (by omega) (by decide), zn_rd (by omega) (by decide), hq.2 7 (by decide), hq.2 8 (by decide), c5, c4, zn_add, if_neg (show ¬ Int32.ofNat (aa + n) ≤ Int32.ofNat (aa + j) by rw [zn_le (by omega) (by omega)]; omega), zn_rd (by omega) (by decide), r9]
          simp only [pl_let, zn_1]
          rfl
        rw [est]
        have hkb : (zD t).kd b = 8 ∨ (zD t).kd b = 9 := by rw [← he]; exact h8
        rcases pl_byLabelM hu1 hb hkb p1 p4 with ⟨b1, b2⟩ | ⟨y, b1, b2, b3⟩
        · rw [b1, pl_bd, if_neg zn_m1]
          refine ⟨u1, hq, Or.inl ⟨rfl, fun s => ?_⟩⟩
          have := (s.2.2.2 h8).2 (t 15 (e j))
          rw [x3, p2, b2] at this
          exact this
        · obtain ⟨y1, y2, y3⟩ := zF_lt h b1.1
          have hpl := pl_plain (s := 2 * xx + a % 2) hu1 (by omega)
          rw [show zF f (2 * xx + a % 2) = 2 * f xx + a % 2 by unfold zF; rw [show (2 * xx + a % 2) / 2 = xx by omega]; omega] at hpl
          rw [b2, pl_bd, if_pos (zn_0le (by omega)), zn_rd (by omega) (by decide), r10, zn_dbl, hpl, pl_bd]
          obtain ⟨u2, z1, z2, z3, z4, z5⟩ := pl_pairM (en := zQm f N t) (a := zSg2 t (2 * xx + a % 2)) (b := y) h1 (by omega) hW1 ⟨zV_sg h (by omega), rfl⟩ ⟨b1, rfl⟩
          rw [z1, pl_bd]
          have x3b : (zD t).pt b (t 15 (e j)) = some y := by rw [p2]; exact b3
          exact ih (j + 1) fu u2 _ (by omega) (zFpp_trans hq ⟨z4, z5⟩) z2 z3 (fun q w => List.mem_cons_of_mem _ (hs1 q w)) (fun i hi => by
            by_cases ei : i = j
            · subst ei
              exact ⟨_, _, x3, x3b, List.mem_cons_self⟩
            · obtain ⟨y1, y2, y3, y4, y5⟩ := hp i (by omega)
              exact ⟨y1, y2, y3, y4, List.mem_cons_of_mem _ y5⟩) (fun q hq => by
            rcases List.mem_cons.mp hq with w | w
            · exact Or.inr ⟨_, _, _, x3, x3b, w⟩
            · exact hm q w)
    have := loop n 0 (zFU - n - 1) u W (by omega) (zFpp_refl u) h65 hW (fun _ w => w) (fun i hi => absurd hi (Nat.not_lt_zero i)) (fun q w => Or.inl w)
    rw [show zFU - n - 1 + n + 1 = zFU by unfold zFU; omega] at this
    exact this
  · rw [if_neg (fun w => hn ((zn_inj (by omega) (by omega)).mp w))]
    refine ⟨u, zFpp_refl u, Or.inl ⟨rfl, fun s => ?_⟩⟩
    have := (s.2.2.2 h8).1
    rw [zD_ct, zD_ct, c3, c3'] at this
    exact hn ((zn_inj (by omega) (by omega)).mp this)
theorem zEqualML {G : zTxt} {f : Nat → Nat} {N M P A T x0 y0 : Nat} {t u : zS} (h : zTG G f N M P A T t u) : ∀ (m fu k : Nat) (u1 : zS) (p R r : Nat → Nat) (L W : List (Nat × Nat)), k + zPo (zD t) R (2 * N) ≤ m → k + zPo (zD t) R (2 * N) ≤ 6001 → zAm f N t p R r u1 → zUF (zD t) x0 y0 R L W → zUK (zD t) x0 y0 L W → u1 0 65 = Int32.ofNat (2 * k) → zWk (zQm f N t) (u1 41) k W → zFm2 u u1 → ∃ u2, zFm2 u u2 ∧ ((lX12_areEqual_44 (fu + m + 1) u1 = some (1, u2) ∧ zEq (zD t) x0 y0) ∨ (lX12_areEqual_44 (fu + m + 1) u1 = some (0, u2) ∧ ¬ zEq (zD t) x0 y0)) := by
  have hN := h.2.2.2.1
  have done : ∀ (fu : Nat) (u1 : zS) (R : Nat → Nat) (L : List (Nat × Nat)), zUF (zD t) x0 y0 R L [] → u1 0 65 = Int32.ofNat (2 * 0) → zFm2 u u1 → ∃ u2, zFm2 u u2 ∧ ((lX12_areEqual_44 (fu + 1) u1 = some (1, u2) ∧ zEq (zD t) x0 y0) ∨ (lX12_areEqual_44 (fu + 1) u1 = some (0, u2) ∧ ¬ zEq (zD t) x0 y0)) := fun fu u1 R L hU h65 hF => by
    refine ⟨u1, hF, Or.inl ⟨?_, zUF_end hU⟩⟩
    show bX12_areEqual_44 _ u1 = _
    unfold bX12_areEqual_44
    rw [h65, if_pos (by decide)]
  intro m
  induction m with
  | zero =>
    intro fu k u1 p R r L W hm h6 hA hU hK h65 hW hF
    have ek : k = 0 := by omega
    subst ek
    cases W with
    | cons e W => exact hW.elim
    | nil => exact done fu u1 R L hU h65 hF
  | succ m ih =>
    intro fu k u1 p R r L W hm h6 hA hU hK h65 hW hF
    cases W with
    | nil =>
      have ek : k = 0 := by
        cases k with
        | zero => rfl
        | succ k => exact hW.elim
      subst ek
      exact done (fu + (m + 1)) u1 R L hU h65 hF
    | cons e W =>
      obtain ⟨x, y⟩ := e
      cases k with
      | zero => exact hW.elim
      | succ k =>
        obtain ⟨⟨vx, q2⟩, ⟨vy, r2⟩, hW'⟩ := hW
        have vx : zV N t x := vx
        have vy : zV N t y := vy
        have q2 : u1 41 (2 * k) = Int32.ofNat (zF f x) := q2
        have r2 : u1 41 (2 * k + 1) = Int32.ofNat (zF f y) := r2
        have lx := zV_lt h vx
        have ly := zV_lt h vy
        have ek : zu u1 0 65 (Int32.ofNat (2 * k)) 0 65 = Int32.ofNat (2 * k) := zu_same _ _ _ _
        have es : Int32.ofNat (2 * (k + 1)) - 2 = Int32.ofNat (2 * k) := by
          have := zn_sub (a := 2 * (k + 1)) (b := 2) (by omega) (by omega)
          rw [show 2 * (k + 1) - 2 = 2 * k by omega] at this
          exact this
        have hFa : zFm2 u (zu u1 0 65 (Int32.ofNat (2 * k))) := zFm2_trans hF ⟨fun j hj => zu_ne2 hj, fun j hj => zu_row (by omega)⟩
        have r41 : zu u1 0 65 (Int32.ofNat (2 * k)) 41 = u1 41 := zu_row (by decide)
        have hAa := zAm_of (u2 := zu u1 0 65 (Int32.ofNat (2 * k))) hA (zu_row (by decide))
        have hga := zTG_of h (zTr_refl t) (zTrM_m hFa)
        have e0 : lX12_areEqual_44 (fu + (m + 1) + 1) u1 = bX12_areEqual_44 (lX12_areEqual_44 (fu + m + 1)) u1 := rfl
        rw [e0]
        unfold bX12_areEqual_44
        rw [h65, if_neg (show ¬ Int32.ofNat (2 * (k + 1)) ≤ 0 from fun w => by have := (zn_le (a := 2 * (k + 1)) (b := 0) (by omega) (by decide)).mp w; omega), es, pl_pt, ek, zn_1, zn_rd (by omega) (by decide), zn_rd (by omega) (by decide), r41, q2, r2, pl_root hga hAa vx, pl_bd, pl_root hga hAa vy, pl_bd]
        obtain ⟨_, Rx, _, RRx, _⟩ := hA.1 x lx
        obtain ⟨_, Ry, _, RRy, _⟩ := hA.1 y ly
        have hV := zAm_V hA hN
        have va := hV x vx
        have vb := hV y vy
        obtain ⟨la1, _, _⟩ := zF_lt h va.1
        obtain ⟨lb1, _, _⟩ := zF_lt h vb.1
        by_cases hab : R x = R y
        · rw [if_pos (by rw [hab])]
          exact ih fu k _ p R r L W (by omega) (by omega) hAa (zUF_drop hU hab) (zUK_drop hK) ek (by rw [r41]; exact hW') hFa
        · rw [if_neg (fun w => hab (zF_inj h va.1 vb.1 ((zn_inj (by omega) (by omega)).mp w))), pl_isOf hga vx, pl_bd, pl_isOf hga vy, pl_bd]
          have toEq : zEq (zD t) x0 y0 → zEq (zD t) x y := fun h0 => zUK_eq hU hK rfl rfl h0
          have kinj : ∀ s s2, zV N t s → zV N t s2 → zKm ((zD t).kd s) = zKm ((zD t).kd s2) → (zD t).kd s = (zD t).kd s2 := fun s s2 v v2 e => by
            have ks : ∀ s, zV N t s → (zD t).kd s ∈ ([0, 4, 5, 6, 7, 8, 9] : List Int32) := fun s v => by
              rcases zV_at h v with ⟨q, _⟩ | ⟨q, _⟩ | ⟨q, _⟩ | ⟨q, _⟩
              · rw [q]; decide
              · rcases q with q | q <;> rw [q] <;> decide
              · rcases q with q | q <;> rw [q] <;> decide
              · rcases q with q | q <;> rw [q] <;> decide
            have all : ∀ a, a ∈ ([0, 4, 5, 6, 7, 8, 9] : List Int32) → ∀ b, b ∈ ([0, 4, 5, 6, 7, 8, 9] : List Int32) → zKm a = zKm b → a = b := by decide
            exact all _ (ks s v) _ (ks s2 v2) e
          by_cases hk : zKm ((zD t).kd x) = zKm ((zD t).kd y)
          · have hkd := kinj x y vx vy hk
            rw [if_pos hk, zn_wr (by omega) (by decide)]
            have hdx := zDc_R hU x
            have hpj := zPo_join (D := zD t) RRx RRy hab (2 * N)
            rw [if_pos (show R x < 2 * N by have := va.1; omega)] at hpj
            have hFw : zFm2 u (zu (zu u1 0 65 (Int32.ofNat (2 * k))) 40 (zF f (R x)) (Int32.ofNat (zF f (R y)))) := zFm2_trans hFa ⟨fun j hj => zu_ne1 (by decide), fun j hj => zu_row (by omega)⟩
            have hAj := zAm_join hga hAa va vb RRx RRy hab
            have w65 : zu (zu u1 0 65 (Int32.ofNat (2 * k))) 40 (zF f (R x)) (Int32.ofNat (zF f (R y))) 0 65 = Int32.ofNat (2 * k) := by rw [zu_ne1 (by decide)]; exact ek
            have w41 : zu (zu u1 0 65 (Int32.ofNat (2 * k))) 40 (zF f (R x)) (Int32.ofNat (zF f (R y))) 41 = u1 41 := by rw [zu_row (by decide)]; exact r41
            generalize zu (zu u1 0 65 (Int32.ofNat (2 * k))) 40 (zF f (R x)) (Int32.ofNat (zF f (R y))) = uw at hFw hAj w65 w41 ⊢
            have hgw := zTG_of h (zTr_refl t) (zTrM_m hFw)
            have hWw : zWk (zQm f N t) (uw 41) k W := by rw [w41]; exact hW'
            have goon : ∀ (u2 : zS) (W2 : List (Nat × Nat)), zPuM (zD t) f N t x y k W u2 W2 → zFpp uw u2 → ∃ u3, zFm2 u u3 ∧ ((lX12_areEqual_44 (fu + m + 1) u2 = some (1, u3) ∧ zEq (zD t) x0 y0) ∨ (lX12_areEqual_44 (fu + m + 1) u2 = some (0, u3) ∧ ¬ zEq (zD t) x0 y0)) := fun u2 W2 hP hQ => by
              obtain ⟨p1, p2, p3, p4, p5⟩ := hP
              exact ih fu (k + zDc (zD t) x) u2 _ _ _ ((x, y) :: L) W2 (by omega) (by omega) (zAm_of hAj (hQ.2 40 (by decide))) (zUF_join hU rfl rfl hab rfl rfl p3 p4) (zUK_join hU hK rfl rfl p5) p1 p2 (zFm2_trans hFw (zFpp_m hQ))
            by_cases h8 : (zD t).kd x = 8 ∨ (zD t).kd x = 9
            · have e78 : (if zKm ((zD t).kd x) = 7 then bX12_areEqual_152 (lX12_areEqual_44 (fu + m + 1)) (Int32.ofNat (zF f x)) (Int32.ofNat (zF f y)) uw else if zKm ((zD t).kd x) = 8 then bX12_areEqual_152 (lX12_areEqual_44 (fu + m + 1)) (Int32.ofNat (zF f x)) (Int32.ofNat (zF f y)) uw else if zKm ((zD t).kd x) = 0 then bX12_areEqual_308 (lX12_areEqual_44 (fu + m + 1)) uw else if zKm ((zD t).kd x) = 5 then bX12_areEqual_278 (lX12_areEqual_44 (fu + m + 1)) (Int32.ofNat (zF f x)) (Int32.ofNat (zF f y)) uw else if zKm ((zD t).kd x) = 6 then bX12_areEqual_278 (lX12_areEqual_44 (fu + m + 1)) (Int32.ofNat (zF f x)) (Int32.ofNat (zF f y)) uw else bX12_areEqual_293 (lX12_areEqual_44 (fu + m + 1)) (Int32.ofNat (zF f x)) (Int32.ofNat (zF f y)) uw) = bX12_areEqual_152 (lX12_areEqual_44 (fu + m + 1)) (Int32.ofNat (zF f x)) (Int32.ofNat (zF f y)) uw := by
                rcases h8 with q | q
                · rw [if_pos (by rw [q]; decide)]
                · rw [if_neg (by rw [q]; decide), if_pos (by rw [q]; decide)]
              rw [e78]
              obtain ⟨u2, d1, d2⟩ := pl_chooseM (k44 := lX12_areEqual_44 (fu + m + 1)) hgw vx vy hkd h8 w65 (by omega) hWw
              rcases d2 with ⟨d2, d3⟩ | ⟨W2, d2, d3⟩
              · exact ⟨u2, zFm2_trans hFw (zFpp_m d1), Or.inr ⟨d2, fun h0 => d3 (zEq_sm (toEq h0))⟩⟩
              · rw [d2]
                exact goon u2 W2 d3 d1
            · have n78 : ¬ zKm ((zD t).kd x) = 7 ∧ ¬ zKm ((zD t).kd x) = 8 := by
                rcases zV_at h vx with ⟨q, _⟩ | ⟨q, _⟩ | ⟨q, _⟩ | ⟨q, _⟩
                · rw [q]; decide
                · rcases q with q | q <;> rw [q] <;> decide
                · rcases q with q | q <;> rw [q] <;> decide
                · exact absurd q h8
              rw [if_neg n78.1, if_neg n78.2]
              obtain ⟨u2, W2, d1, d2, d3⟩ := pl_goOnM (k44 := lX12_areEqual_44 (fu + m + 1)) hgw vx vy hkd h8 w65 (by omega) hWw
              rw [d1]
              exact goon u2 W2 d2 d3
          · rw [if_neg hk]
            exact ⟨_, hFa, Or.inr ⟨rfl, fun h0 => hk (by rw [(zEq_sm (toEq h0)).1])⟩⟩
theorem pl_joinL {M : Nat} (hM : M ≤ 3000) {x1 x2 : Int32} : ∀ (d z fu : Nat) (u : zS), d + z = 2 * M → u 0 14 = Int32.ofNat M → lX12_areEqual_2 (fu + d + 1) x1 x2 (Int32.ofNat z) u = bX12_areEqual_2 (lX12_areEqual_2 fu) x1 x2 (Int32.ofNat (2 * M)) (zid u 40 z (2 * M)) := by
  intro d
  induction d with
  | zero =>
    intro z fu u hd h14
    have ez : z = 2 * M := by omega
    subst ez
    have e : zid u 40 (2 * M) (2 * M) = u := by
      funext k j
      unfold zid
      rw [if_neg (fun w => by omega)]
    rw [e]
    rfl
  | succ d ih =>
    intro z fu u hd h14
    have e : zid (zu u 40 z (Int32.ofNat z)) 40 (z + 1) (2 * M) = zid u 40 z (2 * M) := by
      funext k j
      unfold zid
      by_cases c : k = 40 ∧ z + 1 ≤ j ∧ j < 2 * M
      · rw [if_pos c, if_pos ⟨c.1, by omega, c.2.2⟩]
      · rw [if_neg c]
        by_cases c2 : k = 40 ∧ z ≤ j ∧ j < 2 * M
        · have ej : j = z := by
            rcases Nat.lt_or_ge z j with w | w
            · exact absurd ⟨c2.1, w, c2.2.2⟩ c
            · omega
          rw [if_pos c2, ej, c2.1, zu_same]
        · rw [if_neg c2]
          by_cases ck : k = 40
          · exact zu_ne2 (fun w => c2 ⟨ck, by omega, by omega⟩)
          · exact zu_ne1 ck
    show bX12_areEqual_2 (lX12_areEqual_2 (fu + d + 1)) _ _ _ u = _
    conv => lhs; unfold bX12_areEqual_2
    rw [h14, zn_dbl0, if_neg (show ¬ Int32.ofNat (2 * M) ≤ Int32.ofNat z by rw [zn_le (by omega) (by omega)]; omega), zn_wr (by omega) (by decide), pl_let, zn_1, ih (z + 1) fu _ (by omega) (by rw [zu_ne1 (by decide)]; exact h14), e]
theorem zEqualM {G : zTxt} {f : Nat → Nat} {N M P A T o1 o2 : Nat} {t u : zS} (h : zTG G f N M P A T t u) (h1 : o1 / 2 < N) (h2 : o2 / 2 < N) : ∃ u2, zFm2 u u2 ∧ ((mX12_areEqual (Int32.ofNat (zF f o1)) (Int32.ofNat (zF f o2)) u = some (1, u2) ∧ zEq (zD t) (zSg2 t o1) (zSg2 t o2)) ∨ (mX12_areEqual (Int32.ofNat (zF f o1)) (Int32.ofNat (zF f o2)) u = some (0, u2) ∧ ¬ zEq (zD t) (zSg2 t o1) (zSg2 t o2))) := by
  have hN := h.2.2.2.1
  have hM := h.2.2.2.2.1
  have hw := h.2.2.2.2.2.2.2.2.1
  have h14 : u 0 14 = Int32.ofNat M := h.1.2.1
  have hPo := zPo_le (R := fun x => x) h N (Nat.le_refl _)
  have e0 := pl_joinL hM (x1 := Int32.ofNat (zF f o1)) (x2 := Int32.ofNat (zF f o2)) (2 * M) 0 (zFU - 2 * M - 1) u (by omega) h14
  rw [show zFU - 2 * M - 1 + 2 * M + 1 = zFU by unfold zFU; omega] at e0
  unfold mX12_areEqual
  rw [show (0 : Int32) = Int32.ofNat 0 from rfl, e0]
  have r14 : zid u 40 0 (2 * M) 0 14 = Int32.ofNat M := by rw [zid_row (by decide)]; exact h14
  have hFa : zFm2 u (zu (zid u 40 0 (2 * M)) 0 65 0) := ⟨fun j hj => by rw [zu_ne2 hj, zid_row (by decide)], fun k hk => by rw [zu_row (by omega), zid_row (by omega)]⟩
  have hga := zTG_of h (zTr_refl t) (zTrM_m hFa)
  unfold bX12_areEqual_2
  rw [r14, zn_dbl0, if_pos ((zn_le (by omega) (by omega)).mpr (Nat.le_refl _)), pl_pt, pl_plain hga h1, pl_bd, pl_plain hga h2, pl_bd]
  have v1 := zV_sg h h1
  have v2 := zV_sg h h2
  obtain ⟨u1, z1, z2, z3, z4, z5⟩ := pl_pairM (en := zQm f N t) (k := 0) (a := zSg2 t o1) (b := zSg2 t o2) (W := []) (u := zu (zid u 40 0 (2 * M)) 0 65 0) (x := Int32.ofNat (zF f (zSg2 t o1))) (y := Int32.ofNat (zF f (zSg2 t o2))) (zu_same _ _ _ _) (by decide) trivial ⟨v1, rfl⟩ ⟨v2, rfl⟩
  rw [z1, pl_bd]
  have hF1 : zFm2 u u1 := zFm2_trans hFa (zFpp_m ⟨z4, z5⟩)
  have hA : zAm f N t (fun x => x) (fun x => x) (fun _ => 0) u1 := ⟨zFo_id 6000, fun s hs => ⟨hs, by
    obtain ⟨_, l2, _⟩ := zF_lt h hs.1
    rw [z5 40 (by decide), zu_row (by decide), zid_in ⟨Nat.zero_le _, l2⟩]⟩⟩
  have := zEqualML (x0 := zSg2 t o1) (y0 := zSg2 t o2) h 6001 (zFU - 6002) 1 u1 _ _ _ [] [(zSg2 t o1, zSg2 t o2)] (by omega) (by omega) hA ⟨fun Q hQ _ x => hQ.rf x, fun e he => absurd he List.not_mem_nil, Or.inr List.mem_cons_self⟩ (fun h0 => ⟨fun e he => absurd he List.not_mem_nil, fun e he => by
    rcases List.mem_cons.mp he with w | w
    · rw [w]; exact h0
    · cases w⟩) z2 z3 hF1
  rw [show zFU - 6002 + 6001 + 1 = zFU by unfold zFU; omega] at this
  exact this
