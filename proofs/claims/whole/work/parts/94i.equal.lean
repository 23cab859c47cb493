/-! EQUAL: the class -/
theorem zPo_le {G : zTxt} {f : Nat → Nat} {N M P A T : Nat} {t u : zS} {R : Nat → Nat} (h : zTG G f N M P A T t u) : ∀ n, n ≤ N → zPo (zD t) R (2 * n) ≤ 2 * zW (t 9) (t 13) n := by
  intro n
  induction n with
  | zero => intro _; exact Nat.le_refl _
  | succ n ih =>
    intro hn
    have h1 := ih (by omega)
    have hk : ∀ b, b < 2 → zDc (zD t) (2 * n + b) = (if t 9 n = 4 ∨ t 9 n = 5 then 1 else if t 9 n = 6 ∨ t 9 n = 7 then 2 else if t 9 n = 8 ∨ t 9 n = 9 then (t 13 n).toNatClampNeg else 0) := fun b hb => by
      have k2 : ∀ b, b < 2 → ((zKf 4 (Int32.ofNat b) = 4 ∨ zKf 4 (Int32.ofNat b) = 5) ∧ (zKf 5 (Int32.ofNat b) = 4 ∨ zKf 5 (Int32.ofNat b) = 5) ∧ (zKf 6 (Int32.ofNat b) = 6 ∨ zKf 6 (Int32.ofNat b) = 7) ∧ (zKf 7 (Int32.ofNat b) = 6 ∨ zKf 7 (Int32.ofNat b) = 7) ∧ (zKf 8 (Int32.ofNat b) = 8 ∨ zKf 8 (Int32.ofNat b) = 9) ∧ (zKf 9 (Int32.ofNat b) = 8 ∨ zKf 9 (Int32.ofNat b) = 9) ∧ zKf 0 (Int32.ofNat b) = 0 ∧ zKf 2 (Int32.ofNat b) = 2 ∧ zKf 3 (Int32.ofNat b) = 3) := by decide
      obtain ⟨k4, k5, k6, k7, k8, k9, k0, kk2, kk3⟩ := k2 b hb
      have e2 : (2 * n + b) / 2 = n := by omega
      have e3 : (2 * n + b) % 2 = b := by omega
      unfold zDc
      rw [zD_kd, zD_ct, e2, e3]
      have go : ∀ (x y : Int32), (x = 4 ∨ x = 5 ↔ y = 4 ∨ y = 5) → (x = 6 ∨ x = 7 ↔ y = 6 ∨ y = 7) → (x = 8 ∨ x = 9 ↔ y = 8 ∨ y = 9) → (if x = 4 ∨ x = 5 then 1 else if x = 6 ∨ x = 7 then 2 else if x = 8 ∨ x = 9 then (t 13 n).toNatClampNeg else 0) = (if y = 4 ∨ y = 5 then 1 else if y = 6 ∨ y = 7 then 2 else if y = 8 ∨ y = 9 then (t 13 n).toNatClampNeg else 0) := fun x y a1 a2 a3 => by
        simp only [a1, a2, a3]
      rcases h.1.2.2.2.2.2.2 n (by omega) (by simp) with q | ⟨q, _⟩ | ⟨q, _⟩ | ⟨q, _⟩ | ⟨q, _⟩
      · rw [q.1, k0]
      · rcases q with q | q
        · rw [q.1, kk2]
        · rw [q.1, kk3]
      · rcases q with q | q
        · rw [q.1]
          rcases k4 with e | e <;> rw [e] <;> rfl
        · rw [q.1]
          rcases k5 with e | e <;> rw [e] <;> rfl
      · rcases q with q | q
        · rw [q.1]
          rcases k6 with e | e <;> rw [e] <;> rfl
        · rw [q.1]
          rcases k7 with e | e <;> rw [e] <;> rfl
      · rcases q with q | q
        · rw [q.1]
          rcases k8 with e | e <;> rw [e] <;> rfl
        · rw [q.1]
          rcases k9 with e | e <;> rw [e] <;> rfl
    have e1 : zPo (zD t) R (2 * (n + 1)) = zPo (zD t) R (2 * n) + (if R (2 * n) = 2 * n then zDc (zD t) (2 * n) else 0) + (if R (2 * n + 1) = 2 * n + 1 then zDc (zD t) (2 * n + 1) else 0) := rfl
    have a0 := hk 0 (by decide)
    have a1 := hk 1 (by decide)
    have l0 : (if R (2 * n) = 2 * n then zDc (zD t) (2 * n) else 0) ≤ zDc (zD t) (2 * n + 0) := by
      by_cases c : R (2 * n) = 2 * n
      · rw [if_pos c]; exact Nat.le_refl _
      · rw [if_neg c]; exact Nat.zero_le _
    have l1 : (if R (2 * n + 1) = 2 * n + 1 then zDc (zD t) (2 * n + 1) else 0) ≤ zDc (zD t) (2 * n + 1) := by
      by_cases c : R (2 * n + 1) = 2 * n + 1
      · rw [if_pos c]; exact Nat.le_refl _
      · rw [if_neg c]; exact Nat.zero_le _
    have e2 : zW (t 9) (t 13) (n + 1) = zW (t 9) (t 13) n + (if t 9 n = 4 ∨ t 9 n = 5 then 1 else if t 9 n = 6 ∨ t 9 n = 7 then 2 else if t 9 n = 8 ∨ t 9 n = 9 then (t 13 n).toNatClampNeg else 0) := rfl
    rw [e1, e2]
    rw [← a0] at a1
    rw [← a0]
    omega
/-- what the class keeps from one comparison to the next -/
def zKp (N : Nat) (t : zS) : Prop := ∃ p R r L, zAb p R r t ∧ zUF (zD t) 0 0 R L [] ∧ ∀ x, zV N t x → zV N t (R x)
def zFc (t t2 : zS) : Prop := (∀ j, ¬ j = 12 → t2 3 j = t 3 j) ∧ ∀ j, ¬ (j = 3 ∨ j = 29 ∨ j = 31) → t2 j = t j
theorem zFc_refl (t : zS) : zFc t t := ⟨fun _ _ => rfl, fun _ _ => rfl⟩
theorem zFc_trans {a b c : zS} (h : zFc a b) (h2 : zFc b c) : zFc a c := ⟨fun j hj => (h2.1 j hj).trans (h.1 j hj), fun j hj => (h2.2 j hj).trans (h.2 j hj)⟩
theorem zFc_29 {a b : zS} (h : ∀ k, ¬ k = 29 → b k = a k) : zFc a b := ⟨fun j _ => by rw [h 3 (by decide)], fun j hj => h j (by omega)⟩
theorem zFc_q {a b : zS} (h : zFq a b) : zFc a b := ⟨h.1, fun j hj => h.2 j (by omega)⟩
theorem zTr_c {t t2 : zS} (h : zFc t t2) : zTr t t2 := ⟨h.2 9 (by decide), h.2 11 (by decide), h.2 13 (by decide), h.2 15 (by decide), h.2 17 (by decide), h.2 19 (by decide), h.2 21 (by decide), h.2 23 (by decide), h.2 25 (by decide), h.1 13 (by decide), h.1 14 (by decide), h.1 15 (by decide)⟩
theorem zBg_of {n : Nat} {t t2 : zS} (h : zBg n t) (ht : zTr t t2) (h27 : t2 27 = t 27) : zBg n t2 := by
  intro k hk
  rw [h27, zSg2_of ht, ht.2.2.2.2.2.2.1]
  exact h k hk
theorem zV_of {N : Nat} {t t2 : zS} (ht : zTr t t2) (s : Nat) : zV N t2 s ↔ zV N t s := by
  unfold zV
  rw [ht.1]
theorem zKp_id {N : Nat} {t : zS} (h : ∀ x, x < 6000 → t 29 x = Int32.ofNat x) : zKp N t := ⟨fun x => x, fun x => x, fun _ => 0, [], ⟨zFo_id 6000, h⟩, ⟨fun Q hQ _ x => hQ.rf x, fun e he => absurd he List.not_mem_nil, Or.inl rfl⟩, fun _ w => w⟩
theorem zKp_of {N : Nat} {t t2 : zS} (h : zKp N t) (ht : zTr t t2) (h29 : t2 29 = t 29) : zKp N t2 := by
  obtain ⟨p, R, r, L, a1, a2, a3⟩ := h
  refine ⟨p, R, r, L, ⟨a1.1, by rw [h29]; exact a1.2⟩, by rw [zD_of ht]; exact a2, fun x hx => (zV_of ht _).mpr (a3 x ((zV_of ht _).mp hx))⟩
theorem pl_eqFail {N : Nat} {t t0 : zS} (h : zFc t0 t) : ∃ t2, bX2_equal_146 t = some (0, t2) ∧ zKp N t2 ∧ zFc t0 t2 := by
  unfold bX2_equal_146
  rw [pl_fEq, pl_bd]
  exact ⟨_, rfl, zKp_id (fun x hx => zid_in ⟨Nat.zero_le _, hx⟩), zFc_trans h (zFc_29 (fun k hk => zid_row hk))⟩
theorem zEqualL {G : zTxt} {f : Nat → Nat} {N M P A T x0 y0 : Nat} {t u : zS} (h : zTG G f N M P A T t u) (hb : zBg T t) : ∀ (m i fu k : Nat) (t1 : zS) (p R r : Nat → Nat) (L W : List (Nat × Nat)), k + zPo (zD t) R (2 * N) ≤ m → i + m ≤ 7000 → k + zPo (zD t) R (2 * N) ≤ 6001 → zAb p R r t1 → zUF (zD t) x0 y0 R L W → zUK (zD t) x0 y0 L W → (∀ x, zV N t x → zV N t (R x)) → t1 3 12 = Int32.ofNat k → zWk (zQc N t) (t1 31) k W → zFc t t1 → ∃ t2, zKp N t2 ∧ zFc t t2 ∧ ((lX2_equal_13 (fu + m + 1) (Int32.ofNat i) t1 = some (1, t2) ∧ zEq (zD t) x0 y0) ∨ (lX2_equal_13 (fu + m + 1) (Int32.ofNat i) t1 = some (0, t2) ∧ ¬ zEq (zD t) x0 y0)) := by
  have hN := h.2.2.2.1
  intro m
  induction m with
  | zero =>
    intro i fu k t1 p R r L W hm hi h6 hA hU hK hV h12 hW hF
    have ek : k = 0 := by omega
    subst ek
    cases W with
    | cons e W => exact hW.elim
    | nil =>
      refine ⟨t1, ⟨p, R, r, L, hA, by rw [zD_of (zTr_c hF)]; exact ⟨hU.1, hU.2.1, Or.inl rfl⟩, fun x hx => (zV_of (zTr_c hF) _).mpr (hV x ((zV_of (zTr_c hF) _).mp hx))⟩, hF, Or.inl ⟨?_, zUF_end hU⟩⟩
      show bX2_equal_13 _ _ t1 = _
      unfold bX2_equal_13
      rw [if_neg (show ¬ (12000 : Int32) ≤ Int32.ofNat i from fun w => by have := (zn_le (a := 12000) (by decide) (by omega)).mp w; omega), h12, if_pos (by decide)]
  | succ m ih =>
    intro i fu k t1 p R r L W hm hi h6 hA hU hK hV h12 hW hF
    have n12 : ¬ (12000 : Int32) ≤ Int32.ofNat i := fun w => by have := (zn_le (a := 12000) (by decide) (by omega)).mp w; omega
    cases W with
    | nil =>
      have ek : k = 0 := by
        cases k with
        | zero => rfl
        | succ k => exact hW.elim
      subst ek
      refine ⟨t1, ⟨p, R, r, L, hA, by rw [zD_of (zTr_c hF)]; exact ⟨hU.1, hU.2.1, Or.inl rfl⟩, fun x hx => (zV_of (zTr_c hF) _).mpr (hV x ((zV_of (zTr_c hF) _).mp hx))⟩, hF, Or.inl ⟨?_, zUF_end hU⟩⟩
      show bX2_equal_13 _ _ t1 = _
      unfold bX2_equal_13
      rw [if_neg n12, h12, if_pos (by decide)]
    | cons e W =>
      obtain ⟨x, y⟩ := e
      cases k with
      | zero => exact hW.elim
      | succ k =>
        obtain ⟨⟨y1, q1, q2, q3⟩, ⟨y2, r1, r2, r3⟩, hW'⟩ := hW
        have ek : zu t1 3 12 (Int32.ofNat k) 3 12 = Int32.ofNat k := zu_same _ _ _ _
        have hFa : zFc t (zu t1 3 12 (Int32.ofNat k)) := zFc_trans hF ⟨fun j hj => zu_ne2 hj, fun j hj => zu_row (by omega)⟩
        have hAa : zAb p R r (zu t1 3 12 (Int32.ofNat k)) := ⟨hA.1, by rw [zu_row (by decide)]; exact hA.2⟩
        have r31 : zu t1 3 12 (Int32.ofNat k) 31 = t1 31 := zu_row (by decide)
        have es : Int32.ofNat (k + 1) - 1 = Int32.ofNat k := by
          have := zn_sub (a := k + 1) (b := 1) (by omega) (by omega)
          rw [show k + 1 - 1 = k by omega] at this
          exact this
        have e0 : lX2_equal_13 (fu + (m + 1) + 1) (Int32.ofNat i) t1 = zbd (mX5_get 30 12004 (2 * Int32.ofNat k) (zu t1 3 12 (Int32.ofNat k))) fun r1227 t1228 => zbd (mX2_settled r1227 t1228) fun r1230 t1231 => zbd (mX2_highest r1230 t1231) fun r1233 t1234 => zbd (mX5_get 30 12004 ((2 * (t1234 3 12)) + 1) t1234) fun r1236 t1237 => zbd (mX2_settled r1236 t1237) fun r1239 t1240 => zbd (mX2_highest r1239 t1240) fun r1242 t1243 => if r1233 = r1242 then bX2_equal_163 (lX2_equal_13 (fu + m + 1)) (Int32.ofNat i) t1243 else zbd (mX2_kindOf r1233 t1243) fun r1245 t1246 => zbd (mX2_kindOf r1242 t1246) fun r1248 t1249 => if r1245 = r1248 then zbd (mX2_kindOf r1233 t1249) fun r1251 t1252 => if r1251 < 8 then zbd (mX2_goOnAlike r1233 r1242 t1252) fun r1254 t1255 => if r1254 = 0 then bX2_equal_146 t1255 else bX2_equal_152 (lX2_equal_13 (fu + m + 1)) (Int32.ofNat i) r1233 r1242 t1255 else zbd (mX2_chooseAlike r1233 r1242 t1252) fun r1257 t1258 => if r1257 = 0 then bX2_equal_146 t1258 else bX2_equal_152 (lX2_equal_13 (fu + m + 1)) (Int32.ofNat i) r1233 r1242 t1258 else bX2_equal_146 t1249 := by
          show bX2_equal_13 (lX2_equal_13 (fu + m + 1)) _ t1 = _
          unfold bX2_equal_13
          rw [if_neg n12, h12, if_neg (show ¬ Int32.ofNat (k + 1) ≤ 0 from fun w => by have := (zn_le (a := k + 1) (b := 0) (by omega) (by decide)).mp w; omega), es, pl_pt, ek]
        have q3 : zSg2 t y1 = x := q3
        have r3 : zSg2 t y2 = y := r3
        have vx : zV N t x := by rw [← q3]; exact zV_sg h q1
        have vy : zV N t y := by rw [← r3]; exact zV_sg h r1
        have lx := zV_lt h vx
        have ly := zV_lt h vy
        have g1 : mX5_get 30 12004 (2 * Int32.ofNat k) (zu t1 3 12 (Int32.ofNat k)) = some (Int32.ofNat y1, zu t1 3 12 (Int32.ofNat k)) := by
          rw [zn_dbl0, zn_get (by omega) (by decide), show zu t1 3 12 (Int32.ofNat k) (30 + 1) = t1 31 from r31, q2]
        have s1 : mX2_settled (Int32.ofNat y1) (zu t1 3 12 (Int32.ofNat k)) = some (Int32.ofNat x, zu t1 3 12 (Int32.ofNat k)) := by
          rw [pl_settled (zTG_of h (zTr_c hFa) (zTrM_refl u)) (zBg_of hb (zTr_c hFa) (hFa.2 27 (by decide))) q1, zSg2_of (zTr_c hFa), q3]
        obtain ⟨tb, pb, b1, b2, b3⟩ := pl_highest lx hAa
        have hFb : zFc t tb := zFc_trans hFa (zFc_29 b3)
        have e12b : tb 3 12 = Int32.ofNat k := by rw [b3 3 (by decide)]; exact ek
        have g2 : mX5_get 30 12004 ((2 * (tb 3 12)) + 1) tb = some (Int32.ofNat y2, tb) := by
          rw [e12b, zn_dbl0, zn_1, zn_get (by omega) (by decide), show tb (30 + 1) = t1 31 from (b3 31 (by decide)).trans r31, r2]
        have s2 : mX2_settled (Int32.ofNat y2) tb = some (Int32.ofNat y, tb) := by
          rw [pl_settled (zTG_of h (zTr_c hFb) (zTrM_refl u)) (zBg_of hb (zTr_c hFb) (hFb.2 27 (by decide))) r1, zSg2_of (zTr_c hFb), r3]
        obtain ⟨tc, pc, c1, c2, c3⟩ := pl_highest ly b2
        have hFC : zFc t tc := zFc_trans hFb (zFc_29 c3)
        have e12c : tc 3 12 = Int32.ofNat k := by rw [c3 3 (by decide)]; exact e12b
        have e31c : tc 31 = t1 31 := (c3 31 (by decide)).trans ((b3 31 (by decide)).trans r31)
        rw [e0, g1, pl_bd, s1, pl_bd, b1, pl_bd, g2, pl_bd, s2, pl_bd, c1, pl_bd]
        obtain ⟨_, Rx, _, RRx, _⟩ := hA.1 x lx
        obtain ⟨_, Ry, _, RRy, _⟩ := hA.1 y ly
        by_cases hab : R x = R y
        · rw [if_pos (by rw [hab])]
          unfold bX2_equal_163
          rw [pl_let, zn_1]
          exact ih (i + 1) fu k tc pc R r L W (by omega) (by omega) (by omega) c2 (zUF_drop hU hab) (zUK_drop hK) hV e12c (by rw [e31c]; exact hW') hFC
        · rw [if_neg (fun w => hab ((zn_inj (by omega) (by omega)).mp w))]
          have va := hV x vx
          have vb := hV y vy
          have tr := zTr_c hFC
          have hc := zTG_of h tr (zTrM_refl u)
          have vac := (zV_of tr _).mpr va
          have vbc := (zV_of tr _).mpr vb
          have k1 := pl_kindOf (t := tc) Rx
          have k2 := pl_kindOf (t := tc) Ry
          have eD := zD_of tr
          have eQ : zQc N tc = zQc N t := zQc_of tr
          rw [k1, pl_bd, k2, pl_bd]
          have toEq : zEq (zD t) x0 y0 → zEq (zD t) (R x) (R y) := fun h0 => zUK_eq hU hK RRx RRy h0
          by_cases hk : (zD tc).kd (R x) = (zD tc).kd (R y)
          · rw [if_pos hk, k1, pl_bd]
            have hpj := zPo_join (D := zD t) RRx RRy hab (2 * N)
            rw [if_pos (show R x < 2 * N by have := va.1; omega)] at hpj
            -- what follows when all was pushed
            have goon : ∀ (td : zS) (W2 : List (Nat × Nat)), zPush (zD tc) N tc (R x) (R y) k W td W2 → zFq tc td → ∃ t2, zKp N t2 ∧ zFc t t2 ∧ ((bX2_equal_152 (lX2_equal_13 (fu + m + 1)) (Int32.ofNat i) (Int32.ofNat (R x)) (Int32.ofNat (R y)) td = some (1, t2) ∧ zEq (zD t) x0 y0) ∨ (bX2_equal_152 (lX2_equal_13 (fu + m + 1)) (Int32.ofNat i) (Int32.ofNat (R x)) (Int32.ofNat (R y)) td = some (0, t2) ∧ ¬ zEq (zD t) x0 y0)) := fun td W2 hP hQ => by
              rw [eD] at hP
              obtain ⟨p1, p2, p3, p4, p5⟩ := hP
              rw [eQ] at p2
              unfold bX2_equal_152 bX2_equal_163
              rw [zn_set Rx (by decide), pl_bd, pl_let, zn_1]
              have hAd : zAb pc R r td := ⟨c2.1, by rw [hQ.2 29 (by decide)]; exact c2.2⟩
              have hAj := zAb_join Rx Ry hAd RRx RRy hab
              have hFd : zFc t (zu td 29 (R x) (Int32.ofNat (R y))) := zFc_trans (zFc_trans hFC (zFc_q hQ)) (zFc_29 (fun k hk => zu_row hk))
              have r3d : zu td 29 (R x) (Int32.ofNat (R y)) 3 12 = Int32.ofNat (k + zDc (zD t) (R x)) := by rw [zu_ne1 (by decide)]; exact p1
              have r31d : zu td 29 (R x) (Int32.ofNat (R y)) 31 = td 31 := zu_row (by decide)
              exact ih (i + 1) fu (k + zDc (zD t) (R x)) _ _ _ _ ((R x, R y) :: L) W2 (by omega) (by omega) (by omega) hAj (zUF_join hU rfl rfl hab RRx RRy p3 p4) (zUK_join hU hK RRx RRy p5) (fun z hz => by
                unfold zRj
                by_cases e : R z = R x
                · rw [if_pos e]; exact vb
                · rw [if_neg e]; exact hV z hz) r3d (by rw [r31d]; exact p2) hFd
            have hWc : zWk (zQc N tc) (tc 31) k W := by rw [eQ, e31c]; exact hW'
            by_cases h8 : (zD tc).kd (R x) = 8 ∨ (zD tc).kd (R x) = 9
            · rw [if_neg (by rcases h8 with q | q <;> rw [q] <;> decide)]
              obtain ⟨td, d1, d2⟩ := pl_choose hc vac vbc hk h8 e12c (by rw [eD]; omega) hWc
              rcases d2 with ⟨d2, d3⟩ | ⟨W2, d2, d3⟩
              · rw [d2, pl_bd, if_pos rfl]
                obtain ⟨t2, z1, z2, z3⟩ := pl_eqFail (N := N) (zFc_trans hFC (zFc_q d1))
                rw [eD] at d3
                exact ⟨t2, z2, z3, Or.inr ⟨z1, fun h0 => d3 (zEq_sm (toEq h0))⟩⟩
              · rw [d2, pl_bd, if_neg pl_10]
                exact goon td W2 d3 d1
            · have hlt : (zD tc).kd (R x) < 8 := by
                rcases zV_at hc vac with ⟨q, _⟩ | ⟨q, _⟩ | ⟨q, _⟩ | ⟨q, _⟩
                · rw [q]; decide
                · rcases q with q | q <;> rw [q] <;> decide
                · rcases q with q | q <;> rw [q] <;> decide
                · exact absurd q h8
              rw [if_pos hlt]
              obtain ⟨td, W2, d1, d2, d3⟩ := pl_goOn hc vac vbc hk h8 e12c (by omega) hWc
              rw [d1, pl_bd, if_neg pl_10]
              exact goon td W2 d2 d3
          · rw [if_neg hk]
            obtain ⟨t2, z1, z2, z3⟩ := pl_eqFail (N := N) hFC
            rw [eD] at hk
            exact ⟨t2, z2, z3, Or.inr ⟨z1, fun h0 => hk (zEq_sm (toEq h0)).1⟩⟩
theorem zEqual {G : zTxt} {f : Nat → Nat} {N M P A T o1 o2 : Nat} {t u : zS} (h : zTG G f N M P A T t u) (hb : zBg T t) (hK : zKp N t) (h1 : o1 / 2 < N) (h2 : o2 / 2 < N) : ∃ t2, zKp N t2 ∧ zFc t t2 ∧ ((mX2_equal (Int32.ofNat o1) (Int32.ofNat o2) t = some (1, t2) ∧ zEq (zD t) (zSg2 t o1) (zSg2 t o2)) ∨ (mX2_equal (Int32.ofNat o1) (Int32.ofNat o2) t = some (0, t2) ∧ ¬ zEq (zD t) (zSg2 t o1) (zSg2 t o2))) := by
  have hN := h.2.2.2.1
  have hw := h.2.2.2.2.2.2.2.2.1
  obtain ⟨p, R, r, L, hA, hU, hV⟩ := hK
  have hPo := zPo_le (R := R) h N (Nat.le_refl _)
  have hFa : zFc t (zu t 3 12 0) := ⟨fun j hj => zu_ne2 hj, fun j hj => zu_row (by omega)⟩
  have tra := zTr_c hFa
  obtain ⟨t1, z1, z2, z3, z4, z5⟩ := pl_pairUp (N := N) (k := 0) (a := zSg2 t o1) (b := zSg2 t o2) (W := []) (t := zu t 3 12 0) (zu_same _ _ _ _) (by decide) trivial ⟨o1, h1, rfl, zSg2_of tra o1⟩ ⟨o2, h2, rfl, zSg2_of tra o2⟩
  rw [zQc_of tra] at z3
  have hF1 : zFc t t1 := zFc_trans hFa (zFc_q ⟨z4, z5⟩)
  have hA1 : zAb p R r t1 := ⟨hA.1, by rw [z5 29 (by decide), zu_row (by decide)]; exact hA.2⟩
  have hall := zUF_all hU
  have := zEqualL (x0 := zSg2 t o1) (y0 := zSg2 t o2) h hb 6001 0 (zFU - 6002) 1 t1 p R r L [(zSg2 t o1, zSg2 t o2)] (by omega) (by omega) (by omega) hA1 ⟨hU.1, fun e he => zSm_mono (hU.2.1 e he) (fun a b w => by
    rcases w with w | w
    · exact Or.inl w
    · cases w), Or.inr List.mem_cons_self⟩ (fun h0 => ⟨fun e he => zEq_of (zSm_mono (hU.2.1 e he) (fun a b w => by
    rcases w with w | w
    · exact hall a b w
    · cases w)), fun e he => by
    rcases List.mem_cons.mp he with w | w
    · rw [w]; exact h0
    · cases w⟩) hV z2 z3 hF1
  rw [show zFU - 6002 + 6001 + 1 = zFU by unfold zFU; omega] at this
  unfold mX2_equal
  rw [pl_pt, z1, pl_bd]
  exact this
