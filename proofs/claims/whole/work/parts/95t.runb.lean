/-! CHECK: one of several BLOCKS of a statement -/
theorem zAnc_trans {t : zS} : ∀ j k z x y, zAnc t k z x → zAnc t j x y → zAnc t (k + j) z y := by
  intro j
  induction j with
  | zero =>
    intro k z x y h1 h2
    have e : y = x := h2
    rw [e]; exact h1
  | succ j ih =>
    intro k z x y h1 h2
    obtain ⟨p, p1, p2, p3⟩ := h2
    exact ⟨p, p1, p2, ih k z x p h1 p3⟩
theorem zNxt_end {t : zS} {r2 : Nat} : ∀ k r y, zNxt t k r y → t 99 y = Int32.ofNat r2 → r2 < 1000 → zNxt t (k + 1) r r2 := by
  intro k
  induction k with
  | zero =>
    intro r y h h1 h2
    have e : y = r := h
    rw [e] at h1
    exact ⟨r2, h1, h2, rfl⟩
  | succ k ih =>
    intro r y h h1 h2
    obtain ⟨z, z1, z2, z3⟩ := h
    exact ⟨z, z1, z2, ih z y z3 h1 h2⟩
theorem zReg_cl {o : Nat → Nat × Nat} {S r x : Nat} {t : zS} (tre : zTre o S t) (h : zReg S t r x) : (∀ y, zSub t x y → y < S → zReg S t r y) ∧ ∀ r2, t 99 x = Int32.ofNat r2 → r2 < 1000 → zReg S t r r2 := by
  obtain ⟨hx, k, z, h1, a, h2⟩ := h
  refine ⟨fun y hy hS => ?_, fun r2 q1 q2 => ?_⟩
  · obtain ⟨j, hj⟩ := hy
    exact ⟨hS, k, z, h1, a + j, zAnc_trans j a z x y h2 hj⟩
  · have hS := tre.1
    have n2 := (tre.2 x hx).1
    obtain ⟨r3, c1, c2, c3, c4, c5, c6⟩ : ∃ r3, t 99 x = Int32.ofNat r3 ∧ x < r3 ∧ r3 < S ∧ o r3 = o x ∧ o (10000 + r3) = o (10000 + x) ∧ t 101 r3 = t 101 x := by
      rcases n2 with c | c
      · rw [c] at q1
        exact absurd (show (0 : Int32) ≤ -1 by rw [q1]; exact zn_0le (by omega)) zn_m1
      · exact c
    rw [c1] at q1
    have e := (zn_inj (by omega) (by omega)).mp q1
    subst e
    cases a with
    | zero =>
      have e : x = z := h2
      subst e
      exact ⟨c3, k + 1, r3, zNxt_end k r x h1 c1 q2, 0, rfl⟩
    | succ a =>
      obtain ⟨p, p1, p2, p3⟩ := h2
      exact ⟨c3, k, z, h1, a + 1, p, by rw [c6]; exact p1, p2, p3⟩
theorem zFrC_kp {w : Nat → Nat} {n d kp kq : Nat} {R : Nat → Prop} {t u g t2 u2 g2 : zS} (h : zFrC w n d kq R t u g t2 u2 g2) (hk : kp ≤ kq) : zFrC w n d kp R t u g t2 u2 g2 := by
  obtain ⟨a1, a2, a3, a4, a5, a6, a7, a8, a9, a10, a11⟩ := h
  exact ⟨a1, a2, a3, a4, a5, a6, a7, a8, fun k hk' => a9 k (by omega), a10, a11⟩
/-- what holds between the BLOCKS of statement s; Dn: the statements of those that were checked -/
def zBI (w : Nat → Nat) (N Q S n d kp s : Nat) (t u g t1 u1 g1 : zS) (Dn : Nat → Prop) : Prop := zFrC w n d kp (fun x => zSub t s x ∧ x < S) t u g t1 u1 g1 ∧ zKp N t1 ∧ (∀ k, k < n → t1 58 (n * (1 + 2 * d) + k) = t 58 k) ∧ (∀ k, k < n → u1 42 (1500 * d + k) = u 42 (1500 * d + k)) ∧ (∀ x, zSub t s x → ¬ x = s → x < S → zVis g1 x → zAn (zD t) N Q n t1 g1 x) ∧ (∀ x, zSub t s x → ¬ x = s → x < S → zVis g1 x → Dn x) ∧ ∀ x, Dn x → (∀ y, zSub t x y → y < S → Dn y) ∧ ∀ r, t 99 x = Int32.ofNat r → r < 1000 → Dn r
/-- one BLOCK of several, good -/
def zRG (w : Nat → Nat) (f : Nat → Nat) (N Q S n d kp kq s : Nat) (Dn : Nat → Prop) (fb : Int32) (t u g g1 t0 u0 : zS) (b : Int32) (t2 u2 g2 : zS) : Prop := (b = 0 ∨ b = 1) ∧ zBI w N Q S n d kp s t u g t2 u2 g2 (fun x => Dn x ∨ zRb S t fb x) ∧ zRw f N n (d + 1) t2 u2 ∧ (∀ k, n ≤ k → k < n * (3 + 2 * d) → t2 58 k = t0 58 k) ∧ (∀ k, k < kq → u2 43 k = u0 43 k) ∧ (∀ x, x < 1000 → ¬ zRb S t fb x → zGs g1 g2 x) ∧ (∀ e, e < 1600 → ¬ zRb S t fb (w e) → t2 113 e = t0 113 e) ∧ ((fb = -1 ∧ b = 0 ∧ t2 58 = t0 58) ∨ ∃ r, fb = Int32.ofNat r ∧ r < S ∧ g2 r = t0 58 ∧ zVis g2 r ∧ ∀ j y, zNxt t j r y → t 99 y = -1 → g2 (2000 + y) = t2 58 ∧ g2 (6000 + y) 0 = b)
theorem zRunB {gc0 : GgX1_checkBlock} {gm0 : GgX12_checkBlock} {G : zTxt} {f : Nat → Nat} {N M P A T Q Pa bb S F C R W V n q d kp kq s : Nat} {o : Nat → Nat × Nat} {w : Nat → Nat} {t u g t1 u1 g1 t0 u0 : zS} {fb fb' : Int32} {Dn : Nat → Prop} (hB : zPC G f N M P A T Q Pa bb S F C R W V o w n q (d + 1) (mX1_checkBlock gc0) (mX12_checkBlock gm0)) (hx : zCx G f N M P A T Q Pa bb S F C R W V o w t u) (hc : zCk f N n d q t u) (h70 : u 0 70 = Int32.ofNat kq) (hkq : kq ≤ n * (d + 1)) (hkp : kp ≤ kq) (hs : s < S) (ho : o s = (d, q)) (hd : d ≤ 38) (hI : zBI w N Q S n d kp s t u g t1 u1 g1 Dn) (h0 : zFrC w n d kq (fun x => x = s) t1 u1 g1 t0 u0 g1) (hK0 : zKp N t0) (hr0 : ∀ k, k < n → zRs (zD t) N t f (t0 58 k) (u0 42 (1500 * (d + 1) + k))) (hA0 : ∀ k, k < n → t0 58 (n * (1 + 2 * d) + k) = t1 58 (n * (1 + 2 * d) + k)) (hU0 : ∀ k, k < n → u0 42 (1500 * d + k) = u1 42 (1500 * d + k)) (hfb : (fb = -1 ∧ fb' < 0) ∨ ∃ r, fb = Int32.ofNat r ∧ fb' = Int32.ofNat r ∧ r < S ∧ o r = ((o s).1 + 1, (o s).2) ∧ t 101 r = Int32.ofNat s) (hnew : ∀ x, zRb S t fb x → ¬ Dn x) :
    ∃ b b' t2 u2 g2, mX1_checkBlock gc0 fb (Int32.ofNat (d + 1)) t0 = some (b, t2) ∧ mX12_checkBlock gm0 fb' (Int32.ofNat (d + 1)) u0 = some (b', u2) ∧ (zBadC t u b t2 u2 ∨ (b' = b ∧ zRG w f N Q S n d kp kq s Dn fb t u g g1 t0 u0 b t2 u2 g2)) := by
  have tre := zTre_x hx
  have hS := tre.1
  obtain ⟨v1, v2, v3, v4⟩ := zlv n d
  obtain ⟨i1, i2, i3, i4, i5, i6, i7⟩ := hI
  have hx1 := zCx_of hx i1.1 i1.2.1 i2
  have f0 : zCf t t0 := zCf_trans i1.1 h0.1
  have m0 : zCm u u0 := zCm_trans i1.2.1 h0.2.1
  have hx0 := zCx_of hx f0 m0 hK0
  have eD0 : zD t0 = zD t := zD_of (zTr_f f0)
  obtain ⟨k1, k2, k3, k4, k5, k6, k7, k8⟩ := hc
  have t6 : t0 6 = t 6 := by rw [h0.2.2.1, i1.2.2.1]
  have hc0 : zCk f N n (d + 1) q t0 u0 := ⟨by rw [t6]; exact k1, by rw [t6]; exact k2, h0.2.2.2.1, by rw [h0.2.2.2.2.1, i1.2.2.2.2.1]; exact k4, by rw [f0.2.2 39 (by decide)]; exact k5, k6, by omega, fun k hk => zRs_of (zTr_f f0) (hr0 k hk)⟩
  have rbf : ∀ x, zRb S t0 fb x ↔ zRb S t fb x := fun x => by
    constructor
    · rintro ⟨r, a1, a2, a3⟩; exact ⟨r, a1, a2, (zReg_f f0 _ _).mp a3⟩
    · rintro ⟨r, a1, a2, a3⟩; exact ⟨r, a1, a2, (zReg_f f0 _ _).mpr a3⟩
  have rbe : zRb S t0 fb = zRb S t fb := funext fun x => propext (rbf x)
  have rin : ∀ x, zRb S t fb x → zSub t s x ∧ ¬ x = s ∧ x < S := fun x q => by
    obtain ⟨r, q1, q2, q3⟩ := q
    rcases hfb with ⟨b1, _⟩ | ⟨r', b1, b2, b3, b4, b5⟩
    · rw [b1] at q1
      exact absurd (show (0 : Int32) ≤ -1 by rw [q1]; exact zn_0le (by omega)) zn_m1
    · rw [b1] at q1
      have e := (zn_inj (by omega) (by omega)).mp q1
      subst e
      exact zReg_in tre hs b3 b5 q3
  have hfb2 : (fb = -1 ∧ fb' < 0) ∨ ∃ r, fb = Int32.ofNat r ∧ fb' = Int32.ofNat r ∧ r < S ∧ o r = ((o s).1 + 1, (o s).2) := hfb.imp id fun ⟨r, a1, a2, a3, a4, _⟩ => ⟨r, a1, a2, a3, a4⟩
  obtain ⟨b, b', t2, u2, g2, z1, z2, z3⟩ := zBranchC (g := g1) hB hx0 hc0 (by rw [h0.2.2.2.2.2.1, i1.2.2.2.2.2.1]; exact h70) hkq hs ho hfb2 (fun x q v => by
    have q' := (rbf x).mp q
    exact hnew x q' (i6 x (rin x q').1 (rin x q').2.1 (rin x q').2.2 v))
  refine ⟨b, b', t2, u2, g2, z1, z2, ?_⟩
  rcases z3 with ⟨y1, y2, y3, p, y4, y5, y6, y7⟩ | ⟨ebb, y1, y2, y3, y4, y5, y6⟩
  · exact Or.inl ⟨zCf_trans f0 y1, zCm_trans m0 y2, y3, p, y4, y5, y6, by rw [y7, t6]⟩
  · rw [rbe] at y2
    have f2 : zCf t t2 := zCf_trans f0 y2.1
    have lvl : ∀ k, n ≤ k → k < n * (3 + 2 * d) → t2 58 k = t0 58 k := fun k a1 a2 => y2.2.2.2.2.2.2.1 k a1 (by omega)
    have u42 : ∀ k, k < n → u2 42 (1500 * d + k) = u0 42 (1500 * d + k) := fun k hk => y2.2.2.2.2.2.2.2.1 _ (by omega)
    have gs2 : ∀ x, x < 1000 → ¬ zRb S t fb x → zGs g1 g2 x := fun x a1 a2 => (y2.2.2.2.2.2.2.2.2.2.1 x a1 a2).2
    refine Or.inr ⟨ebb, y1, ⟨?_, y3, fun k hk => ?_, fun k hk => ?_, fun x x1 x2 x3 x4 => ?_, fun x x1 x2 x3 x4 => ?_, fun x x1 => ?_⟩, y4, lvl, y2.2.2.2.2.2.2.2.2.1, gs2, y2.2.2.2.2.2.2.2.2.2.2, ?_⟩
    · exact zFrC_trans (zFrC_trans (R3 := fun x => zSub t s x ∧ x < S) i1 (zFrC_kp h0 hkp) (fun _ a => a) (fun x a => by rw [a]; exact ⟨zSub_refl t s, hs⟩)) (zFrC_up y2 hkp (fun x a => ⟨(rin x a).1, (rin x a).2.2⟩)) (fun _ a => a) (fun _ a => a)
    · rw [lvl _ (by omega) (by omega), hA0 k hk]; exact i3 k hk
    · rw [u42 k hk, hU0 k hk]; exact i4 k hk
    · by_cases cr : zRb S t fb x
      · have a := y5 x ((rbf x).mpr cr) x4
        rw [eD0] at a
        exact a
      · have v1' : zVis g1 x := by
          unfold zVis at *
          rw [← (gs2 x (by omega) cr).2.2]; exact x4
        have dn := i6 x x1 x2 x3 v1'
        have a1 := i5 x x1 x2 x3 v1'
        have dx : (o s).1 < (o x).1 := by
          obtain ⟨k, k1⟩ := x1
          have := (zAnc_at tre k s x x3 k1).2.2.1
          cases k with
          | zero => exact absurd k1 x2
          | succ k => omega
        have a2 := zAn_keep hx1 x3 a1 h0 (fun y w1 w2 w3 => by
          subst w3
          obtain ⟨k, k1⟩ := (zSub_f i1.1 x y).mp w1
          have := (zAnc_at tre k x y w2 k1).2.2.1
          omega) (fun r w1 w2 w3 => by
          subst w3
          rw [i1.1.2.2 99 (by decide)] at w1
          obtain ⟨_, _, o3, _⟩ := zNxt_at tre 1 x r x3 ⟨r, w1, w2, rfl⟩
          rw [o3] at dx
          omega)
        exact zAn_keep hx0 x3 a2 y2 (fun y w1 w2 w3 => hnew y w3 ((i7 x dn).1 y ((zSub_f f0 x y).mp w1) w2)) (fun r w1 w2 w3 => hnew r w3 ((i7 x dn).2 r (by rw [← f0.2.2 99 (by decide)]; exact w1) w2))
    · by_cases cr : zRb S t fb x
      · exact Or.inr cr
      · refine Or.inl (i6 x x1 x2 x3 ?_)
        unfold zVis at *
        rw [← (gs2 x (by omega) cr).2.2]; exact x4
    · rcases x1 with x1 | x1
      · exact ⟨fun y w1 w2 => Or.inl ((i7 x x1).1 y w1 w2), fun r w1 w2 => Or.inl ((i7 x x1).2 r w1 w2)⟩
      · obtain ⟨r, a1, a2, a3⟩ := x1
        have cl := zReg_cl tre a3
        exact ⟨fun y w1 w2 => Or.inr ⟨r, a1, a2, cl.1 y w1 w2⟩, fun r2 w1 w2 => Or.inr ⟨r, a1, a2, cl.2 r2 w1 w2⟩⟩
    · rcases y6 with a | ⟨r, a1, a2, a3, a4, a5⟩
      · exact Or.inl a
      · exact Or.inr ⟨r, a1, a2, a3, a4, fun j y w1 w2 => a5 j y ((zNxt_f (f0.2.2 99 (by decide)) j r y).mpr w1) (by rw [f0.2.2 99 (by decide)]; exact w2)⟩
