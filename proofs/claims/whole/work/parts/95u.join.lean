/-! CHECK: helpers for if and case -/
theorem zBack70 {w : Nat → Nat} {n d kp : Nat} {R : Nat → Prop} {t u g t2 u2 g2 : zS} {v k : Int32} (h : zFrC w n d kp R t (zu u 0 70 v) g t2 u2 g2) (hk : u 0 70 = k) : zFrC w n d kp R t u g t2 (zu u2 0 70 k) g2 := by
  obtain ⟨a1, a2, a3, a4, a5, a6, a7, a8, a9, a10, a11⟩ := h
  refine ⟨a1, ⟨fun j hj => ?_, fun j hj => ?_⟩, a3, by rw [zu_ne2 (by decide)]; exact a4, ?_, by rw [zu_same]; exact hk.symm, a7, fun j hj => ?_, fun j hj => ?_, a10, a11⟩
  · rw [zu_ne2 (by omega), a2.1 j hj, zu_ne2 (by omega)]
  · funext i; rw [zu_ne1 (by omega), a2.2 j hj]; exact zu_ne1 (by omega)
  · rw [zu_ne2 (by decide), a5, zu_ne2 (by decide)]
  · rw [zu_ne1 (by decide), a8 j hj, zu_ne1 (by decide)]
  · rw [zu_ne1 (by decide), a9 j hj, zu_ne1 (by decide)]
theorem zOn70 {w : Nat → Nat} {n d kp : Nat} {R : Nat → Prop} {t u g t2 u2 g2 : zS} {v : Int32} (h : zFrC w n d kp R t u g t2 u2 g2) : zFrC w n d kp R t (zu u 0 70 v) g t2 (zu u2 0 70 v) g2 := by
  obtain ⟨a1, a2, a3, a4, a5, a6, a7, a8, a9, a10, a11⟩ := h
  refine ⟨a1, ⟨fun j hj => ?_, fun j hj => ?_⟩, a3, by rw [zu_ne2 (by decide)]; exact a4, ?_, by rw [zu_same, zu_same], a7, fun j hj => ?_, fun j hj => ?_, a10, a11⟩
  · rw [zu_ne2 (by omega), a2.1 j hj, zu_ne2 (by omega)]
  · funext i; rw [zu_ne1 (by omega), a2.2 j hj, zu_ne1 (by omega)]
  · rw [zu_ne2 (by decide), a5, zu_ne2 (by decide)]
  · rw [zu_ne1 (by decide), a8 j hj, zu_ne1 (by decide)]
  · rw [zu_ne1 (by decide), a9 j hj, zu_ne1 (by decide)]
theorem zBI_70 {w : Nat → Nat} {N Q S n d kp s : Nat} {t u g t1 u1 g1 : zS} {Dn : Nat → Prop} {v : Int32} (h : zBI w N Q S n d kp s t u g t1 u1 g1 Dn) : zBI w N Q S n d kp s t (zu u 0 70 v) g t1 (zu u1 0 70 v) g1 Dn := by
  obtain ⟨a1, a2, a3, a4, a5, a6, a7⟩ := h
  exact ⟨zOn70 a1, a2, a3, fun k hk => by rw [zu_ne1 (by decide), zu_ne1 (by decide)]; exact a4 k hk, a5, a6, a7⟩
/-- nothing but rows moved -/
theorem zBI_mv {G : zTxt} {f : Nat → Nat} {N M P A T Q Pa bb S F C R W V n d kp s : Nat} {o : Nat → Nat × Nat} {w : Nat → Nat} {t u g t1 u1 g1 t2 u2 : zS} {Dn : Nat → Prop} (hx : zCx G f N M P A T Q Pa bb S F C R W V o w t u) (h : zBI w N Q S n d kp s t u g t1 u1 g1 Dn) (hf : zFrC w n d kp (fun _ => False) t1 u1 g1 t2 u2 g1) (hK : zKp N t2) (hA : ∀ k, k < n → t2 58 (n * (1 + 2 * d) + k) = t1 58 (n * (1 + 2 * d) + k)) (hU : ∀ k, k < n → u2 42 (1500 * d + k) = u1 42 (1500 * d + k)) : zBI w N Q S n d kp s t u g t2 u2 g1 Dn := by
  obtain ⟨a1, a2, a3, a4, a5, a6, a7⟩ := h
  have hx1 := zCx_of hx a1.1 a1.2.1 a2
  exact ⟨zFrC_trans a1 hf (fun _ q => q) (fun _ q => q.elim), hK, fun k hk => by rw [hA k hk]; exact a3 k hk, fun k hk => by rw [hU k hk]; exact a4 k hk, fun x x1 x2 x3 x4 => zAn_keep hx1 x3 (a5 x x1 x2 x3 x4) hf (fun _ _ _ q => q) (fun _ _ _ q => q), a6, a7⟩
/-- ahead of the first BLOCK -/
theorem zBI_0 {w : Nat → Nat} {N Q S n d kp s : Nat} {t u g : zS} (hK : zKp N t) (h67 : u 0 67 = -1) (hv : ∀ x, x < S → zSub t s x → ¬ zVis g x) : zBI w N Q S n d kp s t u g (zmv t 58 0 58 (n * (1 + 2 * d)) n) u g (fun _ => False) :=
  ⟨zFrC_mvC h67 (Or.inr (Nat.le_refl _)), zKp_mv hK, fun k hk => by rw [zmv_in hk, show 0 + k = k by omega], fun _ _ => rfl, fun x x1 _ x3 x4 => absurd x4 (hv x x3 x1), fun x x1 _ x3 x4 => absurd x4 (hv x x3 x1), fun _ q => q.elim⟩
/-- what a BLOCK starts with -/
theorem zEnt {f : Nat → Nat} {N Q S n d kp kq s : Nat} {w : Nat → Nat} {t u g t1 u1 g1 : zS} {Dn : Nat → Prop} (hr : zRw f N n d t u) (hn : n ≤ 1100) (hI : zBI w N Q S n d kp s t u g t1 u1 g1 Dn) : zFrC w n d kq (fun x => x = s) t1 u1 g1 (zmv t1 58 (n * (1 + 2 * d)) 58 0 n) (zmv u1 42 (1500 * d) 42 (1500 * (d + 1)) n) g1 ∧ zKp N (zmv t1 58 (n * (1 + 2 * d)) 58 0 n) ∧ (∀ k, k < n → (zmv t1 58 (n * (1 + 2 * d)) 58 0 n) 58 k = t 58 k) ∧ (∀ k, k < n → zRs (zD t) N t f ((zmv t1 58 (n * (1 + 2 * d)) 58 0 n) 58 k) ((zmv u1 42 (1500 * d) 42 (1500 * (d + 1)) n) 42 (1500 * (d + 1) + k))) ∧ (∀ k, n ≤ k → (zmv t1 58 (n * (1 + 2 * d)) 58 0 n) 58 k = t1 58 k) ∧ ∀ k, k < 1500 * (d + 1) → (zmv u1 42 (1500 * d) 42 (1500 * (d + 1)) n) 42 k = u1 42 k := by
  obtain ⟨a1, a2, a3, a4, a5, a6, a7⟩ := hI
  have low : ∀ k, k < n → (zmv t1 58 (n * (1 + 2 * d)) 58 0 n) 58 k = t 58 k := fun k hk => by
    have := zmv_in (u := t1) (k1 := 58) (a := n * (1 + 2 * d)) (k2 := 58) (b := 0) hk
    rw [show 0 + k = k by omega] at this
    rw [this]; exact a3 k hk
  refine ⟨zFrC_trans (R1 := fun _ => False) (R2 := fun _ => False) (zFrC_mvC a1.2.2.2.1 (Or.inl (by omega))) (zFrC_mvM a1.2.2.2.1 (Or.inl ⟨rfl, by omega⟩)) (fun _ q => q.elim) (fun _ q => q.elim), zKp_mv a2, low, fun k hk => ?_, fun k hk => zmv_out (by omega), fun k hk => zmv_out (by omega)⟩
  rw [low k hk, zmv_in hk, a4 k hk]
  exact hr k hk
/-- the notes of one BLOCK -/
theorem zBr_mk {o : Nat → Nat × Nat} {N S n s : Nat} {t g2 g3 t0 t2 : zS} {fb b bF : Int32} {r ρ r0 : Nat → Int32} (tre : zTre o S t) (hs : s < S) (h101 : ∀ r, fb = Int32.ofNat r → r < S → t 101 r = Int32.ofNat s) (hl : (fb = -1 ∧ b = 0 ∧ t2 58 = t0 58) ∨ ∃ r, fb = Int32.ofNat r ∧ r < S ∧ g2 r = t0 58 ∧ zVis g2 r ∧ ∀ j y, zNxt t j r y → t 99 y = -1 → g2 (2000 + y) = t2 58 ∧ g2 (6000 + y) 0 = b) (hg : ∀ x, zRb S t fb x → zGs g2 g3 x) (h0 : ∀ k, k < n → t0 58 k = r0 k) (he : b = 1 ∨ (b = 0 ∧ bF = 0 ∧ ∀ k, k < n → zRe (zD t) N t (t2 58 k) (ρ k))) : zBr (zD t) N n t (zGn g3 s r ρ bF) s fb r0 := by
  have hS := tre.1
  obtain ⟨g1', g2', g3', g4'⟩ := zGn_at (g := g3) (r := r) (r2 := ρ) (b := bF) (show s < 1000 by omega)
  rcases hl with ⟨h1, h2, h3⟩ | ⟨x, h1, h2, h3, h4, h5⟩
  · rcases he with he | ⟨_, e2, e3⟩
    · rw [h2] at he; exact absurd he (by decide)
    · refine Or.inl ⟨h1, by rw [g3']; exact e2, fun k hk => ?_⟩
      have := e3 k hk
      rw [h3, h0 k hk] at this
      rw [g2']; exact this
  · have inr : ∀ j y, zNxt t j x y → zRb S t fb y ∧ y < S ∧ ¬ y = s := fun j y q => by
      have a := zNxt_at tre j x y h2 q
      have hr : zReg S t x y := ⟨a.1, j, y, q, zSub_refl t y⟩
      exact ⟨⟨x, h1, by omega, hr⟩, a.1, (zReg_in tre hs h2 (h101 x h1 h2) hr).2.1⟩
    have ga : ∀ j y, zNxt t j x y → zGs g2 (zGn g3 s r ρ bF) y := fun j y q => by
      obtain ⟨a1, a2, a3⟩ := inr j y q
      obtain ⟨b1, b2, b3⟩ := hg y a1
      obtain ⟨c1, c2, c3⟩ := zGn_ne (g := g3) (r := r) (r2 := ρ) (b := bF) (show s < 1000 by omega) (show y < 1000 by omega) a3
      exact ⟨c1.trans b1, c2.trans b2, c3.trans b3⟩
    have gx := ga 0 x rfl
    refine Or.inr ⟨x, h1, by omega, by unfold zVis; rw [gx.2.2]; exact h4, fun k hk => by rw [gx.1, h3]; exact h0 k hk, fun j y q1 q2 => ?_⟩
    obtain ⟨l1, l2⟩ := h5 j y q1 q2
    have gy := ga j y q1
    rw [gy.2.2, gy.2.1, l1, l2, g2', g3']
    rcases he with he | ⟨e1, e2, e3⟩
    · exact Or.inl he
    · exact Or.inr ⟨e1, e2, e3⟩
theorem pl_kept {kp n : Nat} {u : zS} (h70 : u 0 70 = Int32.ofNat kp) (own : mX12_ownMany (u 0 68) u = some (Int32.ofNat n, u)) : mX12_keptFrom u = some (Int32.ofNat kp, zu u 0 70 (Int32.ofNat (kp + n))) := by
  unfold mX12_keptFrom
  rw [pl_let, own, pl_bd, pl_pt, h70, zn_add]
