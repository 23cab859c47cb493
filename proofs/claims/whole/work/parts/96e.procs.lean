/-! CHECK: proc by proc -/
theorem zRb_q {G : zTxt} {f : Nat → Nat} {N M P A T Q Pa bb S F C R W V q x : Nat} {o : Nat → Nat × Nat} {w : Nat → Nat} {t u : zS} (hx : zCx G f N M P A T Q Pa bb S F C R W V o w t u) (hq : q < Q) (h : zRb S t (t 41 q) x) : x < S ∧ (o x).2 = q := by
  have tre := zTre_x hx
  have hS := tre.1
  obtain ⟨_, _, _, _, _, _, _, _, _, _, _, _, _, _, hbody, _⟩ := hx.2.2.2.1.2.2.2.2.2.2.1 q hq
  obtain ⟨r, a1, a2, a3, k, y, a4, j, a5⟩ := h
  rcases hbody with ⟨e1, e2⟩ | ⟨s, e1, e2, e3, e4, e5⟩
  · rw [e1] at a1
    exact absurd (show (0 : Int32) ≤ -1 by rw [a1]; exact zn_0le (by omega)) zn_m1
  · rw [e2] at a1
    have := (zn_inj (by omega) (by omega)).mp a1
    subst this
    obtain ⟨b1, b2, b3, b4, b5⟩ := zNxt_at tre k s y e1 a4
    obtain ⟨c1, c2, c3, c4⟩ := zAnc_at tre j y x a3 a5
    exact ⟨a3, by rw [c4, b3, e4.1]⟩
/-- what is noted of proc q -/
def zPq (N Q S q : Nat) (t g : zS) : Prop := ∃ n, t 39 q = Int32.ofNat n ∧ n ≤ 1100 ∧ (∀ x, zRb S t (t 41 q) x → zVis g x → zAn (zD t) N Q n t g x) ∧ ∃ k a, (k ≤ 3000 ∧ a ≤ 3000) ∧ t 37 q = Int32.ofNat k ∧ t 35 q = Int32.ofNat a ∧ ((t 41 q = -1 ∧ ∀ x, x < n → zRz (zD t) t a k x = -1) ∨ ∃ s, t 41 q = Int32.ofNat s ∧ s < S ∧ zVis g s ∧ (∀ x, x < n → g s x = zRz (zD t) t a k x) ∧ ∀ j y, zNxt t j s y → t 99 y = -1 → g (6000 + y) 0 = 1 ∨ (g (6000 + y) 0 = 0 ∧ ∀ x, x < n → g (2000 + y) x = -1))
theorem zRb_f {S : Nat} {t t2 : zS} (hf : zCf t t2) (b : Int32) (x : Nat) : zRb S t2 b x ↔ zRb S t b x := ⟨fun ⟨r, a1, a2, a3⟩ => ⟨r, a1, a2, (zReg_f hf _ _).mp a3⟩, fun ⟨r, a1, a2, a3⟩ => ⟨r, a1, a2, (zReg_f hf _ _).mpr a3⟩⟩
theorem zRz_f {t t2 : zS} (hf : zCf t t2) (a k x : Nat) : zRz (zD t2) t2 a k x = zRz (zD t) t a k x := by
  unfold zRz
  rw [hf.2.2 45 (by decide), zD_of (zTr_f hf), zSg2_of (zTr_f hf)]
theorem zPq_mk {w : Nat → Nat} {N Q S n q : Nat} {t g t2 g2 : zS} (hf : zCf t t2) (h39 : t 39 q = Int32.ofNat n) (hn : n ≤ 1100) (h : zPrG w N Q S n q t g t2 g2) : zPq N Q S q t2 g2 := by
  obtain ⟨_, _, _, a1, k, a, aka, a2, a3, a4⟩ := h
  have r := hf.2.2
  unfold zPq
  rw [r 39 (by decide), r 41 (by decide), r 37 (by decide), r 35 (by decide), r 99 (by decide)]
  refine ⟨n, h39, hn, fun x x1 x2 => ?_, k, a, aka, a2, a3, ?_⟩
  · rw [zD_of (zTr_f hf)]; exact a1 x ((zRb_f hf _ x).mp x1) x2
  · rcases a4 with ⟨b1, b2⟩ | ⟨s, b1, b2, b3, b4, b5⟩
    · exact Or.inl ⟨b1, fun x hx => by rw [zRz_f hf]; exact b2 x hx⟩
    · exact Or.inr ⟨s, b1, b2, b3, fun x hx => by rw [zRz_f hf]; exact b4 x hx, fun j y y1 y2 => b5 j y ((zNxt_f (r 99 (by decide)) j s y).mp y1) y2⟩
theorem zPq_keep {G : zTxt} {f : Nat → Nat} {N M P A T Q Pa bb S F C R W V q : Nat} {o : Nat → Nat × Nat} {w : Nat → Nat} {R2 : Nat → Prop} {t u g t2 g2 : zS} (hx : zCx G f N M P A T Q Pa bb S F C R W V o w t u) (hq : q < Q) (hf : zCf t t2) (a10 : ∀ x, x < 1000 → ¬ R2 x → t2 107 x = t 107 x ∧ zGs g g2 x) (a11 : ∀ e, e < 1600 → ¬ R2 (w e) → t2 113 e = t 113 e) (hR : ∀ x, x < S → R2 x → ¬ (o x).2 = q) (h : zPq N Q S q t g) : zPq N Q S q t2 g2 := by
  have tre := zTre_x hx
  have hS := tre.1
  have r := hf.2.2
  have hb : ∀ x, zRb S t (t 41 q) x → x < S ∧ (o x).2 = q := fun x h => zRb_q hx hq h
  unfold zPq at *
  rw [r 39 (by decide), r 41 (by decide), r 37 (by decide), r 35 (by decide), r 99 (by decide)]
  obtain ⟨n, b1, b2, b3, k, a, bka, b4, b5, b6⟩ := h
  have gs : ∀ x, zRb S t (t 41 q) x → zGs g g2 x := fun x hx => by
    obtain ⟨c1, c2⟩ := hb x hx
    exact (a10 x (by omega) (fun z => hR x c1 z c2)).2
  refine ⟨n, b1, b2, fun x x1 x2 => ?_, k, a, bka, b4, b5, ?_⟩
  · have x1' := (zRb_f hf _ x).mp x1
    obtain ⟨c1, c2⟩ := hb x x1'
    have gx := gs x x1'
    rw [zD_of (zTr_f hf)]
    refine zAn_k hx c1 (b3 x x1' (by unfold zVis at *; rw [← gx.2.2]; exact x2)) hf a10 a11 (fun y y1 y2 z => ?_) (fun r r1 r2 z => ?_)
    · obtain ⟨j, y1⟩ := y1
      obtain ⟨_, _, _, d4⟩ := zAnc_at tre j x y y2 y1
      exact hR y y2 z (by rw [d4]; exact c2)
    · rcases (tre.2 x c1).1 with e | ⟨r', e1, e2, e3, e4, _⟩
      · rw [e] at r1
        exact absurd (show (0 : Int32) ≤ -1 by rw [r1]; exact zn_0le (by omega)) zn_m1
      · rw [e1] at r1
        have := (zn_inj (by omega) (by omega)).mp r1
        subst this
        exact hR r' e3 z (by rw [e4]; exact c2)
  · rcases b6 with ⟨c1, c2⟩ | ⟨s, c1, c2, c3, c4, c5⟩
    · exact Or.inl ⟨c1, fun x hx => by rw [zRz_f hf]; exact c2 x hx⟩
    · have inr : ∀ j y, zNxt t j s y → zRb S t (t 41 q) y := fun j y h => ⟨s, c1, by omega, (zNxt_at tre j s y c2 h).1, j, y, h, zSub_refl t y⟩
      have gx := gs s (inr 0 s rfl)
      refine Or.inr ⟨s, c1, c2, by unfold zVis at *; rw [gx.2.2]; exact c3, fun x hx => by rw [zRz_f hf, gx.1]; exact c4 x hx, fun j y y1 y2 => ?_⟩
      have y1' := (zNxt_f (r 99 (by decide)) j s y).mp y1
      have gy := gs y (inr j y y1')
      rw [gy.2.1, gy.2.2]
      exact c5 j y y1' y2
/-- no proc holds too much for the check -/
def zFit (G : zTxt) (Q : Nat) (t : zS) : Prop := ∀ q, q < Q → ∃ n, t 39 q = Int32.ofNat n ∧ n ≤ 1100 ∧ ∀ x, x ≤ 38 → x + 1 ≤ zKc G G.2.2.1 → n * (3 + 2 * x) ≤ 80000
theorem zProcsC {G : zTxt} {f : Nat → Nat} {N M P A T Q Pa bb S F C R W V : Nat} {o : Nat → Nat × Nat} {w : Nat → Nat} : ∀ (k j fu fv : Nat) (t u g : zS), k + j = Q → zCx G f N M P A T Q Pa bb S F C R W V o w t u → zFit G Q t → u 0 67 = -1 → (∀ i, i < j → zPq N Q S i t g) → (∀ x, x < S → zVis g x → (o x).2 < j) →
    ∃ t2 u2, zCf t t2 ∧ zCm u u2 ∧ ((∃ p, 0 ≤ p ∧ lX11_program_45 (fu + k + 1) (Int32.ofNat j) t = some (-10000 - p, t2) ∧ lX12_program_325 (fv + k + 1) (Int32.ofNat j) u = some (-10000 - p, u2)) ∨
      ∃ g2, lX11_program_45 (fu + k + 1) (Int32.ofNat j) t = some (Int32.ofNat Q, zu t2 0 9 1) ∧ lX12_program_325 (fv + k + 1) (Int32.ofNat j) u = bX12_program_351 u2 ∧ zCx G f N M P A T Q Pa bb S F C R W V o w t2 u2 ∧ u2 0 67 = -1 ∧ ∀ i, i < Q → zPq N Q S i t2 g2) := by
  intro k
  induction k with
  | zero =>
    intro j fu fv t u g hj hx hfit h67 hn hv
    have e : j = Q := by omega
    subst e
    refine ⟨t, u, zCf_refl _, zCm_refl _, Or.inr ⟨g, ?_, ?_, hx, h67, hn⟩⟩
    · show bX11_program_45 _ _ t = _
      unfold bX11_program_45
      rw [hx.2.2.2.1.1, if_pos (Int32.le_refl _), pl_pt, zu_ne1 (by decide), hx.2.2.2.1.1]
    · show bX12_program_325 _ _ u = _
      unfold bX12_program_325
      rw [hx.2.2.2.1.2.1, if_pos (Int32.le_refl _)]
  | succ k ih =>
    intro j fu fv t u g hj hx hfit h67 hn hv
    have tre := zTre_x hx
    have hS := tre.1
    have hjQ : j < Q := by omega
    have hQ := hx.2.2.2.2.2.2.2.2.1
    have nle : ¬ Int32.ofNat Q ≤ Int32.ofNat j := by rw [zn_le (by omega) (by omega)]; omega
    obtain ⟨n, n1, n2, n3⟩ := hfit j hjQ
    obtain ⟨p, r, t2, u2, g2, y1, y2, y3, y4, y5⟩ := zProcC hx hjQ n1 n2 h67 n3 (g := g) (fun x hx1 hx2 => by
      obtain ⟨c1, c2⟩ := zRb_q hx hjQ hx1
      have := hv x c1 hx2
      omega)
    have eC : lX11_program_45 (fu + (k + 1) + 1) (Int32.ofNat j) t = if p < 0 then lX11_program_45 (fu + k + 1) (Int32.ofNat (j + 1)) t2 else some (-10000 - p, t2) := by
      show bX11_program_45 (lX11_program_45 (fu + k + 1)) _ t = _
      unfold bX11_program_45
      rw [hx.2.2.2.1.1, if_neg nle, y1, pl_bd]
      simp only [pl_let, zn_1]
    have eM : lX12_program_325 (fv + (k + 1) + 1) (Int32.ofNat j) u = lX12_program_325 (fv + k + 1) (Int32.ofNat (j + 1)) u2 := by
      show bX12_program_325 (lX12_program_325 (fv + k + 1)) _ u = _
      unfold bX12_program_325
      rw [hx.2.2.2.1.2.1, if_neg nle, if_neg (by rw [h67]; decide), y2, pl_bd]
      simp only [pl_let, zn_1]
    rcases y5 with ⟨z1, z2⟩ | ⟨z1, z2, z3⟩
    · refine ⟨t2, u2, y3, y4, Or.inl ⟨p, z1, ?_, ?_⟩⟩
      · rw [eC, if_neg (fun w => by have a := Int32.le_iff_toInt_le.mp z1; have b := Int32.lt_iff_toInt_lt.mp w; have c : (0 : Int32).toInt = 0 := by decide
                                    omega)]
      · rw [eM]
        have e351 : bX12_program_351 u2 = some (-10000 - p, u2) := by
          unfold bX12_program_351
          rw [z2, if_neg (fun w => by have a := Int32.le_iff_toInt_le.mp z1; have b := Int32.lt_iff_toInt_lt.mp w; have c : (0 : Int32).toInt = 0 := by decide
                                      omega)]
        show bX12_program_325 _ _ u2 = _
        unfold bX12_program_325
        rw [z2, if_pos z1, e351]
        split <;> rfl
    · subst z1
      have hx2 := zCx_of hx y3 y4 z3.1
      have a10 := z3.2.1
      have a11 := z3.2.2.1
      obtain ⟨t3, u3, w1, w2, w3⟩ := ih (j + 1) fu fv t2 u2 g2 (by omega) hx2 (by unfold zFit at *; rw [y3.2.2 39 (by decide)]; exact hfit) z2 (fun i hi => by
        by_cases e : i = j
        · subst e; exact zPq_mk y3 n1 n2 z3
        · refine zPq_keep hx (by omega) y3 a10 a11 (fun x x1 x2 x3 => ?_) (hn i (by omega))
          have := (zRb_q hx hjQ x2).2
          omega) (fun x x1 x2 => by
        by_cases c : zRb S t (t 41 j) x
        · have := (zRb_q hx hjQ c).2; omega
        · have := (a10 x (by omega) c).2.2.2
          have := hv x x1 (by unfold zVis at *; rw [← this]; exact x2)
          omega)
      rw [eC, eM, if_pos (by decide)]
      exact ⟨t3, u3, zCf_trans y3 w1, zCm_trans y4 w2, w3⟩
