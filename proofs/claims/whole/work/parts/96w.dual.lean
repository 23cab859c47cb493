/-! the other end's TYPE -/
def zFk (k : Int32) : Int32 := if k = 4 then 5 else if k = 5 then 4 else if k = 6 then 7 else if k = 7 then 6 else if k = 8 then 9 else if k = 9 then 8 else 0
theorem zflp_d (d b : Nat) (hb : b < 2) : zflp (2 * d + b) = 2 * d + (1 - b) := by unfold zflp; omega
theorem zD_fl (t : zS) (s : Nat) : (zD t).bh (zflp s) = zflp ((zD t).bh s) ∧ (zD t).inn (zflp s) = (zD t).inn s ∧ (zD t).ct (zflp s) = (zD t).ct s ∧ ∀ l, (zD t).pt (zflp s) l = ((zD t).pt s l).map zflp := by
  obtain ⟨z1, z2, _⟩ := zflp_2 s
  refine ⟨?_, ?_, ?_, fun l => ?_⟩
  · rw [zD_bh, zD_bh, z1, z2, ← zSg2_fl, zflp_d _ _ (by omega)]
  · rw [zD_inn, zD_inn, z1]
  · rw [zD_ct, zD_ct, z1]
  · rw [zD_pt, zD_pt, z1, z2]
    cases zFd t 1600 (t 11 (s / 2)) l with
    | none => rfl
    | some k =>
      show some (zSg2 t (2 * (t 17 k).toNatClampNeg + (1 - s % 2))) = some (zflp (zSg2 t (2 * (t 17 k).toNatClampNeg + s % 2)))
      rw [← zSg2_fl, zflp_d _ _ (by omega)]
theorem zD_kf {G : zTxt} {f : Nat → Nat} {N M P A T s : Nat} {t u : zS} (h : zTG G f N M P A T t u) (hv : zV N t s) : (zD t).kd (zflp s) = zFk ((zD t).kd s) := by
  obtain ⟨z1, z2, _⟩ := zflp_2 s
  rw [zD_kd, zD_kd, z1, z2]
  have all : ∀ k, k ∈ ([0, 4, 5, 6, 7, 8, 9] : List Int32) → ∀ b, b < 2 → zKf k (Int32.ofNat (1 - b)) = zFk (zKf k (Int32.ofNat b)) := by decide
  refine all _ ?_ _ (by omega)
  rcases zV_at h hv with ⟨_, q, _⟩ | ⟨_, q, _⟩ | ⟨_, q, _⟩ | ⟨_, q, _⟩
  · rw [q]; decide
  · rcases q with q | q <;> rw [q.1] <;> decide
  · rcases q with q | q <;> rw [q.1] <;> decide
  · rcases q with q | q <;> rw [q.1] <;> decide
theorem zV_bh {G : zTxt} {f : Nat → Nat} {N M P A T s : Nat} {t u : zS} (h : zTG G f N M P A T t u) (hv : zV N t s) (hk : (zD t).kd s = 4 ∨ (zD t).kd s = 5 ∨ (zD t).kd s = 6 ∨ (zD t).kd s = 7) : zV N t ((zD t).bh s) := (pl_thenOf h hv hk).1
theorem zV_in {G : zTxt} {f : Nat → Nat} {N M P A T s : Nat} {t u : zS} (h : zTG G f N M P A T t u) (hv : zV N t s) (hk : (zD t).kd s = 6 ∨ (zD t).kd s = 7) : zV N t ((zD t).inn s) := by
  have hN := h.2.2.2.1
  rw [zD_inn]
  refine zV_sg h ?_
  rcases zV_at h hv with ⟨q, _⟩ | ⟨q, _⟩ | ⟨_, _, ⟨d, d1, d2, _⟩, _⟩ | ⟨q, _⟩
  · rw [q] at hk; rcases hk with e | e <;> exact absurd e (by decide)
  · rcases q with q | q <;> rw [q] at hk <;> rcases hk with e | e <;> exact absurd e (by decide)
  · rw [d2, show (Int32.ofNat d).toNatClampNeg = d from pl_clamp (pl_ofn (by omega))]; omega
  · rcases q with q | q <;> rw [q] at hk <;> rcases hk with e | e <;> exact absurd e (by decide)
theorem zV_pt {G : zTxt} {f : Nat → Nat} {N M P A T s y : Nat} {t u : zS} {l : Int32} (h : zTG G f N M P A T t u) (hv : zV N t s) (hk : (zD t).kd s = 8 ∨ (zD t).kd s = 9) (hy : (zD t).pt s l = some y) : zV N t y := by
  obtain ⟨n, a, e, _, _, _, _, _, _, _, _, _, _, z1, z2⟩ := zV_lab h hv hk
  by_cases c : ∀ i, i < n → ¬ t 15 (e i) = l
  · rw [(z1 l).mpr c] at hy; exact absurd hy (by simp)
  · have : ∃ i, i < n ∧ t 15 (e i) = l := Classical.byContradiction fun w => c (fun i hi hl => w ⟨i, hi, hl⟩)
    obtain ⟨i, i1, i2⟩ := this
    obtain ⟨x, x1, _, x3⟩ := z2 i i1
    rw [i2, hy] at x3
    have e : y = zSg2 t (2 * x + s % 2) := Option.some.inj x3
    rw [e]
    exact zV_sg h (by omega)
theorem zV_kd {G : zTxt} {f : Nat → Nat} {N M P A T s : Nat} {t u : zS} (h : zTG G f N M P A T t u) (hv : zV N t s) : (zD t).kd s = 0 ∨ (zD t).kd s = 4 ∨ (zD t).kd s = 5 ∨ (zD t).kd s = 6 ∨ (zD t).kd s = 7 ∨ (zD t).kd s = 8 ∨ (zD t).kd s = 9 := by
  rcases zV_at h hv with ⟨q, _⟩ | ⟨q, _⟩ | ⟨q, _⟩ | ⟨q, _⟩
  · exact Or.inl q
  · rcases q with q | q
    · exact Or.inr (Or.inl q)
    · exact Or.inr (Or.inr (Or.inl q))
  · rcases q with q | q
    · exact Or.inr (Or.inr (Or.inr (Or.inl q)))
    · exact Or.inr (Or.inr (Or.inr (Or.inr (Or.inl q))))
  · rcases q with q | q
    · exact Or.inr (Or.inr (Or.inr (Or.inr (Or.inr (Or.inl q)))))
    · exact Or.inr (Or.inr (Or.inr (Or.inr (Or.inr (Or.inr q)))))
theorem zFk_iff : ∀ k, k ∈ ([0, 4, 5, 6, 7, 8, 9] : List Int32) → (zFk k = 0 ↔ k = 0) ∧ (zFk k = 4 ↔ k = 5) ∧ (zFk k = 5 ↔ k = 4) ∧ (zFk k = 6 ↔ k = 7) ∧ (zFk k = 7 ↔ k = 6) ∧ (zFk k = 8 ↔ k = 9) ∧ (zFk k = 9 ↔ k = 8) := by decide
theorem zV_fk {G : zTxt} {f : Nat → Nat} {N M P A T s : Nat} {t u : zS} (h : zTG G f N M P A T t u) (hv : zV N t s) : ((zD t).kd (zflp s) = 0 ↔ (zD t).kd s = 0) ∧ ((zD t).kd (zflp s) = 4 ↔ (zD t).kd s = 5) ∧ ((zD t).kd (zflp s) = 5 ↔ (zD t).kd s = 4) ∧ ((zD t).kd (zflp s) = 6 ↔ (zD t).kd s = 7) ∧ ((zD t).kd (zflp s) = 7 ↔ (zD t).kd s = 6) ∧ ((zD t).kd (zflp s) = 8 ↔ (zD t).kd s = 9) ∧ ((zD t).kd (zflp s) = 9 ↔ (zD t).kd s = 8) := by
  rw [zD_kf h hv]
  refine zFk_iff _ ?_
  rcases zV_kd h hv with q | q | q | q | q | q | q <;> rw [q] <;> decide
/-- EQUAL ends have EQUAL other ends -/
theorem zEq_fl {G : zTxt} {f : Nat → Nat} {N M P A T : Nat} {t u : zS} (h : zTG G f N M P A T t u) : ∀ (n x y : Nat), zV N t x → zV N t y → zEq (zD t) x y → zEqn (zD t) n (zflp x) (zflp y) := by
  intro n
  induction n with
  | zero => intro x y _ _ _; trivial
  | succ n ih =>
    intro x y hx hy he
    obtain ⟨s1, s2, s3, s4⟩ := zEq_sm he
    obtain ⟨x1, x2, x3, x4⟩ := zD_fl t x
    obtain ⟨y1, y2, y3, y4⟩ := zD_fl t y
    have kx := zV_fk h hx
    have ky := zV_fk h hy
    refine ⟨by rw [zD_kf h hx, zD_kf h hy, s1], fun q => ?_, fun q => ?_, fun q => ?_⟩
    · have q' : (zD t).kd x = 4 ∨ (zD t).kd x = 5 := by
        rcases q with q | q
        · exact Or.inr (kx.2.1.mp q)
        · exact Or.inl (kx.2.2.1.mp q)
      rw [x1, y1]
      exact ih _ _ (zV_bh h hx (by rcases q' with e | e; exact Or.inl e; exact Or.inr (Or.inl e))) (zV_bh h hy (by rw [← s1]; rcases q' with e | e; exact Or.inl e; exact Or.inr (Or.inl e))) (s2 q')
    · have q' : (zD t).kd x = 6 ∨ (zD t).kd x = 7 := by
        rcases q with q | q
        · exact Or.inr (kx.2.2.2.1.mp q)
        · exact Or.inl (kx.2.2.2.2.1.mp q)
      rw [x1, y1, x2, y2]
      exact ⟨(s3 q').1 n, ih _ _ (zV_bh h hx (by rcases q' with e | e; exact Or.inr (Or.inr (Or.inl e)); exact Or.inr (Or.inr (Or.inr e)))) (zV_bh h hy (by rw [← s1]; rcases q' with e | e; exact Or.inr (Or.inr (Or.inl e)); exact Or.inr (Or.inr (Or.inr e)))) (s3 q').2⟩
    · have q' : (zD t).kd x = 8 ∨ (zD t).kd x = 9 := by
        rcases q with q | q
        · exact Or.inr (kx.2.2.2.2.2.1.mp q)
        · exact Or.inl (kx.2.2.2.2.2.2.mp q)
      obtain ⟨r1, r2⟩ := s4 q'
      rw [x3, y3]
      refine ⟨r1, fun l => ?_⟩
      rw [x4, y4]
      have := r2 l
      cases ex : (zD t).pt x l with
      | none =>
        cases ey : (zD t).pt y l with
        | none => trivial
        | some b => rw [ex, ey] at this; exact this.elim
      | some a =>
        cases ey : (zD t).pt y l with
        | none => rw [ex, ey] at this; exact this.elim
        | some b =>
          rw [ex, ey] at this
          exact ih a b (zV_pt h hx q' ex) (zV_pt h hy (by rw [← s1]; exact q') ey) this
/-- two ends fit -/
def zDl (t : zS) (z z' : Nat) : Prop := zEq (zD t) (zflp z) z'
theorem zDl_sy {G : zTxt} {f : Nat → Nat} {N M P A T z z' : Nat} {t u : zS} (h : zTG G f N M P A T t u) (h1 : zV N t z) (h2 : zV N t z') (hd : zDl t z z') : zDl t z' z := by
  have := fun n => zEq_fl h n _ _ (zV_fl h1) h2 hd
  rw [(zflp_2 z).2.2] at this
  exact zEqv_eq.sy _ _ this
/-- what waits in a row is what is expected -/
def zQu (D : zCo) (B : List Nat) (Y : Nat → Nat) : Nat → (Nat → Int32) → (Nat → Int32) → (Nat → Int32) → Nat → Nat → Prop
  | 0, _, _, _, x, z => z = x
  | l + 1, mc, mr, h, x, z => (D.kd x = 5 ∧ mc 0 = mr 0 ∧ h 0 = -1 ∧ zQu D B Y l (fun j => mc (j + 1)) (fun j => mr (j + 1)) (fun j => h (j + 1)) (D.bh x) z) ∨ (D.kd x = 7 ∧ mc 0 = mr 0 ∧ (∃ e, mc 0 = Int32.ofNat e ∧ h 0 = Int32.ofNat e ∧ e < 4000 ∧ zEq D (D.inn x) (Y e)) ∧ zQu D B Y l (fun j => mc (j + 1)) (fun j => mr (j + 1)) (fun j => h (j + 1)) (D.bh x) z) ∨ (D.kd x = 9 ∧ zNm B (mc 0) (mr 0) ∧ h 0 = -1 ∧ ∃ y, D.pt x (mc 0) = some y ∧ zQu D B Y l (fun j => mc (j + 1)) (fun j => mr (j + 1)) (fun j => h (j + 1)) y z)
theorem zQu_V {G : zTxt} {f : Nat → Nat} {N M P A T : Nat} {t u : zS} {B : List Nat} {Y : Nat → Nat} (h : zTG G f N M P A T t u) : ∀ l mc mr hh x z, zV N t x → zQu (zD t) B Y l mc mr hh x z → zV N t z := by
  intro l
  induction l with
  | zero => intro mc mr hh x z hx q; have : z = x := q; rw [this]; exact hx
  | succ l ih =>
    intro mc mr hh x z hx q
    rcases q with ⟨q1, _, _, q4⟩ | ⟨q1, _, _, q4⟩ | ⟨q1, _, _, y, q4, q5⟩
    · exact ih _ _ _ _ _ (zV_bh h hx (Or.inr (Or.inl q1))) q4
    · exact ih _ _ _ _ _ (zV_bh h hx (Or.inr (Or.inr (Or.inr q1)))) q4
    · exact ih _ _ _ _ _ (zV_pt h hx (Or.inr q1) q4) q5
theorem zQu_congr {D : zCo} {B : List Nat} {Y : Nat → Nat} : ∀ l (mc mr h mc2 mr2 h2 : Nat → Int32) x z, (∀ j, j < l → mc2 j = mc j ∧ mr2 j = mr j ∧ h2 j = h j) → zQu D B Y l mc mr h x z → zQu D B Y l mc2 mr2 h2 x z := by
  intro l
  induction l with
  | zero => intro mc mr h mc2 mr2 h2 x z _ q; exact q
  | succ l ih =>
    intro mc mr h mc2 mr2 h2 x z hh q
    obtain ⟨e1, e2, e3⟩ := hh 0 (by omega)
    have hh' : ∀ j, j < l → mc2 (j + 1) = mc (j + 1) ∧ mr2 (j + 1) = mr (j + 1) ∧ h2 (j + 1) = h (j + 1) := fun j hj => hh (j + 1) (by omega)
    unfold zQu
    rw [e1, e2, e3]
    rcases q with ⟨q1, q2, q3, q4⟩ | ⟨q1, q2, q3, q4⟩ | ⟨q1, q2, q3, y, q4, q5⟩
    · exact Or.inl ⟨q1, q2, q3, ih _ _ _ _ _ _ _ _ hh' q4⟩
    · exact Or.inr (Or.inl ⟨q1, q2, q3, ih _ _ _ _ _ _ _ _ hh' q4⟩)
    · exact Or.inr (Or.inr ⟨q1, q2, q3, y, q4, ih _ _ _ _ _ _ _ _ hh' q5⟩)
/-- another end's TYPE has changed -/
theorem zQu_Y {D : zCo} {B : List Nat} {Y Y2 : Nat → Nat} : ∀ l (mc mr h : Nat → Int32) x z, (∀ j e, j < l → h j = Int32.ofNat e → e < 4000 → Y2 e = Y e) → zQu D B Y l mc mr h x z → zQu D B Y2 l mc mr h x z := by
  intro l
  induction l with
  | zero => intro mc mr h x z _ q; exact q
  | succ l ih =>
    intro mc mr h x z hh q
    have hh' : ∀ j e, j < l → h (j + 1) = Int32.ofNat e → e < 4000 → Y2 e = Y e := fun j e hj => hh (j + 1) e (by omega)
    rcases q with ⟨q1, q2, q3, q4⟩ | ⟨q1, q2, ⟨e, q5, q6, q7, q8⟩, q4⟩ | ⟨q1, q2, q3, y, q4, q5⟩
    · exact Or.inl ⟨q1, q2, q3, ih _ _ _ _ _ hh' q4⟩
    · exact Or.inr (Or.inl ⟨q1, q2, ⟨e, q5, q6, q7, by rw [hh 0 e (by omega) q6 q7]; exact q8⟩, ih _ _ _ _ _ hh' q4⟩)
    · exact Or.inr (Or.inr ⟨q1, q2, q3, y, q4, ih _ _ _ _ _ hh' q5⟩)
/-- one more waits -/
def zQ1s (D : zCo) (B : List Nat) (Y : Nat → Nat) (a b c : Int32) (z z2 : Nat) : Prop := (D.kd z = 5 ∧ a = b ∧ c = -1 ∧ z2 = D.bh z) ∨ (D.kd z = 7 ∧ a = b ∧ (∃ e, a = Int32.ofNat e ∧ c = Int32.ofNat e ∧ e < 4000 ∧ zEq D (D.inn z) (Y e)) ∧ z2 = D.bh z) ∨ (D.kd z = 9 ∧ zNm B a b ∧ c = -1 ∧ D.pt z a = some z2)
theorem zQu_add {D : zCo} {B : List Nat} {Y : Nat → Nat} : ∀ l (mc mr h : Nat → Int32) x z z2, zQu D B Y l mc mr h x z → zQ1s D B Y (mc l) (mr l) (h l) z z2 → zQu D B Y (l + 1) mc mr h x z2 := by
  intro l
  induction l with
  | zero =>
    intro mc mr h x z z2 q s
    have : z = x := q
    subst this
    rcases s with ⟨s1, s2, s3, s4⟩ | ⟨s1, s2, s3, s4⟩ | ⟨s1, s2, s3, s4⟩
    · exact Or.inl ⟨s1, s2, s3, s4⟩
    · exact Or.inr (Or.inl ⟨s1, s2, s3, s4⟩)
    · exact Or.inr (Or.inr ⟨s1, s2, s3, z2, s4, rfl⟩)
  | succ l ih =>
    intro mc mr h x z z2 q s
    rcases q with ⟨q1, q2, q3, q4⟩ | ⟨q1, q2, q3, q4⟩ | ⟨q1, q2, q3, y, q4, q5⟩
    · exact Or.inl ⟨q1, q2, q3, ih _ _ _ _ _ _ q4 s⟩
    · exact Or.inr (Or.inl ⟨q1, q2, q3, ih _ _ _ _ _ _ q4 s⟩)
    · exact Or.inr (Or.inr ⟨q1, q2, q3, y, q4, ih _ _ _ _ _ _ q5 s⟩)
