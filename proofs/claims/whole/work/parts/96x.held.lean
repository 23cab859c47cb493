/-! what processes hold -/
def zHld (N : Nat) (t : zS) (Y : Nat → Nat) (r h : Int32) : Prop := (r = -1 ∧ h = -1) ∨ ∃ e a, h = Int32.ofNat e ∧ e < 4000 ∧ r = Int32.ofNat a ∧ zV N t a ∧ zEq (zD t) a (Y e)
theorem zHld_rx {N : Nat} {t : zS} {Y : Nat → Nat} {r r2 h : Int32} (hN : N ≤ 3000) (hh : zHld N t Y r h) (hr : zRx (zD t) N t r r2) : zHld N t Y r2 h := by
  rcases hr with hr | hr
  · rw [← hr]; exact hh
  · rcases hh with ⟨h1, h2⟩ | ⟨e, a, h1, h2, h3, h4, h5⟩
    · rcases hr with ⟨_, b⟩ | ⟨a, b, a1, a2, a3, _⟩
      · exact Or.inl ⟨b, h2⟩
      · rw [h1] at a3
        have := a1.1
        exact absurd (show (0 : Int32) ≤ -1 by rw [a3]; exact zn_0le (by omega)) zn_m1
    · rcases hr with ⟨b, _⟩ | ⟨a', b, a1, a2, a3, a4, a5⟩
      · rw [h3] at b
        have := h4.1
        exact absurd (show (0 : Int32) ≤ -1 by rw [← b]; exact zn_0le (by omega)) zn_m1
      · rw [h3] at a3
        have l1 := h4.1
        have l2 := a1.1
        have ea := (zn_inj (by omega) (by omega)).mp a3
        subst ea
        exact Or.inr ⟨e, b, h1, h2, a4, a2, zEqv_eq.tr _ _ _ (zEqv_eq.sy _ _ a5) h5⟩
theorem zHld_Y {N : Nat} {t : zS} {Y Y2 : Nat → Nat} {r h : Int32} (hh : zHld N t Y r h) (hY : ∀ e, h = Int32.ofNat e → e < 4000 → Y2 e = Y e) : zHld N t Y2 r h := by
  rcases hh with hh | ⟨e, a, h1, h2, h3, h4, h5⟩
  · exact Or.inl hh
  · exact Or.inr ⟨e, a, h1, h2, h3, h4, by rw [hY e h1 h2]; exact h5⟩
/-- a process with slots Hp at a -/
def zTp (N n q : Nat) (t g : zS) (Y : Nat → Nat) (Hp : Nat → Int32) (a : Int32) : Prop := (a = -1 ∧ ∀ k, k < n → Hp k = -1) ∨ ∃ y, a = Int32.ofNat y ∧ zPath t q y ∧ ∀ k, k < n → zHld N t Y (g y k) (Hp k)
theorem zTp_go {N n q : Nat} {t g : zS} {Y : Nat → Nat} {Hp r : Nat → Int32} {a : Int32} (hN : N ≤ 3000) (hg : zGoA N n q t g a r) (hh : ∀ k, k < n → zHld N t Y (r k) (Hp k)) : zTp N n q t g Y Hp a := by
  rcases hg with ⟨h1, h2⟩ | ⟨y, h1, h2, h3⟩
  · refine Or.inl ⟨h1, fun k hk => ?_⟩
    rcases hh k hk with ⟨_, q⟩ | ⟨e, b, _, _, q3, q4, _⟩
    · exact q
    · rw [h2 k hk] at q3
      have := q4.1
      exact absurd (show (0 : Int32) ≤ -1 by rw [q3]; exact zn_0le (by omega)) zn_m1
  · exact Or.inr ⟨y, h1, h2, fun k hk => zHld_rx hN (hh k hk) (h3 k hk)⟩
theorem zTp_Y {N n q : Nat} {t g : zS} {Y Y2 : Nat → Nat} {Hp Hp2 : Nat → Int32} {a : Int32} (h : zTp N n q t g Y Hp a) (hH : ∀ k, k < n → Hp2 k = Hp k) (hY : ∀ k e, k < n → Hp k = Int32.ofNat e → e < 4000 → Y2 e = Y e) : zTp N n q t g Y2 Hp2 a := by
  rcases h with ⟨h1, h2⟩ | ⟨y, h1, h2, h3⟩
  · exact Or.inl ⟨h1, fun k hk => by rw [hH k hk]; exact h2 k hk⟩
  · exact Or.inr ⟨y, h1, h2, fun k hk => by rw [hH k hk]; exact zHld_Y (h3 k hk) (fun e => hY k e hk)⟩
/-- every end is held once, and is open -/
def zHH (D : zCo) (Y : Nat → Nat) (fc : Nat) (H : zS) : Prop := (∀ a b c d, H a b = H c d → 0 ≤ H a b → a = c ∧ b = d) ∧ ∀ a b, H a b = -1 ∨ ∃ e, H a b = Int32.ofNat e ∧ e < 2 * fc ∧ ¬ D.kd (Y e) = 0
theorem zHH_mv {D : zCo} {Y : Nat → Nat} {fc : Nat} {H H2 : zS} (h : zHH D Y fc H) (F : Nat → Nat → Nat × Nat) (h1 : ∀ a b, H2 a b = -1 ∨ H2 a b = H (F a b).1 (F a b).2) (h2 : ∀ a b c d, F a b = F c d → 0 ≤ H2 a b → 0 ≤ H2 c d → a = c ∧ b = d) : zHH D Y fc H2 := by
  constructor
  · intro a b c d e p
    have p2 : 0 ≤ H2 c d := by rw [← e]; exact p
    rcases h1 a b with q | q
    · rw [q] at p; exact absurd p zn_m1
    · rcases h1 c d with r | r
      · rw [r] at p2; exact absurd p2 zn_m1
      · rw [q, r] at e
        rw [q] at p
        obtain ⟨x1, x2⟩ := h.1 _ _ _ _ e p
        exact h2 a b c d (Prod.ext x1 x2) (by rw [q]; exact p) p2
  · intro a b
    rcases h1 a b with q | q
    · exact Or.inl q
    · rw [q]; exact h.2 _ _
theorem zHH_neg {D : zCo} {Y : Nat → Nat} {fc a b : Nat} {H : zS} (h : zHH D Y fc H) : zHH D Y fc (zu H a b (-1)) := by
  refine zHH_mv h (fun x y => (x, y)) (fun x y => ?_) (fun _ _ _ _ e _ _ => ⟨congrArg Prod.fst e, congrArg Prod.snd e⟩)
  by_cases e : x = a
  · subst e
    by_cases e2 : y = b
    · subst e2; exact Or.inl (zu_same _ _ _ _)
    · exact Or.inr (zu_ne2 e2)
  · exact Or.inr (zu_ne1 e)
theorem zHH_shf {D : zCo} {Y : Nat → Nat} {fc q : Nat} {H : zS} (h : zHH D Y fc H) : zHH D Y fc (zshf H q) := by
  refine zHH_mv h (fun x y => (x, if x = q then y + 1 else y)) (fun x y => Or.inr ?_) (fun a b c d e _ _ => ?_)
  · by_cases e : x = q
    · subst e; rw [zshf_e]; simp only [↓reduceIte]
    · rw [zshf_ne e]; simp only [if_neg e]
  · have e1 : a = c := congrArg Prod.fst e
    have e2 : (if a = q then b + 1 else b) = (if c = q then d + 1 else d) := congrArg Prod.snd e
    subst e1
    refine ⟨rfl, ?_⟩
    split at e2 <;> omega
/-- an end that nobody holds is put to a place -/
theorem zHH_put {D : zCo} {Y : Nat → Nat} {fc a b e : Nat} {H : zS} (h : zHH D Y fc H) (he : e < 2 * fc) (hf : fc ≤ 2000) (ho : ¬ D.kd (Y e) = 0) (hn : ∀ x y, ¬ H x y = Int32.ofNat e) : zHH D Y fc (zu H a b (Int32.ofNat e)) := by
  have cs : ∀ x y, (x = a ∧ y = b ∧ zu H a b (Int32.ofNat e) x y = Int32.ofNat e) ∨ (¬ (x = a ∧ y = b) ∧ zu H a b (Int32.ofNat e) x y = H x y) := fun x y => by
    by_cases e1 : x = a
    · subst e1
      by_cases e2 : y = b
      · subst e2; exact Or.inl ⟨rfl, rfl, zu_same _ _ _ _⟩
      · exact Or.inr ⟨fun w => e2 w.2, zu_ne2 e2⟩
    · exact Or.inr ⟨fun w => e1 w.1, zu_ne1 e1⟩
  constructor
  · intro x y c d q p
    rcases cs x y with ⟨x1, x2, x3⟩ | ⟨x1, x2⟩ <;> rcases cs c d with ⟨y1, y2, y3⟩ | ⟨y1, y2⟩
    · exact ⟨x1.trans y1.symm, x2.trans y2.symm⟩
    · rw [x3, y2] at q; exact absurd q.symm (hn c d)
    · rw [x2, y3] at q; exact absurd q (hn x y)
    · rw [x2, y2] at q
      rw [x2] at p
      exact h.1 _ _ _ _ q p
  · intro x y
    rcases cs x y with ⟨x1, x2, x3⟩ | ⟨x1, x2⟩
    · rw [x3]; exact Or.inr ⟨e, rfl, he, ho⟩
    · rw [x2]; exact h.2 x y
/-- the TYPE of an end changes -/
theorem zHH_Y {D : zCo} {Y : Nat → Nat} {fc e y : Nat} {H : zS} (h : zHH D Y fc H) (hf : fc ≤ 2000) (he : e < 2 * fc) (hy : D.kd y = 0 → ∀ a b, ¬ H a b = Int32.ofNat e) : zHH D (zfu Y e y) fc H := by
  refine ⟨h.1, fun a b => ?_⟩
  rcases h.2 a b with q | ⟨x, x1, x2, x3⟩
  · exact Or.inl q
  · refine Or.inr ⟨x, x1, x2, ?_⟩
    by_cases c : x = e
    · subst c
      rw [zfu_same]
      exact fun w => hy w a b x1
    · rw [zfu_ne c]; exact x3
theorem zHH_at {D : zCo} {Y : Nat → Nat} {fc a b c d e : Nat} {H : zS} (h : zHH D Y fc H) (h1 : H a b = Int32.ofNat e) (h2 : H c d = Int32.ofNat e) (he : e < 4000) : a = c ∧ b = d := h.1 a b c d (h1.trans h2.symm) (by rw [h1]; exact zn_0le (by omega))
theorem zHH_of {D : zCo} {Y : Nat → Nat} {fc a b e : Nat} {H : zS} (h : zHH D Y fc H) (hf : fc ≤ 2000) (h1 : H a b = Int32.ofNat e) (he : e < 4000) : e < 2 * fc ∧ ¬ D.kd (Y e) = 0 := by
  rcases h.2 a b with q | ⟨x, x1, x2, x3⟩
  · rw [h1] at q
    exact absurd (show (0 : Int32) ≤ -1 by rw [← q]; exact zn_0le (by omega)) zn_m1
  · rw [h1] at x1
    have := (zn_inj (by omega) (by omega)).mp x1
    subst this
    exact ⟨x2, x3⟩
/-- rows of messages fit the TYPES of their ends -/
def zBT (t : zS) (B : List Nat) (Y ql : Nat → Nat) (MC MR H : zS) (fc : Nat) : Prop := ∀ e, e < 2 * fc → (¬ (zD t).kd (Y e) = 0 ∨ ¬ (zD t).kd (Y (zflp e)) = 0) → ∃ z z', zQu (zD t) B Y (ql e) (MC e) (MR e) (H (10000 + e)) (Y e) z ∧ zQu (zD t) B Y (ql (zflp e)) (MC (zflp e)) (MR (zflp e)) (H (10000 + zflp e)) (Y (zflp e)) z' ∧ zDl t z z'
/-- one channel has changed -/
theorem zBT_up {G : zTxt} {f : Nat → Nat} {N M P A T : Nat} {t u : zS} {B : List Nat} {Y Y2 ql ql2 : Nat → Nat} {MC MR H MC2 MR2 H2 : zS} {fc e : Nat} (hT : zTG G f N M P A T t u) (h : zBT t B Y ql MC MR H fc) (he : e < 2 * fc) (hV : ∀ x, x < 2 * fc → zV N t (Y2 x)) (hY : ∀ x, ¬ (x = e ∨ x = zflp e) → Y2 x = Y x) (hq : ∀ x, ¬ (x = e ∨ x = zflp e) → ql2 x = ql x ∧ MC2 x = MC x ∧ MR2 x = MR x ∧ H2 (10000 + x) = H (10000 + x)) (hn : ∀ x j y, x < 2 * fc → ¬ (x = e ∨ x = zflp e) → j < ql x → H (10000 + x) j = Int32.ofNat y → y < 4000 → Y2 y = Y y) (hnew : (¬ (zD t).kd (Y2 e) = 0 ∨ ¬ (zD t).kd (Y2 (zflp e)) = 0) → ∃ z z', zQu (zD t) B Y2 (ql2 e) (MC2 e) (MR2 e) (H2 (10000 + e)) (Y2 e) z ∧ zQu (zD t) B Y2 (ql2 (zflp e)) (MC2 (zflp e)) (MR2 (zflp e)) (H2 (10000 + zflp e)) (Y2 (zflp e)) z' ∧ zDl t z z') : zBT t B Y2 ql2 MC2 MR2 H2 fc := by
  intro x hx ho
  obtain ⟨f1, f2, f3⟩ := zflp_lt he
  obtain ⟨g1, g2, g3⟩ := zflp_lt hx
  by_cases c1 : x = e
  · subst c1; exact hnew ho
  · by_cases c2 : x = zflp e
    · subst c2
      rw [f3] at ho ⊢
      obtain ⟨z, z', q1, q2, q3⟩ := hnew ho.symm
      exact ⟨z', z, q2, q1, zDl_sy hT (zQu_V hT _ _ _ _ _ _ (hV e he) q1) (zQu_V hT _ _ _ _ _ _ (hV _ f1) q2) q3⟩
    · have n1 : ¬ (x = e ∨ x = zflp e) := by omega
      have n2 : ¬ (zflp x = e ∨ zflp x = zflp e) := fun w => by
        rcases w with w | w
        · exact c2 (by rw [← g3, w])
        · exact c1 (by rw [← g3, w, f3])
      rw [hY x n1, hY _ n2] at ho ⊢
      obtain ⟨z, z', q1, q2, q3⟩ := h x hx ho
      obtain ⟨a1, a2, a3, a4⟩ := hq x n1
      obtain ⟨b1, b2, b3, b4⟩ := hq _ n2
      rw [a1, a2, a3, a4, b1, b2, b3, b4]
      exact ⟨z, z', zQu_Y _ _ _ _ _ _ (fun j y hj => hn x j y hx n1 hj) q1, zQu_Y _ _ _ _ _ _ (fun j y hj => hn _ j y g1 n2 hj) q2, q3⟩
