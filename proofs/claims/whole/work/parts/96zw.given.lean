/-! what is given away arrives -/
theorem zGrw_hit {t : zS} {b a k : Nat} {r : Nat → Int32} : ∀ i l, l < i → 0 ≤ t 45 (b + (k + l)) → zGrw t b a k i r (zJa t a l) = -1 := by
  intro i
  induction i with
  | zero => intro l hl; omega
  | succ i ih =>
    intro l hl h0
    show (if 0 ≤ t 45 (b + (k + i)) then zur (zGrw t b a k i r) (zJa t a i) (-1) else zGrw t b a k i r) (zJa t a l) = -1
    by_cases e : l = i
    · subst e; rw [if_pos h0]; unfold zur; rw [if_pos rfl]
    · split
      · unfold zur
        split
        · rfl
        · exact ih l (by omega) h0
      · exact ih l (by omega) h0
theorem zGiven {N n b a k m p : Nat} {t : zS} {Y : Nat → Nat} {H : zS} {r : Nat → Int32} {TE : Nat → Int32} (hN : N ≤ 3000) (hst : ∀ i, i < m → t 45 (b + (k + i)) = -1 ∨ ∃ x c, t 83 (a + i) = Int32.ofNat (zJa t a i) ∧ zJa t a i < 3000 ∧ zGrw t b a k i r (zJa t a i) = Int32.ofNat x ∧ zV N t x ∧ c < N ∧ t 45 (b + (k + i)) = Int32.ofNat (2 * c) ∧ zEq (zD t) x (zSg2 t (2 * c))) (hJn : ∀ i, i < m → 0 ≤ t 45 (b + (k + i)) → zJa t a i < n) (hTE : ∀ i, i < m → (0 ≤ t 45 (b + (k + i)) → TE i = H p (zJa t a i)) ∧ (¬ 0 ≤ t 45 (b + (k + i)) → TE i = -1)) (hh : ∀ k', k' < n → zHld N t Y (r k') (H p k')) :
    ∀ i, i ≤ m → (∀ k', k' < n → zHld N t Y (zGrw t b a k i r k') (zGa H p (zJa t a) TE i p k')) ∧ ∀ l, l < i → 0 ≤ t 45 (b + (k + l)) → ∃ e x c, H p (zJa t a l) = Int32.ofNat e ∧ e < 4000 ∧ zV N t x ∧ zEq (zD t) x (Y e) ∧ c < N ∧ t 45 (b + (k + l)) = Int32.ofNat (2 * c) ∧ zEq (zD t) x (zSg2 t (2 * c)) := by
  intro i
  induction i with
  | zero => intro _; exact ⟨hh, fun l hl => absurd hl (Nat.not_lt_zero _)⟩
  | succ i ih =>
    intro hi
    obtain ⟨h1, h2⟩ := ih (by omega)
    have him : i < m := by omega
    rcases hst i him with q | ⟨x, c, q1, q2, q3, q4, q5, q6, q7⟩
    · have nn : ¬ 0 ≤ t 45 (b + (k + i)) := by rw [q]; decide
      have te := (hTE i him).2 nn
      refine ⟨fun k' hk' => ?_, fun l hl h0 => ?_⟩
      · show zHld N t Y ((if 0 ≤ t 45 (b + (k + i)) then zur (zGrw t b a k i r) (zJa t a i) (-1) else zGrw t b a k i r) k') ((if 0 ≤ TE i then zu (zGa H p (zJa t a) TE i) p (zJa t a i) (-1) else zGa H p (zJa t a) TE i) p k')
        rw [if_neg nn, te, if_neg (by decide)]
        exact h1 k' hk'
      · by_cases e : l = i
        · subst e; exact absurd h0 nn
        · exact h2 l (by omega) h0
    · have pp : 0 ≤ t 45 (b + (k + i)) := by rw [q6]; exact zn_0le (by omega)
      have jn := hJn i him pp
      obtain ⟨e, y1, y2, y3⟩ : ∃ e, H p (zJa t a i) = Int32.ofNat e ∧ e < 4000 ∧ zEq (zD t) x (Y e) := by
        rcases h1 _ jn with ⟨z1, _⟩ | ⟨e, x', z1, z2, z3, z4, z5⟩
        · rw [q3] at z1
          have := q4.1
          exact absurd (show (0 : Int32) ≤ -1 by rw [← z1]; exact zn_0le (by omega)) zn_m1
        · rw [q3] at z3
          have l1 := q4.1
          have l2 := z4.1
          have := (zn_inj (by omega) (by omega)).mp z3
          subst this
          rcases zGa_or (X := H) (p := p) (J := zJa t a) (Tv := TE) i (zJa t a i) with w | w
          · rw [w] at z1; exact ⟨e, z1, z2, z5⟩
          · rw [w] at z1
            exact absurd (show (0 : Int32) ≤ -1 by rw [z1]; exact zn_0le (by omega)) zn_m1
      have te : 0 ≤ TE i := by rw [(hTE i him).1 pp, y1]; exact zn_0le (by omega)
      refine ⟨fun k' hk' => ?_, fun l hl h0 => ?_⟩
      · show zHld N t Y ((if 0 ≤ t 45 (b + (k + i)) then zur (zGrw t b a k i r) (zJa t a i) (-1) else zGrw t b a k i r) k') ((if 0 ≤ TE i then zu (zGa H p (zJa t a) TE i) p (zJa t a i) (-1) else zGa H p (zJa t a) TE i) p k')
        rw [if_pos pp, if_pos te]
        by_cases ek : k' = zJa t a i
        · rw [ek, zu_same]; unfold zur; rw [if_pos rfl]; exact Or.inl ⟨rfl, rfl⟩
        · rw [zu_ne2 ek]; unfold zur; rw [if_neg ek]; exact h1 k' hk'
      · by_cases el : l = i
        · subst el; exact ⟨e, x, c, y1, y2, q4, y3, q5, q6, q7⟩
        · exact h2 l (by omega) h0
theorem zGiv_inj {N b a k m : Nat} {t : zS} {r : Nat → Int32} (hN : N ≤ 3000) (hst : ∀ i, i < m → t 45 (b + (k + i)) = -1 ∨ ∃ x c, t 83 (a + i) = Int32.ofNat (zJa t a i) ∧ zJa t a i < 3000 ∧ zGrw t b a k i r (zJa t a i) = Int32.ofNat x ∧ zV N t x ∧ c < N ∧ t 45 (b + (k + i)) = Int32.ofNat (2 * c) ∧ zEq (zD t) x (zSg2 t (2 * c))) : ∀ i l, i < m → l < m → 0 ≤ t 45 (b + (k + i)) → 0 ≤ t 45 (b + (k + l)) → zJa t a i = zJa t a l → i = l := by
  have lt : ∀ i l, i < l → l < m → 0 ≤ t 45 (b + (k + i)) → 0 ≤ t 45 (b + (k + l)) → ¬ zJa t a i = zJa t a l := fun i l h1 h2 h3 h4 w => by
    rcases hst l h2 with q | ⟨x, c, _, _, q3, q4, _⟩
    · rw [q] at h4; exact absurd h4 (by decide)
    · have := zGrw_hit (t := t) (b := b) (a := a) (k := k) (r := r) l i h1 h3
      rw [w, q3] at this
      have l1 := q4.1
      exact absurd (show (0 : Int32) ≤ -1 by rw [← this]; exact zn_0le (by omega)) zn_m1
  intro i l hi hl h1 h2 w
  rcases Nat.lt_or_ge i l with c | c
  · exact absurd w (lt i l c hl h1 h2)
  · by_cases e : i = l
    · exact e
    · exact absurd w.symm (lt l i (by omega) hi h2 h1)
/-- all ends stay with one holder -/
theorem zHH_sp {D : zCo} {Y : Nat → Nat} {fc p r sk m : Nat} {J : Nat → Nat} {H : zS} {TE : Nat → Int32} (h : zHH D Y fc H) (hne : ¬ p = r) (hTE : ∀ i, i < m → TE i = -1 ∨ TE i = H p (J i)) (hinj : ∀ i l, i < m → l < m → 0 ≤ TE i → 0 ≤ TE l → J i = J l → i = l) : zHH D Y fc (zHn (fun r' k => if r' = r then -1 else zGa H p J TE m r' k) r sk TE m) := by
  have atr : ∀ b, zHn (fun r' k => if r' = r then -1 else zGa H p J TE m r' k) r sk TE m r b = if sk ≤ b ∧ b < sk + m then TE (b - sk) else -1 := fun b => by
    rw [zHn_at]
    show (if _ then _ else (if r = r then -1 else zGa H p J TE m r b)) = _
    rw [if_pos rfl]
  have ato : ∀ a b, ¬ a = r → zHn (fun r' k => if r' = r then -1 else zGa H p J TE m r' k) r sk TE m a b = zGa H p J TE m a b := fun a b ha => by
    rw [zHn_row ha]
    show (if a = r then -1 else zGa H p J TE m a b) = _
    rw [if_neg ha]
  refine zHH_mv h (fun a b => if a = r ∧ sk ≤ b ∧ b < sk + m then (p, J (b - sk)) else (a, b)) (fun a b => ?_) (fun a b c d e p1 p2 => ?_)
  · by_cases ha : a = r
    · subst ha
      rw [atr]
      by_cases c : sk ≤ b ∧ b < sk + m
      · rw [if_pos c]
        have e1 : (if a = a ∧ sk ≤ b ∧ b < sk + m then (p, J (b - sk)) else (a, b)) = (p, J (b - sk)) := if_pos ⟨rfl, c⟩
        show TE (b - sk) = -1 ∨ TE (b - sk) = H (if a = a ∧ sk ≤ b ∧ b < sk + m then (p, J (b - sk)) else (a, b)).1 (if a = a ∧ sk ≤ b ∧ b < sk + m then (p, J (b - sk)) else (a, b)).2
        rw [e1]
        exact hTE (b - sk) (by omega)
      · rw [if_neg c]; exact Or.inl rfl
    · rw [ato a b ha]
      simp only [if_neg (show ¬ (a = r ∧ sk ≤ b ∧ b < sk + m) from fun w => ha w.1)]
      by_cases hp : a = p
      · subst hp
        rcases zGa_or (X := H) (p := a) (J := J) (Tv := TE) m b with w | w
        · exact Or.inr w
        · exact Or.inl w
      · rw [zGa_row hp]; exact Or.inr rfl
  · have hit : ∀ b d, (sk ≤ b ∧ b < sk + m) → 0 ≤ TE (b - sk) → (p, J (b - sk)) = (c, d) ∨ (p, J (b - sk)) = (a, d) → ∀ q, q = p → ¬ 0 ≤ zGa H p J TE m q (J (b - sk)) := fun b d hb h0 _ q hq w => by
      subst hq
      rw [zGa_hit m (b - sk) (by omega) h0] at w
      exact absurd w (by decide)
    by_cases c1 : a = r ∧ sk ≤ b ∧ b < sk + m
    · have e1 : (if a = r ∧ sk ≤ b ∧ b < sk + m then (p, J (b - sk)) else (a, b)) = (p, J (b - sk)) := if_pos c1
      have pp1 : 0 ≤ TE (b - sk) := by rw [c1.1, atr, if_pos c1.2] at p1; exact p1
      by_cases c2 : c = r ∧ sk ≤ d ∧ d < sk + m
      · have e2 : (if c = r ∧ sk ≤ d ∧ d < sk + m then (p, J (d - sk)) else (c, d)) = (p, J (d - sk)) := if_pos c2
        have e' : (p, J (b - sk)) = (p, J (d - sk)) := by rw [← e1, ← e2]; exact e
        have pp2 : 0 ≤ TE (d - sk) := by rw [c2.1, atr, if_pos c2.2] at p2; exact p2
        have := hinj (b - sk) (d - sk) (by omega) (by omega) pp1 pp2 (congrArg Prod.snd e')
        exact ⟨c1.1.trans c2.1.symm, by omega⟩
      · have e2 : (if c = r ∧ sk ≤ d ∧ d < sk + m then (p, J (d - sk)) else (c, d)) = (c, d) := if_neg c2
        have e' : (p, J (b - sk)) = (c, d) := by rw [← e1, ← e2]; exact e
        have ec : p = c := congrArg Prod.fst e'
        have ed : J (b - sk) = d := congrArg Prod.snd e'
        rw [← ec, ← ed, ato p _ hne] at p2
        exact absurd p2 (hit b d c1.2 pp1 (Or.inl e') p rfl)
    · have e1 : (if a = r ∧ sk ≤ b ∧ b < sk + m then (p, J (b - sk)) else (a, b)) = (a, b) := if_neg c1
      by_cases c2 : c = r ∧ sk ≤ d ∧ d < sk + m
      · have e2 : (if c = r ∧ sk ≤ d ∧ d < sk + m then (p, J (d - sk)) else (c, d)) = (p, J (d - sk)) := if_pos c2
        have pp2 : 0 ≤ TE (d - sk) := by rw [c2.1, atr, if_pos c2.2] at p2; exact p2
        have e' : (a, b) = (p, J (d - sk)) := by rw [← e1, ← e2]; exact e
        have ec : a = p := congrArg Prod.fst e'
        have ed : b = J (d - sk) := congrArg Prod.snd e'
        rw [ec, ed, ato p _ hne, zGa_hit m (d - sk) (by omega) pp2] at p1
        exact absurd p1 (by decide)
      · have e2 : (if c = r ∧ sk ≤ d ∧ d < sk + m then (p, J (d - sk)) else (c, d)) = (c, d) := if_neg c2
        have e' : (a, b) = (c, d) := by rw [← e1, ← e2]; exact e
        exact ⟨congrArg Prod.fst e', congrArg Prod.snd e'⟩
/-- a PARAMETER and what arrives in it -/
theorem zChild {G : zTxt} {f : Nat → Nat} {N M P A T p p0 sk a m r : Nat} {t u : zS} {Y : Nat → Nat} {fc : Nat} {H X : zS} {TE : Nat → Int32} (hT : zTG G f N M P A T t u) (hf : fc ≤ 2000) (hHH : zHH (zD t) Y fc H) (hTE : ∀ i, i < m → (0 ≤ t 45 (p0 + (sk + i)) → TE i = H p (zJa t a i)) ∧ (¬ 0 ≤ t 45 (p0 + (sk + i)) → TE i = -1)) (hgv : ∀ l, l < m → 0 ≤ t 45 (p0 + (sk + l)) → ∃ e x c, H p (zJa t a l) = Int32.ofNat e ∧ e < 4000 ∧ zV N t x ∧ zEq (zD t) x (Y e) ∧ c < N ∧ t 45 (p0 + (sk + l)) = Int32.ofNat (2 * c) ∧ zEq (zD t) x (zSg2 t (2 * c))) (hX : ∀ j, X r j = -1) : ∀ k', sk ≤ k' → zHld N t Y (zRz (zD t) t p0 (sk + m) k') (zHn X r sk TE m r k') := by
  have hN := hT.2.2.2.1
  intro k' hk
  rw [zHn_at, hX]
  by_cases c : k' < sk + m
  · rw [if_pos ⟨hk, c⟩]
    have ek : p0 + k' = p0 + (sk + (k' - sk)) := by omega
    unfold zRz
    rw [ek]
    by_cases q : 0 ≤ t 45 (p0 + (sk + (k' - sk)))
    · obtain ⟨e, x, c', y1, y2, y3, y4, y5, y6, y7⟩ := hgv (k' - sk) (by omega) q
      obtain ⟨o1, o2⟩ := zHH_of hHH hf y1 y2
      rw [if_pos ⟨c, q⟩, (hTE (k' - sk) (by omega)).1 q, y1, y6, show (Int32.ofNat (2 * c')).toNatClampNeg = 2 * c' from pl_clamp (pl_ofn (by omega))]
      have ee := zEqv_eq.tr _ _ _ (zEqv_eq.sy _ _ y7) y4
      unfold zHo
      rw [if_neg (fun w => o2 ((zEq_sm ee).1.symm.trans w))]
      exact Or.inr ⟨e, _, rfl, y2, rfl, zV_sg hT (by omega), ee⟩
    · rw [if_neg (fun w => q w.2), (hTE (k' - sk) (by omega)).2 q]
      exact Or.inl ⟨rfl, rfl⟩
  · rw [if_neg (fun w => c w.2)]
    unfold zRz
    rw [if_neg (fun w => c w.1)]
    exact Or.inl ⟨rfl, rfl⟩
