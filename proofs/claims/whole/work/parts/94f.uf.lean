/-! EQUAL: the class's roots -/
theorem zRc2_pos {R : Nat → Nat} {y : Nat} (hy : R y = y) : ∀ K, y < K → 1 ≤ zRc2 R K := by
  intro K
  induction K with
  | zero => intro h; omega
  | succ K ih =>
    intro h
    unfold zRc2
    by_cases e : y = K
    · subst e; rw [if_pos hy]; omega
    · have := ih (by omega); omega
/-- row 29 holds parents -/
def zAb (p R r : Nat → Nat) (t : zS) : Prop := zFo 6000 p R r ∧ ∀ x, x < 6000 → t 29 x = Int32.ofNat (p x)
theorem pl_highest {x : Nat} (hx : x < 6000) {p R r : Nat → Nat} {t : zS} (h : zAb p R r t) : ∃ t2 p2, mX2_highest (Int32.ofNat x) t = some (Int32.ofNat (R x), t2) ∧ zAb p2 R r t2 ∧ ∀ k, ¬ k = 29 → t2 k = t k := by
  have loop : ∀ (d x i fu : Nat) (t : zS) (p : Nat → Nat), x < 6000 → d + r x = 6000 → i ≤ r x → zAb p R r t → ∃ t2 p2, lX2_highest_4 (fu + d + 1) (Int32.ofNat x) (Int32.ofNat i) t = some (Int32.ofNat (R x), t2) ∧ zAb p2 R r t2 ∧ ∀ k, ¬ k = 29 → t2 k = t k := by
    intro d
    induction d using Nat.strongRecOn with
    | ind d ih =>
      intro x i fu t p hx hd hi h
      obtain ⟨hF, h29⟩ := h
      obtain ⟨a1, a2, a3, a4, a5, a6, a7⟩ := hF x hx
      have hpos := zRc2_pos (R := R) (y := R x) a4 6000 a2
      have g1 : mX5_get 28 6000 (Int32.ofNat x) t = some (Int32.ofNat (p x), t) := by rw [← h29 x hx]; exact zn_get hx (by decide)
      have g2 : mX5_get 28 6000 (Int32.ofNat (p x)) t = some (Int32.ofNat (p (p x)), t) := by rw [← h29 (p x) a1]; exact zn_get a1 (by decide)
      show ∃ t2 p2, bX2_highest_4 (lX2_highest_4 (fu + d)) _ _ t = _ ∧ _
      unfold bX2_highest_4
      rw [if_neg (show ¬ (6000 : Int32) ≤ Int32.ofNat i from fun w => by have := (zn_le (a := 6000) (by decide) (by omega)).mp w; omega), g1, pl_bd]
      by_cases c : p x = x
      · rw [if_pos (by rw [c])]
        exact ⟨t, p, by rw [a5.mp c], ⟨hF, h29⟩, fun _ _ => rfl⟩
      · rw [if_neg (fun w => c ((zn_inj (by omega) (by omega)).mp w)), g1, pl_bd, g2, pl_bd, zn_set hx (by decide), pl_bd]
        obtain ⟨b1, b2, b3, b4, b5, b6, b7⟩ := hF (p x) a1
        have s1 := a6 c
        have s2 : r (p x) ≤ r (p (p x)) := by
          by_cases c2 : p (p x) = p x
          · rw [c2]; exact Nat.le_refl _
          · exact Nat.le_of_lt (b6 c2)
        have b7' := (hF (p (p x)) b1).2.2.2.2.2.2
        have g3 : mX5_get 28 6000 (Int32.ofNat x) (zu t (28 + 1) x (Int32.ofNat (p (p x)))) = some (Int32.ofNat (p (p x)), zu t (28 + 1) x (Int32.ofNat (p (p x)))) := by
          rw [zn_get hx (by decide), zu_same]
        rw [g3, pl_bd, pl_let, zn_1]
        have hn : zAb (zup p x (p (p x))) R r (zu t (28 + 1) x (Int32.ofNat (p (p x)))) := by
          refine ⟨zFo_half hF hx, fun y hy => ?_⟩
          unfold zup
          by_cases e : y = x
          · rw [if_pos e, e]; exact zu_same _ _ _ _
          · rw [if_neg e]
            exact (zu_ne2 e).trans (h29 y hy)
        obtain ⟨t2, p2, z1, z2, z3⟩ := ih (6000 - r (p (p x))) (by omega) (p (p x)) (i + 1) (fu + d - (6000 - r (p (p x))) - 1) _ _ b1 (by omega) (by omega) hn
        rw [show fu + d - (6000 - r (p (p x))) - 1 + (6000 - r (p (p x))) + 1 = fu + d by omega] at z1
        exact ⟨t2, p2, by rw [z1, b3, a3], z2, fun k hk => (z3 k hk).trans (zu_row (by omega))⟩
  obtain ⟨a1, a2, a3, a4, a5, a6, a7⟩ := h.1 x hx
  obtain ⟨t2, p2, z1, z2, z3⟩ := loop (6000 - r x) x 0 (zFU - (6000 - r x) - 1) t p hx (by omega) (Nat.zero_le _) h
  rw [show zFU - (6000 - r x) - 1 + (6000 - r x) + 1 = zFU by unfold zFU; omega] at z1
  exact ⟨t2, p2, z1, z2, z3⟩
theorem zAb_join {a b : Nat} (ha : a < 6000) (hb : b < 6000) {p R r : Nat → Nat} {t : zS} (h : zAb p R r t) (ra : R a = a) (rb : R b = b) (hab : ¬ a = b) : zAb (zup p a b) (zRj R a b) (zup r b (6000 + 1 - zRc2 R 6000)) (zu t 29 a (Int32.ofNat b)) := by
  refine ⟨zFo_join h.1 ha hb ra rb hab, fun y hy => ?_⟩
  unfold zup
  by_cases e : y = a
  · rw [if_pos e, e]; exact zu_same _ _ _ _
  · rw [if_neg e, zu_ne2 e]; exact h.2 y hy
/-- pairs that wait: en says what a number stands for -/
def zWk (en : Int32 → Nat → Prop) (q : Nat → Int32) : Nat → List (Nat × Nat) → Prop
  | 0, [] => True
  | k + 1, e :: W => en (q (2 * k)) e.1 ∧ en (q (2 * k + 1)) e.2 ∧ zWk en q k W
  | _, _ => False
theorem zWk_len {en : Int32 → Nat → Prop} {q : Nat → Int32} : ∀ k W, zWk en q k W → W.length = k
  | 0, [], _ => rfl
  | k + 1, _ :: W, h => by rw [List.length_cons, zWk_len k W h.2.2]
  | 0, _ :: _, h => h.elim
  | _ + 1, [], h => h.elim
theorem zWk_congr {en : Int32 → Nat → Prop} {q q2 : Nat → Int32} : ∀ k W, zWk en q k W → (∀ j, j < 2 * k → q2 j = q j) → zWk en q2 k W
  | 0, [], _, _ => trivial
  | k + 1, e :: W, h, hq => ⟨by rw [hq _ (by omega)]; exact h.1, by rw [hq _ (by omega)]; exact h.2.1, zWk_congr k W h.2.2 (fun j hj => hq j (by omega))⟩
  | 0, _ :: _, h, _ => h.elim
  | _ + 1, [], h, _ => h.elim
theorem zWk_push {en : Int32 → Nat → Prop} {q q2 : Nat → Int32} {k a b : Nat} {W : List (Nat × Nat)} (h : zWk en q k W) (hq : ∀ j, j < 2 * k → q2 j = q j) (ha : en (q2 (2 * k)) a) (hb : en (q2 (2 * k + 1)) b) : zWk en q2 (k + 1) ((a, b) :: W) := ⟨ha, hb, zWk_congr k W h hq⟩
/-- a state that waits on the class's side -/
def zQc (N : Nat) (t : zS) (x : Int32) (s : Nat) : Prop := ∃ y, y / 2 < N ∧ x = Int32.ofNat y ∧ zSg2 t y = s
theorem pl_pairUp {N k a b : Nat} {W : List (Nat × Nat)} {x y : Int32} {t : zS} (h12 : t 3 12 = Int32.ofNat k) (hk : k ≤ 6001) (hW : zWk (zQc N t) (t 31) k W) (ha : zQc N t x a) (hb : zQc N t y b) : ∃ t2, mX2_pairUp x y t = some (0, t2) ∧ t2 3 12 = Int32.ofNat (k + 1) ∧ zWk (zQc N t) (t2 31) (k + 1) ((a, b) :: W) ∧ (∀ j, ¬ j = 12 → t2 3 j = t 3 j) ∧ ∀ j, ¬ (j = 3 ∨ j = 31) → t2 j = t j := by
  unfold mX2_pairUp
  have e2 : 2 * Int32.ofNat k + 1 = Int32.ofNat (2 * k + 1) := by rw [zn_dbl0, zn_1]
  have h12' : zu t (30 + 1) (2 * k) x 3 12 = Int32.ofNat k := by rw [zu_ne1 (by decide)]; exact h12
  have h12'' : zu (zu t (30 + 1) (2 * k) x) (30 + 1) (2 * k + 1) y 3 12 = Int32.ofNat k := by rw [zu_ne1 (by decide)]; exact h12'
  rw [h12, zn_dbl0, zn_set (by omega) (by decide), pl_bd, h12', e2, zn_set (by omega) (by decide), pl_bd, h12'', zn_1, pl_pt]
  refine ⟨_, rfl, zu_same _ _ _ _, ?_, fun j hj => ?_, fun j hj => ?_⟩
  · have e31 : ∀ j, zu (zu (zu t (30 + 1) (2 * k) x) (30 + 1) (2 * k + 1) y) 3 12 (Int32.ofNat (k + 1)) 31 j = zu (zu t (30 + 1) (2 * k) x) (30 + 1) (2 * k + 1) y 31 j := fun j => zu_ne1 (by decide)
    refine zWk_push hW (fun j hj => ?_) ?_ ?_
    · rw [e31, zu_ne2 (by omega), zu_ne2 (by omega)]
    · rw [e31, zu_ne2 (by omega)]
      rw [show zu t (30 + 1) (2 * k) x 31 (2 * k) = x from zu_same _ _ _ _]; exact ha
    · rw [e31, show zu (zu t (30 + 1) (2 * k) x) (30 + 1) (2 * k + 1) y 31 (2 * k + 1) = y from zu_same _ _ _ _]; exact hb
  · rw [zu_ne2 hj, zu_ne1 (by decide), zu_ne1 (by decide)]
  · rw [zu_row (by omega), zu_row (by omega), zu_row (by omega)]
theorem zQc_of {N : Nat} {t t2 : zS} (h : zTr t t2) : zQc N t2 = zQc N t := by
  funext x s
  unfold zQc
  have e : zSg2 t2 = zSg2 t := funext fun s => zSg2_of h s
  rw [e]
