/-! EQUAL: the reference's roots and pairs -/
def zFm2 (u u2 : zS) : Prop := (∀ j, ¬ j = 65 → u2 0 j = u 0 j) ∧ ∀ k, ¬ (k = 0 ∨ k = 40 ∨ k = 41) → u2 k = u k
theorem zFm2_refl (u : zS) : zFm2 u u := ⟨fun _ _ => rfl, fun _ _ => rfl⟩
theorem zFm2_trans {a b c : zS} (h : zFm2 a b) (h2 : zFm2 b c) : zFm2 a c := ⟨fun j hj => (h2.1 j hj).trans (h.1 j hj), fun j hj => (h2.2 j hj).trans (h.2 j hj)⟩
theorem zTrM_m {u u2 : zS} (h : zFm2 u u2) : zTrM u u2 := ⟨h.2 5 (by decide), h.2 6 (by decide), h.2 7 (by decide), h.2 8 (by decide), h.2 9 (by decide), h.2 10 (by decide), h.2 11 (by decide), h.2 12 (by decide), h.2 13 (by decide), h.1 14 (by decide), h.1 19 (by decide), h.1 22 (by decide)⟩
/-- row 40 holds parents -/
def zAm (f : Nat → Nat) (N : Nat) (t : zS) (p R r : Nat → Nat) (u : zS) : Prop := zFo 6000 p R r ∧ ∀ s, zV N t s → zV N t (p s) ∧ u 40 (zF f s) = Int32.ofNat (zF f (p s))
theorem zAm_V {f : Nat → Nat} {N : Nat} {t u : zS} {p R r : Nat → Nat} (h : zAm f N t p R r u) (hN : N ≤ 3000) : ∀ s, zV N t s → zV N t (R s) := by
  have go : ∀ (d s : Nat), d + r s = 6000 → zV N t s → zV N t (R s) := by
    intro d
    induction d using Nat.strongRecOn with
    | ind d ih =>
      intro s hd hs
      have hsl : s < 6000 := by have := hs.1; omega
      obtain ⟨a1, a2, a3, a4, a5, a6, a7⟩ := h.1 s hsl
      by_cases c : p s = s
      · rw [a5.mp c]; exact hs
      · have s1 := a6 c
        have s2 := (h.1 (p s) a1).2.2.2.2.2.2
        rw [← a3]
        exact ih (6000 - r (p s)) (by omega) (p s) (by omega) (h.2 s hs).1
  intro s hs
  have hsl : s < 6000 := by have := hs.1; omega
  have := (h.1 s hsl).2.2.2.2.2.2
  exact go (6000 - r s) s (by omega) hs
theorem pl_root {G : zTxt} {f : Nat → Nat} {N M P A T s : Nat} {t u : zS} {p R r : Nat → Nat} (hg : zTG G f N M P A T t u) (h : zAm f N t p R r u) (hs : zV N t s) : mX12_root (Int32.ofNat (zF f s)) u = some (Int32.ofNat (zF f (R s)), u) := by
  have hN := hg.2.2.2.1
  have loop : ∀ (d s fu : Nat), d + r s = 6000 → zV N t s → lX12_root_2 (fu + d + 1) (Int32.ofNat (zF f s)) u = some (Int32.ofNat (zF f (R s)), u) := by
    intro d
    induction d using Nat.strongRecOn with
    | ind d ih =>
      intro s fu hd hs
      have hsl : s < 6000 := by have := hs.1; omega
      obtain ⟨a1, a2, a3, a4, a5, a6, a7⟩ := h.1 s hsl
      obtain ⟨b1, b2⟩ := h.2 s hs
      obtain ⟨l1, _, _⟩ := zF_lt hg hs.1
      obtain ⟨l2, _, _⟩ := zF_lt hg b1.1
      show bX12_root_2 (lX12_root_2 (fu + d)) _ u = _
      unfold bX12_root_2
      rw [zn_rd (by omega) (by decide), b2]
      by_cases c : p s = s
      · rw [if_pos (by rw [c]), a5.mp c]
      · rw [if_neg (fun w => c (zF_inj hg b1.1 hs.1 ((zn_inj (by omega) (by omega)).mp w))), zn_rd (by omega) (by decide), b2]
        have s1 := a6 c
        have s2 := (h.1 (p s) a1).2.2.2.2.2.2
        have := ih (6000 - r (p s)) (by omega) (p s) (fu + d - (6000 - r (p s)) - 1) (by omega) b1
        rw [show fu + d - (6000 - r (p s)) - 1 + (6000 - r (p s)) + 1 = fu + d by omega] at this
        rw [this, a3]
  have hsl : s < 6000 := by have := hs.1; omega
  have := (h.1 s hsl).2.2.2.2.2.2
  have := loop (6000 - r s) s (zFU - (6000 - r s) - 1) (by omega) hs
  rw [show zFU - (6000 - r s) - 1 + (6000 - r s) + 1 = zFU by unfold zFU; omega] at this
  exact this
theorem zAm_join {G : zTxt} {f : Nat → Nat} {N M P A T a b : Nat} {t u : zS} {p R r : Nat → Nat} (hg : zTG G f N M P A T t u) (h : zAm f N t p R r u) (ha : zV N t a) (hb : zV N t b) (ra : R a = a) (rb : R b = b) (hab : ¬ a = b) : zAm f N t (zup p a b) (zRj R a b) (zup r b (6000 + 1 - zRc2 R 6000)) (zu u 40 (zF f a) (Int32.ofNat (zF f b))) := by
  refine ⟨zFo_join h.1 (zV_lt hg ha) (zV_lt hg hb) ra rb hab, fun s hs => ?_⟩
  obtain ⟨b1, b2⟩ := h.2 s hs
  unfold zup
  by_cases e : s = a
  · rw [if_pos e, e]
    exact ⟨hb, zu_same _ _ _ _⟩
  · rw [if_neg e]
    exact ⟨b1, by rw [zu_ne2 (fun w => e (zF_inj hg hs.1 ha.1 w))]; exact b2⟩
theorem zAm_of {f : Nat → Nat} {N : Nat} {t u u2 : zS} {p R r : Nat → Nat} (h : zAm f N t p R r u) (h40 : u2 40 = u 40) : zAm f N t p R r u2 := ⟨h.1, fun s hs => by rw [h40]; exact h.2 s hs⟩
/-- a state that waits on the reference's side -/
def zQm (f : Nat → Nat) (N : Nat) (t : zS) (x : Int32) (s : Nat) : Prop := zV N t s ∧ x = Int32.ofNat (zF f s)
theorem pl_pairM {en : Int32 → Nat → Prop} {k a b : Nat} {W : List (Nat × Nat)} {x y : Int32} {u : zS} (h65 : u 0 65 = Int32.ofNat (2 * k)) (hk : k ≤ 14000) (hW : zWk en (u 41) k W) (ha : en x a) (hb : en y b) : ∃ u2, mX12_pair x y u = some (0, u2) ∧ u2 0 65 = Int32.ofNat (2 * (k + 1)) ∧ zWk en (u2 41) (k + 1) ((a, b) :: W) ∧ (∀ j, ¬ j = 65 → u2 0 j = u 0 j) ∧ ∀ j, ¬ (j = 0 ∨ j = 41) → u2 j = u j := by
  unfold mX12_pair
  have h65' : zu u 41 (2 * k) x 0 65 = Int32.ofNat (2 * k) := by rw [zu_ne1 (by decide)]; exact h65
  have h65'' : zu (zu u 41 (2 * k) x) 41 (2 * k + 1) y 0 65 = Int32.ofNat (2 * k) := by rw [zu_ne1 (by decide)]; exact h65'
  rw [h65, zn_wr (by omega) (by decide), h65', zn_1, zn_wr (by omega) (by decide), h65'', show Int32.ofNat (2 * k) + 2 = Int32.ofNat (2 * k + 2) from zn_add (2 * k) 2, pl_pt]
  refine ⟨_, rfl, zu_same _ _ _ _, ?_, fun j hj => ?_, fun j hj => ?_⟩
  · have e31 : ∀ j, zu (zu (zu u 41 (2 * k) x) 41 (2 * k + 1) y) 0 65 (Int32.ofNat (2 * k + 2)) 41 j = zu (zu u 41 (2 * k) x) 41 (2 * k + 1) y 41 j := fun j => zu_ne1 (by decide)
    refine zWk_push hW (fun j hj => ?_) ?_ ?_
    · rw [e31, zu_ne2 (by omega), zu_ne2 (by omega)]
    · rw [e31, zu_ne2 (by omega), zu_same]; exact ha
    · rw [e31, zu_same]; exact hb
  · rw [zu_ne2 hj, zu_ne1 (by decide), zu_ne1 (by decide)]
  · rw [zu_row (by omega), zu_row (by omega), zu_row (by omega)]
def zPuM (D : zCo) (f : Nat → Nat) (N : Nat) (t : zS) (a b k : Nat) (W : List (Nat × Nat)) (u2 : zS) (W2 : List (Nat × Nat)) : Prop := u2 0 65 = Int32.ofNat (2 * (k + zDc D a)) ∧ zWk (zQm f N t) (u2 41) (k + zDc D a) W2 ∧ zSm D (fun x y => (x, y) ∈ W2) a b ∧ (∀ e, e ∈ W → e ∈ W2) ∧ (∀ e, e ∈ W2 → e ∈ W ∨ (zSm D (zEq D) a b → zEq D e.1 e.2))
/-- pairs alone -/
def zFpp (u u2 : zS) : Prop := (∀ j, ¬ j = 65 → u2 0 j = u 0 j) ∧ ∀ j, ¬ (j = 0 ∨ j = 41) → u2 j = u j
theorem zFpp_refl (u : zS) : zFpp u u := ⟨fun _ _ => rfl, fun _ _ => rfl⟩
theorem zFpp_trans {a b c : zS} (h : zFpp a b) (h2 : zFpp b c) : zFpp a c := ⟨fun j hj => (h2.1 j hj).trans (h.1 j hj), fun j hj => (h2.2 j hj).trans (h.2 j hj)⟩
theorem zFpp_m {u u2 : zS} (h : zFpp u u2) : zFm2 u u2 := ⟨h.1, fun k hk => h.2 k (by omega)⟩
/-- what goes on, and what is given -/
theorem pl_goOnM {G : zTxt} {f : Nat → Nat} {N M P A T a b k : Nat} {W : List (Nat × Nat)} {t u : zS} {k44 : zS → zR} (h : zTG G f N M P A T t u) (ha : zV N t a) (hb : zV N t b) (he : (zD t).kd a = (zD t).kd b) (h8 : ¬ ((zD t).kd a = 8 ∨ (zD t).kd a = 9)) (h65 : u 0 65 = Int32.ofNat (2 * k)) (hk : k ≤ 13000) (hW : zWk (zQm f N t) (u 41) k W) : ∃ u2 W2, (if zKm ((zD t).kd a) = 0 then bX12_areEqual_308 k44 u else if zKm ((zD t).kd a) = 5 then bX12_areEqual_278 k44 (Int32.ofNat (zF f a)) (Int32.ofNat (zF f b)) u else if zKm ((zD t).kd a) = 6 then bX12_areEqual_278 k44 (Int32.ofNat (zF f a)) (Int32.ofNat (zF f b)) u else bX12_areEqual_293 k44 (Int32.ofNat (zF f a)) (Int32.ofNat (zF f b)) u) = k44 u2 ∧ zPuM (zD t) f N t a b k W u2 W2 ∧ zFpp u u2 := by
  rcases zV_at h ha with ⟨q, _⟩ | ⟨q, _⟩ | ⟨q, _⟩ | ⟨q, _⟩
  · rw [if_pos (by rw [q]; decide)]
    have ed : zDc (zD t) a = 0 := by unfold zDc; rw [q]; rfl
    refine ⟨u, W, rfl, ⟨by rw [ed]; exact h65, by rw [ed]; exact hW, ⟨he, fun w => ?_, fun w => ?_, fun w => absurd w h8⟩, fun _ w => w, fun _ w => Or.inl w⟩, zFpp_refl u⟩
    · rw [q] at w; exact absurd w (by decide)
    · rw [q] at w; exact absurd w (by decide)
  · obtain ⟨v1, v2, _⟩ := pl_thenOf h ha (by rcases q with q | q; exact Or.inl q; exact Or.inr (Or.inl q))
    obtain ⟨v1', v2', _⟩ := pl_thenOf h hb (by rw [← he]; rcases q with q | q; exact Or.inl q; exact Or.inr (Or.inl q))
    have n67 : ¬ ((zD t).kd a = 6 ∨ (zD t).kd a = 7) := by rcases q with q | q <;> rw [q] <;> decide
    rw [if_neg (by rcases q with q | q <;> rw [q] <;> decide), if_neg (by rcases q with q | q <;> rw [q] <;> decide), if_neg (by rcases q with q | q <;> rw [q] <;> decide)]
    unfold bX12_areEqual_293
    rw [v2, pl_bd, v2', pl_bd]
    obtain ⟨u2, z1, z2, z3, z4, z5⟩ := pl_pairM (en := zQm f N t) (a := (zD t).bh a) (b := (zD t).bh b) h65 (by omega) hW ⟨v1, rfl⟩ ⟨v1', rfl⟩
    rw [z1, pl_bd]
    have ed : zDc (zD t) a = 1 := by unfold zDc; rw [if_pos q]
    refine ⟨u2, _, rfl, ⟨by rw [ed]; exact z2, by rw [ed]; exact z3, ⟨he, fun w => List.mem_cons_self, fun w => absurd w n67, fun w => absurd w h8⟩, fun e w => List.mem_cons_of_mem _ w, fun e w => ?_⟩, z4, z5⟩
    rcases List.mem_cons.mp w with w | w
    · subst w
      exact Or.inr (fun s => s.2.1 q)
    · exact Or.inl w
  · obtain ⟨v1, v2, _⟩ := pl_thenOf h ha (by rcases q with q | q; exact Or.inr (Or.inr (Or.inl q)); exact Or.inr (Or.inr (Or.inr q)))
    obtain ⟨v1', v2', _⟩ := pl_thenOf h hb (by rw [← he]; rcases q with q | q; exact Or.inr (Or.inr (Or.inl q)); exact Or.inr (Or.inr (Or.inr q)))
    obtain ⟨g1, g2, _⟩ := pl_givenOf h ha q
    obtain ⟨g1', g2', _⟩ := pl_givenOf h hb (by rw [← he]; exact q)
    have e18 : (if zKm ((zD t).kd a) = 0 then bX12_areEqual_308 k44 u else if zKm ((zD t).kd a) = 5 then bX12_areEqual_278 k44 (Int32.ofNat (zF f a)) (Int32.ofNat (zF f b)) u else if zKm ((zD t).kd a) = 6 then bX12_areEqual_278 k44 (Int32.ofNat (zF f a)) (Int32.ofNat (zF f b)) u else bX12_areEqual_293 k44 (Int32.ofNat (zF f a)) (Int32.ofNat (zF f b)) u) = bX12_areEqual_278 k44 (Int32.ofNat (zF f a)) (Int32.ofNat (zF f b)) u := by
      rcases q with q | q
      · rw [if_neg (by rw [q]; decide), if_pos (by rw [q]; decide)]
      · rw [if_neg (by rw [q]; decide), if_neg (by rw [q]; decide), if_pos (by rw [q]; decide)]
    rw [e18]
    unfold bX12_areEqual_278
    rw [g2, pl_bd, g2', pl_bd]
    obtain ⟨u1, y1, y2, y3, y4, y5⟩ := pl_pairM (en := zQm f N t) (a := (zD t).inn a) (b := (zD t).inn b) h65 (by omega) hW ⟨g1, rfl⟩ ⟨g1', rfl⟩
    rw [y1, pl_bd]
    have h1 := zTG_of h (zTr_refl t) (zTrM_m (zFpp_m ⟨y4, y5⟩))
    obtain ⟨_, w2, _⟩ := pl_thenOf h1 ha (by rcases q with q | q; exact Or.inr (Or.inr (Or.inl q)); exact Or.inr (Or.inr (Or.inr q)))
    obtain ⟨_, w2', _⟩ := pl_thenOf h1 hb (by rw [← he]; rcases q with q | q; exact Or.inr (Or.inr (Or.inl q)); exact Or.inr (Or.inr (Or.inr q)))
    unfold bX12_areEqual_293
    rw [w2, pl_bd, w2', pl_bd]
    obtain ⟨u2, z1, z2, z3, z4, z5⟩ := pl_pairM (en := zQm f N t) (a := (zD t).bh a) (b := (zD t).bh b) y2 (by omega) y3 ⟨v1, rfl⟩ ⟨v1', rfl⟩
    rw [z1, pl_bd]
    have n45 : ¬ ((zD t).kd a = 4 ∨ (zD t).kd a = 5) := by rcases q with q | q <;> rw [q] <;> decide
    have ed : zDc (zD t) a = 2 := by unfold zDc; rw [if_neg n45, if_pos q]
    refine ⟨u2, _, rfl, ⟨by rw [ed]; exact z2, by rw [ed]; exact z3, ⟨he, fun w => absurd w n45, fun w => ⟨List.mem_cons_of_mem _ List.mem_cons_self, List.mem_cons_self⟩, fun w => absurd w h8⟩, fun e w => List.mem_cons_of_mem _ (List.mem_cons_of_mem _ w), fun e w => ?_⟩, zFpp_trans ⟨y4, y5⟩ ⟨z4, z5⟩⟩
    rcases List.mem_cons.mp w with w | w
    · subst w
      exact Or.inr (fun s => (s.2.2.1 q).2)
    · rcases List.mem_cons.mp w with w | w
      · subst w
        exact Or.inr (fun s => (s.2.2.1 q).1)
      · exact Or.inl w
  · exact absurd q h8
