/-! TYPES: the loop over ! and ?, and all depths -/
theorem zHp_ext {f f2 : Nat → Nat} {N N2 c : Nat} {t u t2 u2 : zS} (h : zHp f N t u c) (hN : N ≤ N2) (hf : ∀ c, c < N → f2 c = f c) (hc : c < N) (h9 : t2 9 c = t 9 c) (h11 : t2 11 c = t 11 c) (g5 : u2 5 (f c) = u 5 (f c)) (g7 : u2 7 (f c) = u 7 (f c)) : zHp f2 N2 t2 u2 c := by
  unfold zHp at *
  rw [hf c hc, h9, h11, g5, g7]
  rcases h with h | ⟨h1, h2⟩
  · exact Or.inl h
  · exact Or.inr ⟨h1, zCh_ext h2 hf hN⟩
/-- what stands behind is bound to it -/
theorem zTB_link {G : zTxt} {S H i d : Nat} {f : Nat → Nat} {X X2 : List Nat} {N M P A q l c : Nat} {t u : zS} (h : zTB G S H i d f X N M P A q t u) (hp : zHp f N t u l) (hl : l < N) (hc : c < N) (hX : ∀ k, ¬ k ∈ X2 → k = l ∨ ¬ k ∈ X) : zTB G S H i d f X2 N M P A q (zu t 13 l (Int32.ofNat c)) (zu u 6 (f l) (Int32.ofNat (f c))) := by
  obtain ⟨a1, a2, a3, ⟨b1, b2, b3, b4, b5, b6, b7⟩, ⟨c1, c2, c3, c4⟩, a6⟩ := h
  have rc : ∀ k, ¬ k = 13 → zu t 13 l (Int32.ofNat c) k = t k := fun k hk => zu_row hk
  have rm : ∀ k, ¬ k = 6 → zu u 6 (f l) (Int32.ofNat (f c)) k = u k := fun k hk => zu_row hk
  refine ⟨zAt_of a1 (fun j _ _ => by rw [rc 5 (by omega)]) (rc 67 (by omega)) (by rw [rc 50 (by omega)]) (fun j _ _ => by rw [rm 0 (by omega)]) (rm 2 (by omega)) (rm 3 (by omega)) (rm 4 (by omega)), by rw [rc 5 (by omega)]; exact a2, by rw [rm 0 (by omega)]; exact a3, ⟨by rw [rc 3 (by omega)]; exact b1, by rw [rm 0 (by omega)]; exact b2, by rw [rc 3 (by omega)]; exact b3, by rw [rm 0 (by omega)]; exact b4, b5, b6, fun k h1 h2 => ?_⟩, ⟨by rw [rc 5 (by omega)]; exact c1, by rw [rm 0 (by omega)]; exact c2, fun k hk => ?_, ?_⟩, by rw [rm 0 (by omega)]; exact a6⟩
  · by_cases e : k = l
    · subst e
      unfold zTL
      rw [rc 9 (by omega), rc 11 (by omega), rm 5 (by omega), rm 7 (by omega), zu_same, zu_same]
      rcases hp with hp | ⟨hp, hp2⟩
      · exact Or.inr (Or.inr (Or.inl ⟨hp, c, hc, rfl, rfl⟩))
      · exact Or.inr (Or.inr (Or.inr (Or.inl ⟨hp, hp2, c, hc, rfl, rfl⟩)))
    · have hk : ¬ k ∈ X := by
        rcases hX k h2 with w | w
        · exact absurd w e
        · exact w
      have nf : ¬ f k = f l := fun w => e (b6 k l h1 hl w)
      exact zTL_ext (b7 k h1 hk) (Nat.le_refl _) (Nat.le_refl _) (Nat.le_refl _) h1 (fun _ _ => rfl) (fun _ _ => rfl) (by rw [rc 9 (by omega)]) (by rw [rc 11 (by omega)]) (zu_ne2 e) (fun k _ _ => ⟨by rw [rc 15 (by omega)], by rw [rc 17 (by omega)], by rw [rc 19 (by omega)]⟩) (by rw [rm 5 (by omega)]) (zu_ne2 nf) (by rw [rm 7 (by omega)]) (by rw [rm 8 (by omega)]) (fun a _ => ⟨by rw [rm 9 (by omega)], by rw [rm 10 (by omega)]⟩)
  · obtain ⟨p1, v, w, p2, p3, p4, p5⟩ := c3 k hk
    unfold zA1
    rw [rc 54 (by omega), rc 56 (by omega), rc 93 (by omega), rc 87 (by omega), rm 36 (by omega), rm 35 (by omega), rm 37 (by omega), rm 38 (by omega), rm 5 (by omega)]
    refine ⟨p1, v, w, p2, p3, p4, ?_⟩
    rcases p5 with ⟨r1, r2, m, r3, r4, r5, r6⟩ | r
    · refine Or.inl ⟨r1, r2, m, r3, r4, ?_, r6⟩
      rw [zu_ne2 (fun e => ?_)]
      · exact r5
      · rw [e] at r6
        rcases hp with (hp | hp) | ⟨hp | hp, _⟩ <;> rw [hp.2] at r6 <;> revert r6 <;> decide
    · exact Or.inr r
  · rw [rc 9 (by omega), rc 87 (by omega), rm 37 (by omega), rm 38 (by omega)]; exact c4
theorem zTX_link {f f0 : Nat → Nat} {N0 M0 P0 A0 H N M P A l m : Nat} {t0 u0 t u : zS} {x y : Int32} (h : zTX f0 f N0 M0 P0 A0 H N M P A t0 u0 t u) (hl : N0 ≤ l) (hm : M0 ≤ m) : zTX f0 f N0 M0 P0 A0 H N M P A t0 u0 (zu t 13 l x) (zu u 6 m y) := by
  obtain ⟨a1, a2, a3, a4, a5, a6, a7, a8, a9, a10, a11, a12⟩ := h
  refine ⟨a1, a2, a3, a4, fun c hc => ?_, a6, fun k hk => ?_, fun j hj => ?_, fun a ha => ?_, fun k hk => ?_, zFP_zu a11 rfl, zFP_zu a12 rfl⟩
  · rw [zu_ne1 (by decide), zu_ne1 (by decide), zu_ne2 (by omega)]; exact a5 c hc
  · rw [zu_ne1 (by decide), zu_ne1 (by decide), zu_ne1 (by decide)]; exact a7 k hk
  · rw [zu_ne1 (by decide), zu_ne2 (by omega), zu_ne1 (by decide), zu_ne1 (by decide)]; exact a8 j hj
  · rw [zu_ne1 (by decide), zu_ne1 (by decide)]; exact a9 a ha
  · rw [zu_ne1 (by decide)]; exact a10 k hk
theorem zT_goesOn {t : zS} {x : Int32} : ∃ r, mX2_goesOn x t = some (r, t) := by
  unfold mX2_goesOn
  obtain ⟨v, v1⟩ := pl_getA (c := 8) (n := 3000) (x := x) (t := t) (by decide)
  rw [v1, pl_bd]
  by_cases q : v < 4
  · rw [if_pos q]; exact ⟨_, rfl⟩
  · rw [if_neg q]
    by_cases q2 : 7 < v
    · rw [if_pos q2]; exact ⟨_, rfl⟩
    · rw [if_neg q2]; exact ⟨_, rfl⟩
theorem zGo {t : zS} {c : Nat} (hc : c < 3000) (hk : t 9 c = 0 ∨ t 9 c = 2 ∨ t 9 c = 3 ∨ t 9 c = 8 ∨ t 9 c = 9) : mX2_goesOn (Int32.ofNat c) t = some (0, t) := by
  unfold mX2_goesOn
  rw [zn_get hc (by decide), pl_bd]
  rcases hk with e | e | e | e | e <;> rw [show t (8 + 1) c = t 9 c from rfl, e] <;> rfl
theorem zGo1 {t : zS} {c : Nat} (hc : c < 3000) (hk : t 9 c = 4 ∨ t 9 c = 5 ∨ t 9 c = 6 ∨ t 9 c = 7) : mX2_goesOn (Int32.ofNat c) t = some (1, t) := by
  unfold mX2_goesOn
  rw [zn_get hc (by decide), pl_bd]
  rcases hk with e | e | e | e <;> rw [show t (8 + 1) c = t 9 c from rfl, e] <;> rfl
theorem zHp_k {f : Nat → Nat} {N c : Nat} {t u : zS} (h : zHp f N t u c) : t 9 c = 4 ∨ t 9 c = 5 ∨ t 9 c = 6 ∨ t 9 c = 7 := by
  rcases h with (h | h) | ⟨h | h, _⟩
  · exact Or.inl h.1
  · exact Or.inr (Or.inl h.1)
  · exact Or.inr (Or.inr (Or.inl h.1))
  · exact Or.inr (Or.inr (Or.inr h.1))
/-- the class's loop ends behind a fault -/
theorem zFE {gC : GgX7_readForm} {F : Nat} {x1 x2 x3 r : Int32} {t : zS} (h : zEc t) : ∃ rr t2, (if 0 ≤ x2 then zbd (mX2_follow x2 r t) fun _ t3 => bX7_readForm_46 gC (lX7_readForm_6 gC (F + 1)) x1 x3 r t3 else bX7_readForm_46 gC (lX7_readForm_6 gC (F + 1)) r x3 r t) = some (rr, t2) ∧ zFP zpT5 t t2 := by
  have k46 : ∀ y t3, zFP zpT5 t t3 → ∃ rr t2, bX7_readForm_46 gC (lX7_readForm_6 gC (F + 1)) y x3 r t3 = some (rr, t2) ∧ zFP zpT5 t t2 := by
    intro y t3 h3
    obtain ⟨v, v1⟩ := zT_goesOn (t := t3) (x := r)
    unfold bX7_readForm_46
    rw [v1, pl_bd]
    by_cases q : v = 0
    · rw [if_pos q]; exact ⟨_, _, rfl, h3⟩
    · rw [if_neg q, pl_let]
      show ∃ rr t2, bX7_readForm_6 gC (lX7_readForm_6 gC F) y r (x3 + 1) t3 = some (rr, t2) ∧ _
      unfold bX7_readForm_6
      by_cases q2 : 3000 ≤ x3 + 1
      · rw [if_pos q2]; exact ⟨_, _, rfl, h3⟩
      · rw [if_neg q2, if_pos (by rw [(zFP_T5 h3).2]; exact h.2)]; exact ⟨_, _, rfl, h3⟩
  by_cases q : 0 ≤ x2
  · rw [if_pos q]
    unfold mX2_follow
    obtain ⟨t3, a1, a2⟩ := pl_setF (p := zpT5) (c := 12) (n := 3000) (x := x2) (v := r) (t := t) (by decide) (fun _ => rfl)
    rw [a1, pl_bd, pl_bd]
    exact k46 x1 t3 a2
  · rw [if_neg q]
    exact k46 r t (zFP_refl _ _)
/-- and the reference's -/
theorem zFM {gM : GgX12_type} {F : Nat} {y1 y2 more rm : Int32} {u : zS} (h : 0 ≤ u 0 9) (hy : y2 = -1 ∨ ∃ m, y2 = Int32.ofNat m ∧ m < 3100) : ∃ rr u2, bX12_type_306 gM (lX12_type_6 gM (F + 1)) y1 y2 more rm u = some (rr, u2) ∧ u2 0 = u 0 ∧ zFP zpTM u u2 := by
  have k : ∀ y u3, u3 0 = u 0 → zFP zpTM u u3 → ∃ rr u2, lX12_type_6 gM (F + 1) y rm more u3 = some (rr, u2) ∧ u2 0 = u 0 ∧ zFP zpTM u u2 := by
    intro y u3 h0 h3
    show ∃ rr u2, bX12_type_6 gM (lX12_type_6 gM F) y rm more u3 = some (rr, u2) ∧ _
    unfold bX12_type_6
    by_cases q : more = 0
    · rw [if_pos q]; exact ⟨_, _, rfl, h0, h3⟩
    · rw [if_neg q, if_pos (by rw [h0]; exact h)]; exact ⟨_, _, rfl, h0, h3⟩
  have k2 : ∀ u3, u3 0 = u 0 → zFP zpTM u u3 → ∃ rr u2, bX12_type_318 gM (lX12_type_6 gM (F + 1)) y1 more rm u3 = some (rr, u2) ∧ u2 0 = u 0 ∧ zFP zpTM u u2 := by
    intro u3 h0 h3
    unfold bX12_type_318 bX12_type_328
    by_cases q : 0 ≤ y1
    · rw [if_pos q]; exact k y1 u3 h0 h3
    · rw [if_neg q]; exact k rm u3 h0 h3
  unfold bX12_type_306
  rcases hy with e | ⟨m, e, hm⟩
  · rw [e, if_pos (by decide)]; exact k2 u rfl (zFP_refl _ _)
  · rw [e, if_neg (zn_neg (by omega)), zn_wr hm (by decide)]
    exact k2 _ (zu_row (by decide)) (zFP_zu (zFP_refl _ _) rfl)
