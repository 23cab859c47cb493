/-! ACTS on channels: what holds then -/
theorem zAC_H {n : Nat → Nat} {m : Nat} {R pq : Nat → Nat} {fr fd : Nat} {fp : Nat → Nat} {sp ac : Nat → Int32} {num H H2 t : zS} (h : zAC n m R pq fr fd fp sp ac num H t) (hR : ∀ i, i < m → R i < 2501) (hH : ∀ p k, p < 2501 → H2 p k = H p k) : zAC n m R pq fr fd fp sp ac num H2 t := by
  obtain ⟨a1, a2, a3, a4, a5, a6, a7⟩ := h
  exact ⟨a1, a2, a3, a4, a5, a6, zMC_sub a7 (fun _ q => q) (fun _ _ => rfl) (fun p k ⟨i, i1, i2⟩ _ => ⟨rfl, hH p k (by rw [← i2]; exact hR i i1)⟩)⟩
theorem zAR_H {n : Nat → Nat} {m : Nat} {R pq : Nat → Nat} {fr fd : Nat} {fp : Nat → Nat} {sp ac : Nat → Int32} {num H H2 u : zS} (h : zAR n m R pq fr fd fp sp ac num H u) (hR : ∀ i, i < m → R i < 2501) (hH : ∀ p k, p < 2501 → H2 p k = H p k) : zAR n m R pq fr fd fp sp ac num H2 u := by
  obtain ⟨a1, a2, a3, a4, a5, a6⟩ := h
  exact ⟨a1, a2, a3, a4, a5, zMR_sub a6 (fun _ q => q) (fun _ _ => rfl) (fun p k ⟨i, i1, i2⟩ _ => ⟨rfl, hH p k (by rw [← i2]; exact hR i i1)⟩)⟩
theorem zOut1 {N fc p k e z y0 n : Nat} {t0 : zS} {Y : Nat → Nat} {r2 : Nat → Int32} {H1 : zS} (hHH : zHH (zD t0) Y fc H1) (hH : H1 p k = Int32.ofNat e) (he : e < 4000) (hr : ∀ k', k' < n → ¬ k' = k → zHld N t0 Y (r2 k') (H1 p k')) (hk : r2 k = zHo (zD t0) y0) (hv : zV N t0 y0) (hz : zEq (zD t0) y0 z) : ∀ k', k' < n → zHld N t0 (zfu Y e z) (r2 k') ((if (zD t0).kd z = 0 then zu H1 p k (-1) else H1) p k') := by
  intro k' hk'
  have ek := (zEq_sm hz).1
  by_cases c : k' = k
  · subst c
    rw [hk]
    unfold zHo
    by_cases q : (zD t0).kd z = 0
    · rw [if_pos q, if_pos (ek.trans q), zu_same]
      exact Or.inl ⟨rfl, rfl⟩
    · rw [if_neg q, if_neg (fun w => q (ek.symm.trans w)), hH]
      exact Or.inr ⟨e, y0, rfl, he, rfl, hv, by rw [zfu_same]; exact hz⟩
  · have : (if (zD t0).kd z = 0 then zu H1 p k (-1) else H1) p k' = H1 p k' := by
      split
      · exact zu_ne2 c
      · rfl
    rw [this]
    refine zHld_Y (hr k' hk' c) (fun x hx hx2 => zfu_ne (fun w => ?_))
    rw [w] at hx
    exact c (zHH_at hHH hx hH he).2
/-- a message is given -/
theorem zBT_send {G : zTxt} {f : Nat → Nat} {N M P A T : Nat} {t u : zS} {B : List Nat} {Y ql : Nat → Nat} {MC MR H H2 : zS} {fc e p k z : Nat} {v w' hh : Int32} (hT : zTG G f N M P A T t u) (h : zBT t B Y ql MC MR H fc) (hHH : zHH (zD t) Y fc H) (he : e < 2 * fc) (he4 : e < 4000) (hV : ∀ x, x < 2 * fc → zV N t (Y x)) (hz : zV N t z) (hp : p < 2501) (hH : H p k = Int32.ofNat e) (hkd : (zD t).kd (Y e) = 4 ∨ (zD t).kd (Y e) = 6 ∨ (zD t).kd (Y e) = 8)
    (hH2 : ∀ x j, ¬ (x = zflp e ∧ j = ql (zflp e)) → H2 (10000 + x) j = H (10000 + x) j) (hH2n : H2 (10000 + zflp e) (ql (zflp e)) = hh) (hstep : ∀ z', zV N t z' → zDl t (Y e) z' → ∃ z'', zQ1s (zD t) B (zfu Y e z) v w' hh z' z'' ∧ zDl t z z'') :
    zBT t B (zfu Y e z) (zfu ql (zflp e) (ql (zflp e) + 1)) (zu MC (zflp e) (ql (zflp e)) v) (zu MR (zflp e) (ql (zflp e)) w') H2 fc := by
  obtain ⟨f1, f2, f3⟩ := zflp_lt he
  have noe : ∀ x j y', H (10000 + x) j = Int32.ofNat y' → y' < 4000 → zfu Y e z y' = Y y' := fun x j y' q1 q2 => zfu_ne (fun w => by
    rw [w] at q1
    have := (zHH_at hHH q1 hH he4).1
    omega)
  refine zBT_up (e := e) hT h he (fun x hx => ?_) (fun x hx => zfu_ne (by omega)) (fun x hx => ⟨zfu_ne (by omega), zu_row (by omega), zu_row (by omega), funext fun j => hH2 x j (by omega)⟩) (fun x j y' _ _ _ q1 q2 => noe x j y' q1 q2) (fun _ => ?_)
  · by_cases c : x = e
    · subst c; rw [zfu_same]; exact hz
    · rw [zfu_ne c]; exact hV x hx
  · have ko : ¬ (zD t).kd (Y e) = 0 := fun w => by rcases hkd with q | q | q <;> rw [q] at w <;> exact absurd w (by decide)
    obtain ⟨z0, z', q1, q2, q3⟩ := h e he (Or.inl ko)
    have l0 : ql e = 0 := by
      cases hl : ql e with
      | zero => rfl
      | succ l =>
        rw [hl] at q1
        rcases q1 with ⟨q, _⟩ | ⟨q, _⟩ | ⟨q, _⟩ <;> rcases hkd with q' | q' | q' <;> rw [q'] at q <;> exact absurd q (by decide)
    rw [l0] at q1
    have e0 : z0 = Y e := q1
    rw [e0] at q3
    obtain ⟨z'', s1, s2⟩ := hstep z' (zQu_V hT _ _ _ _ _ _ (hV _ f1) q2) q3
    refine ⟨z, z'', ?_, ?_, s2⟩
    · rw [zfu_ne (fun w => f2 w.symm), l0, zfu_same]
      exact rfl
    · rw [zfu_same, zfu_ne f2]
      refine zQu_add _ _ _ _ _ z' z'' ?_ (by rw [zu_same, zu_same, hH2n]; exact s1)
      refine zQu_congr _ (MC (zflp e)) (MR (zflp e)) (H (10000 + zflp e)) _ _ _ _ _ (fun j hj => ⟨zu_ne2 (by omega), zu_ne2 (by omega), hH2 _ _ (by omega)⟩) ?_
      exact zQu_Y _ _ _ _ _ _ (fun j y' _ q1 q2 => noe (zflp e) j y' q1 q2) q2
/-- a message is taken -/
theorem zBT_recv {G : zTxt} {f : Nat → Nat} {N M P A T : Nat} {t u : zS} {B : List Nat} {Y ql : Nat → Nat} {MC MR H H2 : zS} {fc e p k z : Nat} (hT : zTG G f N M P A T t u) (h : zBT t B Y ql MC MR H fc) (hHH : zHH (zD t) Y fc H) (he : e < 2 * fc) (he4 : e < 4000) (hV : ∀ x, x < 2 * fc → zV N t (Y x)) (hz : zV N t z) (hp : p < 2501) (hH : H p k = Int32.ofNat e) (ho : ¬ (zD t).kd (Y e) = 0) (hl : ¬ ql e = 0)
    (hH2 : ∀ x j, H2 (10000 + x) j = (if x = e then H (10000 + e) (j + 1) else H (10000 + x) j)) (hstep : ∀ z0, zQu (zD t) B Y (ql e) (MC e) (MR e) (H (10000 + e)) (Y e) z0 → zQu (zD t) B Y (ql e - 1) (fun j => MC e (j + 1)) (fun j => MR e (j + 1)) (fun j => H (10000 + e) (j + 1)) z z0) :
    zBT t B (zfu Y e z) (zfu ql e (ql e - 1)) (zshf MC e) (zshf MR e) H2 fc := by
  obtain ⟨f1, f2, f3⟩ := zflp_lt he
  have noe : ∀ x j y', H (10000 + x) j = Int32.ofNat y' → y' < 4000 → zfu Y e z y' = Y y' := fun x j y' q1 q2 => zfu_ne (fun w => by
    rw [w] at q1
    have := (zHH_at hHH q1 hH he4).1
    omega)
  refine zBT_up (e := e) hT h he (fun x hx => ?_) (fun x hx => zfu_ne (by omega)) (fun x hx => ⟨zfu_ne (by omega), zshf_ne (by omega), zshf_ne (by omega), funext fun j => by rw [hH2, if_neg (by omega)]⟩) (fun x j y' _ _ _ q1 q2 => noe x j y' q1 q2) (fun _ => ?_)
  · by_cases c : x = e
    · subst c; rw [zfu_same]; exact hz
    · rw [zfu_ne c]; exact hV x hx
  · obtain ⟨z0, z', q1, q2, q3⟩ := h e he (Or.inl ho)
    have q1' := hstep z0 q1
    refine ⟨z0, z', ?_, ?_, q3⟩
    · rw [zfu_same, zfu_same]
      refine zQu_congr _ (fun j => MC e (j + 1)) (fun j => MR e (j + 1)) (fun j => H (10000 + e) (j + 1)) _ _ _ _ _ (fun j hj => ⟨zshf_e, zshf_e, by rw [hH2, if_pos rfl]⟩) ?_
      exact zQu_Y _ _ _ _ _ _ (fun j y' _ q1 q2 => noe e (j + 1) y' q1 q2) q1'
    · rw [zfu_ne f2, zfu_ne f2, zshf_ne f2, zshf_ne f2]
      refine zQu_congr _ (MC (zflp e)) (MR (zflp e)) (H (10000 + zflp e)) _ _ _ _ _ (fun j hj => ⟨rfl, rfl, by rw [hH2, if_neg f2]⟩) ?_
      exact zQu_Y _ _ _ _ _ _ (fun j y' _ q1 q2 => noe (zflp e) j y' q1 q2) q2
/-- the end that a statement speaks on -/
theorem zEndP {N n fc k a : Nat} {t0 : zS} {Y : Nat → Nat} {r : Nat → Int32} {H : zS} {p : Nat} (hN : N ≤ 3000) (hf : fc ≤ 2000) (hHH : zHH (zD t0) Y fc H) (hh : ∀ k', k' < n → zHld N t0 Y (r k') (H p k')) (hk : k < n) (hr : r k = Int32.ofNat a) (hv : zV N t0 a) : ∃ e, H p k = Int32.ofNat e ∧ e < 4000 ∧ e < 2 * fc ∧ ¬ (zD t0).kd (Y e) = 0 ∧ zEq (zD t0) a (Y e) := by
  rcases hh k hk with ⟨q1, _⟩ | ⟨e, a', q1, q2, q3, q4, q5⟩
  · rw [hr] at q1
    have := hv.1
    exact absurd (show (0 : Int32) ≤ -1 by rw [← q1]; exact zn_0le (by omega)) zn_m1
  · rw [hr] at q3
    have l1 := hv.1
    have l2 := q4.1
    have := (zn_inj (by omega) (by omega)).mp q3
    subst this
    obtain ⟨o1, o2⟩ := zHH_of hHH hf q1 q2
    exact ⟨e, q1, q2, o1, o2, q5⟩
