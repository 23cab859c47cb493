/-! all definitions in lockstep -/
theorem zAt_end {G : zTxt} {i : Nat} {t u : zS} (h : zAt G i t u) : u 0 5 = 0 ↔ t 5 9 = 19 := by
  obtain ⟨h1, _⟩ := zAt_w h
  rcases h1 with ⟨k, k1, k2, k3, _⟩ | ⟨k1, k2, _⟩ | ⟨k1, k2, _⟩ | ⟨k1, k2⟩ | ⟨k1, k2⟩ | ⟨k1, k2, _⟩ | ⟨k1, k2, _⟩
  · rw [k3, k2]
    refine ⟨fun e => absurd e (by decide), fun e => ?_⟩
    have := (zn_inj (a := k) (b := 19) (by omega) (by omega)).mp e
    omega
  · rw [k1, k2]; decide
  · rw [k1, k2]; decide
  · rw [k1, k2]; decide
  · rw [k1, k2]; decide
  · rw [k1, k2]; decide
  · rw [k2]
    refine ⟨fun e => absurd e (by decide), fun e => ?_⟩
    rw [e] at k1
    exact absurd k1 (by decide)
/-- between two definitions -/
def zAny (G : zTxt) (i : Nat) (t u : zS) : Prop := ∃ f N M P A T Q Pa bb S F C R W V q o w, zTop G i f N M P A T Q Pa bb S F C R W V q o w t u
theorem zAny_at {G : zTxt} {i : Nat} {t u : zS} (h : zAny G i t u) : zAt G i t u := by
  obtain ⟨f, N, M, P, A, T, Q, Pa, bb, S, F, C, R, W, V, q, o, w, h⟩ := h
  exact h.1.1
def zOk (G : zTxt) (i : Nat) (t u t2 u2 : zS) : Prop := (∃ i2, i < i2 ∧ zAny G i2 t2 u2 ∧ zFP zpR t t2 ∧ zFP zpM u u2) ∨ zGE t u t2 u2
/-- one definition -/
theorem zOne {G : zTxt} {i : Nat} {t u : zS} {kc : Int32 → Int32 → zS → zR} {km : Int32 → zS → zR} {x c : Int32} (h : zAny G i t u) : ∃ t2 u2, bX7_readAll_90 kc x c t = bX7_readAll_123 kc x c t2 ∧ bX12_program_134 km 1 u = bX12_program_205 km u2 ∧ zOk G i t u t2 u2 := by
  obtain ⟨f, N, M, P, A, T, Q, Pa, bb, S, F, C, R, W, V, q, o, w, h⟩ := h
  have ha := h.1.1
  unfold bX7_readAll_90 bX12_program_134
  rw [if_neg pl_10, show mX12_isKey 1 u = some ((if t 5 9 = 0 then 1 else 0), u) from zAt_ky (k := 0) ha (by decide), pl_bd]
  by_cases q0 : t 5 9 = 0
  · rw [if_pos q0, if_pos q0, if_neg pl_10]
    obtain ⟨t2, u1, u2, a1, a2, a3, a4⟩ := zDef h q0
    rw [a1, pl_bd, a2, pl_bd, a3, pl_bd]
    refine ⟨t2, u2, rfl, rfl, ?_⟩
    rcases a4 with ⟨i2, f2, N2, M2, P2, A2, q2, b1, b2, b3⟩ | a4
    · exact Or.inl ⟨i2, b1, ⟨f2, N2, M2, P2, A2, _, _, _, _, _, _, _, _, _, _, q2, _, _, b2⟩, b3⟩
    · exact Or.inr a4
  · rw [if_neg q0, if_neg q0, if_pos rfl, show mX12_isKey 2 u = some ((if t 5 9 = 1 then 1 else 0), u) from zAt_ky (k := 1) ha (by decide), pl_bd]
    by_cases q1 : t 5 9 = 1
    · rw [if_pos q1, if_pos q1, if_neg pl_10]
      obtain ⟨t2, u1, u2, a1, a2, a3, a4, a5⟩ := zProc h q1
      rw [a1, pl_bd, a2, pl_bd, a3, pl_bd]
      rcases a5 with ⟨i2, f2, N2, M2, P2, A2, Pa2, bb2, S2, F2, C2, R2, W2, V2, q2, o2, w2, b1, b2, b3, b4, b5⟩ | a5
      · rw [if_neg (show ¬ 0 ≤ u2 0 9 by rw [b2]; decide), b3, zn_wr (by omega) (by decide)]
        exact ⟨t2, _, rfl, rfl, Or.inl ⟨i2, b1, ⟨f2, N2, M2, P2, A2, _, _, _, _, _, _, _, _, _, _, q2, _, _, b4⟩, b5⟩⟩
      · rw [if_pos (zEr_m a5.1)]
        exact ⟨t2, u2, rfl, rfl, Or.inr a5⟩
    · rw [if_neg q1, if_neg q1, if_pos rfl]
      obtain ⟨t2, u2, c1, c2, c3, c4, c5, _⟩ := zAt_no ha
      rw [c1, pl_bd, c2, pl_bd]
      exact ⟨t2, u2, rfl, rfl, Or.inr (zGE_fr c3 c4 c5 (zFP_refl _ _) (zFP_refl _ _))⟩
theorem zGE_pre {t u t1 u1 t2 u2 : zS} (h : zGE t1 u1 t2 u2) (h1 : zFP zpR t t1) (h2 : zFP zpM u u1) : zGE t u t2 u2 := ⟨h.1, zFP_trans h1 h.2.1, zFP_trans h2 h.2.2⟩
/-- the whole text is read, or something is wrong -/
def zRead (G : zTxt) (t0 u0 t2 u2 : zS) : Prop := (∃ i2, zAny G i2 t2 u2 ∧ t2 5 9 = 19 ∧ zFP zpR t0 t2 ∧ zFP zpM u0 u2) ∨ zGE t0 u0 t2 u2
theorem zAllL {G : zTxt} {t0 u0 : zS} {x : Int32} :
    ∀ (k i fc fm c : Nat) (t u : zS), 3001 ≤ k + i → zAny G i t u → c ≤ i → (c = 0 ∨ ¬ t 5 9 = 19) → zFP zpR t0 t → zFP zpM u0 u →
    ∃ t2 u2 km, lX7_readAll_63 (fc + k + 2) x (Int32.ofNat c) t = bX7_readAll_129 x t2 ∧ lX12_program_134 (fm + k + 2) 1 u = bX12_program_134 km 0 u2 ∧ zRead G t0 u0 t2 u2 := by
  intro k
  induction k with
  | zero =>
    intro i fc fm c t u hk h
    have := zAt_lt (zAny_at h)
    omega
  | succ k ih =>
    intro i fc fm c t u hk h hc h19 ht hu
    have ha := zAny_at h
    have hl := zAt_lt ha
    have hm1 := zAt_m1 ha
    have hstop : ∀ (fu : Nat) (c' : Int32) (t2 : zS), (0 ≤ t2 5 12 ∨ (t2 5 9 = 19 ∧ ¬ c' = 0)) → lX7_readAll_63 (fu + 1) x c' t2 = bX7_readAll_129 x t2 := by
      intro fu c' t2 hh
      show bX7_readAll_63 (lX7_readAll_63 fu) x c' t2 = _
      unfold bX7_readAll_63
      rcases hh with e | ⟨e1, e2⟩
      · rw [if_pos e, ite_self]
      · rw [if_neg e2, if_pos e1, ite_self, ite_self]
    by_cases hc3 : c < 3000
    · have e1 : lX7_readAll_63 (fc + (k + 1) + 2) x (Int32.ofNat c) t = bX7_readAll_90 (lX7_readAll_63 (fc + k + 2)) x (Int32.ofNat c) t := by
        show bX7_readAll_63 (lX7_readAll_63 (fc + k + 2)) x (Int32.ofNat c) t = _
        unfold bX7_readAll_63
        rw [if_neg (show ¬ (3000 : Int32) ≤ Int32.ofNat c from fun w => by have := (zn_le (a := 3000) (by decide) (by omega)).mp w; omega), if_neg (show ¬ 0 ≤ t 5 12 by rw [hm1.1]; decide)]
        rcases h19 with q | q
        · rw [if_pos (show Int32.ofNat c = 0 by rw [q]; rfl)]
        · rw [if_neg (show ¬ t 5 9 = 19 from q), ite_self]
      have e2 : lX12_program_134 (fm + (k + 1) + 2) 1 u = bX12_program_134 (lX12_program_134 (fm + k + 2)) 1 u := rfl
      obtain ⟨t2, u2, a1, a2, a3⟩ := zOne (kc := lX7_readAll_63 (fc + k + 2)) (km := lX12_program_134 (fm + k + 2)) (x := x) (c := Int32.ofNat c) h
      rw [e1, e2, a1, a2]
      unfold bX7_readAll_123 bX12_program_205 bX12_program_223 bX12_program_224
      rw [pl_let, zn_1]
      rcases a3 with ⟨i2, b1, b2, b3, b4⟩ | a3
      · have ha2 := zAny_at b2
        rw [if_neg (show ¬ 0 ≤ u2 0 9 by rw [(zAt_m1 ha2).2]; decide)]
        by_cases q9 : t2 5 9 = 19
        · rw [if_pos ((zAt_end ha2).mpr q9), hstop (fc + k + 1) _ t2 (Or.inr ⟨q9, fun e => by have := (zn_inj (a := c + 1) (b := 0) (by omega) (by omega)).mp e; omega⟩)]
          exact ⟨t2, u2, _, rfl, rfl, Or.inl ⟨i2, b2, q9, zFP_trans ht b3, zFP_trans hu b4⟩⟩
        · rw [if_neg (fun e => q9 ((zAt_end ha2).mp e))]
          exact ih i2 fc fm (c + 1) t2 u2 (by omega) b2 (by omega) (Or.inr q9) (zFP_trans ht b3) (zFP_trans hu b4)
      · rw [if_pos (zEr_m a3.1), hstop (fc + k + 1) _ t2 (Or.inl (zEr_c a3.1).2)]
        exact ⟨t2, u2, _, rfl, rfl, Or.inr (zGE_pre a3 ht hu)⟩
    · exfalso
      have hi : i = 3000 := by omega
      have h0 : ¬ t 5 9 = 19 := by
        rcases h19 with q | q
        · omega
        · exact q
      have e1 := (zAt_w ha).2.2.2
      have e2 := ha.2.2.2.2.1
      have e3 := ha.1.2.1
      have e4 := ha.2.2.2.1
      exact h0 (e1.mpr (by omega))
