/-! the call program as a whole -/
/-- what a run leaves of the program -/
def zLv (t0 t : zS) : Prop := (∀ k, 8 ≤ k → k ≤ 115 → ¬ (k = 29 ∨ k = 31 ∨ k = 51 ∨ k = 58 ∨ k = 59 ∨ k = 60 ∨ k = 62 ∨ k = 64 ∨ k = 66 ∨ k = 85) → t k = t0 k) ∧ (∀ j, ¬ j = 12 → t 3 j = t0 3 j) ∧ t 4 = t0 4
def zLvM (S : Nat) (t0 u0 u : zS) : Prop := (∀ k, 5 ≤ k → k ≤ 39 → ¬ (k = 19 ∨ k = 20 ∨ k = 21 ∨ k = 24) → u k = u0 k) ∧ (∀ j, (j = 14 ∨ j = 19 ∨ j = 22 ∨ j = 44 ∨ j = 62) → u 0 j = u0 0 j) ∧ ∀ s, s < S → zU2 t0 u0 u s
def zMain (Q : Nat) (t u : zS) : Prop := ∃ x, x < Q ∧ t 33 17 = Int32.ofNat x ∧ u 0 62 = Int32.ofNat x ∧ t 37 x = 0
/-- a good program, as both hold it -/
def zGdP (t u : zS) : Prop := ∃ G f N M P A T Q Pa bb S F C R W V o w t0 u0 g, zGd G f N M P A T Q Pa bb S F C R W V o w t0 u0 g ∧ zMain Q t0 u0 ∧ zLv t0 t ∧ zLvM S t0 u0 u ∧ zKp N t
def zPfC (t t2 : zS) : Prop := ∀ k j, (k = 7 ∨ (k = 0 ∧ (j = 6 ∨ j = 7 ∨ j = 8)) ∨ k = 59 ∨ k = 60 ∨ k = 64) → t2 k j = t k j
def zPm2 (u u2 : zS) : Prop := ∀ k j, (k = 45 ∨ (k = 0 ∧ (j = 75 ∨ j = 76 ∨ j = 83))) → u2 k j = u k j
theorem zPfC_trans {a b c : zS} (h : zPfC a b) (h2 : zPfC b c) : zPfC a c := fun k j q => (h2 k j q).trans (h k j q)
theorem zPm2_trans {a b c : zS} (h : zPm2 a b) (h2 : zPm2 b c) : zPm2 a c := fun k j q => (h2 k j q).trans (h k j q)
theorem zPfC_R {t t2 : zS} (h : zFP zpR0 t t2) : zPfC t t2 := fun k j q => h k j (by
  unfold zpR0 zpR
  simp only [Bool.or_eq_true, beq_iff_eq, Bool.and_eq_true, decide_eq_true_eq, Bool.not_eq_true', Bool.or_eq_false_iff, beq_eq_false_iff_ne]
  omega)
theorem zPm2_M {u u2 : zS} (h : zFP zpM0 u u2) : zPm2 u u2 := fun k j q => h k j (by
  unfold zpM0
  simp only [Bool.or_eq_true, beq_iff_eq, Bool.and_eq_true, decide_eq_true_eq, Bool.not_eq_true', beq_eq_false_iff_ne]
  omega)
theorem zPfC_c {t t2 : zS} (h : zCf t t2) : zPfC t t2 := fun k j q => by rw [h.2.2 k (by omega)]
theorem zPm2_c {u u2 : zS} (h : zCm u u2) : zPm2 u u2 := fun k j q => by
  by_cases e : k = 0
  · subst e; exact h.1 j (by omega)
  · rw [h.2 k (by omega)]
/-- behind the reading: looked up, settled, checked -/
theorem zProgB {G : zTxt} {f : Nat → Nat} {N M P A T Q Pa bb S F C R W V : Nat} {o : Nat → Nat × Nat} {w : Nat → Nat} {t u : zS} (h : zLkd G f N M P A T Q Pa bb S F C R W V o w t u) (hW : zWf G.1 G.2.1 G.2.2.1 G.2.2.2) (h29 : ∀ x, x < 6000 → t 29 x = Int32.ofNat x) (h9 : t 0 9 = 0) :
    ∃ r r0 t1 t2 u2, bX7_readAll_145 t = some (r0, t1) ∧ r0 < 0 ∧ lX11_program_45 zFU 0 t1 = some (r, t2) ∧ bX12_program_304 u = some (r, u2) ∧ zPfC t t2 ∧ zPm2 u u2 ∧ u2 0 71 = u 0 71 ∧ u2 0 1 = u 0 1 ∧ ((t2 0 9 = 0 ∧ u2 0 57 = u 0 57) ∨ (t2 0 9 = 1 ∧ u2 0 57 = 1 ∧ zGdP t2 u2)) := by
  obtain ⟨l1, l2, l3, l4, l5, ⟨xm, m1, m2, m3, m4⟩, ⟨i, q, ⟨n1, n2, n3, n4, n5, n6, n7, n8, n9, n10, n11, n12, n13, n14⟩, i1, i2, i3, i4, i5⟩, l8, l9, l10⟩ := h
  have hTG : zTG G f N M P A T t u := ⟨l1, l2, l5, by omega, by omega, by omega, by omega, by omega, by omega, l8⟩
  obtain ⟨ta, a1, a2, a3⟩ := pl_settle hTG
  have trA : zTr t ta := ⟨a2 9 (by decide), a2 11 (by decide), a2 13 (by decide), a2 15 (by decide), a2 17 (by decide), a2 19 (by decide), a2 21 (by decide), a2 23 (by decide), a2 25 (by decide), by rw [a2 3 (by decide)], by rw [a2 3 (by decide)], by rw [a2 3 (by decide)]⟩
  have trM : zTrM u u := ⟨rfl, rfl, rfl, rfl, rfl, rfl, rfl, rfl, rfl, rfl, rfl, rfl⟩
  have hCx : ∀ t' : zS, (∀ k, ¬ (k = 27 ∨ k = 103) → t' k = t k) → zBg T t' → zCx G f N M P A T Q Pa bb S F C R W V o w t' u := fun t' hk hb => by
    have tr : zTr t t' := ⟨hk 9 (by decide), hk 11 (by decide), hk 13 (by decide), hk 15 (by decide), hk 17 (by decide), hk 19 (by decide), hk 21 (by decide), hk 23 (by decide), hk 25 (by decide), by rw [hk 3 (by decide)], by rw [hk 3 (by decide)], by rw [hk 3 (by decide)]⟩
    refine ⟨zTG_of hTG tr trM, hb, zKp_id (fun x hx => by rw [hk 29 (by decide)]; exact h29 x hx), zPs2_g l3 (fun k q => hk k (by omega)) (fun _ _ => rfl) (fun _ _ => rfl), ?_, by omega, by omega, by omega, by omega, by omega, by omega, by omega, by omega, by omega⟩
    unfold zCp at *
    rw [hk 87 (by decide), hk 33 (by decide), hk 93 (by decide)]
    exact l4
  have cxA := hCx ta (fun k q => a2 k (by omega)) a3
  obtain ⟨tb, b1, b2, b3⟩ := pl_settle9 (zTre_x cxA) cxA.2.2.2.1.2.2.2.2.2.2.2.2.2.1
  have fb : ∀ k, ¬ (k = 27 ∨ k = 103) → tb k = t k := fun k q => by rw [b2 k (by omega), a2 k (by omega)]
  have cxB := hCx tb fb (zBg_of a3 ⟨b2 9 (by decide), b2 11 (by decide), b2 13 (by decide), b2 15 (by decide), b2 17 (by decide), b2 19 (by decide), b2 21 (by decide), b2 23 (by decide), b2 25 (by decide), by rw [b2 3 (by decide)], by rw [b2 3 (by decide)], by rw [b2 3 (by decide)]⟩ (b2 27 (by decide)))
  obtain ⟨ub, eb⟩ : ∃ ub, ub = zu u 0 67 (-1) := ⟨_, rfl⟩
  have mb : zCm u ub := by rw [eb]; exact zCm_zu (Or.inr (Or.inr ⟨rfl, Or.inl rfl⟩))
  have cxC := zCx_of cxB (zCf_refl tb) mb cxB.2.2.1
  have fit : zFit G Q tb := zFits (N := N) (M := M) (P := P) (A := A) (T := T) hW (by omega) cxC.2.2.2.1
  have rd : bX7_readAll_145 t = some (-1, tb) := by
    unfold bX7_readAll_145
    rw [l9, if_neg (by decide), a1, pl_bd, b1, pl_bd, fb 5 (by decide), l9]
  have rf : bX12_program_304 u = lX12_program_325 zFU 0 ub := by
    unfold bX12_program_304
    rw [l10, if_pos (by decide), pl_pt, ← eb]
  have hQ : Q ≤ 300 := cxC.2.2.2.2.2.2.2.2.1
  obtain ⟨t2, u2, c1, c2, c3⟩ := zProcsC (G := G) (f := f) (o := o) (w := w) Q 0 (zFU - Q - 1) (zFU - Q - 1) tb ub (fun _ _ => 0) (by omega) cxC fit (by rw [eb, zu_same]) (fun i hi => absurd hi (Nat.not_lt_zero _)) (fun x _ hv => absurd (show (0 : Int32) = 1 from hv) (by decide))
  rw [show zFU - Q - 1 + Q + 1 = zFU by unfold zFU; omega, show Int32.ofNat 0 = 0 from rfl] at c3
  have pfb : zPfC t tb := fun k j q => by rw [fb k (by omega)]
  have pmb : zPm2 u u2 := zPm2_trans (zPm2_c mb) (zPm2_c c2)
  have pft : zPfC t t2 := zPfC_trans pfb (zPfC_c c1)
  have f0 : ∀ j, t2 0 j = t 0 j := fun j => by rw [c1.2.2 0 (by decide), fb 0 (by decide)]
  have g0 : ∀ j, ¬ (j = 65 ∨ j = 67 ∨ j = 68 ∨ j = 70) → u2 0 j = u 0 j := fun j q => by rw [c2.1 j q, mb.1 j q]
  rcases c3 with ⟨p, p1, p2, p3⟩ | ⟨g2, p1, p2, p3, p4, p5⟩
  · exact ⟨-10000 - p, -1, tb, t2, u2, rd, by decide, p2, by rw [rf, p3], pft, pmb, g0 71 (by decide), g0 1 (by decide), Or.inl ⟨by rw [f0 9]; exact h9, g0 57 (by decide)⟩⟩
  · have af2 : zAf S t2 := by
      intro s hs
      have r := c1.2.2
      rw [r 99 (by decide), r 101 (by decide), r 103 (by decide), r 87 (by decide)]
      exact b3 s hs
    obtain ⟨u3, d1, d2, d3⟩ := pl_setAfter p3.2.2.2.1 (zTre_x p3) af2 p3.2.2.2.2.2.2.2.2.2.2.2.1
    have e351 : bX12_program_351 u2 = some (Int32.ofNat Q, zu u3 0 57 1) := by
      unfold bX12_program_351
      rw [p4, if_pos (by decide), d1, pl_bd, pl_pt, zu_ne2 (by decide), d2 0 (by decide), p3.2.2.2.1.2.1]
    refine ⟨Int32.ofNat Q, -1, tb, zu t2 0 9 1, zu u3 0 57 1, rd, by decide, p1, by rw [rf, p2, e351], zPfC_trans pft (fun k j q => ?_), zPm2_trans pmb (fun k j q => ?_), ?_, ?_, Or.inr ⟨zu_same _ _ _ _, zu_same _ _ _ _, G, f, N, M, P, A, T, Q, Pa, bb, S, F, C, R, W, V, o, w, t2, u2, g2, ⟨p3, p5, af2⟩, ⟨xm, m1, ?_, ?_, ?_⟩, ⟨fun k k1 k2 k3 => zu_row (by omega), fun j hj => zu_ne1 (by decide), zu_row (by decide)⟩, ⟨fun k k1 k2 k3 => ?_, fun j hj => ?_, fun s hs => ?_⟩, ?_⟩⟩
    · by_cases e : k = 0
      · subst e; exact zu_ne2 (by omega)
      · exact zu_ne1 e
    · by_cases e : k = 0
      · subst e; rw [zu_ne2 (by omega), d2 0 (by decide)]
      · rw [zu_ne1 e, d2 k (by omega)]
    · rw [zu_ne2 (by decide), d2 0 (by decide)]; exact g0 71 (by decide)
    · rw [zu_ne2 (by decide), d2 0 (by decide)]; exact g0 1 (by decide)
    · rw [c1.2.2 33 (by decide), fb 33 (by decide)]; exact m2
    · rw [g0 62 (by decide)]; exact m3
    · rw [c1.2.2 37 (by decide), fb 37 (by decide)]; exact m4
    · rw [zu_row (by omega)]; exact d2 k (by omega)
    · rw [zu_ne2 (by omega), d2 0 (by decide)]
    · have := d3 s hs
      unfold zU2 at *
      rw [zu_row (by decide), zu_row (by decide), zu_row (by decide), zu_row (by decide)]
      exact this
    · exact zKp_of p3.2.2.1 ⟨zu_row (by decide), zu_row (by decide), zu_row (by decide), zu_row (by decide), zu_row (by decide), zu_row (by decide), zu_row (by decide), zu_row (by decide), zu_row (by decide), zu_ne1 (by decide), zu_ne1 (by decide), zu_ne1 (by decide)⟩ (zu_row (by decide))
