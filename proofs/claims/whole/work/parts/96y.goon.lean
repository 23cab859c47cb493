/-! a process goes on -/
theorem zAC_sp {n : Nat → Nat} {m p : Nat} {R pq : Nat → Nat} {fr fd : Nat} {fp : Nat → Nat} {sp ac : Nat → Int32} {num H t : zS} {v : Int32} (h : zAC n m R pq fr fd fp sp ac num H t) : zAC n m R pq fr fd fp (zfu sp p v) ac num H (zu t 129 p v) := by
  obtain ⟨a1, a2, a3, a4, a5, a6, a7⟩ := h
  refine ⟨?_, by rw [zu_ne1 (by decide)]; exact a2, by rw [zu_ne1 (by decide)]; exact a3, by rw [zu_ne1 (by decide)]; exact a4, by rw [zu_row (by decide)]; exact a5, fun i hi => ?_, zMC_of a7 ⟨zu_ne1 (by decide), zu_ne1 (by decide)⟩ (zu_row (by decide)) (zu_row (by decide)) (zu_row (by decide)) (zu_row (by decide))⟩
  · unfold zLkC at *
    rw [zu_ne1 (by decide), zu_ne1 (by decide), zu_row (by decide), zu_row (by decide)]; exact a1
  · obtain ⟨b1, b2, b3⟩ := a6 i hi
    rw [zu_ne1 (by decide), zu_ne1 (show (131 : Nat) ≠ 129 by decide)]
    refine ⟨b1, ?_, b3⟩
    by_cases e : R i = p
    · rw [e, zu_same, zfu_same]
    · rw [zu_ne2 e, zfu_ne e]; exact b2
theorem zAC_ac {n : Nat → Nat} {m p : Nat} {R pq : Nat → Nat} {fr fd : Nat} {fp : Nat → Nat} {sp ac : Nat → Int32} {num H t : zS} {v : Int32} (h : zAC n m R pq fr fd fp sp ac num H t) : zAC n m R pq fr fd fp sp (zfu ac p v) num H (zu t 131 p v) := by
  obtain ⟨a1, a2, a3, a4, a5, a6, a7⟩ := h
  refine ⟨?_, by rw [zu_ne1 (by decide)]; exact a2, by rw [zu_ne1 (by decide)]; exact a3, by rw [zu_ne1 (by decide)]; exact a4, by rw [zu_row (by decide)]; exact a5, fun i hi => ?_, zMC_of a7 ⟨zu_ne1 (by decide), zu_ne1 (by decide)⟩ (zu_row (by decide)) (zu_row (by decide)) (zu_row (by decide)) (zu_row (by decide))⟩
  · unfold zLkC at *
    rw [zu_ne1 (by decide), zu_ne1 (by decide), zu_row (by decide), zu_row (by decide)]; exact a1
  · obtain ⟨b1, b2, b3⟩ := a6 i hi
    rw [zu_ne1 (by decide), zu_ne1 (show (129 : Nat) ≠ 131 by decide)]
    refine ⟨b1, b2, ?_⟩
    by_cases e : R i = p
    · rw [e, zu_same, zfu_same]
    · rw [zu_ne2 e, zfu_ne e]; exact b3
theorem zAC_row {n : Nat → Nat} {m : Nat} {R pq : Nat → Nat} {fr fd : Nat} {fp : Nat → Nat} {sp ac : Nat → Int32} {num H num2 H2 t t2 : zS} (h : zAC n m R pq fr fd fp sp ac num H t) (hr : ∀ r, ¬ (r = 143 ∨ r = 145) → t2 r = t r) (hm : zMC (zIn m R) (fun p => n (pq p)) num2 H2 t2) : zAC n m R pq fr fd fp sp ac num2 H2 t2 := by
  obtain ⟨a1, a2, a3, a4, a5, a6, a7⟩ := h
  refine ⟨?_, by rw [hr 60 (by decide)]; exact a2, by rw [hr 60 (by decide)]; exact a3, by rw [hr 60 (by decide)]; exact a4, by rw [hr 141 (by decide)]; exact a5, ?_, hm⟩
  · unfold zLkC at *
    rw [hr 60 (by decide), hr 137 (by decide), hr 139 (by decide)]; exact a1
  · rw [hr 127 (by decide), hr 129 (by decide), hr 131 (by decide)]; exact a6
theorem zAC_ch {n : Nat → Nat} {m p k : Nat} {R pq : Nat → Nat} {fr fd : Nat} {fp : Nat → Nat} {sp ac : Nat → Int32} {num H t : zS} {v : Int32} (h : zAC n m R pq fr fd fp sp ac num H t) (hp : zIn m R p) (hp2 : p < 2501) (hk : k < n (pq p)) : ∃ t2, mX8_setChannel (Int32.ofNat p) (Int32.ofNat k) v t = some (0, t2) ∧ zAC n m R pq fr fd fp sp ac num (zu H p k v) t2 ∧ ∀ r, ¬ r = 145 → t2 r = t r := by
  obtain ⟨t2, z1, z2, z3⟩ := zCh_set (v := v) h.2.2.2.2.2.2 hp hp2 hk
  exact ⟨t2, z1, zAC_row h (fun r hr => z3 r (by omega)) z2, z3⟩
theorem zAC_nu {n : Nat → Nat} {m p k : Nat} {R pq : Nat → Nat} {fr fd : Nat} {fp : Nat → Nat} {sp ac : Nat → Int32} {num H t : zS} {v : Int32} (h : zAC n m R pq fr fd fp sp ac num H t) (hp : zIn m R p) (hp2 : p < 2501) (hk : k < n (pq p)) : ∃ t2, mX8_setNumber (Int32.ofNat p) (Int32.ofNat k) v t = some (0, t2) ∧ zAC n m R pq fr fd fp sp ac (zu num p k v) H t2 ∧ ∀ r, ¬ r = 143 → t2 r = t r := by
  obtain ⟨t2, z1, z2, z3⟩ := zNu_set (v := v) h.2.2.2.2.2.2 hp hp2 hk
  exact ⟨t2, z1, zAC_row h (fun r hr => z3 r (by omega)) z2, z3⟩
theorem zAR_row {n : Nat → Nat} {m : Nat} {R pq : Nat → Nat} {fr fd : Nat} {fp : Nat → Nat} {sp ac : Nat → Int32} {num H num2 H2 u u2 : zS} (h : zAR n m R pq fr fd fp sp ac num H u) (h0 : ∀ j, (j = 85 ∨ j = 88 ∨ j = 105) → u2 0 j = u 0 j) (hr : ∀ r, 46 ≤ r → r ≤ 50 → u2 r = u r) (hm : zMR (zIn m R) (fun p => n (pq p)) num2 H2 u2) : zAR n m R pq fr fd fp sp ac num2 H2 u2 := by
  obtain ⟨a1, a2, a3, a4, a5, a6⟩ := h
  refine ⟨by rw [h0 85 (by decide)]; exact a1, by rw [h0 105 (by decide)]; exact a2, by rw [h0 88 (by decide)]; exact a3, by rw [hr 47 (by decide) (by decide)]; exact a4, ?_, hm⟩
  rw [hr 46 (by decide) (by decide), hr 48 (by decide) (by decide), hr 49 (by decide) (by decide), hr 50 (by decide) (by decide)]; exact a5
theorem zAR_sp {n : Nat → Nat} {m p : Nat} {R pq : Nat → Nat} {fr fd : Nat} {fp : Nat → Nat} {sp ac : Nat → Int32} {num H u : zS} {v : Int32} (h : zAR n m R pq fr fd fp sp ac num H u) : zAR n m R pq fr fd fp (zfu sp p v) ac num H (zu u 49 p v) := by
  obtain ⟨a1, a2, a3, a4, a5, a6⟩ := h
  refine ⟨by rw [zu_ne1 (by decide)]; exact a1, by rw [zu_ne1 (by decide)]; exact a2, by rw [zu_ne1 (by decide)]; exact a3, by rw [zu_row (by decide)]; exact a4, fun i hi => ?_, zMR_of a6 (zu_ne1 (by decide)) (zu_row (by decide)) (zu_row (by decide)) (zu_row (by decide))⟩
  obtain ⟨b0, b1, b2, b3⟩ := a5 i hi
  rw [zu_ne1 (by decide), zu_ne1 (show (48 : Nat) ≠ 49 by decide), zu_ne1 (show (50 : Nat) ≠ 49 by decide)]
  refine ⟨b0, b1, ?_, b3⟩
  by_cases e : R i = p
  · rw [e, zu_same, zfu_same]
  · rw [zu_ne2 e, zfu_ne e]; exact b2
theorem zAR_ac {n : Nat → Nat} {m p : Nat} {R pq : Nat → Nat} {fr fd : Nat} {fp : Nat → Nat} {sp ac : Nat → Int32} {num H u : zS} {v : Int32} (h : zAR n m R pq fr fd fp sp ac num H u) : zAR n m R pq fr fd fp sp (zfu ac p v) num H (zu u 50 p v) := by
  obtain ⟨a1, a2, a3, a4, a5, a6⟩ := h
  refine ⟨by rw [zu_ne1 (by decide)]; exact a1, by rw [zu_ne1 (by decide)]; exact a2, by rw [zu_ne1 (by decide)]; exact a3, by rw [zu_row (by decide)]; exact a4, fun i hi => ?_, zMR_of a6 (zu_ne1 (by decide)) (zu_row (by decide)) (zu_row (by decide)) (zu_row (by decide))⟩
  obtain ⟨b0, b1, b2, b3⟩ := a5 i hi
  rw [zu_ne1 (by decide), zu_ne1 (show (48 : Nat) ≠ 50 by decide), zu_ne1 (show (49 : Nat) ≠ 50 by decide)]
  refine ⟨b0, b1, b2, ?_⟩
  by_cases e : R i = p
  · rw [e, zu_same, zfu_same]
  · rw [zu_ne2 e, zfu_ne e]; exact b3
/-- the reference's rows of one process, to be read and written -/
theorem zAR_at {n : Nat → Nat} {m p : Nat} {R pq : Nat → Nat} {fr fd : Nat} {fp : Nat → Nat} {sp ac : Nat → Int32} {num H u : zS} (h : zAR n m R pq fr fd fp sp ac num H u) (hp : zIn m R p) : ∃ b, u 51 p = Int32.ofNat b ∧ b + n (pq p) ≤ 24000 ∧ (∀ k, k < n (pq p) → u 52 (b + k) = num p k ∧ u 53 (b + k) = H p k) ∧ (∀ k v, k < n (pq p) → zAR n m R pq fr fd fp sp ac num (zu H p k v) (zu u 53 (b + k) v)) ∧ ∀ k v, k < n (pq p) → zAR n m R pq fr fd fp sp ac (zu num p k v) H (zu u 52 (b + k) v) := by
  obtain ⟨b, b1, b2, b3, b4, b5⟩ := zMR_at h.2.2.2.2.2 hp
  exact ⟨b, b1, b2, b3, fun k v hk => zAR_row h (fun j hj => zu_ne1 (by decide)) (fun r r1 r2 => zu_row (by omega)) (b4 k v hk), fun k v hk => zAR_row h (fun j hj => zu_ne1 (by decide)) (fun r r1 r2 => zu_row (by omega)) (b5 k v hk)⟩
theorem zBC_Y {D : zCo} {Y ql : Nat → Nat} {MC : zS} {fc fk rw e y : Nat} {fq : Nat → Nat} {t : zS} (h : zBC D Y ql MC fc fk rw fq t) (h1 : ¬ D.kd (Y e) = 0) (h2 : ¬ D.kd y = 0) : zBC D (zfu Y e y) ql MC fc fk rw fq t := by
  obtain ⟨a1, a2, a3, a4, a5, a6⟩ := h
  refine ⟨a1, a2, a3, a4, fun c hc => ?_, a6⟩
  have k : ∀ x, (D.kd (zfu Y e y x) = 0) ↔ (D.kd (Y x) = 0) := fun x => by
    by_cases q : x = e
    · subst q; rw [zfu_same]; exact ⟨fun w => absurd w h2, fun w => absurd w h1⟩
    · rw [zfu_ne q]
  rw [a5 c hc]
  unfold zOe
  simp only [k]
/-- the class goes on behind a statement of numbers -/
theorem zGoOn0 {n : Nat → Nat} {m p s : Nat} {R pq : Nat → Nat} {fr fd : Nat} {fp : Nat → Nat} {sp ac : Nat → Int32} {num H t : zS} (h : zAC n m R pq fr fd fp sp ac num H t) (hp2 : p < 2501) (hs : s < 1000) (h107 : t 107 s = 0) : mX4_goOn (Int32.ofNat p) (Int32.ofNat s) t = some (1, zu t 129 p (t 103 s)) := by
  unfold mX4_goOn bX4_goOn_31
  rw [zn_get hs (by decide), pl_bd, h107, if_neg (by decide), zn_get hs (by decide), pl_bd, zn_set hp2 (by decide), pl_bd]
/-- and behind one that speaks on a channel -/
theorem zGoOnC {D : zCo} {n : Nat → Nat} {m p s c e y y0 : Nat} {R pq : Nat → Nat} {fr fd : Nat} {fp : Nat → Nat} {sp ac : Nat → Int32} {num H : zS} {Y ql : Nat → Nat} {MC : zS} {fc fk rw : Nat} {fq : Nat → Nat} {t : zS} (h : zAC n m R pq fr fd fp sp ac num H t) (hB : zBC D Y ql MC fc fk rw fq t) (hp : zIn m R p) (hp2 : p < 2501) (hs : s < 1000) (h91 : t 91 s = Int32.ofNat c) (hc : c < n (pq p)) (hH : H p c = Int32.ofNat e) (he : e < 2 * fc) (hf : fc ≤ 1667) (hk : fk ≤ fc) (hk2 : D.kd y = 0 → D.kd (Y (zflp e)) = 0 → fk < fc) (ho : ¬ D.kd (Y e) = 0) (h107 : t 107 s = zCz D y0) (hy : D.kd y0 = 0 ↔ D.kd y = 0) :
    ∃ t2, mX4_goOn (Int32.ofNat p) (Int32.ofNat s) t = some (1, t2) ∧ zAC n m R pq fr fd fp (zfu sp p (t 103 s)) ac num (if D.kd y = 0 then zu H p c (-1) else H) t2 ∧ zBC D (zfu Y e y) ql MC fc (if D.kd y = 0 ∧ D.kd (Y (zflp e)) = 0 then fk + 1 else fk) rw (if D.kd y = 0 ∧ D.kd (Y (zflp e)) = 0 then zfu fq fk (e / 2) else fq) t2 ∧ t2 59 8 = (if D.kd y = 0 ∧ D.kd (Y (zflp e)) = 0 then t 59 8 - 1 else t 59 8) ∧ t2 7 14 = (if D.kd y = 0 ∧ D.kd (Y (zflp e)) = 0 then t 7 14 - (4 + 2 * t 59 7) else t 7 14) ∧ t2 59 9 = t 59 9 ∧ (∀ j, ¬ j = 14 → t2 7 j = t 7 j) ∧ ∀ k, ¬ (k = 7 ∨ k = 59 ∨ k = 123 ∨ k = 125 ∨ k = 129 ∨ k = 145) → t2 k = t k := by
  have g31 : ∀ t' : zS, t' 103 = t 103 → bX4_goOn_31 (Int32.ofNat p) (Int32.ofNat s) t' = some (1, zu t' 129 p (t 103 s)) := fun t' e' => by
    unfold bX4_goOn_31
    rw [zn_get hs (by decide), pl_bd, zn_set hp2 (by decide), pl_bd, e']
  unfold mX4_goOn
  rw [zn_get hs (by decide), pl_bd, h107]
  unfold zCz
  by_cases z : D.kd y = 0
  · rw [if_pos (hy.mpr z), if_pos rfl, zn_get hs (by decide), pl_bd, h91]
    obtain ⟨t1, c1, c2, c3, c4, c5⟩ := zCloC (y := y) hB he hf hk (hk2 z) ho z
    have h1 := zAC_of h (c5 60 (by decide)) (fun k k1 k2 => c5 k (by omega))
    have ch : mX8_channel (Int32.ofNat p) (Int32.ofNat c) t = some (Int32.ofNat e, t) := by rw [← hH]; exact zCh_get h.2.2.2.2.2.2 hp hp2 hc
    obtain ⟨t2, d1, d2, d3⟩ : ∃ t2, mX4_close (Int32.ofNat p) (Int32.ofNat c) t = some (0, t2) ∧ zAC n m R pq fr fd fp sp ac num (zu H p c (-1)) t2 ∧ ((t2 7 14 = if D.kd (Y (zflp e)) = 0 then t 7 14 - (4 + 2 * t 59 7) else t 7 14) ∧ (∀ j, ¬ j = 14 → t2 7 j = t 7 j) ∧ ∀ k, ¬ (k = 7 ∨ k = 145) → t2 k = t1 k) := by
      unfold mX4_close bX4_close_35 mX0_cellsOfOne
      rw [ch, pl_bd, c1, pl_bd]
      by_cases z2 : D.kd (Y (zflp e)) = 0
      · simp only [if_pos z2]
        rw [if_neg pl_10, pl_bd, pl_pt]
        have h2 := zAC_of h1 (zu_row (t := t1) (k := 7) (j := 14) (v := t1 7 14 - (4 + 2 * t1 59 7)) (show (60 : Nat) ≠ 7 by decide)) (fun k k1 k2 => zu_row (by omega))
        obtain ⟨t2, d1, d2, d3⟩ := zAC_ch (v := -1) h2 hp hp2 hc
        rw [d1, pl_bd]
        refine ⟨t2, rfl, d2, ?_, fun j hj => ?_, fun k hk => ?_⟩
        · rw [d3 7 (by decide), zu_same, c5 7 (by decide), c4 7 (by decide)]
        · rw [d3 7 (by decide), zu_ne2 hj, c5 7 (by decide)]
        · rw [d3 k (by omega), zu_row (by omega)]
      · simp only [if_neg z2]
        rw [if_pos trivial]
        obtain ⟨t2, d1, d2, d3⟩ := zAC_ch (v := -1) h1 hp hp2 hc
        rw [d1, pl_bd]
        exact ⟨t2, rfl, d2, by rw [d3 7 (by decide), c5 7 (by decide)], fun j hj => by rw [d3 7 (by decide), c5 7 (by decide)], fun k hk => d3 k (by omega)⟩
    rw [d1, pl_bd, g31 t2 (by rw [d3.2.2 103 (by decide), c5 103 (by decide)])]
    have en : (D.kd y = 0 ∧ D.kd (Y (zflp e)) = 0) ↔ D.kd (Y (zflp e)) = 0 := ⟨fun w => w.2, fun w => ⟨z, w⟩⟩
    simp only [if_pos z, en]
    refine ⟨_, rfl, zAC_sp d2, zBC_of (zBC_of c2 (fun j hj => by rw [d3.2.2 59 (by decide)]) (fun k k1 k2 => d3.2.2 k (by omega))) (fun j hj => zu_ne1 (by decide)) (fun k k1 k2 => zu_row (by omega)), ?_, ?_, ?_, fun j hj => ?_, fun k hk => ?_⟩
    · rw [zu_ne1 (by decide), d3.2.2 59 (by decide)]; exact c3
    · rw [zu_ne1 (by decide)]; exact d3.1
    · rw [zu_ne1 (by decide), d3.2.2 59 (by decide)]; exact c4 9 (by decide)
    · rw [zu_ne1 (by decide)]; exact d3.2.1 j hj
    · rw [zu_row (by omega), d3.2.2 k (by omega)]; exact c5 k (by omega)
  · rw [if_neg (fun w => z (hy.mp w)), if_neg (by decide), g31 t rfl]
    have nn : ¬ (D.kd y = 0 ∧ D.kd (Y (zflp e)) = 0) := fun w => z w.1
    simp only [if_neg z, if_neg nn]
    exact ⟨_, rfl, zAC_sp h, zBC_of (zBC_Y hB ho z) (fun j hj => zu_ne1 (by decide)) (fun k k1 k2 => zu_row (by omega)), zu_ne1 (by decide), zu_ne1 (by decide), zu_ne1 (by decide), fun j hj => zu_ne1 (by decide), fun k hk => zu_row (by omega)⟩
