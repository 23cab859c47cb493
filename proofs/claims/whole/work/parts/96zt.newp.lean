/-! a new process: the reference -/
theorem zRgM_of {n : Nat → Nat} {Q m : Nat} {R pq : Nat → Nat} {fr fd : Nat} {fp : Nat → Nat} {sp ac : Nat → Int32} {num H u : zS} (h : zAR n m R pq fr fd fp sp ac num H u) (hP : zAP Q m R pq fr fd fp) (hQ : Q ≤ 300) (hst : ∀ q, q < Q → ∃ b, u 31 q = Int32.ofNat b ∧ u 31 (q + 1) = Int32.ofNat (b + n q) ∧ b + n q ≤ 3000) : zRgM m R (fun r => n (pq r)) u := by
  obtain ⟨b1, b2, b3, b4, b5, b6⟩ := hP
  refine ⟨h.1, by omega, fun i hi => ⟨(h.2.2.2.2.1 i hi).1, by have := (b1 i hi).1; omega⟩, b2, fun i hi => ?_⟩
  obtain ⟨b, c1, c2, c3⟩ := hst _ (b1 i hi).2
  exact ⟨pq (R i), b, (h.2.2.2.2.1 i hi).2.1, by have := (b1 i hi).2; omega, c1, c2, c3⟩
theorem zNewP {n : Nat → Nat} {Q m x : Nat} {R pq : Nat → Nat} {fr fd : Nat} {fp : Nat → Nat} {sp ac : Nat → Int32} {num H u : zS} (h : zAR n m R pq fr fd fp sp ac num H u) (hP : zAP Q m R pq fr fd fp) (hf : fd = 0 → fr < 2500) (hx : x < Q) (hQ : Q ≤ 300) (hst : ∀ q, q < Q → ∃ b, u 31 q = Int32.ofNat b ∧ u 31 (q + 1) = Int32.ofNat (b + n q) ∧ b + n q ≤ 3000) (hs : zSs (fun i => n (pq (R i))) m + n x ≤ 12000) :
    ∃ u2, mX12_newProcess (Int32.ofNat x) u = some (Int32.ofNat (zNw fr fd fp), u2) ∧ zAR n (m + 1) (zfu R m (zNw fr fd fp)) (zfu pq (zNw fr fd fp) x) (if fd = 0 then fr + 1 else fr) (fd - 1) fp (zfu sp (zNw fr fd fp) (u 29 x)) (zfu ac (zNw fr fd fp) 0) (fun r k => if r = zNw fr fd fp then 0 else num r k) (fun r k => if r = zNw fr fd fp then -1 else H r k) u2 ∧ u2 0 79 = u 0 79 + 1 ∧ u2 0 80 = u 0 80 + Int32.ofNat (4 + n x) ∧ (∀ j, ¬ (j = 79 ∨ j = 80 ∨ j = 85 ∨ j = 88 ∨ j = 94 ∨ j = 105) → u2 0 j = u 0 j) ∧ ∀ k, ¬ (k = 0 ∨ (46 ≤ k ∧ k ≤ 53)) → u2 k = u k := by
  obtain ⟨n1, n2, n3⟩ := zNw_new hP hf
  have hP0 := hP
  obtain ⟨b1, b2, b3, b4, b5, b6⟩ := hP
  have h0 := h
  obtain ⟨a1, a2, a3, a4, a5, a6⟩ := h
  obtain ⟨p, ep⟩ : ∃ p, p = zNw fr fd fp := ⟨_, rfl⟩
  rw [← ep] at n1 n2 n3 ⊢
  obtain ⟨u1, c1, c2, c3, c4, c5⟩ : ∃ u1, mX12_newProcess (Int32.ofNat x) u = bX12_newProcess_37 (Int32.ofNat x) (Int32.ofNat p) u1 ∧ u1 0 105 = Int32.ofNat (if fd = 0 then fr + 1 else fr) ∧ u1 0 88 = Int32.ofNat (fd - 1) ∧ (∀ j, ¬ (j = 88 ∨ j = 105) → u1 0 j = u 0 j) ∧ ∀ k, ¬ k = 0 → u1 k = u k := by
    unfold mX12_newProcess
    rw [a3]
    by_cases z : fd = 0
    · subst z
      rw [if_pos (show Int32.ofNat 0 ≤ 0 by decide), pl_pt, a2, zn_1]
      exact ⟨_, by rw [ep]; unfold zNw; rw [if_pos rfl], by rw [zu_same, if_pos rfl], by rw [zu_ne2 (by decide)]; exact a3, fun j hj => zu_ne2 (by omega), fun k hk => zu_row hk⟩
    · rw [if_neg (show ¬ Int32.ofNat fd ≤ 0 from fun w => z (by have := (zn_le (b := 0) (by omega) (by decide)).mp w; omega)), pl_pt, show Int32.ofNat fd - 1 = Int32.ofNat (fd - 1) from zn_sub (b := 1) (by omega) (by omega), zn_rd (by omega) (by decide), zu_ne1 (show (47 : Nat) ≠ 0 by decide), a4 (fd - 1) (by omega)]
      exact ⟨_, by rw [ep]; unfold zNw; rw [if_neg z], by rw [zu_ne2 (by decide), if_neg z]; exact a2, by rw [zu_same], fun j hj => zu_ne2 (by omega), fun k hk => zu_row hk⟩
  obtain ⟨uS, eS⟩ : ∃ uS, uS = zu (zu (zu u1 48 p (Int32.ofNat x)) 49 p (u 29 x)) 50 p 0 := ⟨_, rfl⟩
  have rS : ∀ k, ¬ (k = 0 ∨ k = 48 ∨ k = 49 ∨ k = 50) → uS k = u k := fun k hk => by rw [eS, zu_row (by omega), zu_row (by omega), zu_row (by omega), c5 k (by omega)]
  have rS0 : ∀ j, ¬ (j = 88 ∨ j = 105) → uS 0 j = u 0 j := fun j hj => by rw [eS, zu_ne1 (by decide), zu_ne1 (by decide), zu_ne1 (by decide), c4 j hj]
  have e48 : ∀ q, ¬ q = p → uS 48 q = u 48 q := fun q hq => by rw [eS, zu_ne1 (by decide), zu_ne1 (by decide), zu_ne2 hq, c5 48 (by decide)]
  have hg : zRgM m R (fun r => n (pq r)) uS := by
    obtain ⟨g1, g2, g3, g4, g5⟩ := zRgM_of h0 hP0 hQ hst
    refine ⟨by rw [rS0 85 (by decide)]; exact g1, g2, by rw [rS 46 (by decide)]; exact g3, g4, fun i hi => ?_⟩
    rw [e48 _ (n2 i hi), rS 31 (by decide)]
    exact g5 i hi
  have hown : ∀ v : zS, v 31 = uS 31 → mX12_ownMany (Int32.ofNat x) v = some (Int32.ofNat (n x), v) := fun v hv => by
    obtain ⟨b, x1, x2, x3⟩ := hst x hx
    exact pl_own (by omega) (by rw [hv, rS 31 (by decide)]; exact x1) (by rw [hv, rS 31 (by decide)]; exact x2) (by omega)
  have sumE : zSs (fun i => if R i = p then 0 else n (pq (R i))) m = zSs (fun i => n (pq (R i))) m := zSs_congr m (fun i hi => by
    show (if R i = p then 0 else n (pq (R i))) = n (pq (R i))
    rw [if_neg (n2 i hi)])
  obtain ⟨b, u2, d1, d2, d3, d4⟩ := zRoomR (q0 := p) (q := x) (mn := n x) (n := fun r => n (pq r)) hg (zMR_sub (zMR_of a6 (rS0 94 (by decide)) (rS 51 (by decide)) (rS 52 (by decide)) (rS 53 (by decide))) (fun r hr => hr.1) (fun _ _ => rfl) (fun _ _ _ _ => ⟨rfl, rfl⟩)) (fun _ _ _ => rfl) (fun i hi w => absurd w (n2 i hi)) hown (by rw [sumE]; omega)
  have r2 : ∀ k, ¬ (k = 0 ∨ (48 ≤ k ∧ k ≤ 53)) → u2 k = u k := fun k hk => by rw [d3 k (by omega), rS k (by omega)]
  have r20 : ∀ j, ¬ (j = 88 ∨ j = 94 ∨ j = 105) → u2 0 j = u 0 j := fun j hj => by rw [d4 j (by omega), rS0 j (by omega)]
  obtain ⟨u3, e3⟩ : ∃ u3, u3 = zu (zu (zu (zu (zu u2 51 p (Int32.ofNat b)) 46 m (Int32.ofNat p)) 0 85 (Int32.ofNat (m + 1))) 0 79 (u 0 79 + 1)) 0 80 (u 0 80 + Int32.ofNat (4 + n x)) := ⟨_, rfl⟩
  have r3 : ∀ k, ¬ (k = 0 ∨ k = 46 ∨ k = 51) → u3 k = u2 k := fun k hk => by rw [e3, zu_row (by omega), zu_row (by omega), zu_row (by omega), zu_row (by omega), zu_row (by omega)]
  have r30 : ∀ j, ¬ (j = 79 ∨ j = 80 ∨ j = 85) → u3 0 j = u2 0 j := fun j hj => by rw [e3, zu_ne2 (by omega), zu_ne2 (by omega), zu_ne2 (by omega), zu_ne1 (by decide), zu_ne1 (by decide)]
  have run : mX12_newProcess (Int32.ofNat x) u = some (Int32.ofNat p, u3) := by
    rw [c1]
    unfold bX12_newProcess_37 mX12_processCells
    have e4 : (4 : Int32) + Int32.ofNat (n x) = Int32.ofNat (4 + n x) := zn_add 4 (n x)
    rw [zn_wr (by omega) (by decide), zn_rd (by omega) (by decide), zu_ne1 (show (29 : Nat) ≠ 48 by decide), c5 29 (by decide), zn_wr (by omega) (by decide), zn_wr (by omega) (by decide), ← eS, d1, pl_bd, zn_wr (by omega) (by decide), zu_ne1 (show (0 : Nat) ≠ 51 by decide), r20 85 (by decide), a1, zn_wr (by omega) (by decide), pl_pt, pl_pt, zu_ne1 (show (0 : Nat) ≠ 46 by decide), zu_ne1 (show (0 : Nat) ≠ 51 by decide), r20 85 (by decide), a1, zn_1, zu_ne2 (show (79 : Nat) ≠ 85 by decide), zu_ne1 (show (0 : Nat) ≠ 46 by decide), zu_ne1 (show (0 : Nat) ≠ 51 by decide), r20 79 (by decide), hown _ (by rw [zu_row (by decide), zu_row (by decide), zu_row (by decide), zu_row (by decide), d3 31 (by decide)]), pl_bd, pl_bd, pl_pt, e4, zu_ne2 (show (80 : Nat) ≠ 79 by decide), zu_ne2 (show (80 : Nat) ≠ 85 by decide), zu_ne1 (show (0 : Nat) ≠ 46 by decide), zu_ne1 (show (0 : Nat) ≠ 51 by decide), r20 80 (by decide), ← e3]
  have old : ∀ i, i < m → zfu R m p i = R i := fun i hi => zfu_ne (by omega)
  refine ⟨u3, run, ⟨?_, ?_, ?_, fun j hj => ?_, fun i hi => ?_, ?_⟩, ?_, ?_, fun j hj => by rw [r30 j (by omega)]; exact r20 j (by omega), fun k hk => by rw [r3 k (by omega)]; exact r2 k (by omega)⟩
  · rw [e3, zu_ne2 (by decide), zu_ne2 (by decide), zu_same]
  · rw [r30 105 (by decide), d4 105 (by decide), eS, zu_ne1 (by decide), zu_ne1 (by decide), zu_ne1 (by decide)]; exact c2
  · rw [r30 88 (by decide), d4 88 (by decide), eS, zu_ne1 (by decide), zu_ne1 (by decide), zu_ne1 (by decide)]; exact c3
  · rw [r3 47 (by decide), r2 47 (by decide)]; exact a4 j (by omega)
  · have x0 : ∀ j, u3 46 j = if j = m then Int32.ofNat p else u 46 j := fun j => by
      rw [e3, zu_ne1 (by decide), zu_ne1 (by decide), zu_ne1 (by decide)]
      by_cases q1 : j = m
      · rw [if_pos q1, q1, zu_same]
      · rw [if_neg q1, zu_ne2 q1, zu_ne1 (by decide), r2 46 (by decide)]
    have x1 : ∀ q, u3 48 q = if q = p then Int32.ofNat x else u 48 q := fun q => by
      rw [r3 48 (by decide), d3 48 (by decide)]
      by_cases q1 : q = p
      · rw [if_pos q1, q1, eS, zu_ne1 (by decide), zu_ne1 (by decide), zu_same]
      · rw [if_neg q1, e48 q q1]
    have x2 : ∀ q, u3 49 q = if q = p then u 29 x else u 49 q := fun q => by
      rw [r3 49 (by decide), d3 49 (by decide), eS, zu_ne1 (by decide)]
      by_cases q1 : q = p
      · rw [if_pos q1, q1, zu_same]
      · rw [if_neg q1, zu_ne2 q1, zu_ne1 (by decide), c5 49 (by decide)]
    have x3 : ∀ q, u3 50 q = if q = p then 0 else u 50 q := fun q => by
      rw [r3 50 (by decide), d3 50 (by decide), eS]
      by_cases q1 : q = p
      · rw [if_pos q1, q1, zu_same]
      · rw [if_neg q1, zu_ne2 q1, zu_ne1 (by decide), zu_ne1 (by decide), c5 50 (by decide)]
    rw [x0, x1, x2, x3]
    by_cases q1 : i = m
    · rw [q1, zfu_same, if_pos rfl, if_pos rfl, if_pos rfl, if_pos rfl, zfu_same, zfu_same, zfu_same]
      exact ⟨rfl, rfl, rfl, rfl⟩
    · have ne := n2 i (by omega)
      rw [old i (by omega), if_neg q1, if_neg ne, if_neg ne, if_neg ne, zfu_ne ne, zfu_ne ne, zfu_ne ne]
      exact a5 i (by omega)
  · refine zMR_sub (d2 u3 ?_ (r3 52 (by decide)) (r3 53 (by decide)) (r30 94 (by decide))) (fun r hr => ?_) (fun r hr => ?_) (fun r k _ _ => ⟨rfl, rfl⟩)
    · rw [e3, zu_row (by decide), zu_row (by decide), zu_row (by decide), zu_row (by decide)]
    · obtain ⟨i, i1, i2⟩ := hr
      by_cases q1 : i = m
      · right; rw [q1, zfu_same] at i2; exact i2.symm
      · left; rw [old i (by omega)] at i2; exact ⟨i, by omega, i2⟩
    · by_cases q1 : r = p
      · rw [if_pos q1, q1, zfu_same]
      · rw [if_neg q1, zfu_ne q1]
  · rw [e3, zu_ne2 (by decide), zu_same]
  · rw [e3, zu_same]
