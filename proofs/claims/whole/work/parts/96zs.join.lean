/-! a new process on both sides -/
def zNw (fr fd : Nat) (fp : Nat → Nat) : Nat := if fd = 0 then fr else fp (fd - 1)
theorem zNw_new {Q m : Nat} {R pq : Nat → Nat} {fr fd : Nat} {fp : Nat → Nat} (h : zAP Q m R pq fr fd fp) (hf : fd = 0 → fr < 2500) : zNw fr fd fp < 2500 ∧ (∀ i, i < m → ¬ R i = zNw fr fd fp) ∧ zNw fr fd fp < (if fd = 0 then fr + 1 else fr) := by
  obtain ⟨a1, a2, a3, a4, a5, a6⟩ := h
  unfold zNw
  by_cases z : fd = 0
  · rw [if_pos z, if_pos z]
    exact ⟨hf z, fun i hi w => by have := (a1 i hi).1; omega, by omega⟩
  · rw [if_neg z, if_neg z]
    obtain ⟨b1, b2⟩ := a5 (fd - 1) (by omega)
    exact ⟨by omega, b2, b1⟩
theorem zAP_join {Q m x : Nat} {R pq : Nat → Nat} {fr fd : Nat} {fp : Nat → Nat} (h : zAP Q m R pq fr fd fp) (hf : fd = 0 → fr < 2500) (hx : x < Q) : zAP Q (m + 1) (zfu R m (zNw fr fd fp)) (zfu pq (zNw fr fd fp) x) (if fd = 0 then fr + 1 else fr) (fd - 1) fp := by
  obtain ⟨n1, n2, n3⟩ := zNw_new h hf
  obtain ⟨a1, a2, a3, a4, a5, a6⟩ := h
  obtain ⟨p, ep⟩ : ∃ p, p = zNw fr fd fp := ⟨_, rfl⟩
  rw [← ep] at n1 n2 n3 ⊢
  have old : ∀ i, i < m → zfu R m p i = R i := fun i hi => zfu_ne (by omega)
  refine ⟨fun i hi => ?_, fun i j hi hj w => ?_, ?_, ?_, fun j hj => ?_, fun j l hj hl w => a6 j l (by omega) (by omega) w⟩
  · by_cases e : i = m
    · rw [e, zfu_same, zfu_same]; exact ⟨n3, hx⟩
    · rw [old i (by omega), zfu_ne (n2 i (by omega))]
      refine ⟨?_, (a1 i (by omega)).2⟩
      have := (a1 i (by omega)).1
      split <;> omega
  · by_cases e1 : i = m
    · by_cases e2 : j = m
      · omega
      · rw [e1, zfu_same, old j (by omega)] at w
        exact absurd w.symm (n2 j (by omega))
    · by_cases e2 : j = m
      · rw [e2, zfu_same, old i (by omega)] at w
        exact absurd w (n2 i (by omega))
      · rw [old i (by omega), old j (by omega)] at w
        exact a2 i j (by omega) (by omega) w
  · split <;> omega
  · split
    · rename_i z; have := hf z; omega
    · omega
  · obtain ⟨b1, b2⟩ := a5 j (by omega)
    refine ⟨by split <;> omega, fun i hi => ?_⟩
    by_cases e : i = m
    · rw [e, zfu_same, ep]
      unfold zNw
      rw [if_neg (by omega)]
      intro w
      have := a6 (fd - 1) j (by omega) (by omega) w
      omega
    · rw [old i (by omega)]; exact b2 i (by omega)
/-- the class's ring gets one more -/
theorem zJoinC {n : Nat → Nat} {Q m x : Nat} {R pq : Nat → Nat} {fr fd : Nat} {fp : Nat → Nat} {sp ac : Nat → Int32} {num H t : zS} {blk : Int32} (h : zAC n m R pq fr fd fp sp ac num H t) (hP : zAP Q m R pq fr fd fp) (hf : fd = 0 → fr < 2500) (hs : zSs (fun i => n (pq (R i))) m + n x ≤ 12000) :
    ∃ t2, mX8_join (Int32.ofNat x) (Int32.ofNat (n x)) blk t = some (Int32.ofNat (zNw fr fd fp), t2) ∧ zAC n (m + 1) (zfu R m (zNw fr fd fp)) (zfu pq (zNw fr fd fp) x) (if fd = 0 then fr + 1 else fr) (fd - 1) fp (zfu sp (zNw fr fd fp) blk) (zfu ac (zNw fr fd fp) 0) (fun r k => if r = zNw fr fd fp then 0 else num r k) (fun r k => if r = zNw fr fd fp then -1 else H r k) t2 ∧ t2 60 17 = t 60 17 + 1 ∧ ∀ k, ¬ (k = 60 ∨ 126 ≤ k) → t2 k = t k := by
  obtain ⟨n1, n2, n3⟩ := zNw_new hP hf
  obtain ⟨a1, a2, a3, a4, a5, a6, a7⟩ := h
  obtain ⟨b1, b2, b3, b4, b5, b6⟩ := hP
  obtain ⟨p, ep⟩ : ∃ p, p = zNw fr fd fp := ⟨_, rfl⟩
  rw [← ep] at n1 n2 n3 ⊢
  -- its number
  obtain ⟨t1, c1, c2, c3, c4, c5⟩ : ∃ t1, mX8_join (Int32.ofNat x) (Int32.ofNat (n x)) blk t = bX8_join_49 (Int32.ofNat x) (Int32.ofNat (n x)) blk (Int32.ofNat p) t1 ∧ t1 60 13 = Int32.ofNat (if fd = 0 then fr + 1 else fr) ∧ t1 60 12 = Int32.ofNat (fd - 1) ∧ (∀ j, ¬ (j = 12 ∨ j = 13) → t1 60 j = t 60 j) ∧ ∀ k, ¬ k = 60 → t1 k = t k := by
    unfold mX8_join
    rw [pl_let, a4]
    by_cases z : fd = 0
    · subst z
      rw [if_pos (show Int32.ofNat 0 ≤ 0 by decide), pl_pt, a3, zn_1]
      exact ⟨_, by rw [ep]; unfold zNw; rw [if_pos rfl], by rw [zu_same, if_pos rfl], by rw [zu_ne2 (by decide)]; exact a4, fun j hj => zu_ne2 (by omega), fun k hk => zu_row hk⟩
    · rw [if_neg (show ¬ Int32.ofNat fd ≤ 0 from fun w => z (by have := (zn_le (b := 0) (by omega) (by decide)).mp w; omega)), pl_pt, show Int32.ofNat fd - 1 = Int32.ofNat (fd - 1) from zn_sub (b := 1) (by omega) (by omega), zu_same, zn_get (by omega) (by decide), pl_bd, zu_ne1 (show (140 + 1 : Nat) ≠ 60 by decide), a5 (fd - 1) (by omega)]
      exact ⟨_, by rw [ep]; unfold zNw; rw [if_neg z], by rw [zu_ne2 (by decide), if_neg z]; exact a3, by rw [zu_same], fun j hj => zu_ne2 (by omega), fun k hk => zu_row hk⟩
  obtain ⟨tS, eS⟩ : ∃ tS, tS = zu t1 131 p 0 := ⟨_, rfl⟩
  have rS : ∀ k, ¬ (k = 60 ∨ k = 131) → tS k = t k := fun k hk => by rw [eS, zu_row (by omega), c5 k (by omega)]
  have rS60 : ∀ j, ¬ (j = 12 ∨ j = 13) → tS 60 j = t 60 j := fun j hj => by rw [eS, zu_ne1 (by decide), c4 j hj]
  have lk : zLkC m R tS := by
    unfold zLkC at *
    rw [rS60 10 (by decide), rS60 11 (by decide), rS 137 (by decide), rS 139 (by decide)]; exact a1
  have hm2 : m ≤ 2500 := by omega
  obtain ⟨t2, d1, d2, d3, d4, d5, d6⟩ := zBecC (p := p) (mn := n x) (x := Int32.ofNat x) (z := blk) (zMC_of a7 ⟨rS60 14 (by decide), rS60 15 (by decide)⟩ (rS 133 (by decide)) (rS 135 (by decide)) (rS 143 (by decide)) (rS 145 (by decide))) lk (fun i hi => by have := (b1 i hi).1; omega) b2 hm2 (by omega) (by
    rw [zSs_congr (g := fun i => n (pq (R i))) m (fun i hi => by
      show (if R i = p then 0 else n (pq (R i))) = n (pq (R i))
      rw [if_neg (n2 i hi)])]
    exact hs)
  have r2 : ∀ k, ¬ (k = 60 ∨ 126 ≤ k) → t2 k = t k := fun k hk => by rw [d3 k (by omega), rS k (by omega)]
  have r60 : ∀ j, ¬ (j = 12 ∨ j = 13 ∨ j = 14 ∨ j = 15) → t2 60 j = t 60 j := fun j hj => by rw [d4 j (by omega), rS60 j (by omega)]
  have e11 : t2 60 11 = if m = 0 then -1 else Int32.ofNat (R (m - 1)) := by rw [r60 11 (by decide)]; exact a1.2.1
  obtain ⟨t3, e3⟩ : ∃ t3, t3 = zu (zu t2 137 p (-1)) 139 p (if m = 0 then -1 else Int32.ofNat (R (m - 1))) := ⟨_, rfl⟩
  obtain ⟨t4, e4⟩ : ∃ t4, t4 = if m = 0 then zu t3 60 10 (Int32.ofNat p) else zu t3 137 (R (m - 1)) (Int32.ofNat p) := ⟨_, rfl⟩
  obtain ⟨t5, e5⟩ : ∃ t5, t5 = zu (zu (zu t4 60 11 (Int32.ofNat p)) 60 16 (Int32.ofNat (m + 1))) 60 17 (t 60 17 + 1) := ⟨_, rfl⟩
  have run : mX8_join (Int32.ofNat x) (Int32.ofNat (n x)) blk t = some (Int32.ofNat p, t5) := by
    have t4r : ∀ j, ¬ j = 10 → t4 60 j = t2 60 j := fun j hj => by
      rw [e4]
      split
      · rw [zu_ne2 hj, e3, zu_ne1 (by decide), zu_ne1 (by decide)]
      · rw [zu_ne1 (by decide), e3, zu_ne1 (by decide), zu_ne1 (by decide)]
    have j120 : bX8_join_120 (Int32.ofNat p) t4 = some (Int32.ofNat p, t5) := by
      unfold bX8_join_120
      rw [pl_pt, pl_pt, pl_pt, zu_ne2 (by decide), zu_ne2 (show (17 : Nat) ≠ 16 by decide), zu_ne2 (show (17 : Nat) ≠ 11 by decide), t4r 16 (by decide), t4r 17 (by decide), r60 16 (by decide), r60 17 (by decide), a2, zn_1, ← e5]
    rw [c1]
    unfold bX8_join_49
    rw [zn_set (by omega) (by decide), pl_bd, ← eS, d1, pl_bd, zn_set (by omega) (by decide), pl_bd, zu_ne1 (show (60 : Nat) ≠ 136 + 1 by decide), e11, zn_set (by omega) (by decide), pl_bd, show zu (zu t2 (136 + 1) p (-1)) (138 + 1) p (if m = 0 then -1 else Int32.ofNat (R (m - 1))) = t3 from e3.symm, show t3 60 11 = (if m = 0 then -1 else Int32.ofNat (R (m - 1))) by rw [e3, zu_ne1 (by decide), zu_ne1 (by decide)]; exact e11]
    by_cases z : m = 0
    · rw [if_pos z] at e4 ⊢
      rw [if_neg (show ¬ (0 : Int32) ≤ -1 by decide), pl_pt, ← e4]; exact j120
    · rw [if_neg z] at e4 ⊢
      have l1 := (b1 (m - 1) (by omega)).1
      rw [if_pos (zn_0le (by omega)), zn_set (by omega) (by decide), pl_bd, show zu t3 (136 + 1) (R (m - 1)) (Int32.ofNat p) = t4 from e4.symm]
      exact j120
  have e137 : ∀ q, t5 137 q = if q = p then -1 else if ¬ m = 0 ∧ q = R (m - 1) then Int32.ofNat p else t 137 q := fun q => by
    rw [e5, zu_ne1 (by decide), zu_ne1 (by decide), zu_ne1 (by decide), e4]
    by_cases z : m = 0
    · rw [if_pos z, zu_ne1 (by decide), e3, zu_ne1 (by decide)]
      by_cases q1 : q = p
      · rw [if_pos q1, q1, zu_same]
      · rw [if_neg q1, zu_ne2 q1, if_neg (fun w => w.1 z), d3 137 (by decide), rS 137 (by decide)]
    · rw [if_neg z]
      by_cases q2 : q = R (m - 1)
      · rw [q2, zu_same, if_neg (n2 (m - 1) (by omega)), if_pos ⟨z, rfl⟩]
      · rw [zu_ne2 q2, e3, zu_ne1 (by decide)]
        by_cases q1 : q = p
        · rw [if_pos q1, q1, zu_same]
        · rw [if_neg q1, zu_ne2 q1, if_neg (fun w => q2 w.2), d3 137 (by decide), rS 137 (by decide)]
  have e139 : ∀ q, t5 139 q = if q = p then (if m = 0 then -1 else Int32.ofNat (R (m - 1))) else t 139 q := fun q => by
    have x1 : t5 139 q = t3 139 q := by
      rw [e5, zu_ne1 (by decide), zu_ne1 (by decide), zu_ne1 (by decide), e4]
      split
      · exact zu_ne1 (by decide)
      · exact zu_ne1 (by decide)
    rw [x1, e3]
    by_cases q1 : q = p
    · rw [if_pos q1, q1, zu_same]
    · rw [if_neg q1, zu_ne2 q1, zu_ne1 (by decide), d3 139 (by decide), rS 139 (by decide)]
  have r5 : ∀ k, ¬ (k = 60 ∨ k = 137 ∨ k = 139) → t5 k = t2 k := fun k hk => by
    rw [e5, zu_row (by omega), zu_row (by omega), zu_row (by omega), e4]
    split
    · rw [zu_row (by omega), e3, zu_row (by omega), zu_row (by omega)]
    · rw [zu_row (by omega), e3, zu_row (by omega), zu_row (by omega)]
  have r560 : ∀ j, ¬ (j = 10 ∨ j = 11 ∨ j = 16 ∨ j = 17) → t5 60 j = t2 60 j := fun j hj => by
    rw [e5, zu_ne2 (by omega), zu_ne2 (by omega), zu_ne2 (by omega), e4]
    split
    · rw [zu_ne2 (by omega), e3, zu_ne1 (by decide), zu_ne1 (by decide)]
    · rw [zu_ne1 (by decide), e3, zu_ne1 (by decide), zu_ne1 (by decide)]
  have old : ∀ i, i < m → zfu R m p i = R i := fun i hi => zfu_ne (by omega)
  refine ⟨t5, run, ⟨⟨?_, ?_, fun i hi => ⟨?_, ?_⟩⟩, ?_, ?_, ?_, fun j hj => ?_, fun i hi => ?_, ?_⟩, by rw [e5, zu_same], fun k hk => by rw [r5 k (by omega)]; exact r2 k hk⟩
  · rw [if_neg (by omega), e5, zu_ne2 (by decide), zu_ne2 (by decide), zu_ne2 (by decide), e4]
    by_cases z : m = 0
    · rw [if_pos z, zu_same, z, zfu_same]
    · rw [if_neg z, zu_ne1 (by decide), e3, zu_ne1 (by decide), zu_ne1 (by decide), r60 10 (by decide), a1.1, if_neg z, old 0 (by omega)]
  · rw [if_neg (by omega), e5, zu_ne2 (by decide), zu_ne2 (by decide), zu_same, Nat.add_sub_cancel, zfu_same]
  · rw [e137]
    by_cases q1 : i = m
    · rw [q1, zfu_same, if_pos rfl, if_neg (by omega)]
    · rw [old i (by omega), if_neg (n2 i (by omega)), if_pos (show i + 1 < m + 1 by omega)]
      by_cases q2 : i = m - 1
      · rw [if_pos ⟨by omega, by rw [q2]⟩, show i + 1 = m by omega, zfu_same]
      · rw [if_neg (fun w => q2 (b2 i (m - 1) (by omega) (by omega) w.2)), (a1.2.2 i (by omega)).1, if_pos (by omega), old (i + 1) (by omega)]
  · rw [e139]
    by_cases q1 : i = m
    · rw [q1, zfu_same, if_pos rfl]
      by_cases z : m = 0
      · rw [if_pos z, if_pos z]
      · rw [if_neg z, if_neg z, old (m - 1) (by omega)]
    · rw [old i (by omega), if_neg (n2 i (by omega)), (a1.2.2 i (by omega)).2]
      by_cases z : i = 0
      · rw [if_pos z, if_pos z]
      · rw [if_neg z, if_neg z, old (i - 1) (by omega)]
  · rw [e5, zu_ne2 (by decide), zu_same]
  · rw [r560 13 (by decide), d4 13 (by decide), eS, zu_ne1 (by decide)]; exact c2
  · rw [r560 12 (by decide), d4 12 (by decide), eS, zu_ne1 (by decide)]; exact c3
  · rw [r5 141 (by decide), d3 141 (by decide), rS 141 (by decide)]; exact a5 j (by omega)
  · have x1 : ∀ q, t5 127 q = if q = p then Int32.ofNat x else t 127 q := fun q => by
      rw [r5 127 (by decide), d5]
      by_cases q1 : q = p
      · rw [if_pos q1, q1, zu_same]
      · rw [if_neg q1, zu_ne2 q1, rS 127 (by decide)]
    have x2 : ∀ q, t5 129 q = if q = p then blk else t 129 q := fun q => by
      rw [r5 129 (by decide), d6]
      by_cases q1 : q = p
      · rw [if_pos q1, q1, zu_same]
      · rw [if_neg q1, zu_ne2 q1, rS 129 (by decide)]
    have x3 : ∀ q, t5 131 q = if q = p then 0 else t 131 q := fun q => by
      rw [r5 131 (by decide), d3 131 (by decide), eS]
      by_cases q1 : q = p
      · rw [if_pos q1, q1, zu_same]
      · rw [if_neg q1, zu_ne2 q1, c5 131 (by decide)]
    rw [x1, x2, x3]
    by_cases q1 : i = m
    · rw [q1, zfu_same, if_pos rfl, if_pos rfl, if_pos rfl, zfu_same, zfu_same, zfu_same]
      exact ⟨rfl, rfl, rfl⟩
    · have ne := n2 i (by omega)
      rw [old i (by omega), if_neg ne, if_neg ne, if_neg ne, zfu_ne ne, zfu_ne ne, zfu_ne ne]
      exact a6 i (by omega)
  · refine zMC_sub (zMC_of d2 ⟨r560 14 (by decide), r560 15 (by decide)⟩ (r5 133 (by decide)) (r5 135 (by decide)) (r5 143 (by decide)) (r5 145 (by decide))) (fun r hr => ?_) (fun r hr => ?_) (fun r k _ _ => ⟨rfl, rfl⟩)
    · obtain ⟨i, i1, i2⟩ := hr
      by_cases q1 : i = m
      · right; rw [q1, zfu_same] at i2; exact i2.symm
      · left; rw [old i (by omega)] at i2; exact ⟨i, by omega, i2⟩
    · by_cases q1 : r = p
      · rw [if_pos q1, q1, zfu_same]
      · rw [if_neg q1, zfu_ne q1]
