/-! a process LEAVES -/
def zCut (R : Nat → Nat) (c i : Nat) : Nat := if i < c then R i else R (i + 1)
theorem zCut_in {R : Nat → Nat} {c m i : Nat} (hi : i < m - 1) (hc : c < m) : ∃ j, j < m ∧ zCut R c i = R j ∧ ¬ j = c := by
  unfold zCut
  split
  · exact ⟨i, by omega, rfl, by omega⟩
  · exact ⟨i + 1, by omega, rfl, by omega⟩
theorem zAP_out {Q m c : Nat} {R pq : Nat → Nat} {fr fd : Nat} {fp : Nat → Nat} (h : zAP Q m R pq fr fd fp) (hc : c < m) : zAP Q (m - 1) (zCut R c) pq fr (fd + 1) (zfu fp fd (R c)) := by
  obtain ⟨a1, a2, a3, a4, a5, a6⟩ := h
  refine ⟨fun i hi => ?_, fun i j hi hj w => ?_, by omega, a4, fun j hj => ?_, fun j l hj hl w => ?_⟩
  · obtain ⟨j, j1, j2, _⟩ := zCut_in (R := R) hi hc
    rw [j2]; exact a1 j j1
  · unfold zCut at w
    by_cases q1 : i < c
    · by_cases q2 : j < c
      · rw [if_pos q1, if_pos q2] at w; exact a2 i j (by omega) (by omega) w
      · rw [if_pos q1, if_neg q2] at w; have := a2 i (j + 1) (by omega) (by omega) w; omega
    · by_cases q2 : j < c
      · rw [if_neg q1, if_pos q2] at w; have := a2 (i + 1) j (by omega) (by omega) w; omega
      · rw [if_neg q1, if_neg q2] at w; have := a2 (i + 1) (j + 1) (by omega) (by omega) w; omega
  · by_cases e : j = fd
    · rw [e, zfu_same]
      refine ⟨(a1 c hc).1, fun i hi w => ?_⟩
      obtain ⟨k, k1, k2, k3⟩ := zCut_in (R := R) hi hc
      rw [k2] at w
      exact k3 (a2 k c k1 hc w)
    · rw [zfu_ne e]
      refine ⟨(a5 j (by omega)).1, fun i hi w => ?_⟩
      obtain ⟨k, k1, k2, k3⟩ := zCut_in (R := R) hi hc
      rw [k2] at w
      exact (a5 j (by omega)).2 k k1 w
  · by_cases e1 : j = fd
    · by_cases e2 : l = fd
      · omega
      · rw [e1, zfu_same, zfu_ne e2] at w
        exact absurd w ((a5 l (by omega)).2 c hc)
    · by_cases e2 : l = fd
      · rw [e2, zfu_same, zfu_ne e1] at w
        exact absurd w.symm ((a5 j (by omega)).2 c hc)
      · rw [zfu_ne e1, zfu_ne e2] at w
        exact a6 j l (by omega) (by omega) w
theorem zLeaC {n : Nat → Nat} {Q m c : Nat} {R pq : Nat → Nat} {fr fd : Nat} {fp : Nat → Nat} {sp ac : Nat → Int32} {num H t : zS} (h : zAC n m R pq fr fd fp sp ac num H t) (hP : zAP Q m R pq fr fd fp) (hc : c < m) :
    ∃ t2, mX8_leave (Int32.ofNat (R c)) t = some (0, t2) ∧ zAC n (m - 1) (zCut R c) pq fr (fd + 1) (zfu fp fd (R c)) sp ac num H t2 ∧ t2 137 (R c) = (if c + 1 < m then Int32.ofNat (R (c + 1)) else -1) ∧ t2 60 17 = t 60 17 ∧ ∀ k, ¬ (k = 60 ∨ k = 137 ∨ k = 139 ∨ k = 141) → t2 k = t k := by
  obtain ⟨⟨a0, a1', a1⟩, a2, a3, a4, a5, a6, a7⟩ := h
  obtain ⟨b1, b2, b3, b4, b5, b6⟩ := hP
  have lt : ∀ i, i < m → R i < 2501 := fun i hi => by have := (b1 i hi).1; omega
  obtain ⟨nx, enx⟩ : ∃ nx : Int32, nx = if c + 1 < m then Int32.ofNat (R (c + 1)) else -1 := ⟨_, rfl⟩
  obtain ⟨pv, epv⟩ : ∃ pv : Int32, pv = if c = 0 then -1 else Int32.ofNat (R (c - 1)) := ⟨_, rfl⟩
  obtain ⟨ta, ea⟩ : ∃ ta, ta = if c = 0 then zu t 60 10 nx else zu t 137 (R (c - 1)) nx := ⟨_, rfl⟩
  obtain ⟨tb, eb⟩ : ∃ tb, tb = if c + 1 < m then zu ta 139 (R (c + 1)) pv else zu ta 60 11 pv := ⟨_, rfl⟩
  obtain ⟨tc, et⟩ : ∃ tc, tc = zu (zu (zu tb 141 fd (Int32.ofNat (R c))) 60 12 (Int32.ofNat (fd + 1))) 60 16 (Int32.ofNat (m - 1)) := ⟨_, rfl⟩
  have ra : ∀ k, ¬ (k = 60 ∨ k = 137) → ta k = t k := fun k hk => by rw [ea]; split <;> rw [zu_row (by omega)]
  have ra60 : ∀ j, ¬ j = 10 → ta 60 j = t 60 j := fun j hj => by
    rw [ea]; split
    · rw [zu_ne2 hj]
    · rw [zu_ne1 (by decide)]
  have rb : ∀ k, ¬ (k = 60 ∨ k = 139) → tb k = ta k := fun k hk => by rw [eb]; split <;> rw [zu_row (by omega)]
  have rb60 : ∀ j, ¬ j = 11 → tb 60 j = ta 60 j := fun j hj => by
    rw [eb]; split
    · rw [zu_ne1 (by decide)]
    · rw [zu_ne2 hj]
  have rc : ∀ k, ¬ (k = 60 ∨ k = 141) → tc k = tb k := fun k hk => by rw [et, zu_row (by omega), zu_row (by omega), zu_row (by omega)]
  have rc60 : ∀ j, ¬ (j = 12 ∨ j = 16) → tc 60 j = tb 60 j := fun j hj => by rw [et, zu_ne2 (by omega), zu_ne2 (by omega), zu_ne1 (by decide)]
  have e137 : ∀ q, tc 137 q = if ¬ c = 0 ∧ q = R (c - 1) then nx else t 137 q := fun q => by
    rw [rc 137 (by decide), rb 137 (by decide), ea]
    by_cases z : c = 0
    · rw [if_pos z, if_neg (fun w => w.1 z), zu_ne1 (by decide)]
    · rw [if_neg z]
      by_cases e : q = R (c - 1)
      · rw [if_pos ⟨z, e⟩, e, zu_same]
      · rw [if_neg (fun w => e w.2), zu_ne2 e]
  have e139 : ∀ q, tc 139 q = if c + 1 < m ∧ q = R (c + 1) then pv else t 139 q := fun q => by
    rw [rc 139 (by decide), eb]
    by_cases z : c + 1 < m
    · rw [if_pos z]
      by_cases e : q = R (c + 1)
      · rw [if_pos ⟨z, e⟩, e, zu_same]
      · rw [if_neg (fun w => e w.2), zu_ne2 e, ra 139 (by decide)]
    · rw [if_neg z, if_neg (fun w => z w.1), zu_ne1 (by decide), ra 139 (by decide)]
  have e10 : tc 60 10 = if c = 0 then nx else t 60 10 := by
    rw [rc60 10 (by decide), rb60 10 (by decide), ea]
    split
    · rw [zu_same]
    · rw [zu_ne1 (by decide)]
  have e11 : tc 60 11 = if c + 1 < m then t 60 11 else pv := by
    rw [rc60 11 (by decide), eb]
    split
    · rw [zu_ne1 (by decide), ra60 11 (by decide)]
    · rw [zu_same]
  have run : mX8_leave (Int32.ofNat (R c)) t = some (0, tc) := by
    have l60 : bX8_leave_60 (Int32.ofNat (R c)) tb = some (0, tc) := by
      unfold bX8_leave_60
      rw [rb60 12 (by decide), ra60 12 (by decide), a4, zn_set (by omega) (by decide), pl_bd, zu_ne1 (show (60 : Nat) ≠ 140 + 1 by decide), rb60 12 (by decide), ra60 12 (by decide), a4, zn_1, pl_pt, zu_ne2 (show (16 : Nat) ≠ 12 by decide), zu_ne1 (show (60 : Nat) ≠ 140 + 1 by decide), rb60 16 (by decide), ra60 16 (by decide), a2, show Int32.ofNat m - 1 = Int32.ofNat (m - 1) from zn_sub (b := 1) (by omega) (by have := lt c hc; omega), pl_pt, ← et]
    have l39 : bX8_leave_39 (Int32.ofNat (R c)) pv nx ta = some (0, tc) := by
      unfold bX8_leave_39
      by_cases z : c + 1 < m
      · have := lt (c + 1) z
        rw [if_pos z] at eb enx
        rw [enx, if_pos (zn_0le (by omega)), zn_set (by omega) (by decide), pl_bd, show zu ta (138 + 1) (R (c + 1)) pv = tb from eb.symm, l60]
      · rw [if_neg z] at eb enx
        rw [enx, if_neg (by decide), pl_pt, ← eb, l60]
    have lc := lt c hc
    unfold mX8_leave
    rw [zn_get (by omega) (by decide), pl_bd, (a1 c hc).2, ← epv, zn_get (by omega) (by decide), pl_bd, (a1 c hc).1, ← enx]
    by_cases z : c = 0
    · rw [if_pos z] at ea
      have epv' : pv = -1 := by rw [epv, if_pos z]
      rw [if_neg (show ¬ 0 ≤ pv by rw [epv']; decide), pl_pt, ← ea, l39]
    · rw [if_neg z] at ea
      have l1 := lt (c - 1) (by omega)
      have epv' : pv = Int32.ofNat (R (c - 1)) := by rw [epv, if_neg z]
      rw [if_pos (show 0 ≤ pv by rw [epv']; exact zn_0le (by omega)), show mX5_set 136 2501 pv nx t = some (0, ta) by rw [epv', zn_set (by omega) (by decide), ea], pl_bd, l39]
  have inj : ∀ i j, i < m → j < m → ¬ i = j → ¬ R i = R j := fun i j h1 h2 h3 w => h3 (b2 i j h1 h2 w)
  refine ⟨tc, run, ⟨⟨?_, ?_, fun i hi => ?_⟩, by rw [et, zu_same], by rw [rc60 13 (by decide), rb60 13 (by decide), ra60 13 (by decide)]; exact a3, by rw [et, zu_ne2 (by decide), zu_same], fun j hj => ?_, fun i hi => ?_, ?_⟩, ?_, by rw [rc60 17 (by decide), rb60 17 (by decide), ra60 17 (by decide)], fun k hk => by rw [rc k (by omega), rb k (by omega), ra k (by omega)]⟩
  · rw [e10]
    by_cases z : c = 0
    · rw [if_pos z, enx, z]
      unfold zCut
      by_cases z2 : 0 + 1 < m
      · rw [if_pos z2, if_neg (by omega), if_neg (by omega)]
      · rw [if_neg z2, if_pos (by omega)]
    · rw [if_neg z, a0, if_neg (by omega), if_neg (by omega)]
      unfold zCut
      rw [if_pos (by omega)]
  · rw [e11]
    by_cases z : c + 1 < m
    · rw [if_pos z, a1', if_neg (by omega), if_neg (by omega)]
      unfold zCut
      rw [if_neg (by omega), show m - 1 - 1 + 1 = m - 1 by omega]
    · rw [if_neg z, epv]
      by_cases z2 : c = 0
      · rw [if_pos z2, if_pos (by omega)]
      · rw [if_neg z2, if_neg (by omega)]
        unfold zCut
        rw [if_pos (by omega), show m - 1 - 1 = c - 1 by omega]
  · rw [e137, e139]
    by_cases l : i < c
    · have ei : zCut R c i = R i := by unfold zCut; rw [if_pos l]
      rw [ei]
      refine ⟨?_, ?_⟩
      · by_cases e : i = c - 1
        · rw [if_pos ⟨by omega, by rw [e]⟩, enx]
          unfold zCut
          by_cases z : c + 1 < m
          · rw [if_pos z, if_pos (by omega), if_neg (by omega), show i + 1 + 1 = c + 1 by omega]
          · rw [if_neg z, if_neg (by omega)]
        · rw [if_neg (fun w => inj i (c - 1) (by omega) (by omega) e w.2), (a1 i (by omega)).1, if_pos (by omega), if_pos (by omega)]
          unfold zCut
          rw [if_pos (by omega)]
      · rw [if_neg (fun w => inj i (c + 1) (by omega) w.1 (by omega) w.2), (a1 i (by omega)).2]
        by_cases z : i = 0
        · rw [if_pos z, if_pos z]
        · rw [if_neg z, if_neg z]
          unfold zCut
          rw [if_pos (by omega)]
    · have ei : zCut R c i = R (i + 1) := by unfold zCut; rw [if_neg l]
      rw [ei]
      refine ⟨?_, ?_⟩
      · rw [if_neg (fun w => inj (i + 1) (c - 1) (by omega) (by omega) (by omega) w.2), (a1 (i + 1) (by omega)).1]
        by_cases z : i + 1 + 1 < m
        · rw [if_pos z, if_pos (by omega)]
          unfold zCut
          rw [if_neg (by omega)]
        · rw [if_neg z, if_neg (by omega)]
      · by_cases e : i = c
        · rw [if_pos ⟨by omega, by rw [e]⟩, epv, e]
          by_cases z : c = 0
          · rw [if_pos z, if_pos z]
          · rw [if_neg z, if_neg z]
            unfold zCut
            rw [if_pos (by omega)]
        · rw [if_neg (fun w => inj (i + 1) (c + 1) (by omega) w.1 (by omega) w.2), (a1 (i + 1) (by omega)).2, if_neg (by omega), if_neg (by omega)]
          unfold zCut
          rw [if_neg (by omega), show i - 1 + 1 = i + 1 - 1 by omega]
  · rw [et, zu_ne1 (by decide), zu_ne1 (by decide)]
    by_cases e : j = fd
    · rw [e, zu_same, zfu_same]
    · rw [zu_ne2 e, zfu_ne e, rb 141 (by decide), ra 141 (by decide)]; exact a5 j (by omega)
  · obtain ⟨k, k1, k2, _⟩ := zCut_in (R := R) hi hc
    rw [k2, rc 127 (by decide), rb 127 (by decide), ra 127 (by decide), rc 129 (by decide), rb 129 (by decide), ra 129 (by decide), rc 131 (by decide), rb 131 (by decide), ra 131 (by decide)]
    exact a6 k k1
  · refine zMC_sub (zMC_of a7 ⟨by rw [rc60 14 (by decide), rb60 14 (by decide), ra60 14 (by decide)], by rw [rc60 15 (by decide), rb60 15 (by decide), ra60 15 (by decide)]⟩ (by rw [rc 133 (by decide), rb 133 (by decide), ra 133 (by decide)]) (by rw [rc 135 (by decide), rb 135 (by decide), ra 135 (by decide)]) (by rw [rc 143 (by decide), rb 143 (by decide), ra 143 (by decide)]) (by rw [rc 145 (by decide), rb 145 (by decide), ra 145 (by decide)])) (fun r hr => ?_) (fun _ _ => rfl) (fun _ _ _ _ => ⟨rfl, rfl⟩)
    obtain ⟨i, i1, i2⟩ := hr
    obtain ⟨k, k1, k2, _⟩ := zCut_in (R := R) i1 hc
    exact ⟨k, k1, by rw [← k2]; exact i2⟩
  · rw [e137, if_neg (fun w => inj c (c - 1) hc (by omega) (by omega) w.2), (a1 c hc).1]
/-- the reference's row closes up -/
theorem zLeaR {R : Nat → Nat} {c m' : Nat} {uS : zS} (hm : m' < 2500) (h46 : ∀ i, i < m' + 1 → uS 46 i = Int32.ofNat (R i)) (h85 : uS 0 85 = Int32.ofNat m') : ∀ (d i fu : Nat) (u : zS), i + d = m' → c ≤ i → (∀ k, ¬ k = 46 → u k = uS k) → (∀ j, u 46 j = if c ≤ j ∧ j < i then Int32.ofNat (R (j + 1)) else uS 46 j) → ∃ u2, lX12_visit_85 (fu + d + 1) (Int32.ofNat i) u = (if (u2 0 86) < (u2 0 85) then bX12_visit_129 u2 else zpt u2 0 86 0 fun t4800 => bX12_visit_129 t4800) ∧ (∀ k, ¬ k = 46 → u2 k = uS k) ∧ ∀ j, j < m' → u2 46 j = Int32.ofNat (zCut R c j) := by
  intro d
  induction d with
  | zero =>
    intro i fu u hi hci f1 f2
    have : i = m' := by omega
    subst this
    refine ⟨u, ?_, f1, fun j hj => ?_⟩
    · show bX12_visit_85 _ _ u = _
      unfold bX12_visit_85
      rw [f1 0 (by decide), h85, if_pos (Int32.le_refl _)]
    · rw [f2 j]
      unfold zCut
      by_cases q : j < c
      · rw [if_pos q, if_neg (by omega), h46 j (by omega)]
      · rw [if_neg q, if_pos (by omega)]
  | succ d ih =>
    intro i fu u hi hci f1 f2
    obtain ⟨u2, z1, z2⟩ := ih (i + 1) fu (zu u 46 i (Int32.ofNat (R (i + 1)))) (by omega) (by omega) (fun k hk => by rw [zu_row hk, f1 k hk]) (fun j => by
      by_cases e : j = i
      · rw [e, zu_same, if_pos (by omega)]
      · rw [zu_ne2 e, f2 j]
        by_cases q : c ≤ j ∧ j < i
        · rw [if_pos q, if_pos (by omega)]
        · rw [if_neg q, if_neg (by omega)])
    refine ⟨u2, ?_, z2⟩
    rw [← z1]
    show bX12_visit_85 (lX12_visit_85 (fu + d + 1)) _ u = _
    unfold bX12_visit_85
    rw [f1 0 (by decide), h85, if_neg (fun w => by have := (zn_le (by omega) (by omega)).mp w; omega), zn_1, zn_rd (by omega) (by decide), f2 (i + 1), if_neg (by omega), h46 (i + 1) (by omega), zn_wr (by omega) (by decide), pl_let]
