/-! numbers and channels of the processes -/
def zSs (f : Nat → Nat) : Nat → Nat
  | 0 => 0
  | m + 1 => zSs f m + f m
theorem zSs_le {f : Nat → Nat} : ∀ (d i : Nat), zSs f i ≤ zSs f (i + d) := by
  intro d
  induction d with
  | zero => intro i; exact Nat.le_refl _
  | succ d ih => intro i; have := ih i; show _ ≤ zSs f (i + d) + f (i + d); omega
theorem zSs_at {f : Nat → Nat} {i m : Nat} (h : i < m) : zSs f i + f i ≤ zSs f m := by
  have := zSs_le (f := f) (m - (i + 1)) (i + 1)
  rw [show i + 1 + (m - (i + 1)) = m by omega] at this
  exact this
theorem zSs_congr {f g : Nat → Nat} : ∀ m, (∀ i, i < m → f i = g i) → zSs f m = zSs g m := by
  intro m
  induction m with
  | zero => intro _; rfl
  | succ m ih => intro h; show zSs f m + f m = zSs g m + g m; rw [ih (fun i hi => h i (by omega)), h m (by omega)]
theorem zSs_mono {f g : Nat → Nat} : ∀ m, (∀ i, i < m → f i ≤ g i) → zSs f m ≤ zSs g m := by
  intro m
  induction m with
  | zero => intro _; exact Nat.le_refl _
  | succ m ih => intro h; show zSs f m + f m ≤ zSs g m + g m; have := ih (fun i hi => h i (by omega)); have := h m (by omega); omega
/-- one summand changed -/
theorem zSs_one {f g : Nat → Nat} {i : Nat} : ∀ m, i < m → (∀ j, j < m → ¬ j = i → f j = g j) → zSs f m + g i = zSs g m + f i := by
  intro m
  induction m with
  | zero => intro h; omega
  | succ m ih =>
    intro h hh
    show zSs f m + f m + g i = zSs g m + g m + f i
    by_cases e : i = m
    · subst e
      rw [zSs_congr i (fun j hj => hh j (by omega) (by omega))]; omega
    · have := ih (by omega) (fun j hj => hh j (by omega))
      have := hh m (by omega) (fun q => e q.symm)
      omega
/-- one summand taken out -/
theorem zSs_out {f : Nat → Nat} {i : Nat} : ∀ m, i ≤ m → zSs (fun j => if j < i then f j else f (j + 1)) m + f i = zSs f (m + 1) := by
  intro m
  induction m with
  | zero => intro h; have : i = 0 := by omega
            subst this; show 0 + f 0 = 0 + f 0; rfl
  | succ m ih =>
    intro h
    show zSs _ m + (if m < i then f m else f (m + 1)) + f i = zSs f (m + 1) + f (m + 1)
    by_cases e : i = m + 1
    · subst e
      rw [if_pos (by omega)]
      have := zSs_congr (f := fun j => if j < m + 1 then f j else f (j + 1)) (g := f) m (fun j hj => by show (if j < m + 1 then f j else f (j + 1)) = f j; rw [if_pos (by omega)])
      rw [this]
      rfl
    · have := ih (by omega)
      rw [if_neg (by omega)]
      omega
def zIn (m : Nat) (R : Nat → Nat) (p : Nat) : Prop := ∃ i, i < m ∧ R i = p
/-- the class's rows hold num and H -/
def zMC (lv : Nat → Prop) (n : Nat → Nat) (num H t : zS) : Prop := ∃ (hf us : Nat) (B : Nat → Nat), (hf = 0 ∨ hf = 12000) ∧ t 60 14 = Int32.ofNat hf ∧ t 60 15 = Int32.ofNat us ∧ us ≤ 12000 ∧ (∀ p, lv p → t 133 p = Int32.ofNat (B p) ∧ t 135 p = Int32.ofNat (n p) ∧ hf ≤ B p ∧ B p + n p ≤ hf + us ∧ ∀ k, k < n p → t 143 (B p + k) = num p k ∧ t 145 (B p + k) = H p k) ∧ ∀ p p', lv p → lv p' → ¬ p = p' → B p + n p ≤ B p' ∨ B p' + n p' ≤ B p
/-- the reference's rows hold num and H -/
def zMR (lv : Nat → Prop) (n : Nat → Nat) (num H u : zS) : Prop := ∃ (us : Nat) (B : Nat → Nat), u 0 94 = Int32.ofNat us ∧ us ≤ 24000 ∧ (∀ p, lv p → (u 51 p = Int32.ofNat (B p) ∧ (n p = 0 → B p = 0)) ∧ B p + n p ≤ us ∧ ∀ k, k < n p → u 52 (B p + k) = num p k ∧ u 53 (B p + k) = H p k) ∧ ∀ p p', lv p → lv p' → ¬ p = p' → B p + n p ≤ B p' ∨ B p' + n p' ≤ B p
theorem zMC_of {lv : Nat → Prop} {n : Nat → Nat} {num H t t2 : zS} (h : zMC lv n num H t) (h60 : t2 60 14 = t 60 14 ∧ t2 60 15 = t 60 15) (h1 : t2 133 = t 133) (h2 : t2 135 = t 135) (h3 : t2 143 = t 143) (h4 : t2 145 = t 145) : zMC lv n num H t2 := by
  unfold zMC at *
  rw [h60.1, h60.2, h1, h2, h3, h4]; exact h
theorem zMR_of {lv : Nat → Prop} {n : Nat → Nat} {num H u u2 : zS} (h : zMR lv n num H u) (h0 : u2 0 94 = u 0 94) (h1 : u2 51 = u 51) (h3 : u2 52 = u 52) (h4 : u2 53 = u 53) : zMR lv n num H u2 := by
  unfold zMR at *
  rw [h0, h1, h3, h4]; exact h
theorem zMC_sub {lv lv2 : Nat → Prop} {n n2 : Nat → Nat} {num H num2 H2 t : zS} (h : zMC lv n num H t) (hs : ∀ p, lv2 p → lv p) (hn : ∀ p, lv2 p → n2 p = n p) (hc : ∀ p k, lv2 p → k < n2 p → num2 p k = num p k ∧ H2 p k = H p k) : zMC lv2 n2 num2 H2 t := by
  obtain ⟨hf, us, B, a1, a2, a3, a4, a5, a6⟩ := h
  refine ⟨hf, us, B, a1, a2, a3, a4, fun p hp => ?_, fun p p' hp hp' hne => ?_⟩
  · obtain ⟨b1, b2, b3, b4, b5⟩ := a5 p (hs p hp)
    rw [hn p hp]
    refine ⟨b1, b2, b3, b4, fun k hk => ?_⟩
    rw [(hc p k hp (by rw [hn p hp]; exact hk)).1, (hc p k hp (by rw [hn p hp]; exact hk)).2]
    exact b5 k hk
  · rw [hn p hp, hn p' hp']
    exact a6 p p' (hs p hp) (hs p' hp') hne
theorem zMR_sub {lv lv2 : Nat → Prop} {n n2 : Nat → Nat} {num H num2 H2 u : zS} (h : zMR lv n num H u) (hs : ∀ p, lv2 p → lv p) (hn : ∀ p, lv2 p → n2 p = n p) (hc : ∀ p k, lv2 p → k < n2 p → num2 p k = num p k ∧ H2 p k = H p k) : zMR lv2 n2 num2 H2 u := by
  obtain ⟨us, B, a3, a4, a5, a6⟩ := h
  refine ⟨us, B, a3, a4, fun p hp => ?_, fun p p' hp hp' hne => ?_⟩
  · obtain ⟨b1, b4, b5⟩ := a5 p (hs p hp)
    rw [hn p hp]
    refine ⟨b1, b4, fun k hk => ?_⟩
    rw [(hc p k hp (by rw [hn p hp]; exact hk)).1, (hc p k hp (by rw [hn p hp]; exact hk)).2]
    exact b5 k hk
  · rw [hn p hp, hn p' hp']
    exact a6 p p' (hs p hp) (hs p' hp') hne
/-- a process of the class -/
theorem zMC_at {lv : Nat → Prop} {n : Nat → Nat} {num H t : zS} {p : Nat} (h : zMC lv n num H t) (hp : lv p) : ∃ b, t 133 p = Int32.ofNat b ∧ b + n p ≤ 24000 ∧ t 135 p = Int32.ofNat (n p) ∧ (∀ k, k < n p → t 143 (b + k) = num p k ∧ t 145 (b + k) = H p k) ∧ (∀ k v, k < n p → zMC lv n num (zu H p k v) (zu t 145 (b + k) v)) ∧ ∀ k v, k < n p → zMC lv n (zu num p k v) H (zu t 143 (b + k) v) := by
  obtain ⟨hf, us, B, a1, a2, a3, a4, a5, a6⟩ := h
  obtain ⟨b1, b2, b3, b4, b5⟩ := a5 p hp
  refine ⟨B p, b1, by omega, b2, b5, fun k v hk => ?_, fun k v hk => ?_⟩
  · refine ⟨hf, us, B, a1, by rw [zu_ne1 (by decide)]; exact a2, by rw [zu_ne1 (by decide)]; exact a3, a4, fun x hx => ?_, a6⟩
    obtain ⟨c1, c2, c3, c4, c5⟩ := a5 x hx
    refine ⟨by rw [zu_ne1 (by decide)]; exact c1, by rw [zu_ne1 (by decide)]; exact c2, c3, c4, fun j hj => ⟨by rw [zu_ne1 (by decide)]; exact (c5 j hj).1, ?_⟩⟩
    by_cases e : x = p
    · subst e
      by_cases ej : j = k
      · subst ej; rw [zu_same, zu_same]
      · rw [zu_ne2 (by omega), zu_ne2 ej]; exact (c5 j hj).2
    · have := a6 x p hx hp e
      rw [zu_ne2 (by omega), zu_ne1 e]; exact (c5 j hj).2
  · refine ⟨hf, us, B, a1, by rw [zu_ne1 (by decide)]; exact a2, by rw [zu_ne1 (by decide)]; exact a3, a4, fun x hx => ?_, a6⟩
    obtain ⟨c1, c2, c3, c4, c5⟩ := a5 x hx
    refine ⟨by rw [zu_ne1 (by decide)]; exact c1, by rw [zu_ne1 (by decide)]; exact c2, c3, c4, fun j hj => ⟨?_, by rw [zu_ne1 (by decide)]; exact (c5 j hj).2⟩⟩
    by_cases e : x = p
    · subst e
      by_cases ej : j = k
      · subst ej; rw [zu_same, zu_same]
      · rw [zu_ne2 (by omega), zu_ne2 ej]; exact (c5 j hj).1
    · have := a6 x p hx hp e
      rw [zu_ne2 (by omega), zu_ne1 e]; exact (c5 j hj).1
/-- and of the reference -/
theorem zMR_at {lv : Nat → Prop} {n : Nat → Nat} {num H u : zS} {p : Nat} (h : zMR lv n num H u) (hp : lv p) : ∃ b, u 51 p = Int32.ofNat b ∧ b + n p ≤ 24000 ∧ (∀ k, k < n p → u 52 (b + k) = num p k ∧ u 53 (b + k) = H p k) ∧ (∀ k v, k < n p → zMR lv n num (zu H p k v) (zu u 53 (b + k) v)) ∧ ∀ k v, k < n p → zMR lv n (zu num p k v) H (zu u 52 (b + k) v) := by
  obtain ⟨us, B, a3, a4, a5, a6⟩ := h
  obtain ⟨b1, b4, b5⟩ := a5 p hp
  refine ⟨B p, b1.1, by omega, b5, fun k v hk => ?_, fun k v hk => ?_⟩
  · refine ⟨us, B, by rw [zu_ne1 (by decide)]; exact a3, a4, fun x hx => ?_, a6⟩
    obtain ⟨c1, c4, c5⟩ := a5 x hx
    refine ⟨by rw [zu_ne1 (by decide)]; exact c1, c4, fun j hj => ⟨by rw [zu_ne1 (by decide)]; exact (c5 j hj).1, ?_⟩⟩
    by_cases e : x = p
    · subst e
      by_cases ej : j = k
      · subst ej; rw [zu_same, zu_same]
      · rw [zu_ne2 (by omega), zu_ne2 ej]; exact (c5 j hj).2
    · have := a6 x p hx hp e
      rw [zu_ne2 (by omega), zu_ne1 e]; exact (c5 j hj).2
  · refine ⟨us, B, by rw [zu_ne1 (by decide)]; exact a3, a4, fun x hx => ?_, a6⟩
    obtain ⟨c1, c4, c5⟩ := a5 x hx
    refine ⟨by rw [zu_ne1 (by decide)]; exact c1, c4, fun j hj => ⟨?_, by rw [zu_ne1 (by decide)]; exact (c5 j hj).2⟩⟩
    by_cases e : x = p
    · subst e
      by_cases ej : j = k
      · subst ej; rw [zu_same, zu_same]
      · rw [zu_ne2 (by omega), zu_ne2 ej]; exact (c5 j hj).1
    · have := a6 x p hx hp e
      rw [zu_ne2 (by omega), zu_ne1 e]; exact (c5 j hj).1
theorem zCh_get {lv : Nat → Prop} {n : Nat → Nat} {num H t : zS} {p k : Nat} (h : zMC lv n num H t) (hp : lv p) (hp2 : p < 2501) (hk : k < n p) : mX8_channel (Int32.ofNat p) (Int32.ofNat k) t = some (H p k, t) := by
  obtain ⟨b, b1, b2, b3, b4, _⟩ := zMC_at h hp
  unfold mX8_channel
  rw [zn_get hp2 (by decide), pl_bd, b1, zn_add, zn_get (by omega) (by decide), pl_bd, (b4 k hk).2]
theorem zCh_set {lv : Nat → Prop} {n : Nat → Nat} {num H t : zS} {p k : Nat} {v : Int32} (h : zMC lv n num H t) (hp : lv p) (hp2 : p < 2501) (hk : k < n p) : ∃ t2, mX8_setChannel (Int32.ofNat p) (Int32.ofNat k) v t = some (0, t2) ∧ zMC lv n num (zu H p k v) t2 ∧ ∀ r, ¬ r = 145 → t2 r = t r := by
  obtain ⟨b, b1, b2, b3, b4, b5, _⟩ := zMC_at h hp
  refine ⟨zu t 145 (b + k) v, ?_, b5 k v hk, fun r hr => zu_row hr⟩
  unfold mX8_setChannel
  rw [zn_get hp2 (by decide), pl_bd, b1, zn_add, zn_set (by omega) (by decide), pl_bd]
theorem zNu_set {lv : Nat → Prop} {n : Nat → Nat} {num H t : zS} {p k : Nat} {v : Int32} (h : zMC lv n num H t) (hp : lv p) (hp2 : p < 2501) (hk : k < n p) : ∃ t2, mX8_setNumber (Int32.ofNat p) (Int32.ofNat k) v t = some (0, t2) ∧ zMC lv n (zu num p k v) H t2 ∧ ∀ r, ¬ r = 143 → t2 r = t r := by
  obtain ⟨b, b1, b2, b3, b4, _, b6⟩ := zMC_at h hp
  refine ⟨zu t 143 (b + k) v, ?_, b6 k v hk, fun r hr => zu_row hr⟩
  unfold mX8_setNumber
  rw [zn_get hp2 (by decide), pl_bd, b1, zn_add, zn_set (by omega) (by decide), pl_bd]
