/-! all mentions looked up -/
def zDT (B : List Nat) (t u0 u : zS) (m : Nat) : Prop := (u0 5 m = 1 ∨ u0 5 m = 2) ∧ ∃ v w, v < 1600 ∧ u0 6 m = Int32.ofNat w ∧ B[w]? = some v ∧ 0 ≤ t 25 v ∧ u 6 m = t 25 v
def zDQ (t u : zS) (s : Nat) : Prop := (t 87 s = 8 ∨ t 87 s = 9) ∧ ∃ v, v < 1600 ∧ t 93 s = Int32.ofNat v ∧ 0 ≤ t 33 v ∧ u 17 s = t 33 v
/-- the reference's state ahead of mention x -/
def zLo (B : List Nat) (t u0 : zS) (x : Nat) (u : zS) : Prop := (∀ k j, ¬ (k = 6 ∨ k = 17) → u k j = u0 k j) ∧ (∀ m, u 6 m = u0 6 m ∨ zDT B t u0 u m) ∧ (∀ s, u 17 s = u0 17 s ∨ zDQ t u s) ∧ (∀ k m, k < x → m < 10000 → u0 37 k = 0 → u0 38 k = Int32.ofNat m → zDT B t u0 u m) ∧ ∀ k s, k < x → s < 10000 → u0 37 k = 1 → u0 38 k = Int32.ofNat s → zDQ t u s
theorem zLo_fr {B : List Nat} {t u0 u : zS} {x : Nat} (h : zLo B t u0 x u) : ∀ k, ¬ (k = 6 ∨ k = 17) → u k = u0 k := fun k hk => funext fun j => h.1 k j hk
theorem zLo_T {B : List Nat} {t u0 u : zS} {x m v w : Nat} (h : zLo B t u0 x u) (hm : m < 10000) (hv : v < 1600) (hw : B[w]? = some v) (h37 : u0 37 x = 0) (h38 : u0 38 x = Int32.ofNat m) (h6 : u0 6 m = Int32.ofNat w) (h5 : u0 5 m = 1 ∨ u0 5 m = 2) (h0 : 0 ≤ t 25 v) : zLo B t u0 (x + 1) (zu u 6 m (t 25 v)) := by
  obtain ⟨a1, a2, a3, a4, a5⟩ := h
  have new : zDT B t u0 (zu u 6 m (t 25 v)) m := ⟨h5, v, w, hv, h6, hw, h0, zu_same _ _ _ _⟩
  have old : ∀ m', ¬ m' = m → zDT B t u0 u m' → zDT B t u0 (zu u 6 m (t 25 v)) m' := fun m' hne hd => by
    obtain ⟨b1, v', w', b2, b3, b4, b5, b6⟩ := hd
    exact ⟨b1, v', w', b2, b3, b4, b5, by rw [zu_ne2 hne]; exact b6⟩
  have oldQ : ∀ s, zDQ t u s → zDQ t (zu u 6 m (t 25 v)) s := fun s hd => by
    obtain ⟨b1, v', b2, b3, b4, b5⟩ := hd
    exact ⟨b1, v', b2, b3, b4, by rw [zu_ne1 (by decide)]; exact b5⟩
  refine ⟨fun k j hk => by rw [zu_ne1 (fun e => hk (Or.inl e))]; exact a1 k j hk, fun m' => ?_, fun s => ?_, fun k m' hk hm' e1 e2 => ?_, fun k s hk hs e1 e2 => ?_⟩
  · by_cases e : m' = m
    · rw [e]; exact Or.inr new
    · rcases a2 m' with c | c
      · exact Or.inl (by rw [zu_ne2 e]; exact c)
      · exact Or.inr (old m' e c)
  · rcases a3 s with c | c
    · exact Or.inl (by rw [zu_ne1 (by decide)]; exact c)
    · exact Or.inr (oldQ s c)
  · by_cases e : m' = m
    · rw [e]; exact new
    · have hkx : ¬ k = x := fun e' => by
        rw [e', h38] at e2
        exact e ((zn_inj (by omega) (by omega)).mp e2).symm
      exact old m' e (a4 k m' (by omega) hm' e1 e2)
  · have hkx : ¬ k = x := fun e' => by
      rw [e', h37] at e1
      exact absurd e1 (by decide)
    exact oldQ s (a5 k s (by omega) hs e1 e2)
theorem zLo_P {B : List Nat} {t u0 u : zS} {x m v : Nat} (h : zLo B t u0 x u) (hm : m < 10000) (hv : v < 1600) (h37 : u0 37 x = 1) (h38 : u0 38 x = Int32.ofNat m) (h93 : t 93 m = Int32.ofNat v) (h87 : t 87 m = 8 ∨ t 87 m = 9) (h0 : 0 ≤ t 33 v) : zLo B t u0 (x + 1) (zu u 17 m (t 33 v)) := by
  obtain ⟨a1, a2, a3, a4, a5⟩ := h
  have new : zDQ t (zu u 17 m (t 33 v)) m := ⟨h87, v, hv, h93, h0, zu_same _ _ _ _⟩
  have oldQ : ∀ m', ¬ m' = m → zDQ t u m' → zDQ t (zu u 17 m (t 33 v)) m' := fun m' hne hd => by
    obtain ⟨b1, v', b2, b3, b4, b5⟩ := hd
    exact ⟨b1, v', b2, b3, b4, by rw [zu_ne2 hne]; exact b5⟩
  have old : ∀ s, zDT B t u0 u s → zDT B t u0 (zu u 17 m (t 33 v)) s := fun s hd => by
    obtain ⟨b1, v', w', b2, b3, b4, b5, b6⟩ := hd
    exact ⟨b1, v', w', b2, b3, b4, b5, by rw [zu_ne1 (by decide)]; exact b6⟩
  refine ⟨fun k j hk => by rw [zu_ne1 (fun e => hk (Or.inr e))]; exact a1 k j hk, fun m' => ?_, fun s => ?_, fun k m' hk hm' e1 e2 => ?_, fun k s hk hs e1 e2 => ?_⟩
  · rcases a2 m' with c | c
    · exact Or.inl (by rw [zu_ne1 (by decide)]; exact c)
    · exact Or.inr (old m' c)
  · by_cases e : s = m
    · rw [e]; exact Or.inr new
    · rcases a3 s with c | c
      · exact Or.inl (by rw [zu_ne2 e]; exact c)
      · exact Or.inr (oldQ s e c)
  · have hkx : ¬ k = x := fun e' => by
      rw [e', h37] at e1
      exact absurd e1 (by decide)
    exact old m' (a4 k m' (by omega) hm' e1 e2)
  · by_cases e : s = m
    · rw [e]; exact new
    · have hkx : ¬ k = x := fun e' => by
        rw [e', h38] at e2
        exact e ((zn_inj (by omega) (by omega)).mp e2).symm
      exact oldQ s e (a5 k s (by omega) hs e1 e2)
/-- the reference stops at what is wrong -/
theorem pl_lookStop {u : zS} {fu : Nat} {x : Int32} (h : 0 ≤ u 0 9) : lX12_lookUp_2 (fu + 1) x u = some (0, u) := by
  have e : bX12_lookUp_109 u = some (0, u) := by
    show bX12_lookUp_111 (lX12_lookUp_111 (zFU - 1)) 0 u = _
    unfold bX12_lookUp_111
    by_cases c : u 0 22 ≤ 0
    · rw [if_pos c]
    · rw [if_neg c, if_pos h]
  show bX12_lookUp_2 (lX12_lookUp_2 fu) x u = _
  unfold bX12_lookUp_2
  by_cases c : u 0 52 ≤ x
  · rw [if_pos c, e]
  · rw [if_neg c, if_pos h, e]
theorem zLookL {G : zTxt} {i : Nat} {f : Nat → Nat} {N M S q T K : Nat} {t u0 : zS} {n : Int32} (ha : zAt G i t u0) (hk : zAK (zBk G) f N M S q t u0) (hT : zBy (zBk G) T (t 25) (u0 11)) (h22 : u0 0 22 = Int32.ofNat T) (hT4 : T ≤ 400) (hP : zBy (zBk G) K (t 33) (u0 28)) (h44 : u0 0 44 = Int32.ofNat K) (hK : K ≤ 300) (hq : q ≤ 1600) (hM : M ≤ 3100) (hS : S ≤ 1600) : ∀ (d x fu fv : Nat) (u : zS), d + x = q → zLo (zBk G) t u0 x u →
    (∃ u2, lX7_lackingPlace_2 (fu + 2 + d) n (Int32.ofNat x) t = lX7_lackingPlace_2 (fu + 2) n (Int32.ofNat q) t ∧ lX12_lookUp_2 (fv + 2 + d) (Int32.ofNat x) u = lX12_lookUp_2 (fv + 2) (Int32.ofNat q) u2 ∧ zLo (zBk G) t u0 q u2) ∨
    ∃ k u2, 0 ≤ t 54 k ∧ lX7_lackingPlace_2 (fu + 2 + d) n (Int32.ofNat x) t = some (t 54 k, t) ∧ lX12_lookUp_2 (fv + 2 + d) (Int32.ofNat x) u = some (0, u2) ∧ u2 0 9 = t 54 k ∧ ∀ k j, ¬ (k = 6 ∨ k = 17) → ¬ (k = 0 ∧ j = 9) → u2 k j = u0 k j := by
  intro d
  induction d with
  | zero =>
    intro x fu fv u hd hL
    have e : x = q := by omega
    subst e
    exact Or.inl ⟨u, rfl, rfl, hL⟩
  | succ d ih =>
    intro x fu fv u hd hL
    have fr := zLo_fr hL
    have r0 : ∀ j, u 0 j = u0 0 j := fun j => by rw [fr 0 (by decide)]
    have ha2 : zAt G i t u := zAt_of ha (fun _ _ _ => rfl) rfl rfl (fun j _ _ => r0 j) (fr 2 (by decide)) (fr 3 (by decide)) (fr 4 (by decide))
    have h9 : u 0 9 = -1 := (zAt_m1 ha2).2
    obtain ⟨⟨b1, b2⟩, v, w, b3, b4, b5, b6⟩ := hk.2.2.1 x (by omega)
    have e36 : u 36 x = t 54 x := by rw [fr 36 (by decide)]; exact b1.symm
    have h52 : u 0 52 = Int32.ofNat q := by rw [r0]; exact hk.2.1
    have stop : ∀ fv', lX12_lookUp_2 (fv' + 1) (Int32.ofNat (x + 1)) (zu u 0 9 (u 36 x)) = some (0, zu u 0 9 (u 36 x)) := fun fv' => pl_lookStop (by rw [zu_same, e36]; exact b2)
    have sfr : ∀ k j, ¬ (k = 6 ∨ k = 17) → ¬ (k = 0 ∧ j = 9) → zu u 0 9 (u 36 x) k j = u0 k j := fun k j k1 k2 => by
      by_cases e0 : k = 0
      · subst e0
        rw [zu_ne2 (fun e => k2 ⟨rfl, e⟩)]; exact hL.1 _ j k1
      · rw [zu_ne1 e0]; exact hL.1 k j k1
    rcases b6 with ⟨c1, c2, m, c3, c4, c5, c6⟩ | ⟨c1, c2, s, c3, c4, c5, c6⟩
    · have sM := pl_lookT (k := x) (fu := fv + 2 + d) h52 (by omega) hq h9 (by rw [fr 37 (by decide)]; exact c2) (by rw [fr 35 (by decide)]; exact b5) (by rw [fr 38 (by decide)]; exact c4) (by omega) (pl_typeOfId ha2 (by rw [fr 11 (by decide)]; exact hT) (by rw [r0]; exact h22) hT4 b3 b4)
      have sC := pl_lackT (k := x) (fu := fu + 2 + d) (n := n) hk.1 (by omega) hq b3 c1
      rw [show fu + 2 + (d + 1) = fu + 2 + d + 1 by omega, show fv + 2 + (d + 1) = fv + 2 + d + 1 by omega, sM, sC]
      by_cases h0 : 0 ≤ t 25 v
      · rw [if_pos h0, if_pos h0]
        exact ih (x + 1) fu fv _ (by omega) (zLo_T hL (by omega) b3 b4 c2 c4 c5 c6 h0)
      · rw [if_neg h0, if_neg h0]
        refine Or.inr ⟨x, _, b2, rfl, ?_, by rw [zu_same]; exact e36, sfr⟩
        rw [show fv + 2 + d = fv + 1 + d + 1 by omega]
        exact stop _
    · have sM := pl_lookP (k := x) (fu := fv + 2 + d) h52 (by omega) hq h9 (by rw [fr 37 (by decide)]; exact c2) (by rw [fr 35 (by decide)]; exact b5) (by rw [fr 38 (by decide)]; exact c4) (by omega) (pl_procOfId ha2 (by rw [fr 28 (by decide)]; exact hP) (by rw [r0]; exact h44) hK b3 b4)
      have sC := pl_lackP (k := x) (fu := fu + 2 + d) (n := n) hk.1 (by omega) hq b3 c1
      rw [show fu + 2 + (d + 1) = fu + 2 + d + 1 by omega, show fv + 2 + (d + 1) = fv + 2 + d + 1 by omega, sM, sC]
      by_cases h0 : 0 ≤ t 33 v
      · rw [if_pos h0, if_pos h0]
        exact ih (x + 1) fu fv _ (by omega) (zLo_P hL (by omega) b3 c2 c4 c5 c6 h0)
      · rw [if_neg h0, if_neg h0]
        refine Or.inr ⟨x, _, b2, rfl, ?_, by rw [zu_same]; exact e36, sfr⟩
        rw [show fv + 2 + d = fv + 1 + d + 1 by omega]
        exact stop _
