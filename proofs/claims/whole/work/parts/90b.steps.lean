/-! EXPRESSIONS: steps of the class against the reference's code -/
def zOp (x y : Int32) : Prop := (x = y ∧ (x = 43 ∨ x = 45 ∨ x = 42 ∨ x = 47 ∨ x = 37 ∨ x = 60)) ∨ (x = 256 ∧ y = 69)
def zS1 (K V C : Nat → Int32) (n hb F c h c2 h2 : Nat) : Prop :=
  (K F = 18 ∧ C c = 1 ∧ V F = C (c + 1) ∧ c2 = c + 2 ∧ h2 = h + 1 ∧ h + 1 ≤ hb) ∨
  (K F = 17 ∧ C c = 2 ∧ (∃ k, k < n ∧ V F = Int32.ofNat k ∧ C (c + 1) = Int32.ofNat k) ∧ c2 = c + 2 ∧ h2 = h + 1 ∧ h + 1 ≤ hb) ∨
  (K F = 257 ∧ C c = 3 ∧ 1 ≤ h ∧ c2 = c + 1 ∧ h2 = h) ∨
  (zOp (K F) (C c) ∧ 2 ≤ h ∧ c2 = c + 1 ∧ h2 + 1 = h)
def zSg (K V C : Nat → Int32) (n hb : Nat) : Nat → Nat → Nat → Nat → Nat → Nat → Prop
  | 0, _, c, h, c2, h2 => c2 = c ∧ h2 = h
  | l + 1, F, c, h, c2, h2 => ∃ c1 h1, zS1 K V C n hb F c h c1 h1 ∧ zSg K V C n hb l (F + 1) c1 h1 c2 h2
theorem zSg_app {K V C : Nat → Int32} {n hb : Nat} : ∀ (a : Nat) {b F c h c1 h1 c2 h2 : Nat}, zSg K V C n hb a F c h c1 h1 → zSg K V C n hb b (F + a) c1 h1 c2 h2 → zSg K V C n hb (a + b) F c h c2 h2 := by
  intro a
  induction a with
  | zero =>
    intro b F c h c1 h1 c2 h2 ha hb'
    obtain ⟨e1, e2⟩ := ha
    subst e1 e2
    rw [Nat.zero_add]; exact hb'
  | succ a ih =>
    intro b F c h c1 h1 c2 h2 ha hb'
    obtain ⟨c3, h3, x1, x2⟩ := ha
    rw [show a + 1 + b = (a + b) + 1 by omega]
    exact ⟨c3, h3, x1, ih x2 (by rw [show F + 1 + a = F + (a + 1) by omega]; exact hb')⟩
theorem zS1_le {K V C : Nat → Int32} {n hb F c h c2 h2 : Nat} (h' : zS1 K V C n hb F c h c2 h2) : c < c2 ∧ c2 ≤ c + 2 := by
  rcases h' with h' | h' | h' | h'
  · omega
  · obtain ⟨_, _, _, h', _⟩ := h'; omega
  · omega
  · obtain ⟨_, _, h', _⟩ := h'; omega
theorem zSg_le {K V C : Nat → Int32} {n hb : Nat} : ∀ (l : Nat) {F c h c2 h2 : Nat}, zSg K V C n hb l F c h c2 h2 → c + l ≤ c2 := by
  intro l
  induction l with
  | zero => intro F c h c2 h2 h'; obtain ⟨e, _⟩ := h'; omega
  | succ l ih =>
    intro F c h c2 h2 h'
    obtain ⟨c1, h1, x1, x2⟩ := h'
    have := zS1_le x1
    have := ih x2
    omega
theorem zS1_of {K V C K2 V2 C2 : Nat → Int32} {n n2 hb hb2 F c h c2 h2 : Nat} (h' : zS1 K V C n hb F c h c2 h2) (hn : n ≤ n2) (hh : hb ≤ hb2) (hK : K2 F = K F) (hV : V2 F = V F) (hC : ∀ j, c ≤ j → j < c2 → C2 j = C j) : zS1 K2 V2 C2 n2 hb2 F c h c2 h2 := by
  have hle := zS1_le h'
  unfold zS1 at *
  rw [hK, hV, hC c (Nat.le_refl _) (by omega)]
  rcases h' with ⟨a1, a2, a3, a4, a5, a6⟩ | ⟨a1, a2, ⟨k, k1, k2, k3⟩, a4, a5, a6⟩ | h' | h'
  · rw [hC (c + 1) (by omega) (by omega)]; exact Or.inl ⟨a1, a2, a3, a4, a5, by omega⟩
  · rw [hC (c + 1) (by omega) (by omega)]; exact Or.inr (Or.inl ⟨a1, a2, ⟨k, by omega, k2, k3⟩, a4, a5, by omega⟩)
  · exact Or.inr (Or.inr (Or.inl h'))
  · exact Or.inr (Or.inr (Or.inr h'))
theorem zSg_of {K V C K2 V2 C2 : Nat → Int32} {n n2 hb hb2 : Nat} (hn : n ≤ n2) (hh : hb ≤ hb2) : ∀ (l : Nat) {F c h c2 h2 : Nat}, zSg K V C n hb l F c h c2 h2 → (∀ j, F ≤ j → j < F + l → K2 j = K j ∧ V2 j = V j) → (∀ j, c ≤ j → j < c2 → C2 j = C j) → zSg K2 V2 C2 n2 hb2 l F c h c2 h2 := by
  intro l
  induction l with
  | zero => intro F c h c2 h2 h' _ _; exact h'
  | succ l ih =>
    intro F c h c2 h2 h' hK hC
    obtain ⟨c1, h1, x1, x2⟩ := h'
    have l1 := zS1_le x1
    have l2 := zSg_le l x2
    exact ⟨c1, h1, zS1_of x1 hn hh (hK F (Nat.le_refl _) (by omega)).1 (hK F (Nat.le_refl _) (by omega)).2 (fun j j1 j2 => hC j j1 (by omega)), ih x2 (fun j j1 j2 => hK j (by omega) (by omega)) (fun j j1 j2 => hC j (by omega) j2)⟩
theorem zSg_1 {K V C : Nat → Int32} {n hb F c h c2 h2 : Nat} (h' : zS1 K V C n hb F c h c2 h2) : zSg K V C n hb 1 F c h c2 h2 := ⟨c2, h2, h', rfl, rfl⟩
/-! both readers inside EXPRESSIONS -/
def zpEC (k j : Nat) : Bool := if k = 51 then !(j == 6) else !(k == 5 || k == 39 || k == 47 || k == 49 || k == 75 || k == 77)
def zpEM (k j : Nat) : Bool := if k = 0 then !((decide (4 ≤ j) && decide (j ≤ 11)) || j == 42) else !(k == 3 || k == 4 || k == 27 || k == 31 || k == 33)
def zEB (G : zTxt) (i d p b n F C : Nat) (t u : zS) : Prop := zAt G i t u ∧ t 5 13 = Int32.ofNat d ∧ u 0 10 = Int32.ofNat d ∧ zSl G i p b n t u ∧ t 51 6 = Int32.ofNat F ∧ u 0 42 = Int32.ofNat C
def zES (G : zTxt) (i d p b n F C : Nat) (t u : zS) : Prop := zEB G i d p b n F C t u ∧ F ≤ i ∧ C ≤ 2 * i ∧ b + n ≤ i
def zEX (p b n F C n2 F2 C2 : Nat) (t u t2 u2 : zS) : Prop := n ≤ n2 ∧ F ≤ F2 ∧ C ≤ C2 ∧ zFP zpEC t t2 ∧ zFP zpEM u u2 ∧ (∀ q, ¬ q = p → t2 39 q = t 39 q) ∧ (∀ q, ¬ q = p + 1 → u2 31 q = u 31 q) ∧ (∀ k, k < b + n → u2 33 k = u 33 k) ∧ (∀ k, k < F → t2 75 k = t 75 k ∧ t2 77 k = t 77 k) ∧ (∀ c, c < C → u2 27 c = u 27 c) ∧ t2 5 7 = t 5 7
theorem zEX_refl {p b n F C : Nat} {t u : zS} : zEX p b n F C n F C t u t u := ⟨Nat.le_refl _, Nat.le_refl _, Nat.le_refl _, zFP_refl _ _, zFP_refl _ _, fun _ _ => rfl, fun _ _ => rfl, fun _ _ => rfl, fun _ _ => ⟨rfl, rfl⟩, fun _ _ => rfl, rfl⟩
