/-! a text is too short for too many slots -/
def zLen (G : zTxt) (j : Nat) : Nat := zend G.1 G.2.1 (zpos G.1 G.2.1 j) - zpos G.1 G.2.1 j
abbrev zIw (G : zTxt) (j : Nat) : Prop := j < G.2.2.1 ∧ zltb (G.1 (zpos G.1 G.2.1 j)) = true
/-- bytes of words of letters, with one behind each -/
def zCw (G : zTxt) : Nat → Nat
  | 0 => 0
  | i + 1 => zCw G i + (if zIw G i then zLen G i + 1 else 0)
theorem zCw_le {G : zTxt} (W : zWf G.1 G.2.1 G.2.2.1 G.2.2.2) : ∀ i, i ≤ G.2.2.1 → zCw G i ≤ zpos G.1 G.2.1 i + 1 ∧ (i < G.2.2.1 → zaln (G.1 (zpos G.1 G.2.1 i)) = true → zCw G i ≤ zpos G.1 G.2.1 i) := by
  intro i
  induction i with
  | zero => intro _; exact ⟨Nat.zero_le _, fun _ _ => Nat.zero_le _⟩
  | succ i ih =>
    intro hi
    obtain ⟨a1, a2⟩ := ih (by omega)
    have hp := (W.2.2.1 i (by omega)).1
    have hnx := zpos_next hp
    have hz := zend_lt (g := G.1) hp
    by_cases hw : zIw G i
    · have e : zCw G (i + 1) = zCw G i + (zLen G i + 1) := by
        show zCw G i + (if zIw G i then zLen G i + 1 else 0) = _
        rw [if_pos hw]
      have l := a2 (by omega) (zaln_of hw.2)
      have el : zLen G i = zend G.1 G.2.1 (zpos G.1 G.2.1 i) - zpos G.1 G.2.1 i := rfl
      refine ⟨by omega, fun h1 h2 => ?_⟩
      have hp1 := (W.2.2.1 (i + 1) h1).1
      have ne : ¬ zend G.1 G.2.1 (zpos G.1 G.2.1 i) = zpos G.1 G.2.1 (i + 1) := fun q => by
        have ee : zend G.1 G.2.1 (zpos G.1 G.2.1 i) = zrun zaln G.1 G.2.1 (G.2.1 - zpos G.1 G.2.1 i) (zpos G.1 G.2.1 i) := by
          unfold zend; rw [if_pos hw.2]
        have := zrun_end (f := zaln) (g := G.1) (n := G.2.1) (G.2.1 - zpos G.1 G.2.1 i) (zpos G.1 G.2.1 i) (by omega) (by rw [← ee, q]; exact hp1)
        rw [← ee, q, h2] at this
        exact absurd this (by decide)
      omega
    · have e : zCw G (i + 1) = zCw G i := by
        show zCw G i + (if zIw G i then zLen G i + 1 else 0) = _
        rw [if_neg hw]; rfl
      exact ⟨by omega, fun _ _ => by omega⟩
abbrev zKw (v : Nat) : Prop := v = 7 ∨ v = 10 ∨ v = 12
def zQ1 (G : zTxt) (j : Nat) : Bool := decide (zIw G j ∧ ¬ zKw (G.2.2.2 j))
def zQ2 (G : zTxt) (j : Nat) : Bool := decide (zIw G j ∧ ¬ zKw (G.2.2.2 j) ∧ zLen G j = 1)
theorem zLs_ap {P : Nat → Bool} {V : Nat → Nat} {j : Nat} (h : P j = true) (h2 : ¬ V j ∈ zLs P V j) : (zLs P V (j + 1)).length = (zLs P V j).length + 1 := by
  show (if P j = true ∧ ¬ V j ∈ zLs P V j then zLs P V j ++ [V j] else zLs P V j).length = _
  rw [if_pos ⟨h, h2⟩, List.length_append]; rfl
theorem zLs_sm {P : Nat → Bool} {V : Nat → Nat} {j : Nat} (h : ¬ (P j = true ∧ ¬ V j ∈ zLs P V j)) : zLs P V (j + 1) = zLs P V j := by
  show (if P j = true ∧ ¬ V j ∈ zLs P V j then zLs P V j ++ [V j] else zLs P V j) = _
  rw [if_neg h]
theorem zLs_up {P : Nat → Bool} {V : Nat → Nat} {j : Nat} : (zLs P V j).length ≤ (zLs P V (j + 1)).length := by
  by_cases q : P j = true ∧ ¬ V j ∈ zLs P V j
  · rw [zLs_ap q.1 q.2]; omega
  · rw [zLs_sm q]; omega
theorem zLs_inM {P : Nat → Bool} {V : Nat → Nat} {j : Nat} (h : P j = true) : ∀ k, j < k → V j ∈ zLs P V k := by
  intro k
  induction k with
  | zero => intro h; omega
  | succ k ih =>
    intro hk
    by_cases e : j = k
    · subst e; exact zLs_in h
    · have := ih (by omega)
      by_cases q : P k = true ∧ ¬ V k ∈ zLs P V k
      · show V j ∈ (if P k = true ∧ ¬ V k ∈ zLs P V k then zLs P V k ++ [V k] else zLs P V k)
        rw [if_pos q]; exact List.mem_append_left _ this
      · rw [zLs_sm q]; exact this
theorem zCount {G : zTxt} (W : zWf G.1 G.2.1 G.2.2.1 G.2.2.2) : ∀ i, i ≤ G.2.2.1 → 3 * (zLs (zQ1 G) G.2.2.2 i).length + 3 * zKc G i ≤ zCw G i + (zLs (zQ2 G) G.2.2.2 i).length := by
  intro i
  induction i with
  | zero => intro _; exact Nat.le_refl _
  | succ i ih =>
    intro hi
    have ih := ih (by omega)
    have hp := (W.2.2.1 i (by omega)).1
    have hz := zend_lt (g := G.1) hp
    have el : zLen G i = zend G.1 G.2.1 (zpos G.1 G.2.1 i) - zpos G.1 G.2.1 i := rfl
    have up := zLs_up (P := zQ2 G) (V := G.2.2.2) (j := i)
    by_cases hw : zIw G i
    · have e : zCw G (i + 1) = zCw G i + (zLen G i + 1) := by
        show zCw G i + (if zIw G i then zLen G i + 1 else 0) = _
        rw [if_pos hw]
      by_cases hk : zKw (G.2.2.2 i)
      · have ek : zKc G (i + 1) = zKc G i + 1 := by
          show zKc G i + (if _ then 1 else 0) = _
          rw [if_pos ⟨hw.1, hw.2, hk⟩]
        have e1 : zLs (zQ1 G) G.2.2.2 (i + 1) = zLs (zQ1 G) G.2.2.2 i := zLs_sm (fun q => by have := of_decide_eq_true q.1; exact this.2 hk)
        have l2 : 2 ≤ zLen G i := by
          have l := fun k (h : k < 18) (h2 : G.2.2.2 i = k) => ((W.2.2.2.2 i k hw.1 h hw.2).mp h2).1
          rw [el]
          rcases hk with q | q | q
          · rw [l 7 (by decide) q]; decide
          · rw [l 10 (by decide) q]; decide
          · rw [l 12 (by decide) q]; decide
        rw [e1, ek, e]
        omega
      · have ek : zKc G (i + 1) = zKc G i := by
          show zKc G i + (if _ then 1 else 0) = _
          rw [if_neg (fun q => hk q.2.2), Nat.add_zero]
        rw [ek, e]
        by_cases q : G.2.2.2 i ∈ zLs (zQ1 G) G.2.2.2 i
        · rw [zLs_sm (fun z => z.2 q)]
          omega
        · have a1 := zLs_ap (P := zQ1 G) (V := G.2.2.2) (j := i) (decide_eq_true ⟨hw, hk⟩) q
          by_cases h1 : zLen G i = 1
          · have a2 := zLs_ap (P := zQ2 G) (V := G.2.2.2) (j := i) (decide_eq_true ⟨hw, hk, h1⟩) (fun z => by
              obtain ⟨k, k1, k2, k3⟩ := zLs_mem i _ z
              have k2' := of_decide_eq_true k2
              have := zLs_inM (P := zQ1 G) (V := G.2.2.2) (j := k) (decide_eq_true ⟨k2'.1, k2'.2.1⟩) i k1
              rw [k3] at this
              exact q this)
            omega
          · omega
    · have e : zCw G (i + 1) = zCw G i := by
        show zCw G i + (if zIw G i then zLen G i + 1 else 0) = _
        rw [if_neg hw]; rfl
      have ek : zKc G (i + 1) = zKc G i := by
        show zKc G i + (if _ then 1 else 0) = _
        rw [if_neg (fun q => hw ⟨q.1, q.2.1⟩), Nat.add_zero]
      have e1 : zLs (zQ1 G) G.2.2.2 (i + 1) = zLs (zQ1 G) G.2.2.2 i := zLs_sm (fun q => by have := of_decide_eq_true q.1; exact hw this.1)
      rw [e1, ek, e]
      omega
def zLcode (x : Int32) : Nat := if 97 ≤ x.toInt then (x.toInt - 97).toNat else (x.toInt - 65).toNat + 26
theorem zLcode_lt {x : Int32} (h : zltb x = true) : zLcode x < 52 := by
  have := zltb_iff.mp h
  unfold zLt at this
  unfold zLcode
  split <;> omega
theorem zLcode_inj {x y : Int32} (h : zltb x = true) (h2 : zltb y = true) (e : zLcode x = zLcode y) : x = y := by
  have a := zltb_iff.mp h
  have b := zltb_iff.mp h2
  unfold zLt at a b
  unfold zLcode at e
  apply pl_ext
  split at e <;> split at e <;> omega
theorem zOnes {G : zTxt} (W : zWf G.1 G.2.1 G.2.2.1 G.2.2.2) (i : Nat) : (zLs (zQ2 G) G.2.2.2 i).length ≤ 52 := by
  have wit : ∀ x, x < (zLs (zQ2 G) G.2.2.2 i).length → ∃ k, zIw G k ∧ zLen G k = 1 ∧ (zLs (zQ2 G) G.2.2.2 i)[x]? = some (G.2.2.2 k) := fun x hx => by
    have h1 : (zLs (zQ2 G) G.2.2.2 i)[x]? = some (zLs (zQ2 G) G.2.2.2 i)[x] := List.getElem?_eq_getElem hx
    obtain ⟨k, k1, k2, k3⟩ := zLs_mem i _ (List.mem_of_getElem? h1)
    have k2' := of_decide_eq_true k2
    exact ⟨k, k2'.1, k2'.2.2, by rw [h1, k3]⟩
  obtain ⟨F, hF⟩ : ∃ F : Nat → Nat, ∀ x, x < (zLs (zQ2 G) G.2.2.2 i).length → zIw G (F x) ∧ zLen G (F x) = 1 ∧ (zLs (zQ2 G) G.2.2.2 i)[x]? = some (G.2.2.2 (F x)) := by
    refine ⟨fun x => if h : x < (zLs (zQ2 G) G.2.2.2 i).length then Classical.choose (wit x h) else 0, fun x hx => ?_⟩
    show _
    simp only [dif_pos hx]
    exact Classical.choose_spec (wit x hx)
  refine zpig 52 _ (fun x => zLcode (G.1 (zpos G.1 G.2.1 (F x)))) (fun x hx => zLcode_lt (hF x hx).1.2) (fun x y hx hy e => ?_)
  obtain ⟨a1, a2, a3⟩ := hF x hx
  obtain ⟨b1, b2, b3⟩ := hF y hy
  have ee := zLcode_inj a1.2 b1.2 e
  have tx : zTx G.1 G.2.1 (F x) (F y) := ⟨a2.trans b2.symm, fun j hj => by
    have : j < 1 := by rw [← a2]; exact hj
    have e0 : j = 0 := by omega
    subst e0; exact ee⟩
  have ev := (W.2.2.2.1 (F x) (F y) a1.1 b1.1 a1.2 b1.2).mpr tx
  rw [← ev] at b3
  exact zLs_inj i x y _ a3 b3
theorem zFew {G : zTxt} {n : Nat} {m : Nat → Nat} (W : zWf G.1 G.2.1 G.2.2.1 G.2.2.2) (h : ∀ j, j < n → zWd G G.2.2.1 (m j)) (hi : ∀ j l, j < n → l < n → m j = m l → j = l) : n ≤ (zLs (zQ1 G) G.2.2.2 G.2.2.1).length + 3 := by
  have wit : ∀ j, j < n → ¬ zKw (m j) → ∃ x, (zLs (zQ1 G) G.2.2.2 G.2.2.1)[x]? = some (m j) := fun j hj hk => by
    obtain ⟨k, k1, k2, k3, k4⟩ := h j hj
    have := zLs_inM (P := zQ1 G) (V := G.2.2.2) (j := k) (decide_eq_true ⟨⟨k2, k3⟩, by rw [k4]; exact hk⟩) G.2.2.1 k2
    rw [k4] at this
    exact List.getElem?_of_mem this
  obtain ⟨F, hF⟩ : ∃ F : Nat → Nat, ∀ j, j < n → ¬ zKw (m j) → (zLs (zQ1 G) G.2.2.2 G.2.2.1)[F j]? = some (m j) := by
    refine ⟨fun j => if h : j < n ∧ ¬ zKw (m j) then Classical.choose (wit j h.1 h.2) else 0, fun j h1 h2 => ?_⟩
    show _
    simp only [dif_pos (show j < n ∧ ¬ zKw (m j) from ⟨h1, h2⟩)]
    exact Classical.choose_spec (wit j h1 h2)
  obtain ⟨L, eL⟩ : ∃ L, L = (zLs (zQ1 G) G.2.2.2 G.2.2.1).length := ⟨_, rfl⟩
  rw [← eL]
  have lt : ∀ j, j < n → ¬ zKw (m j) → F j < L := fun j h1 h2 => by rw [eL]; exact zLs_lt (hF j h1 h2)
  refine zpig (L + 3) n (fun j => if m j = 7 then L else if m j = 10 then L + 1 else if m j = 12 then L + 2 else F j) (fun j hj => ?_) (fun j l hj hl e => ?_)
  · show (if m j = 7 then L else if m j = 10 then L + 1 else if m j = 12 then L + 2 else F j) < L + 3
    by_cases c : zKw (m j)
    · rcases c with c | c | c <;> rw [c] <;> simp
    · have := lt j hj c
      have c : ¬ (m j = 7 ∨ m j = 10 ∨ m j = 12) := c
      rw [if_neg (by omega), if_neg (by omega), if_neg (by omega)]; omega
  · have e' : (if m j = 7 then L else if m j = 10 then L + 1 else if m j = 12 then L + 2 else F j) = (if m l = 7 then L else if m l = 10 then L + 1 else if m l = 12 then L + 2 else F l) := e
    have val : ∀ j, j < n → (m j = 7 ∧ (if m j = 7 then L else if m j = 10 then L + 1 else if m j = 12 then L + 2 else F j) = L) ∨ (m j = 10 ∧ (if m j = 7 then L else if m j = 10 then L + 1 else if m j = 12 then L + 2 else F j) = L + 1) ∨ (m j = 12 ∧ (if m j = 7 then L else if m j = 10 then L + 1 else if m j = 12 then L + 2 else F j) = L + 2) ∨ (¬ zKw (m j) ∧ (if m j = 7 then L else if m j = 10 then L + 1 else if m j = 12 then L + 2 else F j) = F j) := fun j hj => by
      by_cases c : zKw (m j)
      · rcases c with c | c | c
        · exact Or.inl ⟨c, by rw [if_pos c]⟩
        · exact Or.inr (Or.inl ⟨c, by rw [if_neg (by omega), if_pos c]⟩)
        · exact Or.inr (Or.inr (Or.inl ⟨c, by rw [if_neg (by omega), if_neg (by omega), if_pos c]⟩))
      · exact Or.inr (Or.inr (Or.inr ⟨c, by rw [if_neg (by omega), if_neg (by omega), if_neg (by omega)]⟩))
    refine hi j l hj hl ?_
    rcases val j hj with ⟨a, a2⟩ | ⟨a, a2⟩ | ⟨a, a2⟩ | ⟨a, a2⟩ <;> rcases val l hl with ⟨b, b2⟩ | ⟨b, b2⟩ | ⟨b, b2⟩ | ⟨b, b2⟩ <;> rw [a2, b2] at e'
    case inr.inr.inr.inr.inr.inr =>
      have x := hF j hj a
      have y := hF l hl b
      rw [e', y] at x
      exact (Option.some.inj x).symm
    all_goals first
      | (rw [a, b]; done)
      | (exfalso; omega)
      | (have := lt j hj a; exfalso; omega)
      | (have := lt l hl b; exfalso; omega)
theorem zFits {G : zTxt} {f : Nat → Nat} {N M P A T Q Pa bb S F C R W V : Nat} {o : Nat → Nat × Nat} {w : Nat → Nat} {t u : zS} (hW : zWf G.1 G.2.1 G.2.2.1 G.2.2.2) (h3 : G.2.1 ≤ 3000) (h : zPs2 G f N Q Q Pa bb S F C R W V o w t u) : zFit G Q t := by
  intro q hq
  obtain ⟨n, _, _, _, h39, _, _, _, _, _, _, _, _, _, _, _, m, m1, m2⟩ := h.2.2.2.2.2.2.1 q hq
  have a := zFew hW m1 m2
  have b := zOnes hW G.2.2.1
  have c := zCount hW G.2.2.1 (Nat.le_refl _)
  have d := (zCw_le hW G.2.2.1 (Nat.le_refl _)).1
  have e := hW.1
  refine ⟨n, h39, by omega, fun x x1 x2 => ?_⟩
  have n1 : n ≤ 1019 - x := by omega
  have all : ∀ x, x < 39 → (1019 - x) * (3 + 2 * x) ≤ 80000 := by decide
  exact Nat.le_trans (Nat.mul_le_mul_right _ n1) (all x (by omega))
