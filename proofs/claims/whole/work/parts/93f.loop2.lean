/-! loops of types in lockstep -/
theorem pl_isName {t : zS} {c : Nat} (hc : c < 3000) : mX2_isName (Int32.ofNat c) t = some (if t 9 c = 2 ∨ t 9 c = 3 then 1 else 0, t) := by
  have e : mX5_get 8 3000 (Int32.ofNat c) t = some (t 9 c, t) := zn_get hc (by decide)
  unfold mX2_isName bX2_isName_24
  rw [e, pl_bd]
  by_cases q : t 9 c = 2
  · rw [if_pos q, if_pos (Or.inl q)]
  · rw [if_neg q, e, pl_bd]
    by_cases q3 : t 9 c = 3
    · rw [if_pos q3, if_pos (Or.inr q3)]
    · rw [if_neg q3, if_neg (fun w => w.elim q q3)]
theorem pl_loopEnd {t : zS} {k2 : Int32 → zS → zR} {x i T fu : Nat} {a : Int32} (h15 : t 3 15 = Int32.ofNat T) (hi : T ≤ i) (hi2 : i < 10000) : lX2_loopPlace_14 k2 (fu + 1) (Int32.ofNat x) a (Int32.ofNat i) t = k2 (Int32.ofNat (x + 1)) t := by
  show bX2_loopPlace_14 k2 (lX2_loopPlace_14 k2 fu) _ _ _ t = _
  unfold bX2_loopPlace_14 bX2_loopPlace_80
  rw [h15, if_pos ((zn_le (by omega) (by omega)).mpr hi), pl_let, zn_1]
theorem pl_loopC {t : zS} {k2 : Int32 → zS → zR} {x a i T fu c : Nat} (h15 : t 3 15 = Int32.ofNat T) (hi : i < T) (hT : T ≤ 400) (ha : a < 400) (h21 : t 21 a = Int32.ofNat c) (hc : c < 3000) : lX2_loopPlace_14 k2 (fu + 1) (Int32.ofNat x) (Int32.ofNat a) (Int32.ofNat i) t = if t 9 c = 2 ∨ t 9 c = 3 then zbd (mX5_get 24 1600 (t 11 c) t) fun r t2 => if r = Int32.ofNat x then zbd (mX5_get 22 400 (Int32.ofNat x) t2) fun r t3 => some (r, t3) else lX2_loopPlace_14 k2 fu (Int32.ofNat x) r (Int32.ofNat (i + 1)) t2 else k2 (Int32.ofNat (x + 1)) t := by
  have e20 : mX5_get 20 400 (Int32.ofNat a) t = some (Int32.ofNat c, t) := by rw [← h21]; exact zn_get ha (by decide)
  have e10 : mX5_get 10 3000 (Int32.ofNat c) t = some (t 11 c, t) := zn_get hc (by decide)
  show bX2_loopPlace_14 k2 (lX2_loopPlace_14 k2 fu) _ _ _ t = _
  unfold bX2_loopPlace_14 bX2_loopPlace_80
  rw [h15, if_neg (show ¬ Int32.ofNat T ≤ Int32.ofNat i by rw [zn_le (by omega) (by omega)]; omega), e20, pl_bd, pl_isName hc, pl_bd]
  by_cases q : t 9 c = 2 ∨ t 9 c = 3
  · rw [if_pos q, if_pos q, if_neg pl_10, e20, pl_bd, e10, pl_bd]
    congr 1
    funext r t2
    rw [pl_let, zn_1]
  · rw [if_neg q, if_neg q, if_pos rfl, pl_let, zn_1]
theorem pl_loopM {u : zS} {k111 : Int32 → zS → zR} {x i m T fu : Nat} (h22 : u 0 22 = Int32.ofNat T) (hi : i ≤ T) (hT : T ≤ 400) (hm : m < 3100) : lX12_lookUp_138 k111 (fu + 1) (Int32.ofNat x) (Int32.ofNat m) (Int32.ofNat i) 0 u = if u 5 m = 1 ∨ u 5 m = 2 then zrd u 13 400 (u 6 m) fun v => lX12_lookUp_138 k111 fu (Int32.ofNat x) v (Int32.ofNat (i + 1)) (if u 6 m = Int32.ofNat x then 1 else 0) u else k111 (Int32.ofNat (x + 1)) u := by
  show bX12_lookUp_138 k111 (lX12_lookUp_138 k111 fu) _ _ _ _ u = _
  unfold bX12_lookUp_138 bX12_lookUp_171 bX12_lookUp_186 bX12_lookUp_206 bX12_lookUp_221
  rw [if_pos rfl, h22, if_neg (show ¬ Int32.ofNat T < Int32.ofNat i by rw [zn_lt (by omega) (by omega)]; omega)]
  simp only [zn_rd hm (show 3100 < 2147483648 by decide), pl_let, zn_1, if_true]
  by_cases q1 : u 5 m = 1
  · rw [if_pos q1, if_pos (Or.inl q1)]
    by_cases q : u 6 m = Int32.ofNat x
    · rw [if_pos q, if_pos q]
    · rw [if_neg q, if_neg q]
  · rw [if_neg q1]
    by_cases q2 : u 5 m = 2
    · rw [if_pos q2, if_pos (Or.inr q2)]
      by_cases q : u 6 m = Int32.ofNat x
      · rw [if_pos q, if_pos q]
      · rw [if_neg q, if_neg q]
    · rw [if_neg q2, if_neg (fun w => w.elim q1 q2)]
theorem pl_loopMend {u : zS} {k111 : Int32 → zS → zR} {x i T fu : Nat} {m : Int32} (h22 : u 0 22 = Int32.ofNat T) (hi : T < i) (hi2 : i < 10000) : lX12_lookUp_138 k111 (fu + 1) (Int32.ofNat x) m (Int32.ofNat i) 0 u = k111 (Int32.ofNat (x + 1)) u := by
  show bX12_lookUp_138 k111 (lX12_lookUp_138 k111 fu) _ _ _ _ u = _
  unfold bX12_lookUp_138 bX12_lookUp_206 bX12_lookUp_221
  rw [if_pos rfl, h22, if_pos ((zn_lt (by omega) (by omega)).mpr hi), if_pos rfl, pl_let, zn_1]
theorem pl_loopMhit {u : zS} {k111 : Int32 → zS → zR} {x fu : Nat} {m i : Int32} (hx : x < 400) : lX12_lookUp_138 k111 (fu + 1) (Int32.ofNat x) m i 1 u = k111 (Int32.ofNat (x + 1)) (zu u 0 9 (u 12 x)) := by
  show bX12_lookUp_138 k111 (lX12_lookUp_138 k111 fu) _ _ _ _ u = _
  unfold bX12_lookUp_138 bX12_lookUp_206 bX12_lookUp_221
  rw [if_neg pl_10, if_neg pl_10, zn_rd hx (by decide), pl_pt, pl_let, zn_1]
/-- from one type on -/
theorem zLoop1 {G : zTxt} {f : Nat → Nat} {N M P A T x : Nat} {t u : zS} {k2 k111 : Int32 → zS → zR} (h : zTD (zBk G) (zRn T (t 25)) f [] N M P A t u) (hd : zDs2 G f N T t u) (hx : x < T) (hN : N ≤ 3000) (hM : M ≤ 3100) (hT : T ≤ 400) : ∀ (d i a fu fv : Nat), d + i = T → a < T → zIt (zNx t) i x = some a → (∀ j, 1 ≤ j → j ≤ i → ¬ zIt (zNx t) j x = some x) →
    (lX2_loopPlace_14 k2 (fu + d + 1) (Int32.ofNat x) (Int32.ofNat a) (Int32.ofNat i) t = some (t 23 x, t) ∧ lX12_lookUp_138 k111 (fv + d + 3) (Int32.ofNat x) (u 13 a) (Int32.ofNat i) 0 u = k111 (Int32.ofNat (x + 1)) (zu u 0 9 (u 12 x))) ∨
    (lX2_loopPlace_14 k2 (fu + d + 1) (Int32.ofNat x) (Int32.ofNat a) (Int32.ofNat i) t = k2 (Int32.ofNat (x + 1)) t ∧ lX12_lookUp_138 k111 (fv + d + 3) (Int32.ofNat x) (u 13 a) (Int32.ofNat i) 0 u = k111 (Int32.ofNat (x + 1)) u ∧ ∀ j, 1 ≤ j → j ≤ T → ¬ zIt (zNx t) j x = some x) := by
  intro d
  have h15 : t 3 15 = Int32.ofNat T := hd.1
  have h22 : u 0 22 = Int32.ofNat T := hd.2.1
  induction d with
  | zero =>
    intro i a fu fv hdi ha hit hno
    have ei : i = T := by omega
    subst ei
    refine Or.inr ⟨pl_loopEnd h15 (Nat.le_refl _) (by omega), ?_, hno⟩
    obtain ⟨c, c1, c2, c3, c4, ⟨e1, e2, e3⟩ | ⟨v, k, e1, e2, e3, e4, e5, e6, e7⟩⟩ := zNx_at h hd ha hN hT
    · rw [c4, show fv + 0 + 3 = fv + 2 + 1 by omega, pl_loopM h22 (Nat.le_refl _) hT (by omega), if_neg e3]
    · rw [c4, show fv + 0 + 3 = fv + 2 + 1 by omega, pl_loopM h22 (Nat.le_refl _) hT (by omega), if_pos (show u 5 (f c) = 1 ∨ u 5 (f c) = 2 by rcases e2 with e | e; exact Or.inl e.2; exact Or.inr e.2), e6, zn_rd (by omega) (by decide)]
      have ne : ¬ Int32.ofNat k = Int32.ofNat x := fun w => by
        have e := (zn_inj (by omega) (by omega)).mp w
        subst e
        have hl : zIt (zNx t) (i + 1) k = some k := by
          show (zIt (zNx t) i k).bind (zNx t) = some k
          rw [hit]; exact e1
        obtain ⟨j, j1, j2, j3⟩ := zLate hx (zNx_lt h hd hN hT) hl
        exact hno j j1 j2 j3
      rw [if_neg ne, pl_loopMend h22 (by omega) (by omega)]
  | succ d ih =>
    intro i a fu fv hdi ha hit hno
    obtain ⟨c, c1, c2, c3, c4, ⟨e1, e2, e3⟩ | ⟨v, k, e1, e2, e3, e4, e5, e6, e7⟩⟩ := zNx_at h hd ha hN hT
    · refine Or.inr ⟨?_, ?_, fun j j1 j2 w => ?_⟩
      · rw [pl_loopC h15 (by omega) hT (by omega) c3 (by omega), if_neg e2]
      · rw [c4, show fv + (d + 1) + 3 = fv + d + 3 + 1 by omega, pl_loopM h22 (by omega) hT (by omega), if_neg e3]
      · by_cases q : j ≤ i
        · exact hno j j1 q w
        · obtain ⟨y, hy⟩ := zIt_pre w (show i + 1 ≤ j by omega)
          have hy' : (zIt (zNx t) i x).bind (zNx t) = some y := hy
          rw [hit] at hy'
          exact absurd (e1.symm.trans hy') (by simp)
    · have hn1 : zIt (zNx t) (i + 1) x = some k := by
        show (zIt (zNx t) i x).bind (zNx t) = some k
        rw [hit]; exact e1
      have g24 : mX5_get 24 1600 (t 11 c) t = some (Int32.ofNat k, t) := by rw [e4, ← e5]; exact zn_get e3 (by decide)
      rw [show fu + (d + 1) + 1 = fu + d + 1 + 1 by omega, pl_loopC h15 (by omega) hT (by omega) c3 (by omega), if_pos (show t 9 c = 2 ∨ t 9 c = 3 by rcases e2 with e | e; exact Or.inl e.1; exact Or.inr e.1), g24, pl_bd]
      rw [c4, show fv + (d + 1) + 3 = fv + d + 3 + 1 by omega, pl_loopM h22 (by omega) hT (by omega), if_pos (show u 5 (f c) = 1 ∨ u 5 (f c) = 2 by rcases e2 with e | e; exact Or.inl e.2; exact Or.inr e.2), e6, zn_rd (by omega) (by decide)]
      by_cases q : Int32.ofNat k = Int32.ofNat x
      · rw [if_pos q, if_pos q]
        have g22 : mX5_get 22 400 (Int32.ofNat x) t = some (t 23 x, t) := zn_get (by omega) (by decide)
        rw [g22, pl_bd]
        refine Or.inl ⟨rfl, ?_⟩
        rw [show fv + d + 3 = fv + d + 2 + 1 by omega, pl_loopMhit (by omega)]
      · rw [if_neg q, if_neg q]
        refine ih (i + 1) k fu fv (by omega) e7 hn1 (fun j j1 j2 => ?_)
        by_cases e : j = i + 1
        · subst e
          rw [hn1]
          exact fun w => q (by rw [Option.some.inj w])
        · exact hno j j1 (by omega)
/-- the loop over the types -/
theorem zLoopAll {G : zTxt} {f : Nat → Nat} {N M P A T : Nat} {t u : zS} (h : zTD (zBk G) (zRn T (t 25)) f [] N M P A t u) (hd : zDs2 G f N T t u) (h9 : u 0 9 = -1) (hN : N ≤ 3000) (hM : M ≤ 3100) (hT : T ≤ 400) : ∀ (d x fu fv : Nat), d + x = T →
    (lX2_loopPlace_2 (fu + d + 1) (Int32.ofNat x) t = some (-1, t) ∧ lX12_lookUp_111 (fv + d + 1) (Int32.ofNat x) u = some (0, u) ∧ ∀ y j, x ≤ y → y < T → 1 ≤ j → j ≤ T → ¬ zIt (zNx t) j y = some y) ∨
    ∃ p, 0 ≤ p ∧ lX2_loopPlace_2 (fu + d + 1) (Int32.ofNat x) t = some (p, t) ∧ lX12_lookUp_111 (fv + d + 1) (Int32.ofNat x) u = some (0, zu u 0 9 p) := by
  intro d
  have h15 : t 3 15 = Int32.ofNat T := hd.1
  have h22 : u 0 22 = Int32.ofNat T := hd.2.1
  induction d with
  | zero =>
    intro x fu fv hdx
    refine Or.inl ⟨?_, ?_, fun y j y1 y2 => by omega⟩
    · show bX2_loopPlace_2 (lX2_loopPlace_2 (fu + 0)) _ t = _
      unfold bX2_loopPlace_2
      rw [h15, if_pos ((zn_le (by omega) (by omega)).mpr (by omega))]
    · show bX12_lookUp_111 (lX12_lookUp_111 (fv + 0)) _ u = _
      unfold bX12_lookUp_111
      rw [h22, if_pos ((zn_le (by omega) (by omega)).mpr (by omega))]
  | succ d ih =>
    intro x fu fv hdx
    have eC : lX2_loopPlace_2 (fu + (d + 1) + 1) (Int32.ofNat x) t = lX2_loopPlace_14 (lX2_loopPlace_2 (fu + d + 1)) zFU (Int32.ofNat x) (Int32.ofNat x) (Int32.ofNat 0) t := by
      show bX2_loopPlace_2 (lX2_loopPlace_2 (fu + (d + 1))) _ t = _
      unfold bX2_loopPlace_2
      rw [h15, if_neg (show ¬ Int32.ofNat T ≤ Int32.ofNat x by rw [zn_le (by omega) (by omega)]; omega)]
      rfl
    have eM : lX12_lookUp_111 (fv + (d + 1) + 1) (Int32.ofNat x) u = lX12_lookUp_138 (lX12_lookUp_111 (fv + d + 1)) zFU (Int32.ofNat x) (u 13 x) (Int32.ofNat 0) 0 u := by
      show bX12_lookUp_111 (lX12_lookUp_111 (fv + (d + 1))) _ u = _
      unfold bX12_lookUp_111
      rw [h22, if_neg (show ¬ Int32.ofNat T ≤ Int32.ofNat x by rw [zn_le (by omega) (by omega)]; omega), if_neg (show ¬ 0 ≤ u 0 9 by rw [h9]; decide), zn_rd (by omega) (by decide)]
      rfl
    have z1 := zLoop1 (x := x) (k2 := lX2_loopPlace_2 (fu + d + 1)) (k111 := lX12_lookUp_111 (fv + d + 1)) h hd (by omega) hN hM hT T 0 x (zFU - T - 1) (zFU - T - 3) (by omega) (by omega) rfl (fun j j1 j2 => by omega)
    rw [show zFU - T - 1 + T + 1 = zFU by unfold zFU; omega, show zFU - T - 3 + T + 3 = zFU by unfold zFU; omega] at z1
    rw [eC, eM]
    rcases z1 with ⟨y1, y2⟩ | ⟨y1, y2, y3⟩
    · obtain ⟨⟨p1, p2⟩, _⟩ := hd.2.2.2 x (by omega)
      refine Or.inr ⟨t 23 x, p2, y1, ?_⟩
      rw [y2, ← p1]
      have n9 : 0 ≤ zu u 0 9 (t 23 x) 0 9 := by rw [zu_same]; exact p2
      show bX12_lookUp_111 (lX12_lookUp_111 (fv + d)) _ _ = _
      unfold bX12_lookUp_111
      by_cases c : zu u 0 9 (t 23 x) 0 22 ≤ Int32.ofNat (x + 1)
      · rw [if_pos c]
      · rw [if_neg c, if_pos n9]
    · rw [y1, y2]
      rcases ih (x + 1) fu fv (by omega) with ⟨z1, z2, z3⟩ | z
      · refine Or.inl ⟨z1, z2, fun y j q1 q2 q3 q4 => ?_⟩
        by_cases e : y = x
        · rw [e]; exact y3 j q3 q4
        · exact z3 y j (by omega) q2 q3 q4
      · exact Or.inr z
/-- no loop: every chain of NAMES ends -/
theorem zNoLoop {nx : Nat → Option Nat} {T : Nat} (hn : ∀ a b, a < T → nx a = some b → b < T) (h : ∀ y j, y < T → 1 ≤ j → j ≤ T → ¬ zIt nx j y = some y) (x : Nat) (hx : x < T) : zIt nx T x = none := by
  cases q : zIt nx T x with
  | none => rfl
  | some y =>
    exfalso
    have ha : ∀ i, i ≤ T → zIt nx i x = some ((zIt nx i x).getD 0) := fun i hi => by
      obtain ⟨y, hy⟩ := zIt_pre q hi
      rw [hy]; rfl
    obtain ⟨i, j, h1, h2, h3⟩ := zPigeon T (fun i => (zIt nx i x).getD 0) (fun i hi => zIt_lt hx hn i _ (ha i hi))
    have e : zIt nx (i + (j - i)) x = zIt nx (j - i) ((zIt nx i x).getD 0) := by
      rw [zIt_add, ha i (by omega)]
      rfl
    rw [show i + (j - i) = j by omega, ha j h2] at e
    refine h ((zIt nx i x).getD 0) (j - i) (zIt_lt hx hn i _ (ha i (by omega))) (by omega) (by omega) ?_
    rw [← e]
    exact congrArg some h3.symm
