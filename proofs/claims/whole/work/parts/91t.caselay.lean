/-! case: labels, branches laid down -/
theorem pl_findBrL {t : zS} {P n : Nat} {h x : Int32} {e : Nat → Nat} (hL : zLk (t 115) P n h e) (hP : P ≤ 1600) (hn : n ≤ 1600) : ∀ (d j fu : Nat), d + j = n → ∃ r, lX9_findBranch_12 (fu + d + 1) x (if j < n then Int32.ofNat (e j) else -1) (Int32.ofNat j) t = some (r, t) ∧ ((∃ k, j ≤ k ∧ k < n ∧ r = Int32.ofNat (e k) ∧ t 109 (e k) = x ∧ ∀ l, j ≤ l → l < k → ¬ t 109 (e l) = x) ∨ (r = -1 ∧ ∀ l, j ≤ l → l < n → ¬ t 109 (e l) = x)) := by
  intro d
  induction d with
  | zero =>
    intro j fu hd
    refine ⟨-1, ?_, Or.inr ⟨rfl, fun l h1 h2 => by omega⟩⟩
    show bX9_findBranch_12 _ _ _ _ _ = _
    unfold bX9_findBranch_12
    rw [if_neg (show ¬ j < n by omega)]
    by_cases q : (1600 : Int32) ≤ Int32.ofNat j
    · rw [if_pos q]
    · rw [if_neg q, if_pos (by decide)]
  | succ d ih =>
    intro j fu hd
    obtain ⟨r, r1, r2⟩ := ih (j + 1) fu (by omega)
    obtain ⟨a1, a2⟩ := hL.2 j (by omega)
    have e0 : lX9_findBranch_12 (fu + (d + 1) + 1) x (if j < n then Int32.ofNat (e j) else -1) (Int32.ofNat j) t = bX9_findBranch_12 (lX9_findBranch_12 (fu + d + 1)) x (Int32.ofNat (e j)) (Int32.ofNat j) t := by
      rw [if_pos (show j < n by omega)]; rfl
    rw [e0]
    unfold bX9_findBranch_12
    rw [if_neg (show ¬ (1600 : Int32) ≤ Int32.ofNat j from fun w => by have := (zn_le (a := 1600) (by decide) (by omega)).mp w; omega), if_neg (zn_neg (by omega)), zn_get (by omega) (by decide), pl_bd]
    by_cases q : t (108 + 1) (e j) = x
    · rw [if_pos q]
      exact ⟨_, rfl, Or.inl ⟨j, Nat.le_refl _, by omega, rfl, q, fun l h1 h2 => by omega⟩⟩
    · rw [if_neg q, zn_get (by omega) (by decide), pl_bd, pl_let, zn_1]
      have e1 : t (114 + 1) (e j) = (if j + 1 < n then Int32.ofNat (e (j + 1)) else -1) := a2
      rw [e1, r1]
      refine ⟨r, rfl, ?_⟩
      rcases r2 with ⟨k, k1, k2, k3, k4, k5⟩ | ⟨k1, k2⟩
      · refine Or.inl ⟨k, by omega, k2, k3, k4, fun l h1 h2 => ?_⟩
        by_cases w : l = j
        · rw [w]; exact q
        · exact k5 l (by omega) h2
      · refine Or.inr ⟨k1, fun l h1 h2 => ?_⟩
        by_cases w : l = j
        · rw [w]; exact q
        · exact k2 l (by omega) h2
theorem pl_findBr {t : zS} {P n c : Nat} {x : Int32} {e : Nat → Nat} (hL : zLk (t 115) P n (t 105 c) e) (hP : P ≤ 1600) (hn : n ≤ 1600) (hc : c < 1000) : ∃ r, mX9_findBranch (Int32.ofNat c) x t = some (r, t) ∧ ((∃ k, k < n ∧ r = Int32.ofNat (e k) ∧ t 109 (e k) = x ∧ ∀ l, l < k → ¬ t 109 (e l) = x) ∨ (r = -1 ∧ ∀ l, l < n → ¬ t 109 (e l) = x)) := by
  unfold mX9_findBranch
  rw [zn_get hc (by decide), pl_bd]
  have e1 : t (104 + 1) c = (if 0 < n then Int32.ofNat (e 0) else -1) := by
    show t 105 c = _
    rw [hL.1]
    by_cases q : n = 0
    · rw [if_pos q, if_neg (by omega)]
    · rw [if_neg q, if_pos (by omega)]
  obtain ⟨r, r1, r2⟩ := pl_findBrL (x := x) hL hP hn n 0 (zFU - n - 1) (by omega)
  have ef : zFU - n - 1 + n + 1 = zFU := by unfold zFU; omega
  rw [ef] at r1
  rw [e1]
  refine ⟨r, r1, ?_⟩
  rcases r2 with ⟨k, k1, k2, k3, k4, k5⟩ | ⟨k1, k2⟩
  · exact Or.inl ⟨k, k2, k3, k4, fun l hl => k5 l (Nat.zero_le _) hl⟩
  · exact Or.inr ⟨k1, fun l hl => k2 l (Nat.zero_le _) hl⟩
def zhAdd (g : GgX12_block) (k36 : Int32 → Int32 → Int32 → zS → zR) (x1 x2 : Int32) (t : zS) : zR := zwr t 39 4000 (t 0 59) (t 0 8) fun t3234 => zpt t3234 0 59 ((t3234 0 59) + 2) fun t3235 => zlet ((t3235 0 59) - 1) fun v3236 => zbd (mX12_next t3235) fun _ t3238 => zbd (g.1 ((-2) - x1) t3238) fun r3240 t3241 => zwr t3241 39 4000 v3236 r3240 fun t3244 => if 0 ≤ (t3244 0 9) then bX12_choose_175 g k36 x1 x2 t3244 else zbd (mX12_isSign 125 t3244) fun r3245 t3246 => if r3245 = 0 then bX12_choose_176 g k36 x1 x2 1 t3246 else bX12_choose_175 g k36 x1 x2 t3246
theorem pl_hheld {g : GgX12_block} {k36 : Int32 → Int32 → Int32 → zS → zR} {x1 x2 : Int32} {u : zS} {H n : Nat} (h59 : u 0 59 = Int32.ofNat (2 * (H + n))) (hb : H + n ≤ 1600) : ∀ (d j fu : Nat), d + j = n → (∀ l, j ≤ l → l < n → ¬ u 39 (2 * (H + l)) = u 0 8) → lX12_choose_67 g k36 (fu + d + 1) x1 x2 (Int32.ofNat (2 * (H + j))) u = zhAdd g k36 x1 x2 u := by
  intro d
  induction d with
  | zero =>
    intro j fu hd hl
    show bX12_choose_67 _ _ _ _ _ _ _ = _
    unfold bX12_choose_67
    rw [if_pos (by rw [h59, zn_le (by omega) (by omega)]; omega)]
    rfl
  | succ d ih =>
    intro j fu hd hl
    show bX12_choose_67 g k36 (lX12_choose_67 g k36 (fu + d + 1)) x1 x2 _ u = _
    unfold bX12_choose_67
    rw [if_neg (by rw [h59, zn_le (by omega) (by omega)]; omega), zn_rd (by omega) (by decide), if_neg (hl j (Nat.le_refl _) (by omega)), pl_let, zn_2]
    exact ih (j + 1) fu (by omega) (fun l h1 h2 => hl l (by omega) h2)
theorem pl_hheldD {g : GgX12_block} {k36 : Int32 → Int32 → Int32 → zS → zR} {x1 x2 : Int32} {u : zS} {H n k : Nat} (h59 : u 0 59 = Int32.ofNat (2 * (H + n))) (hb : H + n ≤ 1600) (hk : k < n) (hk2 : u 39 (2 * (H + k)) = u 0 8) : ∀ (d j fu : Nat), d + j = n → j ≤ k → lX12_choose_67 g k36 (fu + d + 1) x1 x2 (Int32.ofNat (2 * (H + j))) u = zbd (mX12_fails (u 0 6) u) fun r t => some (r, t) := by
  intro d
  induction d with
  | zero => intro j fu hd hl; omega
  | succ d ih =>
    intro j fu hd hl
    show bX12_choose_67 g k36 (lX12_choose_67 g k36 (fu + d + 1)) x1 x2 _ u = _
    unfold bX12_choose_67
    rw [if_neg (by rw [h59, zn_le (by omega) (by omega)]; omega), zn_rd (by omega) (by decide)]
    by_cases q : u 39 (2 * (H + j)) = u 0 8
    · rw [if_pos q]
    · rw [if_neg q, pl_let, zn_2]
      refine ih (j + 1) fu (by omega) ?_
      by_cases w : j = k
      · rw [w] at q; exact absurd hk2 q
      · omega
theorem pl_hlay {g : GgX12_block} {x1 : Int32} {H n A : Nat} (hb : H + n ≤ 1600) : ∀ (d j fu : Nat) (u : zS), d + j = n → u 0 59 = Int32.ofNat (2 * (H + n)) → u 0 36 = Int32.ofNat (A + j) → A + n ≤ 1600 → ∃ u2, lX12_choose_213 g (fu + d + 1) x1 (Int32.ofNat (2 * H)) (Int32.ofNat (2 * (H + j))) u = some (x1, u2) ∧ (∀ l, j ≤ l → l < n → u2 23 (A + l) = u 39 (2 * (H + l)) ∧ u2 24 (A + l) = u 39 (2 * (H + l) + 1)) ∧ (∀ a, a < A + j → u2 23 a = u 23 a ∧ u2 24 a = u 24 a) ∧ u2 0 36 = Int32.ofNat (A + n) ∧ u2 0 59 = Int32.ofNat (2 * H) ∧ (∀ k, ¬ (k = 0 ∨ k = 23 ∨ k = 24) → u2 k = u k) ∧ ∀ l, ¬ (l = 36 ∨ l = 59) → u2 0 l = u 0 l := by
  intro d
  induction d with
  | zero =>
    intro j fu u hd h59 h19 hA
    refine ⟨zu u 0 59 (Int32.ofNat (2 * H)), ?_, fun l h1 h2 => by omega, fun a ha => ⟨zu_ne1 (by decide), zu_ne1 (by decide)⟩, ?_, zu_same _ _ _ _, fun k hk => zu_row (by omega), fun l hl => zu_ne2 (by omega)⟩
    · show bX12_choose_213 _ _ _ _ _ _ = _
      unfold bX12_choose_213
      rw [if_pos (by rw [h59, zn_le (by omega) (by omega)]; omega), pl_pt]
    · rw [zu_ne2 (by decide), h19, show A + j = A + n by omega]
  | succ d ih =>
    intro j fu u hd h59 h19 hA
    obtain ⟨u2, r1, r2, r3, r4, r5, r6, r7⟩ := ih (j + 1) fu (zu (zu (zu u 23 (A + j) (u 39 (2 * (H + j)))) 24 (A + j) (u 39 (2 * (H + j) + 1))) 0 36 (Int32.ofNat (A + j + 1))) (by omega) (by simp (disch := first | omega | decide | assumption) only [zu_same, zu_ne1, zu_ne2, zu_row, pl_bd, pl_pt, pl_let, zn_set, zn_get, zn_rd, zn_wr, zn_1, zn_m, Nat.reduceAdd, h59]) (by simp (disch := first | omega | decide | assumption) only [zu_same, zu_ne1, zu_ne2, zu_row, pl_bd, pl_pt, pl_let, zn_set, zn_get, zn_rd, zn_wr, zn_1, zn_m, Nat.reduceAdd]; rfl) hA
    refine ⟨u2, ?_, fun l h1 h2 => ?_, fun a ha => ?_, r4, r5, fun k hk => ?_, fun l hl => ?_⟩
    · show bX12_choose_213 g (lX12_choose_213 g (fu + d + 1)) x1 _ _ u = _
      unfold bX12_choose_213
      rw [if_neg (by rw [h59, zn_le (by omega) (by omega)]; omega), zn_rd (by omega) (by decide), h19, zn_wr (by omega) (by decide), zn_1]
      simp (disch := first | omega | decide | assumption) only [zu_same, zu_ne1, zu_ne2, zu_row, pl_bd, pl_pt, pl_let, zn_set, zn_get, zn_rd, zn_wr, zn_1, zn_m, Nat.reduceAdd, h19, zn_2]
      exact r1
    · by_cases w : l = j
      · subst w
        obtain ⟨a1, a2⟩ := r3 (A + l) (by omega)
        rw [a1, a2]
        constructor <;> simp (disch := first | omega | decide | assumption) only [zu_same, zu_ne1, zu_ne2, zu_row, pl_bd, pl_pt, pl_let, zn_set, zn_get, zn_rd, zn_wr, zn_1, zn_m, Nat.reduceAdd]
      · obtain ⟨a1, a2⟩ := r2 l (by omega) h2
        rw [a1, a2]
        constructor <;> simp (disch := first | omega | decide | assumption) only [zu_same, zu_ne1, zu_ne2, zu_row, pl_bd, pl_pt, pl_let, zn_set, zn_get, zn_rd, zn_wr, zn_1, zn_m, Nat.reduceAdd]
    · obtain ⟨a1, a2⟩ := r3 a (by omega)
      rw [a1, a2]
      constructor <;> simp (disch := first | omega | decide | assumption) only [zu_same, zu_ne1, zu_ne2, zu_row, pl_bd, pl_pt, pl_let, zn_set, zn_get, zn_rd, zn_wr, zn_1, zn_m, Nat.reduceAdd]
    · rw [r6 k hk]; simp (disch := first | omega | decide | assumption) only [zu_same, zu_ne1, zu_ne2, zu_row, pl_bd, pl_pt, pl_let, zn_set, zn_get, zn_rd, zn_wr, zn_1, zn_m, Nat.reduceAdd]
    · rw [r7 l hl]; simp (disch := first | omega | decide | assumption) only [zu_same, zu_ne1, zu_ne2, zu_row, pl_bd, pl_pt, pl_let, zn_set, zn_get, zn_rd, zn_wr, zn_1, zn_m, Nat.reduceAdd]
def zhFin (g : GgX12_block) (x1 x2 : Int32) (u : zS) : zR := zwr u 19 1600 x1 (u 0 36) fun a => zwr a 20 1600 x1 (((a 0 59) - x2) / 2) fun b => lX12_choose_213 g zFU x1 x2 x2 b
theorem zhFin_er {g : GgX12_block} {H m : Nat} {t u t2 u2 : zS} (h : zSE H t u t2 u2) (hm : m < 1600) : ∃ u3, zhFin g (Int32.ofNat m) (Int32.ofNat (2 * H)) u2 = some (Int32.ofNat m, u3) ∧ zSE H t u t2 u3 := by
  obtain ⟨a1, ⟨C, c1, c2⟩, ⟨A, V, H2, b1, b2, b3, b4, b5⟩, a3, a4⟩ := h
  unfold zhFin
  rw [zn_wr hm (by decide), zn_wr hm (by decide)]
  generalize hw : zu (zu u2 19 m (u2 0 36)) 20 m (((zu u2 19 m (u2 0 36) 0 59) - Int32.ofNat (2 * H)) / 2) = w
  have w0 : w 0 = u2 0 := by rw [← hw]; simp (disch := first | omega | decide | assumption) only [zu_same, zu_ne1, zu_ne2, zu_row, pl_bd, pl_pt, pl_let, zn_set, zn_get, zn_rd, zn_wr, zn_1, zn_m, Nat.reduceAdd]
  obtain ⟨u3, r1, r2, r3, r4, r5, r6, r7⟩ := pl_hlay (g := g) (x1 := Int32.ofNat m) (H := H) (n := H2 - H) (A := V) (by omega) (H2 - H) 0 (zFU - (H2 - H) - 1) w (by omega) (by rw [w0, b3]; congr 1; omega) (by rw [w0]; exact b2) (by omega)
  have ef : zFU - (H2 - H) - 1 + (H2 - H) + 1 = zFU := by unfold zFU; omega
  rw [ef] at r1
  refine ⟨u3, r1, ⟨a1.1, a1.2.1, by rw [r7 9 (by omega), w0]; exact a1.2.2⟩, ⟨C, by rw [r7 42 (by omega), w0]; exact c1, c2⟩, ⟨A, V + (H2 - H), H, by rw [r7 19 (by omega), w0]; exact b1, r4, r5, Nat.le_refl _, by omega⟩, a3, zFP_trans a4 (zFP_trans (b := w) ?_ (fun k j hk => ?_))⟩
  · rw [← hw]; exact zFP_zu (zFP_zu (zFP_refl _ _) rfl) rfl
  · by_cases e : k = 0
    · subst e
      refine r7 j (fun w => ?_)
      rcases w with w | w <;> subst w <;> cases hk
    · rw [r6 k ?_]
      rintro (w | w | w) <;> subst w <;> first | exact e rfl | cases hk
/-- only held labels move -/
theorem zBB_hold {G : zTxt} {i d p b H H2 : Nat} {f : Nat → Nat} {N M A S n F C R W V q : Nat} {o : Nat → Nat × Nat} {w : Nat → Nat} {Y Z : List Nat} {t u u2 : zS} (h : zBB G i d p b H f N M A S n F C R W V q o w Y Z t u) (hS : S ≤ 1000) (hr : ∀ k, ¬ (k = 0 ∨ k = 39) → u2 k = u k) (h0 : ∀ j, ¬ j = 59 → u2 0 j = u 0 j) (h59 : u2 0 59 = Int32.ofNat (2 * H2)) : zBB G i d p b H2 f N M A S n F C R W V q o w Y Z t u2 := by
  obtain ⟨⟨b1, b2, b3, b4, b5, b6⟩, a2, a3, a4, a5, a6, a7, a8, a9, a10, a11, a12, a13⟩ := h
  refine ⟨⟨zAt_of b1 (fun j _ _ => rfl) rfl rfl (fun j _ _ => h0 j (by omega)) (hr 2 (by omega)) (hr 3 (by omega)) (hr 4 (by omega)), b2, by rw [h0 10 (by omega)]; exact b3, zSl_of b4 (Nat.le_refl _) rfl (h0 60 (by omega)) rfl rfl rfl (hr 31 (by omega)) (hr 33 (by omega)), b5, by rw [h0 42 (by omega)]; exact b6⟩, zAK_fr a2 rfl (h0 52 (by omega)) rfl rfl rfl (fun s hs => rfl) (fun s hs => rfl) (hr 5 (by omega)) (hr 6 (by omega)) (hr 35 (by omega)) (hr 36 (by omega)) (hr 37 (by omega)) (hr 38 (by omega)), a3, by rw [h0 26 (by omega)]; exact a4, a5, by rw [h0 39 (by omega)]; exact a6, a7, by rw [h0 36 (by omega)]; exact a8, h59, by rw [h0 19 (by omega)]; exact a10, fun x k1 k2 => ?_, fun x k1 k2 => ?_, a13⟩
  · exact zStm_ext (a11 x k1 k2) k1 (Nat.le_refl _) (Nat.le_refl _) (Nat.le_refl _) (Nat.le_refl _) (Nat.le_refl _) (Nat.le_refl _) (fun _ _ => rfl) (fun _ _ => rfl) (fun k' hk' => by rw [hr k' (by omega)]) (fun _ _ => rfl) (fun _ _ => ⟨rfl, rfl⟩) (fun c _ => by rw [hr 27 (by omega)]) (fun _ _ => ⟨rfl, rfl, rfl⟩) (fun y _ => ⟨by rw [hr 25 (by omega)], by rw [hr 26 (by omega)]⟩) (fun y _ hw => ⟨hw, rfl, rfl, rfl⟩) (fun y _ => ⟨by rw [hr 23 (by omega)], by rw [hr 24 (by omega)]⟩) (fun m hm hm2 => ⟨m, hm, Nat.le_refl _, hm2⟩)
  · exact zLn_ext (a12 x k1 k2) (a13 x k1).1 k1 (Nat.le_refl _) hS (fun _ _ => rfl) rfl (by rw [hr 21 (by omega)]) (by rw [hr 22 (by omega)]) (fun _ _ => rfl) (fun _ _ => rfl)
/-- the labels of a case are laid down -/
theorem zBB_lay {G : zTxt} {i d p b H H2 : Nat} {f : Nat → Nat} {N M A S n F C R W V q V2 : Nat} {o : Nat → Nat × Nat} {w : Nat → Nat} {Y Z : List Nat} {t u u2 : zS} (h : zBB G i d p b H f N M A S n F C R W V q o w Y Z t u) (hS : S ≤ 1000) (hV : V ≤ V2) (h36 : u2 0 36 = Int32.ofNat V2) (h59 : u2 0 59 = Int32.ofNat (2 * H2)) (ga : ∀ a, a < V → u2 23 a = u 23 a ∧ u2 24 a = u 24 a) (hr : ∀ k, ¬ (k = 0 ∨ k = 23 ∨ k = 24) → u2 k = u k) (h0 : ∀ j, ¬ (j = 36 ∨ j = 59) → u2 0 j = u 0 j) : zBB G i d p b H2 f N M A S n F C R W V2 q o w Y Z t u2 := by
  obtain ⟨⟨b1, b2, b3, b4, b5, b6⟩, a2, a3, a4, a5, a6, a7, a8, a9, a10, a11, a12, a13⟩ := h
  refine ⟨⟨zAt_of b1 (fun j _ _ => rfl) rfl rfl (fun j _ _ => h0 j (by omega)) (hr 2 (by omega)) (hr 3 (by omega)) (hr 4 (by omega)), b2, by rw [h0 10 (by omega)]; exact b3, zSl_of b4 (Nat.le_refl _) rfl (h0 60 (by omega)) rfl rfl rfl (hr 31 (by omega)) (hr 33 (by omega)), b5, by rw [h0 42 (by omega)]; exact b6⟩, zAK_fr a2 rfl (h0 52 (by omega)) rfl rfl rfl (fun s hs => rfl) (fun s hs => rfl) (hr 5 (by omega)) (hr 6 (by omega)) (hr 35 (by omega)) (hr 36 (by omega)) (hr 37 (by omega)) (hr 38 (by omega)), a3, by rw [h0 26 (by omega)]; exact a4, a5, by rw [h0 39 (by omega)]; exact a6, a7, h36, h59, by rw [h0 19 (by omega)]; exact a10, fun x k1 k2 => ?_, fun x k1 k2 => ?_, a13⟩
  · exact zStm_ext (a11 x k1 k2) k1 (Nat.le_refl _) (Nat.le_refl _) (Nat.le_refl _) (Nat.le_refl _) (Nat.le_refl _) hV (fun _ _ => rfl) (fun _ _ => rfl) (fun k' hk' => by rw [hr k' (by omega)]) (fun _ _ => rfl) (fun _ _ => ⟨rfl, rfl⟩) (fun c _ => by rw [hr 27 (by omega)]) (fun _ _ => ⟨rfl, rfl, rfl⟩) (fun y _ => ⟨by rw [hr 25 (by omega)], by rw [hr 26 (by omega)]⟩) (fun y _ hw => ⟨hw, rfl, rfl, rfl⟩) ga (fun m hm hm2 => ⟨m, hm, Nat.le_refl _, hm2⟩)
  · exact zLn_ext (a12 x k1 k2) (a13 x k1).1 k1 (Nat.le_refl _) hS (fun _ _ => rfl) rfl (by rw [hr 21 (by omega)]) (by rw [hr 22 (by omega)]) (fun _ _ => rfl) (fun _ _ => rfl)
theorem zBX_u {p b H S n F C R W V q S2 n2 F2 C2 R2 W2 V2 q2 V3 : Nat} {o o2 : Nat → Nat × Nat} {w w2 : Nat → Nat} {t0 u0 t u u2 : zS} (h : zBX p b H S n F C R W V q S2 n2 F2 C2 R2 W2 V2 q2 o o2 w w2 t0 u0 t u) (hV : V2 ≤ V3) (h39 : ∀ k, k < 2 * H → u2 39 k = u 39 k) (ga : ∀ a, a < V → u2 23 a = u 23 a ∧ u2 24 a = u 24 a) (hr : ∀ k, ¬ (k = 0 ∨ k = 23 ∨ k = 24 ∨ k = 39) → u2 k = u k) (h0 : ∀ j, ¬ (j = 36 ∨ j = 59) → u2 0 j = u 0 j) : zBX p b H S n F C R W V q S2 n2 F2 C2 R2 W2 V3 q2 o o2 w w2 t0 u0 t u2 := by
  obtain ⟨x1, x2, x3, x4, x5, x6, x7, x8, x9, x10, x11, x12, x13⟩ := h
  refine ⟨x1, x2, x3, x4, x5, x6, by omega, x8, x9, x10, x11, fun k j hj => ?_, fun j hj => by rw [h0 j (by omega)]; exact x13 j hj⟩
  by_cases e0 : k = 0
  · subst e0; exact absurd hj (Nat.not_lt_zero j)
  by_cases e23 : k = 23
  · subst e23; rw [(ga j hj).1]; exact x12 23 j hj
  by_cases e24 : k = 24
  · subst e24; rw [(ga j hj).2]; exact x12 24 j hj
  by_cases e39 : k = 39
  · subst e39; rw [h39 j hj]; exact x12 39 j hj
  · rw [hr k (by omega)]; exact x12 k j hj
