/-! channels on the reference's side -/
theorem zflp_lt {e fc : Nat} (h : e < 2 * fc) : zflp e < 2 * fc ∧ ¬ zflp e = e ∧ zflp (zflp e) = e := ⟨by unfold zflp; omega, by unfold zflp; omega, (zflp_2 e).2.2⟩
theorem zGivR {D : zCo} {f Y ql : Nat → Nat} {MR : zS} {fc fk rw e : Nat} {fq : Nat → Nat} {u : zS} {v : Int32} (h : zBR D f Y ql MR fc fk rw fq u) (he : e < 2 * fc) (hf : fc ≤ 1667) (hq : ∀ x, x < 2 * fc → ql x ≤ rw) (hl : ql (zflp e) < rw) (hr : rw ≤ 8) : ∃ u2, mX12_gives (Int32.ofNat e) v u = some (0, u2) ∧ zBR D f Y (zfu ql (zflp e) (ql (zflp e) + 1)) (zu MR (zflp e) (ql (zflp e)) v) fc fk rw fq u2 ∧ u2 0 101 = u 0 101 + 1 ∧ (∀ j, ¬ j = 101 → u2 0 j = u 0 j) ∧ ∀ k, ¬ (k = 0 ∨ k = 56 ∨ k = 57) → u2 k = u k := by
  obtain ⟨a1, a2, a3, a4, a6⟩ := h
  obtain ⟨hz, hz1, hz2⟩ := zflp_lt he
  obtain ⟨to, eto⟩ : ∃ to, to = zflp e := ⟨_, rfl⟩
  rw [← eto] at hz hz1 hl ⊢
  obtain ⟨b0, b1, b4⟩ := a6 to hz
  obtain ⟨u2, e2⟩ : ∃ u2, u2 = zu (zu (zu u 57 (8 * to + ql to) v) 56 to (Int32.ofNat (ql to + 1))) 0 101 (u 0 101 + 1) := ⟨_, rfl⟩
  have f2 : ∀ k, ¬ (k = 0 ∨ k = 56 ∨ k = 57) → u2 k = u k := fun k hk => by rw [e2, zu_row (by omega), zu_row (by omega), zu_row (by omega)]
  have f0 : ∀ j, ¬ j = 101 → u2 0 j = u 0 j := fun j hj => by rw [e2, zu_ne2 hj, zu_ne1 (by decide), zu_ne1 (by decide)]
  refine ⟨u2, ?_, ⟨by rw [f0 97 (by decide)]; exact a1, by rw [f0 98 (by decide)]; exact a2, by rw [f0 73 (by decide)]; exact a3, by rw [f2 54 (by decide)]; exact a4, fun x hx => ?_⟩, by rw [e2, zu_same], f0, f2⟩
  · unfold mX12_gives
    rw [pl_let, (zb_x e (by omega)).1, ← eto, zn_rd (by omega) (by decide), b1, show (8 : Int32) * Int32.ofNat to = Int32.ofNat (8 * to) from zn_mul 8 to, zn_add, zn_wr (by omega) (by decide), zn_rd (by omega) (by decide), zu_ne1 (show (56 : Nat) ≠ 57 by decide), b1, zn_1, zn_wr (by omega) (by decide), pl_pt, zu_ne1 (show (0 : Nat) ≠ 56 by decide), zu_ne1 (show (0 : Nat) ≠ 57 by decide), ← e2]
  · obtain ⟨c0, c1, c4⟩ := a6 x hx
    rw [f2 55 (by decide)]
    have e56 : u2 56 x = if x = to then Int32.ofNat (ql to + 1) else u 56 x := by
      rw [e2, zu_ne1 (by decide)]
      by_cases q : x = to
      · subst q; rw [if_pos rfl, zu_same]
      · rw [if_neg q, zu_ne2 q, zu_ne1 (by decide)]
    have e57 : ∀ y, u2 57 y = if y = 8 * to + ql to then v else u 57 y := fun y => by
      rw [e2, zu_ne1 (by decide), zu_ne1 (by decide)]
      by_cases q : y = 8 * to + ql to
      · subst q; rw [if_pos rfl, zu_same]
      · rw [if_neg q, zu_ne2 q]
    rw [e56]
    by_cases q : x = to
    · subst q
      rw [zfu_same, if_pos rfl]
      refine ⟨c0, rfl, fun j hj => ?_⟩
      rw [e57]
      by_cases w : j = ql x
      · subst w; rw [if_pos rfl, zu_same]
      · rw [if_neg (by omega), zu_ne2 w]; exact c4 j (by omega)
    · rw [zfu_ne q, if_neg q]
      refine ⟨c0, c1, fun j hj => ?_⟩
      have hlx := hq x hx
      rw [zu_ne1 q, e57, if_neg (by omega)]
      exact c4 j hj
theorem zTakR {D : zCo} {f Y ql : Nat → Nat} {MR : zS} {fc fk rw e : Nat} {fq : Nat → Nat} {u : zS} (h : zBR D f Y ql MR fc fk rw fq u) (he : e < 2 * fc) (hf : fc ≤ 1667) (hq : ∀ x, x < 2 * fc → ql x ≤ rw) (hl0 : ¬ ql e = 0) (hr : rw ≤ 8) : ∃ u2, mX12_takes (Int32.ofNat e) u = some (MR e 0, u2) ∧ zBR D f Y (zfu ql e (ql e - 1)) (zshf MR e) fc fk rw fq u2 ∧ u2 0 101 = u 0 101 - 1 ∧ (∀ j, ¬ j = 101 → u2 0 j = u 0 j) ∧ ∀ k, ¬ (k = 0 ∨ k = 56 ∨ k = 57) → u2 k = u k := by
  obtain ⟨a1, a2, a3, a4, a6⟩ := h
  obtain ⟨b0, b1, b4⟩ := a6 e he
  have hl := hq e he
  obtain ⟨l, el⟩ : ∃ l, l = ql e - 1 := ⟨_, rfl⟩
  obtain ⟨u1, e1⟩ : ∃ u1, u1 = zu u 56 e (Int32.ofNat l) := ⟨_, rfl⟩
  have f1 : ∀ k, ¬ k = 56 → u1 k = u k := fun k hk => by rw [e1, zu_row hk]
  have loop : ∀ (d k fu : Nat) (w : zS), k + d = l → w 56 = u1 56 → (∀ r, ¬ r = 57 → w r = u1 r) → (∀ y, w 57 y = if 8 * e ≤ y ∧ y < 8 * e + k then u 57 (y + 1) else u 57 y) → ∃ w2, lX12_takes_22 (fu + d + 1) (Int32.ofNat e) (MR e 0) (Int32.ofNat k) w = some (MR e 0, zu w2 0 101 (u 0 101 - 1)) ∧ (∀ r, ¬ r = 57 → w2 r = u1 r) ∧ ∀ y, w2 57 y = if 8 * e ≤ y ∧ y < 8 * e + l then u 57 (y + 1) else u 57 y := by
    intro d
    induction d with
    | zero =>
      intro k fu w hk h1 h2 h3
      have : k = l := by omega
      subst this
      refine ⟨w, ?_, h2, h3⟩
      show bX12_takes_22 _ _ _ _ w = _
      unfold bX12_takes_22
      rw [zn_rd (by omega) (by decide), h1, e1, zu_same, if_pos (Int32.le_refl _), pl_pt, h2 0 (by decide), e1, zu_ne1 (by decide)]
    | succ d ih =>
      intro k fu w hk h1 h2 h3
      obtain ⟨w2, z1, z2⟩ := ih (k + 1) fu (zu w 57 (8 * e + k) (u 57 (8 * e + k + 1))) (by omega) (by rw [zu_row (by decide)]; exact h1) (fun r hr => by rw [zu_row hr]; exact h2 r hr) (fun y => by
        by_cases q : y = 8 * e + k
        · subst q; rw [zu_same, if_pos (by omega)]
        · rw [zu_ne2 q, h3]
          by_cases c : 8 * e ≤ y ∧ y < 8 * e + k
          · rw [if_pos c, if_pos (by omega)]
          · rw [if_neg c, if_neg (by omega)])
      refine ⟨w2, ?_, z2⟩
      rw [← z1]
      show bX12_takes_22 (lX12_takes_22 (fu + d + 1)) _ _ _ w = _
      unfold bX12_takes_22
      rw [zn_rd (by omega) (by decide), h1, e1, zu_same, if_neg (fun q => by have := (zn_le (by omega) (by omega)).mp q; omega), show (8 : Int32) * Int32.ofNat e = Int32.ofNat (8 * e) from zn_mul 8 e, zn_add, zn_1, zn_rd (by omega) (by decide), zn_wr (by omega) (by decide), pl_let, zn_1, h3, if_neg (by omega)]
  obtain ⟨w2, z1, z2, z3⟩ := loop l 0 (zFU - l - 1) u1 (by omega) rfl (fun _ _ => rfl) (fun y => by rw [if_neg (by omega), f1 57 (by decide)])
  rw [show zFU - l - 1 + l + 1 = zFU by unfold zFU; omega, show Int32.ofNat 0 = 0 from rfl] at z1
  have f2 : ∀ k, ¬ (k = 0 ∨ k = 56 ∨ k = 57) → zu w2 0 101 (u 0 101 - 1) k = u k := fun k hk => by rw [zu_row (by omega), z2 k (by omega), f1 k (by omega)]
  have f0 : ∀ j, ¬ j = 101 → zu w2 0 101 (u 0 101 - 1) 0 j = u 0 j := fun j hj => by rw [zu_ne2 hj, z2 0 (by decide), f1 0 (by decide)]
  refine ⟨zu w2 0 101 (u 0 101 - 1), ?_, ⟨by rw [f0 97 (by decide)]; exact a1, by rw [f0 98 (by decide)]; exact a2, by rw [f0 73 (by decide)]; exact a3, by rw [f2 54 (by decide)]; exact a4, fun x hx => ?_⟩, zu_same _ _ _ _, f0, f2⟩
  · unfold mX12_takes
    have m0 := b4 0 (by omega)
    rw [Nat.add_zero] at m0
    rw [show (8 : Int32) * Int32.ofNat e = Int32.ofNat (8 * e) from zn_mul 8 e, zn_rd (by omega) (by decide), m0, zn_rd (by omega) (by decide), b1, show Int32.ofNat (ql e) - 1 = Int32.ofNat l by rw [el]; exact zn_sub (b := 1) (by omega) (by omega), zn_wr (by omega) (by decide), ← e1, z1]
  · obtain ⟨c0, c1, c4⟩ := a6 x hx
    rw [f2 55 (by decide), zu_ne1 (by decide), z2 56 (by decide), e1]
    have hlx := hq x hx
    by_cases q : x = e
    · subst q
      rw [zfu_same, zu_same, ← el]
      refine ⟨c0, rfl, fun j hj => ?_⟩
      rw [zu_ne1 (by decide), z3, if_pos (by omega), zshf_e]
      exact c4 (j + 1) (by omega)
    · rw [zfu_ne q, zu_ne2 q, zshf_ne q]
      refine ⟨c0, c1, fun j hj => ?_⟩
      rw [zu_ne1 (by decide), z3, if_neg (by omega)]
      exact c4 j hj
/-- an end goes on, or is CLOSED -/
theorem zGoeR {G : zTxt} {f : Nat → Nat} {N M P A T p k b e y : Nat} {Y ql : Nat → Nat} {MR : zS} {fc fk rw : Nat} {fq : Nat → Nat} {t u : zS} (hT : zTG G f N M P A T t u) (h : zBR (zD t) f Y ql MR fc fk rw fq u) (he : e < 2 * fc) (hf : fc ≤ 1667) (hk : fk ≤ fc) (hk2 : (zD t).kd y = 0 → (zD t).kd (Y (zflp e)) = 0 → fk < fc) (hV : ∀ x, x < 2 * fc → zV N t (Y x)) (hy : zV N t y) (hp : p < 2600) (h51 : u 51 p = Int32.ofNat b) (hb : b + k < 24000) (h53 : u 53 (b + k) = Int32.ofNat e) :
    ∃ u2, mX12_goesOn (Int32.ofNat p) (Int32.ofNat k) (Int32.ofNat (zF f y)) u = some (0, u2) ∧ zBR (zD t) f (zfu Y e y) ql MR fc (if (zD t).kd y = 0 ∧ (zD t).kd (Y (zflp e)) = 0 then fk + 1 else fk) rw (if (zD t).kd y = 0 ∧ (zD t).kd (Y (zflp e)) = 0 then zfu fq fk (e / 2) else fq) u2 ∧ (u2 53 = if (zD t).kd y = 0 then (zu u 53 (b + k) (-1)) 53 else u 53) ∧ (u2 0 100 = if (zD t).kd y = 0 ∧ (zD t).kd (Y (zflp e)) = 0 then u 0 100 - 1 else u 0 100) ∧ (u2 0 80 = if (zD t).kd y = 0 ∧ (zD t).kd (Y (zflp e)) = 0 then u 0 80 - (4 + 2 * u 0 73) else u 0 80) ∧ (∀ j, ¬ (j = 80 ∨ j = 98 ∨ j = 100) → u2 0 j = u 0 j) ∧ ∀ r, ¬ (r = 0 ∨ r = 53 ∨ r = 54 ∨ r = 55) → u2 r = u r := by
  obtain ⟨a1, a2, a3, a4, a6⟩ := h
  obtain ⟨hz, hz1, hz2⟩ := zflp_lt he
  have start : mX12_goesOn (Int32.ofNat p) (Int32.ofNat k) (Int32.ofNat (zF f y)) u = if zKm ((zD t).kd y) = 0 then zwr u 55 3500 (Int32.ofNat e) (-1) fun t4378 => zrd t4378 51 2600 (Int32.ofNat p) fun v4379 => zwr t4378 53 24000 (v4379 + Int32.ofNat k) (-1) fun t4382 => zrd t4382 55 3500 (Int32.ofNat e ^^^ 1) fun v4383 => if v4383 < 0 then zwr t4382 54 1750 (t4382 0 98) (Int32.ofNat e / 2) fun t4386 => zpt t4386 0 98 ((t4386 0 98) + 1) fun t4387 => zpt t4387 0 100 ((t4387 0 100) - 1) fun t4388 => zbd (mX12_channelCells t4388) fun r4389 t4390 => zpt t4390 0 80 ((t4388 0 80) - r4389) fun t4392 => some (0, t4392) else some (0, t4382) else zwr u 55 3500 (Int32.ofNat e) (Int32.ofNat (zF f y)) fun t4394 => some (0, t4394) := by
    unfold mX12_goesOn
    rw [zn_rd hp (by decide), h51, zn_add, zn_rd hb (by decide), h53, pl_isOf hT hy, pl_bd]
  have km : zKm ((zD t).kd y) = 0 ↔ (zD t).kd y = 0 := by
    have all : ∀ a, a ∈ ([0, 4, 5, 6, 7, 8, 9] : List Int32) → (zKm a = 0 ↔ a = 0) := by decide
    have ks : (zD t).kd y ∈ ([0, 4, 5, 6, 7, 8, 9] : List Int32) := by
      rcases zV_at hT hy with ⟨q, _⟩ | ⟨q, _⟩ | ⟨q, _⟩ | ⟨q, _⟩
      · rw [q]; decide
      · rcases q with q | q <;> rw [q] <;> decide
      · rcases q with q | q <;> rw [q] <;> decide
      · rcases q with q | q <;> rw [q] <;> decide
    exact all _ ks
  have types : ∀ (w : zS) (v : Int32), v = zTy (zD t) f (zfu Y e y) e → w 55 = (zu u 55 e v) 55 → w 56 = u 56 → w 57 = u 57 → ∀ x, x < 2 * fc → w 55 x = zTy (zD t) f (zfu Y e y) x ∧ w 56 x = Int32.ofNat (ql x) ∧ ∀ j, j < ql x → w 57 (8 * x + j) = MR x j := fun w v hv h1 h2 h3 x hx => by
    obtain ⟨c0, c1, c4⟩ := a6 x hx
    rw [h1, h2, h3]
    refine ⟨?_, c1, c4⟩
    by_cases q : x = e
    · subst q; rw [zu_same]; exact hv
    · rw [zu_ne2 q, c0]
      unfold zTy
      rw [zfu_ne q]
  rw [start]
  by_cases z : (zD t).kd y = 0
  · rw [if_pos (km.mpr z)]
    have ty : (-1 : Int32) = zTy (zD t) f (zfu Y e y) e := by unfold zTy; rw [zfu_same, if_pos z]
    obtain ⟨u1, e1⟩ : ∃ u1, u1 = zu (zu u 55 e (-1)) 53 (b + k) (-1) := ⟨_, rfl⟩
    have f1 : ∀ r, ¬ (r = 53 ∨ r = 55) → u1 r = u r := fun r hr => by rw [e1, zu_row (by omega), zu_row (by omega)]
    have e55 : u1 55 = (zu u 55 e (-1)) 55 := by rw [e1, zu_row (by decide)]
    have e53 : u1 53 = (zu u 53 (b + k) (-1)) 53 := by
      rw [e1]; funext q
      by_cases w : q = b + k
      · subst w; rw [zu_same, zu_same]
      · rw [zu_ne2 w, zu_ne2 w, zu_ne1 (by decide)]
    have r55 : zrd u1 55 3500 (Int32.ofNat e ^^^ 1) = fun F => F (u 55 (zflp e)) := by
      funext F
      rw [(zb_x e (by omega)).1, zn_rd (by omega) (by decide), e55, zu_ne2 hz1]
    rw [zn_wr (by omega) (by decide), zn_rd hp (by decide), zu_ne1 (show (51 : Nat) ≠ 55 by decide), h51, zn_add, zn_wr hb (by decide), ← e1, r55]
    show ∃ u2, (if u 55 (zflp e) < 0 then _ else _) = _ ∧ _
    rw [(a6 (zflp e) hz).1]
    unfold zTy
    by_cases z2 : (zD t).kd (Y (zflp e)) = 0
    · have lt := hk2 z z2
      simp only [if_pos z2, if_pos z, if_pos (show (zD t).kd y = 0 ∧ (zD t).kd (Y (zflp e)) = 0 from ⟨z, z2⟩)]
      rw [if_pos (show (-1 : Int32) < 0 by decide), f1 0 (by decide), a2, (zn_hlf (by omega)).1, zn_wr (by omega) (by decide), pl_pt, pl_pt, zu_ne1 (show (0 : Nat) ≠ 54 by decide), f1 0 (by decide), a2, zn_1]
      unfold mX12_channelCells
      rw [pl_bd, pl_pt]
      refine ⟨_, rfl, ⟨by simp (disch := first | omega | decide | assumption) only [zu_same, zu_ne1, zu_ne2, zu_row, pl_bd, pl_pt, pl_let, zn_set, zn_get, zn_rd, zn_wr, zn_1, zn_m, Nat.reduceAdd, f1 0 (by decide), a1], by simp (disch := first | omega | decide | assumption) only [zu_same, zu_ne1, zu_ne2, zu_row, pl_bd, pl_pt, pl_let, zn_set, zn_get, zn_rd, zn_wr, zn_1, zn_m, Nat.reduceAdd], by simp (disch := first | omega | decide | assumption) only [zu_same, zu_ne1, zu_ne2, zu_row, pl_bd, pl_pt, pl_let, zn_set, zn_get, zn_rd, zn_wr, zn_1, zn_m, Nat.reduceAdd, f1 0 (by decide), a3], fun j hj => ?_, types _ _ ty ?_ ?_ ?_⟩, ?_, ?_, ?_, fun j hj => ?_, fun r hr => ?_⟩
      · rw [zu_ne1 (by decide), zu_ne1 (by decide), zu_ne1 (by decide)]
        by_cases w : j = fk
        · subst w; rw [zu_same, zfu_same]
        · rw [zu_ne2 w, zfu_ne w, f1 54 (by decide)]; exact a4 j (by omega)
      · rw [zu_row (by decide), zu_row (by decide), zu_row (by decide), zu_row (by decide)]; exact e55
      · rw [zu_row (by decide), zu_row (by decide), zu_row (by decide), zu_row (by decide)]; exact f1 56 (by decide)
      · rw [zu_row (by decide), zu_row (by decide), zu_row (by decide), zu_row (by decide)]; exact f1 57 (by decide)
      · rw [zu_row (by decide), zu_row (by decide), zu_row (by decide), zu_row (by decide)]; exact e53
      · rw [zu_ne2 (by decide), zu_same, zu_ne2 (by decide), zu_ne1 (by decide), f1 0 (by decide)]
      · rw [zu_same]
        simp only [zu_ne2 (show (80 : Nat) ≠ 100 by decide), zu_ne2 (show (80 : Nat) ≠ 98 by decide), zu_ne2 (show (73 : Nat) ≠ 100 by decide), zu_ne2 (show (73 : Nat) ≠ 98 by decide), zu_ne1 (show (0 : Nat) ≠ 54 by decide), f1 0 (by decide)]
      · rw [zu_ne2 (by omega), zu_ne2 (by omega), zu_ne2 (by omega), zu_ne1 (by decide), f1 0 (by decide)]
      · rw [zu_row (by omega), zu_row (by omega), zu_row (by omega), zu_row (by omega), f1 r (by omega)]
    · simp only [if_neg z2, if_pos z, if_neg (show ¬ ((zD t).kd y = 0 ∧ (zD t).kd (Y (zflp e)) = 0) from fun w => z2 w.2)]
      have lt := (zF_lt hT (hV _ hz).1).1
      rw [if_neg (zn_neg (by omega))]
      exact ⟨u1, rfl, ⟨by rw [f1 0 (by decide)]; exact a1, by rw [f1 0 (by decide)]; exact a2, by rw [f1 0 (by decide)]; exact a3, by rw [f1 54 (by decide)]; exact a4, types u1 _ ty e55 (f1 56 (by decide)) (f1 57 (by decide))⟩, e53, by rw [f1 0 (by decide)], by rw [f1 0 (by decide)], fun j _ => by rw [f1 0 (by decide)], fun r hr => f1 r (by omega)⟩
  · have nn : ¬ ((zD t).kd y = 0 ∧ (zD t).kd (Y (zflp e)) = 0) := fun w => z w.1
    rw [if_neg (fun w => z (km.mp w)), zn_wr (by omega) (by decide)]
    simp only [if_neg z, if_neg nn]
    have ty : Int32.ofNat (zF f y) = zTy (zD t) f (zfu Y e y) e := by unfold zTy; rw [zfu_same, if_neg z]
    exact ⟨_, rfl, ⟨by rw [zu_ne1 (by decide)]; exact a1, by rw [zu_ne1 (by decide)]; exact a2, by rw [zu_ne1 (by decide)]; exact a3, fun j hj => by rw [zu_ne1 (by decide)]; exact a4 j hj, types _ _ ty rfl (zu_row (by decide)) (zu_row (by decide))⟩, zu_row (by decide), zu_ne1 (by decide), zu_ne1 (by decide), fun j _ => zu_ne1 (by decide), fun r hr => zu_row (by omega)⟩
/-- a new channel -/
theorem zNewR {G : zTxt} {f : Nat → Nat} {N M P A T y : Nat} {Y ql : Nat → Nat} {MR : zS} {fc fk rw : Nat} {fq : Nat → Nat} {t u : zS} (hT : ∀ w : zS, (∀ r, 5 ≤ r → r ≤ 13 → w r = u r) → (∀ j, (j = 14 ∨ j = 19 ∨ j = 22) → w 0 j = u 0 j) → zTG G f N M P A T t w) (h : zBR (zD t) f Y ql MR fc fk rw fq u) (hf : fc ≤ 1667) (hf2 : fk = 0 → fc < 1667) (hk : fk ≤ fc) (hq : ∀ j, j < fk → fq j < fc) (hy : zV N t y) (hn : ¬ (zD t).kd y = 0) (hn' : ¬ (zD t).kd (zflp y) = 0) : ∃ c u2, c = (if fk = 0 then fc else fq (fk - 1)) ∧ mX12_newChannel (Int32.ofNat (zF f y)) u = some (Int32.ofNat (2 * c), u2) ∧ zBR (zD t) f (zfu (zfu Y (2 * c) y) (2 * c + 1) (zflp y)) (zfu (zfu ql (2 * c) 0) (2 * c + 1) 0) MR (if fk = 0 then fc + 1 else fc) (fk - 1) rw fq u2 ∧ u2 0 100 = u 0 100 + 1 ∧ u2 0 80 = u 0 80 + (4 + 2 * u 0 73) ∧ (∀ j, ¬ (j = 80 ∨ j = 97 ∨ j = 98 ∨ j = 100) → u2 0 j = u 0 j) ∧ ∀ k, ¬ (k = 0 ∨ k = 55 ∨ k = 56) → u2 k = u k := by
  obtain ⟨a1, a2, a3, a4, a6⟩ := h
  obtain ⟨c, ec⟩ : ∃ c, c = (if fk = 0 then fc else fq (fk - 1)) := ⟨_, rfl⟩
  have hc : c < 1667 := by
    rw [ec]
    split
    · rename_i w; exact hf2 w
    · rename_i w; have := hq (fk - 1) (by omega); omega
  obtain ⟨u1, m1, m2, m3, m4, m5⟩ : ∃ u1, mX12_newChannel (Int32.ofNat (zF f y)) u = bX12_newChannel_37 (Int32.ofNat (zF f y)) (Int32.ofNat c) u1 ∧ u1 0 97 = Int32.ofNat (if fk = 0 then fc + 1 else fc) ∧ u1 0 98 = Int32.ofNat (fk - 1) ∧ (∀ j, ¬ (j = 97 ∨ j = 98) → u1 0 j = u 0 j) ∧ ∀ k, ¬ k = 0 → u1 k = u k := by
    unfold mX12_newChannel
    rw [a2]
    by_cases z : fk = 0
    · subst z
      rw [if_pos (show Int32.ofNat 0 ≤ 0 by decide), pl_pt, a1, zn_1]
      exact ⟨_, by rw [ec, if_pos rfl], by rw [zu_same, if_pos rfl], by rw [zu_ne2 (by decide)]; exact a2, fun j hj => zu_ne2 (by omega), fun k hk => zu_row hk⟩
    · rw [if_neg (show ¬ Int32.ofNat fk ≤ 0 from fun w => z (by have := (zn_le (b := 0) (by omega) (by decide)).mp w; omega)), pl_pt, show Int32.ofNat fk - 1 = Int32.ofNat (fk - 1) from zn_sub (b := 1) (by omega) (by omega), zn_rd (by omega) (by decide), zu_ne1 (show (54 : Nat) ≠ 0 by decide), a4 (fk - 1) (by omega)]
      exact ⟨_, by rw [ec, if_neg z], by rw [zu_ne2 (by decide), if_neg z]; exact a1, by rw [zu_same], fun j hj => zu_ne2 (by omega), fun k hk => zu_row hk⟩
  have lt := zF_lt (hT u (fun _ _ _ => rfl) (fun _ _ => rfl)) hy.1
  have fx : Int32.ofNat (zF f y) ^^^ 1 = Int32.ofNat (zF f (zflp y)) := by
    rw [(zb_x _ lt.1).1]
    congr 1
    unfold zF zflp
    rw [show (2 * (y / 2) + (1 - y % 2)) / 2 = y / 2 by omega, show (2 * (y / 2) + (1 - y % 2)) % 2 = 1 - y % 2 by omega]
    omega
  obtain ⟨u2, e2⟩ : ∃ u2, u2 = zu (zu (zu (zu u1 55 (2 * c) (Int32.ofNat (zF f y))) 55 (2 * c + 1) (Int32.ofNat (zF f (zflp y)))) 56 (2 * c) 0) 56 (2 * c + 1) 0 := ⟨_, rfl⟩
  have run : mX12_newChannel (Int32.ofNat (zF f y)) u = some (Int32.ofNat (2 * c), zu (zu u2 0 100 (u 0 100 + 1)) 0 80 (u 0 80 + (4 + 2 * u 0 73))) := by
    have e0 : ∀ j, u2 0 j = u1 0 j := fun j => by rw [e2, zu_ne1 (by decide), zu_ne1 (by decide), zu_ne1 (by decide), zu_ne1 (by decide)]
    rw [m1]
    unfold bX12_newChannel_37 mX12_channelCells
    rw [zn_dbl0, zn_wr (by omega) (by decide), fx, pl_plain (hT _ (fun r r1 r2 => by rw [zu_row (by omega), m5 r (by omega)]) (fun j hj => by rw [zu_ne1 (by decide), m4 j (by omega)])) (zV_fl hy).1, pl_bd, zV_self (zV_fl hy), zn_1, zn_wr (by omega) (by decide), zn_wr (by omega) (by decide), zn_wr (by omega) (by decide), ← e2, pl_pt, pl_bd, pl_pt, e0, m4 100 (by decide), zu_ne2 (show (80 : Nat) ≠ 100 by decide), zu_ne2 (show (73 : Nat) ≠ 100 by decide), e0, e0, m4 80 (by decide), m4 73 (by decide)]
  obtain ⟨u3, e3⟩ : ∃ u3, u3 = zu (zu u2 0 100 (u 0 100 + 1)) 0 80 (u 0 80 + (4 + 2 * u 0 73)) := ⟨_, rfl⟩
  have f0 : ∀ j, ¬ (j = 80 ∨ j = 100) → u3 0 j = u1 0 j := fun j hj => by rw [e3, zu_ne2 (by omega), zu_ne2 (by omega), e2, zu_ne1 (by decide), zu_ne1 (by decide), zu_ne1 (by decide), zu_ne1 (by decide)]
  have f3 : ∀ k, ¬ (k = 0 ∨ k = 55 ∨ k = 56) → u3 k = u k := fun k hk => by rw [e3, zu_row (by omega), zu_row (by omega), e2, zu_row (by omega), zu_row (by omega), zu_row (by omega), zu_row (by omega), m5 k (by omega)]
  refine ⟨c, u3, ec, by rw [e3]; exact run, ⟨by rw [f0 97 (by decide)]; exact m2, by rw [f0 98 (by decide)]; exact m3, by rw [f0 73 (by decide), m4 73 (by decide)]; exact a3, fun j hj => by rw [f3 54 (by decide)]; exact a4 j (by omega), fun x hx => ?_⟩, by rw [e3, zu_ne2 (by decide), zu_same], by rw [e3, zu_same], fun j hj => by rw [f0 j (by omega), m4 j (by omega)], f3⟩
  have e55 : u3 55 x = if x = 2 * c + 1 then Int32.ofNat (zF f (zflp y)) else if x = 2 * c then Int32.ofNat (zF f y) else u 55 x := by
    rw [e3, zu_ne1 (by decide), zu_ne1 (by decide), e2, zu_ne1 (by decide), zu_ne1 (by decide)]
    by_cases w1 : x = 2 * c + 1
    · subst w1; rw [zu_same, if_pos rfl]
    · rw [zu_ne2 w1, if_neg w1]
      by_cases w2 : x = 2 * c
      · subst w2; rw [zu_same, if_pos rfl]
      · rw [zu_ne2 w2, if_neg w2, m5 55 (by decide)]
  have e56 : u3 56 x = if x = 2 * c + 1 then 0 else if x = 2 * c then 0 else u 56 x := by
    rw [e3, zu_ne1 (by decide), zu_ne1 (by decide), e2]
    by_cases w1 : x = 2 * c + 1
    · subst w1; rw [zu_same, if_pos rfl]
    · rw [zu_ne2 w1, if_neg w1]
      by_cases w2 : x = 2 * c
      · subst w2; rw [zu_same, if_pos rfl]
      · rw [zu_ne2 w2, if_neg w2, zu_ne1 (by decide), zu_ne1 (by decide), m5 56 (by decide)]
  rw [e55, e56, f3 57 (by decide)]
  unfold zTy
  by_cases w1 : x = 2 * c + 1
  · rw [if_pos w1, if_pos w1, w1, zfu_same, zfu_same, if_neg hn']
    exact ⟨rfl, rfl, fun j hj => absurd hj (Nat.not_lt_zero _)⟩
  · rw [if_neg w1, if_neg w1, zfu_ne w1, zfu_ne w1]
    by_cases w2 : x = 2 * c
    · rw [if_pos w2, if_pos w2, w2, zfu_same, zfu_same, if_neg hn]
      exact ⟨rfl, rfl, fun j hj => absurd hj (Nat.not_lt_zero _)⟩
    · rw [if_neg w2, if_neg w2, zfu_ne w2, zfu_ne w2]
      refine a6 x ?_
      rw [ec] at w1 w2
      split at hx
      · rename_i z; rw [if_pos z] at w1 w2; omega
      · exact hx
