/-! ACT become -/
theorem zBecAC {n : Nat → Nat} {Q m p x : Nat} {R pq : Nat → Nat} {fr fd : Nat} {fp : Nat → Nat} {sp ac : Nat → Int32} {num H t : zS} {blk : Int32} (h : zAC n m R pq fr fd fp sp ac num H t) (hP : zAP Q m R pq fr fd fp) (hp : zIn m R p) (hs : zSs (fun i => if R i = p then 0 else n (pq (R i))) m + n x ≤ 12000) :
    ∃ t2, mX8_become (Int32.ofNat p) (Int32.ofNat x) (Int32.ofNat (n x)) blk t = some (0, t2) ∧ zAC n m R (zfu pq p x) fr fd fp (zfu sp p blk) ac (fun r k => if r = p then 0 else num r k) (fun r k => if r = p then -1 else H r k) t2 ∧ t2 60 17 = t 60 17 ∧ ∀ k, ¬ (k = 60 ∨ 126 ≤ k) → t2 k = t k := by
  obtain ⟨a1, a2, a3, a4, a5, a6, a7⟩ := h
  obtain ⟨b1, b2, b3, b4, b5, b6⟩ := hP
  have hp2 : p < 2501 := by obtain ⟨i, i1, i2⟩ := hp; have := (b1 i i1).1; omega
  obtain ⟨t2, d1, d2, d3, d4, d5, d6⟩ := zBecC (p := p) (mn := n x) (x := Int32.ofNat x) (z := blk) a7 a1 (fun i hi => by have := (b1 i hi).1; omega) b2 (by omega) hp2 hs
  refine ⟨t2, d1, ⟨?_, by rw [d4 16 (by decide)]; exact a2, by rw [d4 13 (by decide)]; exact a3, by rw [d4 12 (by decide)]; exact a4, fun j hj => by rw [d3 141 (by decide)]; exact a5 j hj, fun i hi => ?_, ?_⟩, d4 17 (by decide), fun k hk => d3 k (by omega)⟩
  · unfold zLkC at *
    rw [d4 10 (by decide), d4 11 (by decide), d3 137 (by decide), d3 139 (by decide)]; exact a1
  · obtain ⟨c1, c2, c3⟩ := a6 i hi
    rw [d5, d6, d3 131 (by decide)]
    by_cases e : R i = p
    · rw [e, zu_same, zu_same, zfu_same, zfu_same]
      rw [e] at c3
      exact ⟨rfl, rfl, c3⟩
    · rw [zu_ne2 e, zu_ne2 e, zfu_ne e, zfu_ne e]
      exact ⟨c1, c2, c3⟩
  · refine zMC_sub d2 (fun r hr => Or.inl hr) (fun r hr => ?_) (fun r k _ _ => ⟨rfl, rfl⟩)
    by_cases e : r = p
    · rw [if_pos e, e, zfu_same]
    · rw [if_neg e, zfu_ne e]
theorem zBecAR {n : Nat → Nat} {Q m p x y : Nat} {R pq : Nat → Nat} {fr fd : Nat} {fp : Nat → Nat} {sp ac : Nat → Int32} {num H u : zS} {x8 x9 v : Int32} (h : zAR n m R pq fr fd fp sp ac num H u) (hP : zAP Q m R pq fr fd fp) (hp : zIn m R p) (hx : x < Q) (hQ : Q ≤ 300) (hy : y < 1000) (hst : ∀ q, q < Q → ∃ b, u 31 q = Int32.ofNat b ∧ u 31 (q + 1) = Int32.ofNat (b + n q) ∧ b + n q ≤ 3000) (hs : zSs (fun i => if R i = p then 0 else n (pq (R i))) m + n x ≤ 12000) :
    ∃ u2, bX12_calls_362 (Int32.ofNat p) (Int32.ofNat y) (Int32.ofNat x) 1 0 x8 x9 v u = bX12_calls_448 (Int32.ofNat p) (Int32.ofNat y) 0 x8 x9 (Int32.ofNat p) u2 ∧ zAR n m R (zfu pq p x) fr fd fp (zfu sp p (u 29 x)) ac (fun r k => if r = p then 0 else num r k) (fun r k => if r = p then -1 else H r k) u2 ∧ u2 0 80 = u 0 80 + v ∧ (∀ j, ¬ (j = 80 ∨ j = 94) → u2 0 j = u 0 j) ∧ ∀ k, ¬ (k = 0 ∨ (48 ≤ k ∧ k ≤ 53)) → u2 k = u k := by
  have h0 := h
  have hP0 := hP
  obtain ⟨a1, a2, a3, a4, a5, a6⟩ := h
  obtain ⟨b1, b2, b3, b4, b5, b6⟩ := hP
  have hp2 : p < 2501 := by obtain ⟨i, i1, i2⟩ := hp; have := (b1 i i1).1; omega
  obtain ⟨uS, eS⟩ : ∃ uS, uS = zu (zu (zu (zu (zu u 49 p (u 21 y)) 0 80 (u 0 80 + v)) 48 p (Int32.ofNat x)) 49 p (u 29 x)) 51 p (-1) := ⟨_, rfl⟩
  have rS : ∀ k, ¬ (k = 0 ∨ k = 48 ∨ k = 49 ∨ k = 51) → uS k = u k := fun k hk => by rw [eS, zu_row (by omega), zu_row (by omega), zu_row (by omega), zu_row (by omega), zu_row (by omega)]
  have rS0 : ∀ j, ¬ j = 80 → uS 0 j = u 0 j := fun j hj => by rw [eS, zu_ne1 (by decide), zu_ne1 (by decide), zu_ne1 (by decide), zu_ne2 hj, zu_ne1 (by decide)]
  have e80 : uS 0 80 = u 0 80 + v := by rw [eS, zu_ne1 (by decide), zu_ne1 (by decide), zu_ne1 (by decide), zu_same]
  have e48 : ∀ q, uS 48 q = if q = p then Int32.ofNat x else u 48 q := fun q => by
    rw [eS, zu_ne1 (by decide), zu_ne1 (by decide)]
    by_cases e : q = p
    · rw [if_pos e, e, zu_same]
    · rw [if_neg e, zu_ne2 e, zu_ne1 (by decide), zu_ne1 (by decide)]
  have e49 : ∀ q, uS 49 q = if q = p then u 29 x else u 49 q := fun q => by
    rw [eS, zu_ne1 (by decide)]
    by_cases e : q = p
    · rw [if_pos e, e, zu_same]
    · rw [if_neg e, zu_ne2 e, zu_ne1 (by decide), zu_ne1 (by decide), zu_ne2 e]
  have e51 : ∀ q, ¬ q = p → uS 51 q = u 51 q := fun q hq => by rw [eS, zu_ne2 hq, zu_ne1 (by decide), zu_ne1 (by decide), zu_ne1 (by decide), zu_ne1 (by decide)]
  have hg : zRgM m R (fun r => n (zfu pq p x r)) uS := by
    obtain ⟨g1, g2, g3, g4, g5⟩ := zRgM_of h0 hP0 hQ hst
    refine ⟨by rw [rS0 85 (by decide)]; exact g1, g2, by rw [rS 46 (by decide)]; exact g3, g4, fun i hi => ?_⟩
    rw [e48, rS 31 (by decide)]
    show ∃ q b, _ ∧ _ ∧ _ ∧ u 31 (q + 1) = Int32.ofNat (b + n (zfu pq p x (R i))) ∧ b + n (zfu pq p x (R i)) ≤ 3000
    by_cases e : R i = p
    · rw [if_pos e, e, zfu_same]
      obtain ⟨b, x1, x2, x3⟩ := hst x hx
      exact ⟨x, b, rfl, by omega, x1, x2, x3⟩
    · rw [if_neg e, zfu_ne e]; exact g5 i hi
  have hown : ∀ v : zS, v 31 = uS 31 → mX12_ownMany (Int32.ofNat x) v = some (Int32.ofNat (n x), v) := fun v hv => by
    obtain ⟨b, x1, x2, x3⟩ := hst x hx
    exact pl_own (by omega) (by rw [hv, rS 31 (by decide)]; exact x1) (by rw [hv, rS 31 (by decide)]; exact x2) (by omega)
  have hMR : zMR (fun r => zIn m R r ∧ ¬ r = p) (fun r => n (pq r)) num H uS := by
    obtain ⟨us, B, m1, m2, m3, m4⟩ := a6
    refine ⟨us, B, by rw [rS0 94 (by decide)]; exact m1, m2, fun r hr => ?_, fun r r' h1 h2 => m4 r r' h1.1 h2.1⟩
    rw [e51 r hr.2, rS 52 (by decide), rS 53 (by decide)]
    exact m3 r hr.1
  obtain ⟨b, u2, d1, d2, d3, d4⟩ := zRoomR (q0 := p) (q := x) (mn := n x) (n := fun r => n (pq r)) hg hMR (fun i hi e => by
    show n (zfu pq p x (R i)) = n (pq (R i))
    rw [zfu_ne e]) (fun i hi e => by rw [eS, zu_same]) hown (by omega)
  obtain ⟨u3, e3⟩ : ∃ u3, u3 = zu u2 51 p (Int32.ofNat b) := ⟨_, rfl⟩
  have r3 : ∀ k, ¬ k = 51 → u3 k = u2 k := fun k hk => by rw [e3, zu_row hk]
  refine ⟨u3, ?_, ⟨by rw [r3 0 (by decide), d4 85 (by decide), rS0 85 (by decide)]; exact a1, by rw [r3 0 (by decide), d4 105 (by decide), rS0 105 (by decide)]; exact a2, by rw [r3 0 (by decide), d4 88 (by decide), rS0 88 (by decide)]; exact a3, fun j hj => by rw [r3 47 (by decide), d3 47 (by decide), rS 47 (by decide)]; exact a4 j hj, fun i hi => ?_, ?_⟩, by rw [r3 0 (by decide), d4 80 (by decide), e80], fun j hj => by rw [r3 0 (by decide), d4 j (by omega), rS0 j (by omega)], fun k hk => by rw [r3 k (by omega), d3 k (by omega), rS k (by omega)]⟩
  · unfold bX12_calls_362
    rw [zn_rd (by omega) (by decide), zn_wr (by omega) (by decide), if_neg pl_10, pl_pt, zu_ne1 (show (0 : Nat) ≠ 49 by decide), zn_wr (by omega) (by decide), zn_rd (by omega) (by decide), zu_ne1 (show (29 : Nat) ≠ 48 by decide), zu_ne1 (show (29 : Nat) ≠ 0 by decide), zu_ne1 (show (29 : Nat) ≠ 49 by decide), zn_wr (by omega) (by decide), zn_rd (by omega) (by decide), zn_wr (by omega) (by decide), ← eS, d1, pl_bd, zn_wr (by omega) (by decide), ← e3]
  · obtain ⟨c1, c2, c3, c4⟩ := a5 i hi
    rw [r3 46 (by decide), d3 46 (by decide), rS 46 (by decide), r3 48 (by decide), d3 48 (by decide), e48, r3 49 (by decide), d3 49 (by decide), e49, r3 50 (by decide), d3 50 (by decide), rS 50 (by decide)]
    by_cases e : R i = p
    · rw [if_pos e, if_pos e, e, zfu_same, zfu_same]
      rw [e] at c1 c4
      exact ⟨c1, rfl, rfl, c4⟩
    · rw [if_neg e, if_neg e, zfu_ne e, zfu_ne e]
      exact ⟨c1, c2, c3, c4⟩
  · refine zMR_sub (d2 u3 (by rw [e3]) (r3 52 (by decide)) (r3 53 (by decide)) (by rw [r3 0 (by decide)])) (fun r hr => Or.inl hr) (fun r hr => ?_) (fun r k _ _ => ⟨rfl, rfl⟩)
    by_cases e : r = p
    · rw [if_pos e, e, zfu_same]
    · rw [if_neg e, zfu_ne e]
theorem zDiff {a b c : Nat} (h : c ≤ a) : Int32.ofNat a + (Int32.ofNat b - Int32.ofNat c) = Int32.ofNat (a - c + b) := by
  have e : Int32.ofNat a = Int32.ofNat (a - c) + Int32.ofNat c := by rw [zn_add, show a - c + c = a by omega]
  rw [e, Int32.add_assoc, Int32.add_comm (Int32.ofNat c), Int32.sub_add_cancel, zn_add]
/-- the reference's memory, to become -/
theorem zCl237b {u : zS} {p y x q nx nq m1 mem lim : Nat} {x8 : Int32} (hp : p < 2501) (hy : y < 1000) (hown : mX12_ownMany (Int32.ofNat x) u = some (Int32.ofNat nx, u)) (hown2 : mX12_ownMany (Int32.ofNat q) u = some (Int32.ofNat nq, u)) (h48 : u 48 p = Int32.ofNat q) (h20 : u 20 y = Int32.ofNat m1) (hm1 : m1 ≤ 1500) (h80 : u 0 80 = Int32.ofNat mem) (h74 : u 0 74 = Int32.ofNat lim) (hq : 4 + nq ≤ mem) : bX12_calls_237 (Int32.ofNat p) (Int32.ofNat y) (Int32.ofNat x) 1 0 x8 0 u = if Int32.ofNat (mem - (4 + nq) + (4 + nx)) ≤ Int32.ofNat lim then bX12_calls_362 (Int32.ofNat p) (Int32.ofNat y) (Int32.ofNat x) 1 0 x8 0 (Int32.ofNat (4 + nx) - Int32.ofNat (4 + nq)) u else some (0, zu u 0 72 4) := by
  have c303 : ∀ v, lX12_calls_303 zFU (Int32.ofNat p) (Int32.ofNat y) (Int32.ofNat x) 1 0 x8 0 v 0 u = bX12_calls_362 (Int32.ofNat p) (Int32.ofNat y) (Int32.ofNat x) 1 0 x8 0 v u := fun v => by
    rw [show zFU = zFU - 1 + 1 from rfl]
    show bX12_calls_303 _ _ _ _ _ _ _ _ _ _ u = _
    unfold bX12_calls_303
    rw [zn_rd (by omega) (by decide), if_neg pl_10]
    split <;> rfl
  unfold bX12_calls_237 mX12_processCells
  rw [hown, pl_bd, pl_bd, if_neg pl_10, zn_rd (by omega) (by decide), h48, hown2, pl_bd, pl_bd, show (4 : Int32) + Int32.ofNat nx = Int32.ofNat (4 + nx) from zn_add 4 nx, show (4 : Int32) + Int32.ofNat nq = Int32.ofNat (4 + nq) from zn_add 4 nq]
  unfold bX12_calls_263 bX12_calls_277
  rw [if_pos rfl, pl_let, Int32.add_zero, h80, h74, zDiff hq, c303]
  rfl
