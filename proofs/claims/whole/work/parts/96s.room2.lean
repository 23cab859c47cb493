/-! the reference: room for a process, all of it -/
theorem pl_rooms48 {many b : Nat} {u : zS} (hb : b + many ≤ 24000) : ∀ (d k fu : Nat) (u1 : zS), k + d = many → (∀ r, ¬ (r = 52 ∨ r = 53) → u1 r = u r) → (∀ i, u1 52 i = (if b ≤ i ∧ i < b + k then 0 else u 52 i) ∧ u1 53 i = (if b ≤ i ∧ i < b + k then -1 else u 53 i)) → ∃ u2, lX12_rooms_48 (fu + d + 1) (Int32.ofNat many) (Int32.ofNat b) (Int32.ofNat k) u1 = some (Int32.ofNat b, u2) ∧ (∀ r, ¬ (r = 52 ∨ r = 53) → u2 r = u r) ∧ ∀ i, u2 52 i = (if b ≤ i ∧ i < b + many then 0 else u 52 i) ∧ u2 53 i = (if b ≤ i ∧ i < b + many then -1 else u 53 i) := by
  intro d
  induction d with
  | zero =>
    intro k fu u1 hk h1 h2
    have : k = many := by omega
    subst this
    refine ⟨u1, ?_, h1, h2⟩
    show bX12_rooms_48 _ _ _ _ u1 = _
    unfold bX12_rooms_48
    rw [if_pos (Int32.le_refl _)]
  | succ d ih =>
    intro k fu u1 hk h1 h2
    obtain ⟨u2, z1, z2⟩ := ih (k + 1) fu (zu (zu u1 52 (b + k) 0) 53 (b + k) (-1)) (by omega) (fun r hr => by rw [zu_row (by omega), zu_row (by omega)]; exact h1 r hr) (fun i => by
      by_cases e : i = b + k
      · subst e
        rw [zu_ne1 (by decide), zu_same, zu_same, if_pos (by omega), if_pos (by omega)]
        exact ⟨rfl, rfl⟩
      · rw [zu_ne2 e, zu_ne2 e, zu_ne2 e, zu_ne2 e, (h2 i).1, (h2 i).2]
        by_cases c : b ≤ i ∧ i < b + k
        · rw [if_pos c, if_pos c, if_pos (by omega), if_pos (by omega)]
          exact ⟨rfl, rfl⟩
        · rw [if_neg c, if_neg c, if_neg (by omega), if_neg (by omega)]
          exact ⟨rfl, rfl⟩)
    refine ⟨u2, ?_, z2⟩
    rw [← z1]
    show bX12_rooms_48 (lX12_rooms_48 (fu + d + 1)) _ _ _ u1 = _
    unfold bX12_rooms_48
    rw [if_neg (fun w => by have := (zn_le (by omega) (by omega)).mp w; omega), zn_add, zn_wr (by omega) (by decide), zn_wr (by omega) (by decide), pl_let, zn_1]
theorem zRoomR {m q0 q mn : Nat} {R n no : Nat → Nat} {num H u : zS} (hg : zRgM m R no u) (h : zMR (fun p => zIn m R p ∧ ¬ p = q0) n num H u) (hno : ∀ i, i < m → ¬ R i = q0 → no (R i) = n (R i)) (hq : ∀ i, i < m → R i = q0 → u 51 q0 = -1) (hown : ∀ v : zS, v 31 = u 31 → mX12_ownMany (Int32.ofNat q) v = some (Int32.ofNat mn, v)) (hs : zSs (fun i => if R i = q0 then 0 else n (R i)) m + mn ≤ 24000) :
    ∃ b u2, mX12_rooms (Int32.ofNat q) u = some (Int32.ofNat b, u2) ∧ (∀ v : zS, v 51 = (zu u2 51 q0 (Int32.ofNat b)) 51 → v 52 = u2 52 → v 53 = u2 53 → v 0 94 = u2 0 94 → zMR (fun p => zIn m R p ∨ p = q0) (fun p => if p = q0 then mn else n p) (fun r k => if r = q0 then 0 else num r k) (fun r k => if r = q0 then -1 else H r k) v) ∧ (∀ r, ¬ (r = 0 ∨ r = 51 ∨ r = 52 ∨ r = 53) → u2 r = u r) ∧ ∀ j, ¬ j = 94 → u2 0 j = u 0 j := by
  have room : ∃ u1, mX12_rooms (Int32.ofNat q) u = bX12_rooms_24 (Int32.ofNat mn) u1 ∧ zMR (fun p => zIn m R p ∧ ¬ p = q0) n num H u1 ∧ (∃ us, u1 0 94 = Int32.ofNat us ∧ us + mn ≤ 24000) ∧ (∀ r, ¬ (r = 0 ∨ r = 51 ∨ r = 52 ∨ r = 53) → u1 r = u r) ∧ ∀ j, ¬ j = 94 → u1 0 j = u 0 j := by
    obtain ⟨us, e1, e2⟩ : ∃ us, u 0 94 = Int32.ofNat us ∧ us ≤ 24000 := by
      obtain ⟨us, B, a3, a4, _⟩ := h
      exact ⟨us, a3, a4⟩
    unfold mX12_rooms
    rw [hown u rfl, pl_bd, e1, zn_add]
    by_cases c : us + mn ≤ 24000
    · refine ⟨u, ?_, h, ⟨us, e1, c⟩, fun _ _ => rfl, fun _ _ => rfl⟩
      rw [if_pos (show Int32.ofNat (us + mn) ≤ 24000 from (zn_le (b := 24000) (by omega) (by decide)).mpr c)]
    · obtain ⟨u1, z1, z2, ⟨us1, z3, z3'⟩, z4, z5⟩ := zCloseR hg h hno hq (by omega)
      refine ⟨u1, ?_, z2, ⟨us1, z3, by omega⟩, z4, z5⟩
      rw [if_neg (show ¬ Int32.ofNat (us + mn) ≤ 24000 from fun w => c ((zn_le (b := 24000) (by omega) (by decide)).mp w)), z1, pl_bd]
  obtain ⟨u1, r1, r2, ⟨us, r3, r4⟩, r5, r6⟩ := room
  obtain ⟨us', B, a3, a4, a5, a6⟩ := r2
  have eu : us' = us := by
    rw [r3] at a3
    exact ((zn_inj (by omega) (by omega)).mp a3).symm
  subst eu
  by_cases z : mn = 0
  · refine ⟨0, u1, ?_, fun v v1 v2 v3 v4 => ⟨us', fun p => if p = q0 then 0 else B p, by rw [v4]; exact r3, a4, fun p hp => ?_, fun p p' hp hp' hne => ?_⟩, r5, r6⟩
    · rw [r1, z]
      unfold bX12_rooms_24
      rw [if_pos (show Int32.ofNat 0 = 0 from rfl)]; rfl
    · rw [v1, v2, v3]
      by_cases e : p = q0
      · subst e
        simp only [↓reduceIte]
        exact ⟨⟨zu_same _ _ _ _, fun _ => trivial⟩, by omega, fun k hk => by omega⟩
      · simp only [if_neg e]
        obtain ⟨b1, b2, b3⟩ := a5 p ⟨hp.resolve_right e, e⟩
        rw [zu_ne2 e]
        exact ⟨b1, b2, b3⟩
    · by_cases e : p = q0
      · have e' : ¬ p' = q0 := fun w => hne (e.trans w.symm)
        simp only [if_pos e, if_neg e']
        exact Or.inl (by omega)
      · by_cases e' : p' = q0
        · simp only [if_neg e, if_pos e']
          exact Or.inr (by omega)
        · simp only [if_neg e, if_neg e']
          exact a6 p p' ⟨hp.resolve_right e, e⟩ ⟨hp'.resolve_right e', e'⟩ hne
  · obtain ⟨u2, y1, y2, y3⟩ := pl_rooms48 (many := mn) (b := us') (u := zu u1 0 94 (Int32.ofNat (us' + mn))) (by omega) mn 0 (zFU - mn - 1) (zu u1 0 94 (Int32.ofNat (us' + mn))) (by omega) (fun _ _ => rfl) (fun i => by rw [if_neg (by omega), if_neg (by omega)]; exact ⟨rfl, rfl⟩)
    rw [show zFU - mn - 1 + mn + 1 = zFU by unfold zFU; omega, show Int32.ofNat 0 = 0 from rfl] at y1
    refine ⟨us', u2, ?_, fun v v1 v2 v3 v4 => ⟨us' + mn, fun p => if p = q0 then us' else B p, ?_, r4, fun p hp => ?_, fun p p' hp hp' hne => ?_⟩, fun r hr => ?_, fun j hj => ?_⟩
    · rw [r1, ← y1]
      unfold bX12_rooms_24
      rw [if_neg (show ¬ Int32.ofNat mn = 0 from fun w => z ((zn_inj (b := 0) (by omega) (by decide)).mp w)), pl_let, pl_pt, a3, zn_add]
    · rw [v4, y2 0 (by decide), zu_same]
    · rw [v1, v2, v3]
      by_cases e : p = q0
      · subst e
        simp only [↓reduceIte]
        refine ⟨⟨zu_same _ _ _ _, fun w => absurd w z⟩, Nat.le_refl _, fun k hk => ?_⟩
        rw [(y3 (us' + k)).1, (y3 (us' + k)).2, if_pos (by omega), if_pos (by omega)]
        exact ⟨rfl, rfl⟩
      · simp only [if_neg e]
        obtain ⟨b1, b2, b3⟩ := a5 p ⟨hp.resolve_right e, e⟩
        rw [zu_ne2 e, y2 51 (by decide), zu_row (by decide)]
        refine ⟨b1, by omega, fun k hk => ?_⟩
        rw [(y3 (B p + k)).1, (y3 (B p + k)).2, if_neg (by omega), if_neg (by omega), zu_ne1 (by decide), zu_ne1 (by decide)]
        exact b3 k hk
    · have key : ∀ p, ¬ p = q0 → (zIn m R p ∨ p = q0) → B p + n p ≤ us' := fun p e hp => (a5 p ⟨hp.resolve_right e, e⟩).2.1
      by_cases e : p = q0
      · have e' : ¬ p' = q0 := fun w => hne (e.trans w.symm)
        simp only [if_pos e, if_neg e']
        exact Or.inr (key p' e' hp')
      · by_cases e' : p' = q0
        · simp only [if_neg e, if_pos e']
          exact Or.inl (key p e hp)
        · simp only [if_neg e, if_neg e']
          exact a6 p p' ⟨hp.resolve_right e, e⟩ ⟨hp'.resolve_right e', e'⟩ hne
    · rw [y2 r (by omega), zu_row (by omega)]; exact r5 r hr
    · rw [y2 0 (by decide), zu_ne2 hj]; exact r6 j hj
