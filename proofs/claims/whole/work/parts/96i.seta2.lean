/-! the reference: setAfter as a whole -/
theorem pl_setA1 {G : zTxt} {f : Nat → Nat} {N K Q Pa bb S F C R W V x : Nat} {o : Nat → Nat × Nat} {w : Nat → Nat} {t u u1 : zS} {k2 : Int32 → zS → zR} (hP : zPs2 G f N K Q Pa bb S F C R W V o w t u) (tre : zTre o S t) (ha : zAf S t) (hV : V ≤ 1500) (hx : x < S) (h14 : u1 14 = u 14) (hlow : ∀ s, s < x → u1 21 s = t 103 s) (hold : u1 21 x = u 21 x ∧ u1 19 x = u 19 x ∧ u1 20 x = u 20 x) (h24 : ∀ y, u1 24 y = u 24 y ∨ u1 24 y = zRq (t 103) (u 24 y)) :
    ∃ u', lX12_setAfter_10 k2 zFU (Int32.ofNat x) u1 = bX12_setAfter_246 k2 (Int32.ofNat x) u' ∧ (∀ k, ¬ (k = 19 ∨ k = 20 ∨ k = 21 ∨ k = 24) → u' k = u1 k) ∧ (∀ s, ¬ s = x → u' 21 s = u1 21 s ∧ u' 19 s = u1 19 s ∧ u' 20 s = u1 20 s) ∧ (∀ y, u' 24 y = u1 24 y ∨ u' 24 y = zRq (t 103) (u 24 y)) ∧ zU2 t u u' x := by
  have hS := tre.1
  have hat : ∀ s, s < S → (-2 : Int32) < t 103 s := fun s hs => by
    rcases zAf_at tre ha S s hs hs with e | ⟨r, e1, e2⟩
    · rw [e]; decide
    · rw [e2]; exact (zn_b2 r (by omega)).2.2.2
  obtain ⟨st, ln, _⟩ := hP.2.2.2.2.2.2.2.2.2.2.2.2.2.2.2 x hx
  obtain ⟨a1, a2, a3⟩ := ha x hx
  have r21 : zRo (u1 21) (u1 21 x) ∧ zRq (u1 21) (u1 21 x) = t 103 x := by
    rw [hold.1]
    rcases ln with ⟨e1, _, e2⟩ | ⟨r, e1, _, e2, _, e4, _⟩
    · rw [e2]
      rcases (tre.2 x hx).2.2 with ⟨p1, _⟩ | ⟨p, p1, p2, _⟩
      · rw [p1, show zBeh t (-1) = -1 from rfl, a1 e1 p1]
        exact ⟨Or.inl (by decide), zRq_p (by decide)⟩
      · obtain ⟨c1, c2⟩ := a3 p e1 p1 (by omega)
        rw [p1, zBeh_w (by omega)]
        by_cases k : t 87 p = 12
        · rw [if_pos k, c1 k]
          exact ⟨Or.inl (zn_b2 p (by omega)).2.2.2, zRq_p (zn_b2 p (by omega)).2.2.2⟩
        · rw [if_neg k, c2 k, zRq_n (by omega), hlow p p2]
          exact ⟨Or.inr ⟨p, by omega, rfl, by rw [hlow p p2]; exact hat p (by omega)⟩, rfl⟩
    · rw [e2, a2 r e1 (by omega)]
      exact ⟨Or.inl (zn_b2 r (by omega)).2.2.2, zRq_p (zn_b2 r (by omega)).2.2.2⟩
  obtain ⟨ua, ea⟩ : ∃ ua, ua = zu u1 21 x (t 103 x) := ⟨_, rfl⟩
  have fa : ∀ k, ¬ k = 21 → ua k = u1 k := fun k hk => by rw [ea, zu_row hk]
  have a21 : ua 21 x = t 103 x := by rw [ea, zu_same]
  have b21 : ∀ s, ¬ s = x → ua 21 s = u1 21 s := fun s hs => by rw [ea, zu_ne2 hs]
  have start : lX12_setAfter_10 k2 zFU (Int32.ofNat x) u1 = if u 14 x = 10 then lX12_setAfter_55 k2 zFU (Int32.ofNat x) ua else bX12_setAfter_123 k2 (Int32.ofNat x) ua := by
    rw [show lX12_setAfter_10 k2 zFU (Int32.ofNat x) u1 = lX12_setAfter_10 k2 (999998 + 2) (Int32.ofNat x) u1 from rfl, pl_sa10 (by omega) r21.1, r21.2, ← ea, h14]
  have g14 : ∀ (v : zS), v 14 = u 14 → ∀ (F : Int32 → zR), zrd v 14 1600 (Int32.ofNat x) F = F (u 14 x) := fun v hv F => by rw [zn_rd (by omega) (by decide), hv]
  have plain : ∀ v : zS, v 14 = u 14 → ¬ u 14 x = 11 → ¬ u 14 x = 6 → bX12_setAfter_123 k2 (Int32.ofNat x) v = bX12_setAfter_246 k2 (Int32.ofNat x) v := fun v hv h1 h2 => by
    unfold bX12_setAfter_123 bX12_setAfter_168
    rw [g14 v hv, if_neg h1, g14 v hv, if_neg h2]
  rw [start]
  -- neither if nor case nor while
  have none : ¬ u 14 x = 10 → ¬ u 14 x = 11 → ¬ u 14 x = 6 → ∃ u', (if u 14 x = 10 then lX12_setAfter_55 k2 zFU (Int32.ofNat x) ua else bX12_setAfter_123 k2 (Int32.ofNat x) ua) = bX12_setAfter_246 k2 (Int32.ofNat x) u' ∧ (∀ k, ¬ (k = 19 ∨ k = 20 ∨ k = 21 ∨ k = 24) → u' k = u1 k) ∧ (∀ s, ¬ s = x → u' 21 s = u1 21 s ∧ u' 19 s = u1 19 s ∧ u' 20 s = u1 20 s) ∧ (∀ y, u' 24 y = u1 24 y ∨ u' 24 y = zRq (t 103) (u 24 y)) ∧ zU2 t u u' x := fun h1 h2 h3 => by
    refine ⟨ua, by rw [if_neg h1, plain ua (by rw [fa 14 (by decide), h14]) h2 h3], fun k hk => fa k (by omega), fun s hs => ⟨b21 s hs, by rw [fa 19 (by decide)], by rw [fa 20 (by decide)]⟩, fun y => Or.inl (by rw [fa 24 (by decide)]), a21, fun q => absurd q h1, fun _ => ⟨by rw [fa 19 (by decide)]; exact hold.2.1, by rw [fa 20 (by decide)]; exact hold.2.2⟩, fun q => absurd q h3⟩
  obtain ⟨_, st⟩ := st
  rcases st with ⟨w1, _⟩ | ⟨_, w1, _⟩ | ⟨w1, _⟩ | ⟨_, w1, _⟩ | ⟨_, w1, _⟩ | ⟨_, w1, _, _, w5, _⟩ | ⟨w1, _⟩ | ⟨_, w1, _, _, _, w5, _⟩ | ⟨_, w1, _, _, _, w5, _⟩
  · rcases w1 with w1 | w1 <;> exact none (by rw [w1.2]; decide) (by rw [w1.2]; decide) (by rw [w1.2]; decide)
  · exact none (by rw [w1]; decide) (by rw [w1]; decide) (by rw [w1]; decide)
  · rcases w1 with w1 | w1 | w1 <;> exact none (by rw [w1.2]; decide) (by rw [w1.2]; decide) (by rw [w1.2]; decide)
  · exact none (by rw [w1]; decide) (by rw [w1]; decide) (by rw [w1]; decide)
  · exact none (by rw [w1]; decide) (by rw [w1]; decide) (by rw [w1]; decide)
  · -- case
    obtain ⟨n, a, e, n0, _, c1, c2, c3, c4, _⟩ := w5
    have ro : ∀ y, y < n → zRo (ua 21) (ua 24 (a + y)) ∧ zRq (ua 21) (ua 24 (a + y)) = zRq (t 103) (u 24 (a + y)) := fun y hy => by
      rw [fa 24 (by decide)]
      obtain ⟨b1, b2⟩ := zBl_ro (r := ua 21) (by omega) hS (c4 y hy).2.1 (by rw [a21]; exact hat x hx)
      rcases h24 (a + y) with q | q
      · rw [q]; exact ⟨b1, (b2 (t 103) a21.symm).symm⟩
      · have l : (-2 : Int32) < zRq (t 103) (u 24 (a + y)) := by rw [b2 (t 103) a21.symm]; exact zRo_lt b1
        rw [q]; exact ⟨Or.inl l, zRq_p l⟩
    obtain ⟨u2, z1, z2, z3⟩ := pl_sa189 (k2 := k2) (x := x) (a := a) (n := n) (by omega) (by omega) n 0 (zFU - n - 1) ua (by omega) (by rw [fa 19 (by decide), hold.2.1]; exact c1) (by rw [fa 20 (by decide), hold.2.2]; exact c2) (fun y hy => (ro y hy).1)
    rw [show zFU - n - 1 + n + 1 = zFU by unfold zFU; omega, show a + 0 = a from rfl] at z1
    refine ⟨u2, ?_, fun k hk => by rw [z2 k (by omega), fa k (by omega)], fun s hs => ⟨by rw [z2 21 (by decide)]; exact b21 s hs, by rw [z2 19 (by decide), fa 19 (by decide)], by rw [z2 20 (by decide), fa 20 (by decide)]⟩, fun y => ?_, by rw [z2 21 (by decide)]; exact a21, fun q => by rw [w1] at q; exact absurd q (by decide), fun _ => ⟨by rw [z2 19 (by decide), fa 19 (by decide)]; exact hold.2.1, by rw [z2 20 (by decide), fa 20 (by decide)]; exact hold.2.2⟩, fun _ a' n' q1 q2 q3 j hj => ?_⟩
    · rw [if_neg (by rw [w1]; decide), ← z1]
      unfold bX12_setAfter_123 bX12_setAfter_168
      rw [g14 ua (by rw [fa 14 (by decide), h14]), if_neg (by rw [w1]; decide), g14 ua (by rw [fa 14 (by decide), h14]), if_pos w1, zn_rd (by omega) (by decide), fa 19 (by decide), hold.2.1, c1]
    · rw [z3]
      by_cases q : a + 0 ≤ y ∧ y < a + n
      · rw [if_pos q]
        have := (ro (y - a) (by omega)).2
        rw [show a + (y - a) = y by omega] at this
        exact Or.inr this
      · rw [if_neg q, fa 24 (by decide)]; exact Or.inl rfl
    · rw [c1] at q1
      rw [c2] at q2
      have x1 := (zn_inj (by omega) (by omega)).mp q1
      have x2 := (zn_inj (by omega) (by omega)).mp q2
      subst x1; subst x2
      rw [z3, if_pos (by omega)]
      exact (ro j hj).2
  · rcases w1 with w1 | w1 | w1
    · exact none (by rw [w1.2.1]; decide) (by rw [w1.2.1]; decide) (by rw [w1.2.1]; decide)
    · exact none (by rw [w1.2.1]; decide) (by rw [w1.2.1]; decide) (by rw [w1.2.1]; decide)
    · exact none (by rw [w1.2.1]; decide) (by rw [w1.2.1]; decide) (by rw [w1.2.1]; decide)
  · -- if
    obtain ⟨e0, e1, _, _, _, _, _, c1, c2, _⟩ := w5
    obtain ⟨b1, b2⟩ := zBl_ro (r := ua 21) (by omega) hS c1 (by rw [a21]; exact hat x hx)
    obtain ⟨d1, d2⟩ := zBl_ro (r := ua 21) (by omega) hS c2 (by rw [a21]; exact hat x hx)
    obtain ⟨ub, eb⟩ : ∃ ub, ub = zu ua 19 x (zRq (t 103) (u 19 x)) := ⟨_, rfl⟩
    obtain ⟨uc, ec⟩ : ∃ uc, uc = zu ub 20 x (zRq (t 103) (u 20 x)) := ⟨_, rfl⟩
    have fb : ∀ k, ¬ k = 19 → ub k = ua k := fun k hk => by rw [eb, zu_row hk]
    have fc : ∀ k, ¬ k = 20 → uc k = ub k := fun k hk => by rw [ec, zu_row hk]
    have s1 : lX12_setAfter_55 k2 zFU (Int32.ofNat x) ua = lX12_setAfter_89 k2 zFU (Int32.ofNat x) ub := by
      have e19 : ua 19 x = u 19 x := by rw [fa 19 (by decide)]; exact hold.2.1
      rw [show lX12_setAfter_55 k2 zFU (Int32.ofNat x) ua = lX12_setAfter_55 k2 (999998 + 2) (Int32.ofNat x) ua from rfl, pl_sa55 (by omega) (by rw [e19]; exact b1), e19, ← b2 (t 103) a21.symm, ← eb]
    have s2 : lX12_setAfter_89 k2 zFU (Int32.ofNat x) ub = bX12_setAfter_123 k2 (Int32.ofNat x) uc := by
      have e20 : ub 20 x = u 20 x := by rw [fb 20 (by decide), fa 20 (by decide)]; exact hold.2.2
      rw [show lX12_setAfter_89 k2 zFU (Int32.ofNat x) ub = lX12_setAfter_89 k2 (999998 + 2) (Int32.ofNat x) ub from rfl, pl_sa89 (by omega) (by rw [e20, fb 21 (by decide)]; exact d1), e20, fb 21 (by decide), ← d2 (t 103) a21.symm, ← ec]
    refine ⟨uc, by rw [if_pos w1, s1, s2, plain uc (by rw [fc 14 (by decide), fb 14 (by decide), fa 14 (by decide), h14]) (by rw [w1]; decide) (by rw [w1]; decide)], fun k hk => by rw [fc k (by omega), fb k (by omega), fa k (by omega)], fun s hs => ⟨by rw [fc 21 (by decide), fb 21 (by decide)]; exact b21 s hs, by rw [fc 19 (by decide), eb, zu_ne2 hs, fa 19 (by decide)], by rw [ec, zu_ne2 hs, fb 20 (by decide), fa 20 (by decide)]⟩, fun y => Or.inl (by rw [fc 24 (by decide), fb 24 (by decide), fa 24 (by decide)]), by rw [fc 21 (by decide), fb 21 (by decide)]; exact a21, fun _ => ⟨by rw [fc 19 (by decide), eb, zu_same], by rw [ec, zu_same]⟩, fun q => absurd w1 q, fun q => by rw [w1] at q; exact absurd q (by decide)⟩
  · -- while
    obtain ⟨e0, _, _, _, c1, _⟩ := w5
    have l : (-2 : Int32) < u 19 x := by
      rcases c1 with ⟨_, q⟩ | ⟨r, _, q, _, q2, _⟩
      · rw [q]; exact (zn_b2 x (by omega)).2.2.2
      · rw [q]; exact (zn_b2 r (by omega)).2.2.2
    refine ⟨ua, ?_, fun k hk => fa k (by omega), fun s hs => ⟨b21 s hs, by rw [fa 19 (by decide)], by rw [fa 20 (by decide)]⟩, fun y => Or.inl (by rw [fa 24 (by decide)]), a21, fun q => by rw [w1] at q; exact absurd q (by decide), fun _ => ⟨by rw [fa 19 (by decide)]; exact hold.2.1, by rw [fa 20 (by decide)]; exact hold.2.2⟩, fun q => by rw [w1] at q; exact absurd q (by decide)⟩
    rw [if_neg (by rw [w1]; decide)]
    unfold bX12_setAfter_123
    rw [g14 ua (by rw [fa 14 (by decide), h14]), if_pos w1]
    show bX12_setAfter_134 k2 _ _ ua = _
    unfold bX12_setAfter_134 bX12_setAfter_168
    rw [zn_rd (by omega) (by decide), fa 19 (by decide), hold.2.1, if_pos l, g14 ua (by rw [fa 14 (by decide), h14]), if_neg (by rw [w1]; decide)]
theorem pl_setAfter {G : zTxt} {f : Nat → Nat} {N K Q Pa bb S F C R W V : Nat} {o : Nat → Nat × Nat} {w : Nat → Nat} {t u : zS} (hP : zPs2 G f N K Q Pa bb S F C R W V o w t u) (tre : zTre o S t) (ha : zAf S t) (hV : V ≤ 1500) : ∃ u2, mX12_setAfter u = some (0, u2) ∧ (∀ k, ¬ (k = 19 ∨ k = 20 ∨ k = 21 ∨ k = 24) → u2 k = u k) ∧ ∀ s, s < S → zU2 t u u2 s := by
  have hS := tre.1
  have h26 : u 0 26 = Int32.ofNat S := hP.2.2.2.2.2.2.2.2.2.2.1
  have loop : ∀ (d x fu : Nat) (u1 : zS), x + d = S → (∀ k, ¬ (k = 19 ∨ k = 20 ∨ k = 21 ∨ k = 24) → u1 k = u k) → (∀ s, s < x → zU2 t u u1 s) → (∀ s, x ≤ s → s < S → u1 21 s = u 21 s ∧ u1 19 s = u 19 s ∧ u1 20 s = u 20 s) → (∀ y, u1 24 y = u 24 y ∨ u1 24 y = zRq (t 103) (u 24 y)) → ∃ u2, lX12_setAfter_2 (fu + d + 1) (Int32.ofNat x) u1 = some (0, u2) ∧ (∀ k, ¬ (k = 19 ∨ k = 20 ∨ k = 21 ∨ k = 24) → u2 k = u k) ∧ ∀ s, s < S → zU2 t u u2 s := by
    intro d
    induction d with
    | zero =>
      intro x fu u1 hx hk h1 h2 h3
      have : x = S := by omega
      subst this
      refine ⟨u1, ?_, hk, h1⟩
      show bX12_setAfter_2 _ _ u1 = _
      unfold bX12_setAfter_2
      rw [hk 0 (by decide), h26, if_pos (Int32.le_refl _)]
    | succ d ih =>
      intro x fu u1 hx hk h1 h2 h3
      have nle : ¬ Int32.ofNat S ≤ Int32.ofNat x := by rw [zn_le (by omega) (by omega)]; omega
      obtain ⟨u', z1, z2, z3, z4, z5⟩ := pl_setA1 (k2 := lX12_setAfter_2 (fu + d + 1)) hP tre ha hV (x := x) (u1 := u1) (by omega) (hk 14 (by decide)) (fun s hs => (h1 s hs).1) (h2 x (Nat.le_refl _) (by omega)) h3
      obtain ⟨u2, y1, y2, y3⟩ := ih (x + 1) fu u' (by omega) (fun k q => by rw [z2 k q, hk k q]) (fun s hs => by
        by_cases e : s = x
        · subst e; exact z5
        · obtain ⟨a1, a2, a3, a4⟩ := h1 s (by omega)
          obtain ⟨b1, b2, b3⟩ := z3 s e
          refine ⟨by rw [b1]; exact a1, fun q => by rw [b2, b3]; exact a2 q, fun q => by rw [b2, b3]; exact a3 q, fun q a n q1 q2 q3 j hj => ?_⟩
          rcases z4 (a + j) with c | c
          · rw [c]; exact a4 q a n q1 q2 q3 j hj
          · exact c) (fun s q1 q2 => by
        obtain ⟨b1, b2, b3⟩ := z3 s (by omega)
        rw [b1, b2, b3]; exact h2 s (by omega) q2) (fun y => by
        rcases z4 y with c | c
        · rw [c]; exact h3 y
        · exact Or.inr c)
      refine ⟨u2, ?_, y2, y3⟩
      rw [← y1]
      show bX12_setAfter_2 (lX12_setAfter_2 (fu + d + 1)) _ u1 = _
      unfold bX12_setAfter_2
      rw [hk 0 (by decide), h26, if_neg nle, z1]
      unfold bX12_setAfter_246
      rw [pl_let, zn_1]
  obtain ⟨u2, a1, a2⟩ := loop S 0 (zFU - S - 1) u (by omega) (fun _ _ => rfl) (fun s hs => absurd hs (Nat.not_lt_zero _)) (fun _ _ _ => ⟨rfl, rfl, rfl⟩) (fun _ => Or.inl rfl)
  rw [show zFU - S - 1 + S + 1 = zFU by unfold zFU; omega] at a1
  exact ⟨u2, a1, a2⟩
