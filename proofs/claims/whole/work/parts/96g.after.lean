/-! where one goes on behind a statement -/
theorem zPs2_g {G : zTxt} {f : Nat → Nat} {N K Q Pa bb S F C R W V : Nat} {o : Nat → Nat × Nat} {w : Nat → Nat} {t u t2 u2 : zS} (h : zPs2 G f N K Q Pa bb S F C R W V o w t u) (r : ∀ k, ¬ (k = 3 ∨ k = 6 ∨ k = 27 ∨ k = 29 ∨ k = 31 ∨ k = 58 ∨ k = 103 ∨ k = 113) → t2 k = t k) (g : ∀ k, ¬ (k = 0 ∨ k = 40 ∨ k = 41 ∨ k = 42 ∨ k = 43) → u2 k = u k) (r0 : ∀ j, ¬ (j = 65 ∨ j = 67 ∨ j = 68 ∨ j = 70) → u2 0 j = u 0 j) : zPs2 G f N K Q Pa bb S F C R W V o w t2 u2 := by
  obtain ⟨a1, a2, a3, a4, a5, a6, a7, a8, a9, a10, a11, a12, a13, a14, a15, a16⟩ := h
  refine ⟨by rw [r 4 (by decide)]; exact a1, by rw [r0 44 (by decide)]; exact a2, by rw [r 4 (by decide)]; exact a3, by rw [g 31 (by decide)]; exact a4, by rw [r 33 (by decide), g 28 (by decide)]; exact a5, by rw [r 49 (by decide)]; exact a6, fun x hx => ?_, by rw [r 51 (by decide)]; exact a8, by rw [r0 42 (by decide)]; exact a9, by rw [r 52 (by decide)]; exact a10, by rw [r0 26 (by decide)]; exact a11, by rw [r 51 (by decide)]; exact a12, by rw [r0 39 (by decide)]; exact a13, by rw [r 52 (by decide)]; exact a14, by rw [r0 36 (by decide)]; exact a15, fun s hs => ?_⟩
  · have := a7 x hx
    unfold zPd at *
    rw [r 39 (by decide), g 31 (by decide), r 37 (by decide), g 32 (by decide), r 35 (by decide), r 45 (by decide), g 34 (by decide), r 41 (by decide), g 29 (by decide), r 101 (by decide), r 43 (by decide), g 30 (by decide)]
    exact this
  · obtain ⟨c1, c2, c3, c4⟩ := a16 s hs
    refine ⟨zStm_ext c1 hs (Nat.le_refl _) (Nat.le_refl _) (Nat.le_refl _) (Nat.le_refl _) (Nat.le_refl _) (Nat.le_refl _) (fun _ _ => rfl) (fun k hk => by rw [r k (by omega)]) (fun k hk => by rw [g k (by omega)]) (fun _ _ => by rw [r 101 (by decide)]) (fun _ _ => ⟨by rw [r 75 (by decide)], by rw [r 77 (by decide)]⟩) (fun c _ => by rw [g 27 (by decide)]) (fun _ _ => ⟨by rw [r 79 (by decide)], by rw [r 81 (by decide)], by rw [r 83 (by decide)]⟩) (fun x _ => ⟨by rw [g 25 (by decide)], by rw [g 26 (by decide)]⟩) (fun x _ hw => ⟨hw, by rw [r 109 (by decide)], by rw [r 111 (by decide)], by rw [r 115 (by decide)]⟩) (fun x _ => ⟨by rw [g 23 (by decide)], by rw [g 24 (by decide)]⟩) (fun m hm hm2 => ⟨m, by rw [r 39 (by decide)]; exact hm, Nat.le_refl _, hm2⟩), ?_, ?_, c4⟩
    · unfold zLn zBeh at *
      rw [r 99 (by decide), g 22 (by decide), g 21 (by decide), r 101 (by decide), r 87 (by decide)]
      exact c2
    · unfold zPa zP0 at *
      rw [r 101 (by decide), r 87 (by decide), r 107 (by decide)]
      exact c3
theorem zn_b2 : ∀ h, h < 1600 → ((-2 - Int32.ofNat h : Int32) < -1 ∧ ¬ (-2 : Int32) < -2 - Int32.ofNat h ∧ (-2 : Int32) - (-2 - Int32.ofNat h) = Int32.ofNat h ∧ (-2 : Int32) < Int32.ofNat h) := by decide +kernel
/-- the class's row 103 of statements below x -/
def zAf (x : Nat) (t : zS) : Prop := ∀ s, s < x → (t 99 s = -1 → t 101 s = -1 → t 103 s = -1) ∧ (∀ r, t 99 s = Int32.ofNat r → r < 1000 → t 103 s = Int32.ofNat r) ∧ ∀ h, t 99 s = -1 → t 101 s = Int32.ofNat h → h < 1000 → (t 87 h = 12 → t 103 s = Int32.ofNat h) ∧ (¬ t 87 h = 12 → t 103 s = t 103 h)
theorem zAf_at {o : Nat → Nat × Nat} {S : Nat} {t : zS} (tre : zTre o S t) (h : zAf S t) : ∀ x s, s < x → s < S → t 103 s = -1 ∨ ∃ r, r < S ∧ t 103 s = Int32.ofNat r := by
  intro x
  induction x with
  | zero => intro s h; omega
  | succ x ih =>
    intro s hs hS
    have h1000 := tre.1
    obtain ⟨a1, a2, a3⟩ := h s hS
    obtain ⟨b1, b2, b3⟩ := tre.2 s hS
    rcases b1 with e | ⟨r, e1, e2, e3, _⟩
    · rcases b3 with ⟨p1, _⟩ | ⟨p, p1, p2, _⟩
      · exact Or.inl (a1 e p1)
      · obtain ⟨c1, c2⟩ := a3 p e p1 (by omega)
        by_cases k : t 87 p = 12
        · exact Or.inr ⟨p, by omega, c1 k⟩
        · rw [c2 k]; exact ih p (by omega) (by omega)
    · exact Or.inr ⟨r, e3, a2 r e1 (by omega)⟩
theorem pl_settle9 {o : Nat → Nat × Nat} {S : Nat} {t : zS} (tre : zTre o S t) (h15 : t 52 15 = Int32.ofNat S) : ∃ t2, mX9_settle t = some (0, t2) ∧ (∀ k, ¬ k = 103 → t2 k = t k) ∧ zAf S t2 := by
  have hS := tre.1
  have loop : ∀ (d x fu : Nat) (t1 : zS), x + d = S → (∀ k, ¬ k = 103 → t1 k = t k) → zAf x t1 → ∃ t2, lX9_settle_2 (fu + d + 1) (Int32.ofNat x) t1 = some (0, t2) ∧ (∀ k, ¬ k = 103 → t2 k = t k) ∧ zAf S t2 := by
    intro d
    induction d with
    | zero =>
      intro x fu t1 hx hk ha
      have : x = S := by omega
      subst this
      refine ⟨t1, ?_, hk, ha⟩
      show bX9_settle_2 _ _ t1 = _
      unfold bX9_settle_2
      rw [hk 52 (by decide), h15, if_pos (Int32.le_refl _)]
    | succ d ih =>
      intro x fu t1 hx hk ha
      have nle : ¬ Int32.ofNat S ≤ Int32.ofNat x := by rw [zn_le (by omega) (by omega)]; omega
      obtain ⟨b1, b2, b3⟩ := tre.2 x (by omega)
      have g100 : mX5_get 100 1000 (Int32.ofNat x) t1 = some (t 101 x, t1) := by rw [← hk 101 (by decide)]; exact zn_get (by omega) (by decide)
      have g98 : mX5_get 98 1000 (Int32.ofNat x) t1 = some (t 99 x, t1) := by rw [← hk 99 (by decide)]; exact zn_get (by omega) (by decide)
      have fin : ∀ v, (∀ t2, t2 = zu t1 103 x v → (t 99 x = -1 → t 101 x = -1 → v = -1) ∧ (∀ r, t 99 x = Int32.ofNat r → r < 1000 → v = Int32.ofNat r) ∧ ∀ h, t 99 x = -1 → t 101 x = Int32.ofNat h → h < 1000 → (t 87 h = 12 → v = Int32.ofNat h) ∧ (¬ t 87 h = 12 → v = t1 103 h)) → ∃ t2, lX9_settle_2 (fu + d + 1) (Int32.ofNat (x + 1)) (zu t1 103 x v) = some (0, t2) ∧ (∀ k, ¬ k = 103 → t2 k = t k) ∧ zAf S t2 := fun v hv => by
        have hv := hv _ rfl
        refine ih (x + 1) fu (zu t1 103 x v) (by omega) (fun k hk1 => by rw [zu_row hk1]; exact hk k hk1) (fun s hs => ?_)
        have f : ∀ k j, ¬ k = 103 → zu t1 103 x v k j = t1 k j := fun k j q => zu_ne1 q
        rw [f 99 _ (by decide), f 101 _ (by decide)]
        simp only [f 87 _ (by decide)]
        by_cases e : s = x
        · subst e
          rw [zu_same, hk 99 (by decide), hk 101 (by decide), hk 87 (by decide)]
          obtain ⟨v1, v2, v3⟩ := hv
          refine ⟨v1, v2, fun h q1 q2 q3 => ⟨(v3 h q1 q2 q3).1, fun q4 => ?_⟩⟩
          have : h < s := by
            rcases b3 with ⟨p1, _⟩ | ⟨p, p1, p2, _⟩
            · rw [p1] at q2
              exact absurd (show (0 : Int32) ≤ -1 by rw [q2]; exact zn_0le (by omega)) zn_m1
            · rw [p1] at q2
              have := (zn_inj (by omega) (by omega)).mp q2
              omega
          rw [zu_ne2 (by omega)]
          exact (v3 h q1 q2 q3).2 q4
        · obtain ⟨a1, a2, a3⟩ := ha s (by omega)
          rw [zu_ne2 e]
          refine ⟨a1, a2, fun h q1 q2 q3 => ⟨(a3 h q1 q2 q3).1, fun q4 => ?_⟩⟩
          have : h < s := by
            rcases (tre.2 s (by omega)).2.2 with ⟨p1, _⟩ | ⟨p, p1, p2, _⟩
            · rw [hk 101 (by decide), p1] at q2
              exact absurd (show (0 : Int32) ≤ -1 by rw [q2]; exact zn_0le (by omega)) zn_m1
            · rw [hk 101 (by decide), p1] at q2
              have := (zn_inj (by omega) (by omega)).mp q2
              omega
          rw [zu_ne2 (by omega)]
          exact (a3 h q1 q2 q3).2 q4
      have go : ∀ v, bX9_settle_99 (lX9_settle_2 (fu + d + 1)) (Int32.ofNat x) v (Int32.ofNat x) t1 = lX9_settle_2 (fu + d + 1) (Int32.ofNat (x + 1)) (zu t1 103 x v) := fun v => by
        unfold bX9_settle_99 bX9_settle_102
        rw [zn_set (by omega) (by decide), pl_bd, pl_let, zn_1]
      show ∃ t2, bX9_settle_2 (lX9_settle_2 (fu + d + 1)) _ t1 = _ ∧ _
      unfold bX9_settle_2 bX9_settle_78 bX9_settle_102
      rw [hk 52 (by decide), h15, if_neg nle, g100, pl_bd, g98, pl_bd]
      rcases b1 with e | ⟨r, e1, e2, e3, _⟩
      · rw [e, if_pos (by decide)]
        rcases b3 with ⟨p1, _⟩ | ⟨p, p1, p2, p3, _⟩
        · rw [p1, if_pos (by decide), if_neg (by decide), go]
          refine fin (-1) (fun _ _ => ⟨fun _ _ => rfl, fun r q => ?_, fun h _ q => ?_⟩)
          · rw [e] at q
            intro hr
            exact absurd (show (0 : Int32) ≤ -1 by rw [q]; exact zn_0le (by omega)) zn_m1
          · rw [p1] at q
            intro hr
            exact absurd (show (0 : Int32) ≤ -1 by rw [q]; exact zn_0le (by omega)) zn_m1
        · have g86 : mX5_get 86 1000 (Int32.ofNat p) t1 = some (t 87 p, t1) := by rw [← hk 87 (by decide)]; exact zn_get (by omega) (by decide)
          rw [p1, if_neg (zn_neg (by omega)), g86, pl_bd, zn_set (by omega) (by decide), pl_bd, pl_let, zn_1, if_pos (zn_0le (by omega)), zn_get (by omega) (by decide), pl_bd, go]
          have nm : ¬ Int32.ofNat p = -1 := fun q => absurd (show (0 : Int32) ≤ -1 by rw [← q]; exact zn_0le (by omega)) zn_m1
          by_cases k : t 87 p = 12
          · rw [if_pos k]
            refine fin (Int32.ofNat p) (fun _ _ => ⟨fun _ q => absurd (p1.symm.trans q) nm, fun r q hr => ?_, fun h _ q hh => ?_⟩)
            · rw [e] at q
              exact absurd (show (0 : Int32) ≤ -1 by rw [q]; exact zn_0le (by omega)) zn_m1
            · rw [p1] at q
              have := (zn_inj (by omega) (by omega)).mp q
              subst this
              exact ⟨fun _ => rfl, fun w => absurd k w⟩
          · rw [if_neg k]
            refine fin (t1 103 p) (fun _ _ => ⟨fun _ q => absurd (p1.symm.trans q) nm, fun r q hr => ?_, fun h _ q hh => ?_⟩)
            · rw [e] at q
              exact absurd (show (0 : Int32) ≤ -1 by rw [q]; exact zn_0le (by omega)) zn_m1
            · rw [p1] at q
              have := (zn_inj (by omega) (by omega)).mp q
              subst this
              exact ⟨fun w => absurd w k, fun _ => rfl⟩
      · rw [e1, if_neg (zn_neg (by omega)), g98, pl_bd, zn_set (by omega) (by decide), pl_bd, pl_let, zn_1, e1]
        refine fin (Int32.ofNat r) (fun _ _ => ⟨fun q => ?_, fun r' q hr => ?_, fun h q => ?_⟩)
        · rw [e1] at q
          exact absurd (show (0 : Int32) ≤ -1 by rw [← q]; exact zn_0le (by omega)) zn_m1
        · rw [← e1, q]
        · rw [e1] at q
          exact absurd (show (0 : Int32) ≤ -1 by rw [← q]; exact zn_0le (by omega)) zn_m1
  obtain ⟨t2, a1, a2⟩ := loop S 0 (zFU - S - 1) t (by omega) (fun _ _ => rfl) (fun s hs => absurd hs (Nat.not_lt_zero _))
  rw [show zFU - S - 1 + S + 1 = zFU by unfold zFU; omega] at a1
  exact ⟨t2, a1, a2⟩
