/-! what stands by a LABEL -/
def zOi : Option Nat → Int32
  | none => -1
  | some k => Int32.ofNat k
theorem pl_findP {t : zS} {P n c : Nat} {e : Nat → Nat} (hP : P ≤ 1600) (hn : n ≤ 1500) (hc : c < 3000) (h : zLk (t 19) P n (t 11 c) e) (l : Int32) : mX2_findPart (Int32.ofNat c) l t = some (zOi (zFd t 1600 (t 11 c) l), t) := by
  have loop : ∀ (d j fu m : Nat), d + j = n → d ≤ m → lX2_findPart_12 (fu + d + 1) l (if j < n then Int32.ofNat (e j) else -1) (Int32.ofNat j) t = some (zOi (zFd t m (if j < n then Int32.ofNat (e j) else -1) l), t) := by
    intro d
    induction d with
    | zero =>
      intro j fu m hd hm
      rw [if_neg (show ¬ j < n by omega)]
      have e1 : zFd t m (-1) l = none := by
        cases m with
        | zero => rfl
        | succ m => unfold zFd; rw [if_pos (by decide)]
      rw [e1]
      show bX2_findPart_12 _ _ _ _ t = _
      unfold bX2_findPart_12
      rw [if_neg (show ¬ (1600 : Int32) ≤ Int32.ofNat j from fun w => by have := (zn_le (a := 1600) (by decide) (by omega)).mp w; omega), if_pos (by decide)]
      rfl
    | succ d ih =>
      intro j fu m hd hm
      obtain ⟨a1, a2⟩ := h.2 j (by omega)
      cases m with
      | zero => omega
      | succ m =>
        have ec : (Int32.ofNat (e j)).toNatClampNeg = e j := pl_clamp (pl_ofn (by omega))
        have g14 : mX5_get 14 1600 (Int32.ofNat (e j)) t = some (t 15 (e j), t) := zn_get (by omega) (by decide)
        have g18 : mX5_get 18 1600 (Int32.ofNat (e j)) t = some (t 19 (e j), t) := zn_get (by omega) (by decide)
        rw [if_pos (show j < n by omega)]
        show bX2_findPart_12 (lX2_findPart_12 (fu + d + 1)) _ _ _ t = _
        unfold bX2_findPart_12 zFd
        rw [if_neg (show ¬ (1600 : Int32) ≤ Int32.ofNat j from fun w => by have := (zn_le (a := 1600) (by decide) (by omega)).mp w; omega), if_neg (zn_neg (by omega)), if_neg (zn_neg (by omega)), g14, pl_bd, ec]
        by_cases q : t 15 (e j) = l
        · rw [if_pos q, if_pos q]; rfl
        · rw [if_neg q, if_neg q, g18, pl_bd, pl_let, zn_1, a2]
          exact ih (j + 1) fu m (by omega) (by omega)
  have hx : t 11 c = if 0 < n then Int32.ofNat (e 0) else -1 := by
    rw [h.1]
    by_cases q : n = 0
    · rw [if_pos q, if_neg (by omega)]
    · rw [if_neg q, if_pos (by omega)]
  have g10 : mX5_get 10 3000 (Int32.ofNat c) t = some (t 11 c, t) := zn_get hc (by decide)
  unfold mX2_findPart
  rw [g10, pl_bd, hx]
  have := loop n 0 (zFU - n - 1) 1600 (by omega) (by omega)
  rw [show zFU - n - 1 + n + 1 = zFU by unfold zFU; omega] at this
  exact this
/-- by a label: the class -/
theorem pl_byLabelC {G : zTxt} {f : Nat → Nat} {N M P A T s : Nat} {t u : zS} (h : zTG G f N M P A T t u) (hv : zV N t s) (hk : (zD t).kd s = 8 ∨ (zD t).kd s = 9) (l : Int32) : (mX2_byLabel (Int32.ofNat s) l t = some (-1, t) ∧ (zD t).pt s l = none) ∨ ∃ d, d < N ∧ mX2_byLabel (Int32.ofNat s) l t = some (Int32.ofNat (2 * d + s % 2), t) ∧ (zD t).pt s l = some (zSg2 t (2 * d + s % 2)) := by
  have hN := h.2.2.2.1
  have hP := h.2.2.2.2.2.2.1
  have hv1 := hv.1
  obtain ⟨s1, s2⟩ := zb_s s (by omega)
  rcases zV_at h hv with ⟨q, _⟩ | ⟨q, _⟩ | ⟨q, _⟩ | ⟨_, _, n, a, e, c1, c2, c3, c4, c5, c6, c7, c8, c9⟩
  · rw [q] at hk; exact absurd hk (by decide)
  · rcases q with q | q <;> rw [q] at hk <;> exact absurd hk (by decide)
  · rcases q with q | q <;> rw [q] at hk <;> exact absurd hk (by decide)
  · unfold mX2_byLabel
    rw [s1, pl_findP (by omega) c2 (by omega) c7 l, pl_bd, s2, zD_pt]
    rcases zFd_all (by omega) (by omega) c7 l with ⟨a1, _⟩ | ⟨i, a1, a2, a3⟩
    · refine Or.inl ⟨?_, by rw [a1]; rfl⟩
      rw [a1]
      show (if (0 : Int32) ≤ -1 then _ else _) = _
      rw [if_neg zn_m1]
    · obtain ⟨d, d1, d2, d3⟩ := (c8 i a1).2
      have hei := (c7.2 i a1).1
      have g16 : mX5_get 16 1600 (Int32.ofNat (e i)) t = some (Int32.ofNat d, t) := by rw [← d2]; exact zn_get (by omega) (by decide)
      refine Or.inr ⟨d, d1, ?_, ?_⟩
      · rw [a2]
        show (if (0 : Int32) ≤ Int32.ofNat (e i) then zbd (mX5_get 16 1600 (Int32.ofNat (e i)) t) _ else _) = _
        rw [if_pos (zn_0le (by omega)), g16, pl_bd, zn_dbl]
      · rw [a2]
        show some (zSg2 t (2 * (t 17 (e i)).toNatClampNeg + s % 2)) = _
        rw [d2, show (Int32.ofNat d).toNatClampNeg = d from pl_clamp (pl_ofn (by omega))]
/-- by a label: the reference -/
theorem pl_byLabelM {G : zTxt} {f : Nat → Nat} {N M P A T s v w : Nat} {t u : zS} (h : zTG G f N M P A T t u) (hv : zV N t s) (hk : (zD t).kd s = 8 ∨ (zD t).kd s = 9) (hv16 : v < 1600) (hw : (zBk G)[w]? = some v) : (mX12_byLabel (Int32.ofNat (zF f s)) (Int32.ofNat w) u = some (-1, u) ∧ (zD t).pt s (Int32.ofNat v) = none) ∨ ∃ y, zV N t y ∧ mX12_byLabel (Int32.ofNat (zF f s)) (Int32.ofNat w) u = some (Int32.ofNat (zF f y), u) ∧ (zD t).pt s (Int32.ofNat v) = some y := by
  have hN := h.2.2.2.1
  have hP := h.2.2.2.2.2.2.1
  have hB := h.2.2.2.2.2.2.2.2.2
  have hwl := zLs_lt hw
  obtain ⟨l1, l2, l3⟩ := zF_lt h hv.1
  obtain ⟨f1, f2⟩ := zF_2 f s
  rcases zV_at h hv with ⟨q, _⟩ | ⟨q, _⟩ | ⟨q, _⟩ | ⟨_, _, n, a, e, c1, c2, c3, c4, c5, c6, c7, c8, c9⟩
  · rw [q] at hk; exact absurd hk (by decide)
  · rcases q with q | q <;> rw [q] at hk <;> exact absurd hk (by decide)
  · rcases q with q | q <;> rw [q] at hk <;> exact absurd hk (by decide)
  · have loop : ∀ (d j fu : Nat), d + j = n → (∀ i, i < j → ¬ t 15 (e i) = Int32.ofNat v) → (lX12_byLabel_12 (fu + d + 1) (Int32.ofNat (zF f s)) (Int32.ofNat w) (Int32.ofNat (f (s / 2))) (Int32.ofNat (a + j)) u = some (-1, u) ∧ ∀ i, i < n → ¬ t 15 (e i) = Int32.ofNat v) ∨ ∃ i x, i < n ∧ x < N ∧ t 15 (e i) = Int32.ofNat v ∧ t 17 (e i) = Int32.ofNat x ∧ lX12_byLabel_12 (fu + d + 1) (Int32.ofNat (zF f s)) (Int32.ofNat w) (Int32.ofNat (f (s / 2))) (Int32.ofNat (a + j)) u = some (Int32.ofNat (zF f (zSg2 t (2 * x + s % 2))), u) := by
      intro d
      induction d with
      | zero =>
        intro j fu hd hno
        refine Or.inl ⟨?_, fun i hi => hno i (by omega)⟩
        show bX12_byLabel_12 _ _ _ _ _ u = _
        unfold bX12_byLabel_12
        rw [zn_rd (by omega) (by decide), zn_rd (by omega) (by decide), c4, c5, zn_add, if_pos ((zn_le (by omega) (by omega)).mpr (by omega))]
      | succ d ih =>
        intro j fu hd hno
        obtain ⟨⟨vj, wj, p1, p2, p3, p4⟩, x, x1, x2, x3⟩ := c8 j (by omega)
        have hwj := zLs_lt p4
        have eq1 : u 9 (a + j) = Int32.ofNat w ↔ t 15 (e j) = Int32.ofNat v := by
          rw [show u 9 (a + j) = Int32.ofNat wj from p3, p2, zn_inj (by omega) (by omega), zn_inj (by omega) (by omega)]
          constructor
          · intro q; subst q; rw [hw] at p4; exact (Option.some.inj p4).symm
          · intro q; subst q; exact zB_inj p4 hw
        have est : lX12_byLabel_12 (fu + (d + 1) + 1) (Int32.ofNat (zF f s)) (Int32.ofNat w) (Int32.ofNat (f (s / 2))) (Int32.ofNat (a + j)) u = if u 9 (a + j) = Int32.ofNat w then zbd (mX12_plain (Int32.ofNat (2 * f x + s % 2)) u) fun r u2 => some (r, u2) else lX12_byLabel_12 (fu + d + 1) (Int32.ofNat (zF f s)) (Int32.ofNat w) (Int32.ofNat (f (s / 2))) (Int32.ofNat (a + (j + 1))) u := by
          show bX12_byLabel_12 (lX12_byLabel_12 (fu + d + 1)) _ _ _ _ u = _
          unfold bX12_byLabel_12
          rw [zn_rd (by omega) (by decide), zn_rd (by omega) (by decide), c4, c5, zn_add, if_neg (show ¬ Int32.ofNat (a + n) ≤ Int32.ofNat (a + j) by rw [zn_le (by omega) (by omega)]; omega), zn_rd (by omega) (by decide), zn_rd (by omega) (by decide), pl_let, zn_1, show u 10 (a + j) = Int32.ofNat (f x) from x3, (zn_hlf (by omega)).2, f2, zn_dbl]
          rfl
        rw [est]
        by_cases q : u 9 (a + j) = Int32.ofNat w
        · rw [if_pos q]
          have := pl_plain (s := 2 * x + s % 2) h (by omega)
          rw [show zF f (2 * x + s % 2) = 2 * f x + s % 2 by unfold zF; rw [show (2 * x + s % 2) / 2 = x by omega]; omega] at this
          rw [this, pl_bd]
          exact Or.inr ⟨j, x, by omega, x1, eq1.mp q, x2, rfl⟩
        · rw [if_neg q]
          refine ih (j + 1) fu (by omega) (fun i hi => ?_)
          by_cases ei : i = j
          · rw [ei]; exact fun w => q (eq1.mpr w)
          · exact hno i (by omega)
    have e0 : mX12_byLabel (Int32.ofNat (zF f s)) (Int32.ofNat w) u = lX12_byLabel_12 zFU (Int32.ofNat (zF f s)) (Int32.ofNat w) (Int32.ofNat (f (s / 2))) (Int32.ofNat (a + 0)) u := by
      unfold mX12_byLabel
      rw [(zn_hlf (by omega)).1, pl_let, f1, zn_rd (by omega) (by decide), c5]
      rfl
    have L := loop n 0 (zFU - n - 1) (by omega) (fun i hi => absurd hi (Nat.not_lt_zero i))
    rw [show zFU - n - 1 + n + 1 = zFU by unfold zFU; omega] at L
    rw [e0, zD_pt]
    rcases L with ⟨b1, b2⟩ | ⟨i, x, b1, b2, b3, b4, b5⟩
    · refine Or.inl ⟨b1, ?_⟩
      rcases zFd_all (by omega) (by omega) c7 (Int32.ofNat v) with ⟨a1, _⟩ | ⟨i, a1, a2, a3⟩
      · rw [a1]; rfl
      · exact absurd a3 (b2 i a1)
    · refine Or.inr ⟨_, zV_sg h (by omega), b5, ?_⟩
      have := zFd_at (by omega) (by omega) c7 c9 b1
      rw [b3] at this
      rw [this]
      show some (zSg2 t (2 * (t 17 (e i)).toNatClampNeg + s % 2)) = _
      rw [b4, show (Int32.ofNat x).toNatClampNeg = x from pl_clamp (pl_ofn (by omega))]
