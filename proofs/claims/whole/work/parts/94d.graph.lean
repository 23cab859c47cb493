/-! TYPES as a graph -/
def zFd (t : zS) : Nat → Int32 → Int32 → Option Nat
  | 0, _, _ => none
  | n + 1, x, l => if x < 0 then none else if t 15 x.toNatClampNeg = l then some x.toNatClampNeg else zFd t n (t 19 x.toNatClampNeg) l
def zKf (k b : Int32) : Int32 := if k < 4 then k else k ^^^ b
def zD (t : zS) : zCo := (fun s => zKf (t 9 (s / 2)) (Int32.ofNat (s % 2)), fun s => zSg2 t (2 * (t 13 (s / 2)).toNatClampNeg + s % 2), fun s => zSg2 t (2 * (t 11 (s / 2)).toNatClampNeg), fun s => t 13 (s / 2), fun s l => (zFd t 1600 (t 11 (s / 2)) l).map fun k => zSg2 t (2 * (t 17 k).toNatClampNeg + s % 2))
theorem zD_kd (t : zS) (s : Nat) : (zD t).kd s = zKf (t 9 (s / 2)) (Int32.ofNat (s % 2)) := rfl
theorem zD_bh (t : zS) (s : Nat) : (zD t).bh s = zSg2 t (2 * (t 13 (s / 2)).toNatClampNeg + s % 2) := rfl
theorem zD_inn (t : zS) (s : Nat) : (zD t).inn s = zSg2 t (2 * (t 11 (s / 2)).toNatClampNeg) := rfl
theorem zD_ct (t : zS) (s : Nat) : (zD t).ct s = t 13 (s / 2) := rfl
theorem zD_pt (t : zS) (s : Nat) (l : Int32) : (zD t).pt s l = (zFd t 1600 (t 11 (s / 2)) l).map fun k => zSg2 t (2 * (t 17 k).toNatClampNeg + s % 2) := rfl
theorem zFd_of {t t2 : zS} (h : zTr t t2) : ∀ n x l, zFd t2 n x l = zFd t n x l := by
  obtain ⟨h9, h11, h13, h15, h17, h19, _⟩ := h
  intro n
  induction n with
  | zero => intro x l; rfl
  | succ n ih => intro x l; unfold zFd; rw [h15, h19, ih]
theorem zD_of {t t2 : zS} (h : zTr t t2) : zD t2 = zD t := by
  have h0 := h
  obtain ⟨h9, h11, h13, h15, h17, h19, _⟩ := h
  have e : zSg2 t2 = zSg2 t := funext fun s => zSg2_of h0 s
  have e2 : zFd t2 = zFd t := funext fun n => funext fun x => funext fun l => zFd_of h0 n x l
  unfold zD
  rw [h9, h11, h13, h17, e, e2]
/-- a chain of parts, searched -/
theorem zFd_lk {t : zS} {P n : Nat} {e : Nat → Nat} (hP : P ≤ 3000) (h2 : ∀ j, j < n → e j < P ∧ t 19 (e j) = (if j + 1 < n then Int32.ofNat (e (j + 1)) else -1)) (l : Int32) : ∀ (d j m : Nat), d + j = n → d ≤ m → (zFd t m (if j < n then Int32.ofNat (e j) else -1) l = none ∧ ∀ i, j ≤ i → i < n → ¬ t 15 (e i) = l) ∨ ∃ i, j ≤ i ∧ i < n ∧ zFd t m (if j < n then Int32.ofNat (e j) else -1) l = some (e i) ∧ t 15 (e i) = l := by
  intro d
  induction d with
  | zero =>
    intro j m hd hm
    refine Or.inl ⟨?_, fun i _ _ => by omega⟩
    rw [if_neg (show ¬ j < n by omega)]
    cases m with
    | zero => rfl
    | succ m => unfold zFd; rw [if_pos (by decide)]
  | succ d ih =>
    intro j m hd hm
    obtain ⟨a1, a2⟩ := h2 j (by omega)
    cases m with
    | zero => omega
    | succ m =>
      have ec : (Int32.ofNat (e j)).toNatClampNeg = e j := pl_clamp (pl_ofn (by omega))
      rw [if_pos (show j < n by omega)]
      unfold zFd
      rw [if_neg (zn_neg (by omega)), ec]
      by_cases q : t 15 (e j) = l
      · rw [if_pos q]
        exact Or.inr ⟨j, Nat.le_refl _, by omega, rfl, q⟩
      · rw [if_neg q, a2]
        rcases ih (j + 1) m (by omega) (by omega) with ⟨b1, b2⟩ | ⟨i, b1, b2, b3, b4⟩
        · refine Or.inl ⟨b1, fun i i1 i2 => ?_⟩
          by_cases c : i = j
          · rw [c]; exact q
          · exact b2 i (by omega) i2
        · exact Or.inr ⟨i, by omega, b2, b3, b4⟩
theorem zFd_all {t : zS} {P n : Nat} {x : Int32} {e : Nat → Nat} (hP : P ≤ 3000) (hn : n ≤ 1600) (h : zLk (t 19) P n x e) (l : Int32) : (zFd t 1600 x l = none ∧ ∀ i, i < n → ¬ t 15 (e i) = l) ∨ ∃ i, i < n ∧ zFd t 1600 x l = some (e i) ∧ t 15 (e i) = l := by
  have hx : x = if 0 < n then Int32.ofNat (e 0) else -1 := by
    rw [h.1]
    by_cases c : n = 0
    · rw [if_pos c, if_neg (by omega)]
    · rw [if_neg c, if_pos (by omega)]
  rcases zFd_lk hP h.2 l n 0 1600 (by omega) hn with ⟨a, b⟩ | ⟨i, _, a1, a2, a3⟩
  · exact Or.inl ⟨by rw [hx]; exact a, fun i hi => b i (Nat.zero_le _) hi⟩
  · exact Or.inr ⟨i, a1, by rw [hx]; exact a2, a3⟩
/-- with distinct labels -/
theorem zFd_at {t : zS} {P n i : Nat} {x : Int32} {e : Nat → Nat} (hP : P ≤ 3000) (hn : n ≤ 1600) (h : zLk (t 19) P n x e) (hd : zDs n e (t 15)) (hi : i < n) : zFd t 1600 x (t 15 (e i)) = some (e i) := by
  rcases zFd_all hP hn h (t 15 (e i)) with ⟨_, b⟩ | ⟨j, a1, a2, a3⟩
  · exact absurd rfl (b i hi)
  · have : j = i := by
      rcases Nat.lt_trichotomy j i with w | w | w
      · exact absurd a3 (hd j i w hi)
      · exact w
      · exact absurd a3.symm (hd i j w a1)
    rw [a2, this]
/-- a state that is no NAME's -/
def zV (N : Nat) (t : zS) (s : Nat) : Prop := s / 2 < N ∧ ¬ (t 9 (s / 2) = 2 ∨ t 9 (s / 2) = 3)
theorem zV_sg {G : zTxt} {f : Nat → Nat} {N M P A T s : Nat} {t u : zS} (h : zTG G f N M P A T t u) (hs : s / 2 < N) : zV N t (zSg2 t s) := ⟨zFz_lt h 400 s hs, zSg2_end h hs⟩
theorem zV_self {N : Nat} {t : zS} {s : Nat} (h : zV N t s) : zSg2 t s = s := zSg2_stop h.2
theorem zV_fl {N : Nat} {t : zS} {s : Nat} (h : zV N t s) : zV N t (zflp s) := by
  unfold zV
  rw [(zflp_2 s).1]; exact h
def zKm (k : Int32) : Int32 := if k = 0 then 0 else k - 1
def zKi (v b : Int32) : Int32 := if v = 0 then v else if b = 0 then v else if v = 3 then 4 else if v = 4 then 3 else if v = 5 then 6 else if v = 6 then 5 else if v = 7 then 8 else 7
/-- all that a state may be -/
theorem zV_at {G : zTxt} {f : Nat → Nat} {N M P A T s : Nat} {t u : zS} (h : zTG G f N M P A T t u) (hv : zV N t s) :
    ((zD t).kd s = 0 ∧ t 9 (s / 2) = 0 ∧ u 5 (f (s / 2)) = 0) ∨
    (((zD t).kd s = 4 ∨ (zD t).kd s = 5) ∧ ((t 9 (s / 2) = 4 ∧ u 5 (f (s / 2)) = 3) ∨ (t 9 (s / 2) = 5 ∧ u 5 (f (s / 2)) = 4)) ∧ zCh f N (t 13 (s / 2)) (u 6 (f (s / 2)))) ∨
    (((zD t).kd s = 6 ∨ (zD t).kd s = 7) ∧ ((t 9 (s / 2) = 6 ∧ u 5 (f (s / 2)) = 5) ∨ (t 9 (s / 2) = 7 ∧ u 5 (f (s / 2)) = 6)) ∧ zCh f N (t 11 (s / 2)) (u 7 (f (s / 2))) ∧ zCh f N (t 13 (s / 2)) (u 6 (f (s / 2)))) ∨
    (((zD t).kd s = 8 ∨ (zD t).kd s = 9) ∧ ((t 9 (s / 2) = 8 ∧ u 5 (f (s / 2)) = 7) ∨ (t 9 (s / 2) = 9 ∧ u 5 (f (s / 2)) = 8)) ∧ ∃ n a e, 0 < n ∧ n ≤ 1500 ∧ t 13 (s / 2) = Int32.ofNat n ∧ u 8 (f (s / 2)) = Int32.ofNat n ∧ u 7 (f (s / 2)) = Int32.ofNat a ∧ a + n ≤ 1500 ∧ zLk (t 19) P n (t 11 (s / 2)) e ∧ zPs (zBk G) f N n e (t 15) (t 17) (fun j => u 9 (a + j)) (fun j => u 10 (a + j)) ∧ zDs n e (t 15)) := by
  obtain ⟨v1, v2⟩ := hv
  have hA := h.2.2.2.2.2.2.2.1
  have k2 : ∀ b, b < 2 → ((zKf 4 (Int32.ofNat b) = 4 ∨ zKf 4 (Int32.ofNat b) = 5) ∧ (zKf 5 (Int32.ofNat b) = 4 ∨ zKf 5 (Int32.ofNat b) = 5) ∧ (zKf 6 (Int32.ofNat b) = 6 ∨ zKf 6 (Int32.ofNat b) = 7) ∧ (zKf 7 (Int32.ofNat b) = 6 ∨ zKf 7 (Int32.ofNat b) = 7) ∧ (zKf 8 (Int32.ofNat b) = 8 ∨ zKf 8 (Int32.ofNat b) = 9) ∧ (zKf 9 (Int32.ofNat b) = 8 ∨ zKf 9 (Int32.ofNat b) = 9) ∧ zKf 0 (Int32.ofNat b) = 0) := by decide
  obtain ⟨k4, k5, k6, k7, k8, k9, k0⟩ := k2 (s % 2) (by omega)
  rw [zD_kd]
  rcases h.1.2.2.2.2.2.2 (s / 2) v1 (by simp) with q | ⟨q, _⟩ | ⟨q, q2⟩ | ⟨q, q2, q3⟩ | ⟨q, n, a, e, q2, q3, q4, q5, q6, q7, q8, q9, _⟩
  · exact Or.inl ⟨by rw [q.1]; exact k0, q⟩
  · exact absurd (by rcases q with e | e; exact Or.inl e.1; exact Or.inr e.1) v2
  · refine Or.inr (Or.inl ⟨?_, q, q2⟩)
    rcases q with e | e
    · rw [e.1]; exact k4
    · rw [e.1]; exact k5
  · refine Or.inr (Or.inr (Or.inl ⟨?_, q, q2, q3⟩))
    rcases q with e | e
    · rw [e.1]; exact k6
    · rw [e.1]; exact k7
  · refine Or.inr (Or.inr (Or.inr ⟨?_, q, n, a, e, q2, by omega, q3, q4, q5, by omega, q7, q8, q9⟩))
    rcases q with e | e
    · rw [e.1]; exact k8
    · rw [e.1]; exact k9
theorem pl_kindOf {s : Nat} {t : zS} (hs : s < 6000) : mX2_kindOf (Int32.ofNat s) t = some ((zD t).kd s, t) := by
  obtain ⟨s1, s2⟩ := zb_s s hs
  have g8 : mX5_get 8 3000 (Int32.ofNat (s / 2)) t = some (t 9 (s / 2), t) := zn_get (by omega) (by decide)
  unfold mX2_kindOf
  rw [s1, g8, pl_bd, s2, zD_kd]
  unfold zKf
  by_cases c : t 9 (s / 2) < 4
  · rw [if_pos c, if_pos c]
  · rw [if_neg c, if_neg c]
theorem pl_isOf {G : zTxt} {f : Nat → Nat} {N M P A T s : Nat} {t u : zS} (h : zTG G f N M P A T t u) (hv : zV N t s) : mX12_isOf (Int32.ofNat (zF f s)) u = some (zKm ((zD t).kd s), u) := by
  have hM := h.2.2.2.2.1
  have hfs := h.1.2.2.2.2.1 (s / 2) hv.1
  obtain ⟨a1, a2⟩ := zF_2 f s
  have hlt : zF f s < 1000000 := by unfold zF; omega
  have e : mX12_isOf (Int32.ofNat (zF f s)) u = some (zKi (u 5 (f (s / 2))) (Int32.ofNat (s % 2)), u) := by
    unfold mX12_isOf zKi
    rw [(zn_hlf hlt).2, (zn_hlf hlt).1, a1, a2, zn_rd (by omega) (by decide)]
    repeat' split
    all_goals rfl
  have k2 : ∀ b, b < 2 → (zKi 0 (Int32.ofNat b) = zKm (zKf 0 (Int32.ofNat b)) ∧ zKi 3 (Int32.ofNat b) = zKm (zKf 4 (Int32.ofNat b)) ∧ zKi 4 (Int32.ofNat b) = zKm (zKf 5 (Int32.ofNat b)) ∧ zKi 5 (Int32.ofNat b) = zKm (zKf 6 (Int32.ofNat b)) ∧ zKi 6 (Int32.ofNat b) = zKm (zKf 7 (Int32.ofNat b)) ∧ zKi 7 (Int32.ofNat b) = zKm (zKf 8 (Int32.ofNat b)) ∧ zKi 8 (Int32.ofNat b) = zKm (zKf 9 (Int32.ofNat b))) := by decide
  obtain ⟨k0, k4, k5, k6, k7, k8, k9⟩ := k2 (s % 2) (by omega)
  rw [e, zD_kd]
  congr 2
  rcases zV_at h hv with ⟨_, q1, q2⟩ | ⟨_, q, _⟩ | ⟨_, q, _⟩ | ⟨_, q, _⟩
  · rw [q1, q2]; exact k0
  · rcases q with ⟨q1, q2⟩ | ⟨q1, q2⟩
    · rw [q1, q2]; exact k4
    · rw [q1, q2]; exact k5
  · rcases q with ⟨q1, q2⟩ | ⟨q1, q2⟩
    · rw [q1, q2]; exact k6
    · rw [q1, q2]; exact k7
  · rcases q with ⟨q1, q2⟩ | ⟨q1, q2⟩
    · rw [q1, q2]; exact k8
    · rw [q1, q2]; exact k9
theorem zF_lt {G : zTxt} {f : Nat → Nat} {N M P A T s : Nat} {t u : zS} (h : zTG G f N M P A T t u) (hs : s / 2 < N) : zF f s < 6000 ∧ zF f s < 2 * M ∧ f (s / 2) < 3000 := by
  have hM := h.2.2.2.2.1
  have hfs := h.1.2.2.2.2.1 (s / 2) hs
  unfold zF
  refine ⟨?_, ?_, ?_⟩ <;> omega
theorem zF_inj {G : zTxt} {f : Nat → Nat} {N M P A T s s2 : Nat} {t u : zS} (h : zTG G f N M P A T t u) (hs : s / 2 < N) (hs2 : s2 / 2 < N) (e : zF f s = zF f s2) : s = s2 := by
  have a := zF_2 f s
  have b := zF_2 f s2
  rw [e] at a
  have := h.1.2.2.2.2.2.1 (s / 2) (s2 / 2) hs hs2 (by rw [← a.1, b.1])
  omega
theorem pl_thenOf {G : zTxt} {f : Nat → Nat} {N M P A T s : Nat} {t u : zS} (h : zTG G f N M P A T t u) (hv : zV N t s) (hk : (zD t).kd s = 4 ∨ (zD t).kd s = 5 ∨ (zD t).kd s = 6 ∨ (zD t).kd s = 7) : zV N t ((zD t).bh s) ∧ mX12_thenOf (Int32.ofNat (zF f s)) u = some (Int32.ofNat (zF f ((zD t).bh s)), u) ∧ ∃ d, d < N ∧ t 13 (s / 2) = Int32.ofNat d ∧ (zD t).bh s = zSg2 t (2 * d + s % 2) := by
  have hN := h.2.2.2.1
  obtain ⟨l1, l2, l3⟩ := zF_lt h hv.1
  obtain ⟨a1, a2⟩ := zF_2 f s
  have hc : zCh f N (t 13 (s / 2)) (u 6 (f (s / 2))) := by
    rcases zV_at h hv with ⟨q, _⟩ | ⟨_, _, q⟩ | ⟨_, _, _, q⟩ | ⟨q, _⟩
    · rw [q] at hk; exact absurd hk (by decide)
    · exact q
    · exact q
    · rcases q with q | q <;> rw [q] at hk <;> exact absurd hk (by decide)
  obtain ⟨d, d1, d2, d3⟩ := hc
  have ed : (zD t).bh s = zSg2 t (2 * d + s % 2) := by
    rw [zD_bh, d2, show (Int32.ofNat d).toNatClampNeg = d from pl_clamp (pl_ofn (by omega))]
  have e2 : (2 * d + s % 2) / 2 = d := by omega
  refine ⟨by rw [ed]; exact zV_sg h (by omega), ?_, d, d1, d2, ed⟩
  unfold mX12_thenOf
  rw [(zn_hlf (by omega)).2, (zn_hlf (by omega)).1, a1, a2, zn_rd (by omega) (by decide), d3, zn_dbl]
  have := pl_plain (s := 2 * d + s % 2) h (by omega)
  rw [show zF f (2 * d + s % 2) = 2 * f d + s % 2 by unfold zF; rw [e2]; omega] at this
  rw [this, pl_bd, ed]
theorem pl_givenOf {G : zTxt} {f : Nat → Nat} {N M P A T s : Nat} {t u : zS} (h : zTG G f N M P A T t u) (hv : zV N t s) (hk : (zD t).kd s = 6 ∨ (zD t).kd s = 7) : zV N t ((zD t).inn s) ∧ mX12_givenOf (Int32.ofNat (zF f s)) u = some (Int32.ofNat (zF f ((zD t).inn s)), u) ∧ ∃ d, d < N ∧ t 11 (s / 2) = Int32.ofNat d ∧ (zD t).inn s = zSg2 t (2 * d) := by
  have hN := h.2.2.2.1
  obtain ⟨l1, l2, l3⟩ := zF_lt h hv.1
  obtain ⟨a1, a2⟩ := zF_2 f s
  have hc : zCh f N (t 11 (s / 2)) (u 7 (f (s / 2))) := by
    rcases zV_at h hv with ⟨q, _⟩ | ⟨q, _⟩ | ⟨_, _, q, _⟩ | ⟨q, _⟩
    · rw [q] at hk; exact absurd hk (by decide)
    · rcases q with q | q <;> rw [q] at hk <;> exact absurd hk (by decide)
    · exact q
    · rcases q with q | q <;> rw [q] at hk <;> exact absurd hk (by decide)
  obtain ⟨d, d1, d2, d3⟩ := hc
  have ed : (zD t).inn s = zSg2 t (2 * d) := by
    rw [zD_inn, d2, show (Int32.ofNat d).toNatClampNeg = d from pl_clamp (pl_ofn (by omega))]
  refine ⟨by rw [ed]; exact zV_sg h (by omega), ?_, d, d1, d2, ed⟩
  unfold mX12_givenOf
  rw [(zn_hlf (by omega)).1, a1, zn_rd (by omega) (by decide), d3, zn_dbl0]
  have := pl_plain (s := 2 * d) h (by omega)
  rw [show zF f (2 * d) = 2 * f d by unfold zF; rw [show 2 * d / 2 = d by omega]; omega] at this
  rw [this, pl_bd, ed]
