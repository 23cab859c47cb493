/-! STATEMENTS: joining states, the first steps -/
theorem zGr_of {G : zTxt} {i i2 p b n n2 q : Nat} {t u t2 u2 : zS} (h : zSl G i p b n t u) (h2 : zSl G i2 p b n2 t2 u2) (hn : n ≤ n2) (hb : n2 ≤ 3000) (hq : q ≤ p) (hr : ∀ j, j < p → t2 39 j = t 39 j) : zGr t t2 q := by
  intro m hm hm2
  by_cases e : q = p
  · subst e
    rw [h.2.2.1] at hm
    have := (zn_inj (by omega) (by omega)).mp hm
    exact ⟨n2, h2.2.2.1, by omega, hb⟩
  · exact ⟨m, by rw [hr q (by omega)]; exact hm, Nat.le_refl _, hm2⟩
theorem zBB_of {G : zTxt} {i i2 d d2 p b H H0 H2 : Nat} {f : Nat → Nat} {N M A S n F C R W V q S2 n2 F2 C2 R2 W2 V2 q2 : Nat} {o o2 : Nat → Nat × Nat} {w w2 : Nat → Nat} {Y Z Y2 Z2 : List Nat} {t u t2 u2 : zS} (h : zBB G i d p b H f N M A S n F C R W V q o w Y Z t u) (hX : zBX p b H0 S n F C R W V q S2 n2 F2 C2 R2 W2 V2 q2 o o2 w w2 t u t2 u2) (hE : zEB G i2 d2 p b n2 F2 C2 t2 u2) (hA : zAK (zBk G) f N M S2 q2 t2 u2) (hn2 : n2 ≤ 3000) (hS : S ≤ 1000)
    (c1 : t2 52 15 = Int32.ofNat S2) (c2 : u2 0 26 = Int32.ofNat S2) (c3 : t2 51 7 = Int32.ofNat R2) (c4 : u2 0 39 = Int32.ofNat R2) (c5 : t2 52 16 = Int32.ofNat W2) (c6 : u2 0 36 = Int32.ofNat V2) (c7 : u2 0 59 = Int32.ofNat (2 * H2)) (hY : ∀ s, s < S → ¬ s ∈ Y2 → ¬ s ∈ Y) (hZ : ∀ s, s < S → ¬ s ∈ Z2 → ¬ s ∈ Z)
    (hnew : ∀ s, S ≤ s → s < S2 → (¬ s ∈ Y2 → zStm G o2 w2 S2 F2 C2 R2 W2 V2 t2 u2 s) ∧ (¬ s ∈ Z2 → zLn o2 S2 t2 u2 s) ∧ zPa o2 t2 s ∧ (o2 s).2 ≤ p) : zBB G i2 d2 p b H2 f N M A S2 n2 F2 C2 R2 W2 V2 q2 o2 w2 Y2 Z2 t2 u2 := by
  obtain ⟨a1, a2, a3, a4, a5, a6, a7, a8, a9, a10, a11, a12, a13⟩ := h
  obtain ⟨x1, x2, x3, x4, x5, x6, x7, x8, x9, x10, x11, x12, x13⟩ := hX
  have r : ∀ k j, j < zLQ p S F R W q k → t2 k j = t k j := x11
  have g : ∀ k j, j < zLR p b S n C R V q H0 k → u2 k j = u k j := x12
  have hgr : ∀ q, q ≤ p → zGr t t2 q := fun q hq => zGr_of a1.2.2.2.1 hE.2.2.2.1 x2 hn2 hq (fun j hj => r 39 j hj)
  have h101 : ∀ s, s < S → t2 101 s = t 101 s := fun s hs => r 101 s hs
  have h87 : ∀ s, s < S → t2 87 s = t 87 s := fun s hs => r 87 s hs
  refine ⟨hE, hA, c1, c2, c3, c4, c5, c6, c7, by rw [x13 19 (by omega)]; exact a10, fun s hs hy => ?_, fun s hs hz => ?_, fun s hs => ?_⟩
  · rcases Nat.lt_or_ge s S with e | e
    · refine zStm_ext (a11 s e (hY s e hy)) e x1 x3 x4 x5 x6 x7 x9 (fun k hk => ?_) (fun k hk => ?_) h101 (fun k hk => ⟨r 75 k hk, r 77 k hk⟩) (fun c hc => g 27 c hc) (fun k hk => ⟨r 79 k hk, r 81 k hk, r 83 k hk⟩) (fun k hk => ⟨g 25 k hk, g 26 k hk⟩) (fun k hk hk2 => ⟨by rw [x10 k hk]; exact hk2, r 109 k hk, r 111 k hk, r 115 k hk⟩) (fun k hk => ⟨g 23 k hk, g 24 k hk⟩) (hgr _ (a13 s e).2)
      · rcases hk with e1 | e1 | e1 | e1 | e1 | e1 | e1 <;> subst e1 <;> exact r _ s e
      · obtain ⟨k1, k2⟩ := hk
        have : k = 14 ∨ k = 15 ∨ k = 16 ∨ k = 17 ∨ k = 18 ∨ k = 19 ∨ k = 20 := by omega
        rcases this with e1 | e1 | e1 | e1 | e1 | e1 | e1 <;> subst e1 <;> exact g _ s e
    · exact (hnew s e hs).1 hy
  · rcases Nat.lt_or_ge s S with e | e
    · exact zLn_ext (a12 s e (hZ s e hz)) (a13 s e).1 e x1 hS x9 (r 99 s e) (g 21 s e) (g 22 s e) h101 h87
    · exact (hnew s e hs).2.1 hz
  · rcases Nat.lt_or_ge s S with e | e
    · exact ⟨zPa_ext (a13 s e).1 e x9 (h101 s e) h87 (r 107 s e), by rw [x9 s (Or.inl e)]; exact (a13 s e).2⟩
    · exact (hnew s e hs).2.2
theorem zBX_ofE {p b H S n F C R W V q n2 F2 C2 : Nat} {o : Nat → Nat × Nat} {w : Nat → Nat} {t u t2 u2 : zS} (h : zEX p b n F C n2 F2 C2 t u t2 u2) : zBX p b H S n F C R W V q S n2 F2 C2 R W V q o o w w t u t2 u2 := by
  obtain ⟨a1, a2, a3, a4, a5, a6, a7, a8, a9, a10, a11⟩ := h
  refine ⟨Nat.le_refl _, a1, a2, a3, Nat.le_refl _, Nat.le_refl _, Nat.le_refl _, Nat.le_refl _, fun _ _ => rfl, fun _ _ => rfl, fun k j hj => ?_, fun k j hj => ?_, fun j hj => a5 0 j ?_⟩
  · by_cases e39 : k = 39
    · subst e39
      have hj : j < p := hj
      exact a6 j (by omega)
    by_cases e75 : k = 75
    · subst e75; exact (a9 j hj).1
    by_cases e77 : k = 77
    · subst e77; exact (a9 j hj).2
    by_cases e0 : k = 5 ∨ k = 51 ∨ k = 52 ∨ k = 47 ∨ k = 49
    · unfold zLQ at hj
      rw [if_pos e0] at hj; omega
    · refine a4 k j ?_
      unfold zpEC
      rw [if_neg (by omega)]
      simp only [Bool.not_eq_true', Bool.or_eq_false_iff, beq_eq_false_iff_ne]
      omega
  · by_cases e31 : k = 31
    · subst e31
      have hj : j < p + 1 := hj
      exact a7 j (by omega)
    by_cases e33 : k = 33
    · subst e33; exact a8 j hj
    by_cases e27 : k = 27
    · subst e27; exact a10 j hj
    by_cases e0 : k = 0 ∨ k = 3 ∨ k = 4
    · unfold zLR at hj
      rw [if_pos e0] at hj; omega
    · refine a5 k j ?_
      unfold zpEM
      rw [if_neg (by omega)]
      simp only [Bool.not_eq_true', Bool.or_eq_false_iff, beq_eq_false_iff_ne]
      omega
  · unfold zpEM
    rw [if_pos rfl]
    simp only [Bool.not_eq_true', Bool.or_eq_false_iff, Bool.and_eq_false_iff, beq_eq_false_iff_ne, decide_eq_false_iff_not]
    omega
/-- a statement begins -/
def zcb (t : zS) (s : Nat) (x pl h : Int32) : zS := zu (zu (zu (zu (zu (zu (zu (zu (zu (zu (zu t 87 s x) 89 s pl) 91 s (-1)) 93 s (-1)) 95 s 0) 97 s 0) 99 s (-1)) 101 s h) 105 s (-1)) 107 s 0) 52 15 (Int32.ofNat (s + 1))
def zmb (u : zS) (s : Nat) (x : Int32) : zS := zu (zu (zu (zu (zu (zu (zu (zu u 14 s x) 15 s (u 0 6)) 16 s (-1)) 17 s (-1)) 18 s (-1)) 19 s (-1)) 20 s (-1)) 0 26 (Int32.ofNat (s + 1))
theorem zc_begun {t : zS} {s : Nat} {x pl h : Int32} (hs : t 52 15 = Int32.ofNat s) (hb : s < 1000) : mX9_add x pl h t = some (Int32.ofNat s, zcb t s x pl h) := by
  unfold zcb
  simp (disch := first | omega | decide | assumption) only [zu_same, zu_ne1, zu_ne2, zu_row, pl_bd, pl_pt, pl_let, zn_set, zn_get, zn_rd, zn_wr, zn_1, zn_m, Nat.reduceAdd, mX9_add, hs]
theorem zm_begun {u : zS} {s : Nat} {x : Int32} (hs : u 0 26 = Int32.ofNat s) (hb : s < 1600) : mX12_begun x u = some (Int32.ofNat s, zmb u s x) := by
  unfold zmb
  simp (disch := first | omega | decide | assumption) only [zu_same, zu_ne1, zu_ne2, zu_row, pl_bd, pl_pt, pl_let, zn_set, zn_get, zn_rd, zn_wr, zn_1, zn_m, Nat.reduceAdd, mX12_begun, hs]
