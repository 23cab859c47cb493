/-! a BLOCK and its branch -/
theorem zEm_key {u : zS} {c : Int32} (h : 0 ≤ u 0 9) : mX12_isKey c u = some (0, u) := by
  unfold mX12_isKey
  rw [if_pos h]
  by_cases q1 : u 0 5 = 5
  · rw [if_pos q1]
    by_cases q2 : u 0 8 = c
    · rw [if_pos q2]
    · rw [if_neg q2]
  · rw [if_neg q1]
theorem zAt_expectK {G : zTxt} {i k : Nat} {t u : zS} (h : zAt G i t u) (hk : k < 17) : ∃ t2 r u2, mX7_expect (Int32.ofNat k) t = some (0, t2) ∧ (zbd (mX12_isKey (Int32.ofNat (k + 1)) u) fun x u1 => mX12_passes x u1) = some (r, u2) ∧ zSf t t2 ∧ zMf u u2 ∧ ((t 5 9 = Int32.ofNat k ∧ r = 1 ∧ zAt G (i + 1) t2 u2 ∧ t2 5 13 = t 5 13 ∧ u2 0 10 = u 0 10) ∨ (r = 0 ∧ zEr t2 u2)) := by
  obtain ⟨b1, b2⟩ := zAt_m1 h
  rw [zAt_ky h hk, pl_bd]
  unfold mX7_expect mX12_passes bX12_passes_11
  rw [if_neg (show ¬ (0 : Int32) ≤ u 0 9 by rw [b2]; decide)]
  by_cases q : t 5 9 = Int32.ofNat k
  · obtain ⟨t2, u2, r1, r2, r3, r4, r5⟩ := zAt_step h (by rw [q]; exact fun e => by have := (zn_inj (b := 19) (by omega) (by decide)).mp e; omega)
    rw [if_pos q, if_pos q, if_neg pl_10, r1, r2, pl_bd, pl_bd]
    exact ⟨t2, 1, u2, rfl, rfl, zSf_of r4, zMf_of r5, Or.inl ⟨q, rfl, r3, r4.2 13 (by decide) (by decide) (by decide) (by decide), r5.2 10 (by decide) (by decide) (by decide) (by decide) (by decide) (by decide)⟩⟩
  · obtain ⟨t2, u2, r1, r2, r3, r4, r5, _⟩ := zAt_no h
    rw [if_neg q, if_neg q, if_pos rfl, r1, r2, pl_bd, pl_bd]
    exact ⟨t2, 0, u2, rfl, rfl, r4, r5, Or.inr ⟨rfl, r3⟩⟩
/-- both have read a word -/
theorem zBB_fr {G : zTxt} {i i2 d d2 p b H : Nat} {f : Nat → Nat} {N M A S n F C R W V q : Nat} {o : Nat → Nat × Nat} {w : Nat → Nat} {Y Z : List Nat} {t u t2 u2 : zS} (h : zBB G i d p b H f N M A S n F C R W V q o w Y Z t u) (ha : zAt G i2 t2 u2) (hi : i ≤ i2) (hn : n ≤ 3000) (hS : S ≤ 1000) (h13 : t2 5 13 = Int32.ofNat d2) (h10 : u2 0 10 = Int32.ofNat d2) (hs : zSf t t2) (hm : zMf u u2) : zBB G i2 d2 p b H f N M A S n F C R W V q o w Y Z t2 u2 ∧ zBX p b H S n F C R W V q S n F C R W V q o o w w t u t2 u2 := by
  have hX := zBX_ofE (H := H) (S := S) (R := R) (W := W) (V := V) (q := q) (o := o) (w := w) (zEX_fr (p := p) (b := b) (n := n) (F := F) (C := C) hs hm)
  have e : ∀ k, k ≠ 5 → t2 k = t k := hs.1
  have g : ∀ k, k ≠ 0 → k ≠ 3 → k ≠ 4 → u2 k = u k := hm.1
  have hE := zEB_fr h.1 ha hi h13 h10 hs hm
  have h0 := h
  obtain ⟨a1, a2, a3, a4, a5, a6, a7, a8, a9, a10, a11, a12, a13⟩ := h0
  exact ⟨zBB_of h hX hE (zAK_of a2 hs.2 (hm.2 52 (by decide)) (e 9 (by decide)) (e 54 (by decide)) (e 56 (by decide)) (e 93 (by decide)) (e 87 (by decide)) (g 5 (by decide) (by decide) (by decide)) (g 6 (by decide) (by decide) (by decide)) (g 35 (by decide) (by decide) (by decide)) (g 36 (by decide) (by decide) (by decide)) (g 37 (by decide) (by decide) (by decide)) (g 38 (by decide) (by decide) (by decide))) hn hS (by rw [e 52 (by decide)]; exact a3) (by rw [hm.2 26 (by decide)]; exact a4) (by rw [e 51 (by decide)]; exact a5) (by rw [hm.2 39 (by decide)]; exact a6) (by rw [e 52 (by decide)]; exact a7) (by rw [hm.2 36 (by decide)]; exact a8) (by rw [hm.2 59 (by decide)]; exact a9) (fun _ _ x => x) (fun _ _ x => x) (fun s s1 s2 => by omega), hX⟩
theorem zSE_ofB {G : zTxt} {i d p b H : Nat} {f : Nat → Nat} {N M A S n F C R W V q : Nat} {o : Nat → Nat × Nat} {w : Nat → Nat} {Y Z : List Nat} {t u t2 u2 : zS} (h : zBB G i d p b H f N M A S n F C R W V q o w Y Z t u) (hC : C ≤ 6400) (hb : 2 * A + 2 * V + 2 * H ≤ 3002) (he : zEr t2 u2) (hs : zSf t t2) (hm : zMf u u2) : zSE H t u t2 u2 :=
  ⟨he, ⟨C, by rw [hm.2 42 (by decide)]; exact h.1.2.2.2.2.2, hC⟩, ⟨A, V, H, by rw [hm.2 19 (by decide)]; exact h.2.2.2.2.2.2.2.2.2.1, by rw [hm.2 36 (by decide)]; exact h.2.2.2.2.2.2.2.1, by rw [hm.2 59 (by decide)]; exact h.2.2.2.2.2.2.2.2.1, Nat.le_refl _, hb⟩, zFP_rS hs, zFP_M (zFP_N hm)⟩
theorem zBX_rC {p b H S n F C R W V q S2 n2 F2 C2 R2 W2 V2 q2 s : Nat} {o o2 : Nat → Nat × Nat} {w w2 : Nat → Nat} {t u t2 u2 : zS} (h : zBX p b H S n F C R W V q S2 n2 F2 C2 R2 W2 V2 q2 o o2 w w2 t u t2 u2) (hs : s < S) (k : Nat) (hk : 87 ≤ k ∧ k ≤ 107 ∧ ¬ k = 103) : t2 k s = t k s := by
  refine h.2.2.2.2.2.2.2.2.2.2.1 k s ?_
  clear h
  unfold zLQ
  rw [if_neg (by omega), if_neg (by omega), if_neg (by omega), if_neg (by omega), if_neg (by omega), if_neg (by omega), if_pos (by omega)]
  exact hs
theorem zBX_rM {p b H S n F C R W V q S2 n2 F2 C2 R2 W2 V2 q2 s : Nat} {o o2 : Nat → Nat × Nat} {w w2 : Nat → Nat} {t u t2 u2 : zS} (h : zBX p b H S n F C R W V q S2 n2 F2 C2 R2 W2 V2 q2 o o2 w w2 t u t2 u2) (hs : s < S) (k : Nat) (hk : 14 ≤ k ∧ k ≤ 22) : u2 k s = u k s := by
  refine h.2.2.2.2.2.2.2.2.2.2.2.1 k s ?_
  clear h
  unfold zLR
  rw [if_neg (by omega), if_neg (by omega), if_neg (by omega), if_neg (by omega), if_neg (by omega), if_neg (by omega), if_neg (by omega), if_neg (by omega), if_pos (by omega)]
  exact hs
theorem zNeq {a b : Int32} {S : Nat} (ha : a = -1 ∨ ∃ x, a = Int32.ofNat x ∧ x < S) (hb : b = -1 ∨ ∃ x, b = Int32.ofNat x ∧ S ≤ x ∧ x < 2000) (e : a = b) : a = -1 := by
  rcases ha with ha | ⟨x, a1, a2⟩
  · exact ha
  · rcases hb with hb | ⟨y, b1, b2, b3⟩
    · rw [e]; exact hb
    · rw [a1, b1] at e
      have := (zn_inj (by omega) (by omega)).mp e
      omega
/-- what a statement under way keeps while a branch comes -/
def zBk2 (p s m S F C W H : Nat) (E : Nat → Nat) (o o2 : Nat → Nat × Nat) (t u t3 u2 : zS) : Prop := zRS [105] [] s t u t3 u2 ∧ (∀ j, j < m → t3 109 (E j) = t 109 (E j) ∧ t3 111 (E j) = t 111 (E j)) ∧ (∀ s, (s < S ∨ (10000 ≤ s ∧ s < 10000 + S)) → o2 s = o s) ∧ (∀ x, x < S → t3 101 x = t 101 x) ∧ (∀ k, k < F → t3 75 k = t 75 k ∧ t3 77 k = t 77 k) ∧ (∀ c, c < C → u2 27 c = u 27 c) ∧ zGr t t3 p ∧ (∀ k, k < 2 * H → u2 39 k = u 39 k) ∧ zFP zpR t t3 ∧ zFP zpM u u2
theorem zBrStep {bc bm : Int32 → zS → zR} {G : zTxt} {i d p b H : Nat} {f : Nat → Nat} {N M A S n F C R W V q S0 n0 F0 C0 R0 W0 V0 q0 e s m H0 : Nat} {E : Nat → Nat} {o o0 : Nat → Nat × Nat} {w w0 : Nat → Nat} {Y Z : List Nat} {t0 u0 t u : zS} {x3 lab : Int32} (hB : zPB d (e + 1) bc bm) (h : zBB G i d p b H f N M A S n F C R W V q o w Y Z t u) (hN : zBN i A H b S n F C R W V q) (hX : zBX p b H0 S0 n0 F0 C0 R0 W0 V0 q0 S n F C R W V q o0 o w0 w t0 u0 t u) (hH : H0 ≤ H) (hs0 : S0 ≤ s) (hs : s < S) (hsY : s ∈ Y) (hos : o s = (e, p)) (h87 : t 87 s = 7 ∨ t 87 s = 10 ∨ t 87 s = 12) (hK : e + 1 ≤ zKc G i) (hL : zLk (t 115) W m (t 105 s) E) (how : ∀ j, j < m → w (E j) = s ∧ W0 ≤ E j) (h3 : x3 = if m = 0 then -1 else Int32.ofNat (E (m - 1))) (hs1 : s < 1000) :
    ∃ rb t2 rb' u2, bc (Int32.ofNat s) t = some (rb, t2) ∧ bm (zBeh t (Int32.ofNat s)) u = some (rb', u2) ∧
      ((∃ i2 S2 n2 F2 C2 R2 W2 V2 q2 o2 w2 t3, mX9_addBranch (Int32.ofNat s) x3 lab rb t2 = some (Int32.ofNat W2, t3) ∧ i + 2 ≤ i2 ∧ zBB G i2 d p b H f N M A S2 n2 F2 C2 R2 (W2 + 1) V2 q2 o2 w2 Y Z t3 u2 ∧ zBX p b H0 S0 n0 F0 C0 R0 W0 V0 q0 S2 n2 F2 C2 R2 (W2 + 1) V2 q2 o0 o2 w0 w2 t0 u0 t3 u2 ∧ zBF i S n F C R W V q i2 S2 n2 F2 C2 R2 (W2 + 1) V2 q2 ∧ 3 * S2 + i + 2 ≤ 3 * S + i2 ∧ d < 40 ∧ S ≤ S2 ∧ F ≤ F2 ∧ C ≤ C2 ∧ W ≤ W2 ∧ 2 * V2 + i + 2 ≤ 2 * V + i2 ∧
          zBk2 p s m S F C W H E o o2 t u t3 u2 ∧ zLk (t3 115) (W2 + 1) (m + 1) (t3 105 s) (zup E m W2) ∧ (∀ j, j < m + 1 → w2 (zup E m W2 j) = s ∧ W0 ≤ zup E m W2 j) ∧ t3 109 W2 = lab ∧ t3 111 W2 = rb ∧ zBl t3 o2 s S2 (zBeh t (Int32.ofNat s)) rb rb' ∧ (∀ j, j < m → ¬ E j = W2) ∧ (rb = -1 ∨ ∃ x, rb = Int32.ofNat x ∧ S ≤ x ∧ x < S2)) ∨
       (∃ rx t3, mX9_addBranch (Int32.ofNat s) x3 lab rb t2 = some (rx, t3) ∧ zSE H t u t3 u2)) := by
  obtain ⟨rb, t2, rb', u2, d1, d2, d3⟩ := hB G i p b H f N M A S n F C R W V q o w Y Z (Int32.ofNat s) t u h hN (Or.inr ⟨s, rfl, hs, by rw [hos], h87⟩) hK
  refine ⟨rb, t2, rb', u2, d1, d2, ?_⟩
  rcases d3 with ⟨i2, S2, n2, F2, C2, R2, W2, V2, q2, o2, w2, g1, g2, g3, g4, g5, g6, g7, g8, g9, g10⟩ | er
  · have hl2 := zAt_lt g2.1.1
    have hWW : W ≤ W2 := g3.2.2.2.2.2.1
    have hSS : S ≤ S2 := g3.1
    have x11 := g3.2.2.2.2.2.2.2.2.2.2.1
    have x12 := g3.2.2.2.2.2.2.2.2.2.2.2.1
    have hW0 : W0 ≤ W := hX.2.2.2.2.2.1
    have hwk : ∀ k, k < W → w2 k = w k := g3.2.2.2.2.2.2.2.2.2.1
    have hWb : W2 < 1600 ∧ S2 ≤ 1000 ∧ n2 ≤ 3000 := by
      obtain ⟨f1, f2, f3, f4, f5, f6, f7, f8⟩ := g4
      obtain ⟨m1, m2, m3, m4, m5, m6, m7, m8⟩ := hN
      refine ⟨?_, ?_, ?_⟩
      · clear hL how h3 f1 f2 f3 f4 f6 f7 f8 m1 m2 m3 m4 m6 m7 m8; omega
      · clear hL how h3 f5 f2 f3 f4 f6 f7 f8 m5 m2 m3 m4 m6 m7 m8; omega
      · clear hL how h3 f5 f2 f3 f4 f6 f7 f1 m5 m2 m3 m4 m6 m7 m1; omega
    have hL2 : zLk (t2 115) W2 m (t2 105 s) E := by
      rw [zBX_rC g3 hs 105 (by decide)]
      exact zLk_ext hL (fun j hj => x11 115 (E j) (hL.2 j hj).1) hWW
    obtain ⟨t3, y1, y2, y3, y4, y5, y6, y7, y8, y9, y10⟩ := pl_addBranch (s := s) (n := m) (e := E) (x3 := x3) (lab := lab) (blk := rb) g2.2.2.2.2.2.2.1 hWb.1 hs1 hL2 h3
    have hE : ∀ j, j < m → E j < W := fun j hj => (hL.2 j hj).1
    have hlast : m = 0 ∨ (E (m - 1) < W2 ∧ w2 (E (m - 1)) = s) := by
      rcases Nat.eq_zero_or_pos m with q | q
      · exact Or.inl q
      · have := hE (m - 1) (Nat.sub_lt q Nat.one_pos)
        exact Or.inr ⟨Nat.lt_of_lt_of_le this hWW, by rw [hwk _ this]; exact (how (m - 1) (Nat.sub_lt q Nat.one_pos)).1⟩
    have hlast0 : m = 0 ∨ W0 ≤ E (m - 1) := by
      rcases Nat.eq_zero_or_pos m with q | q
      · exact Or.inl q
      · exact Or.inr (how (m - 1) (Nat.sub_lt q Nat.one_pos)).2
    have z1 := zBB_branch (m := m) (e := E) g2 hsY hWb.2.1 hlast y2 y3 y4 y5 y8 y9
    have X2 := zBX_branch (m := m) (e := E) (zBX_trans hX g3 hH) hs0 hlast0 y4 y5 y8 y9
    have hne : ∀ j, j < m → ¬ E j = W2 := fun j hj e1 => by have := hE j hj; omega
    refine Or.inl ⟨i2, S2, n2, F2, C2, R2, W2, V2, q2, o2, _, t3, y1, g1, z1, X2, ?_, g8, g7, hSS, g3.2.2.1, g3.2.2.2.1, hWW, ?_, ⟨⟨fun k k1 k2 k3 => ?_, fun k k1 k2 _ => zBX_rM g3 hs k ⟨k1, k2⟩⟩, fun j hj => ?_, g3.2.2.2.2.2.2.2.2.1, fun x hx => ?_, fun k hk => ?_, fun c hc => x12 27 c hc, ?_, fun k hk => x12 39 k hk, zFP_trans g9 (zFP_br y4), g10⟩, y10, fun j hj => ?_, y6, y7, ?_, hne, by
      rcases g5 with ⟨a, _⟩ | ⟨x, a1, _, a3, a4, _⟩
      · exact Or.inl a
      · exact Or.inr ⟨x, a1, a3, a4⟩⟩
    · obtain ⟨f1, f2, f3, f4, f5, f6, f7, f8⟩ := g4
      refine ⟨?_, ?_, ?_, ?_, ?_, ?_, ?_, ?_⟩
      · clear hL how h3; omega
      · clear hL how h3; omega
      · clear hL how h3; omega
      · clear hL how h3; omega
      · clear hL how h3; omega
      · clear hL how h3; omega
      · clear hL how h3; omega
      · clear hL how h3; omega
    · have := g4.2.2.2.2.2.1; clear hL how h3; omega
    · by_cases e105 : k = 105
      · exact absurd (by rw [e105]; exact List.mem_singleton.mpr rfl) k3
      · by_cases e103 : k = 103
        · rw [y4 k (by clear hL how h3; omega), e103]
          exact x11 103 s (show s < 1000000 from Nat.lt_trans hs1 (by decide))
        · rw [y4 k (by clear hL how h3; omega)]
          exact zBX_rC g3 hs k ⟨k1, k2, e103⟩
    · have hj2 := hE j hj
      rw [(y8 (E j) (hne j hj)).1, (y8 (E j) (hne j hj)).2.1]
      exact ⟨x11 109 (E j) hj2, x11 111 (E j) hj2⟩
    · rw [y4 101 (by decide)]; exact x11 101 x hx
    · rw [y4 75 (by decide), y4 77 (by decide)]; exact ⟨x11 75 k hk, x11 77 k hk⟩
    · exact zGr_of h.1.2.2.2.1 z1.1.2.2.2.1 g3.2.1 hWb.2.2 (Nat.le_refl _) (fun j hj => by rw [y4 39 (by decide)]; exact x11 39 j hj)
    · by_cases ej : j = m
      · rw [ej, zup_at, zup_at]; exact ⟨rfl, Nat.le_trans hW0 hWW⟩
      · have hj2 : j < m := by clear hL how h3; omega
        have hj3 := hE j hj2
        rw [zup_ne ej, zup_ne (hne j hj2), hwk _ hj3]
        exact how j hj2
    · have hb := zBlk_of (s := s) (S1 := S) g2 (by rw [g3.2.2.2.2.2.2.2.2.1 s (Or.inl hs)]; exact hos) hs g5
      exact zBl_ext hb (Nat.lt_of_lt_of_le hs hSS) (fun _ _ => rfl) (Nat.le_refl _) (fun r _ => by rw [y4 101 (by decide)])
  · obtain ⟨rx, t3, y1, y2⟩ := zEs_addBranch (x1 := Int32.ofNat s) (x2 := x3) (x3 := lab) (x4 := rb) (zEr_c er.1)
    exact Or.inr ⟨rx, t3, y1, zSE_c er y2⟩
