/-! behind the last definition: NAMES looked up, loops, main -/
/-- what looking up leaves alone -/
def zLf (u u2 : zS) : Prop := ∀ k j, ¬ (k = 6 ∨ k = 17) → ¬ (k = 0 ∧ (j = 9 ∨ j = 62)) → u2 k j = u k j
/-- a good program as both hold it -/
def zLkd (G : zTxt) (f : Nat → Nat) (N M P A T Q Pa bb S F C R W V : Nat) (o : Nat → Nat × Nat) (w : Nat → Nat) (t u : zS) : Prop :=
  zTD (zBk G) (zRn T (t 25)) f [] N M P A t u ∧ zDs2 G f N T t u ∧ zPs2 G f N Q Q Pa bb S F C R W V o w t u ∧ zCp Q S t u ∧ (∀ x, x < T → zIt (zNx t) T x = none) ∧ (∃ x, x < Q ∧ t 33 17 = Int32.ofNat x ∧ u 0 62 = Int32.ofNat x ∧ t 37 x = 0) ∧ (∃ i q, zTN G i N M P A T Q Pa bb S F C R W V q t ∧ i ≤ 3000 ∧ 9 * T + 10 * Q ≤ 3000 ∧ i = G.2.2.1 ∧ G.2.1 ≤ 3000 ∧ zpos G.1 G.2.1 i = G.2.1) ∧ (zBk G).length ≤ 1600 ∧ t 5 12 = -1 ∧ u 0 9 = -1
theorem pl_267w {u : zS} {x : Int32} {n : Nat} (h9 : u 0 9 = -1) (h3 : u 0 3 = Int32.ofNat n) (hn : n ≤ 3000) (hx : x < 0 ∨ ∃ y k, y < 300 ∧ x = Int32.ofNat y ∧ u 32 y = Int32.ofNat k ∧ 0 < k ∧ k ≤ 3000) : bX12_program_267 x u = some (-1 - Int32.ofNat n, zu (zu u 0 62 x) 0 9 (Int32.ofNat n)) := by
  have e96 : bX12_program_296 (zu u 0 62 x) = some (-1 - Int32.ofNat n, zu (zu u 0 62 x) 0 9 (Int32.ofNat n)) := by
    unfold bX12_program_296
    rw [zu_ne2 (by decide), h3, pl_pt]
    unfold bX12_program_304
    rw [zu_same, if_neg (zn_neg (by omega))]
  have n9 : ¬ 0 ≤ zu u 0 62 x 0 9 := by rw [zu_ne2 (by decide), h9]; decide
  unfold bX12_program_267
  rw [pl_pt, if_neg n9, zu_same, e96]
  rcases hx with hx | ⟨y, k, y1, y2, y3, y4, y5⟩
  · rw [if_pos hx]
  · rw [y2, if_neg (zn_neg (by omega)), zn_rd y1 (by decide), zu_ne1 (by decide), y3, if_neg (show ¬ Int32.ofNat k ≤ 0 from fun w => by have := (zn_le (a := k) (b := 0) (by omega) (by decide)).mp w; omega)]
/-- field 62 is main's alone -/
theorem zPs2_62 {G : zTxt} {f : Nat → Nat} {N K Q Pa bb S F C R W V : Nat} {o : Nat → Nat × Nat} {w : Nat → Nat} {t u : zS} {v : Int32} (h : zPs2 G f N K Q Pa bb S F C R W V o w t u) : zPs2 G f N K Q Pa bb S F C R W V o w t (zu u 0 62 v) := by
  obtain ⟨a1, a2, a3, a4, a5, a6, a7, a8, a9, a10, a11, a12, a13, a14, a15, a16⟩ := h
  have fr : ∀ k, ¬ k = 0 → zu u 0 62 v k = u k := fun k hk => zu_row hk
  have r0 : ∀ j, ¬ j = 62 → zu u 0 62 v 0 j = u 0 j := fun j hj => zu_ne2 hj
  refine ⟨a1, by rw [r0 44 (by decide)]; exact a2, a3, by rw [fr 31 (by decide)]; exact a4, by rw [fr 28 (by decide)]; exact a5, a6, fun x hx => ?_, a8, by rw [r0 42 (by decide)]; exact a9, a10, by rw [r0 26 (by decide)]; exact a11, a12, by rw [r0 39 (by decide)]; exact a13, a14, by rw [r0 36 (by decide)]; exact a15, fun s hs => ?_⟩
  · have := a7 x hx
    unfold zPd at *
    rw [fr 31 (by decide), fr 32 (by decide), fr 34 (by decide), fr 29 (by decide), fr 30 (by decide)]
    exact this
  · obtain ⟨c1, c2, c3, c4⟩ := a16 s hs
    refine ⟨zStm_0 c1 hs fr, ?_, c3, c4⟩
    unfold zLn at *
    rw [fr 21 (by decide), fr 22 (by decide)]
    exact c2
theorem zLooked {G : zTxt} {i n : Nat} {f : Nat → Nat} {N M P A T Q Pa bb S F C R W V q : Nat} {o : Nat → Nat × Nat} {w : Nat → Nat} {km : Int32 → zS → zR} {t u : zS} (h : zTop G i f N M P A T Q Pa bb S F C R W V q o w t u) (h19 : t 5 9 = 19) (hn : G.2.1 = n) :
    (∃ p u2, 0 ≤ p ∧ bX7_readAll_129 (Int32.ofNat n) t = some (p, zu t 5 12 p) ∧ bX12_program_134 km 0 u = some (-1 - p, u2) ∧ zLf u u2) ∨
    ∃ u2, bX7_readAll_129 (Int32.ofNat n) t = bX7_readAll_145 t ∧ bX12_program_134 km 0 u = bX12_program_304 u2 ∧ zLkd G f N M P A T Q Pa bb S F C R W V o w t u2 ∧ zLf u u2 := by
  obtain ⟨⟨ha, _, _, hTD, hAK, _⟩, hDs, hPs, hTN⟩ := h
  have hil := zAt_last ha h19
  have hi3 : i ≤ 3000 := by have := ha.2.2.2.1; have := ha.1.2.1; omega
  have hzp : zpos G.1 G.2.1 i = G.2.1 := by rw [hil]; exact ha.1.1
  have hn3 : G.2.1 ≤ 3000 := ha.2.2.2.1
  have hTN0 := hTN
  obtain ⟨n1, n2, n3, n4, n5, n6, n7, n8, n9, n10, n11, n12, n13, n14⟩ := hTN
  rw [hzp] at n14
  have h12 : t 5 12 = -1 := (zAt_m1 ha).1
  have hu9 : u 0 9 = -1 := (zAt_m1 ha).2
  have hn0 : (0 : Int32) ≤ Int32.ofNat n := zn_0le (by omega)
  -- what the class does with a place
  have cE : ∀ p : Int32, 0 ≤ p → mX7_lackingPlace (Int32.ofNat n) t = some (p, t) → bX7_readAll_129 (Int32.ofNat n) t = some (p, zu t 5 12 p) := fun p hp e => by
    unfold bX7_readAll_129
    rw [if_neg (show ¬ 0 ≤ t 5 12 by rw [h12]; decide), e, pl_bd, pl_pt]
    unfold bX7_readAll_145
    rw [zu_same, if_pos hp]
  have mE : bX12_program_134 km 0 u = zbd (mX12_lookUp u) fun _ u2 => bX12_program_239 u2 := by
    unfold bX12_program_134
    rw [if_pos rfl, if_neg (show ¬ 0 ≤ u 0 9 by rw [hu9]; decide)]
  -- and the reference
  have mW : ∀ (p : Int32) (u2 : zS), 0 ≤ p → u2 0 9 = p → bX12_program_239 u2 = some (-1 - p, zu u2 0 62 (-1)) := fun p u2 hp e => by
    unfold bX12_program_239
    rw [if_pos (by rw [e]; exact hp)]
    unfold bX12_program_267
    rw [pl_pt, if_pos (by rw [zu_ne2 (by decide), e]; exact hp)]
    unfold bX12_program_304
    rw [zu_ne2 (by decide), e, if_neg (Int32.not_lt.mpr hp)]
  have Lf : ∀ (u2 : zS) (x : Int32), (∀ k j, ¬ (k = 6 ∨ k = 17) → ¬ (k = 0 ∧ j = 9) → u2 k j = u k j) → zLf u (zu u2 0 62 x) := fun u2 x hh k j k1 k2 => by
    by_cases e : k = 0
    · subst e
      rw [zu_ne2 (fun e => k2 ⟨rfl, Or.inr e⟩)]
      exact hh 0 j k1 (fun e => k2 ⟨rfl, Or.inl e.2⟩)
    · rw [zu_ne1 e]
      exact hh k j k1 (fun e2 => e e2.1)
  have L := zLookL (n := Int32.ofNat n) ha hAK hDs.2.2.1 hDs.2.1 (by omega) hPs.2.2.2.2.1 hPs.2.1 (by omega) (by omega) (by omega) (by omega) q 0 (zFU - 2 - q) (zFU - 2 - q) u (by omega) ⟨fun _ _ _ => rfl, fun _ => Or.inl rfl, fun _ => Or.inl rfl, fun k m hk => absurd hk (Nat.not_lt_zero k), fun k m hk => absurd hk (Nat.not_lt_zero k)⟩
  rw [show zFU - 2 - q + 2 + q = zFU by unfold zFU; omega] at L
  rcases L with ⟨u2, l1, l2, l3⟩ | ⟨k, u2, l1, l2, l3, l4, l5⟩
  · have fr := zLo_fr l3
    have r0 : ∀ j, u2 0 j = u 0 j := fun j => by rw [fr 0 (by decide)]
    have TD2 := zTD_look ha hTD hAK l3 hDs.2.2.1 (by omega)
    have Ds2 := zDs2_look hDs l3
    have Ps2 := zPs2_look hPs l3
    have Cp2 := zCp_look hAK l3 hPs.2.2.2.2.1 (by omega)
    have ha2 : zAt G i t u2 := zAt_of ha (fun _ _ _ => rfl) rfl rfl (fun j _ _ => r0 j) (fr 2 (by decide)) (fr 3 (by decide)) (fr 4 (by decide))
    have h29 : u2 0 9 = -1 := by rw [r0]; exact hu9
    have h23 : u2 0 3 = Int32.ofNat n := by rw [r0, ha.2.2.1, hn]
    have fr9 : ∀ (p : Int32) k j, ¬ (k = 6 ∨ k = 17) → ¬ (k = 0 ∧ j = 9) → zu u2 0 9 p k j = u k j := fun p k j k1 k2 => by
      by_cases e : k = 0
      · subst e
        rw [zu_ne2 (fun e => k2 ⟨rfl, e⟩)]; exact r0 j
      · rw [zu_ne1 e, fr k k1]
    have c1 : lX7_lackingPlace_2 (zFU - 2 - q + 2) (Int32.ofNat n) (Int32.ofNat q) t = zbd (mX2_loopPlace t) fun r965 t966 => if r965 < 0 then zbd (mX6_find 17 t966) fun r968 t969 => if r968 < 0 then bX7_lackingPlace_126 (Int32.ofNat n) t969 else zbd (mX5_get 36 400 r968 t969) fun r971 t972 => if r971 ≤ 0 then some ((-1), t972) else bX7_lackingPlace_126 (Int32.ofNat n) t972 else some (r965, t966) := by
      show bX7_lackingPlace_2 _ _ _ t = _
      unfold bX7_lackingPlace_2
      rw [hAK.1, if_pos ((zn_le (by omega) (by omega)).mpr (Nat.le_refl _))]
    have c2 : lX12_lookUp_2 (zFU - 2 - q + 2) (Int32.ofNat q) u2 = lX12_lookUp_111 zFU (Int32.ofNat 0) u2 := by
      show bX12_lookUp_2 _ _ u2 = _
      unfold bX12_lookUp_2
      rw [r0, hAK.2.1, if_pos ((zn_le (by omega) (by omega)).mpr (Nat.le_refl _))]
      rfl
    have LA := zLoopAll TD2 Ds2 h29 (by omega) (by omega) (by omega) T 0 (zFU - T - 1) (zFU - T - 1) (by omega)
    rw [show zFU - T - 1 + T + 1 = zFU by unfold zFU; omega] at LA
    rcases LA with ⟨z1, z2, z3⟩ | ⟨p, z0, z1, z2⟩
    · have cM : mX7_lackingPlace (Int32.ofNat n) t = zbd (mX6_find 17 t) fun r968 t969 => if r968 < 0 then bX7_lackingPlace_126 (Int32.ofNat n) t969 else zbd (mX5_get 36 400 r968 t969) fun r971 t972 => if r971 ≤ 0 then some ((-1), t972) else bX7_lackingPlace_126 (Int32.ofNat n) t972 := by
        show lX7_lackingPlace_2 zFU (Int32.ofNat n) (Int32.ofNat 0) t = _
        rw [l1, c1, show mX2_loopPlace t = some (-1, t) from z1, pl_bd, if_pos (by decide)]
      have g17 : mX6_find 17 t = some (t 33 17, t) := by
        unfold mX6_find
        rw [show mX5_get 32 1600 17 t = some (t 33 17, t) from zn_get (k := 17) (by decide) (by decide), pl_bd]
      rw [g17, pl_bd] at cM
      have mM : bX12_program_134 km 0 u = bX12_program_267 (t 33 17) u2 := by
        rw [mE, show mX12_lookUp u = some (0, u2) from l2.trans (c2.trans z2), pl_bd]
        unfold bX12_program_239
        rw [if_neg (show ¬ 0 ≤ u2 0 9 by rw [h29]; decide)]
        exact pl_main ha2 h19 Ps2.2.2.2.2.1 Ps2.2.1 (by omega)
      have bad : (t 33 17 < 0 ∨ ∃ y k, y < 300 ∧ t 33 17 = Int32.ofNat y ∧ u2 32 y = Int32.ofNat k ∧ 0 < k ∧ k ≤ 3000) → mX7_lackingPlace (Int32.ofNat n) t = some (Int32.ofNat n, t) → (∃ p u2, 0 ≤ p ∧ bX7_readAll_129 (Int32.ofNat n) t = some (p, zu t 5 12 p) ∧ bX12_program_134 km 0 u = some (-1 - p, u2) ∧ zLf u u2) := fun b1 b2 => by
        refine ⟨Int32.ofNat n, _, hn0, cE _ hn0 b2, by rw [mM, pl_267w h29 h23 (by omega) b1], fun k j k1 k2 => ?_⟩
        by_cases e : k = 0
        · subst e
          rw [zu_ne2 (fun e => k2 ⟨rfl, Or.inl e⟩), zu_ne2 (fun e => k2 ⟨rfl, Or.inr e⟩)]
          exact r0 j
        · rw [zu_ne1 e, zu_ne1 e, fr k k1]
      rcases Ps2.2.2.2.2.1.1 17 (by decide) with e | ⟨x, x1, x2, _⟩
      · refine Or.inl (bad (Or.inl (by rw [e]; decide)) ?_)
        rw [cM, e, if_pos (by decide)]
        rfl
      · obtain ⟨nn, b, kk, a, p1, p2, p3, p4, p5, p6, p7, p8, p9, p10⟩ := Ps2.2.2.2.2.2.2.1 x x1
        have g36 : mX5_get 36 400 (Int32.ofNat x) t = some (Int32.ofNat kk, t) := by rw [← p5]; exact zn_get (by omega) (by decide)
        rw [x2, if_neg (zn_neg (by omega)), g36, pl_bd] at cM
        by_cases k0 : kk = 0
        · subst k0
          rw [if_pos (by decide)] at cM
          refine Or.inr ⟨zu u2 0 62 (Int32.ofNat x), ?_, ?_, ⟨?_, ?_, ?_, ?_, ?_, ⟨x, x1, x2, zu_same _ _ _ _, p5⟩, ⟨i, q, hTN0, hi3, Nat.le_trans n14 hn3, hil, hn3, hzp⟩, zBk_len ha, h12, by rw [zu_ne2 (by decide)]; exact h29⟩, Lf u2 _ (fun k j k1 _ => by rw [fr k k1])⟩
          · unfold bX7_readAll_129
            rw [if_neg (show ¬ 0 ≤ t 5 12 by rw [h12]; decide), cM, pl_bd, pl_pt, zu_self h12]
          · rw [mM, x2]
            unfold bX12_program_267
            rw [pl_pt, if_neg (show ¬ 0 ≤ zu u2 0 62 (Int32.ofNat x) 0 9 by rw [zu_ne2 (by decide), h29]; decide), zu_same, if_neg (zn_neg (by omega)), zn_rd (by omega) (by decide), zu_ne1 (by decide), p6, if_pos (by decide)]
          · exact zTD_of TD2 rfl rfl (zu_ne2 (by decide)) (zu_ne2 (by decide)) rfl rfl rfl rfl rfl rfl (zu_row (by decide)) (zu_row (by decide)) (zu_row (by decide)) (zu_row (by decide)) (zu_row (by decide)) (zu_row (by decide))
          · unfold zDs2 at *
            rw [zu_ne2 (by decide), zu_row (by decide), zu_row (by decide), zu_row (by decide)]
            exact Ds2
          · exact zPs2_62 Ps2
          · unfold zCp at *
            rw [zu_row (by decide)]
            exact Cp2
          · exact fun x hx => zNoLoop (zNx_lt TD2 Ds2 (by omega) (by omega)) (fun y j hy j1 j2 => z3 y j (Nat.zero_le _) hy j1 j2) x hx
        · rw [if_neg (show ¬ Int32.ofNat kk ≤ 0 from fun w => by have := (zn_le (a := kk) (b := 0) (by omega) (by decide)).mp w; omega)] at cM
          exact Or.inl (bad (Or.inr ⟨x, kk, by omega, x2, p6, by omega, by omega⟩) cM)
    · refine Or.inl ⟨p, zu (zu u2 0 9 p) 0 62 (-1), z0, cE p z0 ?_, ?_, Lf _ _ (fr9 p)⟩
      · show lX7_lackingPlace_2 zFU (Int32.ofNat n) (Int32.ofNat 0) t = _
        rw [l1, c1, show mX2_loopPlace t = some (p, t) from z1, pl_bd, if_neg (Int32.not_lt.mpr z0)]
      · rw [mE, show mX12_lookUp u = some (0, zu u2 0 9 p) from l2.trans (c2.trans z2), pl_bd]
        exact mW p _ z0 (zu_same _ _ _ _)
  · refine Or.inl ⟨t 54 k, zu u2 0 62 (-1), l1, cE _ l1 l2, ?_, Lf _ _ l5⟩
    rw [mE, show mX12_lookUp u = some (0, u2) from l3, pl_bd]
    exact mW _ _ l1 l4
