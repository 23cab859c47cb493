/-! BLOCKS in lockstep -/
/-- links between statements are laid -/
theorem zBB_links {G : zTxt} {i d p b H : Nat} {f : Nat → Nat} {N M A S n F C R W V q : Nat} {o : Nat → Nat × Nat} {w : Nat → Nat} {Y Z Z2 : List Nat} {t u t2 u2 : zS} (h : zBB G i d p b H f N M A S n F C R W V q o w Y Z t u) (hS : S ≤ 1000) (hr : ∀ k, ¬ k = 99 → t2 k = t k) (hg : ∀ k, ¬ (k = 21 ∨ k = 22) → u2 k = u k) (hz : ∀ s, s < S → ¬ s ∈ Z → t2 99 s = t 99 s ∧ u2 21 s = u 21 s ∧ u2 22 s = u 22 s) (hn : ∀ s, s < S → s ∈ Z → ¬ s ∈ Z2 → zLn o S t2 u2 s) : zBB G i d p b H f N M A S n F C R W V q o w Y Z2 t2 u2 := by
  obtain ⟨⟨b1, b2, b3, b4, b5, b6⟩, a2, a3, a4, a5, a6, a7, a8, a9, a10, a11, a12, a13⟩ := h
  refine ⟨⟨zAt_of b1 (fun j _ _ => by rw [hr 5 (by decide)]) (hr 67 (by decide)) (by rw [hr 50 (by decide)]) (fun j _ _ => by rw [hg 0 (by decide)]) (hg 2 (by decide)) (hg 3 (by decide)) (hg 4 (by decide)), by rw [hr 5 (by decide)]; exact b2, by rw [hg 0 (by decide)]; exact b3, zSl_of b4 (Nat.le_refl _) (by rw [hr 4 (by decide)]) (by rw [hg 0 (by decide)]) (hr 39 (by decide)) (hr 47 (by decide)) (hr 49 (by decide)) (hg 31 (by decide)) (hg 33 (by decide)), by rw [hr 51 (by decide)]; exact b5, by rw [hg 0 (by decide)]; exact b6⟩, zAK_fr a2 (by rw [hr 5 (by decide)]) (by rw [hg 0 (by decide)]) (hr 9 (by decide)) (hr 54 (by decide)) (hr 56 (by decide)) (fun s hs => by rw [hr 93 (by decide)]) (fun s hs => by rw [hr 87 (by decide)]) (hg 5 (by decide)) (hg 6 (by decide)) (hg 35 (by decide)) (hg 36 (by decide)) (hg 37 (by decide)) (hg 38 (by decide)), by rw [hr 52 (by decide)]; exact a3, by rw [hg 0 (by decide)]; exact a4, by rw [hr 51 (by decide)]; exact a5, by rw [hg 0 (by decide)]; exact a6, by rw [hr 52 (by decide)]; exact a7, by rw [hg 0 (by decide)]; exact a8, by rw [hg 0 (by decide)]; exact a9, by rw [hg 0 (by decide)]; exact a10, fun x k1 k2 => ?_, fun x k1 k2 => ?_, fun x k1 => ?_⟩
  · exact zStm_ext (a11 x k1 k2) k1 (Nat.le_refl _) (Nat.le_refl _) (Nat.le_refl _) (Nat.le_refl _) (Nat.le_refl _) (Nat.le_refl _) (fun _ _ => rfl) (fun k hk => by rw [hr k (by omega)]) (fun k' hk' => by rw [hg k' (by omega)]) (fun r _ => by rw [hr 101 (by decide)]) (fun r _ => ⟨by rw [hr 75 (by decide)], by rw [hr 77 (by decide)]⟩) (fun c _ => by rw [hg 27 (by decide)]) (fun r _ => ⟨by rw [hr 79 (by decide)], by rw [hr 81 (by decide)], by rw [hr 83 (by decide)]⟩) (fun y _ => ⟨by rw [hg 25 (by decide)], by rw [hg 26 (by decide)]⟩) (fun y _ hw => ⟨hw, by rw [hr 109 (by decide)], by rw [hr 111 (by decide)], by rw [hr 115 (by decide)]⟩) (fun y _ => ⟨by rw [hg 23 (by decide)], by rw [hg 24 (by decide)]⟩) (fun m hm hm2 => ⟨m, by rw [hr 39 (by decide)]; exact hm, Nat.le_refl _, hm2⟩)
  · by_cases qz : x ∈ Z
    · exact hn x k1 qz k2
    · obtain ⟨c1, c2, c3⟩ := hz x k1 qz
      exact zLn_ext (a12 x k1 qz) (a13 x k1).1 k1 (Nat.le_refl _) hS (fun _ _ => rfl) c1 c2 c3 (fun r _ => by rw [hr 101 (by decide)]) (fun r _ => by rw [hr 87 (by decide)])
  · exact ⟨zPa_ext (a13 x k1).1 k1 (fun _ _ => rfl) (by rw [hr 101 (by decide)]) (fun r _ => by rw [hr 87 (by decide)]) (by rw [hr 107 (by decide)]), (a13 x k1).2⟩
theorem zBX_links {p b H S n F C R W V q S2 n2 F2 C2 R2 W2 V2 q2 : Nat} {o o2 : Nat → Nat × Nat} {w w2 : Nat → Nat} {t0 u0 t u t2 u2 : zS} (h : zBX p b H S n F C R W V q S2 n2 F2 C2 R2 W2 V2 q2 o o2 w w2 t0 u0 t u) (hr : ∀ k, ¬ k = 99 → t2 k = t k) (hg : ∀ k, ¬ (k = 21 ∨ k = 22) → u2 k = u k) (hz : ∀ s, s < S → t2 99 s = t 99 s ∧ u2 21 s = u 21 s ∧ u2 22 s = u 22 s) : zBX p b H S n F C R W V q S2 n2 F2 C2 R2 W2 V2 q2 o o2 w w2 t0 u0 t2 u2 := by
  obtain ⟨x1, x2, x3, x4, x5, x6, x7, x8, x9, x10, x11, x12, x13⟩ := h
  refine ⟨x1, x2, x3, x4, x5, x6, x7, x8, x9, x10, fun k j hj => ?_, fun k j hj => ?_, fun j hj => by rw [hg 0 (by decide)]; exact x13 j hj⟩
  · by_cases e : k = 99
    · subst e; rw [(hz j hj).1]; exact x11 99 j hj
    · rw [hr k e]; exact x11 k j hj
  · by_cases e : k = 21
    · subst e; rw [(hz j hj).2.1]; exact x12 21 j hj
    · by_cases e2 : k = 22
      · subst e2; rw [(hz j hj).2.2]; exact x12 22 j hj
      · rw [hg k (by omega)]; exact x12 k j hj
theorem zHd_ext {o o2 : Nat → Nat × Nat} {S S2 p e : Nat} {t t2 : zS} {hx : Int32} (h : zHd o S p e t hx) (hS : S ≤ S2) (ho : ∀ s, (s < S ∨ (10000 ≤ s ∧ s < 10000 + S)) → o2 s = o s) (h87 : ∀ s, s < S → t2 87 s = t 87 s) : zHd o2 S2 p e t2 hx := by
  rcases h with h | ⟨r, a1, a2, a3, a4⟩
  · exact Or.inl h
  · exact Or.inr ⟨r, a1, by omega, by rw [ho r (Or.inl a2)]; exact a3, by rw [h87 r a2]; exact a4⟩
theorem zBeh_hd {o : Nat → Nat × Nat} {S p e : Nat} {t t2 : zS} {hx : Int32} (h : zHd o S p e t hx) (hS : S ≤ 1000) (h87 : ∀ s, s < S → t2 87 s = t 87 s) : zBeh t2 hx = zBeh t hx := by
  unfold zBeh
  rcases h with ⟨h, _⟩ | ⟨r, a1, a2, a3, a4⟩
  · rw [if_pos h, if_pos h]
  · have e : (Int32.ofNat r).toNatClampNeg = r := pl_clamp (pl_ofn (by omega))
    rw [a1, e, h87 r a2]
/-- the number of a BLOCK -/
theorem zBB_tag {G : zTxt} {i d p b H : Nat} {f : Nat → Nat} {N M A S n F C R W V q : Nat} {o : Nat → Nat × Nat} {w : Nat → Nat} {Y Z : List Nat} {t u : zS} {v : Nat × Nat} (h : zBB G i d p b H f N M A S n F C R W V q o w Y Z t u) (hS : S ≤ 1000) : zBB G i d p b H f N M A S n F C R W V q (zuq o (10000 + S) v) w Y Z t u := by
  obtain ⟨a1, a2, a3, a4, a5, a6, a7, a8, a9, a10, a11, a12, a13⟩ := h
  have ho : ∀ s, (s < S ∨ (10000 ≤ s ∧ s < 10000 + S)) → zuq o (10000 + S) v s = o s := fun s hs => zuq_ne (by omega)
  refine ⟨a1, a2, a3, a4, a5, a6, a7, a8, a9, a10, fun x k1 k2 => ?_, fun x k1 k2 => ?_, fun x k1 => ?_⟩
  · exact zStm_ext (a11 x k1 k2) k1 (Nat.le_refl _) (Nat.le_refl _) (Nat.le_refl _) (Nat.le_refl _) (Nat.le_refl _) (Nat.le_refl _) ho (fun _ _ => rfl) (fun _ _ => rfl) (fun _ _ => rfl) (fun _ _ => ⟨rfl, rfl⟩) (fun _ _ => rfl) (fun _ _ => ⟨rfl, rfl, rfl⟩) (fun _ _ => ⟨rfl, rfl⟩) (fun _ _ hw => ⟨hw, rfl, rfl, rfl⟩) (fun _ _ => ⟨rfl, rfl⟩) (fun m hm hm2 => ⟨m, hm, Nat.le_refl _, hm2⟩)
  · exact zLn_ext (a12 x k1 k2) (a13 x k1).1 k1 (Nat.le_refl _) hS ho rfl rfl rfl (fun _ _ => rfl) (fun _ _ => rfl)
  · exact ⟨zPa_ext (a13 x k1).1 k1 ho rfl (fun _ _ => rfl) rfl, by rw [ho x (Or.inl k1)]; exact (a13 x k1).2⟩
theorem zBX_tag {p b H S n F C R W V q S2 n2 F2 C2 R2 W2 V2 q2 : Nat} {o o2 : Nat → Nat × Nat} {w w2 : Nat → Nat} {t u t2 u2 : zS} {v : Nat × Nat} (h : zBX p b H S n F C R W V q S2 n2 F2 C2 R2 W2 V2 q2 o o2 w w2 t u t2 u2) (hS : S2 ≤ 1000) : zBX p b H S n F C R W V q S2 n2 F2 C2 R2 W2 V2 q2 o (zuq o2 (10000 + S2) v) w w2 t u t2 u2 := by
  obtain ⟨x1, x2, x3, x4, x5, x6, x7, x8, x9, x10, x11, x12, x13⟩ := h
  exact ⟨x1, x2, x3, x4, x5, x6, x7, x8, fun s hs => (zuq_ne (by omega)).trans (x9 s hs), x10, x11, x12, x13⟩
/-- the last statement so far -/
def zLS (S0 S p e : Nat) (hx : Int32) (o : Nat → Nat × Nat) (Z Z' : List Nat) (x2 x3 : Int32) (t u : zS) : Prop := (x2 = -1 ∧ x3 = -1 ∧ Z' = Z) ∨ ∃ s l, x2 = Int32.ofNat s ∧ x3 = Int32.ofNat l ∧ S0 ≤ s ∧ s < S ∧ (o s = (e, p) ∧ o (10000 + s) = (s, 0)) ∧ t 101 s = hx ∧ S0 ≤ l ∧ l < S ∧ (o l = (e, p) ∧ o (10000 + l) = (s, 0)) ∧ t 101 l = hx ∧ t 99 l = -1 ∧ u 22 l = -1 ∧ Z' = l :: Z
def zBlkOk (G : zTxt) (i0 i d p b H : Nat) (f : Nat → Nat) (N M A S0 n0 F0 C0 R0 W0 V0 q0 e : Nat) (o0 : Nat → Nat × Nat) (w0 : Nat → Nat) (Y Z : List Nat) (hx beh : Int32) (t0 u0 : zS) (r : Int32) (t2 : zS) (r' : Int32) (u2 : zS) : Prop := ∃ i2 S2 n2 F2 C2 R2 W2 V2 q2 o2 w2, i < i2 ∧ zBB G i2 d p b H f N M A S2 n2 F2 C2 R2 W2 V2 q2 o2 w2 Y Z t2 u2 ∧ zBX p b H S0 n0 F0 C0 R0 W0 V0 q0 S2 n2 F2 C2 R2 W2 V2 q2 o0 o2 w0 w2 t0 u0 t2 u2 ∧ zBF (i0 + 2) S0 n0 F0 C0 R0 W0 V0 q0 i2 S2 n2 F2 C2 R2 W2 V2 q2 ∧ ((r = -1 ∧ r' = beh) ∨ ∃ s, r = Int32.ofNat s ∧ r' = Int32.ofNat s ∧ S0 ≤ s ∧ s < S2 ∧ (o2 s = (e, p) ∧ o2 (10000 + s) = (s, 0)) ∧ t2 101 s = hx) ∧ (t2 5 14 = u2 0 61 ∧ 0 ≤ t2 5 14) ∧ zFP zpR t0 t2 ∧ zFP zpM u0 u2
theorem zBlkEnd {g : GgX7_readBlock} {gm : GgX12_block} {G : zTxt} {i0 i d p b H : Nat} {f : Nat → Nat} {N M A S0 n0 F0 C0 R0 W0 V0 q0 S n F C R W V q e : Nat} {o o0 : Nat → Nat × Nat} {w w0 : Nat → Nat} {Y Z Z' : List Nat} {hx x2 x3 : Int32} {t0 u0 t u : zS} (h : zBB G i (d + 1) p b H f N M A S n F C R W V q o w Y Z' t u) (hX : zBX p b H S0 n0 F0 C0 R0 W0 V0 q0 S n F C R W V q o0 o w0 w t0 u0 t u) (hF : zBF (i0 + 1) S0 n0 F0 C0 R0 W0 V0 q0 i S n F C R W V q) (hH : zHd o0 S0 p e t0 hx) (hd : d ≤ 40) (hb : S ≤ 1000 ∧ n ≤ 3000 ∧ C ≤ 6400 ∧ 2 * A + 2 * V + 2 * H ≤ 3002) (hS0 : S0 ≤ 1000) (hLS : zLS S0 S p e hx o Z Z' x2 x3 t u) (fR : zFP zpR t0 t) (fM : zFP zpM u0 u) :
    ∃ r t2 r' u2, bX7_readBlock_81 g x2 t = some (r, t2) ∧ bX12_block_95 gm (zBeh t0 hx) x2 x3 u = some (r', u2) ∧ (zBlkOk G i0 i d p b H f N M A S0 n0 F0 C0 R0 W0 V0 q0 e o0 w0 Y Z hx (zBeh t0 hx) t0 u0 r t2 r' u2 ∨ zSE H t0 u0 t2 u2) := by
  obtain ⟨b1, b2, b3, b4⟩ := hb
  have hp := (zAt_w h.1.1).2.1
  have h61 : zBB G i (d + 1) p b H f N M A S n F C R W V q o w Y Z' t (zu u 0 61 (u 0 6)) := by
    obtain ⟨⟨c1, c2, c3, c4, c5, c6⟩, a2, a3, a4, a5, a6, a7, a8, a9, a10, a11, a12, a13⟩ := h
    have g : ∀ k, ¬ k = 0 → zu u 0 61 (u 0 6) k = u k := fun k hk => zu_row hk
    have g0 : ∀ j, ¬ j = 61 → zu u 0 61 (u 0 6) 0 j = u 0 j := fun j hj => zu_ne2 hj
    refine ⟨⟨zAt_of c1 (fun j _ _ => rfl) rfl rfl (fun j j1 _ => g0 j (by omega)) (g 2 (by decide)) (g 3 (by decide)) (g 4 (by decide)), c2, by rw [g0 10 (by decide)]; exact c3, zSl_of c4 (Nat.le_refl _) rfl (g0 60 (by decide)) rfl rfl rfl (g 31 (by decide)) (g 33 (by decide)), c5, by rw [g0 42 (by decide)]; exact c6⟩, zAK_fr a2 rfl (g0 52 (by decide)) rfl rfl rfl (fun s hs => rfl) (fun s hs => rfl) (g 5 (by decide)) (g 6 (by decide)) (g 35 (by decide)) (g 36 (by decide)) (g 37 (by decide)) (g 38 (by decide)), a3, by rw [g0 26 (by decide)]; exact a4, a5, by rw [g0 39 (by decide)]; exact a6, a7, by rw [g0 36 (by decide)]; exact a8, by rw [g0 59 (by decide)]; exact a9, by rw [g0 19 (by decide)]; exact a10, fun x k1 k2 => ?_, fun x k1 k2 => ?_, a13⟩
    · exact zStm_ext (a11 x k1 k2) k1 (Nat.le_refl _) (Nat.le_refl _) (Nat.le_refl _) (Nat.le_refl _) (Nat.le_refl _) (Nat.le_refl _) (fun _ _ => rfl) (fun _ _ => rfl) (fun k' hk' => by rw [g k' (by omega)]) (fun _ _ => rfl) (fun _ _ => ⟨rfl, rfl⟩) (fun c _ => by rw [g 27 (by decide)]) (fun _ _ => ⟨rfl, rfl, rfl⟩) (fun y _ => ⟨by rw [g 25 (by decide)], by rw [g 26 (by decide)]⟩) (fun y _ hw => ⟨hw, rfl, rfl, rfl⟩) (fun y _ => ⟨by rw [g 23 (by decide)], by rw [g 24 (by decide)]⟩) (fun m hm hm2 => ⟨m, hm, Nat.le_refl _, hm2⟩)
    · exact zLn_ext (a12 x k1 k2) (a13 x k1).1 k1 (Nat.le_refl _) b1 (fun _ _ => rfl) rfl (by rw [g 21 (by decide)]) (by rw [g 22 (by decide)]) (fun _ _ => rfl) (fun _ _ => rfl)
  have X61 : zBX p b H S0 n0 F0 C0 R0 W0 V0 q0 S n F C R W V q o0 o w0 w t0 u0 t (zu u 0 61 (u 0 6)) := by
    obtain ⟨x1, x2, x3, x4, x5, x6, x7, x8, x9, x10, x11, x12, x13⟩ := hX
    exact ⟨x1, x2, x3, x4, x5, x6, x7, x8, x9, x10, x11, zLm_zu x12 (Nat.zero_le _), fun j hj => by rw [zu_ne2 (by omega)]; exact x13 j hj⟩
  have fM1 : zFP zpM u0 (zu u 0 61 (u 0 6)) := zFP_zu fM rfl
  have e61 : zu u 0 61 (u 0 6) 0 61 = t 5 10 := by rw [zu_same, hp]
  have e22 : ∀ s, zu u 0 61 (u 0 6) 22 s = u 22 s := fun s => zu_ne1 (by decide)
  unfold bX7_readBlock_81 bX12_block_95
  rw [pl_pt]
  generalize zu u 0 61 (u 0 6) = ua at *
  obtain ⟨t1, u1, r1, r2, r3, r4, r5⟩ := zAt_leave (c := 125) h61.1.1 (by decide) hd h61.1.2.1 h61.1.2.2.1
  rw [r1, pl_bd, r2, pl_bd]
  rcases r5 with ⟨_, c4, c5, c6, c7⟩ | ⟨_, c2⟩
  · obtain ⟨z1, X1⟩ := zBB_fr (d2 := d) h61 c4 (Nat.le_succ _) b2 b1 c5 c6 r3 r4
    have X2 := zBX_trans X61 X1 (Nat.le_refl _)
    have h514 : t1 5 14 = u1 0 61 ∧ 0 ≤ t1 5 14 := ⟨by rw [c7, r4.2 61 (by decide), e61], by rw [c7]; exact zAt_0le h61.1.1⟩
    have hF2 : zBF (i0 + 2) S0 n0 F0 C0 R0 W0 V0 q0 (i + 1) S n F C R W V q := by
      obtain ⟨f1, f2, f3, f4, f5, f6, f7, f8⟩ := hF
      exact ⟨by omega, by omega, by omega, by omega, by omega, by omega, by omega, by omega⟩
    rcases hLS with ⟨l1, l2, l3⟩ | ⟨s, l, l1, l2, l3, l4, l5, l6, l7, l8, l9, l10, l11, l12, l13⟩
    · subst l1 l2 l3
      unfold bX12_block_120
      rw [if_pos (by decide), if_neg zn_m1]
      exact ⟨_, _, _, _, rfl, rfl, Or.inl ⟨i + 1, S, n, F, C, R, W, V, q, o, w, Nat.lt_succ_self _, z1, X2, hF2, Or.inl ⟨rfl, rfl⟩, h514, zFP_trans fR (zFP_rS r3), zFP_trans fM1 (zFP_M (zFP_N r4))⟩⟩
    · subst l1 l2 l13
      have hl16 : l < 1600 := by omega
      unfold bX12_block_120
      rw [if_neg (zn_neg (by omega)), zn_wr hl16 (by decide), if_pos (zn_0le (by omega))]
      have hr : ∀ k, ¬ (k = 21 ∨ k = 22) → zu u1 21 l (zBeh t0 hx) k = u1 k := fun k hk => zu_row (fun e => hk (Or.inl e))
      have h87 : ∀ x, x < S0 → t1 87 x = t0 87 x := fun x hx' => zBX_rC X2 hx' 87 (by decide)
      have z2 := zBB_links (t2 := t1) (u2 := zu u1 21 l (zBeh t0 hx)) (Z2 := Z) z1 b1 (fun _ _ => rfl) hr (fun x _ hx' => ⟨rfl, zu_ne2 (fun e => hx' (by rw [e]; exact List.mem_cons_self)), zu_ne1 (by decide)⟩) (fun x x1 x2 x3 => by
        rcases List.mem_cons.mp x2 with e | e
        · subst e
          refine Or.inl ⟨by rw [r3.1 99 (by decide)]; exact l11, by rw [zu_ne1 (by decide), r4.1 22 (by decide) (by decide) (by decide), e22]; exact l12, ?_⟩
          rw [zu_same, r3.1 101 (by decide), l10]
          exact (zBeh_hd hH hS0 h87).symm
        · exact absurd e x3)
      have X3 := zBX_links (t2 := t1) (u2 := zu u1 21 l (zBeh t0 hx)) X2 (fun _ _ => rfl) hr (fun x hx' => ⟨rfl, zu_ne2 (by omega), zu_ne1 (by decide)⟩)
      exact ⟨_, _, _, _, rfl, rfl, Or.inl ⟨i + 1, S, n, F, C, R, W, V, q, o, w, Nat.lt_succ_self _, z2, X3, hF2, Or.inr ⟨s, rfl, rfl, l3, l4, l5, by rw [r3.1 101 (by decide)]; exact l6⟩, by rw [zu_ne1 (by decide)]; exact h514, zFP_trans fR (zFP_rS r3), zFP_zu (zFP_trans fM1 (zFP_M (zFP_N r4))) rfl⟩⟩
  · have hE := zSE_pre (zSE_ofB h61 b3 b4 c2 r3 r4) fR fM1
    unfold bX12_block_120
    rcases hLS with ⟨l1, l2, l3⟩ | ⟨s, l, l1, l2, l3, l4, l5, l6, l7, l8, _⟩
    · subst l1 l2
      rw [if_pos (by decide), if_neg zn_m1]
      exact ⟨_, _, _, _, rfl, rfl, Or.inr hE⟩
    · subst l1 l2
      rw [if_neg (zn_neg (by omega)), zn_wr (by omega) (by decide), if_pos (zn_0le (by omega))]
      exact ⟨_, _, _, _, rfl, rfl, Or.inr (zSE_zu hE (by decide) rfl)⟩
