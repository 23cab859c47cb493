/-! both readers inside TYPES -/
def zTB (G : zTxt) (S H i d : Nat) (f : Nat → Nat) (X : List Nat) (N M P A q : Nat) (t u : zS) : Prop :=
  zAt G i t u ∧ t 5 13 = Int32.ofNat d ∧ u 0 10 = Int32.ofNat d ∧ zTD (zBk G) (zNm (zBk G)) f X N M P A t u ∧ zAK (zBk G) f N M S q t u ∧ u 0 59 = Int32.ofNat (2 * H)
def zTS (G : zTxt) (z y p S H i d : Nat) (f : Nat → Nat) (X : List Nat) (N M P A q : Nat) (t u : zS) : Prop :=
  zTB G S H i d f X N M P A q t u ∧ N ≤ i ∧ M ≤ i ∧ P + p ≤ A + H ∧ 2 * A + 2 * H + z ≤ i + 1 ∧ zW (t 9) (t 13) N + y ≤ i
def zTX (f f2 : Nat → Nat) (N M P A H N2 M2 P2 A2 : Nat) (t u t2 u2 : zS) : Prop := N ≤ N2 ∧ M ≤ M2 ∧ P ≤ P2 ∧ A ≤ A2 ∧ (∀ c, c < N → f2 c = f c ∧ t2 9 c = t 9 c ∧ t2 11 c = t 11 c ∧ t2 13 c = t 13 c) ∧ (∀ c, N ≤ c → c < N2 → M ≤ f2 c) ∧ (∀ k, k < P → t2 15 k = t 15 k ∧ t2 17 k = t 17 k ∧ t2 19 k = t 19 k ∧ f2 (10000 + k) = f (10000 + k)) ∧ (∀ m, m < M → u2 5 m = u 5 m ∧ u2 6 m = u 6 m ∧ u2 7 m = u 7 m ∧ u2 8 m = u 8 m) ∧ (∀ a, a < A → u2 9 a = u 9 a ∧ u2 10 a = u 10 a) ∧ (∀ k, k < 2 * H → u2 39 k = u 39 k) ∧ zFP zpTC t t2 ∧ zFP zpTM u u2
theorem zTX_refl {f : Nat → Nat} {N M P A H : Nat} {t u : zS} : zTX f f N M P A H N M P A t u t u :=
  ⟨Nat.le_refl _, Nat.le_refl _, Nat.le_refl _, Nat.le_refl _, fun _ _ => ⟨rfl, rfl, rfl, rfl⟩, fun c h1 h2 => by omega, fun _ _ => ⟨rfl, rfl, rfl, rfl⟩, fun _ _ => ⟨rfl, rfl, rfl, rfl⟩, fun _ _ => ⟨rfl, rfl⟩, fun _ _ => rfl, zFP_refl _ _, zFP_refl _ _⟩
theorem zTX_trans {f f2 f3 : Nat → Nat} {N M P A H N2 M2 P2 A2 H2 N3 M3 P3 A3 : Nat} {t u t2 u2 t3 u3 : zS} (h : zTX f f2 N M P A H N2 M2 P2 A2 t u t2 u2) (k : zTX f2 f3 N2 M2 P2 A2 H2 N3 M3 P3 A3 t2 u2 t3 u3) (hH : H ≤ H2) : zTX f f3 N M P A H N3 M3 P3 A3 t u t3 u3 := by
  obtain ⟨a1, a2, a3, a4, a5, a6, a7, a8, a9, a10, a11, a12⟩ := h
  obtain ⟨b1, b2, b3, b4, b5, b6, b7, b8, b9, b10, b11, b12⟩ := k
  refine ⟨by omega, by omega, by omega, by omega, fun c hc => ?_, fun c h1 h2 => ?_, fun k hk => ?_, fun m hm => ?_, fun a ha => ?_, fun k hk => ?_, zFP_trans a11 b11, zFP_trans a12 b12⟩
  · obtain ⟨p1, p2, p3, p4⟩ := a5 c hc
    obtain ⟨q1, q2, q3, q4⟩ := b5 c (by omega)
    exact ⟨q1.trans p1, q2.trans p2, q3.trans p3, q4.trans p4⟩
  · rcases Nat.lt_or_ge c N2 with q | q
    · rw [(b5 c q).1]; exact a6 c h1 q
    · have := b6 c q h2; omega
  · obtain ⟨p1, p2, p3, p4⟩ := a7 k hk
    obtain ⟨q1, q2, q3, q4⟩ := b7 k (by omega)
    exact ⟨q1.trans p1, q2.trans p2, q3.trans p3, q4.trans p4⟩
  · obtain ⟨p1, p2, p3, p4⟩ := a8 m hm
    obtain ⟨q1, q2, q3, q4⟩ := b8 m (by omega)
    exact ⟨q1.trans p1, q2.trans p2, q3.trans p3, q4.trans p4⟩
  · obtain ⟨p1, p2⟩ := a9 a ha
    obtain ⟨q1, q2⟩ := b9 a (by omega)
    exact ⟨q1.trans p1, q2.trans p2⟩
  · rw [b10 k (by omega)]; exact a10 k hk
/-- only the readers' own fields have moved -/
theorem zTX_fr {f : Nat → Nat} {N M P A H : Nat} {t u t2 u2 : zS} (hs : zSf t t2) (hm : zMf u u2) : zTX f f N M P A H N M P A t u t2 u2 := by
  have e : ∀ k, k ≠ 5 → t2 k = t k := hs.1
  have g : ∀ k, k ≠ 0 → k ≠ 3 → k ≠ 4 → u2 k = u k := hm.1
  refine ⟨Nat.le_refl _, Nat.le_refl _, Nat.le_refl _, Nat.le_refl _, fun _ _ => ⟨rfl, ?_, ?_, ?_⟩, fun c h1 h2 => by omega, fun _ _ => ⟨?_, ?_, ?_, rfl⟩, fun _ _ => ⟨?_, ?_, ?_, ?_⟩, fun _ _ => ⟨?_, ?_⟩, fun _ _ => ?_, zFP_S hs, zFP_N hm⟩
  · rw [e 9 (by decide)]
  · rw [e 11 (by decide)]
  · rw [e 13 (by decide)]
  · rw [e 15 (by decide)]
  · rw [e 17 (by decide)]
  · rw [e 19 (by decide)]
  · rw [g 5 (by decide) (by decide) (by decide)]
  · rw [g 6 (by decide) (by decide) (by decide)]
  · rw [g 7 (by decide) (by decide) (by decide)]
  · rw [g 8 (by decide) (by decide) (by decide)]
  · rw [g 9 (by decide) (by decide) (by decide)]
  · rw [g 10 (by decide) (by decide) (by decide)]
  · rw [g 39 (by decide) (by decide) (by decide)]
theorem zTB_fr {G : zTxt} {S H i d i2 d2 : Nat} {f : Nat → Nat} {X : List Nat} {N M P A q : Nat} {t u t2 u2 : zS} (h : zTB G S H i d f X N M P A q t u) (ha : zAt G i2 t2 u2) (h13 : t2 5 13 = Int32.ofNat d2) (h10 : u2 0 10 = Int32.ofNat d2) (hs : zSf t t2) (hm : zMf u u2) : zTB G S H i2 d2 f X N M P A q t2 u2 ∧ t2 9 = t 9 ∧ t2 13 = t 13 := by
  obtain ⟨a1, a2, a3, a4, a5, a6⟩ := h
  have e : ∀ k, k ≠ 5 → t2 k = t k := hs.1
  have g : ∀ k, k ≠ 0 → k ≠ 3 → k ≠ 4 → u2 k = u k := hm.1
  have g0 : ∀ j, j ≤ 3 ∨ 12 ≤ j → u2 0 j = u 0 j := hm.2
  refine ⟨⟨ha, h13, h10, zTD_of a4 (by rw [e 3 (by decide)]) (by rw [e 3 (by decide)]) (g0 14 (by decide)) (g0 19 (by decide)) (e 9 (by decide)) (e 11 (by decide)) (e 13 (by decide)) (e 15 (by decide)) (e 17 (by decide)) (e 19 (by decide)) (g 5 (by decide) (by decide) (by decide)) (g 6 (by decide) (by decide) (by decide)) (g 7 (by decide) (by decide) (by decide)) (g 8 (by decide) (by decide) (by decide)) (g 9 (by decide) (by decide) (by decide)) (g 10 (by decide) (by decide) (by decide)),
    zAK_of a5 hs.2 (g0 52 (by decide)) (e 9 (by decide)) (e 54 (by decide)) (e 56 (by decide)) (e 93 (by decide)) (e 87 (by decide)) (g 5 (by decide) (by decide) (by decide)) (g 6 (by decide) (by decide) (by decide)) (g 35 (by decide) (by decide) (by decide)) (g 36 (by decide) (by decide) (by decide)) (g 37 (by decide) (by decide) (by decide)) (g 38 (by decide) (by decide) (by decide)), ?_⟩, e 9 (by decide), e 13 (by decide)⟩
  rw [g0 59 (by decide)]; exact a6
theorem zTS_fr {G : zTxt} {z y p S H i d i2 d2 : Nat} {f : Nat → Nat} {X : List Nat} {N M P A q : Nat} {t u t2 u2 : zS} (h : zTS G z y p S H i d f X N M P A q t u) (ha : zAt G i2 t2 u2) (hi : i ≤ i2) (h13 : t2 5 13 = Int32.ofNat d2) (h10 : u2 0 10 = Int32.ofNat d2) (hs : zSf t t2) (hm : zMf u u2) : zTS G z y p S H i2 d2 f X N M P A q t2 u2 := by
  obtain ⟨b, b2, b3, b4, b5, b6⟩ := h
  obtain ⟨c1, c2, c3⟩ := zTB_fr b ha h13 h10 hs hm
  exact ⟨c1, by omega, by omega, by omega, by omega, by rw [c2, c3]; omega⟩
theorem zTB_step {G : zTxt} {S H i d : Nat} {f : Nat → Nat} {X : List Nat} {N M P A q : Nat} {t u : zS} (h : zTB G S H i d f X N M P A q t u) (hi : ¬ t 5 9 = 19) : ∃ t2 u2, mX7_step t = some (0, t2) ∧ mX12_next u = some (0, u2) ∧ zTB G S H (i + 1) d f X N M P A q t2 u2 ∧ zTX f f N M P A H N M P A t u t2 u2 ∧ t2 9 = t 9 ∧ t2 13 = t 13 ∧ zSf t t2 ∧ zMf u u2 := by
  obtain ⟨t2, u2, r1, r2, r3, r4, r5⟩ := zAt_step h.1 hi
  obtain ⟨c1, c2, c3⟩ := zTB_fr (d2 := d) h r3 (by rw [r4.2 13 (by decide) (by decide) (by decide) (by decide)]; exact h.2.1) (by rw [r5.2 10 (by decide) (by decide) (by decide) (by decide) (by decide) (by decide)]; exact h.2.2.1) (zSf_of r4) (zMf_of r5)
  exact ⟨t2, u2, r1, r2, c1, zTX_fr (zSf_of r4) (zMf_of r5), c2, c3, zSf_of r4, zMf_of r5⟩
theorem zTS_step {G : zTxt} {z y p S H i d : Nat} {f : Nat → Nat} {X : List Nat} {N M P A q : Nat} {t u : zS} (h : zTS G z y p S H i d f X N M P A q t u) (hi : ¬ t 5 9 = 19) : ∃ t2 u2, mX7_step t = some (0, t2) ∧ mX12_next u = some (0, u2) ∧ zTS G z y p S H (i + 1) d f X N M P A q t2 u2 ∧ zTX f f N M P A H N M P A t u t2 u2 := by
  obtain ⟨b, b2, b3, b4, b5, b6⟩ := h
  obtain ⟨t2, u2, r1, r2, r3, r4, r5, r6, _⟩ := zTB_step b hi
  exact ⟨t2, u2, r1, r2, ⟨r3, by omega, by omega, by omega, by omega, by rw [r5, r6]; omega⟩, r4⟩
/-- something went wrong inside a TYPE -/
def zXE (z H : Nat) (t u t2 u2 : zS) : Prop := zEr t2 u2 ∧ (∃ A H2, u2 0 19 = Int32.ofNat A ∧ u2 0 59 = Int32.ofNat (2 * H2) ∧ H ≤ H2 ∧ 2 * A + 2 * H2 + z ≤ 3002) ∧ zFP zpTC t t2 ∧ zFP zpTM u u2
theorem zXE_fr {G : zTxt} {z y p S H i d : Nat} {f : Nat → Nat} {X : List Nat} {N M P A q : Nat} {t u t2 u2 : zS} (h : zTS G z y p S H i d f X N M P A q t u) (he : zEr t2 u2) (hs : zSf t t2) (hm : zMf u u2) : zXE z H t u t2 u2 := by
  have hl := zAt_lt h.1.1
  obtain ⟨⟨a1, a2, a3, a4, a5, a6⟩, a7, a8, a9, a10, a11⟩ := h
  refine ⟨he, ⟨A, H, ?_, ?_, Nat.le_refl _, by omega⟩, zFP_S hs, zFP_N hm⟩
  · rw [hm.2 19 (by decide)]; exact a4.2.2.2.1
  · rw [hm.2 59 (by decide)]; exact a6
theorem zXE_pre {z H : Nat} {t u t1 u1 t2 u2 : zS} (h : zXE z H t1 u1 t2 u2) (h1 : zFP zpTC t t1) (h2 : zFP zpTM u u1) : zXE z H t u t2 u2 :=
  ⟨h.1, h.2.1, zFP_trans h1 h.2.2.1, zFP_trans h2 h.2.2.2⟩
theorem zTX_C {f f2 : Nat → Nat} {N M P A H N2 M2 P2 A2 : Nat} {t u t2 u2 : zS} (h : zTX f f2 N M P A H N2 M2 P2 A2 t u t2 u2) : zFP zpTC t t2 := h.2.2.2.2.2.2.2.2.2.2.1
theorem zTX_M {f f2 : Nat → Nat} {N M P A H N2 M2 P2 A2 : Nat} {t u t2 u2 : zS} (h : zTX f f2 N M P A H N2 M2 P2 A2 t u t2 u2) : zFP zpTM u u2 := h.2.2.2.2.2.2.2.2.2.2.2
/-- refused on both sides -/
theorem zTS_no {G : zTxt} {z y p S H i d : Nat} {f : Nat → Nat} {X : List Nat} {N M P A q : Nat} {t u : zS} (h : zTS G z y p S H i d f X N M P A q t u) : ∃ t2 u2, mX7_refuse t = some (0, t2) ∧ mX12_fails (u 0 6) u = some (-1, u2) ∧ zXE z H t u t2 u2 := by
  obtain ⟨t2, u2, r1, r2, r3, r4, r5, _⟩ := zAt_no h.1.1
  exact ⟨t2, u2, r1, r2, zXE_fr h r3 r4 r5⟩
theorem zTS_enter {G : zTxt} {z y p S H i d : Nat} {f : Nat → Nat} {X : List Nat} {N M P A q : Nat} {t u : zS} {c : Int32} (h : zTS G z y p S H i d f X N M P A q t u) (hd : d ≤ 40) (hc : c ∈ zSgs) : ∃ t2 r u2, mX7_enter c t = some (r, t2) ∧ mX12_opens (if t 5 9 = c then 1 else 0) u = some (r, u2) ∧ ((r = 1 ∧ d < 40 ∧ zTS G z y p S H (i + 1) (d + 1) f X N M P A q t2 u2 ∧ zTX f f N M P A H N M P A t u t2 u2) ∨ (r = 0 ∧ zXE z H t u t2 u2)) := by
  obtain ⟨t2, r, u2, r1, r2, r3, r4, r5⟩ := zAt_enter h.1.1 hc hd h.1.2.1 h.1.2.2.1
  refine ⟨t2, r, u2, r1, r2, ?_⟩
  rcases r5 with ⟨_, b2, b3, b4, b5, b6⟩ | ⟨b1, b2⟩
  · exact Or.inl ⟨b2, b3, zTS_fr h b4 (by omega) b5 b6 r3 r4, zTX_fr r3 r4⟩
  · exact Or.inr ⟨b1, zXE_fr h b2 r3 r4⟩
theorem zTS_leave {G : zTxt} {z y p S H i d : Nat} {f : Nat → Nat} {X : List Nat} {N M P A q : Nat} {t u : zS} {c : Int32} (h : zTS G z y p S H i (d + 1) f X N M P A q t u) (hd : d ≤ 40) (hc : c ∈ zSgs) : ∃ t2 u2, mX7_leave c t = some (0, t2) ∧ mX12_closes c u = some (0, u2) ∧ ((zTS G z y p S H (i + 1) d f X N M P A q t2 u2 ∧ zTX f f N M P A H N M P A t u t2 u2) ∨ zXE z H t u t2 u2) := by
  obtain ⟨t2, u2, r1, r2, r3, r4, r5⟩ := zAt_leave h.1.1 hc hd h.1.2.1 h.1.2.2.1
  refine ⟨t2, u2, r1, r2, ?_⟩
  rcases r5 with ⟨_, b4, b5, b6, _⟩ | ⟨_, b2⟩
  · exact Or.inl ⟨zTS_fr h b4 (by omega) b5 b6 r3 r4, zTX_fr r3 r4⟩
  · exact Or.inr (zXE_fr h b2 r3 r4)
