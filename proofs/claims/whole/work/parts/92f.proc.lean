/-! procs stay -/
theorem zPd_ext {G : zTxt} {f f2 : Nat → Nat} {N N2 S S2 Pa Pa2 bb bb2 x : Nat} {o o2 : Nat → Nat × Nat} {t u t2 u2 : zS} (h : zPd G f N S Pa bb o t u x) (hf : ∀ c, c < N → f2 c = f c) (hN : N ≤ N2) (hS : S ≤ S2) (hP : Pa ≤ Pa2) (hb : bb ≤ bb2) (ho : ∀ s, (s < S ∨ (10000 ≤ s ∧ s < 10000 + S)) → o2 s = o s) (ht : ∀ k, k = 35 ∨ k = 37 ∨ k = 39 ∨ k = 41 ∨ k = 43 → t2 k x = t k x) (hu : ∀ k, k = 29 ∨ k = 30 ∨ k = 31 ∨ k = 32 → u2 k x = u k x) (h31 : u2 31 (x + 1) = u 31 (x + 1)) (h45 : ∀ y, y < Pa → t2 45 y = t 45 y) (h34 : ∀ y, y < bb → u2 34 y = u 34 y) (h101 : ∀ s, s < S → t2 101 s = t 101 s) : zPd G f2 N2 S2 Pa2 bb2 o2 t2 u2 x := by
  obtain ⟨n, b, k, a, c1, c2, c3, c4, c5, c6, c7, c8, c9, c10, c11, c12, c13⟩ := h
  unfold zPd
  rw [ht 39 (by decide), hu 31 (by decide), h31, ht 37 (by decide), hu 32 (by decide), ht 35 (by decide), ht 41 (by decide), hu 29 (by decide), ht 43 (by decide), hu 30 (by decide)]
  refine ⟨n, b, k, a, c1, c2, c3, by omega, c5, c6, c7, c8, by omega, fun j hj => ?_, ?_, c12, c13⟩
  · rw [h45 _ (by omega), h34 _ (by omega)]; exact zPm_ext (c10 j hj) hf hN
  · rcases c11 with c | ⟨s, d1, d2, d3, d4, d5⟩
    · exact Or.inl c
    · exact Or.inr ⟨s, by omega, d2, d3, ⟨by rw [ho s (Or.inl d1)]; exact d4.1, by rw [ho (10000 + s) (by omega)]; exact d4.2⟩, by rw [h101 s d1]; exact d5⟩
/-- while a proc's head is read -/
theorem zPs2_gen {G : zTxt} {f f2 : Nat → Nat} {N N2 K K2 Q Pa Pa2 bb S F C R W V : Nat} {o : Nat → Nat × Nat} {w : Nat → Nat} {t u t2 u2 : zS} (h : zPs2 G f N K Q Pa bb S F C R W V o w t u) (hf : ∀ c, c < N → f2 c = f c) (hN : N ≤ N2) (hS : S ≤ 1000) (hP : Pa ≤ Pa2)
    (b1 : t2 4 10 = Int32.ofNat K2) (b2 : u2 0 44 = Int32.ofNat K2) (b3 : t2 4 9 = Int32.ofNat Pa2) (b5 : zBy (zBk G) K2 (t2 33) (u2 28)) (b6 : ∀ v, v < 1600 → t2 49 v = -1 ∨ ∃ x, x < K2 ∧ t2 49 v = Int32.ofNat x)
    (ht : ∀ k x, x < Q → k = 35 ∨ k = 37 ∨ k = 39 ∨ k = 41 ∨ k = 43 → t2 k x = t k x) (hu : ∀ k x, x < Q → k = 29 ∨ k = 30 ∨ k = 32 → u2 k x = u k x) (h31 : ∀ x, x ≤ Q → u2 31 x = u 31 x) (h45 : ∀ y, y < Pa → t2 45 y = t 45 y) (h34 : ∀ y, y < bb → u2 34 y = u 34 y)
    (rS : ∀ k, (51 ≤ k ∧ k ≤ 52) ∨ (75 ≤ k ∧ k ≤ 83) ∨ (87 ≤ k ∧ k ≤ 115) → t2 k = t k) (gS : ∀ k, 14 ≤ k ∧ k ≤ 27 → u2 k = u k) (g0 : ∀ j, j = 26 ∨ j = 36 ∨ j = 39 ∨ j = 42 → u2 0 j = u 0 j) : zPs2 G f2 N2 K2 Q Pa2 bb S F C R W V o w t2 u2 := by
  obtain ⟨a1, a2, a3, a4, a5, a6, a7, a8, a9, a10, a11, a12, a13, a14, a15, a16⟩ := h
  refine ⟨b1, b2, b3, by rw [h31 Q (Nat.le_refl _)]; exact a4, b5, b6, fun x hx => ?_, by rw [rS 51 (by decide)]; exact a8, by rw [g0 42 (by decide)]; exact a9, by rw [rS 52 (by decide)]; exact a10, by rw [g0 26 (by decide)]; exact a11, by rw [rS 51 (by decide)]; exact a12, by rw [g0 39 (by decide)]; exact a13, by rw [rS 52 (by decide)]; exact a14, by rw [g0 36 (by decide)]; exact a15, fun s hs => ?_⟩
  · exact zPd_ext (a7 x hx) hf hN (Nat.le_refl _) hP (Nat.le_refl _) (fun _ _ => rfl) (fun k hk => ht k x hx hk) (fun k hk => by
      by_cases e : k = 31
      · subst e; exact h31 x (by omega)
      · exact hu k x hx (by omega)) (h31 (x + 1) (by omega)) h45 h34 (fun s _ => by rw [rS 101 (by decide)])
  · obtain ⟨c1, c2, c3, c4⟩ := a16 s hs
    refine ⟨zStm_ext c1 hs (Nat.le_refl _) (Nat.le_refl _) (Nat.le_refl _) (Nat.le_refl _) (Nat.le_refl _) (Nat.le_refl _) (fun _ _ => rfl) (fun k hk => by rw [rS k (by omega)]) (fun k hk => by rw [gS k (by omega)]) (fun x _ => by rw [rS 101 (by decide)]) (fun x _ => ⟨by rw [rS 75 (by decide)], by rw [rS 77 (by decide)]⟩) (fun c _ => by rw [gS 27 (by decide)]) (fun x _ => ⟨by rw [rS 79 (by decide)], by rw [rS 81 (by decide)], by rw [rS 83 (by decide)]⟩) (fun x _ => ⟨by rw [gS 25 (by decide)], by rw [gS 26 (by decide)]⟩) (fun x _ hw => ⟨hw, by rw [rS 109 (by decide)], by rw [rS 111 (by decide)], by rw [rS 115 (by decide)]⟩) (fun x _ => ⟨by rw [gS 23 (by decide)], by rw [gS 24 (by decide)]⟩) (fun m hm hm2 => ⟨m, by rw [ht 39 _ c4 (by decide)]; exact hm, Nat.le_refl _, hm2⟩), zLn_ext c2 c3 hs (Nat.le_refl _) hS (fun _ _ => rfl) (by rw [rS 99 (by decide)]) (by rw [gS 21 (by decide)]) (by rw [gS 22 (by decide)]) (fun x _ => by rw [rS 101 (by decide)]) (fun x _ => by rw [rS 87 (by decide)]), zPa_ext c3 hs (fun _ _ => rfl) (by rw [rS 101 (by decide)]) (fun x _ => by rw [rS 87 (by decide)]) (by rw [rS 107 (by decide)]), c4⟩
/-! a proc's head -/
def zHN (i e N M P A bb Pa j S F C R W V q : Nat) (t : zS) : Prop := N ≤ i ∧ M ≤ i ∧ P ≤ A ∧ zW (t 9) (t 13) N ≤ i ∧ 3 * S ≤ i ∧ F ≤ i ∧ C ≤ 2 * i ∧ 2 * R ≤ i ∧ 2 * W ≤ i ∧ 2 * A + 2 * V ≤ i ∧ 2 * q ≤ i + e ∧ bb + j ≤ i ∧ 2 * (Pa + j) ≤ i + e
def zPh (G : zTxt) (i d : Nat) (f : Nat → Nat) (N M P A T Q Pa j n y bb S F C R W V q : Nat) (o : Nat → Nat × Nat) (w : Nat → Nat) (t u : zS) : Prop :=
  zTB G S 0 i d f [] N M P A q t u ∧ zDs2 G f N T t u ∧ zPs2 G f N (Q + 1) Q (Pa + j) bb S F C R W V o w t u ∧ zSl G y Q bb n t u ∧ t 37 Q = Int32.ofNat j ∧ t 35 Q = Int32.ofNat Pa ∧ ∀ l, l < j → zPm f N (t 45 (Pa + l)) (u 34 (bb + l))
/-- a step in the head -/
theorem zPh_T {G : zTxt} {i i2 d d2 : Nat} {f f2 : Nat → Nat} {N M P A T Q Pa j n y y2 bb S F C R W V q N2 M2 P2 A2 q2 : Nat} {o : Nat → Nat × Nat} {w : Nat → Nat} {t u t2 u2 : zS} (h : zPh G i d f N M P A T Q Pa j n y bb S F C R W V q o w t u) (hB : zTB G S 0 i2 d2 f2 [] N2 M2 P2 A2 q2 t2 u2) (hi : y ≤ y2) (ht : zFP zpTC t t2) (hu : zFP zpTM u u2) (hf : ∀ c, c < N → f2 c = f c) (hN : N ≤ N2) (hS : S ≤ 1000) : zPh G i2 d2 f2 N2 M2 P2 A2 T Q Pa j n y2 bb S F C R W V q2 o w t2 u2 := by
  obtain ⟨h1, h2, h3, h4, h5, h6, h7⟩ := h
  refine ⟨hB, zDs2_T h2 ht hu hf hN, zPs2_D h3 (zFP_DC ht) (zFP_DM hu) hf hN hS, zSl_of h4 hi (ht 4 10 rfl) (hu 0 60 rfl) (zFP_row 39 ht (fun _ => rfl)) (zFP_row 47 ht (fun _ => rfl)) (zFP_row 49 ht (fun _ => rfl)) (zFP_row 31 hu (fun _ => rfl)) (zFP_row 33 hu (fun _ => rfl)), by rw [ht 37 Q rfl]; exact h5, by rw [ht 35 Q rfl]; exact h6, fun l hl => ?_⟩
  rw [ht 45 _ rfl, hu 34 _ rfl]
  exact zPm_ext (h7 l hl) hf hN
theorem pl_slotNew {t : zS} {Q n v : Nat} (h4 : t 4 10 = Int32.ofNat (Q + 1)) (hv : v < 1600) (hQ : Q < 300) (h39 : t 39 Q = Int32.ofNat n) (hno : ¬ t 49 v = Int32.ofNat Q) : ∃ t2, mX6_slotFor (Int32.ofNat v) t = some (Int32.ofNat n, t2) := by
  unfold mX6_slotFor bX6_slotFor_62
  rw [h4, zn_m, pl_let, zn_get hv (by decide), pl_bd, if_neg hno]
  simp (disch := first | omega | decide | assumption) only [zu_same, zu_ne1, zu_ne2, zu_row, pl_bd, pl_pt, pl_let, zn_set, zn_get, zn_rd, zn_wr, zn_1, zn_m, Nat.reduceAdd, h39]
  exact ⟨_, rfl⟩
