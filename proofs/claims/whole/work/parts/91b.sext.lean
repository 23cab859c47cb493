/-! STATEMENTS stay when more come -/
def zGr (t t2 : zS) (q : Nat) : Prop := ∀ m, t 39 q = Int32.ofNat m → m ≤ 3000 → ∃ m2, t2 39 q = Int32.ofNat m2 ∧ m ≤ m2 ∧ m2 ≤ 3000
theorem zSo_ext {t t2 : zS} {q : Nat} {x y : Int32} (h : zSo t q x y) (hg : zGr t t2 q) : zSo t2 q x y := by
  obtain ⟨k, n, a1, a2, a3, a4, a5⟩ := h
  obtain ⟨m2, b1, b2, b3⟩ := hg n a3 a5
  exact ⟨k, m2, a1, a2, b1, by omega, b3⟩
theorem zFm_ext {t u t2 u2 : zS} {q F C F2 C2 : Nat} {x y z : Int32} (h : zFm t u q F C x y z) (hg : zGr t t2 q) (hF : F ≤ F2) (hC : C ≤ C2) (h75 : ∀ k, k < F → t2 75 k = t 75 k ∧ t2 77 k = t 77 k) (h27 : ∀ c, c < C → u2 27 c = u 27 c) : zFm t2 u2 q F2 C2 x y z := by
  obtain ⟨a, l, c, c2, n, a1, a2, a3, a4, a5, a6, a7, a8, a9, a10⟩ := h
  obtain ⟨m2, b1, b2, b3⟩ := hg n a7 a8
  refine ⟨a, l, c, c2, m2, a1, a2, a3, a4, by omega, by omega, b1, b3, zSg_of b2 (Nat.le_refl _) l a9 (fun j j1 j2 => h75 j (by omega)) (fun j j1 j2 => h27 j (by omega)), by rw [h27 c2 a6]; exact a10⟩
theorem zBl_ext {t t2 : zS} {o o2 : Nat → Nat × Nat} {s S S2 : Nat} {beh x y : Int32} (h : zBl t o s S beh x y) (hs : s < S) (ho : ∀ s, (s < S ∨ (10000 ≤ s ∧ s < 10000 + S)) → o2 s = o s) (hS : S ≤ S2) (h101 : ∀ r, r < S → t2 101 r = t 101 r) : zBl t2 o2 s S2 beh x y := by
  rcases h with h | ⟨r, a1, a2, a3, a4, a5, a6⟩
  · exact Or.inl h
  · exact Or.inr ⟨r, a1, a2, a3, by omega, by rw [ho r (Or.inl a4), ho s (Or.inl hs), ho (10000 + r) (by omega)]; exact a5, by rw [h101 r a4]; exact a6⟩
theorem zStm_ext {G : zTxt} {o o2 : Nat → Nat × Nat} {w w2 : Nat → Nat} {S F C R W V S2 F2 C2 R2 W2 V2 s : Nat} {t u t2 u2 : zS} (h : zStm G o w S F C R W V t u s) (hs : s < S) (hS : S ≤ S2) (hF : F ≤ F2) (hC : C ≤ C2) (hR : R ≤ R2) (hW : W ≤ W2) (hV : V ≤ V2) (ho : ∀ s, (s < S ∨ (10000 ≤ s ∧ s < 10000 + S)) → o2 s = o s)
    (ht : ∀ k, k = 87 ∨ k = 89 ∨ k = 91 ∨ k = 93 ∨ k = 95 ∨ k = 97 ∨ k = 105 → t2 k s = t k s) (hu : ∀ k, 14 ≤ k ∧ k ≤ 20 → u2 k s = u k s) (h101 : ∀ r, r < S → t2 101 r = t 101 r) (h75 : ∀ k, k < F → t2 75 k = t 75 k ∧ t2 77 k = t 77 k) (h27 : ∀ c, c < C → u2 27 c = u 27 c) (h79 : ∀ k, k < R → t2 79 k = t 79 k ∧ t2 81 k = t 81 k ∧ t2 83 k = t 83 k) (h25 : ∀ k, k < R → u2 25 k = u 25 k ∧ u2 26 k = u 26 k)
    (hw : ∀ k, k < W → w k = s → w2 k = s ∧ t2 109 k = t 109 k ∧ t2 111 k = t 111 k ∧ t2 115 k = t 115 k) (h23 : ∀ k, k < V → u2 23 k = u 23 k ∧ u2 24 k = u 24 k) (hg : zGr t t2 (o s).2) : zStm G o2 w2 S2 F2 C2 R2 W2 V2 t2 u2 s := by
  have e87 := ht 87 (by omega)
  have e89 := ht 89 (by omega)
  have e91 := ht 91 (by omega)
  have e93 := ht 93 (by omega)
  have e95 := ht 95 (by omega)
  have e97 := ht 97 (by omega)
  have e105 := ht 105 (by omega)
  have g14 := hu 14 (by omega)
  have g15 := hu 15 (by omega)
  have g16 := hu 16 (by omega)
  have g17 := hu 17 (by omega)
  have g18 := hu 18 (by omega)
  have g19 := hu 19 (by omega)
  have g20 := hu 20 (by omega)
  have eo := ho s (Or.inl hs)
  have hno : zNo t u s → zNo t2 u2 s := fun h => by unfold zNo at *; rw [e95, e97, g18]; exact h
  have hdp : zDp G o s → zDp G o2 s := fun h => by unfold zDp at *; rw [eo]; exact h
  have hso : ∀ x y, zSo t (o s).2 x y → zSo t2 (o s).2 x y := fun x y h => zSo_ext h hg
  have hfm : ∀ x y z, zFm t u (o s).2 F C x y z → zFm t2 u2 (o s).2 F2 C2 x y z := fun x y z h => zFm_ext h hg hF hC h75 h27
  unfold zStm at *
  rw [e87, e89, e91, e93, e95, e97, g14, g15, g16, g17, g18, eo]
  obtain ⟨h0, h⟩ := h
  refine ⟨h0, ?_⟩
  rcases h with ⟨a1, a2, a3, a4⟩ | ⟨a1, a2, a3, a4, a5, a6⟩ | ⟨a1, a2, a3, a4⟩ | ⟨a1, a2, a3, a4, a5⟩ | ⟨a1, a2, a3, a4, a5⟩ | ⟨a1, a2, a3, a4, a5, a6⟩ | ⟨a1, a2, a3⟩ | ⟨a1, a2, a3, a4, a5, a6, a7⟩ | ⟨a1, a2, a3, a4, a5, a6, a7⟩
  · exact Or.inl ⟨a1, hso _ _ a2, a3, hfm _ _ _ a4⟩
  · exact Or.inr (Or.inl ⟨a1, a2, a3, a4, a5, hfm _ _ _ a6⟩)
  · exact Or.inr (Or.inr (Or.inl ⟨a1, hso _ _ a2, hso _ _ a3, hno a4⟩))
  · exact Or.inr (Or.inr (Or.inr (Or.inl ⟨a1, a2, hso _ _ a3, a4, hno a5⟩)))
  · exact Or.inr (Or.inr (Or.inr (Or.inr (Or.inl ⟨a1, a2, hso _ _ a3, a4, hno a5⟩))))
  · refine Or.inr (Or.inr (Or.inr (Or.inr (Or.inr (Or.inl ⟨a1, a2, hso _ _ a3, hno a4, ?_, hdp a6⟩)))))
    obtain ⟨n, a, e, b1, b2, b3, b4, b5, b6, b7, b8⟩ := a5
    have hk : ∀ j, j < n → _ := fun j hj => hw (e j) (b2.2 j hj).1 (b6 j hj).2.2
    refine ⟨n, a, e, b1, by rw [e105]; exact zLk_ext b2 (fun j hj => (hk j hj).2.2.2) hW, by rw [g19]; exact b3, by rw [g20]; exact b4, by omega, fun j hj => ?_, zDs_ext b7 (fun j hj => (hk j hj).2.1), fun j l h1 h2 => by rw [(hk j (by omega)).2.2.1, (hk l h2).2.2.1]; exact b8 j l h1 h2⟩
    obtain ⟨c1, c2, c3⟩ := b6 j hj
    rw [(hk j hj).2.1, (hk j hj).2.2.1, (h23 (a + j) (by omega)).1, (h23 (a + j) (by omega)).2]
    exact ⟨c1, zBl_ext c2 hs ho hS h101, (hk j hj).1⟩
  · refine Or.inr (Or.inr (Or.inr (Or.inr (Or.inr (Or.inr (Or.inl ⟨?_, a2, ?_⟩))))))
    · rcases a1 with a1 | ⟨c1, c2, c3⟩ | a1
      · exact Or.inl a1
      · exact Or.inr (Or.inl ⟨c1, c2, hso _ _ c3⟩)
      · exact Or.inr (Or.inr a1)
    · obtain ⟨v, a, m, b1, b2, b3, b4, b5, b6, b7, b8⟩ := a3
      refine ⟨v, a, m, by rw [e93]; exact b1, b2, by rw [e95]; exact b3, by rw [e97]; exact b4, by rw [g19]; exact b5, by rw [g20]; exact b6, by omega, fun k k1 k2 => ?_⟩
      obtain ⟨c1, c2⟩ := b8 k k1 k2
      have hk := h79 k (by omega)
      have hk2 := h25 k (by omega)
      unfold zArg
      rw [hk.1, hk.2.1, hk.2.2, hk2.1, hk2.2]
      refine ⟨hfm _ _ _ c1, ?_⟩
      rcases c2 with c2 | c2
      · exact Or.inl c2
      · exact Or.inr (hso _ _ c2)
  · refine Or.inr (Or.inr (Or.inr (Or.inr (Or.inr (Or.inr (Or.inr (Or.inl ⟨a1, a2, a3, a4, hfm _ _ _ a5, ?_, hdp a7⟩)))))))
    obtain ⟨e0, e1, b1, b2, b3, b4, b5, b6, b7, b8, b9, b10⟩ := a6
    have k0 := hw e0 b1 b8
    have k1 := hw e1 b2 b9
    refine ⟨e0, e1, by omega, by omega, by rw [e105]; exact b3, by rw [k0.2.2.2]; exact b4, by rw [k1.2.2.2]; exact b5, by rw [k0.2.2.1, g19]; exact zBl_ext b6 hs ho hS h101, by rw [k1.2.2.1, g20]; exact zBl_ext b7 hs ho hS h101, k0.1, k1.1, by rw [k0.2.2.1, k1.2.2.1]; exact b10⟩
  · refine Or.inr (Or.inr (Or.inr (Or.inr (Or.inr (Or.inr (Or.inr (Or.inr ⟨a1, a2, a3, a4, hfm _ _ _ a5, ?_, hdp a7⟩)))))))
    obtain ⟨e0, b1, b2, b3, b4, b5⟩ := a6
    have k0 := hw e0 b1 b5
    exact ⟨e0, by omega, by rw [e105]; exact b2, by rw [k0.2.2.2]; exact b3, by rw [k0.2.2.1, g19]; exact zBl_ext b4 hs ho hS h101, k0.1⟩
theorem zPa_ext {o o2 : Nat → Nat × Nat} {t t2 : zS} {s S : Nat} (h : zPa o t s) (hs : s < S) (ho : ∀ s, (s < S ∨ (10000 ≤ s ∧ s < 10000 + S)) → o2 s = o s) (h101 : t2 101 s = t 101 s) (h87 : ∀ r, r < S → t2 87 r = t 87 r) (h107 : t2 107 s = t 107 s) : zPa o2 t2 s := by
  obtain ⟨h0, h⟩ := h
  refine ⟨⟨by rw [ho s (Or.inl hs)]; exact h0.1, by unfold zP0 at *; rw [h87 s hs, h107]; exact h0.2⟩, ?_⟩
  rw [h101]
  rcases h with ⟨a, b⟩ | ⟨r, a1, a2, a3, a4⟩
  · exact Or.inl ⟨a, by rw [ho s (Or.inl hs)]; exact b⟩
  · exact Or.inr ⟨r, a1, a2, by rw [ho s (Or.inl hs), ho r (by omega)]; exact a3, by rw [h87 r (by omega)]; exact a4⟩
theorem zBeh_ext {o : Nat → Nat × Nat} {t t2 : zS} {s S : Nat} (hp : zPa o t s) (hs : s < S) (hS : S ≤ 1000) (h87 : ∀ r, r < S → t2 87 r = t 87 r) : zBeh t2 (t 101 s) = zBeh t (t 101 s) := by
  unfold zBeh
  rcases hp.2 with ⟨a, b⟩ | ⟨r, a1, a2, a3, a4⟩
  · rw [if_pos a, if_pos a]
  · have e : (Int32.ofNat r).toNatClampNeg = r := pl_clamp (pl_ofn (by omega))
    rw [a1, e, h87 r (by omega)]
theorem zLn_ext {o o2 : Nat → Nat × Nat} {S S2 s : Nat} {t u t2 u2 : zS} (h : zLn o S t u s) (hp : zPa o t s) (hs : s < S) (hS : S ≤ S2) (hS1 : S ≤ 1000) (ho : ∀ s, (s < S ∨ (10000 ≤ s ∧ s < 10000 + S)) → o2 s = o s) (h99 : t2 99 s = t 99 s) (g21 : u2 21 s = u 21 s) (g22 : u2 22 s = u 22 s) (h101 : ∀ r, r < S → t2 101 r = t 101 r) (h87 : ∀ r, r < S → t2 87 r = t 87 r) : zLn o2 S2 t2 u2 s := by
  unfold zLn at *
  rw [h99, g21, g22, h101 s hs]
  rcases h with ⟨a1, a2, a3⟩ | ⟨r, a1, a2, a3, a4, a5, a6, a7⟩
  · exact Or.inl ⟨a1, a2, by rw [zBeh_ext hp hs hS1 h87]; exact a3⟩
  · exact Or.inr ⟨r, a1, a2, a3, a4, by omega, by rw [ho r (Or.inl a5), ho s (Or.inl hs), ho (10000 + r) (by omega), ho (10000 + s) (by omega)]; exact a6, by rw [h101 r a5]; exact a7⟩
