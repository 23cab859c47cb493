/-! what holds when all mentions are looked up -/
/-- a NAME on the class's side, its number on the reference's -/
def zRn (T : Nat) (byN : Nat → Int32) (x y : Int32) : Prop := ∃ v k, v < 1600 ∧ x = Int32.ofNat v ∧ byN v = Int32.ofNat k ∧ y = Int32.ofNat k ∧ k < T
theorem zBy_ge {B : List Nat} {T v : Nat} {byN ids : Nat → Int32} (h : zBy B T byN ids) (hv : v < 1600) (h0 : 0 ≤ byN v) : ∃ k, k < T ∧ byN v = Int32.ofNat k := by
  rcases h.1 v hv with e | ⟨k, k1, k2, _⟩
  · rw [e] at h0; exact absurd h0 zn_m1
  · exact ⟨k, k1, k2⟩
theorem zTD_look {G : zTxt} {i : Nat} {f : Nat → Nat} {N M P A S q T : Nat} {ids : Nat → Int32} {t u0 u : zS} (ha : zAt G i t u0) (h : zTD (zBk G) (zNm (zBk G)) f [] N M P A t u0) (hk : zAK (zBk G) f N M S q t u0) (hL : zLo (zBk G) t u0 q u) (hT : zBy (zBk G) T (t 25) ids) (hM : M ≤ 3100) : zTD (zBk G) (zRn T (t 25)) f [] N M P A t u := by
  have fr := zLo_fr hL
  have hB := zBk_len ha
  obtain ⟨b1, b2, b3, b4, b5, b6, b7⟩ := h
  refine ⟨b1, by rw [fr 0 (by decide)]; exact b2, b3, by rw [fr 0 (by decide)]; exact b4, b5, b6, fun c hc hX => ?_⟩
  have hl := b7 c hc hX
  have hfc := b5 c hc
  have e6 : ¬ (u0 5 (f c) = 1 ∨ u0 5 (f c) = 2) → u 6 (f c) = u0 6 (f c) := fun hn => by
    rcases hL.2.1 (f c) with e | e
    · exact e
    · exact absurd e.1 hn
  unfold zTL at *
  rw [fr 5 (by decide), fr 7 (by decide), fr 8 (by decide), fr 9 (by decide), fr 10 (by decide)]
  rcases hl with hl | ⟨h1, h2⟩ | ⟨h1, h2⟩ | ⟨h1, h2, h3⟩ | hl
  · exact Or.inl hl
  · refine Or.inr (Or.inl ⟨h1, ?_⟩)
    obtain ⟨k, k1, k2, k3⟩ := hk.2.2.2.1 c hc (by rcases h1 with e | e; exact Or.inl e.1; exact Or.inr e.1)
    obtain ⟨_, v', w', d1, d2, d3, d4, d5⟩ := hL.2.2.2.1 k (f c) k1 (by omega) k2 k3
    obtain ⟨v, w, c1, c2, c3, c4⟩ := h2
    have l1 := zLs_lt d3
    have l2 := zLs_lt c4
    rw [c3] at d2
    have e := (zn_inj (by omega) (by omega)).mp d2
    subst e
    rw [c4] at d3
    have e := Option.some.inj d3
    subst e
    obtain ⟨x, x1, x2⟩ := zBy_ge hT c1 d4
    exact ⟨v, x, c1, c2, x2, by rw [d5, x2], x1⟩
  · refine Or.inr (Or.inr (Or.inl ⟨h1, ?_⟩))
    rw [e6 (by rcases h1 with e | e <;> rw [e.2] <;> decide)]; exact h2
  · refine Or.inr (Or.inr (Or.inr (Or.inl ⟨h1, h2, ?_⟩)))
    rw [e6 (by rcases h1 with e | e <;> rw [e.2] <;> decide)]; exact h3
  · exact Or.inr (Or.inr (Or.inr (Or.inr hl)))
theorem zStm_17 {G : zTxt} {o : Nat → Nat × Nat} {w : Nat → Nat} {S F C R W V s : Nat} {t u u2 : zS} (h : zStm G o w S F C R W V t u s) (fr : ∀ k, ¬ (k = 6 ∨ k = 17) → u2 k = u k) (h17 : ¬ (t 87 s = 8 ∨ t 87 s = 9) → u2 17 s = u 17 s) : zStm G o w S F C R W V t u2 s := by
  have eF : ∀ q F C x y z, zFm t u2 q F C x y z = zFm t u q F C x y z := fun q F C x y z => by unfold zFm; rw [fr 27 (by decide)]
  have eA : ∀ q F C k, zArg t u2 q F C k = zArg t u q F C k := fun q F C k => by unfold zArg; rw [eF, fr 25 (by decide), fr 26 (by decide)]
  have eC : ∀ q F C R s, zCl t u2 q F C R s = zCl t u q F C R s := fun q F C R s => by unfold zCl; simp only [eA]; rw [fr 19 (by decide), fr 20 (by decide)]
  have eN : ∀ s, zNo t u2 s = zNo t u s := fun s => by unfold zNo; rw [fr 18 (by decide)]
  have eB : ∀ s, zBc (zBk G) o w S W V t u2 s = zBc (zBk G) o w S W V t u s := fun s => by unfold zBc; rw [fr 19 (by decide), fr 20 (by decide), fr 23 (by decide), fr 24 (by decide)]
  have eI : ∀ s, zBi o w S W t u2 s = zBi o w S W t u s := fun s => by unfold zBi; rw [fr 19 (by decide), fr 20 (by decide)]
  have eW : ∀ s, zBw o w S W t u2 s = zBw o w S W t u s := fun s => by unfold zBw; rw [fr 19 (by decide)]
  unfold zStm at *
  simp only [eF, eC, eN, eB, eI, eW]
  rw [fr 15 (by decide), fr 14 (by decide), fr 16 (by decide), fr 18 (by decide)]
  refine ⟨h.1, ?_⟩
  rcases h.2 with h | h | h | h | h
  · exact Or.inl h
  · exact Or.inr (Or.inl h)
  · rw [h17 (by rcases h.1 with e | e | e <;> rw [e.1] <;> decide)]
    exact Or.inr (Or.inr (Or.inl h))
  · rw [h17 (by rw [h.1]; decide)]
    exact Or.inr (Or.inr (Or.inr (Or.inl h)))
  · exact Or.inr (Or.inr (Or.inr (Or.inr h)))
theorem zStm_0 {G : zTxt} {o : Nat → Nat × Nat} {w : Nat → Nat} {S F C R W V s : Nat} {t u u2 : zS} (h : zStm G o w S F C R W V t u s) (hs : s < S) (fr : ∀ k, ¬ k = 0 → u2 k = u k) : zStm G o w S F C R W V t u2 s := zStm_ext h hs (Nat.le_refl _) (Nat.le_refl _) (Nat.le_refl _) (Nat.le_refl _) (Nat.le_refl _) (Nat.le_refl _) (fun _ _ => rfl) (fun _ _ => rfl) (fun k hk => by rw [fr k (by omega)]) (fun _ _ => rfl) (fun _ _ => ⟨rfl, rfl⟩) (fun c _ => by rw [fr 27 (by decide)]) (fun _ _ => ⟨rfl, rfl, rfl⟩) (fun x _ => ⟨by rw [fr 25 (by decide)], by rw [fr 26 (by decide)]⟩) (fun x _ hw => ⟨hw, rfl, rfl, rfl⟩) (fun x _ => ⟨by rw [fr 23 (by decide)], by rw [fr 24 (by decide)]⟩) (fun m hm hm2 => ⟨m, hm, Nat.le_refl _, hm2⟩)
theorem zPs2_look {G : zTxt} {f : Nat → Nat} {N K Q Pa bb S F C R W V q : Nat} {o : Nat → Nat × Nat} {w : Nat → Nat} {t u0 u : zS} (h : zPs2 G f N K Q Pa bb S F C R W V o w t u0) (hL : zLo (zBk G) t u0 q u) : zPs2 G f N K Q Pa bb S F C R W V o w t u := by
  have fr := zLo_fr hL
  obtain ⟨a1, a2, a3, a4, a5, a6, a7, a8, a9, a10, a11, a12, a13, a14, a15, a16⟩ := h
  have r0 : ∀ j, u 0 j = u0 0 j := fun j => by rw [fr 0 (by decide)]
  refine ⟨a1, by rw [r0]; exact a2, a3, by rw [fr 31 (by decide)]; exact a4, by rw [fr 28 (by decide)]; exact a5, a6, fun x hx => ?_, a8, by rw [r0]; exact a9, a10, by rw [r0]; exact a11, a12, by rw [r0]; exact a13, a14, by rw [r0]; exact a15, fun s hs => ?_⟩
  · have := a7 x hx
    unfold zPd at *
    rw [fr 31 (by decide), fr 32 (by decide), fr 34 (by decide), fr 29 (by decide), fr 30 (by decide)]
    exact this
  · obtain ⟨c1, c2, c3, c4⟩ := a16 s hs
    refine ⟨zStm_17 c1 fr (fun hn => ?_), ?_, c3, c4⟩
    · rcases hL.2.2.1 s with e | e
      · exact e
      · exact absurd e.1 hn
    · unfold zLn at *
      rw [fr 21 (by decide), fr 22 (by decide)]
      exact c2
theorem zDs2_look {G : zTxt} {f : Nat → Nat} {N T q : Nat} {t u0 u : zS} (h : zDs2 G f N T t u0) (hL : zLo (zBk G) t u0 q u) : zDs2 G f N T t u := by
  have fr := zLo_fr hL
  unfold zDs2 at *
  rw [fr 0 (by decide), fr 11 (by decide), fr 12 (by decide), fr 13 (by decide)]
  exact h
/-- a proc that is called -/
def zCp (K S : Nat) (t u : zS) : Prop := ∀ s, s < S → (t 87 s = 8 ∨ t 87 s = 9) → zRn K (t 33) (t 93 s) (u 17 s)
theorem zCp_look {B : List Nat} {f : Nat → Nat} {N M S q K : Nat} {ids : Nat → Int32} {t u0 u : zS} (hk : zAK B f N M S q t u0) (hL : zLo B t u0 q u) (hT : zBy B K (t 33) ids) (hS : S ≤ 1600) : zCp K S t u := by
  intro s hs h8
  obtain ⟨k, k1, k2, k3⟩ := hk.2.2.2.2 s hs h8
  obtain ⟨_, v, d1, d2, d3, d4⟩ := hL.2.2.2.2 k s k1 (by omega) k2 k3
  obtain ⟨x, x1, x2⟩ := zBy_ge hT d1 d3
  exact ⟨v, x, d1, d2, x2, by rw [d4, x2], x1⟩
