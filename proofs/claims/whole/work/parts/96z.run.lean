/-! a run, all of it -/
def zNq (t : zS) (q : Nat) : Nat := (t 39 q).toNatClampNeg
def zMe (n : Nat → Nat) (m : Nat) (R pq : Nat → Nat) (fc fk rw mem lim : Nat) (t u : zS) : Prop := t 7 14 = Int32.ofNat mem ∧ u 0 80 = Int32.ofNat mem ∧ t 7 15 = Int32.ofNat lim ∧ u 0 74 = Int32.ofNat lim ∧ lim ≤ 10000 ∧ mem ≤ lim ∧ mem = zSs (fun i => 4 + n (pq (R i))) m + (fc - fk) * (4 + 2 * rw)
def zCn (pm : Nat) (t u : zS) : Prop := t 7 11 = u 0 77 ∧ t 7 12 = u 0 78 ∧ t 60 17 = u 0 79 ∧ t 59 8 = u 0 100 ∧ t 59 9 = u 0 101 ∧ ∃ k, k ≤ pm ∧ t 7 10 = Int32.ofNat k ∧ u 0 81 = Int32.ofNat k ∧ ∀ j, j < 500 → j < k → t 66 j = u 44 j
def zDyn (G : zTxt) (f : Nat → Nat) (N Q : Nat) (t0 g : zS) (pm m : Nat) (Rg : Nat → Nat) (pq : Nat → Nat) (fr fd : Nat) (fp : Nat → Nat) (sp ac : Nat → Int32) (num H : zS) (Y ql : Nat → Nat) (MC MR : zS) (fc fk rw : Nat) (fq : Nat → Nat) (mem lim : Nat) (t u : zS) : Prop := zAC (zNq t0) m Rg pq fr fd fp sp ac num H t ∧ zAR (zNq t0) m Rg pq fr fd fp sp ac num H u ∧ zAP Q m Rg pq fr fd fp ∧ zBC (zD t0) Y ql MC fc fk rw fq t ∧ zBR (zD t0) f Y ql MR fc fk rw fq u ∧ zBP (zD t0) N t0 Y ql fc fk rw fq ∧ zBT t0 (zBk G) Y ql MC MR H fc ∧ zHH (zD t0) Y fc H ∧ (∀ i, i < m → zTp N (zNq t0 (pq (Rg i))) (pq (Rg i)) t0 g Y (H (Rg i)) (sp (Rg i))) ∧ zMe (zNq t0) m Rg pq fc fk rw mem lim t u ∧ zCn pm t u ∧ zInp t u
def zRnS (G : zTxt) (f : Nat → Nat) (N Q : Nat) (t0 g : zS) (pm m : Nat) (Rg : Nat → Nat) (t u : zS) : Prop := ∃ pq fr fd fp sp ac num H Y ql MC MR fc fk rw fq mem lim, zDyn G f N Q t0 g pm m Rg pq fr fd fp sp ac num H Y ql MC MR fc fk rw fq mem lim t u
/-- what a VISIT leaves alone -/
def zFa (t t2 : zS) : Prop := zLv t t2 ∧ (∀ k, (k ≤ 2 ∨ k = 29) → t2 k = t k) ∧ t2 7 13 = t 7 13
def zFb (u u2 : zS) : Prop := (∀ j, j ≤ 76 → ¬ j = 72 → u2 0 j = u 0 j) ∧ u2 0 86 = u 0 86 ∧ ∀ k, 1 ≤ k → k ≤ 43 → u2 k = u k
theorem zLv_trans {a b c : zS} (h : zLv a b) (h2 : zLv b c) : zLv a c := ⟨fun k k1 k2 k3 => (h2.1 k k1 k2 k3).trans (h.1 k k1 k2 k3), fun j hj => (h2.2.1 j hj).trans (h.2.1 j hj), h2.2.2.trans h.2.2⟩
theorem zLv_refl (t : zS) : zLv t t := ⟨fun _ _ _ _ => rfl, fun _ _ => rfl, rfl⟩
theorem zFa_refl (t : zS) : zFa t t := ⟨zLv_refl t, fun _ _ => rfl, rfl⟩
theorem zFb_refl (u : zS) : zFb u u := ⟨fun _ _ _ => rfl, rfl, fun _ _ _ => rfl⟩
theorem zFa_trans {a b c : zS} (h : zFa a b) (h2 : zFa b c) : zFa a c := ⟨zLv_trans h.1 h2.1, fun k hk => (h2.2.1 k hk).trans (h.2.1 k hk), h2.2.2.trans h.2.2⟩
theorem zFb_trans {a b c : zS} (h : zFb a b) (h2 : zFb b c) : zFb a c := ⟨fun j h1 h3 => (h2.1 j h1 h3).trans (h.1 j h1 h3), h2.2.1.trans h.2.1, fun k h1 h3 => (h2.2.2 k h1 h3).trans (h.2.2 k h1 h3)⟩
theorem zFa_of {t t2 : zS} (h : ∀ k, ¬ (k = 7 ∨ k = 51 ∨ k = 59 ∨ k = 60 ∨ k = 62 ∨ k = 64 ∨ k = 66 ∨ k = 85 ∨ 116 ≤ k) → t2 k = t k) (h7 : t2 7 13 = t 7 13) : zFa t t2 := ⟨⟨fun k k1 k2 k3 => h k (by omega), fun j _ => by rw [h 3 (by decide)], h 4 (by decide)⟩, fun k hk => h k (by omega), h7⟩
theorem zFb_of {u u2 : zS} (h : ∀ k, 1 ≤ k → k ≤ 43 → u2 k = u k) (h0 : ∀ j, j ≤ 76 → ¬ j = 72 → u2 0 j = u 0 j) (h86 : u2 0 86 = u 0 86) : zFb u u2 := ⟨h0, h86, h⟩
theorem zLvM_b {S : Nat} {t0 u0 u u2 : zS} (h : zLvM S t0 u0 u) (h2 : zFb u u2) : zLvM S t0 u0 u2 := by
  obtain ⟨a1, a2, a3⟩ := h
  obtain ⟨b1, b2, b3⟩ := h2
  refine ⟨fun k k1 k2 k3 => by rw [b3 k (by omega) (by omega)]; exact a1 k k1 k2 k3, fun j hj => by rw [b1 j (by omega) (by omega)]; exact a2 j hj, fun s hs => ?_⟩
  have := a3 s hs
  unfold zU2 at *
  rw [b3 19 (by decide) (by decide), b3 20 (by decide) (by decide), b3 21 (by decide) (by decide), b3 24 (by decide) (by decide)]
  exact this
/-- types, at any time -/
theorem zTG_live {G : zTxt} {f : Nat → Nat} {N M P A T Q Pa bb S F C R W V : Nat} {o : Nat → Nat × Nat} {w : Nat → Nat} {t0 u0 g u : zS} (hg : zGd G f N M P A T Q Pa bb S F C R W V o w t0 u0 g) (hm : zLvM S t0 u0 u) : zTG G f N M P A T t0 u := zTG_of hg.1.1 (zTr_refl t0) ⟨hm.1 5 (by decide) (by decide) (by decide), hm.1 6 (by decide) (by decide) (by decide), hm.1 7 (by decide) (by decide) (by decide), hm.1 8 (by decide) (by decide) (by decide), hm.1 9 (by decide) (by decide) (by decide), hm.1 10 (by decide) (by decide) (by decide), hm.1 11 (by decide) (by decide) (by decide), hm.1 12 (by decide) (by decide) (by decide), hm.1 13 (by decide) (by decide) (by decide), hm.2.1 14 (by decide), hm.2.1 19 (by decide), hm.2.1 22 (by decide)⟩
theorem zNq_at {G : zTxt} {f : Nat → Nat} {N M P A T Q Pa bb S F C R W V q : Nat} {o : Nat → Nat × Nat} {w : Nat → Nat} {t0 u0 g : zS} (hg : zGd G f N M P A T Q Pa bb S F C R W V o w t0 u0 g) (hq : q < Q) : t0 39 q = Int32.ofNat (zNq t0 q) ∧ zNq t0 q ≤ 1100 := by
  obtain ⟨n, p1, p2, _⟩ := hg.2.1 q hq
  have e : zNq t0 q = n := by unfold zNq; rw [p1]; exact pl_clamp (pl_ofn (by omega))
  rw [e]; exact ⟨p1, p2⟩
/-- the answer to one ACT -/
def zAo (G : zTxt) (f : Nat → Nat) (N Q : Nat) (t0 g : zS) (pm m : Nat) (R : Nat → Nat) (t u : zS) (a b : zR) : Prop := ∃ r t2 u2 m2 R2, a = some (r, t2) ∧ b = some (r, u2) ∧ (r = 0 ∨ r = 1) ∧ zFa t t2 ∧ zFb u u2 ∧ m ≤ m2 ∧ (∀ i, i < m → R2 i = R i) ∧ t2 7 16 = u2 0 72 ∧ (t2 7 16 = t 7 16 ∨ (r = 0 ∧ ¬ t2 7 16 = 0)) ∧ zRnS G f N Q t0 g pm m2 R2 t2 u2
/-- an EXPRESSION in a process -/
theorem zExp {n : Nat → Nat} {m p q Fm Cm : Nat} {R pq : Nat → Nat} {fr fd : Nat} {fp : Nat → Nat} {sp ac : Nat → Int32} {num H t u t0 u0 : zS} {x1 x2 z : Int32} (hA : zAC n m R pq fr fd fp sp ac num H t) (hR : zAR n m R pq fr fd fp sp ac num H u) (hp : zIn m R p) (hp2 : p < 2501) (h75 : t 75 = t0 75) (h77 : t 77 = t0 77) (h27 : u 27 = u0 27) (hq : t0 39 q = Int32.ofNat (n (pq p))) (hn : n (pq p) ≤ 3000) (hF : Fm ≤ 3000) (hC : Cm ≤ 8000) (hf : zFm t0 u0 q Fm Cm x1 x2 z) :
    ∃ t2 u2, zFwC t t2 ∧ zFv u u2 ∧ ((mX4_work (Int32.ofNat p) x1 x2 t = some (1, t2) ∧ mX12_worth (Int32.ofNat p) z u = some (t2 51 8, u2) ∧ u2 0 107 = 0) ∨ (mX4_work (Int32.ofNat p) x1 x2 t = some (0, zu t2 7 16 3) ∧ (∃ v, mX12_worth (Int32.ofNat p) z u = some (v, u2)) ∧ u2 0 107 = 1)) := by
  obtain ⟨a, l, c, c2, n', f1, f2, f3, f4, f5, f6, f7, f8, f9, f10⟩ := hf
  have en : n' = n (pq p) := by
    rw [hq] at f7
    exact ((zn_inj (by omega) (by omega)).mp f7).symm
  subst en
  obtain ⟨bC, b1, b2, _, b4, _⟩ := zMC_at hA.2.2.2.2.2.2 hp
  obtain ⟨bM, d1, d2, d3, _⟩ := zAR_at hR hp
  have w := zWork (p := p) (n := n (pq p)) (bC := bC) (bM := bM) (by omega) b2 d2 l a c 0 c2 (zFU - l - 1) (zFU - l - 1) t (zu u 0 107 0) (by rw [h75, h77, zu_row (by decide), h27]; exact f9) (by rw [zu_ne1 (by decide), h27]; exact f10) (by omega) (by omega) (by omega) (fun j hj => absurd hj (Nat.not_lt_zero _)) (zu_same _ _ _ _) (by rw [zu_ne1 (by decide)]; exact d1) (fun k hk => by rw [zu_ne1 (by decide), (b4 k hk).1, (d3 k hk).1])
  rw [show zFU - l - 1 + l + 1 = zFU by unfold zFU; omega, show Int32.ofNat 0 = 0 from rfl] at w
  have e1 : mX4_work (Int32.ofNat p) x1 x2 t = zbd (lX3_work_6 zFU (Int32.ofNat (a + l)) (Int32.ofNat bC) 0 (Int32.ofNat a) t) fun r1871 t1872 => if r1871 = 0 then zpt t1872 7 16 3 fun t1874 => some (0, t1874) else some (1, t1872) := by
    unfold mX4_work mX3_work
    rw [zn_get hp2 (by decide), pl_bd, b1, f1, f2]
  have e2 : mX12_worth (Int32.ofNat p) z u = lX12_worth_10 zFU (Int32.ofNat p) 0 (Int32.ofNat c) (zu u 0 107 0) := by
    unfold mX12_worth
    rw [pl_pt, f3]
  obtain ⟨t2, u2, w1, w2, w3⟩ := w
  refine ⟨t2, u2, w1, zFv_trans (⟨fun k hk => zu_row (by omega), fun j hj => zu_ne2 hj⟩ : zFv u (zu u 0 107 0)) w2, ?_⟩
  rw [e1, e2]
  rcases w3 with ⟨w3, w4, w5⟩ | ⟨w3, ⟨v, w4⟩, w5⟩
  · rw [w3, pl_bd, if_neg pl_10]
    exact Or.inl ⟨rfl, w4, w5⟩
  · rw [w3, pl_bd, if_pos rfl, pl_pt]
    exact Or.inr ⟨rfl, ⟨v, w4⟩, w5⟩
