/-! CHECK: all statements, by depth -/
theorem zDp_x {G : zTxt} {f : Nat → Nat} {N M P A T Q Pa bb S F C R W V s : Nat} {o : Nat → Nat × Nat} {w : Nat → Nat} {t u : zS} (hx : zCx G f N M P A T Q Pa bb S F C R W V o w t u) (hs : s < S) (hk : t 87 s = 7 ∨ t 87 s = 10 ∨ t 87 s = 12) : zDp G o s := by
  obtain ⟨⟨_, hst⟩, _, _, _⟩ := hx.2.2.2.1.2.2.2.2.2.2.2.2.2.2.2.2.2.2.2 s hs
  rcases hst with ⟨e1, _⟩ | ⟨e1, _⟩ | ⟨e1, _⟩ | ⟨e1, _⟩ | ⟨e1, _⟩ | ⟨_, _, _, _, _, e6⟩ | ⟨e1, _⟩ | ⟨_, _, _, _, _, _, e7⟩ | ⟨_, _, _, _, _, _, e7⟩
  · exact absurd hk (by rcases e1 with e | e <;> rw [e.1] <;> decide)
  · exact absurd hk (by rw [e1]; decide)
  · exact absurd hk (by rcases e1 with e | e | e <;> rw [e.1] <;> decide)
  · exact absurd hk (by rw [e1]; decide)
  · exact absurd hk (by rw [e1]; decide)
  · exact e6
  · exact absurd hk (by rcases e1 with e | e | e <;> rw [e.1] <;> decide)
  · exact e7
  · exact e7
theorem zStmS {gc gc1 gc0 : GgX1_checkBlock} {gm gm1 gm0 : GgX12_checkBlock} {G : zTxt} {f : Nat → Nat} {N M P A T Q Pa bb S F C R W V n q d : Nat} {o : Nat → Nat × Nat} {w : Nat → Nat} (eC1 : gc.2.2.2 = mX1_checkRound gc1) (eC2 : gc.2.2.1 = mX1_checkBranches gc1) (eC : gc1.1 = mX1_checkBlock gc0) (eM1 : gm.2.2.2.2 = mX12_checkWhile gm1) (eM2 : gm.2.2.1 = mX12_checkIf gm1) (eM3 : gm.2.2.2.1 = mX12_checkCase gm1) (eM : gm1.1 = mX12_checkBlock gm0) (hB : zPC G f N M P A T Q Pa bb S F C R W V o w n q (d + 1) (mX1_checkBlock gc0) (mX12_checkBlock gm0)) (hq : q < Q) (hF : ∀ x, x ≤ 38 → x + 1 ≤ zKc G G.2.2.1 → n * (3 + 2 * x) ≤ 80000) : zPS G f N M P A T Q Pa bb S F C R W V o w n q d (mX1_checkStatement gc) (mX12_checkOne gm) := by
  intro t u g kp s hx hc h70 hkp hs ho hv
  have up : (∃ b b' t2 u2 g2, mX1_checkStatement gc (Int32.ofNat s) (Int32.ofNat d) t = some (b, t2) ∧ mX12_checkOne gm (Int32.ofNat s) (Int32.ofNat d) u = some (b', u2) ∧ (zBadC t u b t2 u2 ∨ (b' = b ∧ zStG w f N Q S n d kp s t u g b t2 u2 g2))) → ∃ b b' t2 u2 g2, mX1_checkStatement gc (Int32.ofNat s) (Int32.ofNat d) t = some (b, t2) ∧ mX12_checkOne gm (Int32.ofNat s) (Int32.ofNat d) u = some (b', u2) ∧ (zBadC t u b t2 u2 ∨ (t 87 s = 9 ∧ 0 ≤ t 99 s ∧ b = 1 ∧ b' = 1 ∧ t2 6 6 = -1 ∧ u2 0 67 = t 89 s ∧ zCf t t2 ∧ zCm u u2 ∧ t2 6 5 = t 6 5) ∨ (b' = b ∧ zStG w f N Q S n d kp s t u g b t2 u2 g2)) := fun ⟨b, b', t2, u2, g2, z1, z2, z3⟩ => ⟨b, b', t2, u2, g2, z1, z2, z3.imp id Or.inr⟩
  by_cases hk : t 87 s = 7 ∨ t 87 s = 10 ∨ t 87 s = 12
  · have dp := zDp_x hx hs hk
    unfold zDp at dp
    rw [ho] at dp
    have hA := hF d dp.1 dp.2
    rcases hk with hk | hk | hk
    · exact up (zCasS eC2 eM3 eC eM hB hx hc h70 hkp hs ho hq hA hv hk)
    · exact up (zIfS eC2 eM2 eC eM hB hx hc h70 hkp hs ho hq hA hv hk)
    · exact up (zWhileS eC1 eM1 eC eM hB hx hc h70 hkp hs ho hq hA hv hk)
  · exact zLeafS hx hc hs ho hq hv hk
/-- BLOCKS at every depth -/
theorem zBlockAll {G : zTxt} {f : Nat → Nat} {N M P A T Q Pa bb S F C R W V n q : Nat} {o : Nat → Nat × Nat} {w : Nat → Nat} (hq : q < Q) (hF : ∀ x, x ≤ 38 → x + 1 ≤ zKc G G.2.2.1 → n * (3 + 2 * x) ≤ 80000) : ∀ k d, d + k = 40 → ∀ j, zPC G f N M P A T Q Pa bb S F C R W V o w n q d (mX1_checkBlock (grgX1_checkBlock (j + 3 * k))) (mX12_checkBlock (grgX12_checkBlock (j + 3 * k))) := by
  intro k
  induction k with
  | zero =>
    intro d hd j t u g kp s hx hc h70 hkp hs ho hv
    have := ((zTre_x hx).2 s hs).2.1.1
    rw [ho] at this
    exact absurd (show d ≤ 39 from this) (by omega)
  | succ k ih =>
    intro d hd j
    rw [show j + 3 * (k + 1) = (j + 3 * k) + 1 + 1 + 1 by omega]
    exact zBlockC (zStmS (gc1 := grgX1_checkBlock (j + 3 * k + 1)) (gm1 := grgX12_checkBlock (j + 3 * k + 1)) rfl rfl rfl rfl rfl rfl rfl (ih (d + 1) (by omega) j) hq hF)
/-- the BLOCK of a proc -/
theorem zBlock0 {G : zTxt} {f : Nat → Nat} {N M P A T Q Pa bb S F C R W V n q : Nat} {o : Nat → Nat × Nat} {w : Nat → Nat} (hq : q < Q) (hF : ∀ x, x ≤ 38 → x + 1 ≤ zKc G G.2.2.1 → n * (3 + 2 * x) ≤ 80000) : zPC G f N M P A T Q Pa bb S F C R W V o w n q 0 mX1_checkBlockr mX12_checkBlockr := zBlockAll hq hF 40 0 rfl 179
