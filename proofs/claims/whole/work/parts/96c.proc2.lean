/-! CHECK: a proc is begun -/
theorem zProcIn {G : zTxt} {f : Nat → Nat} {N M P A T Q Pa bb S F C R W V n q : Nat} {o : Nat → Nat × Nat} {w : Nat → Nat} {t u : zS} (hx : zCx G f N M P A T Q Pa bb S F C R W V o w t u) (hq : q < Q) (h39 : t 39 q = Int32.ofNat n) (hn : n ≤ 1100) (h67 : u 0 67 = -1) : ∃ t2 u2, mX1_check (Int32.ofNat q) t = zChkT (Int32.ofNat q) t2 ∧ mX12_check (Int32.ofNat q) u = zChkM (Int32.ofNat q) u2 ∧ zCf t t2 ∧ zCm u u2 ∧ zKp N t2 ∧ zCk f N n 0 q t2 u2 ∧ u2 0 70 = Int32.ofNat 0 ∧ t2 107 = t 107 ∧ t2 113 = t 113 ∧ ∃ k a, (k ≤ 3000 ∧ a ≤ 3000) ∧ t 37 q = Int32.ofNat k ∧ t 35 q = Int32.ofNat a ∧ ∀ x, x < n → t2 58 x = zRz (zD t) t a k x := by
  have hQ := hx.2.2.2.2.2.2.2.2.1
  have hbb := hx.2.2.2.2.2.2.2.2.2.2.2.2.1
  have hPa := hx.2.2.2.2.2.2.2.2.2.2.2.2.2
  obtain ⟨m, b, k, a, c1, c2, c3, c4, c5, c6, c7, c8, c9, c10, _⟩ := hx.2.2.2.1.2.2.2.2.2.2.1 q hq
  have em : m = n := by
    rw [h39] at c1
    exact ((zn_inj (by omega) (by omega)).mp c1).symm
  subst em
  obtain ⟨tF, etF⟩ : ∃ tF, tF = zfl (zu (zu t 6 6 (-1)) 6 5 (Int32.ofNat m)) 58 0 m (-1) := ⟨_, rfl⟩
  obtain ⟨uF, euF⟩ : ∃ uF, uF = zu (zu u 0 68 (Int32.ofNat q)) 0 70 0 := ⟨_, rfl⟩
  have rowF : ∀ x, ¬ x = 58 → tF x = (zu (zu t 6 6 (-1)) 6 5 (Int32.ofNat m)) x := fun x hx => by
    rw [etF]; funext y; unfold zfl; rw [if_neg (fun w => hx w.1)]
  have inF : ∀ x, x < m → tF 58 x = -1 := fun x hx => by
    rw [etF]; unfold zfl; rw [if_pos ⟨rfl, by omega, hx⟩]
  have fF : zCf t tF := ⟨fun j _ => by rw [rowF 3 (by decide), zu_ne1 (by decide), zu_ne1 (by decide)], ⟨fun j hj => by rw [rowF 6 (by decide), zu_ne2 (by omega), zu_ne2 (by omega)], fun x _ => by rw [rowF 107 (by decide), zu_ne1 (by decide), zu_ne1 (by decide)]⟩, fun x hx => by rw [rowF x (by omega), zu_row (by omega), zu_row (by omega)]⟩
  have mF : zCm u uF := by rw [euF]; exact zCm_trans (zCm_zu (Or.inr (Or.inr ⟨rfl, Or.inr (Or.inl rfl)⟩))) (zCm_zu (Or.inr (Or.inr ⟨rfl, Or.inr (Or.inr rfl)⟩)))
  have KF : zKp N tF := zKp_of hx.2.2.1 (zTr_f fF) (by rw [rowF 29 (by decide), zu_row (by decide), zu_row (by decide)])
  have hxF := zCx_of hx fF mF KF
  have hpF : ∀ j, j < k → zPm f N (tF 45 (a + j)) (uF 34 (b + j)) := fun j hj => by rw [fF.2.2 45 (by decide), mF.2 34 (by decide)]; exact c10 j hj
  obtain ⟨t2, z1, z2, z3⟩ := zChkC (q := q) (n := m) hxF.1 hxF.2.1 (by omega) (by rw [fF.2.2 37 (by decide)]; exact c5) (by rw [fF.2.2 35 (by decide)]; exact c8) (by omega) c7 (by omega) (fun j hj => (hpF j hj).imp (fun h => h.1) (fun ⟨c, h1, h2, _⟩ => ⟨c, h1, h2⟩)) k 0 (zFU - k - 1) tF (by omega) (fun _ _ => rfl) (fun x hx => by rw [if_neg (by omega)]; exact inF x hx)
  obtain ⟨u2, y1, y2, y3⟩ := zChkR (q := q) (a := a) hxF.1 (by omega) (by rw [mF.2 32 (by decide)]; exact c6) (by rw [mF.2 31 (by decide)]; exact c2) (by omega) c7 (by omega) hpF m 0 (zFU - m - 1) uF (by omega) (fun _ _ => rfl) (fun x hx => by omega)
  rw [show zFU - k - 1 + k + 1 = zFU by unfold zFU; omega] at z1
  rw [show zFU - m - 1 + m + 1 = zFU by unfold zFU; omega] at y1
  have f2 : zCf tF t2 := ⟨fun j _ => by rw [z2 3 (by decide)], ⟨fun j _ => by rw [z2 6 (by decide)], fun x _ => by rw [z2 107 (by decide)]⟩, fun x hx => z2 x (by omega)⟩
  have m2 : zCm uF u2 := ⟨fun j _ => by rw [y2 0 (by decide)], fun x hx => y2 x (by omega)⟩
  have g6 : t2 6 = (zu (zu t 6 6 (-1)) 6 5 (Int32.ofNat m)) 6 := by rw [z2 6 (by decide), rowF 6 (by decide)]
  refine ⟨t2, u2, ?_, ?_, zCf_trans fF f2, zCm_trans mF m2, zKp_of KF (zTr_f f2) (z2 29 (by decide)), ⟨by rw [g6, zu_same], by rw [g6, zu_ne2 (by decide), zu_same], ?_, ?_, ?_, hn, by omega, fun x hx => ?_⟩, ?_, ?_, ?_, ?_⟩
  · unfold mX1_check
    rw [pl_pt, show mX5_get 38 400 (Int32.ofNat q) (zu t 6 6 (-1)) = some (Int32.ofNat m, zu t 6 6 (-1)) by rw [← h39, ← show (zu t 6 6 (-1)) 39 q = t 39 q from zu_ne1 (by decide)]; exact zn_get (by omega) (by decide), pl_bd, pl_pt, zu_same, pl_fill (k := 57) (a := 0) (b := m) rfl (pl_ofn (by omega)) (by omega) (by omega) (by decide), pl_bd, ← etF]
    exact z1
  · unfold mX12_check
    rw [pl_own (by omega) c2 c3 (by omega), pl_bd, pl_pt, pl_pt, ← euF]
    exact y1
  · rw [y2 0 (by decide), euF, zu_ne2 (by decide), zu_ne2 (by decide)]; exact h67
  · rw [y2 0 (by decide), euF, zu_ne2 (by decide), zu_same]
  · rw [z2 39 (by decide), fF.2.2 39 (by decide)]; exact h39
  · rw [show 1500 * 0 + x = x by omega, z3 x hx, y3 x hx]
    exact zRs_of (zTr_f f2) (zRows0 hxF.1 hpF x)
  · rw [y2 0 (by decide), euF, zu_same]; rfl
  · rw [z2 107 (by decide), rowF 107 (by decide), zu_row (by decide), zu_row (by decide)]
  · rw [z2 113 (by decide), rowF 113 (by decide), zu_row (by decide), zu_row (by decide)]
  · refine ⟨k, a, ⟨by omega, by omega⟩, c5, c8, fun x hx => ?_⟩
    rw [z3 x hx]
    unfold zRz
    rw [fF.2.2 45 (by decide), zD_of (zTr_f fF), zSg2_of (zTr_f fF)]
