/-! a proc begins -/
def zqC (t : zS) (Q Pa v : Nat) : zS := zu (zu (zu (zu (zu t 33 v (Int32.ofNat Q)) 35 Q (Int32.ofNat Pa)) 37 Q 0) 39 Q 0) 4 10 (Int32.ofNat (Q + 1))
def zqM (u : zS) (Q x bb : Nat) : zS := zu (zu (zu (zu u 0 60 (Int32.ofNat Q)) 28 Q (Int32.ofNat x)) 31 (Q + 1) (Int32.ofNat bb)) 0 44 (Int32.ofNat (Q + 1))
theorem zqC_fr {t : zS} {Q Pa v : Nat} : zFP zpR t (zqC t Q Pa v) := zFP_zu (zFP_zu (zFP_zu (zFP_zu (zFP_zu (zFP_refl _ _) rfl) rfl) rfl) rfl) rfl
theorem zqM_fr {u : zS} {Q x bb : Nat} : zFP zpM u (zqM u Q x bb) := zFP_zu (zFP_zu (zFP_zu (zFP_zu (zFP_refl _ _) rfl) rfl) rfl) rfl
theorem zPh_begin {G : zTxt} {i y d : Nat} {f : Nat → Nat} {N M P A T Q Pa bb S F C R W V q v x : Nat} {o : Nat → Nat × Nat} {w : Nat → Nat} {t u : zS} (h1 : zTB G S 0 i d f [] N M P A q t u) (h2 : zDs2 G f N T t u) (h3 : zPs2 G f N Q Q Pa bb S F C R W V o w t u) (hS : S ≤ 1000) (hQ : Q < 300) (hv : v < 1600) (hw : (zBk G)[x]? = some v) (hno : t 33 v = -1) : zPh G i d f N M P A T Q Pa 0 0 y bb S F C R W V q o w (zqC t Q Pa v) (zqM u Q x bb) := by
  have r : ∀ k, ¬ (k = 4 ∨ k = 33 ∨ k = 35 ∨ k = 37 ∨ k = 39) → zqC t Q Pa v k = t k := fun k hk => by unfold zqC; simp (disch := first | omega | decide | assumption) only [zu_same, zu_ne1, zu_ne2, zu_row, pl_bd, pl_pt, pl_let, zn_set, zn_get, zn_rd, zn_wr, zn_1, zn_m, Nat.reduceAdd]
  have g : ∀ k, ¬ (k = 0 ∨ k = 28 ∨ k = 31) → zqM u Q x bb k = u k := fun k hk => by unfold zqM; simp (disch := first | omega | decide | assumption) only [zu_same, zu_ne1, zu_ne2, zu_row, pl_bd, pl_pt, pl_let, zn_set, zn_get, zn_rd, zn_wr, zn_1, zn_m, Nat.reduceAdd]
  have g0 : ∀ k, ¬ (k = 44 ∨ k = 60) → zqM u Q x bb 0 k = u 0 k := fun k hk => by unfold zqM; simp (disch := first | omega | decide | assumption) only [zu_same, zu_ne1, zu_ne2, zu_row, pl_bd, pl_pt, pl_let, zn_set, zn_get, zn_rd, zn_wr, zn_1, zn_m, Nat.reduceAdd]
  have e410 : zqC t Q Pa v 4 10 = Int32.ofNat (Q + 1) := by unfold zqC; simp (disch := first | omega | decide | assumption) only [zu_same, zu_ne1, zu_ne2, zu_row, pl_bd, pl_pt, pl_let, zn_set, zn_get, zn_rd, zn_wr, zn_1, zn_m, Nat.reduceAdd]
  have e31 : ∀ z, z ≤ Q → zqM u Q x bb 31 z = u 31 z := fun z hz => by unfold zqM; simp (disch := first | omega | decide | assumption) only [zu_same, zu_ne1, zu_ne2, zu_row, pl_bd, pl_pt, pl_let, zn_set, zn_get, zn_rd, zn_wr, zn_1, zn_m, Nat.reduceAdd]
  refine ⟨zTB_tu h1 (fun k hk => r k (by omega)) (by rw [r 3 (by decide)]) (by rw [r 3 (by decide)]) (fun k hk => g k (by omega)) (fun k hk => g0 k (by omega)), zDs2_rows h2 (by rw [r 3 (by decide)]) (g0 22 (by decide)) (fun k hk => r k (by omega)) (fun k hk => g k (by omega)), ?_, ?_, by unfold zqC; simp (disch := first | omega | decide | assumption) only [zu_same, zu_ne1, zu_ne2, zu_row, pl_bd, pl_pt, pl_let, zn_set, zn_get, zn_rd, zn_wr, zn_1, zn_m, Nat.reduceAdd]; rfl, by unfold zqC; simp (disch := first | omega | decide | assumption) only [zu_same, zu_ne1, zu_ne2, zu_row, pl_bd, pl_pt, pl_let, zn_set, zn_get, zn_rd, zn_wr, zn_1, zn_m, Nat.reduceAdd], fun l hl => absurd hl (Nat.not_lt_zero _)⟩
  · refine zPs2_gen h3 (fun _ _ => rfl) (Nat.le_refl _) hS (Nat.le_refl _) e410 (by unfold zqM; simp (disch := first | omega | decide | assumption) only [zu_same, zu_ne1, zu_ne2, zu_row, pl_bd, pl_pt, pl_let, zn_set, zn_get, zn_rd, zn_wr, zn_1, zn_m, Nat.reduceAdd]) (by unfold zqC; simp (disch := first | omega | decide | assumption) only [zu_same, zu_ne1, zu_ne2, zu_row, pl_bd, pl_pt, pl_let, zn_set, zn_get, zn_rd, zn_wr, zn_1, zn_m, Nat.reduceAdd]; exact h3.2.2.1) ?_ (fun v' hv' => ?_) (fun k z hz hk => ?_) (fun k z hz hk => by rw [g k (by omega)]) e31 (fun _ _ => by rw [r 45 (by decide)]) (fun _ _ => by rw [g 34 (by decide)]) (fun k hk => r k (by omega)) (fun k hk => g k (by omega)) (fun k hk => g0 k (by omega))
    · have e1 : zqC t Q Pa v 33 = fun z => if z = v then Int32.ofNat Q else t 33 z := by
        funext z
        unfold zqC
        by_cases e : z = v
        · rw [if_pos e]; subst e; simp (disch := first | omega | decide | assumption) only [zu_same, zu_ne1, zu_ne2, zu_row, pl_bd, pl_pt, pl_let, zn_set, zn_get, zn_rd, zn_wr, zn_1, zn_m, Nat.reduceAdd]
        · rw [if_neg e]; simp (disch := first | omega | decide | assumption) only [zu_same, zu_ne1, zu_ne2, zu_row, pl_bd, pl_pt, pl_let, zn_set, zn_get, zn_rd, zn_wr, zn_1, zn_m, Nat.reduceAdd]
      have e2 : zqM u Q x bb 28 = fun z => if z = Q then Int32.ofNat x else u 28 z := by
        funext z
        unfold zqM
        by_cases e : z = Q
        · rw [if_pos e]; subst e; simp (disch := first | omega | decide | assumption) only [zu_same, zu_ne1, zu_ne2, zu_row, pl_bd, pl_pt, pl_let, zn_set, zn_get, zn_rd, zn_wr, zn_1, zn_m, Nat.reduceAdd]
        · rw [if_neg e]; simp (disch := first | omega | decide | assumption) only [zu_same, zu_ne1, zu_ne2, zu_row, pl_bd, pl_pt, pl_let, zn_set, zn_get, zn_rd, zn_wr, zn_1, zn_m, Nat.reduceAdd]
      rw [e1, e2]
      exact zBy_add h3.2.2.2.2.1 hv hw hno (by omega)
    · rw [r 49 (by decide)]
      rcases h3.2.2.2.2.2.1 v' hv' with e | ⟨z, z1, z2⟩
      · exact Or.inl e
      · exact Or.inr ⟨z, by omega, z2⟩
    · have ne : ¬ z = Q := by omega
      have hk2 : k ≠ 33 ∧ k ≠ 4 := by omega
      unfold zqC
      rw [zu_ne1 hk2.2, zu_ne2 ne, zu_ne2 ne, zu_ne2 ne, zu_ne1 hk2.1]
  · refine ⟨e410, by unfold zqM; simp (disch := first | omega | decide | assumption) only [zu_same, zu_ne1, zu_ne2, zu_row, pl_bd, pl_pt, pl_let, zn_set, zn_get, zn_rd, zn_wr, zn_1, zn_m, Nat.reduceAdd], by unfold zqC; simp (disch := first | omega | decide | assumption) only [zu_same, zu_ne1, zu_ne2, zu_row, pl_bd, pl_pt, pl_let, zn_set, zn_get, zn_rd, zn_wr, zn_1, zn_m, Nat.reduceAdd]; rfl, by rw [e31 Q (Nat.le_refl _)]; exact h3.2.2.2.1, by unfold zqM; simp (disch := first | omega | decide | assumption) only [zu_same, zu_ne1, zu_ne2, zu_row, pl_bd, pl_pt, pl_let, zn_set, zn_get, zn_rd, zn_wr, zn_1, zn_m, Nat.reduceAdd]; rfl, hQ, fun v' hv' => ?_, fun _ => 0, fun k hk => absurd hk (Nat.not_lt_zero _), fun v' hv' e => ?_⟩
    · rw [r 49 (by decide)]
      rcases h3.2.2.2.2.2.1 v' hv' with e | ⟨z, z1, z2⟩
      · exact Or.inl e
      · exact Or.inr ⟨z, by omega, z2⟩
    · exfalso
      rw [r 49 (by decide)] at e
      rcases h3.2.2.2.2.2.1 v' hv' with e' | ⟨z, z1, z2⟩
      · rw [e'] at e
        exact absurd (show (0 : Int32) ≤ -1 by rw [e]; exact zn_0le (by omega)) zn_m1
      · rw [z2] at e
        have := (zn_inj (by omega) (by omega)).mp e
        omega
/-! the reference looks a proc's NAME up -/
theorem pl_dupNo {u : zS} {Q x : Nat} (h44 : u 0 44 = Int32.ofNat Q) (hQ : Q ≤ 300) (h8 : u 0 8 = Int32.ofNat x) : ∀ (d j fu : Nat), d + j = Q → (∀ k, j ≤ k → k < Q → ¬ u 28 k = Int32.ofNat x) → lX12_proc_27 (fu + d + 1) (Int32.ofNat j) u = bX12_proc_27 (lX12_proc_27 fu) (Int32.ofNat Q) u := by
  intro d
  induction d with
  | zero =>
    intro j fu hd _
    have : j = Q := by omega
    subst this
    rfl
  | succ d ih =>
    intro j fu hd hno
    show bX12_proc_27 (lX12_proc_27 (fu + d + 1)) (Int32.ofNat j) u = _
    conv => lhs; unfold bX12_proc_27
    rw [h44, if_neg (show ¬ Int32.ofNat Q ≤ Int32.ofNat j by rw [zn_le (by omega) (by omega)]; omega), zn_rd (by omega) (by decide), h8, if_neg (hno j (Nat.le_refl _) (by omega))]
    unfold bX12_proc_70
    rw [pl_let, zn_1]
    exact ih (j + 1) fu (by omega) (fun k k1 k2 => hno k (by omega) k2)
theorem pl_dupE {u : zS} {Q : Nat} (h44 : u 0 44 = Int32.ofNat Q) (hQ : Q ≤ 300) (h9 : 0 ≤ u 0 9) : ∀ (d j fu : Nat), d + j = Q → lX12_proc_27 (fu + d + 1) (Int32.ofNat j) u = some (0, u) := by
  intro d
  induction d with
  | zero =>
    intro j fu hd
    have : j = Q := by omega
    subst this
    show bX12_proc_27 _ _ _ = _
    unfold bX12_proc_27
    rw [h44, if_pos (by rw [zn_le (by omega) (by omega)]; omega), if_neg (fun w => absurd h9 (Int32.not_le.mpr w))]
  | succ d ih =>
    intro j fu hd
    show bX12_proc_27 (lX12_proc_27 (fu + d + 1)) (Int32.ofNat j) u = _
    unfold bX12_proc_27
    rw [h44, if_neg (show ¬ Int32.ofNat Q ≤ Int32.ofNat j by rw [zn_le (by omega) (by omega)]; omega), zn_rd (by omega) (by decide), if_pos h9]
    unfold bX12_proc_67 bX12_proc_70
    rw [pl_pt, zu_self rfl, pl_let, zn_1, ih (j + 1) fu (by omega), ite_self]
theorem pl_dupYes {u : zS} {Q x k0 : Nat} (h44 : u 0 44 = Int32.ofNat Q) (hQ : Q ≤ 300) (h8 : u 0 8 = Int32.ofNat x) (h9 : u 0 9 = -1) (h6 : 0 ≤ u 0 6) (hk : k0 < Q) (e : u 28 k0 = Int32.ofNat x) : ∀ (d j fu : Nat), d + j = Q → j ≤ k0 → lX12_proc_27 (fu + d + 1) (Int32.ofNat j) u = some (0, zu u 0 9 (u 0 6)) := by
  intro d
  induction d with
  | zero =>
    intro j fu hd hj
    omega
  | succ d ih =>
    intro j fu hd hj
    show bX12_proc_27 (lX12_proc_27 (fu + d + 1)) (Int32.ofNat j) u = _
    unfold bX12_proc_27
    rw [h44, if_neg (show ¬ Int32.ofNat Q ≤ Int32.ofNat j by rw [zn_le (by omega) (by omega)]; omega), zn_rd (by omega) (by decide), h8]
    unfold bX12_proc_67 bX12_proc_70
    by_cases c : u 28 j = Int32.ofNat x
    · rw [if_pos c, if_neg (by rw [h9]; decide), pl_pt, pl_let, zn_1]
      exact pl_dupE (by rw [zu_ne2 (by decide)]; exact h44) hQ (by rw [zu_same]; exact h6) d (j + 1) fu (by omega)
    · rw [if_neg c, pl_let, zn_1]
      exact ih (j + 1) fu (by omega) (by
        rcases Nat.lt_or_ge j k0 with l | l
        · omega
        · exact absurd (by rw [show j = k0 by omega]; exact e) c)
