/-! STATEMENTS: behind a fault -/
def zEs (t t2 : zS) : Prop := zEc t2 ∧ zFP zpR t t2 ∧ t2 5 12 = t 5 12
theorem zEs_refl {t : zS} (h : zEc t) : zEs t t := ⟨h, zFP_refl _ _, rfl⟩
theorem zEs_trans {a b c : zS} (h : zEs a b) (h2 : zEs b c) : zEs a c := ⟨h2.1, zFP_trans h.2.1 h2.2.1, h2.2.2.trans h.2.2⟩
theorem zFP_rS {t t2 : zS} (h : zSf t t2) : zFP zpR t t2 := zFP_R (zFP_S h)
theorem zEs_sf {t t2 : zS} (h1 : zEc t2) (h2 : zSf t t2) (h3 : t2 5 12 = t 5 12) : zEs t t2 := ⟨h1, zFP_rS h2, h3⟩
def zpR5 (k j : Nat) : Bool := k == 5 || zpR k j
theorem zFP_R5 {t t2 : zS} (h : zFP zpR5 t t2) : zFP zpR t t2 ∧ t2 5 = t 5 :=
  ⟨zFP_mono h (fun k j q => by unfold zpR5; rw [q, Bool.or_true]), zFP_row 5 h (fun _ => rfl)⟩
theorem zEs_5 {t t2 : zS} (h : zEc t) (h2 : zFP zpR5 t t2) : zEs t t2 := by
  obtain ⟨a, b⟩ := zFP_R5 h2
  exact ⟨zEc_of h b, a, by rw [b]⟩
theorem zEs_set {c n : Nat} {x v : Int32} {t : zS} (h : zEc t) (hn : n < 2147483648) (hp : ∀ j, zpR5 (c + 1) j = false) : ∃ t2, mX5_set c n x v t = some (0, t2) ∧ zEs t t2 := by
  obtain ⟨t2, a1, a2⟩ := pl_setF (p := zpR5) (c := c) (n := n) (x := x) (v := v) (t := t) hn hp
  exact ⟨t2, a1, zEs_5 h a2⟩
theorem zFP_ER {t t2 : zS} (h : zFP zpEC t t2) : zFP zpR t t2 := by
  refine zFP_mono h (fun k j q => ?_)
  unfold zpR at q
  unfold zpEC
  simp only [Bool.or_eq_true, Bool.and_eq_true, beq_iff_eq, decide_eq_true_eq] at q
  rw [if_neg (by omega)]
  simp only [Bool.not_eq_true', Bool.or_eq_false_iff, beq_eq_false_iff_ne]
  omega
theorem zFP_EM {u u2 : zS} (h : zFP zpEM u u2) : zFP zpM u u2 := by
  refine zFP_mono h (fun k j q => ?_)
  unfold zpM at q
  unfold zpEM
  simp only [Bool.or_eq_true, Bool.and_eq_true, beq_iff_eq, decide_eq_true_eq] at q
  by_cases e : k = 0
  · rw [if_pos e]
    simp only [Bool.not_eq_true', Bool.or_eq_false_iff, Bool.and_eq_false_iff, beq_eq_false_iff_ne, decide_eq_false_iff_not]
    omega
  · rw [if_neg e]
    simp only [Bool.not_eq_true', Bool.or_eq_false_iff, beq_eq_false_iff_ne]
    omega
/-- the class reads an EXPRESSION behind a fault -/
theorem zEc_expr {t : zS} (h : zEc t) : mX7_readExpressionr t = some (0, t) := by
  have e21 : ∀ c : Int32, ¬ (21 : Int32) = c → ¬ t 5 9 = c := fun c hc => by rw [h.1]; exact hc
  have ea : (grgX7_readExpression 297).2.2.2 t = some (0, t) := by
    show mX7_readAtom (grgX7_readExpression 296) t = _
    unfold mX7_readAtom
    rw [if_neg (e21 18 (by decide)), if_neg (e21 17 (by decide)), if_neg (e21 45 (by decide)), zEc_enter h (by decide), pl_bd, if_pos rfl]
  have ep : (grgX7_readExpression 298).2.2.1 t = some (0, t) := by
    show mX7_readProduct (grgX7_readExpression 297) t = _
    unfold mX7_readProduct
    rw [ea, pl_bd]
    show bX7_readProduct_6 _ _ _ _ = _
    unfold bX7_readProduct_6
    rw [if_neg (e21 42 (by decide)), if_neg (e21 47 (by decide)), if_neg (e21 37 (by decide))]
    exact ite_self _
  have es : (grgX7_readExpression 299).2.1 t = some (0, t) := by
    show mX7_readSum (grgX7_readExpression 298) t = _
    unfold mX7_readSum
    rw [ep, pl_bd]
    show bX7_readSum_6 _ _ _ _ = _
    unfold bX7_readSum_6
    rw [if_neg (e21 43 (by decide)), if_neg (e21 45 (by decide))]
    exact ite_self _
  show mX7_readExpression (grgX7_readExpression 299) t = _
  unfold mX7_readExpression
  rw [es, pl_bd, if_neg (e21 60 (by decide)), if_neg (e21 256 (by decide))]
theorem zEm_expr {u : zS} (h : 0 ≤ u 0 9) : mX12_comparedr u = some (0, u) := by
  have ea : (grgX12_compared 297).2.2.2 u = some (0, u) := by
    show mX12_atom (grgX12_compared 296) u = _
    unfold mX12_atom
    rw [if_neg (fun w => absurd h (Int32.not_le.mpr w))]
  have ep : (grgX12_compared 298).2.2.1 u = some (0, u) := by
    show mX12_product (grgX12_compared 297) u = _
    unfold mX12_product
    rw [ea, pl_bd]
    show bX12_product_4 _ _ _ = _
    unfold bX12_product_4
    rw [zEm_sg h, pl_bd, if_pos rfl, zEm_sg h, pl_bd, if_pos rfl, zEm_sg h, pl_bd, if_pos rfl]
  have es : (grgX12_compared 299).2.1 u = some (0, u) := by
    show mX12_sum (grgX12_compared 298) u = _
    unfold mX12_sum
    rw [ep, pl_bd]
    show bX12_sum_4 _ _ _ = _
    unfold bX12_sum_4
    rw [zEm_sg h, pl_bd, if_pos rfl, zEm_sg h, pl_bd, if_pos rfl]
  show mX12_compared (grgX12_compared 299) u = _
  unfold mX12_compared
  rw [es, pl_bd, zEm_sg h, pl_bd, if_pos rfl, zEm_sg h, pl_bd, if_pos rfl]
theorem zEs_formula {t : zS} {s : Int32} (h : zEc t) : ∃ t2, mX7_readFormula s t = some (0, t2) ∧ zEs t t2 := by
  unfold mX7_readFormula
  obtain ⟨t1, a1, a2⟩ := zEs_set (c := 94) (n := 1000) (x := s) (v := t 51 6) h (by decide) (fun _ => rfl)
  rw [a1, pl_bd, zEc_expr a2.1, pl_bd]
  obtain ⟨t2, b1, b2⟩ := zEs_set (c := 96) (n := 1000) (x := s) (v := t1 51 6) a2.1 (by decide) (fun _ => rfl)
  rw [b1, pl_bd]
  exact ⟨t2, rfl, zEs_trans a2 b2⟩
theorem zEs_slot {t : zS} {s : Int32} (h : zEc t) : mX7_readSlot s t = some (0, t) := by
  unfold mX7_readSlot
  rw [if_neg (by rw [h.1]; decide), zEc_refuse h, pl_bd]
theorem zEs_second {t : zS} {s x : Int32} (h : zEc t) : mX7_readSecond s x t = some (0, t) := by
  unfold mX7_readSecond
  rw [if_neg (by rw [h.1]; decide), zEc_refuse h, pl_bd]
theorem zEs_block {t : zS} {g : GgX7_readBlock} {x : Int32} (h : zEc t) : mX7_readBlock g x t = some (-1, t) := by
  unfold mX7_readBlock
  rw [zEc_enter h (by decide), pl_bd, if_pos rfl]
theorem zEs_cases {t : zS} {g : GgX7_readBlock} {x : Int32} (h : zEc t) : mX7_readCases g x t = some (0, t) := by
  unfold mX7_readCases
  rw [zEc_enter h (by decide), pl_bd, if_pos rfl]
theorem zEs_addBranch {t : zS} {x1 x2 x3 x4 : Int32} (h : zEc t) : ∃ r t2, mX9_addBranch x1 x2 x3 x4 t = some (r, t2) ∧ zEs t t2 := by
  unfold mX9_addBranch
  obtain ⟨t1, a1, a2⟩ := zEs_set (c := 108) (n := 1600) (x := t 52 16) (v := x3) h (by decide) (fun _ => rfl)
  rw [a1, pl_bd]
  obtain ⟨t2, b1, b2⟩ := zEs_set (c := 110) (n := 1600) (x := t1 52 16) (v := x4) a2.1 (by decide) (fun _ => rfl)
  rw [b1, pl_bd]
  obtain ⟨t3, c1, c2⟩ := zEs_set (c := 112) (n := 1600) (x := t2 52 16) (v := 0) b2.1 (by decide) (fun _ => rfl)
  rw [c1, pl_bd]
  obtain ⟨t4, d1, d2⟩ := zEs_set (c := 114) (n := 1600) (x := t3 52 16) (v := -1) c2.1 (by decide) (fun _ => rfl)
  rw [d1, pl_bd]
  have h4 := zEs_trans a2 (zEs_trans b2 (zEs_trans c2 d2))
  have fin : ∀ t5, zEs t t5 → ∃ r t2, bX9_addBranch_80 t5 = some (r, t2) ∧ zEs t t2 := by
    intro t5 h5
    unfold bX9_addBranch_80
    rw [pl_pt]
    refine ⟨_, _, rfl, ⟨by rw [zu_ne1 (by decide)]; exact h5.1.1, by rw [zu_ne1 (by decide)]; exact h5.1.2⟩, zFP_zu h5.2.1 rfl, by rw [zu_ne1 (by decide)]; exact h5.2.2⟩
  by_cases q : 0 ≤ x2
  · rw [if_pos q]
    obtain ⟨t5, e1, e2⟩ := zEs_set (c := 114) (n := 1600) (x := x2) (v := t4 52 16) d2.1 (by decide) (fun _ => rfl)
    rw [e1, pl_bd]
    exact fin t5 (zEs_trans h4 e2)
  · rw [if_neg q]
    obtain ⟨t5, e1, e2⟩ := zEs_set (c := 104) (n := 1000) (x := x1) (v := t4 52 16) d2.1 (by decide) (fun _ => rfl)
    rw [e1, pl_bd]
    exact fin t5 (zEs_trans h4 e2)
/-- something went wrong inside STATEMENTS -/
def zSE (H : Nat) (t u t2 u2 : zS) : Prop := zEr t2 u2 ∧ (∃ C, u2 0 42 = Int32.ofNat C ∧ C ≤ 6400) ∧ (∃ A V H2, u2 0 19 = Int32.ofNat A ∧ u2 0 36 = Int32.ofNat V ∧ u2 0 59 = Int32.ofNat (2 * H2) ∧ H ≤ H2 ∧ 2 * A + 2 * V + 2 * H2 ≤ 3002) ∧ zFP zpR t t2 ∧ zFP zpM u u2
theorem zSE_c {H : Nat} {t u t2 u2 t3 : zS} (h : zSE H t u t2 u2) (h2 : zEs t2 t3) : zSE H t u t3 u2 := by
  obtain ⟨a1, a2, a3, a4, a5⟩ := h
  exact ⟨zEr_of a1 h2.1 h2.2.2 rfl, a2, a3, zFP_trans a4 h2.2.1, a5⟩
theorem zSE_pre {H : Nat} {t u t1 u1 t2 u2 : zS} (h : zSE H t1 u1 t2 u2) (h1 : zFP zpR t t1) (h2 : zFP zpM u u1) : zSE H t u t2 u2 := ⟨h.1, h.2.1, h.2.2.1, zFP_trans h1 h.2.2.2.1, zFP_trans h2 h.2.2.2.2⟩
theorem zSE_H {H H1 : Nat} {t u t2 u2 : zS} (h : zSE H1 t u t2 u2) (hH : H ≤ H1) : zSE H t u t2 u2 := by
  obtain ⟨a1, a2, ⟨A, V, H2, b1, b2, b3, b4, b5⟩, a4⟩ := h
  exact ⟨a1, a2, ⟨A, V, H2, b1, b2, b3, by omega, b5⟩, a4⟩
/-- the reference writes a row that matters no more -/
theorem zSE_m {H : Nat} {t u t2 u2 u3 : zS} (h : zSE H t u t2 u2) (h0 : ∀ j, ¬ j = 5 → u3 0 j = u2 0 j) (hp : zFP zpM u2 u3) : zSE H t u t2 u3 := by
  obtain ⟨a1, a2, a3, a4, a5⟩ := h
  refine ⟨⟨a1.1, a1.2.1, by rw [h0 9 (by decide)]; exact a1.2.2⟩, ?_, ?_, a4, zFP_trans a5 hp⟩
  · rw [h0 42 (by decide)]; exact a2
  · rw [h0 19 (by decide), h0 36 (by decide), h0 59 (by decide)]; exact a3
theorem zSE_zu {H k j : Nat} {v : Int32} {t u t2 u2 : zS} (h : zSE H t u t2 u2) (hk : ¬ k = 0) (hp : zpM k j = false) : zSE H t u t2 (zu u2 k j v) :=
  zSE_m h (fun j' _ => zu_ne1 (fun e => hk e.symm)) (zFP_zu (zFP_refl _ _) hp)
theorem zSE_5 {H : Nat} {t u t2 u2 : zS} (h : zSE H t u t2 u2) : zSE H t u t2 (zu u2 0 5 0) := zSE_m h (fun j hj => zu_ne2 hj) (zFP_zu (zFP_refl _ _) rfl)
theorem zSE_ofE {H A V cb : Nat} {t u t2 u2 : zS} (h : zEE cb t u t2 u2) (hcb : cb ≤ 6400) (h1 : u 0 19 = Int32.ofNat A) (h2 : u 0 36 = Int32.ofNat V) (h3 : u 0 59 = Int32.ofNat (2 * H)) (hb : 2 * A + 2 * V + 2 * H ≤ 3002) : zSE H t u t2 u2 := by
  obtain ⟨a1, ⟨C, b1, b2⟩, a3, a4⟩ := h
  exact ⟨a1, ⟨C, b1, by omega⟩, ⟨A, V, H, by rw [a4 0 19 rfl]; exact h1, by rw [a4 0 36 rfl]; exact h2, by rw [a4 0 59 rfl]; exact h3, Nat.le_refl _, hb⟩, zFP_ER a3, zFP_EM a4⟩
/-- told behind a fault -/
theorem zSE_told {H : Nat} {t u t2 u2 : zS} (h : zSE H t u t2 u2) (hc : ∃ C, u2 0 42 = Int32.ofNat C ∧ C ≤ 6399) : ∃ r u3, mX12_told u2 = some (r, u3) ∧ zSE H t u t2 u3 := by
  obtain ⟨a1, a2, ⟨A, V, H2, b1, b2, b3, b4, b5⟩, a4, a5⟩ := h
  obtain ⟨C, c1, c2⟩ := hc
  unfold mX12_told
  rw [pl_let, zEm_expr (zEr_m a1), pl_bd, zm_put c1 (by omega), pl_bd]
  refine ⟨_, _, rfl, ⟨a1.1, a1.2.1, by simp (disch := first | omega | decide | assumption) only [zu_same, zu_ne1, zu_ne2, zu_row, pl_bd, pl_pt, pl_let, zn_set, zn_get, zn_rd, zn_wr, zn_1, zn_m, Nat.reduceAdd]; exact a1.2.2⟩, ⟨C + 1, by simp (disch := first | omega | decide | assumption) only [zu_same, zu_ne1, zu_ne2, zu_row, pl_bd, pl_pt, pl_let, zn_set, zn_get, zn_rd, zn_wr, zn_1, zn_m, Nat.reduceAdd], by omega⟩, ⟨A, V, H2, by simp (disch := first | omega | decide | assumption) only [zu_same, zu_ne1, zu_ne2, zu_row, pl_bd, pl_pt, pl_let, zn_set, zn_get, zn_rd, zn_wr, zn_1, zn_m, Nat.reduceAdd, b1], by simp (disch := first | omega | decide | assumption) only [zu_same, zu_ne1, zu_ne2, zu_row, pl_bd, pl_pt, pl_let, zn_set, zn_get, zn_rd, zn_wr, zn_1, zn_m, Nat.reduceAdd, b2], by simp (disch := first | omega | decide | assumption) only [zu_same, zu_ne1, zu_ne2, zu_row, pl_bd, pl_pt, pl_let, zn_set, zn_get, zn_rd, zn_wr, zn_1, zn_m, Nat.reduceAdd, b3], b4, b5⟩, a4, zFP_zu (zFP_zu a5 rfl) rfl⟩
theorem zEm_own {u : zS} (h : 0 ≤ u 0 9) : mX12_own u = some (-1, zu u 0 5 0) := by
  have e : ¬ u 0 9 < 0 := fun w => absurd h (Int32.not_le.mpr w)
  unfold mX12_own bX12_own_15
  rw [zEm_fails h, pl_bd]
  by_cases q : u 0 5 = 2
  · rw [if_pos q, if_neg e]
  · rw [if_neg q]
