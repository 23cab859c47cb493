/-! behind the new NAME -/
def zcd (t : zS) (T v : Nat) : zS := zu (zu (zu t 25 v (Int32.ofNat T)) 23 T (t 5 10)) 3 15 (Int32.ofNat (T + 1))
def zmd (u : zS) (T w : Nat) : zS := zu (zu (zu u 11 T (Int32.ofNat w)) 12 T (u 0 6)) 0 22 (Int32.ofNat (T + 1))
def bDefC (t : zS) (T : Int32) : zR := zbd (mX7_step t) fun _ t456 => zbd (mX7_expect 61 t456) fun _ t459 => zbd (mX7_readFormr t459) fun r461 t462 => zbd (mX2_lay T r461 t462) fun _ t465 => zbd (mX7_expect 59 t465) fun _ t468 => some (0, t468)
def bDefM (u : zS) (T : Int32) : zR := zbd (mX12_next u) fun _ t3423 => zbd (mX12_isSign 61 t3423) fun r3425 t3426 => zbd (mX12_passes r3425 t3426) fun r3428 t3429 => if r3428 = 0 then some (0, t3429) else zbd (mX12_typer t3429) fun r3431 t3432 => zwr t3432 13 400 T r3431 fun t3435 => zbd (mX12_isSign 59 t3435) fun r3436 t3437 => zbd (mX12_passes r3436 t3437) fun _ t3440 => some (0, t3440)
theorem zcd_fr {t : zS} {T v : Nat} : zFP zpDC t (zcd t T v) ∧ zFP zpR t (zcd t T v) := ⟨zFP_zu (zFP_zu (zFP_zu (zFP_refl _ _) rfl) rfl) rfl, zFP_zu (zFP_zu (zFP_zu (zFP_refl _ _) rfl) rfl) rfl⟩
theorem zmd_fr {u : zS} {T w : Nat} : zFP zpDM u (zmd u T w) ∧ zFP zpM u (zmd u T w) := ⟨zFP_zu (zFP_zu (zFP_zu (zFP_refl _ _) rfl) rfl) rfl, zFP_zu (zFP_zu (zFP_zu (zFP_refl _ _) rfl) rfl) rfl⟩
theorem zTB_def {G : zTxt} {S H i d : Nat} {f : Nat → Nat} {X : List Nat} {N M P A q T v w : Nat} {t u : zS} (h : zTB G S H i d f X N M P A q t u) : zTB G S H i d f X N M P A q (zcd t T v) (zmd u T w) := by
  unfold zcd zmd
  refine zTB_tu h (fun k hk => ?_) ?_ ?_ (fun k hk => ?_) (fun j hj => ?_) <;> simp (disch := first | omega | decide | assumption) only [zu_same, zu_ne1, zu_ne2, zu_row, pl_bd, pl_pt, pl_let, zn_set, zn_get, zn_rd, zn_wr, zn_1, zn_m, Nat.reduceAdd]
/-- 1: up to TYPE's first word -/
theorem zDefL {G : zTxt} {i : Nat} {f : Nat → Nat} {N M P A T v w V q S : Nat} {t u t0 u0 : zS} (h : zTB G S 0 i 0 f [] N M P A q t u) (h9 : t 5 9 = 17) (hN : N ≤ i ∧ M ≤ i ∧ P ≤ A ∧ zW (t 9) (t 13) N ≤ i ∧ 2 * A + 2 * V ≤ i ∧ 2 * q ≤ i) (hT : T < 400) (ht : zFP zpR t0 t) (hu : zFP zpM u0 u) :
    ∃ t2 u2, bDefC (zcd t T v) (Int32.ofNat T) = some (0, t2) ∧ bDefM (zmd u T w) (Int32.ofNat T) = some (0, u2) ∧ (zGE t0 u0 t2 u2 ∨
      ∃ i2 f2 N2 M2 P2 A2 q2 c, i + 4 ≤ i2 ∧ zTB G S 0 i2 0 f2 [] N2 M2 P2 A2 q2 t2 u2 ∧ N2 ≤ i2 ∧ M2 ≤ i2 ∧ P2 ≤ A2 ∧ zW (t2 9) (t2 13) N2 ≤ i2 ∧ 2 * A2 + 2 * V ≤ i2 ∧ 2 * q2 ≤ i2 ∧ N ≤ N2 ∧ (∀ c, c < N → f2 c = f c) ∧ c < N2 ∧ t2 21 T = Int32.ofNat c ∧ u2 13 T = Int32.ofNat (f2 c) ∧ (∀ k, ¬ k = T → t2 21 k = t 21 k ∧ u2 13 k = u 13 k) ∧ zFP (fun k j => zpTC k j && !(k == 21)) (zcd t T v) t2 ∧ zFP (fun k j => zpTM k j && !(k == 13)) (zmd u T w) u2 ∧ zFP zpR t0 t2 ∧ zFP zpM u0 u2) := by
  have hd := zTB_def (T := T) (v := v) (w := w) h
  have d9 : zcd t T v 5 9 = 17 := by unfold zcd; simp (disch := first | omega | decide | assumption) only [zu_same, zu_ne1, zu_ne2, zu_row, pl_bd, pl_pt, pl_let, zn_set, zn_get, zn_rd, zn_wr, zn_1, zn_m, Nat.reduceAdd]; exact h9
  have dR9 : zcd t T v 9 = t 9 := by unfold zcd; simp (disch := first | omega | decide | assumption) only [zu_same, zu_ne1, zu_ne2, zu_row, pl_bd, pl_pt, pl_let, zn_set, zn_get, zn_rd, zn_wr, zn_1, zn_m, Nat.reduceAdd]
  have dR13 : zcd t T v 13 = t 13 := by unfold zcd; simp (disch := first | omega | decide | assumption) only [zu_same, zu_ne1, zu_ne2, zu_row, pl_bd, pl_pt, pl_let, zn_set, zn_get, zn_rd, zn_wr, zn_1, zn_m, Nat.reduceAdd]
  obtain ⟨t1, u1, a1, a2, a3, a4, a5, a6, a7, a8⟩ := zTB_step hd (by rw [d9]; decide)
  unfold bDefC bDefM
  rw [a1, pl_bd, a2, pl_bd, zAt_sg a3.1 (c := 61) (by decide), pl_bd]
  obtain ⟨t2, r, u2, b1, b2, b3, b4, b5⟩ := zAt_expect (c := 61) a3.1 (by decide)
  rw [b1, pl_bd, b2, pl_bd]
  have fR := zFP_trans (zFP_trans ht (zcd_fr (T := T) (v := v)).2) (zFP_rS a7)
  have fM := zFP_trans (zFP_trans hu (zmd_fr (T := T) (w := w)).2) (zFP_M (zFP_N a8))
  rcases b5 with ⟨_, b6, b7, b8, b9⟩ | ⟨_, b6, b7⟩
  · subst b6
    rw [if_neg pl_10]
    obtain ⟨c1, c2, c3⟩ := zTB_fr (d2 := 0) a3 b7 (by rw [b8]; exact a3.2.1) (by rw [b9]; exact a3.2.2.1) b3 b4
    have hS : zTS G (2 * V) 0 0 S 0 (i + 1 + 1) 0 f [] N M P A q t2 u2 := ⟨c1, by omega, by omega, by omega, by omega, by rw [c2, c3, a5, a6, dR9, dR13]; omega⟩
    obtain ⟨rc, t3, rm, u3, e1, e2, e3⟩ := zForm (d := 0) (by omega) G (2 * V) 0 0 S 0 (i + 1 + 1) f [] N M P A q t2 u2 hS (by omega)
    rw [e1, pl_bd, e2, pl_bd]
    have f1 : zFP zpTC (zcd t T v) t2 := zFP_trans (zFP_S a7) (zFP_S b3)
    have f2' : zFP zpTM (zmd u T w) u2 := zFP_trans (zFP_N a8) (zFP_N b4)
    rcases e3 with ⟨i2, f2, N2, M2, P2, A2, q2, c, g1, g2, g3, g4, g5, g6, g7, g8⟩ | e3
    · have hx := zFP_trans f1 (zTX_C g2)
      have hy := zFP_trans f2' (zTX_M g2)
      subst g7 g8
      unfold mX2_lay
      rw [zn_set (by omega) (by decide), pl_bd, pl_bd, zn_wr (by omega) (by decide)]
      have hB : zTB G S 0 i2 0 f2 [] N2 M2 P2 A2 q2 (zu t3 21 T (Int32.ofNat c)) (zu u3 13 T (Int32.ofNat (f2 c))) := by
        refine zTB_tu g3.1 (fun k hk => ?_) ?_ ?_ (fun k hk => ?_) (fun j hj => ?_) <;> simp (disch := first | omega | decide | assumption) only [zu_same, zu_ne1, zu_ne2, zu_row, pl_bd, pl_pt, pl_let, zn_set, zn_get, zn_rd, zn_wr, zn_1, zn_m, Nat.reduceAdd]
      rw [zAt_sg hB.1 (c := 59) (by decide), pl_bd]
      obtain ⟨t4, r4, u4, k1, k2, k3, k4, k5⟩ := zAt_expect (c := 59) hB.1 (by decide)
      rw [k1, pl_bd, k2, pl_bd]
      refine ⟨_, _, rfl, rfl, ?_⟩
      have nR : zFP zpR t0 (zu t3 21 T (Int32.ofNat c)) := zFP_zu (zFP_trans (zFP_trans ht (zcd_fr (T := T) (v := v)).2) (zFP_R hx)) rfl
      have nM : zFP zpM u0 (zu u3 13 T (Int32.ofNat (f2 c))) := zFP_zu (zFP_trans (zFP_trans hu (zmd_fr (T := T) (w := w)).2) (zFP_M hy)) rfl
      rcases k5 with ⟨_, _, k7, k8, k9⟩ | ⟨_, _, k7⟩
      · obtain ⟨l1, l2, l3⟩ := zTB_fr (d2 := 0) hB k7 (by rw [k8]; exact hB.2.1) (by rw [k9]; exact hB.2.2.1) k3 k4
        have r21 := k3.1 21 (by decide)
        have m13 := k4.1 13 (by decide) (by decide) (by decide)
        have hxx : zFP (fun k j => zpTC k j && !(k == 21)) (zcd t T v) t4 := zFP_trans (zFP_zu (zFP_mono hx (fun k j e => (Bool.and_eq_true _ _ ▸ e).1)) rfl) (zFP_mono (zFP_S k3) (fun k j e => (Bool.and_eq_true _ _ ▸ e).1))
        have hyy : zFP (fun k j => zpTM k j && !(k == 13)) (zmd u T w) u4 := zFP_trans (zFP_zu (zFP_mono hy (fun k j e => (Bool.and_eq_true _ _ ▸ e).1)) rfl) (zFP_mono (zFP_N k4) (fun k j e => (Bool.and_eq_true _ _ ▸ e).1))
        have x21 : t3 21 = t 21 := by rw [zFP_row 21 hx (fun _ => rfl)]; unfold zcd; simp (disch := first | omega | decide | assumption) only [zu_same, zu_ne1, zu_ne2, zu_row, pl_bd, pl_pt, pl_let, zn_set, zn_get, zn_rd, zn_wr, zn_1, zn_m, Nat.reduceAdd]
        have x13 : u3 13 = u 13 := by rw [zFP_row 13 hy (fun _ => rfl)]; unfold zmd; simp (disch := first | omega | decide | assumption) only [zu_same, zu_ne1, zu_ne2, zu_row, pl_bd, pl_pt, pl_let, zn_set, zn_get, zn_rd, zn_wr, zn_1, zn_m, Nat.reduceAdd]
        obtain ⟨h1, h2, h3, h4, h5, h6⟩ := g3
        refine Or.inr ⟨i2 + 1, f2, N2, M2, P2, A2, q2, c, by omega, l1, by omega, by omega, by omega, ?_, by omega, by omega, g2.1, fun x hx' => (g2.2.2.2.2.1 x hx').1, g6, by rw [r21, zu_same], by rw [m13, zu_same], fun k hk => ?_, hxx, hyy, zFP_trans nR (zFP_rS k3), zFP_trans nM (zFP_M (zFP_N k4))⟩
        · rw [l2, l3]; simp (disch := first | omega | decide | assumption) only [zu_same, zu_ne1, zu_ne2, zu_row, pl_bd, pl_pt, pl_let, zn_set, zn_get, zn_rd, zn_wr, zn_1, zn_m, Nat.reduceAdd]; omega
        · rw [r21, m13, zu_ne2 hk, zu_ne2 hk, x21, x13]; exact ⟨rfl, rfl⟩
      · exact Or.inl (zGE_fr k7 k3 k4 nR nM)
    · have hE := zGE_T e3 (zFP_trans fR (zFP_rS b3)) (zFP_trans fM (zFP_M (zFP_N b4)))
      unfold mX2_lay
      obtain ⟨t4, l1, l2⟩ := zEs_set (c := 20) (n := 400) (x := Int32.ofNat T) (v := rc) (zEr_c hE.1) (by decide) (fun _ => rfl)
      have hE2 := zGE_c hE l2
      rw [l1, pl_bd, pl_bd, zEc_expect l2.1 (by decide), pl_bd, zn_wr (by omega) (by decide), zEm_sg (show 0 ≤ zu u3 13 T rm 0 9 by rw [zu_ne1 (by decide)]; exact zEr_m hE.1), pl_bd, zEm_passes (show 0 ≤ zu u3 13 T rm 0 9 by rw [zu_ne1 (by decide)]; exact zEr_m hE.1), pl_bd]
      refine ⟨_, _, rfl, rfl, Or.inl ⟨zEr_of hE2.1 l2.1 rfl (by simp (disch := first | omega | decide | assumption) only [zu_same, zu_ne1, zu_ne2, zu_row, pl_bd, pl_pt, pl_let, zn_set, zn_get, zn_rd, zn_wr, zn_1, zn_m, Nat.reduceAdd]), hE2.2.1, zFP_zu (zFP_zu hE2.2.2 rfl) rfl⟩⟩
  · subst b6
    rw [if_pos rfl]
    have hE := zGE_fr b7 b3 b4 fR fM
    rw [zEc_form (zEr_c b7), pl_bd]
    unfold mX2_lay
    obtain ⟨t4, l1, l2⟩ := zEs_set (c := 20) (n := 400) (x := Int32.ofNat T) (v := -1) (zEr_c hE.1) (by decide) (fun _ => rfl)
    rw [l1, pl_bd, pl_bd, zEc_expect l2.1 (by decide), pl_bd]
    exact ⟨_, _, rfl, rfl, Or.inl (zGE_c hE l2)⟩
