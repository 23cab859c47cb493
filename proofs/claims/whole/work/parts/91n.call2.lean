/-! spawn and become in lockstep -/
/-- rows of a call's statement ahead of the proc's NAME -/
def zRc (S p : Nat) (hx : Int32) (t u : zS) : Prop := (t 89 S = u 15 S ∧ 0 ≤ t 89 S) ∧ u 18 S = -1 ∧ t 99 S = -1 ∧ t 101 S = hx ∧ ((t 87 S = 8 ∧ u 14 S = 7 ∧ t 91 S = -1 ∧ u 16 S = -1) ∨ (t 87 S = 8 ∧ u 14 S = 8 ∧ zSo t p (t 91 S) (u 16 S)) ∨ (t 87 S = 9 ∧ u 14 S = 9 ∧ t 91 S = -1 ∧ u 16 S = -1))
theorem zCall92 {G : zTxt} {i0 i d p b H : Nat} {f : Nat → Nat} {N M A S n F C R W V q n2 F2 C2 e : Nat} {hx : Int32} {o : Nat → Nat × Nat} {w : Nat → Nat} {Y Z : List Nat} {t0 u0 t u : zS} (h : zBB G i0 d p b H f N M A S n F C R W V q o w Y Z t0 u0) (hN : zBN i0 A H b S n F C R W V q) (hU : zUW G i0 i d p b H f N M A S n F C R W V q n2 F2 C2 o w t0 u0 t u) (hd : d ≤ 40) (hS : S < 1000) (hi : i0 + 1 ≤ i) (hH : zHd o S p e t0 hx) (he : e ≤ 39) (h9 : t 5 9 = 17) (hr : zRc S p hx t u) :
    ∃ rc t2 rm u2, bX7_readCall_29 (Int32.ofNat S) t = some (rc, t2) ∧ (zbd (zbd (mX12_next u) fun _ u1 => bX12_called_92 (Int32.ofNat S) (u 0 8) (u 0 6) u1) fun _ u2 => bX12_simple_162 (Int32.ofNat S) u2) = some (rm, u2) ∧ zSP G i0 d p b H f N M A S n F C R W V q o w Y Z e hx t0 u0 (Int32.ofNat S) t2 rm u2 := by
  have hN2 := hN
  obtain ⟨m1, m2, m3, m4, m5, m6, m7, m8⟩ := hN
  obtain ⟨v, x, v1, v2, v3, v4, v5⟩ := zAt_nmv hU.1.1 h9
  have hpl := (zAt_w hU.1.1).2.1
  have hpl0 := zAt_0le hU.1.1
  obtain ⟨s1, s4, s8, s9, s15⟩ := hr
  obtain ⟨a1, a2, a3, a4, a5, a6, a7, a8, a9, a10, a11, a12, a13, a14, a15, a16, a17⟩ := hU
  have e2 : 2 * t 5 11 + 1 = Int32.ofNat (2 * v + 1) := by
    rw [v1]
    show Int32.ofNat 2 * Int32.ofNat v + Int32.ofNat 1 = _
    rw [zn_mul, zn_add]
  have hq := a3.1
  have hl0 := zAt_lt a1.1
  unfold bX7_readCall_29
  rw [if_pos h9, zc_mn hq (by omega), pl_bd, e2]
  have c11 : zcm t q (Int32.ofNat (2 * v + 1)) 5 11 = Int32.ofNat v := by unfold zcm; simp (disch := first | omega | decide | assumption) only [zu_same, zu_ne1, zu_ne2, zu_row, pl_bd, pl_pt, pl_let, zn_set, zn_get, zn_rd, zn_wr, zn_1, zn_m, Nat.reduceAdd, v1]
  rw [c11, zn_set hS (by decide), pl_bd]
  show ∃ rc t2 rm u2, (zbd (mX7_step (zu (zcm t q (Int32.ofNat (2 * v + 1))) 93 S (Int32.ofNat v))) fun _ t720 => zbd (mX7_enter 40 t720) fun r722 t723 => if r722 = 0 then some (0, t723) else zbd (mX5_set 94 1000 (Int32.ofNat S) (t723 51 7) t723) fun _ t726 => lX7_readCall_97 zFU (Int32.ofNat S) 0 t726) = some (rc, t2) ∧ _
  have rb : ∀ k, ¬ (k = 5 ∨ k = 54 ∨ k = 56 ∨ k = 93) → zu (zcm t q (Int32.ofNat (2 * v + 1))) 93 S (Int32.ofNat v) k = t k := fun k hk => by unfold zcm; simp (disch := first | omega | decide | assumption) only [zu_same, zu_ne1, zu_ne2, zu_row, pl_bd, pl_pt, pl_let, zn_set, zn_get, zn_rd, zn_wr, zn_1, zn_m, Nat.reduceAdd]
  have rb5 : ∀ j, ¬ j = 7 → zu (zcm t q (Int32.ofNat (2 * v + 1))) 93 S (Int32.ofNat v) 5 j = t 5 j := fun j hj => by unfold zcm; simp (disch := first | omega | decide | assumption) only [zu_same, zu_ne1, zu_ne2, zu_row, pl_bd, pl_pt, pl_let, zn_set, zn_get, zn_rd, zn_wr, zn_1, zn_m, Nat.reduceAdd]
  have rb7 : zu (zcm t q (Int32.ofNat (2 * v + 1))) 93 S (Int32.ofNat v) 5 7 = Int32.ofNat (q + 1) := by unfold zcm; simp (disch := first | omega | decide | assumption) only [zu_same, zu_ne1, zu_ne2, zu_row, pl_bd, pl_pt, pl_let, zn_set, zn_get, zn_rd, zn_wr, zn_1, zn_m, Nat.reduceAdd]
  have rb54 : ∀ k, k < q → zu (zcm t q (Int32.ofNat (2 * v + 1))) 93 S (Int32.ofNat v) 54 k = t 54 k ∧ zu (zcm t q (Int32.ofNat (2 * v + 1))) 93 S (Int32.ofNat v) 56 k = t 56 k := fun k hk => by unfold zcm; constructor <;> simp (disch := first | omega | decide | assumption) only [zu_same, zu_ne1, zu_ne2, zu_row, pl_bd, pl_pt, pl_let, zn_set, zn_get, zn_rd, zn_wr, zn_1, zn_m, Nat.reduceAdd]
  have rb54q : zu (zcm t q (Int32.ofNat (2 * v + 1))) 93 S (Int32.ofNat v) 54 q = t 5 10 ∧ zu (zcm t q (Int32.ofNat (2 * v + 1))) 93 S (Int32.ofNat v) 56 q = Int32.ofNat (2 * v + 1) := by unfold zcm; constructor <;> simp (disch := first | omega | decide | assumption) only [zu_same, zu_ne1, zu_ne2, zu_row, pl_bd, pl_pt, pl_let, zn_set, zn_get, zn_rd, zn_wr, zn_1, zn_m, Nat.reduceAdd]
  have rb93 : ∀ s, ¬ s = S → zu (zcm t q (Int32.ofNat (2 * v + 1))) 93 S (Int32.ofNat v) 93 s = t 93 s := fun s hs => by unfold zcm; simp (disch := first | omega | decide | assumption) only [zu_same, zu_ne1, zu_ne2, zu_row, pl_bd, pl_pt, pl_let, zn_set, zn_get, zn_rd, zn_wr, zn_1, zn_m, Nat.reduceAdd]
  have rb93q : zu (zcm t q (Int32.ofNat (2 * v + 1))) 93 S (Int32.ofNat v) 93 S = Int32.ofNat v := zu_same _ _ _ _
  have lb : zLm (zLQ p S F R W q) t0 (zu (zcm t q (Int32.ofNat (2 * v + 1))) 93 S (Int32.ofNat v)) := by
    unfold zcm
    exact zLm_zu (zLm_zu (zLm_zu (zLm_zu a2.2.2.2.2.2.2.2.2.2.2.1 (Nat.le_refl q)) (Nat.le_refl q)) (Nat.zero_le _)) (Nat.le_refl S)
  have pb : zFP zpR t0 (zu (zcm t q (Int32.ofNat (2 * v + 1))) 93 S (Int32.ofNat v)) := by
    unfold zcm
    exact zFP_zu (zFP_zu (zFP_zu (zFP_zu a16 rfl) rfl) rfl) rfl
  generalize zu (zcm t q (Int32.ofNat (2 * v + 1))) 93 S (Int32.ofNat v) = tb at *
  have hEb : zEB G i d p b n2 F2 C2 tb u := by
    obtain ⟨b1, b2, b3, b4, b5, b6⟩ := a1
    exact ⟨zAt_of b1 (fun j j1 _ => rb5 j (by omega)) (rb 67 (by omega)) (by rw [rb 50 (by omega)]) (fun _ _ _ => rfl) rfl rfl rfl, by rw [rb5 13 (by omega)]; exact b2, b3, zSl_of b4 (Nat.le_refl _) (by rw [rb 4 (by omega)]) rfl (rb 39 (by omega)) (rb 47 (by omega)) (rb 49 (by omega)) rfl rfl, by rw [rb 51 (by omega)]; exact b5, b6⟩
  obtain ⟨tc, ua, d1, d2, d3, d4, d5, d6⟩ := zEB_step hEb (by rw [rb5 9 (by omega), h9]; decide)
  have hl1 := zAt_lt d3.1
  rw [d1, pl_bd, d2, pl_bd]
  have g52 : ua 0 52 = Int32.ofNat q := by rw [d6.2 52 (by decide)]; exact a3.2.1
  have g39 : ua 0 39 = Int32.ofNat R := by rw [d6.2 39 (by decide)]; exact a7
  -- the reference's rows
  have eM : bX12_called_92 (Int32.ofNat S) (u 0 8) (u 0 6) ua = (zbd (mX12_isSign 40 (zu (zu (zu (zu (zu (zu (zu ua 35 q (u 0 8)) 36 q (u 0 6)) 37 q 1) 38 q (Int32.ofNat S)) 0 52 (Int32.ofNat (q + 1))) 19 S (Int32.ofNat R)) 20 S 0)) fun r3027 t3028 => zbd (mX12_opens r3027 t3028) fun r3030 t3031 => if r3030 = 0 then some (0, t3031) else zbd (mX12_isSign 41 t3031) fun r3033 t3034 => if r3033 = 0 then bX12_called_187 (Int32.ofNat S) 1 t3034 else bX12_called_187 (Int32.ofNat S) 0 t3034) := by
    simp (disch := first | omega | decide | assumption) only [zu_same, zu_ne1, zu_ne2, zu_row, pl_bd, pl_pt, pl_let, zn_set, zn_get, zn_rd, zn_wr, zn_1, zn_m, Nat.reduceAdd, bX12_called_92, g52, g39]
  rw [eM]
  have mb : ∀ k, ¬ (k = 0 ∨ k = 35 ∨ k = 36 ∨ k = 37 ∨ k = 38 ∨ k = 19 ∨ k = 20) → zu (zu (zu (zu (zu (zu (zu ua 35 q (u 0 8)) 36 q (u 0 6)) 37 q 1) 38 q (Int32.ofNat S)) 0 52 (Int32.ofNat (q + 1))) 19 S (Int32.ofNat R)) 20 S 0 k = ua k := fun k hk => by simp (disch := first | omega | decide | assumption) only [zu_same, zu_ne1, zu_ne2, zu_row, pl_bd, pl_pt, pl_let, zn_set, zn_get, zn_rd, zn_wr, zn_1, zn_m, Nat.reduceAdd]
  have mb0 : ∀ j, ¬ j = 52 → zu (zu (zu (zu (zu (zu (zu ua 35 q (u 0 8)) 36 q (u 0 6)) 37 q 1) 38 q (Int32.ofNat S)) 0 52 (Int32.ofNat (q + 1))) 19 S (Int32.ofNat R)) 20 S 0 0 j = ua 0 j := fun j hj => by simp (disch := first | omega | decide | assumption) only [zu_same, zu_ne1, zu_ne2, zu_row, pl_bd, pl_pt, pl_let, zn_set, zn_get, zn_rd, zn_wr, zn_1, zn_m, Nat.reduceAdd]
  have mb52 : zu (zu (zu (zu (zu (zu (zu ua 35 q (u 0 8)) 36 q (u 0 6)) 37 q 1) 38 q (Int32.ofNat S)) 0 52 (Int32.ofNat (q + 1))) 19 S (Int32.ofNat R)) 20 S 0 0 52 = Int32.ofNat (q + 1) := by simp (disch := first | omega | decide | assumption) only [zu_same, zu_ne1, zu_ne2, zu_row, pl_bd, pl_pt, pl_let, zn_set, zn_get, zn_rd, zn_wr, zn_1, zn_m, Nat.reduceAdd]
  have mbk : ∀ k, k < q → zu (zu (zu (zu (zu (zu (zu ua 35 q (u 0 8)) 36 q (u 0 6)) 37 q 1) 38 q (Int32.ofNat S)) 0 52 (Int32.ofNat (q + 1))) 19 S (Int32.ofNat R)) 20 S 0 35 k = ua 35 k ∧ zu (zu (zu (zu (zu (zu (zu ua 35 q (u 0 8)) 36 q (u 0 6)) 37 q 1) 38 q (Int32.ofNat S)) 0 52 (Int32.ofNat (q + 1))) 19 S (Int32.ofNat R)) 20 S 0 36 k = ua 36 k ∧ zu (zu (zu (zu (zu (zu (zu ua 35 q (u 0 8)) 36 q (u 0 6)) 37 q 1) 38 q (Int32.ofNat S)) 0 52 (Int32.ofNat (q + 1))) 19 S (Int32.ofNat R)) 20 S 0 37 k = ua 37 k ∧ zu (zu (zu (zu (zu (zu (zu ua 35 q (u 0 8)) 36 q (u 0 6)) 37 q 1) 38 q (Int32.ofNat S)) 0 52 (Int32.ofNat (q + 1))) 19 S (Int32.ofNat R)) 20 S 0 38 k = ua 38 k := fun k hk => by refine ⟨?_, ?_, ?_, ?_⟩ <;> simp (disch := first | omega | decide | assumption) only [zu_same, zu_ne1, zu_ne2, zu_row, pl_bd, pl_pt, pl_let, zn_set, zn_get, zn_rd, zn_wr, zn_1, zn_m, Nat.reduceAdd]
  have mbq : zu (zu (zu (zu (zu (zu (zu ua 35 q (u 0 8)) 36 q (u 0 6)) 37 q 1) 38 q (Int32.ofNat S)) 0 52 (Int32.ofNat (q + 1))) 19 S (Int32.ofNat R)) 20 S 0 35 q = u 0 8 ∧ zu (zu (zu (zu (zu (zu (zu ua 35 q (u 0 8)) 36 q (u 0 6)) 37 q 1) 38 q (Int32.ofNat S)) 0 52 (Int32.ofNat (q + 1))) 19 S (Int32.ofNat R)) 20 S 0 36 q = u 0 6 ∧ zu (zu (zu (zu (zu (zu (zu ua 35 q (u 0 8)) 36 q (u 0 6)) 37 q 1) 38 q (Int32.ofNat S)) 0 52 (Int32.ofNat (q + 1))) 19 S (Int32.ofNat R)) 20 S 0 37 q = 1 ∧ zu (zu (zu (zu (zu (zu (zu ua 35 q (u 0 8)) 36 q (u 0 6)) 37 q 1) 38 q (Int32.ofNat S)) 0 52 (Int32.ofNat (q + 1))) 19 S (Int32.ofNat R)) 20 S 0 38 q = Int32.ofNat S := by refine ⟨?_, ?_, ?_, ?_⟩ <;> simp (disch := first | omega | decide | assumption) only [zu_same, zu_ne1, zu_ne2, zu_row, pl_bd, pl_pt, pl_let, zn_set, zn_get, zn_rd, zn_wr, zn_1, zn_m, Nat.reduceAdd]
  have mb19 : zu (zu (zu (zu (zu (zu (zu ua 35 q (u 0 8)) 36 q (u 0 6)) 37 q 1) 38 q (Int32.ofNat S)) 0 52 (Int32.ofNat (q + 1))) 19 S (Int32.ofNat R)) 20 S 0 19 S = Int32.ofNat R ∧ zu (zu (zu (zu (zu (zu (zu ua 35 q (u 0 8)) 36 q (u 0 6)) 37 q 1) 38 q (Int32.ofNat S)) 0 52 (Int32.ofNat (q + 1))) 19 S (Int32.ofNat R)) 20 S 0 20 S = 0 := by constructor <;> simp (disch := first | omega | decide | assumption) only [zu_same, zu_ne1, zu_ne2, zu_row, pl_bd, pl_pt, pl_let, zn_set, zn_get, zn_rd, zn_wr, zn_1, zn_m, Nat.reduceAdd]
  have lm0 : zLm (zLR p b S n C R V q H) u0 ua := by
    intro k j hj
    by_cases e0 : k = 0 ∨ k = 3 ∨ k = 4
    · unfold zLR at hj
      rw [if_pos e0] at hj; omega
    · rw [d6.1 k (by omega) (by omega) (by omega)]; exact a2.2.2.2.2.2.2.2.2.2.2.2.1 k j hj
  have lm : zLm (zLR p b S n C R V q H) u0 (zu (zu (zu (zu (zu (zu (zu ua 35 q (u 0 8)) 36 q (u 0 6)) 37 q 1) 38 q (Int32.ofNat S)) 0 52 (Int32.ofNat (q + 1))) 19 S (Int32.ofNat R)) 20 S 0) :=
    zLm_zu (zLm_zu (zLm_zu (zLm_zu (zLm_zu (zLm_zu (zLm_zu lm0 (Nat.le_refl q)) (Nat.le_refl q)) (Nat.le_refl q)) (Nat.le_refl q)) (Nat.zero_le _)) (Nat.le_refl S)) (Nat.le_refl S)
  have pm : zFP zpM u0 (zu (zu (zu (zu (zu (zu (zu ua 35 q (u 0 8)) 36 q (u 0 6)) 37 q 1) 38 q (Int32.ofNat S)) 0 52 (Int32.ofNat (q + 1))) 19 S (Int32.ofNat R)) 20 S 0) :=
    zFP_zu (zFP_zu (zFP_zu (zFP_zu (zFP_zu (zFP_zu (zFP_zu (zFP_trans a17 (zFP_M (zFP_N d6))) rfl) rfl) rfl) rfl) rfl) rfl) rfl
  generalize zu (zu (zu (zu (zu (zu (zu ua 35 q (u 0 8)) 36 q (u 0 6)) 37 q 1) 38 q (Int32.ofNat S)) 0 52 (Int32.ofNat (q + 1))) 19 S (Int32.ofNat R)) 20 S 0 = ub at *
  have hEc : zEB G (i + 1) d p b n2 F2 C2 tc ub := by
    obtain ⟨b1, b2, b3, b4, b5, b6⟩ := d3
    exact ⟨zAt_of b1 (fun j _ _ => rfl) rfl rfl (fun j _ _ => mb0 j (by omega)) (mb 2 (by omega)) (mb 3 (by omega)) (mb 4 (by omega)), b2, by rw [mb0 10 (by omega)]; exact b3, zSl_of b4 (Nat.le_refl _) rfl (mb0 60 (by omega)) rfl rfl rfl (mb 31 (by omega)) (mb 33 (by omega)), b5, by rw [mb0 42 (by omega)]; exact b6⟩
  rw [zAt_sg hEc.1 (c := 40) (by decide), pl_bd]
  obtain ⟨td, r, ud, f1, f2, f4, f5, f6⟩ := zAt_enter (c := 40) hEc.1 (by decide) hd hEc.2.1 hEc.2.2.1
  rw [f1, pl_bd, f2, pl_bd]
  have ub0 : ∀ j, j ≤ 3 ∨ 12 ≤ j → ¬ j = 52 → ub 0 j = u 0 j := fun j hj hj2 => by rw [mb0 j hj2, d6.2 j hj]
  rcases f6 with ⟨_, y2, y3, y4, y5, y6⟩ | ⟨y1, y2⟩
  · subst y2
    rw [if_neg pl_10, if_neg pl_10]
    have hm1 := zAt_m1 y4
    have hl2 := zAt_lt y4
    have td7 : td 51 7 = Int32.ofNat R := by rw [f4.1 51 (by decide), d5.1 51 (by decide), rb 51 (by omega)]; exact a6
    rw [td7, zn_set hS (by decide), pl_bd]
    show ∃ rc t2 rm u2, lX7_readCall_97 zFU (Int32.ofNat S) 0 (zu td 95 S (Int32.ofNat R)) = some (rc, t2) ∧ _
    have rt : ∀ k, ¬ (k = 5 ∨ k = 54 ∨ k = 56 ∨ k = 93 ∨ k = 95) → zu td 95 S (Int32.ofNat R) k = t k := fun k hk => by rw [zu_row (by omega), f4.1 k (by omega), d5.1 k (by omega), rb k (by omega)]
    have rt5 : zu td 95 S (Int32.ofNat R) 5 7 = Int32.ofNat (q + 1) := by rw [zu_ne1 (by decide), f4.2, d5.2, rb7]
    have rtb : ∀ k, ¬ (k = 5 ∨ k = 95) → zu td 95 S (Int32.ofNat R) k = tb k := fun k hk => by rw [zu_row (by omega), f4.1 k (by omega), d5.1 k (by omega)]
    have ru : ∀ k, ¬ (k = 0 ∨ k = 3 ∨ k = 4) → ud k = ub k := fun k hk => f5.1 k (by omega) (by omega) (by omega)
    have ru' : ∀ k, ¬ (k = 0 ∨ k = 3 ∨ k = 4 ∨ k = 35 ∨ k = 36 ∨ k = 37 ∨ k = 38 ∨ k = 19 ∨ k = 20) → ud k = u k := fun k hk => by rw [ru k (by omega), mb k (by omega), d6.1 k (by omega) (by omega) (by omega)]
    have ru0 : ∀ j, j ≤ 3 ∨ 12 ≤ j → ¬ j = 52 → ud 0 j = u 0 j := fun j hj hj2 => by rw [f5.2 j hj, ub0 j hj hj2]
    have hEd : zEB G (i + 1 + 1) (d + 1) p b n2 F2 C2 (zu td 95 S (Int32.ofNat R)) ud := by
      refine ⟨zAt_of y4 (fun j _ _ => zu_ne1 (by decide)) (zu_row (by decide)) (zu_ne1 (by decide)) (fun _ _ _ => rfl) rfl rfl rfl, by rw [zu_ne1 (by decide)]; exact y5, y6, zSl_of hEc.2.2.2.1 (by omega) (by rw [rt 4 (by omega), d5.1 4 (by decide), rb 4 (by omega)]) (f5.2 60 (by decide)) (by rw [zu_row (by decide), f4.1 39 (by decide)]) (by rw [zu_row (by decide), f4.1 47 (by decide)]) (by rw [zu_row (by decide), f4.1 49 (by decide)]) (ru 31 (by omega)) (ru 33 (by omega)), by rw [zu_ne1 (by decide), f4.1 51 (by decide)]; exact hEc.2.2.2.2.1, by rw [f5.2 42 (by decide)]; exact hEc.2.2.2.2.2⟩
    have hAK : zAK (zBk G) f N M (S + 1) (q + 1) (zu td 95 S (Int32.ofNat R)) ud := by
      obtain ⟨z1, z2, z3, z4⟩ := a3
      have h87S : t 87 S = 8 ∨ t 87 S = 9 := by
        rcases s15 with a | a | a
        · exact Or.inl a.1
        · exact Or.inl a.1
        · exact Or.inr a.1
      refine ⟨rt5, by rw [f5.2 52 (by decide)]; exact mb52, fun k hk => ?_, fun c hc hk => ?_, fun s hs hk => ?_⟩
      · unfold zA1
        rw [rtb 54 (by omega), rtb 56 (by omega), rtb 93 (by omega), rt 87 (by omega), ru 36 (by omega), ru 35 (by omega), ru 37 (by omega), ru 38 (by omega), ru' 6 (by omega), ru' 5 (by omega)]
        by_cases ek : k = q
        · subst ek
          rw [rb54q.1, rb54q.2, mbq.1, mbq.2.1, mbq.2.2.1, mbq.2.2.2]
          exact ⟨⟨hpl, hpl0⟩, v, x, v4, v5, v2, Or.inr ⟨rfl, rfl, S, by omega, rfl, rb93q, h87S⟩⟩
        · obtain ⟨w1, v', x', w2, w3, w4, w5⟩ := z3 k (by omega)
          have mm := mbk k (by omega)
          rw [(rb54 k (by omega)).1, (rb54 k (by omega)).2, mm.1, mm.2.1, mm.2.2.1, mm.2.2.2, d6.1 35 (by decide) (by decide) (by decide), d6.1 36 (by decide) (by decide) (by decide), d6.1 37 (by decide) (by decide) (by decide), d6.1 38 (by decide) (by decide) (by decide)]
          refine ⟨w1, v', x', w2, w3, w4, ?_⟩
          rcases w5 with w5 | ⟨w5, w6, s', w7, w8, w9, w10⟩
          · exact Or.inl w5
          · exact Or.inr ⟨w5, w6, s', by omega, w8, by rw [rb93 s' (by omega)]; exact w9, w10⟩
      · rw [rt 9 (by omega)] at hk
        obtain ⟨k, k1, k2, k3⟩ := z4.1 c hc hk
        have mm := mbk k k1
        exact ⟨k, by omega, by rw [ru 37 (by omega), mm.2.2.1, d6.1 37 (by decide) (by decide) (by decide)]; exact k2, by rw [ru 38 (by omega), mm.2.2.2, d6.1 38 (by decide) (by decide) (by decide)]; exact k3⟩
      · by_cases es : s = S
        · exact ⟨q, by omega, by rw [ru 37 (by omega)]; exact mbq.2.2.1, by rw [ru 38 (by omega), es]; exact mbq.2.2.2⟩
        · rw [rt 87 (by omega)] at hk
          obtain ⟨k, k1, k2, k3⟩ := z4.2 s (by omega) hk
          have mm := mbk k k1
          exact ⟨k, by omega, by rw [ru 37 (by omega), mm.2.2.1, d6.1 37 (by decide) (by decide) (by decide)]; exact k2, by rw [ru 38 (by omega), mm.2.2.2, d6.1 38 (by decide) (by decide) (by decide)]; exact k3⟩
    have hg : zGr t (zu td 95 S (Int32.ofNat R)) p := fun m' hm' hm2 => ⟨m', by rw [rt 39 (by omega)]; exact hm', Nat.le_refl _, hm2⟩
    have hUC : zUC G i0 (i + 1 + 1) (d + 1) p b H f N M A S n F C R W V q n2 F2 C2 0 v hx o w t0 u0 (zu td 95 S (Int32.ofNat R)) ud := by
      obtain ⟨x1, x2, x3, x4, x5, x6, x7, x8, x9, x10, x11, x12, x13⟩ := a2
      refine ⟨hEd, ⟨x1, x2, x3, x4, by omega, x6, x7, by omega, x9, x10, ?_, fun k j hj => ?_, fun j hj => ?_⟩, hAK, by rw [rt 52 (by omega)]; exact a4, by rw [ru0 26 (by omega) (by omega)]; exact a5, by rw [rt 51 (by omega)]; exact a6, by rw [ru0 39 (by omega) (by omega)]; exact a7, by rw [rt 52 (by omega)]; exact a8, by rw [ru0 36 (by omega) (by omega)]; exact a9, by rw [ru0 59 (by omega) (by omega)]; exact a10, by rw [ru0 19 (by omega) (by omega)]; exact a11, zFP_zu (zFP_trans pb (zFP_trans (zFP_rS d5) (zFP_rS f4))) rfl, zFP_trans pm (zFP_M (zFP_N f5)), ⟨?_, by rw [rtb 93 (by omega)]; exact rb93q, v4, by rw [ru' 18 (by omega)]; exact s4, zu_same _ _ _ _, by rw [ru 19 (by omega)]; exact mb19.1, by rw [ru 20 (by omega)]; exact mb19.2, by rw [rt 99 (by omega)]; exact s8, by rw [rt 101 (by omega)]; exact s9⟩, ?_, fun k k1 k2 => by omega, by omega, by omega, by omega⟩
      · refine zLm_zu (fun k j hj => ?_) (Nat.le_refl S)
        by_cases e5 : k = 5
        · subst e5; exact absurd hj (Nat.not_lt_zero j)
        · rw [f4.1 k e5, d5.1 k e5]; exact lb k j hj
      · by_cases e0 : k = 0 ∨ k = 3 ∨ k = 4
        · unfold zLR at hj
          rw [if_pos e0] at hj; omega
        · rw [ru k e0]; exact lm k j hj
      · rw [ru0 j (by omega) (by omega)]; exact x13 j hj
      · rw [rt 89 (by omega), ru' 15 (by omega)]; exact s1
      · rw [rt 87 (by omega), ru' 14 (by omega), rt 91 (by omega), ru' 16 (by omega)]
        rcases s15 with a | ⟨z1, z2, z3⟩ | a
        · exact Or.inl a
        · exact Or.inr (Or.inl ⟨z1, z2, zSo_ext z3 hg⟩)
        · exact Or.inr (Or.inr a)
    have hmd := zAt_m1 hUC.1.1
    rw [zAt_sg hUC.1.1 (c := 41) (by decide), pl_bd]
    have l97 : lX7_readCall_97 zFU (Int32.ofNat S) 0 (zu td 95 S (Int32.ofNat R)) = bX7_readCall_97 (lX7_readCall_97 (zFU - 1)) (Int32.ofNat S) 0 (zu td 95 S (Int32.ofNat R)) := rfl
    rw [l97]
    unfold bX7_readCall_97 bX12_called_187
    rw [if_neg (show ¬ (3000 : Int32) ≤ 0 by decide), if_neg (by rw [hmd.1]; decide), if_neg (show ¬ (0 : Int32) < 0 by decide), pl_let, pl_let]
    by_cases q41 : zu td 95 S (Int32.ofNat R) 5 9 = 41
    · rw [if_pos q41, if_pos q41, if_neg pl_10]
      obtain ⟨rc, t2, rm, u2, z1, z2, z3⟩ := zCallEnd h hN2 hUC hd hS (by omega) (by omega) hH he
      have l195 : lX12_called_195 zFU (Int32.ofNat S) 0 ud = (zbd (mX12_closes 41 ud) fun _ u' => some (0, u')) := by
        show bX12_called_195 (lX12_called_195 (zFU - 1)) _ _ _ = _
        unfold bX12_called_195
        rw [if_pos rfl]
      rw [l195]
      exact ⟨rc, t2, rm, u2, z1, z2, z3⟩
    · rw [if_neg q41, if_neg q41, if_pos rfl]
      have l195 : lX12_called_195 zFU (Int32.ofNat S) 1 ud = bX12_called_213 (lX12_called_195 (zFU - 3002 + 3001)) (Int32.ofNat S) (if zu td 95 S (Int32.ofNat R) 5 9 = 17 then 1 else 0) ud := by
        show bX12_called_195 (lX12_called_195 (zFU - 1)) _ _ _ = _
        have hnm := zAt_nm hUC.1.1
        unfold bX12_called_195
        rw [if_neg pl_10, show zFU - 3002 + 3001 = zFU - 1 by unfold zFU; omega]
        by_cases q : zu td 95 S (Int32.ofNat R) 5 9 = 17
        · rw [if_pos q, if_pos (hnm.mpr q)]
        · rw [if_neg q, if_neg (fun e => q (hnm.mp e))]
      rw [l195, show zFU - 1 = zFU - 3002 + 3001 by unfold zFU; omega]
      rcases zArgL (hx := hx) (v := v) hN2 (by omega) hS 3001 (i + 1 + 1) (zFU - 3002) (zFU - 3002) n2 F2 C2 0 _ _ (by omega) hUC (by omega) (by omega) with ⟨i2, n3, F3, C3, m3', t2, u2, g1, g2, g3, g4, g5⟩ | ⟨t2, u2, g1, g2, g3⟩
      · rw [show bX7_readCall_124 (lX7_readCall_97 (zFU - 3002 + 3001)) (Int32.ofNat S) 0 (zu td 95 S (Int32.ofNat R)) = _ from g1, g2]
        exact zCallEnd h hN2 g5 hd hS (by omega) (by omega) hH he
      · rw [show bX7_readCall_124 (lX7_readCall_97 (zFU - 3002 + 3001)) (Int32.ofNat S) 0 (zu td 95 S (Int32.ofNat R)) = _ from g1, g2, pl_bd, zEm_162 (zEr_m g3.1)]
        exact ⟨_, _, _, _, rfl, rfl, Or.inr (zSE_5 g3)⟩
  · subst y1
    rw [if_pos rfl, if_pos rfl, pl_bd]
    have hE : zSE H t0 u0 td ud := ⟨y2, ⟨C2, by rw [f5.2 42 (by decide)]; exact hEc.2.2.2.2.2, by omega⟩, ⟨A, V, H, by rw [f5.2 19 (by decide), ub0 19 (by omega) (by omega)]; exact a11, by rw [f5.2 36 (by decide), ub0 36 (by omega) (by omega)]; exact a9, by rw [f5.2 59 (by decide), ub0 59 (by omega) (by omega)]; exact a10, Nat.le_refl _, by omega⟩, zFP_trans pb (zFP_trans (zFP_rS d5) (zFP_rS f4)), zFP_trans pm (zFP_M (zFP_N f5))⟩
    rw [zEm_162 (zEr_m hE.1)]
    exact ⟨_, _, _, _, rfl, rfl, Or.inr (zSE_5 hE)⟩
