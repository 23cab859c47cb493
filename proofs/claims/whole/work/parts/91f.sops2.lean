/-! steps of a STATEMENT under way -/
theorem zu_back {t : zS} {k j : Nat} {v x : Int32} (h : t k j = v) : zu (zu t k j x) k j v = t := by
  funext k' j'
  unfold zu
  by_cases e : k' = k ∧ j' = j
  · rw [if_pos e, e.1, e.2]; exact h.symm
  · rw [if_neg e, if_neg e]
theorem zUW_step {G : zTxt} {i0 i d p b H : Nat} {f : Nat → Nat} {N M A S n F C R W V q n2 F2 C2 : Nat} {o : Nat → Nat × Nat} {w : Nat → Nat} {t0 u0 t u : zS} (h : zUW G i0 i d p b H f N M A S n F C R W V q n2 F2 C2 o w t0 u0 t u) (h9 : ¬ t 5 9 = 19) : ∃ t2 u2, mX7_step t = some (0, t2) ∧ mX12_next u = some (0, u2) ∧ zUW G i0 (i + 1) d p b H f N M A S n F C R W V q n2 F2 C2 o w t0 u0 t2 u2 ∧ zRS [] [] S t u t2 u2 ∧ zSf t t2 ∧ zMf u u2 := by
  obtain ⟨t2, u2, r1, r2, r3, r4, r5, r6⟩ := zEB_step h.1 h9
  obtain ⟨a1, a2⟩ := zUW_E h r3 r4 (by omega) (by omega) (by have := h.2.2.2.2.2.2.2.2.2.2.2.2.2.1; omega) (by omega)
  exact ⟨t2, u2, r1, r2, a1, a2, r5, r6⟩
theorem zSE_ofU {G : zTxt} {i0 i d p b H cb : Nat} {f : Nat → Nat} {N M A S n F C R W V q n2 F2 C2 : Nat} {o : Nat → Nat × Nat} {w : Nat → Nat} {t0 u0 t u t2 u2 : zS} (h : zUW G i0 i d p b H f N M A S n F C R W V q n2 F2 C2 o w t0 u0 t u) (hb : 2 * A + 2 * V + 2 * H ≤ 3002) (he : zEE cb t u t2 u2) (hcb : cb ≤ 6400) : zSE H t0 u0 t2 u2 := by
  obtain ⟨a1, a2, a3, a4, a5, a6, a7, a8, a9, a10, a11, a12, a13, a14, a15, a16, a17⟩ := h
  exact zSE_pre (zSE_ofE he hcb a11 a9 a10 hb) a16 a17
theorem zUW_expect {G : zTxt} {i0 i d p b H : Nat} {f : Nat → Nat} {N M A S n F C R W V q n2 F2 C2 : Nat} {o : Nat → Nat × Nat} {w : Nat → Nat} {t0 u0 t u : zS} {c : Int32} (h : zUW G i0 i d p b H f N M A S n F C R W V q n2 F2 C2 o w t0 u0 t u) (hb : 2 * A + 2 * V + 2 * H ≤ 3002) (hC : C2 ≤ 6300) (hc : c ∈ zSgs) : ∃ t2 r u2, mX7_expect c t = some (0, t2) ∧ (zbd (mX12_isSign c u) fun x u1 => mX12_passes x u1) = some (r, u2) ∧ zSf t t2 ∧ zMf u u2 ∧ ((r = 1 ∧ zUW G i0 (i + 1) d p b H f N M A S n F C R W V q n2 F2 C2 o w t0 u0 t2 u2 ∧ zRS [] [] S t u t2 u2) ∨ (r = 0 ∧ zSE H t0 u0 t2 u2 ∧ u2 0 42 = Int32.ofNat C2)) := by
  obtain ⟨t2, r, u2, r1, r2, r3, r4, r5⟩ := zAt_expect h.1.1 hc
  rw [zAt_sg h.1.1 hc, pl_bd]
  refine ⟨t2, r, u2, r1, r2, r3, r4, ?_⟩
  rcases r5 with ⟨_, b2, b3, b4, b5⟩ | ⟨_, b2, b3⟩
  · obtain ⟨a1, a2⟩ := zUW_E h (zEB_fr h.1 b3 (by omega) (by rw [b4]; exact h.1.2.1) (by rw [b5]; exact h.1.2.2.1) r3 r4) (zEX_fr r3 r4) (by omega) (by omega) (by have := h.2.2.2.2.2.2.2.2.2.2.2.2.2.1; omega) (by omega)
    exact Or.inl ⟨b2, a1, a2⟩
  · exact Or.inr ⟨b2, zSE_ofU h hb (zEE_fr (cb := 6300) h.1 hC b3 r3 r4) (by omega), by rw [r4.2 42 (by decide)]; exact h.1.2.2.2.2.2⟩
/-- a NAME's slot goes into row k of the class and row m of the reference -/
theorem zUW_slot {G : zTxt} {i0 i d p b H : Nat} {f : Nat → Nat} {N M A S n F C R W V q n2 F2 C2 : Nat} {o : Nat → Nat × Nat} {w : Nat → Nat} {t0 u0 t u : zS} {k m : Nat} (h : zUW G i0 i d p b H f N M A S n F C R W V q n2 F2 C2 o w t0 u0 t u) (hS : S < 1000) (hn : b + n ≤ i0) (hk : k = 91 ∨ k = 93) (hm : m = 16 ∨ m = 17) (h9 : t 5 9 = 17) : ∃ t2 r u2 n3, (zbd (mX6_slotFor (t 5 11) t) fun r t1 => zbd (mX5_set (k - 1) 1000 (Int32.ofNat S) r t1) fun _ t2 => zbd (mX7_step t2) fun _ t3 => some (0, t3)) = some (0, t2) ∧ mX12_own u = some (r, u2) ∧ zUW G i0 (i + 1) d p b H f N M A S n F C R W V q n3 F2 C2 o w t0 u0 t2 (zu u2 m S r) ∧ zRS [k] [m] S t u t2 (zu u2 m S r) ∧ zSo t2 p (t2 k S) (zu u2 m S r m S) ∧ (∃ kk, r = Int32.ofNat kk ∧ kk < 3000) ∧ n2 ≤ n3 := by
  have hm1 := zAt_m1 h.1.1
  have hnm := (zAt_nm h.1.1).mpr h9
  have hl : i + 1 ≤ 3000 := by
    obtain ⟨t1, u1, r1, r2, h1, _⟩ := zEB_step h.1 (by rw [h9]; decide)
    exact zAt_lt h1.1
  have hnn : n2 + i0 ≤ n + i := h.2.2.2.2.2.2.2.2.2.2.2.2.2.2.1
  obtain ⟨kk, t1, u1, n3, r1, r2, r3, r4, r5, r6, r7, r8, r9, r10, r11, _, _⟩ := zEB_own h.1 (by omega) h9
  unfold mX12_own
  rw [if_pos hnm, if_pos (by rw [hm1.2]; decide), r1, pl_bd, r2, pl_bd, zn_set hS (by decide), pl_bd, show k - 1 + 1 = k by omega]
  have hA1 : zAt G i (zu t1 k S (Int32.ofNat kk)) u1 := zAt_of r5 (fun j _ _ => zu_ne1 (by omega)) (zu_row (by omega)) (zu_ne1 (by omega)) (fun _ _ _ => rfl) rfl rfl rfl
  obtain ⟨t2, u2, s1, s2, s3, s4, s5⟩ := zAt_step hA1 (by rw [zu_ne1 (by omega), r6, h9]; decide)
  rw [s1, pl_bd, s2, pl_bd]
  have s4' := zSf_of s4
  have s5' := zMf_of s5
  have hv : t2 k S = Int32.ofNat kk := by rw [s4'.1 k (by omega), zu_same]
  have sb : zSf t1 (zu t2 k S (t1 k S)) := by
    refine ⟨fun k' hk' => ?_, ?_⟩
    · funext j
      by_cases e : k' = k
      · subst e
        by_cases e2 : j = S
        · subst e2; rw [zu_same]
        · rw [zu_ne2 e2, s4'.1 k' hk', zu_ne2 e2]
      · rw [zu_ne1 e, s4'.1 k' hk', zu_ne1 e]
    · rw [zu_ne1 (by omega), s4'.2, zu_ne1 (by omega)]
  have hX : zEX p b n2 F2 C2 n3 F2 C2 t u (zu t2 k S (t1 k S)) u2 := zEX_trans r9 (zEX_fr sb s5')
  have hE : zEB G (i + 1) d p b n3 F2 C2 (zu t2 k S (t1 k S)) u2 := by
    refine ⟨zAt_of s3 (fun j _ _ => zu_ne1 (by omega)) (zu_row (by omega)) (zu_ne1 (by omega)) (fun _ _ _ => rfl) rfl rfl rfl, ?_, ?_, ?_, ?_, ?_⟩
    · rw [zu_ne1 (by omega), s4.2 13 (by decide) (by decide) (by decide) (by decide), zu_ne1 (by omega), r6]; exact h.1.2.1
    · rw [s5.2 10 (by decide) (by decide) (by decide) (by decide) (by decide) (by decide), r7]; exact h.1.2.2.1
    · exact zSl_of r8 (Nat.le_refl _) (by rw [sb.1 4 (by decide)]) (s5'.2 60 (by decide)) (sb.1 39 (by decide)) (sb.1 47 (by decide)) (sb.1 49 (by decide)) (s5'.1 31 (by decide) (by decide) (by decide)) (s5'.1 33 (by decide) (by decide) (by decide))
    · rw [sb.1 51 (by decide), zFP_row 51 r10 (fun _ => rfl)]; exact h.1.2.2.2.2.1
    · rw [s5'.2 42 (by decide), r7]; exact h.1.2.2.2.2.2
  obtain ⟨a1, a2⟩ := zUW_E h hE hX (by omega) (by omega) (by have := h.2.2.2.2.2.2.2.2.2.2.2.2.2.1; omega) (by omega)
  have a3 := zUW_zu (k := k) (v := Int32.ofNat kk) a1 (by omega)
  rw [zu_back hv] at a3
  have a4 := zUW_mu (k := m) (v := Int32.ofNat kk) a3 (by omega)
  refine ⟨t2, _, u2, n3, rfl, rfl, a4, ⟨fun k' k1 k2 k3 => ?_, fun k' k1 k2 k3 => ?_⟩, ?_, ⟨kk, rfl, by omega⟩, r9.1⟩
  · have hne : ¬ k' = k := fun e => k3 (by rw [e]; exact List.mem_singleton.mpr rfl)
    rw [← a2.1 k' k1 k2 (by simp), zu_ne1 hne]
  · have hne : ¬ k' = m := fun e => k3 (by rw [e]; exact List.mem_singleton.mpr rfl)
    rw [zu_ne1 hne]
    exact a2.2 k' k1 k2 (by simp)
  · rw [hv, zu_same]
    exact ⟨kk, n3, rfl, rfl, by rw [s4'.1 39 (by decide), zu_ne1 (by omega)]; exact r8.2.2.1, r3, by omega⟩
/-- an EXPRESSION goes into rows 95, 97 and 18 -/
theorem zUW_told {G : zTxt} {i0 i d p b H : Nat} {f : Nat → Nat} {N M A S n F C R W V q n2 F2 C2 : Nat} {o : Nat → Nat × Nat} {w : Nat → Nat} {t0 u0 t u : zS} (h : zUW G i0 i d p b H f N M A S n F C R W V q n2 F2 C2 o w t0 u0 t u) (hb : 2 * A + 2 * V + 2 * H ≤ 3002) (hd : d ≤ 40) (hS : S < 1000) (hF : F ≤ i0) (hC : C ≤ 2 * i0) (hn : b + n ≤ i0) (hC2 : C2 + 2 * i0 + 1 ≤ C + 2 * i) : ∃ t2 r u2, mX7_readFormula (Int32.ofNat S) t = some (0, t2) ∧ mX12_told u = some (r, u2) ∧
    ((∃ i2 n3 F3 C3, i < i2 ∧ zUW G i0 i2 d p b H f N M A S n F C R W V q n3 F3 C3 o w t0 u0 t2 (zu u2 18 S r) ∧ zRS [95, 97] [18] S t u t2 (zu u2 18 S r) ∧ zFm t2 (zu u2 18 S r) p F3 C3 (t2 95 S) (t2 97 S) (zu u2 18 S r 18 S) ∧ n2 ≤ n3) ∨ zSE H t0 u0 t2 u2) := by
  have e13 := h.2.2.2.2.2.2.2.2.2.2.2.2.1
  have e15 : n2 + i0 ≤ n + i := h.2.2.2.2.2.2.2.2.2.2.2.2.2.2.1
  have h1 := zUW_zu (k := 95) (v := Int32.ofNat F2) h (by omega)
  unfold mX7_readFormula
  rw [h.1.2.2.2.2.1, zn_set hS (by decide), pl_bd]
  obtain ⟨r, t2, r', u2, a1, a2, a3⟩ := zTold0 (G := G) (i := i) (d := d) (p := p) (b := b) (n := n2) (F := F2) (C := C2) ⟨h1.1, by omega, by omega, by omega⟩ hd
  rw [a1, pl_bd, a2]
  rcases a3 with ⟨i2, n3, F3, C3, l, b1, b2, b3, b4, b5, b6, b7, b8, b9, b10, b11, b12, _⟩ | e
  · have hl := zAt_lt b2.1
    obtain ⟨c1, c2⟩ := zUW_E h1 b2 b8 (by omega) (by omega) (by omega) (by omega)
    rw [b2.2.2.2.2.1, zn_set hS (by decide), pl_bd]
    have d1 := zUW_mu (k := 18) (v := r') (zUW_zu (k := 97) (v := Int32.ofNat F3) c1 (by omega)) (by omega)
    have t95 : t2 95 S = Int32.ofNat F2 := by
      rw [c2.1 95 (by omega) (by omega) (by simp)]; exact zu_same _ _ _ _
    refine ⟨_, _, _, rfl, rfl, Or.inl ⟨i2, n3, F3, C3 + 1, b1, d1, ⟨fun k k1 k2 k3 => ?_, fun k k1 k2 k3 => ?_⟩, ?_, b8.1⟩⟩
    · have e1 : ¬ k = 95 := fun e => k3 (by rw [e]; simp)
      have e2 : ¬ k = 97 := fun e => k3 (by rw [e]; simp)
      rw [zu_ne1 (by omega), c2.1 k k1 k2 (by simp)]
      exact zu_ne1 (by omega)
    · have e1 : ¬ k = 18 := fun e => k3 (by rw [e]; simp)
      rw [zu_ne1 e1, c2.2 k k1 k2 (by simp)]
    · refine ⟨F2, l, C2, C3, n3, ?_, ?_, by rw [zu_same, b3], b5, by omega, by omega, ?_, by omega, ?_, ?_⟩
      · rw [zu_ne1 (by decide)]; exact t95
      · rw [zu_same, b4]
      · rw [zu_ne1 (by decide)]; exact b2.2.2.2.1.2.2.1
      · rw [zu_row (by decide), zu_row (by decide), zu_row (by decide)]; exact b6
      · rw [zu_ne1 (by decide)]; exact b7
  · obtain ⟨t3, g1, g2⟩ := zEs_set (c := 96) (n := 1000) (x := Int32.ofNat S) (v := t2 51 6) (zEr_c e.1) (by decide) (fun _ => rfl)
    rw [g1, pl_bd]
    exact ⟨_, _, _, rfl, rfl, Or.inr (zSE_c (zSE_ofU h1 hb e (by omega)) g2)⟩
