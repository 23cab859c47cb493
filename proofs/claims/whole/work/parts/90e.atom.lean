/-! ATOMS; EXPRESSIONS at all depths -/
theorem zEB_enter {G : zTxt} {i d p b n F C cb : Nat} {t u : zS} {c : Int32} (h : zEB G i d p b n F C t u) (hd : d ≤ 40) (hc : c ∈ zSgs) (hC : C ≤ cb) : ∃ t2 r u2, mX7_enter c t = some (r, t2) ∧ mX12_opens (if t 5 9 = c then 1 else 0) u = some (r, u2) ∧ zEX p b n F C n F C t u t2 u2 ∧ ((r = 1 ∧ d < 40 ∧ zEB G (i + 1) (d + 1) p b n F C t2 u2) ∨ (r = 0 ∧ zEE cb t u t2 u2)) := by
  obtain ⟨t2, r, u2, r1, r2, r3, r4, r5⟩ := zAt_enter h.1 hc hd h.2.1 h.2.2.1
  refine ⟨t2, r, u2, r1, r2, zEX_fr r3 r4, ?_⟩
  rcases r5 with ⟨_, b2, b3, b4, b5, b6⟩ | ⟨b1, b2⟩
  · exact Or.inl ⟨b2, b3, zEB_fr h b4 (by omega) b5 b6 r3 r4⟩
  · exact Or.inr ⟨b1, zEE_fr h hC b2 r3 r4⟩
theorem zEB_leave {G : zTxt} {i d p b n F C cb : Nat} {t u : zS} {c : Int32} (h : zEB G i (d + 1) p b n F C t u) (hd : d ≤ 40) (hc : c ∈ zSgs) (hC : C ≤ cb) : ∃ t2 u2, mX7_leave c t = some (0, t2) ∧ mX12_closes c u = some (0, u2) ∧ zEX p b n F C n F C t u t2 u2 ∧ zSf t t2 ∧ zMf u u2 ∧ ((zEB G (i + 1) d p b n F C t2 u2 ∧ t2 5 14 = t 5 10) ∨ zEE cb t u t2 u2) := by
  obtain ⟨t2, u2, r1, r2, r3, r4, r5⟩ := zAt_leave h.1 hc hd h.2.1 h.2.2.1
  refine ⟨t2, u2, r1, r2, zEX_fr r3 r4, r3, r4, ?_⟩
  rcases r5 with ⟨_, b4, b5, b6, b7⟩ | ⟨_, b2⟩
  · exact Or.inl ⟨zEB_fr h b4 (by omega) b5 b6 r3 r4, b7⟩
  · exact Or.inr (zEE_fr h hC b2 r3 r4)
theorem zEB_no {G : zTxt} {i d p b n F C cb : Nat} {t u : zS} (h : zEB G i d p b n F C t u) (hC : C ≤ cb) : ∃ t2 u2, mX7_refuse t = some (0, t2) ∧ mX12_fails (u 0 6) u = some (-1, u2) ∧ zEE cb t u t2 u2 := by
  obtain ⟨t2, u2, r1, r2, r3, r4, r5, _⟩ := zAt_no h.1
  exact ⟨t2, u2, r1, r2, zEE_fr h hC r3 r4 r5⟩
theorem zEE_sf {cb : Nat} {t u t2 u2 t3 : zS} (h : zEE cb t u t2 u2) (h1 : zEc t3) (h2 : zSf t2 t3) (h3 : t3 5 12 = t2 5 12) : zEE cb t u t3 (zu u2 0 5 0) ∧ zEE cb t u t3 u2 := by
  obtain ⟨a1, a2, a3, a4⟩ := h
  refine ⟨⟨zEr_of a1 h1 h3 (zu_ne2 (by decide)), ?_, zFP_trans a3 (zFP_eS h2), zFP_zu a4 rfl⟩, zEr_of a1 h1 h3 rfl, a2, zFP_trans a3 (zFP_eS h2), a4⟩
  rw [zu_ne2 (by decide)]; exact a2
/-- a NAME's slot, inside EXPRESSIONS -/
theorem zEB_own {G : zTxt} {i d p b n F C : Nat} {t u : zS} (h : zEB G i d p b n F C t u) (hb : b + n < 3000) (hc : t 5 9 = 17) : ∃ k t2 u2 n2, mX6_slotFor (t 5 11) t = some (Int32.ofNat k, t2) ∧ mX12_ownOf (u 0 8) u = some (Int32.ofNat k, u2) ∧ k < n2 ∧ n2 ≤ n + 1 ∧ zAt G i t2 u2 ∧ t2 5 = t 5 ∧ u2 0 = u 0 ∧ zSl G (i + 1) p b n2 t2 u2 ∧ zEX p b n F C n2 F C t u t2 u2 ∧ zFP zpSC t t2 ∧ zFP zpSM u u2 ∧ (t 49 (G.2.2.2 i) = Int32.ofNat p → n2 = n) ∧ (n2 = n → t 49 (G.2.2.2 i) = Int32.ofNat p) := by
  obtain ⟨v, w, v1, v2, v3, v4, v5⟩ := zAt_nmv h.1 hc
  obtain ⟨j1, j2, j3, j4, j5⟩ := zAt_nmj h.1 hc
  have ev : G.2.2.2 i = v := by
    rw [v1] at j3
    exact ((zn_inj (by omega) (by omega)).mp j3).symm
  obtain ⟨k, t2, u2, n2, r1, r2, r3, r4, r5, r6, r7, r8, r9, r10, r11, r12, r13⟩ := zSl_own (zBk_len h.1) h.2.2.2.1 hb v4 v5 ⟨i, by omega, j1, j2, ev⟩
  have e5 : t2 5 = t 5 := zFP_row 5 r7 (fun _ => rfl)
  have e0 : u2 0 = u 0 := zFP_row 0 r8 (fun _ => rfl)
  refine ⟨k, t2, u2, n2, by rw [v1]; exact r1, by rw [v2]; exact r2, r3, r5, zAt_of h.1 (fun j _ _ => by rw [e5]) (zFP_row 67 r7 (fun _ => rfl)) (by rw [zFP_row 50 r7 (fun _ => rfl)]) (fun j _ _ => by rw [e0]) (zFP_row 2 r8 (fun _ => rfl)) (zFP_row 3 r8 (fun _ => rfl)) (zFP_row 4 r8 (fun _ => rfl)), e5, e0, r6, ⟨r4, Nat.le_refl _, Nat.le_refl _, zFP_mono r7 (fun k j q => ?_), zFP_mono r8 (fun k j q => ?_), r9, r10, r11, fun k _ => ⟨by rw [zFP_row 75 r7 (fun _ => rfl)], by rw [zFP_row 77 r7 (fun _ => rfl)]⟩, fun c _ => by rw [zFP_row 27 r8 (fun _ => rfl)], by rw [e5]⟩, r7, r8, by rw [ev]; exact r13, by
      rw [ev]
      intro e
      obtain ⟨_, _, e⟩ := r12 e
      exact e⟩
  · unfold zpEC at q
    unfold zpSC
    by_cases e : k = 51
    · rw [e]; rfl
    · rw [if_neg e] at q
      simp only [Bool.not_eq_true', Bool.or_eq_false_iff, beq_eq_false_iff_ne] at q ⊢
      omega
  · unfold zpEM at q
    unfold zpSM
    by_cases e : k = 0
    · rw [e]; rfl
    · rw [if_neg e] at q
      simp only [Bool.not_eq_true', Bool.or_eq_false_iff, beq_eq_false_iff_ne] at q ⊢
      omega
theorem zAtom {g : GgX7_readExpression} {m : GgX12_compared} {d nd cb : Nat} (hd : d ≤ 40) (hE : d < 40 → zPX (d + 1) nd cb g.1 m.1) (hA : d < 40 → zPX (d + 1) nd cb g.2.2.2 m.2.2.2) (h1 : 1 ≤ nd) (hb1 : 6000 ≤ cb) (hb2 : cb < 8999) : zPX d nd (cb + 1) (mX7_readAtom g) (mX12_atom m) := by
  intro G p b i n F C t u h
  obtain ⟨hB, n1, n2, n3⟩ := h
  have hl := zAt_lt hB.1
  have hm1 := zAt_m1 hB.1
  have hnb := zAt_nb hB.1
  have hnm := zAt_nm hB.1
  unfold mX7_readAtom mX12_atom
  rw [if_pos (show u 0 9 < 0 by rw [hm1.2]; decide)]
  by_cases q18 : t 5 9 = 18
  · rw [if_pos q18, if_pos (hnb.1.mpr q18)]
    have hl1 : i + 1 ≤ 3000 := by
      obtain ⟨t1, u1, r1, r2, h1, _⟩ := zEB_step hB (by rw [q18]; decide)
      exact zAt_lt h1.1
    rw [zc_add hB.2.2.2.2.1 (by omega), pl_bd, zm_put hB.2.2.2.2.2 (by omega), pl_bd]
    have hB2 := zEB_m (x := u 0 8) (zEB_m (x := 1) (zEB_c (x := 18) (v := t 5 11) hB))
    have e8 : zu (zu u 27 C 1) 0 42 (Int32.ofNat (C + 1)) 0 8 = u 0 8 := by simp (disch := first | omega | decide | assumption) only [zu_same, zu_ne1, zu_ne2, zu_row, pl_bd, pl_pt, pl_let, zn_set, zn_get, zn_rd, zn_wr, zn_1, zn_m, Nat.reduceAdd]
    have c27 : ∀ x, zu (zu (zu (zu u 27 C 1) 0 42 (Int32.ofNat (C + 1))) 27 (C + 1) x) 0 42 (Int32.ofNat (C + 1 + 1)) 27 C = 1 ∧ zu (zu (zu (zu u 27 C 1) 0 42 (Int32.ofNat (C + 1))) 27 (C + 1) x) 0 42 (Int32.ofNat (C + 1 + 1)) 27 (C + 1) = x := fun x => by constructor <;> simp (disch := first | omega | decide | assumption) only [zu_same, zu_ne1, zu_ne2, zu_row, pl_bd, pl_pt, pl_let, zn_set, zn_get, zn_rd, zn_wr, zn_1, zn_m, Nat.reduceAdd]
    have t75 : zu (zu (zu t 75 F 18) 77 F (t 5 11)) 51 6 (Int32.ofNat (F + 1)) 75 F = 18 ∧ zu (zu (zu t 75 F 18) 77 F (t 5 11)) 51 6 (Int32.ofNat (F + 1)) 77 F = t 5 11 := by constructor <;> simp (disch := first | omega | decide | assumption) only [zu_same, zu_ne1, zu_ne2, zu_row, pl_bd, pl_pt, pl_let, zn_set, zn_get, zn_rd, zn_wr, zn_1, zn_m, Nat.reduceAdd]
    rw [e8, zm_put (C := C + 1) (by simp (disch := first | omega | decide | assumption) only [zu_same, zu_ne1, zu_ne2, zu_row, pl_bd, pl_pt, pl_let, zn_set, zn_get, zn_rd, zn_wr, zn_1, zn_m, Nat.reduceAdd]) (by omega), pl_bd]
    obtain ⟨t1, u1, r1, r2, r3, r4, r5, r6⟩ := zEB_step hB2 (by simp (disch := first | omega | decide | assumption) only [zu_same, zu_ne1, zu_ne2, zu_row, pl_bd, pl_pt, pl_let, zn_set, zn_get, zn_rd, zn_wr, zn_1, zn_m, Nat.reduceAdd, q18]; decide)
    rw [r1, pl_bd, r2, pl_bd]
    refine ⟨_, _, _, _, rfl, rfl, Or.inl ⟨i + 1, n, F + 1, C + 1 + 1, ⟨r3, by omega, by omega, by omega⟩, zEX_trans (zEX_m (zEX_m (zEX_c zEX_refl))) r4, by omega, 1, rfl, by omega, by omega, by omega, by omega, fun h hb hh => zSg_1 (Or.inl ?_), Or.inl ⟨rfl, rfl, fun e => by rw [q18] at e; exact absurd e (by decide)⟩⟩⟩
    rw [r5.1 75 (by decide), r5.1 77 (by decide), r6.1 27 (by decide) (by decide) (by decide), (c27 _).1, (c27 _).2, t75.1, t75.2]
    exact ⟨rfl, rfl, hnb.2 q18, rfl, rfl, by omega⟩
  rw [if_neg q18, if_neg (fun w => q18 (hnb.1.mp w))]
  by_cases q17 : t 5 9 = 17
  · rw [if_pos q17, if_pos (hnm.mpr q17)]
    have hl1 : i + 1 ≤ 3000 := by
      obtain ⟨t1, u1, r1, r2, h1, _⟩ := zEB_step hB (by rw [q17]; decide)
      exact zAt_lt h1.1
    have hB1 := zEB_m (x := 2) hB
    have e8 : zu (zu u 27 C 2) 0 42 (Int32.ofNat (C + 1)) 0 8 = u 0 8 := by simp (disch := first | omega | decide | assumption) only [zu_same, zu_ne1, zu_ne2, zu_row, pl_bd, pl_pt, pl_let, zn_set, zn_get, zn_rd, zn_wr, zn_1, zn_m, Nat.reduceAdd]
    obtain ⟨k, t1, u1, n', r1, r2, r3, r4, r5, r6, r7, r8, r9, r10, r11, _⟩ := zEB_own hB1 (by omega) q17
    rw [r1, pl_bd, zm_put hB.2.2.2.2.2 (by omega), pl_bd, r2, pl_bd]
    have hB2 : zEB G (i + 1) d p b n' F (C + 1) t1 u1 → True := fun _ => trivial
    have f51 : t1 51 6 = Int32.ofNat F := by rw [zFP_row 51 r10 (fun _ => rfl)]; exact hB.2.2.2.2.1
    have f42 : u1 0 42 = Int32.ofNat (C + 1) := by rw [r7]; simp (disch := first | omega | decide | assumption) only [zu_same, zu_ne1, zu_ne2, zu_row, pl_bd, pl_pt, pl_let, zn_set, zn_get, zn_rd, zn_wr, zn_1, zn_m, Nat.reduceAdd]
    rw [zc_add f51 (by omega), pl_bd, zm_put f42 (by omega), pl_bd]
    have hA1 : zAt G i (zu (zu (zu t1 75 F 17) 77 F (Int32.ofNat k)) 51 6 (Int32.ofNat (F + 1))) (zu (zu u1 27 (C + 1) (Int32.ofNat k)) 0 42 (Int32.ofNat (C + 1 + 1))) := zAt_of r5 (fun j _ _ => by simp (disch := first | omega | decide | assumption) only [zu_same, zu_ne1, zu_ne2, zu_row, pl_bd, pl_pt, pl_let, zn_set, zn_get, zn_rd, zn_wr, zn_1, zn_m, Nat.reduceAdd]) (by simp (disch := first | omega | decide | assumption) only [zu_same, zu_ne1, zu_ne2, zu_row, pl_bd, pl_pt, pl_let, zn_set, zn_get, zn_rd, zn_wr, zn_1, zn_m, Nat.reduceAdd]) (by simp (disch := first | omega | decide | assumption) only [zu_same, zu_ne1, zu_ne2, zu_row, pl_bd, pl_pt, pl_let, zn_set, zn_get, zn_rd, zn_wr, zn_1, zn_m, Nat.reduceAdd]) (fun j _ _ => by simp (disch := first | omega | decide | assumption) only [zu_same, zu_ne1, zu_ne2, zu_row, pl_bd, pl_pt, pl_let, zn_set, zn_get, zn_rd, zn_wr, zn_1, zn_m, Nat.reduceAdd]) (by simp (disch := first | omega | decide | assumption) only [zu_same, zu_ne1, zu_ne2, zu_row, pl_bd, pl_pt, pl_let, zn_set, zn_get, zn_rd, zn_wr, zn_1, zn_m, Nat.reduceAdd]) (by simp (disch := first | omega | decide | assumption) only [zu_same, zu_ne1, zu_ne2, zu_row, pl_bd, pl_pt, pl_let, zn_set, zn_get, zn_rd, zn_wr, zn_1, zn_m, Nat.reduceAdd]) (by simp (disch := first | omega | decide | assumption) only [zu_same, zu_ne1, zu_ne2, zu_row, pl_bd, pl_pt, pl_let, zn_set, zn_get, zn_rd, zn_wr, zn_1, zn_m, Nat.reduceAdd])
    obtain ⟨t2, u2, s1, s2, s3, s4, s5⟩ := zAt_step hA1 (by simp (disch := first | omega | decide | assumption) only [zu_same, zu_ne1, zu_ne2, zu_row, pl_bd, pl_pt, pl_let, zn_set, zn_get, zn_rd, zn_wr, zn_1, zn_m, Nat.reduceAdd]; rw [r6, q17]; decide)
    rw [s1, pl_bd, s2, pl_bd]
    have s4' := zSf_of s4
    have s5' := zMf_of s5
    have c27 : zu (zu u1 27 (C + 1) (Int32.ofNat k)) 0 42 (Int32.ofNat (C + 1 + 1)) 27 C = 2 ∧ zu (zu u1 27 (C + 1) (Int32.ofNat k)) 0 42 (Int32.ofNat (C + 1 + 1)) 27 (C + 1) = Int32.ofNat k := by
      have : u1 27 C = 2 := by rw [zFP_row 27 r11 (fun _ => rfl)]; simp (disch := first | omega | decide | assumption) only [zu_same, zu_ne1, zu_ne2, zu_row, pl_bd, pl_pt, pl_let, zn_set, zn_get, zn_rd, zn_wr, zn_1, zn_m, Nat.reduceAdd]
      constructor <;> simp (disch := first | omega | decide | assumption) only [zu_same, zu_ne1, zu_ne2, zu_row, pl_bd, pl_pt, pl_let, zn_set, zn_get, zn_rd, zn_wr, zn_1, zn_m, Nat.reduceAdd, this]
    have t75 : zu (zu (zu t1 75 F 17) 77 F (Int32.ofNat k)) 51 6 (Int32.ofNat (F + 1)) 75 F = 17 ∧ zu (zu (zu t1 75 F 17) 77 F (Int32.ofNat k)) 51 6 (Int32.ofNat (F + 1)) 77 F = Int32.ofNat k := by constructor <;> simp (disch := first | omega | decide | assumption) only [zu_same, zu_ne1, zu_ne2, zu_row, pl_bd, pl_pt, pl_let, zn_set, zn_get, zn_rd, zn_wr, zn_1, zn_m, Nat.reduceAdd]
    have hX : zEX p b n F C n' (F + 1) (C + 1 + 1) t u t2 u2 := zEX_trans (zEX_m (zEX_c (zEX_trans (zEX_m zEX_refl) r9))) (zEX_fr s4' s5')
    refine ⟨_, _, _, _, rfl, rfl, Or.inl ⟨i + 1, n', F + 1, C + 1 + 1, ⟨⟨s3, ?_, ?_, ?_, ?_, ?_⟩, by omega, by omega, by omega⟩, hX, by omega, 1, rfl, by omega, by omega, by omega, by omega, fun h hb hh => zSg_1 (Or.inr (Or.inl ?_)), Or.inl ⟨rfl, rfl, fun _ => by rw [s4'.1 75 (by decide)]; exact t75.1⟩⟩⟩
    · rw [s4.2 13 (by decide) (by decide) (by decide) (by decide)]; simp (disch := first | omega | decide | assumption) only [zu_same, zu_ne1, zu_ne2, zu_row, pl_bd, pl_pt, pl_let, zn_set, zn_get, zn_rd, zn_wr, zn_1, zn_m, Nat.reduceAdd]; rw [r6]; exact hB.2.1
    · rw [s5.2 10 (by decide) (by decide) (by decide) (by decide) (by decide) (by decide)]; simp (disch := first | omega | decide | assumption) only [zu_same, zu_ne1, zu_ne2, zu_row, pl_bd, pl_pt, pl_let, zn_set, zn_get, zn_rd, zn_wr, zn_1, zn_m, Nat.reduceAdd]; rw [r7]; simp (disch := first | omega | decide | assumption) only [zu_same, zu_ne1, zu_ne2, zu_row, pl_bd, pl_pt, pl_let, zn_set, zn_get, zn_rd, zn_wr, zn_1, zn_m, Nat.reduceAdd]; exact hB.2.2.1
    · exact zSl_of r8 (Nat.le_refl _) (by rw [s4'.1 4 (by decide)]; simp (disch := first | omega | decide | assumption) only [zu_same, zu_ne1, zu_ne2, zu_row, pl_bd, pl_pt, pl_let, zn_set, zn_get, zn_rd, zn_wr, zn_1, zn_m, Nat.reduceAdd]) (by rw [s5'.2 60 (by decide)]; simp (disch := first | omega | decide | assumption) only [zu_same, zu_ne1, zu_ne2, zu_row, pl_bd, pl_pt, pl_let, zn_set, zn_get, zn_rd, zn_wr, zn_1, zn_m, Nat.reduceAdd]) (by rw [s4'.1 39 (by decide)]; simp (disch := first | omega | decide | assumption) only [zu_same, zu_ne1, zu_ne2, zu_row, pl_bd, pl_pt, pl_let, zn_set, zn_get, zn_rd, zn_wr, zn_1, zn_m, Nat.reduceAdd]) (by rw [s4'.1 47 (by decide)]; simp (disch := first | omega | decide | assumption) only [zu_same, zu_ne1, zu_ne2, zu_row, pl_bd, pl_pt, pl_let, zn_set, zn_get, zn_rd, zn_wr, zn_1, zn_m, Nat.reduceAdd]) (by rw [s4'.1 49 (by decide)]; simp (disch := first | omega | decide | assumption) only [zu_same, zu_ne1, zu_ne2, zu_row, pl_bd, pl_pt, pl_let, zn_set, zn_get, zn_rd, zn_wr, zn_1, zn_m, Nat.reduceAdd]) (by rw [s5'.1 31 (by decide) (by decide) (by decide)]; simp (disch := first | omega | decide | assumption) only [zu_same, zu_ne1, zu_ne2, zu_row, pl_bd, pl_pt, pl_let, zn_set, zn_get, zn_rd, zn_wr, zn_1, zn_m, Nat.reduceAdd]) (by rw [s5'.1 33 (by decide) (by decide) (by decide)]; simp (disch := first | omega | decide | assumption) only [zu_same, zu_ne1, zu_ne2, zu_row, pl_bd, pl_pt, pl_let, zn_set, zn_get, zn_rd, zn_wr, zn_1, zn_m, Nat.reduceAdd])
    · rw [s4'.1 51 (by decide)]; simp (disch := first | omega | decide | assumption) only [zu_same, zu_ne1, zu_ne2, zu_row, pl_bd, pl_pt, pl_let, zn_set, zn_get, zn_rd, zn_wr, zn_1, zn_m, Nat.reduceAdd]
    · rw [s5'.2 42 (by decide)]; simp (disch := first | omega | decide | assumption) only [zu_same, zu_ne1, zu_ne2, zu_row, pl_bd, pl_pt, pl_let, zn_set, zn_get, zn_rd, zn_wr, zn_1, zn_m, Nat.reduceAdd]
    · rw [s4'.1 75 (by decide), s4'.1 77 (by decide), s5'.1 27 (by decide) (by decide) (by decide), c27.1, c27.2, t75.1, t75.2]
      exact ⟨rfl, rfl, ⟨k, r3, rfl, rfl⟩, rfl, rfl, by omega⟩
  rw [if_neg q17, if_neg (fun w => q17 (hnm.mp w)), zAt_sg hB.1 (c := 40) (by decide), pl_bd]
  by_cases q45 : t 5 9 = 45
  · rw [if_pos q45, if_neg (show ¬ t 5 9 = 40 by rw [q45]; decide), if_pos rfl, zAt_sg hB.1 (c := 45) (by decide), pl_bd, if_pos q45, if_neg pl_10]
    obtain ⟨t1, r, u1, s1, s2, s3, s4⟩ := zEB_enter (cb := cb + 1) (c := 45) hB hd (by decide) (by omega)
    rw [if_pos q45] at s2
    rw [s1, pl_bd, s2, pl_bd]
    rcases s4 with ⟨rfl, s5, s6⟩ | ⟨rfl, s5⟩
    · rw [if_neg pl_10, if_neg pl_10]
      obtain ⟨r, t2, r', u2, w1, w2, w3⟩ := hA s5 G p b (i + 1) n F C t1 u1 ⟨s6, by omega, by omega, by omega⟩
      rw [w1, pl_bd, w2, pl_bd, pl_pt]
      rcases w3 with ⟨i2, n2', F2, C2, ⟨hB2, m1, m2, m3⟩, X2, g1, l, g2, g3, g4, g5, g6, g7, g8⟩ | e
      · have hm2 := zAt_m1 hB2.1
        have hl2 := zAt_lt hB2.1
        rw [if_neg (by rw [hm2.2]; decide), pl_pt, hB2.2.1, hB2.2.2.1, zn_m]
        have hB3 : zEB G i2 d p b n2' F2 C2 (zu t2 5 13 (Int32.ofNat d)) (zu u2 0 10 (Int32.ofNat d)) := zEB_fr hB2 (zAt_of hB2.1 (fun j _ _ => zu_ne2 (by omega)) (zu_row (by decide)) (zu_ne1 (by decide)) (fun j _ j2 => zu_ne2 j2) (zu_row (by decide)) (zu_row (by decide)) (zu_row (by decide))) (Nat.le_refl _) (zu_same _ _ _ _) (zu_same _ _ _ _) (zSf_zu (by decide)) (zMf_zu (by decide))
        have X3 : zEX p b n F C n2' F2 C2 t u (zu t2 5 13 (Int32.ofNat d)) (zu u2 0 10 (Int32.ofNat d)) := zEX_trans (zEX_trans s3 X2) (zEX_fr (zSf_zu (by decide)) (zMf_zu (by decide)))
        unfold bX12_atom_138
        rw [zc_add hB3.2.2.2.2.1 (by omega), pl_bd, zm_put hB3.2.2.2.2.2 (by omega), pl_bd]
        refine ⟨_, _, _, _, rfl, rfl, Or.inl ⟨i2, n2', F2 + 1, C2 + 1, ⟨zEB_m (zEB_c hB3), by omega, by omega, by omega⟩, zEX_m (zEX_c X3), by omega, l + 1, by omega, by omega, by omega, by omega, by omega, fun h hb hh => ?_, Or.inr ⟨by omega, fun w => absurd w q17⟩⟩⟩
        have z2 := g7 h hb hh
        have hle := zSg_le l z2
        refine zSg_app l (zSg_of (Nat.le_refl _) (Nat.le_refl _) l z2 (fun j j1 j2 => by constructor <;> simp (disch := first | omega | decide | assumption) only [zu_same, zu_ne1, zu_ne2, zu_row, pl_bd, pl_pt, pl_let, zn_set, zn_get, zn_rd, zn_wr, zn_1, zn_m, Nat.reduceAdd]) (fun j j1 j2 => by simp (disch := first | omega | decide | assumption) only [zu_same, zu_ne1, zu_ne2, zu_row, pl_bd, pl_pt, pl_let, zn_set, zn_get, zn_rd, zn_wr, zn_1, zn_m, Nat.reduceAdd])) ?_
        rw [← g2]
        exact zSg_1 (Or.inr (Or.inr (Or.inl ⟨by simp (disch := first | omega | decide | assumption) only [zu_same, zu_ne1, zu_ne2, zu_row, pl_bd, pl_pt, pl_let, zn_set, zn_get, zn_rd, zn_wr, zn_1, zn_m, Nat.reduceAdd], by simp (disch := first | omega | decide | assumption) only [zu_same, zu_ne1, zu_ne2, zu_row, pl_bd, pl_pt, pl_let, zn_set, zn_get, zn_rd, zn_wr, zn_1, zn_m, Nat.reduceAdd], by omega, rfl, rfl⟩)))
      · have hE1 : zEE cb t u (zu t2 5 13 (t2 5 13 - 1)) u2 := (zEE_sf (zEE_pre e s3.2.2.2.1 s3.2.2.2.2.1) ⟨by rw [zu_ne2 (by decide)]; exact e.1.1, by rw [zu_ne2 (by decide)]; exact e.1.2.1⟩ (zSf_zu (by decide)) (zu_ne2 (by decide))).2
        rw [if_pos (zEr_m e.1)]
        unfold bX12_atom_138
        obtain ⟨t3, u3, a1, a2, a3⟩ := zEE_add (x := 257) (v := 0) (y := 3) hE1 hb2
        rw [a1, pl_bd, a2, pl_bd]
        exact ⟨_, _, _, _, rfl, rfl, Or.inr a3⟩
    · rw [if_pos rfl, if_pos rfl]
      exact ⟨_, _, _, _, rfl, rfl, Or.inr s5⟩
  rw [if_neg q45]
  by_cases q40 : t 5 9 = 40
  · rw [if_pos q40, if_neg pl_10]
    obtain ⟨t1, r, u1, s1, s2, s3, s4⟩ := zEB_enter (cb := cb + 1) (c := 40) hB hd (by decide) (by omega)
    rw [if_pos q40] at s2
    rw [s1, pl_bd, s2, pl_bd]
    rcases s4 with ⟨rfl, s5, s6⟩ | ⟨rfl, s5⟩
    · rw [if_neg pl_10, if_neg pl_10]
      obtain ⟨r, t2, r', u2, w1, w2, w3⟩ := hE s5 G p b (i + 1) n F C t1 u1 ⟨s6, by omega, by omega, by omega⟩
      rw [w1, pl_bd, w2, pl_bd]
      rcases w3 with ⟨i2, n2', F2, C2, ⟨hB2, m1, m2, m3⟩, X2, g1, l, g2, g3, g4, g5, g6, g7, g8⟩ | e
      · obtain ⟨t3, u3, a1, a2, a3, a4, a5, a6⟩ := zEB_leave (cb := cb + 1) (c := 41) hB2 hd (by decide) (by have := zAt_lt hB2.1; omega)
        rw [a1, pl_bd, a2, pl_bd]
        refine ⟨_, _, _, _, rfl, rfl, ?_⟩
        rcases a6 with ⟨a6, _⟩ | a6
        · refine Or.inl ⟨i2 + 1, n2', F2, C2, ⟨a6, by omega, by omega, by omega⟩, zEX_trans (zEX_trans s3 X2) a3, by omega, l, g2, g3, by omega, by omega, by omega, fun h hb hh => ?_, Or.inr ⟨by omega, fun w => absurd w q17⟩⟩
          rw [a4.1 75 (by decide), a4.1 77 (by decide), a5.1 27 (by decide) (by decide) (by decide)]
          exact g7 h hb hh
        · have X3 := zEX_trans s3 X2
          exact Or.inr (zEE_pre a6 X3.2.2.2.1 X3.2.2.2.2.1)
      · obtain ⟨t3, g1, g2, g3, g4⟩ := zEc_leave (c := 41) (zEr_c e.1) (by decide)
        rw [g1, pl_bd, zEm_closes (zEr_m e.1), pl_bd]
        exact ⟨_, _, _, _, rfl, rfl, Or.inr (zEE_mono (zEE_sf (zEE_pre e s3.2.2.2.1 s3.2.2.2.2.1) g2 g3 g4).1 (by omega))⟩
    · rw [if_pos rfl, if_pos rfl]
      exact ⟨_, _, _, _, rfl, rfl, Or.inr s5⟩
  · rw [if_neg q40, if_pos rfl, zAt_sg hB.1 (c := 45) (by decide), pl_bd, if_neg q45, if_pos rfl]
    obtain ⟨t1, u1, a1, a2, a3⟩ := zEB_no (cb := cb + 1) hB (by omega)
    unfold mX7_enter bX7_enter_17
    rw [if_neg q40, a1, pl_bd, pl_bd, if_pos rfl, a2, pl_bd]
    exact ⟨_, _, _, _, rfl, rfl, Or.inr a3⟩
theorem zPX_mono {d nd cb nd2 cb2 : Nat} {fc fm : zS → zR} (h : zPX d nd cb fc fm) (h1 : nd ≤ nd2) (h2 : cb ≤ cb2) : zPX d nd2 cb2 fc fm := by
  intro G p b i n F C t u hh
  obtain ⟨r, t2, r', u2, a1, a2, a3⟩ := h G p b i n F C t u hh
  refine ⟨r, t2, r', u2, a1, a2, ?_⟩
  rcases a3 with ⟨i2, n2, F2, C2, a3⟩ | a3
  · exact Or.inl ⟨i2, n2, F2, C2, zXok_mono a3 h1⟩
  · exact Or.inr (zEE_mono a3 h2)
theorem zExpr_all : ∀ (n d l m : Nat), 41 ≤ d + n → d ≤ 40 → 4 * n ≤ l → 4 * n ≤ m → zPX d (3 * n + 1) (4 * n + 6000) (grgX7_readExpression l).1 (grgX12_compared m).1 ∧ zPX d (3 * n + 1) (4 * n + 6000) (grgX7_readExpression l).2.2.2 (grgX12_compared m).2.2.2 := by
  intro n
  induction n with
  | zero => intro d l m h1 h2; omega
  | succ n ih =>
    intro d l m h1 h2 h3 h4
    have at' : ∀ l m, 4 * n + 1 ≤ l → 4 * n + 1 ≤ m → n ≤ 41 → zPX d (3 * n + 1) (4 * n + 6001) (grgX7_readExpression l).2.2.2 (grgX12_compared m).2.2.2 := by
      intro l m hl hm hn
      obtain ⟨l0, rfl⟩ : ∃ l0, l = l0 + 1 := ⟨l - 1, by omega⟩
      obtain ⟨m0, rfl⟩ : ∃ m0, m = m0 + 1 := ⟨m - 1, by omega⟩
      exact zAtom (g := grgX7_readExpression l0) (m := grgX12_compared m0) h2 (fun hd => (ih (d + 1) l0 m0 (by omega) (by omega) (by omega) (by omega)).1) (fun hd => (ih (d + 1) l0 m0 (by omega) (by omega) (by omega) (by omega)).2) (by omega) (by omega) (by omega)
    by_cases hn : n ≤ 41
    · obtain ⟨l0, rfl⟩ : ∃ l0, l = l0 + 4 := ⟨l - 4, by omega⟩
      obtain ⟨m0, rfl⟩ : ∃ m0, m = m0 + 4 := ⟨m - 4, by omega⟩
      refine ⟨?_, zPX_mono (at' (l0 + 4) (m0 + 4) (by omega) (by omega) hn) (by omega) (by omega)⟩
      have p1 : zPX d (3 * n + 2) (4 * n + 6002) (grgX7_readExpression (l0 + 2)).2.2.1 (grgX12_compared (m0 + 2)).2.2.1 := zProd (g := grgX7_readExpression (l0 + 1)) (m := grgX12_compared (m0 + 1)) (at' (l0 + 1) (m0 + 1) (by omega) (by omega) hn) (by omega)
      have p2 : zPX d (3 * n + 3) (4 * n + 6003) (grgX7_readExpression (l0 + 3)).2.1 (grgX12_compared (m0 + 3)).2.1 := zSum (g := grgX7_readExpression (l0 + 2)) (m := grgX12_compared (m0 + 2)) p1 (by omega)
      exact zExpr (g := grgX7_readExpression (l0 + 3)) (m := grgX12_compared (m0 + 3)) p2 (by omega)
    · obtain ⟨a, b⟩ := ih d l m (by omega) h2 (by omega) (by omega)
      exact ⟨zPX_mono a (by omega) (by omega), zPX_mono b (by omega) (by omega)⟩
theorem zExprs {d : Nat} (hd : d ≤ 40) : zPX d 124 6164 mX7_readExpressionr mX12_comparedr := (zExpr_all 41 d 300 300 (by omega) hd (by omega) (by omega)).1
