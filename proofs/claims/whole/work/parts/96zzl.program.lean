/-! PROGRAM -/
theorem pl_forget4 {t : zS} : ∃ tB, mX4_forget t = some (0, tB) ∧ tB 7 16 = -1 ∧ tB 7 10 = 0 ∧ tB 7 11 = 0 ∧ tB 7 12 = 0 ∧ tB 7 14 = 0 ∧ tB 7 8 = t 7 8 ∧ tB 7 9 = t 7 9 ∧ tB 60 16 = 0 ∧ tB 60 17 = 0 ∧ tB 59 8 = 0 ∧ tB 59 9 = 0 ∧ ∀ k, ¬ (k = 7 ∨ k = 59 ∨ k = 60) → tB k = t k := by
  obtain ⟨ta, ea, a1, a2, a3, a4, a5, a6, a7, a8⟩ : ∃ ta, ta = zu (zu (zu (zu (zu t 7 16 (-1)) 7 10 0) 7 11 0) 7 12 0) 7 14 0 ∧ ta 7 16 = -1 ∧ ta 7 10 = 0 ∧ ta 7 11 = 0 ∧ ta 7 12 = 0 ∧ ta 7 14 = 0 ∧ ta 7 8 = t 7 8 ∧ ta 7 9 = t 7 9 ∧ ∀ k, ¬ k = 7 → ta k = t k := by
    refine ⟨_, rfl, ?_, ?_, ?_, ?_, ?_, ?_, ?_, fun k hk => by rw [zu_row hk, zu_row hk, zu_row hk, zu_row hk, zu_row hk]⟩
    all_goals simp (disch := first | omega | decide | assumption) only [zu_same, zu_ne1, zu_ne2, zu_row, pl_bd, pl_pt, pl_let, zn_set, zn_get, zn_rd, zn_wr, zn_1, zn_m, Nat.reduceAdd]
  obtain ⟨tb, eb, b7, b8, b9⟩ : ∃ tb, tb = zu (zu (zu (zu (zu (zu (zu (zu ta 60 10 (-1)) 60 11 (-1)) 60 12 0) 60 13 0) 60 14 0) 60 15 0) 60 16 0) 60 17 0 ∧ tb 60 16 = 0 ∧ tb 60 17 = 0 ∧ ∀ k, ¬ k = 60 → tb k = ta k := by
    refine ⟨_, rfl, ?_, ?_, fun k hk => by rw [zu_row hk, zu_row hk, zu_row hk, zu_row hk, zu_row hk, zu_row hk, zu_row hk, zu_row hk]⟩
    all_goals simp (disch := first | omega | decide | assumption) only [zu_same, zu_ne1, zu_ne2, zu_row, pl_bd, pl_pt, pl_let, zn_set, zn_get, zn_rd, zn_wr, zn_1, zn_m, Nat.reduceAdd]
  obtain ⟨tc, ec, c5, c6, c7⟩ : ∃ tc, tc = zu (zu (zu (zu (zu tb 59 7 1) 59 5 0) 59 6 0) 59 8 0) 59 9 0 ∧ tc 59 8 = 0 ∧ tc 59 9 = 0 ∧ ∀ k, ¬ k = 59 → tc k = tb k := by
    refine ⟨_, rfl, ?_, ?_, fun k hk => by rw [zu_row hk, zu_row hk, zu_row hk, zu_row hk, zu_row hk]⟩
    all_goals simp (disch := first | omega | decide | assumption) only [zu_same, zu_ne1, zu_ne2, zu_row, pl_bd, pl_pt, pl_let, zn_set, zn_get, zn_rd, zn_wr, zn_1, zn_m, Nat.reduceAdd]
  have r7 : tc 7 = ta 7 := by rw [c7 7 (by decide), b9 7 (by decide)]
  have r60 : tc 60 = tb 60 := c7 60 (by decide)
  refine ⟨tc, ?_, by rw [r7]; exact a1, by rw [r7]; exact a2, by rw [r7]; exact a3, by rw [r7]; exact a4, by rw [r7]; exact a5, by rw [r7]; exact a6, by rw [r7]; exact a7, by rw [r60]; exact b7, by rw [r60]; exact b8, c5, c6, fun k hk => by rw [c7 k (by omega), b9 k (by omega), a8 k (by omega)]⟩
  unfold mX4_forget mX8_forget mX0_forget
  rw [pl_pt, pl_pt, pl_pt, pl_pt, pl_pt, ← ea, pl_pt, pl_pt, pl_pt, pl_pt, pl_pt, pl_pt, pl_pt, pl_pt, ← eb, pl_bd, pl_pt, pl_pt, pl_pt, pl_pt, pl_pt, ← ec, pl_bd]
/-- the step PROGRAM -/
theorem st_program {n : Nat} {t u : zS} (h : zR4 (fun t u => zCnt t u ∧ zPr n t u) t u) : zStp (fun t u => zCnt t u ∧ zPr (n + 1) t u) (mX11_program t) (mX12_program u) := by
  obtain ⟨⟨hT1, hT2, hT3, hT4⟩, hZ, hI, hC, hP⟩ := h
  obtain ⟨L, l1, l2, l3⟩ := zNatOf hT2
  have i3 : (3000 : Int32).toInt = 3000 := by decide
  have i0 : (0 : Int32).toInt = 0 := by decide
  have i255 : (255 : Int32).toInt = 255 := by decide
  have hL : L ≤ 3000 := by have := Int32.le_iff_toInt_le.mp hT3; omega
  obtain ⟨ta, ea⟩ : ∃ ta, ta = zu (zu t 0 6 0) 0 9 0 := ⟨_, rfl⟩
  have ra : ∀ k, ¬ k = 0 → ta k = t k := fun k hk => by rw [ea, zu_row hk, zu_row hk]
  have ra0 : ∀ j, ¬ (j = 6 ∨ j = 9) → ta 0 j = t 0 j := fun j hj => by rw [ea, zu_ne2 (by omega), zu_ne2 (by omega)]
  obtain ⟨tB, b1, b2, b3, b4, b5, b6, b7, b8, b9, b10, b11, b12, b13⟩ := pl_forget4 (t := ta)
  have rB : ∀ k, ¬ (k = 0 ∨ k = 7 ∨ k = 59 ∨ k = 60) → tB k = t k := fun k hk => by rw [b13 k (by omega), ra k (by omega)]
  have rB0 : tB 0 = ta 0 := b13 0 (by decide)
  have goC : mX11_program t = zbd (mX7_readAll (Int32.ofNat L) tB) fun r1639 t1640 => if r1639 < 0 then lX11_program_45 zFU 0 t1640 else some (((-1) - r1639), t1640) := by
    unfold mX11_program
    rw [pl_let, pl_pt, pl_pt, ← ea, b1, pl_bd, l1]
  obtain ⟨t2, u2, km, G, c1, c2, c3, c4, c5, c6, c7, c8, c9, c10⟩ := zReadAll (t := tB) (u := u) hL (fun j hj => by
    rw [rB 2 (by decide)]
    exact (hT4 j (by omega)).2) (fun j hj => by
    rw [rB 2 (by decide)]
    exact (hT4 j (by omega)).1.symm) (by rw [← hT1]; exact l1)
  have pC : zPfC tB t2 := zPfC_R c5
  have pM : zPm2 u u2 := zPm2_M c6
  have z09 : t2 0 9 = 0 := by rw [c5 0 9 rfl, rB0, ea, zu_same]
  -- what every outcome owes
  have fin : ∀ (r : Int32) (t3 u3 : zS), mX11_program t = some (r, t3) → mX12_program u = some (r, u3) → zPfC tB t3 → zPm2 u u3 → u3 0 71 = 0 → u3 0 1 = 0 → ((t3 0 9 = 0 ∧ u3 0 57 = 0) ∨ (t3 0 9 = 1 ∧ u3 0 57 = 1 ∧ zGdP t3 u3)) → zStp (fun t u => zCnt t u ∧ zPr (n + 1) t u) (mX11_program t) (mX12_program u) := fun r t3 u3 g1 g2 g3 g4 g5 g6 g7 => by
    rw [g1, g2]
    have f7 : ∀ j, t3 7 j = tB 7 j := fun j => g3 7 j (Or.inl rfl)
    have f60 : ∀ j, t3 60 j = tB 60 j := fun j => g3 60 j (by omega)
    have f59 : ∀ j, t3 59 j = tB 59 j := fun j => g3 59 j (by omega)
    have f64 : t3 64 = t 64 := by rw [← rB 64 (by decide)]; funext j; exact g3 64 j (by omega)
    have f06 : t3 0 6 = 0 := by rw [g3 0 6 (by omega), rB0, ea, zu_ne2 (by decide), zu_same]
    have f07 : t3 0 7 = t 0 7 := by rw [g3 0 7 (by omega), rB0, ra0 7 (by decide)]
    have f08 : t3 0 8 = t 0 8 := by rw [g3 0 8 (by omega), rB0, ra0 8 (by decide)]
    have f45 : u3 45 = u 45 := by funext j; exact g4 45 j (Or.inl rfl)
    have hI3 : zInp t3 u3 := zInp_of2 hI (by rw [f7, b7, ra 7 (by decide)]) (by rw [f7, b8, ra 7 (by decide)]) f64 (g4 0 83 (by omega)) f45
    refine ⟨r, t3, u3, rfl, rfl, ⟨by rw [f06, g6], by rw [f06]; decide, by rw [f06]; decide, fun j hj => ?_⟩, zSize_of hZ f07 f08 (g4 0 75 (by omega)) (g4 0 76 (by omega)), hI3, ?_, zPr_c ?_⟩
    · rw [f06, i0] at hj; omega
    · have : zCnt t3 u3 := by
        refine ⟨?_, Or.inl ⟨g5, by rw [f7]; exact b2, by rw [f7]; exact b4, by rw [f7]; exact b5, by rw [f60]; exact b9, by rw [f60]; exact b10, by rw [f7]; exact b6, by rw [f59]; exact b11, by rw [f59]; exact b12, by rw [f7]; exact b3⟩⟩
        rcases g7 with ⟨q1, q2⟩ | ⟨q1, q2, _⟩
        · exact ⟨by rw [q1, q2], Or.inl q1⟩
        · exact ⟨by rw [q1, q2], Or.inr q1⟩
      exact this
    · rcases g7 with ⟨q1, q2⟩ | ⟨q1, q2, G, f, N, M, P, A, T, Q, Pa, bb, S, F, C, R, W, V, o, w, t0, u0, g, h1, h2, h3, h4, h5⟩
      · exact Or.inl ⟨q1, g5⟩
      · exact Or.inr ⟨q1, G, f, N, M, P, A, T, Q, Pa, bb, S, F, C, R, W, V, o, w, t0, u0, g, h1, h2, h3, h4, h5, Or.inl g5⟩
  have lf : ∀ u3 : zS, zLf u2 u3 → zPm2 u u3 ∧ u3 0 71 = 0 ∧ u3 0 1 = 0 ∧ u3 0 57 = 0 := fun u3 hl => ⟨zPm2_trans pM (fun k j q => hl k j (by omega) (by omega)), by rw [hl 0 71 (by omega) (by omega)]; exact c9, by rw [hl 0 1 (by omega) (by omega)]; exact c7, by rw [hl 0 57 (by omega) (by omega)]; exact c8⟩
  have nn : ∀ p : Int32, 0 ≤ p → ¬ p < 0 := fun p h1 h2 => by have a := Int32.le_iff_toInt_le.mp h1; have b := Int32.lt_iff_toInt_lt.mp h2; omega
  rcases c3 with ⟨i, ⟨f, N, M, P, A, T, Q, Pa, bb, S, F, C, R, W, V, q, o, w, top⟩, h19⟩ | ⟨e1, e2, e3⟩
  · rcases zLooked (km := km) (n := L) top h19 c4 with ⟨p, u3, p1, p2, p3, p4⟩ | ⟨u3, p2, p3, p4, p5⟩
    · obtain ⟨y1, y2, y3, y4⟩ := lf u3 p4
      refine fin (-1 - p) (zu t2 5 12 p) u3 ?_ (by rw [c2, p3]) (fun k j hk => ?_) y1 y2 y3 (Or.inl ⟨by rw [zu_ne1 (by decide)]; exact z09, y4⟩)
      · rw [goC, c1, p2, pl_bd, if_neg (nn p p1)]
      · rw [zu_ne1 (by omega)]; exact pC k j hk
    · obtain ⟨y1, y2, y3, y4⟩ := lf u3 p5
      obtain ⟨r, r0, t3, t4, u4, d1, d2, d3, d4, d5, d6, d7, d8, d9⟩ := zProgB p4 (zWf_of top.1.1.1) c10 z09
      refine fin r t4 u4 ?_ (by rw [c2, p3, d4]) (zPfC_trans pC d5) (zPm2_trans y1 d6) (by rw [d7]; exact y2) (by rw [d8]; exact y3) ?_
      · rw [goC, c1, p2, d1, pl_bd, if_pos d2, d3]
      · rcases d9 with ⟨q1, q2⟩ | d9
        · exact Or.inl ⟨q1, by rw [q2]; exact y4⟩
        · exact Or.inr d9
  · refine fin (-1 - t2 5 12) t2 (zu u2 0 62 (-1)) ?_ ?_ pC (zPm2_trans pM (fun k j hk => ?_)) (by rw [zu_ne2 (by decide)]; exact c9) (by rw [zu_ne2 (by decide)]; exact c7) (Or.inl ⟨z09, by rw [zu_ne2 (by decide)]; exact c8⟩)
    · have : bX7_readAll_129 (Int32.ofNat L) t2 = some (t2 5 12, t2) := by
        unfold bX7_readAll_129 bX7_readAll_145
        rw [if_pos e2, if_pos e2]
      rw [goC, c1, this, pl_bd, if_neg (nn _ e2)]
    · rw [c2]
      unfold bX12_program_134 bX12_program_239 bX12_program_267 bX12_program_304
      rw [if_pos rfl, e3, if_pos e2, if_pos e2, pl_pt, zu_ne2 (show (9 : Nat) ≠ 62 by decide), e3, if_pos e2, if_neg (nn _ e2)]
    · by_cases e : k = 0
      · subst e; exact zu_ne2 (by omega)
      · exact zu_ne1 e
/-! the relation -/
def zP (n : Nat) (t u : zS) : Prop := zCnt t u ∧ zPr n t u
def zRel (n : Nat) (t u : zS) : Prop := zR4 (zP n) t u
theorem zPr_0 : zPr 0 (zcC zs0C) (zcM zs0M) := Or.inl ⟨rfl, rfl⟩
theorem zStp_mono {n : Nat} {a b : zR} (h : zStp (zP n) a b) : zStp (zP (n + 1)) a b := by
  obtain ⟨r, t2, u2, h1, h2, h3, h4, h5, h6, h7⟩ := h
  exact ⟨r, t2, u2, h1, h2, h3, h4, h5, h6, zPr_mono h7 (by omega)⟩
theorem zRel_0 : zRel 0 zs0C zs0M := by
  refine ⟨⟨rfl, by decide, by decide, fun j hj => ?_⟩, ⟨rfl, rfl, by decide, by decide, by decide, by decide⟩, ⟨rfl, by decide, by decide, by decide, by decide, fun j hj => ?_⟩, ⟨⟨rfl, Or.inl rfl⟩, Or.inl ⟨rfl, rfl, rfl, rfl, rfl, rfl, rfl, rfl, rfl, rfl⟩⟩, zPr_0⟩
  · have : (zs0C 0 6).toInt = 0 := by decide
    omega
  · have : (zs0C 7 9).toInt = 0 := by decide
    omega
theorem zRel_step (n : Nat) (t u : zS) (op a b c d e : Int32) (hn : n < 512) (h : zRel n t u) : ∃ (r : Int32) (t2 u2 : zS), zkC op a b c d e t = some (r, t2) ∧ zkM op a b c d e u = some (r, u2) ∧ zRel (n + 1) t2 u2 := by
  have h : zR4 (zP n) t u := h
  have hC : zCnt t u := zCnt_of h.2.2.2.1
  by_cases h0 : op = 0
  · subst h0; rw [zkC_0, zkM_0]; exact zStp_mono (st_feed h a b c d e)
  by_cases h1 : op = 1
  · subst h1; rw [zkC_1, zkM_1]; exact zStp_mono (st_end h a)
  by_cases h2 : op = 2
  · subst h2; rw [zkC_2, zkM_2]; exact st_program h
  by_cases h3 : op = 3
  · subst h3; rw [zkC_3, zkM_3]; exact zStp_mono (st_sizes h a b)
  by_cases h4 : op = 4
  · subst h4; rw [zkC_4, zkM_4]; exact zStp_mono (st_input h a b c)
  by_cases h5 : op = 5
  · subst h5; rw [zkC_5, zkM_5]; exact st_start (by omega) h
  by_cases h6 : op = 6
  · subst h6; rw [zkC_6, zkM_6]; exact st_run (by omega) h a
  by_cases h7 : op = 7
  · subst h7; rw [zkC_7, zkM_7]; exact zStp_mono (st_output h hC a)
  by_cases h8 : op = 8
  · subst h8; rw [zkC_8, zkM_8]; exact zStp_mono (st_count h hC a)
  by_cases h9 : op = 9
  · subst h9; rw [zkC_9, zkM_9]; exact st_process h a b c
  by_cases h10 : op = 10
  · subst h10; rw [zkC_10, zkM_10]; exact st_types h a b c
  rw [zkC, if_neg h0, if_neg h1, if_neg h2, if_neg h3, if_neg h4, if_neg h5, if_neg h6, if_neg h7, if_neg h8, if_neg h9, if_neg h10, zkM, if_neg h0, if_neg h1, if_neg h2, if_neg h3, if_neg h4, if_neg h5, if_neg h6, if_neg h7, if_neg h8, if_neg h9, if_neg h10]
  exact ⟨_, _, _, rfl, rfl, h.1, h.2.1, h.2.2.1, h.2.2.2.1, zPr_mono h.2.2.2.2 (by omega)⟩
