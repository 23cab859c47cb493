/-! ACTS on channels: how they end -/
theorem zFree_lt {D : zCo} {N : Nat} {t0 : zS} {Y ql : Nat → Nat} {fc fk rw e : Nat} {fq : Nat → Nat} (h : zBP D N t0 Y ql fc fk rw fq) (he : e < 2 * fc) (ho : ¬ D.kd (Y e) = 0) : fk < fc := by
  obtain ⟨a1, a2, a3, a4, a5, a6, a7⟩ := h
  have ne : ∀ j, j < fk → ¬ fq j = e / 2 := fun j hj w => by
    obtain ⟨_, b1, b2⟩ := a5 j hj
    rw [w] at b1 b2
    rcases Nat.mod_two_eq_zero_or_one e with q | q
    · rw [show 2 * (e / 2) = e by omega] at b1; exact ho b1
    · rw [show 2 * (e / 2) + 1 = e by omega] at b2; exact ho b2
  have := zpig fc (fk + 1) (fun j => if j < fk then fq j else e / 2) (fun j hj => by
    show (if j < fk then fq j else e / 2) < fc
    split
    · rename_i l; exact (a5 j l).1
    · omega) (fun i j hi hj w => by
    have w' : (if i < fk then fq i else e / 2) = (if j < fk then fq j else e / 2) := w
    by_cases l1 : i < fk
    · by_cases l2 : j < fk
      · rw [if_pos l1, if_pos l2] at w'; exact a6 i j l1 l2 w'
      · rw [if_pos l1, if_neg l2] at w'; exact absurd w' (ne i l1)
    · by_cases l2 : j < fk
      · rw [if_neg l1, if_pos l2] at w'; exact absurd w'.symm (ne j l2)
      · omega)
  omega
theorem zBP_up {D : zCo} {N : Nat} {t0 : zS} {Y ql ql2 : Nat → Nat} {fc fk rw e z : Nat} {fq : Nat → Nat} (h : zBP D N t0 Y ql fc fk rw fq) (he : e < 2 * fc) (ho : ¬ D.kd (Y e) = 0) (hz : zV N t0 z) (hq : ∀ x, x < 2 * fc → ql2 x ≤ rw) : zBP D N t0 (zfu Y e z) ql2 fc (if D.kd z = 0 ∧ D.kd (Y (zflp e)) = 0 then fk + 1 else fk) rw (if D.kd z = 0 ∧ D.kd (Y (zflp e)) = 0 then zfu fq fk (e / 2) else fq) := by
  have lt := zFree_lt h he ho
  obtain ⟨a1, a2, a3, a4, a5, a6, a7⟩ := h
  have ne : ∀ j, j < fk → ¬ fq j = e / 2 := fun j hj w => by
    obtain ⟨_, b1, b2⟩ := a5 j hj
    rw [w] at b1 b2
    rcases Nat.mod_two_eq_zero_or_one e with q | q
    · rw [show 2 * (e / 2) = e by omega] at b1; exact ho b1
    · rw [show 2 * (e / 2) + 1 = e by omega] at b2; exact ho b2
  have old : ∀ j, j < fk → D.kd (zfu Y e z (2 * fq j)) = 0 ∧ D.kd (zfu Y e z (2 * fq j + 1)) = 0 := fun j hj => by
    obtain ⟨_, b1, b2⟩ := a5 j hj
    have := ne j hj
    rw [zfu_ne (by omega), zfu_ne (by omega)]
    exact ⟨b1, b2⟩
  have vv : ∀ x, x < 2 * fc → zV N t0 (zfu Y e z x) ∧ ql2 x ≤ rw := fun x hx => by
    refine ⟨?_, hq x hx⟩
    by_cases q : x = e
    · subst q; rw [zfu_same]; exact hz
    · rw [zfu_ne q]; exact (a7 x hx).1
  by_cases c : D.kd z = 0 ∧ D.kd (Y (zflp e)) = 0
  · simp only [if_pos c]
    refine ⟨by omega, a2, a3, a4, fun j hj => ?_, fun i j hi hj w => ?_, vv⟩
    · by_cases l : j = fk
      · subst l
        rw [zfu_same]
        refine ⟨by omega, ?_⟩
        have c2 := c.2
        unfold zflp at c2
        rcases Nat.mod_two_eq_zero_or_one e with q | q
        · rw [q, show 2 * (e / 2) + (1 - 0) = e + 1 by omega] at c2
          rw [show 2 * (e / 2) = e by omega, zfu_same, zfu_ne (by omega)]
          exact ⟨c.1, c2⟩
        · rw [q, show 2 * (e / 2) + (1 - 1) = 2 * (e / 2) by omega] at c2
          rw [show 2 * (e / 2) + 1 = e by omega, zfu_same, zfu_ne (by omega)]
          exact ⟨c2, c.1⟩
      · rw [zfu_ne l]
        exact ⟨(a5 j (by omega)).1, old j (by omega)⟩
    · by_cases l1 : i = fk
      · by_cases l2 : j = fk
        · omega
        · rw [l1, zfu_same, zfu_ne l2] at w
          exact absurd w.symm (ne j (by omega))
      · by_cases l2 : j = fk
        · rw [l2, zfu_same, zfu_ne l1] at w
          exact absurd w (ne i (by omega))
        · rw [zfu_ne l1, zfu_ne l2] at w
          exact a6 i j (by omega) (by omega) w
  · simp only [if_neg c]
    exact ⟨a1, a2, a3, a4, fun j hj => ⟨(a5 j hj).1, old j hj⟩, a6, vv⟩
theorem zCells (rw : Nat) : (4 : Int32) + 2 * Int32.ofNat rw = Int32.ofNat (4 + 2 * rw) := by
  rw [zn_dbl0]; exact zn_add 4 (2 * rw)
/-- a channel's end goes on on both sides -/
theorem zTalkEnd {G : zTxt} {f : Nat → Nat} {N M P A T Q Pa bb S F C R W V : Nat} {o : Nat → Nat × Nat} {w : Nat → Nat} {t0 u0 g : zS} {pm m c y k e z y0 : Nat} {Rg : Nat → Nat} {pq fp ql Y fq : Nat → Nat} {fr fd fc fk rw mem lim : Nat} {sp ac : Nat → Int32} {num H MC MR : zS} {t u t1 u1 : zS} {num1 H1 MC1 MR1 : zS} {ql1 : Nat → Nat} (hg : zGd G f N M P A T Q Pa bb S F C R W V o w t0 u0 g) (hv : zLv t0 t) (hm : zLvM S t0 u0 u) (h : zDyn G f N Q t0 g pm m Rg pq fr fd fp sp ac num H Y ql MC MR fc fk rw fq mem lim t u) (hc : c < m) (hy : sp (Rg c) = Int32.ofNat y) (hy2 : y < 2147483648) (h16 : t 7 16 = 0 ∧ u 0 72 = 0)
    (hA : zAC (zNq t0) m Rg pq fr fd fp sp ac num1 H1 t1) (hR : zAR (zNq t0) m Rg pq fr fd fp (zfu sp (Rg c) (t0 103 y)) ac num1 H1 u1) (hB : zBC (zD t0) Y ql1 MC1 fc fk rw fq t1) (hBR : zBR (zD t0) f Y ql1 MR1 fc fk rw fq u1)
    (ft : ∀ r, ¬ (r = 51 ∨ r = 59 ∨ r = 85 ∨ 116 ≤ r) → t1 r = t r) (f59 : t1 59 8 = t 59 8) (fu : ∀ r, ¬ (r = 0 ∨ 46 ≤ r) → u1 r = u r) (fu0 : ∀ j, ¬ (j = 101 ∨ j = 107) → u1 0 j = u 0 j) (hwait : t1 59 9 = u1 0 101)
    (hk : k < zNq t0 (pq (Rg c))) (h91 : t0 91 y = Int32.ofNat k) (hH : H1 (Rg c) k = Int32.ofNat e) (he4 : e < 4000) (hHH : zHH (zD t0) Y fc H1) (hql : ∀ x, x < 2 * fc → ql1 x ≤ rw) (hz : zV N t0 z) (h107 : t0 107 y = zCz (zD t0) y0) (hy0 : (zD t0).kd y0 = 0 ↔ (zD t0).kd z = 0)
    (hBT : zBT t0 (zBk G) (zfu Y e z) ql1 MC1 MR1 (if (zD t0).kd z = 0 then zu H1 (Rg c) k (-1) else H1) fc) (hoth : ∀ p' k', ¬ p' = Rg c → p' < 2501 → H1 p' k' = H p' k') (hout : ∀ k', k' < zNq t0 (pq (Rg c)) → zHld N t0 (zfu Y e z) (g (2000 + y) k') ((if (zD t0).kd z = 0 then zu H1 (Rg c) k (-1) else H1) (Rg c) k')) (h0 : g (6000 + y) 0 = 0) :
    ∃ t2 u2, mX4_goOn (Int32.ofNat (Rg c)) (Int32.ofNat y) t1 = some (1, t2) ∧ mX12_goesOn (Int32.ofNat (Rg c)) (Int32.ofNat k) (Int32.ofNat (zF f z)) u1 = some (0, u2) ∧ zAo G f N Q t0 g pm m Rg t u (some (1, t2)) (some (1, u2)) := by
  obtain ⟨w1, w2, w3, w4, w5, w6, w7, w8, w9, w10, w11, w12, w13⟩ := zWho hg h hc hy hy2
  obtain ⟨n1, n2⟩ := zNq_at hg w1
  have hN := hg.1.1.2.2.2.1
  obtain ⟨a1, a2, a3, a4, a5, a6, a7, a8, a9, a10, a11, a12⟩ := h
  have a60 := a6
  obtain ⟨p1, p2, p3, p4, p5, p6, p7⟩ := a6
  have hfc := (zRw_bd p4 p2).1
  obtain ⟨o1, o2⟩ := zHH_of hHH (by omega) hH he4
  have lt := zFree_lt a60 o1 o2
  have s103 : t1 103 y = t0 103 y := by rw [ft 103 (by decide), hv.1 103 (by decide) (by decide) (by decide)]
  obtain ⟨t2, c1, c2, c3, c4, c5, c6, c7, c8⟩ := zGoOnC (y := z) (y0 := y0) (s := y) hA hB w3 w2 w5 (by rw [ft 91 (by decide), hv.1 91 (by decide) (by decide) (by decide)]; exact h91) hk hH o1 hfc (by omega) (fun _ _ => lt) o2 (by rw [ft 107 (by decide), hv.1 107 (by decide) (by decide) (by decide)]; exact h107) hy0
  rw [s103] at c2
  obtain ⟨b, b1, b2, b3, b4, _⟩ := zAR_at hR w3
  have hT : zTG G f N M P A T t0 u1 := zTG_of (zTG_live hg hm) (zTr_refl t0) ⟨fu 5 (by decide), fu 6 (by decide), fu 7 (by decide), fu 8 (by decide), fu 9 (by decide), fu 10 (by decide), fu 11 (by decide), fu 12 (by decide), fu 13 (by decide), fu0 14 (by decide), fu0 19 (by decide), fu0 22 (by decide)⟩
  obtain ⟨u2, d1, d2, d3, d4, d5, d6, d7⟩ := zGoeR (p := Rg c) (k := k) (b := b) (e := e) (y := z) hT hBR o1 hfc (by omega) (fun _ _ => lt) (fun x hx => (p7 x hx).1) hz (by omega) b1 (by omega) (by rw [(b3 k hk).2]; exact hH)
  refine ⟨t2, u2, c1, d1, 1, t2, u2, m, Rg, rfl, rfl, Or.inr rfl, ?_, ?_, Nat.le_refl _, fun _ _ => rfl, ?_, Or.inl ?_, ?_⟩
  · exact zFa_of (fun r hr => by rw [c8 r (by omega), ft r (by omega)]) (by rw [c7 13 (by decide), ft 7 (by decide)])
  · exact zFb_of (fun r r1 r2 => by rw [d7 r (by omega), fu r (by omega)]) (fun j j1 j2 => by rw [d6 j (by omega), fu0 j (by omega)]) (by rw [d6 86 (by decide), fu0 86 (by decide)])
  · rw [c7 16 (by decide), ft 7 (by decide), d6 72 (by decide), fu0 72 (by decide), h16.1, h16.2]
  · rw [c7 16 (by decide), ft 7 (by decide)]
  · -- the pieces again
    have hAR : zAR (zNq t0) m Rg pq fr fd fp (zfu sp (Rg c) (t0 103 y)) ac num1 (if (zD t0).kd z = 0 then zu H1 (Rg c) k (-1) else H1) u2 := by
      by_cases q : (zD t0).kd z = 0
      · rw [if_pos q]
        rw [if_pos q] at d3
        have := b4 k (-1) hk
        refine zAR_of this (fun j hj => by rw [d6 j (by omega), zu_ne1 (by decide)]) (fun r r1 r2 => ?_)
        by_cases e53 : r = 53
        · subst e53; exact d3
        · rw [d7 r (by omega), zu_row e53]
      · rw [if_neg q]
        rw [if_neg q] at d3
        refine zAR_of hR (fun j hj => by rw [d6 j (by omega)]) (fun r r1 r2 => ?_)
        by_cases e53 : r = 53
        · subst e53; exact d3
        · exact d7 r (by omega)
    obtain ⟨m1, m2, m3, m4, m5, m6, m7⟩ := a10
    obtain ⟨x1, x2, x3, x4, x5, kp, x6, x7, x8, x9⟩ := a11
    have e7 : t1 7 14 = Int32.ofNat mem := by rw [ft 7 (by decide)]; exact m1
    have e80 : u1 0 80 = Int32.ofNat mem := by rw [fu0 80 (by decide)]; exact m2
    rw [hB.2.2.1, e7, zCells] at c5
    rw [hBR.2.2.1, e80, zCells] at d5
    have go := zAft hg w1 n1 (by omega) (y + 1) y (by omega) w7 h0
    have bp := zBP_up (ql2 := ql1) a60 o1 o2 hz hql
    have hh2 : zHH (zD t0) (zfu Y e z) fc (if (zD t0).kd z = 0 then zu H1 (Rg c) k (-1) else H1) := by
      by_cases q : (zD t0).kd z = 0
      · rw [if_pos q]
        refine zHH_Y (zHH_neg hHH) (by omega) o1 (fun _ a b w => ?_)
        by_cases e1 : a = Rg c ∧ b = k
        · rw [e1.1, e1.2, zu_same] at w
          exact absurd (show (0 : Int32) ≤ -1 by rw [w]; exact zn_0le (by omega)) zn_m1
        · have : zu H1 (Rg c) k (-1) a b = H1 a b := by
            by_cases ea : a = Rg c
            · exact zu_ne2 (fun w => e1 ⟨ea, w⟩)
            · exact zu_ne1 ea
          rw [this] at w
          exact e1 (zHH_at hHH w hH he4)
      · rw [if_neg q]
        exact zHH_Y hHH (by omega) o1 (fun w => absurd w q)
    have thr : ∀ i, i < m → zTp N (zNq t0 (pq (Rg i))) (pq (Rg i)) t0 g (zfu Y e z) ((if (zD t0).kd z = 0 then zu H1 (Rg c) k (-1) else H1) (Rg i)) (zfu sp (Rg c) (t0 103 y) (Rg i)) := by
      refine zOth a3.2.1 hc a9 (fun p hp => zfu_ne hp) (fun p' k' hp' hp2 => ?_) (fun i hi => by have := (a3.1 i hi).1; have := a3.2.2.2.1; omega) (fun p' k' e' hp' hp2 hx hx2 => zfu_ne (fun w => ?_)) ?_
      · rw [← hoth p' k' hp' hp2]
        split
        · exact zu_ne1 hp'
        · rfl
      · rw [← hoth p' k' hp' hp2, w] at hx
        exact hp' (zHH_at hHH hx hH he4).1
      · rw [zfu_same]
        exact zTp_go hN go hout
    have memm : zMe (zNq t0) m Rg pq fc (if (zD t0).kd z = 0 ∧ (zD t0).kd (Y (zflp e)) = 0 then fk + 1 else fk) rw (if (zD t0).kd z = 0 ∧ (zD t0).kd (Y (zflp e)) = 0 then mem - (4 + 2 * rw) else mem) lim t2 u2 := by
      have l1 : (4 + 2 * rw) ≤ mem := by
        have : 1 * (4 + 2 * rw) ≤ (fc - fk) * (4 + 2 * rw) := Nat.mul_le_mul_right _ (by omega)
        omega
      have c15 : t2 7 15 = Int32.ofNat lim := by rw [c7 15 (by decide), ft 7 (by decide)]; exact m3
      have d74 : u2 0 74 = Int32.ofNat lim := by rw [d6 74 (by decide), fu0 74 (by decide)]; exact m4
      by_cases q : (zD t0).kd z = 0 ∧ (zD t0).kd (Y (zflp e)) = 0
      · rw [if_pos q, zn_sub l1 (by omega)] at c5 d5
        simp only [if_pos q]
        refine ⟨c5, d5, c15, d74, m5, by omega, ?_⟩
        have : (fc - fk) * (4 + 2 * rw) = (fc - (fk + 1)) * (4 + 2 * rw) + (4 + 2 * rw) := by
          rw [show fc - fk = (fc - (fk + 1)) + 1 by omega, Nat.add_mul, Nat.one_mul]
        omega
      · rw [if_neg q] at c5 d5
        simp only [if_neg q]
        exact ⟨c5, d5, c15, d74, m5, m6, m7⟩
    refine ⟨pq, fr, fd, fp, zfu sp (Rg c) (t0 103 y), ac, num1, _, zfu Y e z, ql1, MC1, MR1, fc, _, rw, _, _, lim, c2, hAR, a3, c3, d2, bp, hBT, hh2, thr, memm, ?_, ?_⟩
    · refine ⟨by rw [c7 11 (by decide), ft 7 (by decide), d6 77 (by decide), fu0 77 (by decide)]; exact x1, by rw [c7 12 (by decide), ft 7 (by decide), d6 78 (by decide), fu0 78 (by decide)]; exact x2, by rw [c8 60 (by decide), ft 60 (by decide), d6 79 (by decide), fu0 79 (by decide)]; exact x3, ?_, by rw [c6, hwait, d6 101 (by decide)], kp, x6, by rw [c7 10 (by decide), ft 7 (by decide)]; exact x7, by rw [d6 81 (by decide), fu0 81 (by decide)]; exact x8, ?_⟩
      · rw [c4, d4, f59, fu0 100 (by decide), x4]
      · rw [c8 66 (by decide), ft 66 (by decide), d7 44 (by decide), fu 44 (by decide)]; exact x9
    · exact zInp_of2 a12 (by rw [c7 8 (by decide), ft 7 (by decide)]) (by rw [c7 9 (by decide), ft 7 (by decide)]) (by rw [c8 64 (by decide), ft 64 (by decide)]) (by rw [d6 83 (by decide), fu0 83 (by decide)]) (by rw [d7 45 (by decide), fu 45 (by decide)])
