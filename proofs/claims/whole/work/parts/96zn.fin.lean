/-! ACTS on channels: how they end, at any spot -/
/-- a channel's end goes on on both sides, any spot -/
theorem zTalkFin {G : zTxt} {f : Nat → Nat} {N M P A T Q Pa bb S F C R W V : Nat} {o : Nat → Nat × Nat} {w : Nat → Nat} {t0 u0 g : zS} {pm m c y k e z : Nat} {Rg : Nat → Nat} {pq fp ql Y fq : Nat → Nat} {fr fd fc fk rw mem lim : Nat} {sp ac : Nat → Int32} {num H MC MR : zS} {t u t1 u1 t2 : zS} {num1 H1 MC1 MR1 : zS} {sa : Int32} {r2 : Nat → Int32} {ql1 : Nat → Nat} (hg : zGd G f N M P A T Q Pa bb S F C R W V o w t0 u0 g) (hv : zLv t0 t) (hm : zLvM S t0 u0 u) (h : zDyn G f N Q t0 g pm m Rg pq fr fd fp sp ac num H Y ql MC MR fc fk rw fq mem lim t u) (hc : c < m) (hy : sp (Rg c) = Int32.ofNat y) (hy2 : y < 2147483648) (h16 : t 7 16 = 0 ∧ u 0 72 = 0)
    (hR : zAR (zNq t0) m Rg pq fr fd fp (zfu sp (Rg c) sa) ac num1 H1 u1) (hB7 : t1 59 7 = Int32.ofNat rw)
    (c2 : zAC (zNq t0) m Rg pq fr fd fp (zfu sp (Rg c) sa) ac num1 (if (zD t0).kd z = 0 then zu H1 (Rg c) k (-1) else H1) t2) (c3 : zBC (zD t0) (zfu Y e z) ql1 MC1 fc (if (zD t0).kd z = 0 ∧ (zD t0).kd (Y (zflp e)) = 0 then fk + 1 else fk) rw (if (zD t0).kd z = 0 ∧ (zD t0).kd (Y (zflp e)) = 0 then zfu fq fk (e / 2) else fq) t2) (c4 : t2 59 8 = (if (zD t0).kd z = 0 ∧ (zD t0).kd (Y (zflp e)) = 0 then t1 59 8 - 1 else t1 59 8)) (c5 : t2 7 14 = (if (zD t0).kd z = 0 ∧ (zD t0).kd (Y (zflp e)) = 0 then t1 7 14 - (4 + 2 * t1 59 7) else t1 7 14)) (c6 : t2 59 9 = t1 59 9) (c7 : ∀ j, ¬ j = 14 → t2 7 j = t1 7 j) (c8 : ∀ k, ¬ (k = 7 ∨ k = 59 ∨ k = 123 ∨ k = 125 ∨ k = 129 ∨ k = 145) → t2 k = t1 k) (hBR : zBR (zD t0) f Y ql1 MR1 fc fk rw fq u1)
    (ft : ∀ r, ¬ (r = 51 ∨ r = 59 ∨ r = 85 ∨ 116 ≤ r) → t1 r = t r) (f59 : t1 59 8 = t 59 8) (fu : ∀ r, ¬ (r = 0 ∨ 46 ≤ r) → u1 r = u r) (fu0 : ∀ j, ¬ (j = 101 ∨ j = 107) → u1 0 j = u 0 j) (hwait : t1 59 9 = u1 0 101)
    (hk : k < zNq t0 (pq (Rg c))) (hH : H1 (Rg c) k = Int32.ofNat e) (he4 : e < 4000) (hHH : zHH (zD t0) Y fc H1) (hql : ∀ x, x < 2 * fc → ql1 x ≤ rw) (hz : zV N t0 z)
    (hBT : zBT t0 (zBk G) (zfu Y e z) ql1 MC1 MR1 (if (zD t0).kd z = 0 then zu H1 (Rg c) k (-1) else H1) fc) (hoth : ∀ p' k', ¬ p' = Rg c → p' < 2501 → H1 p' k' = H p' k') (hout : ∀ k', k' < zNq t0 (pq (Rg c)) → zHld N t0 (zfu Y e z) (r2 k') ((if (zD t0).kd z = 0 then zu H1 (Rg c) k (-1) else H1) (Rg c) k')) (hgo : zGoA N (zNq t0 (pq (Rg c))) (pq (Rg c)) t0 g sa r2) :
    ∃ u2, mX12_goesOn (Int32.ofNat (Rg c)) (Int32.ofNat k) (Int32.ofNat (zF f z)) u1 = some (0, u2) ∧ zAo G f N Q t0 g pm m Rg t u (some (1, t2)) (some (1, u2)) := by
  obtain ⟨w1, w2, w3, w4, w5, w6, w7, w8, w9, w10, w11, w12, w13⟩ := zWho hg h hc hy hy2
  obtain ⟨n1, n2⟩ := zNq_at hg w1
  have hN := hg.1.1.2.2.2.1
  obtain ⟨a1, a2, a3, a4, a5, a6, a7, a8, a9, a10, a11, a12⟩ := h
  have a60 := a6
  obtain ⟨p1, p2, p3, p4, p5, p6, p7⟩ := a6
  have hfc := (zRw_bd p4 p2).1
  obtain ⟨o1, o2⟩ := zHH_of hHH (by omega) hH he4
  have lt := zFree_lt a60 o1 o2
  obtain ⟨b, b1, b2, b3, b4, _⟩ := zAR_at hR w3
  have hT : zTG G f N M P A T t0 u1 := zTG_of (zTG_live hg hm) (zTr_refl t0) ⟨fu 5 (by decide), fu 6 (by decide), fu 7 (by decide), fu 8 (by decide), fu 9 (by decide), fu 10 (by decide), fu 11 (by decide), fu 12 (by decide), fu 13 (by decide), fu0 14 (by decide), fu0 19 (by decide), fu0 22 (by decide)⟩
  obtain ⟨u2, d1, d2, d3, d4, d5, d6, d7⟩ := zGoeR (p := Rg c) (k := k) (b := b) (e := e) (y := z) hT hBR o1 hfc (by omega) (fun _ _ => lt) (fun x hx => (p7 x hx).1) hz (by omega) b1 (by omega) (by rw [(b3 k hk).2]; exact hH)
  refine ⟨u2, d1, 1, t2, u2, m, Rg, rfl, rfl, Or.inr rfl, ?_, ?_, Nat.le_refl _, fun _ _ => rfl, ?_, Or.inl ?_, ?_⟩
  · exact zFa_of (fun r hr => by rw [c8 r (by omega), ft r (by omega)]) (by rw [c7 13 (by decide), ft 7 (by decide)])
  · exact zFb_of (fun r r1 r2 => by rw [d7 r (by omega), fu r (by omega)]) (fun j j1 j2 => by rw [d6 j (by omega), fu0 j (by omega)]) (by rw [d6 86 (by decide), fu0 86 (by decide)])
  · rw [c7 16 (by decide), ft 7 (by decide), d6 72 (by decide), fu0 72 (by decide), h16.1, h16.2]
  · rw [c7 16 (by decide), ft 7 (by decide)]
  · -- the pieces again
    have hAR : zAR (zNq t0) m Rg pq fr fd fp (zfu sp (Rg c) sa) ac num1 (if (zD t0).kd z = 0 then zu H1 (Rg c) k (-1) else H1) u2 := by
      by_cases q : (zD t0).kd z = 0
      · rw [if_pos q]
        rw [if_pos q] at d3
        have := b4 k (-1) hk
        refine zAR_of this (fun j hj => by rw [d6 j (by omega), zu_ne1 (by decide)]) (fun r r1 r2 => ?_)
        by_cases e53 : r = 53
        · subst e53; exact d3
        · rw [d7 r (by omega), zu_row e53]
      · rw [if_neg q]
        rw [if_neg q] at d3
        refine zAR_of hR (fun j hj => by rw [d6 j (by omega)]) (fun r r1 r2 => ?_)
        by_cases e53 : r = 53
        · subst e53; exact d3
        · exact d7 r (by omega)
    obtain ⟨m1, m2, m3, m4, m5, m6, m7⟩ := a10
    obtain ⟨x1, x2, x3, x4, x5, kp, x6, x7, x8, x9⟩ := a11
    have e7 : t1 7 14 = Int32.ofNat mem := by rw [ft 7 (by decide)]; exact m1
    have e80 : u1 0 80 = Int32.ofNat mem := by rw [fu0 80 (by decide)]; exact m2
    rw [hB7, e7, zCells] at c5
    rw [hBR.2.2.1, e80, zCells] at d5
    have bp := zBP_up (ql2 := ql1) a60 o1 o2 hz hql
    have hh2 : zHH (zD t0) (zfu Y e z) fc (if (zD t0).kd z = 0 then zu H1 (Rg c) k (-1) else H1) := by
      by_cases q : (zD t0).kd z = 0
      · rw [if_pos q]
        refine zHH_Y (zHH_neg hHH) (by omega) o1 (fun _ a b w => ?_)
        by_cases e1 : a = Rg c ∧ b = k
        · rw [e1.1, e1.2, zu_same] at w
          exact absurd (show (0 : Int32) ≤ -1 by rw [w]; exact zn_0le (by omega)) zn_m1
        · have : zu H1 (Rg c) k (-1) a b = H1 a b := by
            by_cases ea : a = Rg c
            · exact zu_ne2 (fun w => e1 ⟨ea, w⟩)
            · exact zu_ne1 ea
          rw [this] at w
          exact e1 (zHH_at hHH w hH he4)
      · rw [if_neg q]
        exact zHH_Y hHH (by omega) o1 (fun w => absurd w q)
    have thr : ∀ i, i < m → zTp N (zNq t0 (pq (Rg i))) (pq (Rg i)) t0 g (zfu Y e z) ((if (zD t0).kd z = 0 then zu H1 (Rg c) k (-1) else H1) (Rg i)) (zfu sp (Rg c) sa (Rg i)) := by
      refine zOth a3.2.1 hc a9 (fun p hp => zfu_ne hp) (fun p' k' hp' hp2 => ?_) (fun i hi => by have := (a3.1 i hi).1; have := a3.2.2.2.1; omega) (fun p' k' e' hp' hp2 hx hx2 => zfu_ne (fun w => ?_)) ?_
      · rw [← hoth p' k' hp' hp2]
        split
        · exact zu_ne1 hp'
        · rfl
      · rw [← hoth p' k' hp' hp2, w] at hx
        exact hp' (zHH_at hHH hx hH he4).1
      · rw [zfu_same]
        exact zTp_go hN hgo hout
    have memm : zMe (zNq t0) m Rg pq fc (if (zD t0).kd z = 0 ∧ (zD t0).kd (Y (zflp e)) = 0 then fk + 1 else fk) rw (if (zD t0).kd z = 0 ∧ (zD t0).kd (Y (zflp e)) = 0 then mem - (4 + 2 * rw) else mem) lim t2 u2 := by
      have l1 : (4 + 2 * rw) ≤ mem := by
        have : 1 * (4 + 2 * rw) ≤ (fc - fk) * (4 + 2 * rw) := Nat.mul_le_mul_right _ (by omega)
        omega
      have c15 : t2 7 15 = Int32.ofNat lim := by rw [c7 15 (by decide), ft 7 (by decide)]; exact m3
      have d74 : u2 0 74 = Int32.ofNat lim := by rw [d6 74 (by decide), fu0 74 (by decide)]; exact m4
      by_cases q : (zD t0).kd z = 0 ∧ (zD t0).kd (Y (zflp e)) = 0
      · rw [if_pos q, zn_sub l1 (by omega)] at c5 d5
        simp only [if_pos q]
        refine ⟨c5, d5, c15, d74, m5, by omega, ?_⟩
        have : (fc - fk) * (4 + 2 * rw) = (fc - (fk + 1)) * (4 + 2 * rw) + (4 + 2 * rw) := by
          rw [show fc - fk = (fc - (fk + 1)) + 1 by omega, Nat.add_mul, Nat.one_mul]
        omega
      · rw [if_neg q] at c5 d5
        simp only [if_neg q]
        exact ⟨c5, d5, c15, d74, m5, m6, m7⟩
    refine ⟨pq, fr, fd, fp, zfu sp (Rg c) sa, ac, num1, _, zfu Y e z, ql1, MC1, MR1, fc, _, rw, _, _, lim, c2, hAR, a3, c3, d2, bp, hBT, hh2, thr, memm, ?_, ?_⟩
    · refine ⟨by rw [c7 11 (by decide), ft 7 (by decide), d6 77 (by decide), fu0 77 (by decide)]; exact x1, by rw [c7 12 (by decide), ft 7 (by decide), d6 78 (by decide), fu0 78 (by decide)]; exact x2, by rw [c8 60 (by decide), ft 60 (by decide), d6 79 (by decide), fu0 79 (by decide)]; exact x3, ?_, by rw [c6, hwait, d6 101 (by decide)], kp, x6, by rw [c7 10 (by decide), ft 7 (by decide)]; exact x7, by rw [d6 81 (by decide), fu0 81 (by decide)]; exact x8, ?_⟩
      · rw [c4, d4, f59, fu0 100 (by decide), x4]
      · rw [c8 66 (by decide), ft 66 (by decide), d7 44 (by decide), fu 44 (by decide)]; exact x9
    · exact zInp_of2 a12 (by rw [c7 8 (by decide), ft 7 (by decide)]) (by rw [c7 9 (by decide), ft 7 (by decide)]) (by rw [c8 64 (by decide), ft 64 (by decide)]) (by rw [d6 83 (by decide), fu0 83 (by decide)]) (by rw [d7 45 (by decide), fu 45 (by decide)])
