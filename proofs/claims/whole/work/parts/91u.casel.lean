/-! case in lockstep -/
def zCS (G : zTxt) (i d p b H : Nat) (f : Nat → Nat) (N M A S n F C R W V q s m W0 : Nat) (E : Nat → Nat) (o : Nat → Nat × Nat) (w : Nat → Nat) (Y Z : List Nat) (t u : zS) : Prop := zBB G i d p b (H + m) f N M A S n F C R W V q o w Y Z t u ∧ zLk (t 115) W m (t 105 s) E ∧ (∀ j, j < m → zNm (zBk G) (t 109 (E j)) (u 39 (2 * (H + j))) ∧ zBl t o s S (-2 - Int32.ofNat s) (t 111 (E j)) (u 39 (2 * (H + j) + 1)) ∧ w (E j) = s ∧ W0 ≤ E j) ∧ zDs m E (t 109) ∧ ∀ j l, j < l → l < m → t 111 (E j) = t 111 (E l) → t 111 (E j) = -1
/-- what is kept of a case from its { on -/
def zCK (s p F C : Nat) (ts us t u : zS) : Prop := zRS [105] [19, 20] s ts us t u ∧ zGr ts t p ∧ zFP zpR ts t ∧ zFP zpM us u
def zCaseOk (G : zTxt) (i d p b H : Nat) (f : Nat → Nat) (N M A S0 n0 F0 C0 R0 W0 V0 q0 S n F C R W V q s e : Nat) (o0 : Nat → Nat × Nat) (w0 : Nat → Nat) (Y Z : List Nat) (tg : Nat × Nat) (t0 u0 ts us t2 u2 : zS) : Prop := ∃ i2 S2 n2 F2 C2 R2 W2 V2 q2 o2 w2, i + 3 ≤ i2 ∧ zBB G i2 d p b H f N M A S2 n2 F2 C2 R2 W2 V2 q2 o2 w2 Y Z t2 u2 ∧ zBX p b H S0 n0 F0 C0 R0 W0 V0 q0 S2 n2 F2 C2 R2 W2 V2 q2 o0 o2 w0 w2 t0 u0 t2 u2 ∧ zBF i S n F C R W V q i2 S2 n2 F2 C2 R2 W2 V2 q2 ∧ zBc (zBk G) o2 w2 S2 W2 V2 t2 u2 s ∧ (o2 s = (e, p) ∧ o2 (10000 + s) = tg) ∧ zCK s p F C ts us t2 u2 ∧ d < 40 ∧ S ≤ S2
theorem zCaseEnd {gM : GgX12_block} {gC : GgX7_readBlock} {k36 : Int32 → Int32 → Int32 → zS → zR} {G : zTxt} {i d p b H : Nat} {f : Nat → Nat} {N M A S n F C R W V q S0 n0 F0 C0 R0 W0 V0 q0 s m e : Nat} {E : Nat → Nat} {o o0 : Nat → Nat × Nat} {w w0 : Nat → Nat} {Y Z : List Nat} {tg : Nat × Nat} {t0 u0 ts us t u : zS} (h : zCS G i (d + 1) p b H f N M A S n F C R W V q s (m + 1) W0 E o w Y Z t u) (hN : zBN i A (H + (m + 1)) b S n F C R W V q) (hd : d < 40) (hX : zBX p b H S0 n0 F0 C0 R0 W0 V0 q0 S n F C R W V q o0 o w0 w t0 u0 t u) (hs0 : S0 ≤ s) (hs : s < S) (hsY : s ∈ Y) (hos : o s = (e, p) ∧ o (10000 + s) = tg) (hs1 : s < 1000) (hQ : 2 * A + 2 * V + 2 * (H + (m + 1)) ≤ i) (h3 : 3 * S ≤ i) (hk : zCK s p F0 C0 ts us t u) (fR : zFP zpR t0 t) (fM : zFP zpM u0 u) :
    ∃ t2 rm u2, bX7_readCases_105 gC t = some (0, t2) ∧ bX12_choose_36 gM k36 (Int32.ofNat s) (Int32.ofNat (2 * H)) 0 u = some (rm, u2) ∧ ((rm = Int32.ofNat s ∧ ∃ S2 n2 F2 C2 R2 W2 V2 q2 o2 w2, zBB G (i + 1) d p b H f N M A S2 n2 F2 C2 R2 W2 V2 q2 o2 w2 Y Z t2 u2 ∧ zBX p b H S0 n0 F0 C0 R0 W0 V0 q0 S2 n2 F2 C2 R2 W2 V2 q2 o0 o2 w0 w2 t0 u0 t2 u2 ∧ (S2 = S ∧ n2 = n ∧ F2 = F ∧ C2 = C ∧ R2 = R ∧ W2 = W ∧ V2 = V + (m + 1) ∧ q2 = q) ∧ zBc (zBk G) o2 w2 S2 W2 V2 t2 u2 s ∧ (o2 s = (e, p) ∧ o2 (10000 + s) = tg) ∧ zCK s p F0 C0 ts us t2 u2) ∨ zSE H t0 u0 t2 u2) := by
  obtain ⟨h1, hL, hC, hD, hD2⟩ := h
  have hl := zAt_lt h1.1.1
  have hb : S ≤ 1000 ∧ n ≤ 3000 ∧ C ≤ 6400 ∧ V + (m + 1) ≤ 1600 ∧ H + (m + 1) ≤ 1600 ∧ 2 * A + 2 * V + 2 * (H + (m + 1)) ≤ 3002 := by
    obtain ⟨m1, m2, m3, m4, m5, m6, m7, m8⟩ := hN
    refine ⟨?_, ?_, ?_, ?_, ?_, ?_⟩ <;> omega
  obtain ⟨b1, b2, b3, b4, b5, b6⟩ := hb
  have hs2 : s < 1600 := Nat.lt_trans hs1 (by decide)
  obtain ⟨t1, u1, r1, r2, r3, r4, r5⟩ := zAt_leave (c := 125) h1.1.1 (by decide) (Nat.le_of_lt hd) h1.1.2.1 h1.1.2.2.1
  unfold bX7_readCases_105 bX12_choose_36
  rw [r1, pl_bd, if_pos rfl, r2, pl_bd]
  show ∃ t2 rm u2, some ((0 : Int32), t1) = some (0, t2) ∧ zhFin gM (Int32.ofNat s) (Int32.ofNat (2 * H)) u1 = some (rm, u2) ∧ _
  rcases r5 with ⟨_, c4, c5, c6, _⟩ | ⟨_, c2⟩
  · obtain ⟨z1, X1⟩ := zBB_fr (d2 := d) h1 c4 (Nat.le_succ _) b2 b1 c5 c6 r3 r4
    have X2 := zBX_trans hX X1 (Nat.le_add_right _ _)
    have e59 := z1.2.2.2.2.2.2.2.2.1
    have e36 := z1.2.2.2.2.2.2.2.1
    have e2 : ∀ x, (zu u1 19 s x 0 59 - Int32.ofNat (2 * H)) / 2 = Int32.ofNat (m + 1) := fun x => by
      rw [zu_ne1 (by decide), e59, zn_sub (by clear hC hD hL; omega) (by clear hC hD hL; omega), show 2 * (H + (m + 1)) - 2 * H = 2 * (m + 1) by clear hC hD hL; omega, zn_half (by clear hC hD hL; omega)]
    unfold zhFin
    rw [zn_wr hs2 (by decide), zn_wr hs2 (by decide), e2, e36]
    have z2 := zBB_mu (k := 20) (v := Int32.ofNat (m + 1)) (zBB_mu (k := 19) (v := Int32.ofNat V) z1 hsY b1 (by decide)) hsY b1 (by decide)
    have X3 := zBX_mu (k := 20) (v := Int32.ofNat (m + 1)) (s := s) (zBX_mu (k := 19) (v := Int32.ofNat V) (s := s) X2 hs0 (by decide)) hs0 (by decide)
    have g39 : ∀ l, zu (zu u1 19 s (Int32.ofNat V)) 20 s (Int32.ofNat (m + 1)) 39 l = u 39 l := fun l => by rw [zu_ne1 (by decide), zu_ne1 (by decide), r4.1 39 (by decide) (by decide) (by decide)]
    have g19 : zu (zu u1 19 s (Int32.ofNat V)) 20 s (Int32.ofNat (m + 1)) 19 s = Int32.ofNat V := by rw [zu_ne1 (by decide), zu_same]
    have g20 : zu (zu u1 19 s (Int32.ofNat V)) 20 s (Int32.ofNat (m + 1)) 20 s = Int32.ofNat (m + 1) := zu_same _ _ _ _
    have gk : ∀ k, 14 ≤ k → k ≤ 22 → ¬ k ∈ [19, 20] → zu (zu u1 19 s (Int32.ofNat V)) 20 s (Int32.ofNat (m + 1)) k s = u k s := fun k k1 k2 k3 => by
      have n19 : ¬ k = 19 := fun e => k3 (by rw [e]; simp)
      have n20 : ¬ k = 20 := fun e => k3 (by rw [e]; simp)
      rw [zu_ne1 n20, zu_ne1 n19, r4.1 k (by clear hC hD hL; omega) (by clear hC hD hL; omega) (by clear hC hD hL; omega)]
    have gF : zFP zpM u (zu (zu u1 19 s (Int32.ofNat V)) 20 s (Int32.ofNat (m + 1))) := zFP_zu (zFP_zu (zFP_M (zFP_N r4)) rfl) rfl
    generalize zu (zu u1 19 s (Int32.ofNat V)) 20 s (Int32.ofNat (m + 1)) = uw at *
    obtain ⟨u3, q1, q2, q3, q4, q5, q6, q7⟩ := pl_hlay (g := gM) (x1 := Int32.ofNat s) (H := H) (n := m + 1) (A := V) b5 (m + 1) 0 (zFU - (m + 1) - 1) uw (by clear hC hD hL; omega) z2.2.2.2.2.2.2.2.2.1 z2.2.2.2.2.2.2.2.1 b4
    have ef : zFU - (m + 1) - 1 + (m + 1) + 1 = zFU := by unfold zFU; clear hC hD hL; omega
    rw [ef] at q1
    have z3 := zBB_lay (H2 := H) (V2 := V + (m + 1)) z2 b1 (Nat.le_add_right _ _) q4 q5 q3 q6 q7
    have X4 := zBX_u (V3 := V + (m + 1)) X3 (Nat.le_add_right _ _) (fun k _ => by rw [q6 39 (by decide)]) (fun a ha => q3 a (Nat.lt_of_lt_of_le ha X3.2.2.2.2.2.2.1)) (fun k hk => q6 k (by clear hC hD hL; omega)) q7
    have gF2 : zFP zpM uw u3 := by
      intro k j hq
      by_cases e : k = 0
      · subst e
        refine q7 j (fun x => ?_)
        rcases x with x | x <;> subst x <;> cases hq
      · rw [q6 k ?_]
        rintro (x | x | x) <;> subst x <;> first | exact e rfl | cases hq
    refine ⟨t1, _, u3, rfl, q1, Or.inl ⟨rfl, S, n, F, C, R, W, V + (m + 1), q, o, w, z3, X4, ⟨rfl, rfl, rfl, rfl, rfl, rfl, rfl, rfl⟩, ?_, hos, ⟨⟨fun k k1 k2 k3 => ?_, fun k k1 k2 k3 => ?_⟩, ?_, zFP_trans hk.2.2.1 (zFP_rS r3), zFP_trans hk.2.2.2 (zFP_trans gF gF2)⟩⟩⟩
    · refine ⟨m + 1, V, E, Nat.succ_pos _, by rw [r3.1 115 (by decide), r3.1 105 (by decide)]; exact hL, by rw [q6 19 (by decide)]; exact g19, by rw [q6 20 (by decide)]; exact g20, Nat.le_refl _, fun j hj => ?_, by rw [r3.1 109 (by decide)]; exact hD, by rw [r3.1 111 (by decide)]; exact hD2⟩
      obtain ⟨c1, c2, c3, c4⟩ := hC j hj
      have := q2 j (Nat.zero_le _) hj
      rw [this.1, this.2, g39, g39, r3.1 109 (by decide), r3.1 111 (by decide)]
      exact ⟨c1, zBl_ext c2 hs (fun _ _ => rfl) (Nat.le_refl _) (fun r _ => by rw [r3.1 101 (by decide)]), c3⟩
    · rw [r3.1 k (by clear hC hD hL; omega)]; exact hk.1.1 k k1 k2 k3
    · rw [q6 k (by clear hC hD hL; omega), gk k k1 k2 k3]; exact hk.1.2 k k1 k2 k3
    · intro mm hmm hmm2
      obtain ⟨m2, y1, y2, y3⟩ := hk.2.1 mm hmm hmm2
      exact ⟨m2, by rw [r3.1 39 (by decide)]; exact y1, y2, y3⟩
  · have hE := zSE_H (H := H) (zSE_pre (zSE_ofB h1 b3 b6 c2 r3 r4) fR fM) (Nat.le_add_right _ _)
    obtain ⟨u3, q1, q2⟩ := zhFin_er (g := gM) (m := s) hE hs2
    exact ⟨t1, _, u3, rfl, q1, Or.inr q2⟩
