/-! + and & in lockstep -/
theorem zB_inj {G : zTxt} {w w2 v : Nat} (h : (zBk G)[w]? = some v) (h2 : (zBk G)[w2]? = some v) : w = w2 := zLs_inj _ _ _ _ h h2
theorem zBk_len {G : zTxt} {i : Nat} {t u : zS} (h : zAt G i t u) : (zBk G).length ≤ 1600 := zNs_len (zWf_of h.1) _
theorem zNm_iff {G : zTxt} {i : Nat} {t u : zS} (ha : zAt G i t u) {x y : Int32} {v w : Nat} (h : zNm (zBk G) x y) (hv : v < 1600) (hw : (zBk G)[w]? = some v) : x = Int32.ofNat v ↔ y = Int32.ofNat w := by
  obtain ⟨v1, w1, a1, a2, a3, a4⟩ := h
  subst a2 a3
  constructor
  · intro e
    have := (zn_inj (by omega) (by omega)).mp e
    subst this
    rw [zB_inj a4 hw]
  · intro e
    have hb := zBk_len ha
    have l1 := zLs_lt a4
    have l2 := zLs_lt hw
    have := (zn_inj (by omega) (by omega)).mp e
    subst this
    rw [a4] at hw
    rw [Option.some.inj hw]
/-- the state of both between two alternatives -/
def zCL (G : zTxt) (z y p S H i d : Nat) (f : Nat → Nat) (X : List Nat) (c m : Nat) (x xr : Int32) (P0 N M P A q n : Nat) (e : Nat → Nat) (t u : zS) : Prop :=
  zTB G S (H + n) i (d + 1) f (c :: X) N M P A q t u ∧ N ≤ i ∧ M ≤ i ∧ P + p ≤ A + (H + n) ∧ zW (t 9) (t 13) N + y ≤ i ∧ c < N ∧ f c = m ∧ t 9 c = x ∧ u 5 m = xr ∧ t 13 c = Int32.ofNat n ∧ zLk (t 19) P n (t 11 c) e ∧ zPs (zBk G) f N n e (t 15) (t 17) (fun j => u 39 (2 * (H + j))) (fun j => u 39 (2 * (H + j) + 1)) ∧ zDs n e (t 15) ∧ ∀ j, j < n → f (10000 + e j) = c ∧ P0 ≤ e j
def zCok (G : zTxt) (z y p S H i d : Nat) (f0 : Nat → Nat) (X : List Nat) (c m : Nat) (x : Int32) (N0 M0 P0 A0 : Nat) (t0 u0 t u : zS) : Prop := ∃ i2 f N M P A q, i < i2 ∧ zTX f0 f N0 M0 P0 A0 H N M P A t0 u0 t u ∧ zTS G z y p S H i2 d f X N M P A q t u ∧ 2 * A + 2 * H + z ≤ i2 ∧ 2 * q ≤ i2 ∧ c < N ∧ f c = m ∧ t 9 c = x
theorem zTS_leave2 {G : zTxt} {z y p S H i d : Nat} {f : Nat → Nat} {X : List Nat} {N M P A q : Nat} {t u : zS} {c : Int32} (h : zTS G z y p S H i (d + 1) f X N M P A q t u) (hd : d ≤ 40) (hc : c ∈ zSgs) : ∃ t2 u2, mX7_leave c t = some (0, t2) ∧ mX12_closes c u = some (0, u2) ∧ zSf t t2 ∧ zMf u u2 ∧ ((zTS G z y p S H (i + 1) d f X N M P A q t2 u2 ∧ zTX f f N M P A H N M P A t u t2 u2) ∨ zXE z H t u t2 u2) := by
  obtain ⟨t2, u2, r1, r2, r3, r4, r5⟩ := zAt_leave h.1.1 hc hd h.1.2.1 h.1.2.2.1
  refine ⟨t2, u2, r1, r2, r3, r4, ?_⟩
  rcases r5 with ⟨_, b4, b5, b6, _⟩ | ⟨_, b2⟩
  · exact Or.inl ⟨zTS_fr h b4 (by omega) b5 b6 r3 r4, zTX_fr r3 r4⟩
  · exact Or.inr (zXE_fr h b2 r3 r4)
/-- the last } of + or & -/
theorem zChEnd {gC : GgX7_readForm} {gM : GgX12_type} {k : Int32 → Int32 → Int32 → zS → zR} {G : zTxt} {z y p S H i d : Nat} {f f0 : Nat → Nat} {X : List Nat} {c m : Nat} {x xr : Int32} {N0 M0 P0 A0 N M P A q n : Nat} {e : Nat → Nat} {t0 u0 t u : zS} (xx : zTX f0 f N0 M0 P0 A0 H N M P A t0 u0 t u) (h : zCL G z y p S H i d f X c m x xr P0 N M P A q (n + 1) e t u) (hQ : 2 * A + 2 * (H + (n + 1)) + z ≤ i) (hq : 2 * q ≤ i + 1) (hd : d < 40) (hx : (x = 8 ∧ xr = 7) ∨ (x = 9 ∧ xr = 8)) (hc : N0 ≤ c) (hm : M0 ≤ m) : ∃ rc t2 rm u2, bX7_readChoice_124 gC (Int32.ofNat c) t = some (rc, t2) ∧ bX12_choices_49 gM k (Int32.ofNat m) (Int32.ofNat (2 * H)) 0 u = some (rm, u2) ∧ ((rc = Int32.ofNat c ∧ rm = Int32.ofNat m ∧ zCok G z y p S H i d f0 X c m x N0 M0 P0 A0 t0 u0 t2 u2) ∨ zXE z H t0 u0 t2 u2) := by
  obtain ⟨h1, h2, h3, h4, h5, h6, h7, h8, h9, h10, h11, h12, h13, h14⟩ := h
  have hl := zAt_lt h1.1
  have hS : zTS G z y p S (H + (n + 1)) i (d + 1) f (c :: X) N M P A q t u := ⟨h1, h2, h3, h4, by omega, h5⟩
  have hmM : m < M := by rw [← h7]; exact h1.2.2.2.1.2.2.2.2.1 c h6
  obtain ⟨t1, u1, r1, r2, rsf, _, r3⟩ := zTS_leave2 (c := 125) hS (by omega) (by decide)
  unfold bX7_readChoice_124 bX12_choices_49
  rw [r1, pl_bd, if_pos rfl, r2, pl_bd]
  show ∃ rc t2 rm u2, some (Int32.ofNat c, t1) = some (rc, t2) ∧ zFin gM (Int32.ofNat m) (Int32.ofNat (2 * H)) u1 = some (rm, u2) ∧ _
  rcases r3 with ⟨s1, s2⟩ | s1
  · have xx1 := zTX_trans xx s2 (by omega)
    have b := s1.1
    have inj := b.2.2.2.1.2.2.2.2.2.1
    have hA19 := b.2.2.2.1.2.2.2.1
    have h59 := b.2.2.2.2.2
    have hfr : ∀ c', c' < N → ¬ c' ∈ c :: X → ¬ f c' = m := fun c' a1 a2 a3 => a2 (by rw [inj c' c a1 h6 (by rw [a3, h7])]; exact List.mem_cons_self)
    have e2 : ∀ w, (zu u1 7 m w 0 59 - Int32.ofNat (2 * H)) / 2 = Int32.ofNat (n + 1) := fun w => by
      rw [zu_ne1 (by decide), h59, zn_sub (by omega) (by omega), show 2 * (H + (n + 1)) - 2 * H = 2 * (n + 1) by omega, zn_half (by omega)]
    unfold zFin
    rw [zn_wr (by omega) (by decide), zn_wr (by omega) (by decide), e2, hA19]
    have b2 := zTB_setOf (k := 8) (v := Int32.ofNat (n + 1)) (Or.inr rfl) (zTB_setOf (k := 7) (v := Int32.ofNat A) (Or.inl rfl) b hfr) hfr
    have xx2 := zTX_setOf (k := 8) (v := Int32.ofNat (n + 1)) (Or.inr rfl) (zTX_setOf (k := 7) (v := Int32.ofNat A) (Or.inl rfl) xx1 hm) hm
    have w39 : ∀ l, zu (zu u1 7 m (Int32.ofNat A)) 8 m (Int32.ofNat (n + 1)) 39 l = u1 39 l := fun l => by simp (disch := first | omega | decide | assumption) only [zu_same, zu_ne1, zu_ne2, zu_row, pl_bd, pl_pt, pl_let, zn_set, zn_get, zn_rd, zn_wr, zn_1, zn_m, Nat.reduceAdd]
    have w5 : zu (zu u1 7 m (Int32.ofNat A)) 8 m (Int32.ofNat (n + 1)) 5 m = xr := by
      simp (disch := first | omega | decide | assumption) only [zu_same, zu_ne1, zu_ne2, zu_row, pl_bd, pl_pt, pl_let, zn_set, zn_get, zn_rd, zn_wr, zn_1, zn_m, Nat.reduceAdd]
      rw [(s2.2.2.2.2.2.2.2.1 m hmM).1]; exact h9
    have w7 : zu (zu u1 7 m (Int32.ofNat A)) 8 m (Int32.ofNat (n + 1)) 7 m = Int32.ofNat A := by simp (disch := first | omega | decide | assumption) only [zu_same, zu_ne1, zu_ne2, zu_row, pl_bd, pl_pt, pl_let, zn_set, zn_get, zn_rd, zn_wr, zn_1, zn_m, Nat.reduceAdd]
    have w8 : zu (zu u1 7 m (Int32.ofNat A)) 8 m (Int32.ofNat (n + 1)) 8 m = Int32.ofNat (n + 1) := by simp (disch := first | omega | decide | assumption) only [zu_same, zu_ne1, zu_ne2, zu_row, pl_bd, pl_pt, pl_let, zn_set, zn_get, zn_rd, zn_wr, zn_1, zn_m, Nat.reduceAdd]
    generalize zu (zu u1 7 m (Int32.ofNat A)) 8 m (Int32.ofNat (n + 1)) = w at *
    obtain ⟨u3, q1, q2, q3, q4, q5, q6, q7⟩ := pl_lay (g := gM) (x1 := Int32.ofNat m) (H := H) (n := n + 1) (A := A) (by omega) (n + 1) 0 (zFU - (n + 1) - 1) w (by omega) b2.2.2.2.2.2 b2.2.2.2.1.2.2.2.1 (by omega)
    have ef : zFU - (n + 1) - 1 + (n + 1) + 1 = zFU := by unfold zFU; omega
    rw [ef] at q1
    have b3 := zTB_lay (A2 := A + (n + 1)) (H2 := H) b2 (by omega) q4 q5 q3 q6 q7
    have xx3 := zTX_lay (A2 := A + (n + 1)) xx2 (by omega) q3 q6 q7
    have rows : ∀ k, k ≠ 5 → t1 k = t k := rsf.1
    refine ⟨_, _, _, _, rfl, q1, Or.inl ⟨rfl, rfl, i + 1, f, N, M, P, A + (n + 1), q, by omega, xx3, ⟨zTB_done b3 ?_, by omega, by omega, by omega, by omega, ?_⟩, by omega, by omega, h6, h7, ?_⟩⟩
    · refine Or.inr (Or.inr (Or.inr (Or.inr ⟨?_, n + 1, A, e, by omega, ?_, ?_, ?_, by omega, ?_, ?_, ?_, fun j hj => (h14 j hj).1⟩)))
      · rw [h7, rows 9 (by decide), h8, q6 5 (by omega), w5]; exact hx
      · rw [rows 13 (by decide)]; exact h10
      · rw [h7, q6 8 (by omega), w8]
      · rw [h7, q6 7 (by omega), w7]
      · rw [rows 19 (by decide), rows 11 (by decide)]; exact h11
      · rw [rows 15 (by decide), rows 17 (by decide)]
        refine zPs_ext h12 (fun _ _ => rfl) (Nat.le_refl _) (fun _ _ => rfl) (fun _ _ => rfl) (fun j hj => ?_) (fun j hj => ?_)
        · rw [(q2 j (Nat.zero_le _) hj).1, w39, s2.2.2.2.2.2.2.2.2.2.1 _ (by omega)]
        · rw [(q2 j (Nat.zero_le _) hj).2, w39, s2.2.2.2.2.2.2.2.2.2.1 _ (by omega)]
      · rw [rows 15 (by decide)]; exact h13
    · rw [rows 9 (by decide), rows 13 (by decide)]; omega
    · rw [rows 9 (by decide)]; exact h8
  · obtain ⟨u3, q1, q2⟩ := zFin_er (g := gM) (m := m) (zXE_H (H := H) (zXE_pre s1 (zTX_C xx) (zTX_M xx)) (by omega)) (by omega)
    exact ⟨_, _, _, _, rfl, q1, Or.inr q2⟩
theorem zCL_fr {G : zTxt} {z y p S H i i2 d : Nat} {f : Nat → Nat} {X : List Nat} {c m : Nat} {x xr : Int32} {P0 N M P A q n : Nat} {e : Nat → Nat} {t u t2 u2 : zS} (h : zCL G z y p S H i d f X c m x xr P0 N M P A q n e t u) (hB : zTB G S (H + n) i2 (d + 1) f (c :: X) N M P A q t2 u2) (hi : i ≤ i2) (hs : zSf t t2) (hm : zMf u u2) : zCL G z y p S H i2 d f X c m x xr P0 N M P A q n e t2 u2 := by
  obtain ⟨h1, h2, h3, h4, h5, h6, h7, h8, h9, h10, h11, h12, h13, h14⟩ := h
  have e' : ∀ k, k ≠ 5 → t2 k = t k := hs.1
  have g' : ∀ k, k ≠ 0 → k ≠ 3 → k ≠ 4 → u2 k = u k := hm.1
  unfold zCL
  rw [e' 9 (by decide), e' 13 (by decide), e' 19 (by decide), e' 11 (by decide), e' 15 (by decide), e' 17 (by decide), g' 5 (by decide) (by decide) (by decide), g' 39 (by decide) (by decide) (by decide)]
  exact ⟨hB, by omega, by omega, h4, by omega, h6, h7, h8, h9, h10, h11, h12, h13, h14⟩
theorem zChL {gC : GgX7_readForm} {gM : GgX12_type} {G : zTxt} {z y p S H d : Nat} {f0 : Nat → Nat} {X : List Nat} {c m : Nat} {x xr : Int32} {N0 M0 P0 A0 : Nat} {t0 u0 : zS} (hd : d < 40) (hF : zPF (d + 1) gC.1 gM.1) (hx : (x = 8 ∧ xr = 7) ∨ (x = 9 ∧ xr = 8)) (hc : N0 ≤ c) (hm : M0 ≤ m) :
    ∀ (k i fc fm : Nat) (f : Nat → Nat) (N M P A q n : Nat) (e : Nat → Nat) (x3 : Int32) (t u : zS), 3001 ≤ k + i → (x3 = if n = 0 then -1 else Int32.ofNat (e (n - 1))) → zTX f0 f N0 M0 P0 A0 H N M P A t0 u0 t u → zCL G z y p S H i d f X c m x xr P0 N M P A q n e t u → 2 * A + 2 * (H + n) + z ≤ i → 2 * q ≤ i →
    ∃ rc t2 rm u2, lX7_readChoice_30 gC (fc + k + 1) (Int32.ofNat c) x3 (Int32.ofNat n) t = some (rc, t2) ∧ lX12_choices_49 gM (fm + k + 2) (Int32.ofNat m) (Int32.ofNat (2 * H)) 1 u = some (rm, u2) ∧ ((rc = Int32.ofNat c ∧ rm = Int32.ofNat m ∧ zCok G z y p S H i d f0 X c m x N0 M0 P0 A0 t0 u0 t2 u2) ∨ zXE z H t0 u0 t2 u2) := by
  intro k
  induction k with
  | zero =>
    intro i fc fm f N M P A q n e x3 t u hk hx3 xx h
    have := zAt_lt h.1.1
    omega
  | succ k ih =>
    intro i fc fm f N M P A q n e x3 t u hk hx3 xx h hQ hq
    have hcl := h
    obtain ⟨h1, h2, h3, h4, h5, h6, h7, h8, h9, h10, h11, h12, h13, h14⟩ := h
    have hl := zAt_lt h1.1
    have hm1 := zAt_m1 h1.1
    have hnm := zAt_nm h1.1
    have hmM : m < M := by rw [← h7]; exact h1.2.2.2.1.2.2.2.2.1 c h6
    have hS : zTS G z y p S (H + n) i (d + 1) f (c :: X) N M P A q t u := ⟨h1, h2, h3, h4, by omega, h5⟩
    show ∃ rc t2 rm u2, bX7_readChoice_30 gC (lX7_readChoice_30 gC (fc + k + 1)) (Int32.ofNat c) x3 (Int32.ofNat n) t = some (rc, t2) ∧ bX12_choices_49 gM (lX12_choices_49 gM (fm + k + 2)) (Int32.ofNat m) (Int32.ofNat (2 * H)) 1 u = some (rm, u2) ∧ _
    have bad : ∃ t2 u2, bX7_readChoice_69 gC (Int32.ofNat c) t = some (Int32.ofNat c, t2) ∧ (zbd (mX12_fails (u 0 6) u) fun r t => some (r, t)) = some (-1, u2) ∧ zXE z H t0 u0 t2 u2 := by
      obtain ⟨t1, u1, r1, r2, r3⟩ := zTS_no hS
      obtain ⟨t2, g1, g2, g3, g4⟩ := zEc_leave (c := 125) (zEr_c r3.1) (by decide)
      unfold bX7_readChoice_69 bX7_readChoice_124
      rw [r1, pl_bd, g1, pl_bd, r2, pl_bd]
      exact ⟨t2, u1, rfl, rfl, zXE_H (zXE_pre (zXE_sf r3 g2 g3 g4) (zTX_C xx) (zTX_M xx)) (by omega)⟩
    unfold bX7_readChoice_30
    rw [if_neg (show ¬ (3000 : Int32) ≤ Int32.ofNat n from fun w => by have := (zn_le (a := 3000) (by decide) (by omega)).mp w; omega), if_neg (by rw [hm1.1]; decide)]
    conv => enter [1, rc, 1, t2, 1, rm, 1, u2, 2, 1, 1]; unfold bX12_choices_49
    rw [if_neg pl_10]
    by_cases q17 : t 5 9 = 17
    · rw [if_pos q17, if_pos (hnm.mpr q17), if_pos (by rw [hm1.2]; decide)]
      obtain ⟨v, w, v1, v2, v3, v4, v5⟩ := zAt_nmv h1.1 q17
      obtain ⟨r, r1, r2⟩ := pl_findPart (x := t 5 11) h11 (by omega) (by omega) (by omega)
      rw [r1, pl_bd]
      have h59 := h1.2.2.2.2.2
      rcases r2 with ⟨j, j1, j2, j3, j4⟩ | ⟨j1, j2⟩
      · have ej := (h11.2 j j1).1
        rw [j2, if_neg (zn_neg (by omega))]
        have := pl_heldD (g := gM) (k49 := lX12_choices_49 gM (fm + k + 2)) (x1 := Int32.ofNat m) (x2 := Int32.ofNat (2 * H)) h59 (by omega) j1 (by rw [v2]; exact (zNm_iff h1.1 (h12 j j1).1 v4 v5).mp (by rw [j3, v1])) n 0 (zFU - n - 1) (by omega) (Nat.zero_le _)
        rw [show zFU - n - 1 + n + 1 = zFU by unfold zFU; omega] at this
        obtain ⟨t2, u2, b1, b2, b3⟩ := bad
        exact ⟨Int32.ofNat c, t2, -1, u2, b1, this.trans b2, Or.inr b3⟩
      · rw [j1, if_pos (by decide), pl_let]
        have e1 := pl_held (g := gM) (k49 := lX12_choices_49 gM (fm + k + 2)) (x1 := Int32.ofNat m) (x2 := Int32.ofNat (2 * H)) h59 (by omega) n 0 (zFU - n - 1) (by omega) (fun l _ hl => fun w1 => j2 l hl (by rw [v1]; exact (zNm_iff h1.1 (h12 l hl).1 v4 v5).mpr (by rw [← v2]; exact w1)))
        rw [show zFU - n - 1 + n + 1 = zFU by unfold zFU; omega] at e1
        rw [show lX12_choices_80 gM (lX12_choices_49 gM (fm + k + 2)) zFU (Int32.ofNat m) (Int32.ofNat (2 * H)) (Int32.ofNat (2 * H)) u = zcAdd gM (lX12_choices_49 gM (fm + k + 2)) (Int32.ofNat m) (Int32.ofNat (2 * H)) u from e1]
        unfold zcAdd
        rw [h59, zn_wr (by omega) (by decide), pl_pt, pl_let, zu_same, zu_ne1 (by decide), h59, zn_2, v2, show Int32.ofNat (2 * (H + n) + 2) - 1 = Int32.ofNat (2 * (H + n) + 1) from zn_m _]
        have hT := zTB_rows (H2 := H + n + 1) (u2 := zu (zu u 39 (2 * (H + n)) (Int32.ofNat w)) 0 59 (Int32.ofNat (2 * (H + n) + 2))) h1 (fun k hk => by simp (disch := first | omega | decide | assumption) only [zu_same, zu_ne1, zu_ne2, zu_row, pl_bd, pl_pt, pl_let, zn_set, zn_get, zn_rd, zn_wr, zn_1, zn_m, Nat.reduceAdd]) (fun j hj => by simp (disch := first | omega | decide | assumption) only [zu_same, zu_ne1, zu_ne2, zu_row, pl_bd, pl_pt, pl_let, zn_set, zn_get, zn_rd, zn_wr, zn_1, zn_m, Nat.reduceAdd]) (by simp (disch := first | omega | decide | assumption) only [zu_same, zu_ne1, zu_ne2, zu_row, pl_bd, pl_pt, pl_let, zn_set, zn_get, zn_rd, zn_wr, zn_1, zn_m, Nat.reduceAdd]; rfl)
        have xx1 := zTX_rows (u2 := zu (zu u 39 (2 * (H + n)) (Int32.ofNat w)) 0 59 (Int32.ofNat (2 * (H + n) + 2))) xx (fun k hk => by simp (disch := first | omega | decide | assumption) only [zu_same, zu_ne1, zu_ne2, zu_row, pl_bd, pl_pt, pl_let, zn_set, zn_get, zn_rd, zn_wr, zn_1, zn_m, Nat.reduceAdd]) (fun k hk => by simp (disch := first | omega | decide | assumption) only [zu_same, zu_ne1, zu_ne2, zu_row, pl_bd, pl_pt, pl_let, zn_set, zn_get, zn_rd, zn_wr, zn_1, zn_m, Nat.reduceAdd]) (zFP_zu (zFP_zu (zFP_refl _ _) rfl) rfl)
        have k39 : zu (zu u 39 (2 * (H + n)) (Int32.ofNat w)) 0 59 (Int32.ofNat (2 * (H + n) + 2)) 39 (2 * (H + n)) = Int32.ofNat w := by simp (disch := first | omega | decide | assumption) only [zu_same, zu_ne1, zu_ne2, zu_row, pl_bd, pl_pt, pl_let, zn_set, zn_get, zn_rd, zn_wr, zn_1, zn_m, Nat.reduceAdd]
        have l39 : ∀ l, ¬ l = 2 * (H + n) → zu (zu u 39 (2 * (H + n)) (Int32.ofNat w)) 0 59 (Int32.ofNat (2 * (H + n) + 2)) 39 l = u 39 l := fun l hl => by simp (disch := first | omega | decide | assumption) only [zu_same, zu_ne1, zu_ne2, zu_row, pl_bd, pl_pt, pl_let, zn_set, zn_get, zn_rd, zn_wr, zn_1, zn_m, Nat.reduceAdd]
        have l5 : zu (zu u 39 (2 * (H + n)) (Int32.ofNat w)) 0 59 (Int32.ofNat (2 * (H + n) + 2)) 5 = u 5 := by simp (disch := first | omega | decide | assumption) only [zu_same, zu_ne1, zu_ne2, zu_row, pl_bd, pl_pt, pl_let, zn_set, zn_get, zn_rd, zn_wr, zn_1, zn_m, Nat.reduceAdd]
        generalize zu (zu u 39 (2 * (H + n)) (Int32.ofNat w)) 0 59 (Int32.ofNat (2 * (H + n) + 2)) = ua at *
        obtain ⟨t1, u1, s1, s2, s3, s4, s5, s6, s7, s8⟩ := zTB_step hT (by rw [q17]; decide)
        have xx2 := zTX_trans xx1 s4 (by omega)
        rw [s1, pl_bd, s2, pl_bd]
        have hS1 : zTS G z (y + 1) (p + 1) S (H + n + 1) (i + 1) (d + 1) f (c :: X) N M P A q t1 u1 := ⟨s3, by omega, by omega, by omega, by omega, by rw [s5, s6]; omega⟩
        obtain ⟨rf, t2, rm, u2, p1, p2, p3⟩ := hF _ _ _ _ _ _ _ _ _ _ _ _ _ _ _ _ hS1 (by omega)
        rw [p1, pl_bd, p2, pl_bd, zn_wr (by omega) (by decide)]
        rcases p3 with ⟨i2, f2, N2, M2, P2, A2, q2, ci, o1, o2, o3, o4, o5, o6, o7, o8⟩ | er
        · have hl2 := zAt_lt o3.1.1
          have hN2 := o3.2.1
          have hP2 := o3.2.2.2.1
          have hNN := o2.1
          have hPP := o2.2.2.1
          obtain ⟨f2c, t29, t211, t213⟩ := o2.2.2.2.2.1 c h6
          have rows : ∀ k, k ≠ 5 → t1 k = t k := s7.1
          rw [rows 9 (by decide)] at t29
          rw [rows 11 (by decide)] at t211
          rw [rows 13 (by decide)] at t213
          have pr := o2.2.2.2.2.2.2.1
          rw [rows 15 (by decide), rows 17 (by decide), rows 19 (by decide)] at pr
          have hL2 : zLk (t2 19) P2 n (t2 11 c) e := by
            rw [t211]
            exact zLk_ext h11 (fun j hj => (pr _ (h11.2 j hj).1).2.2.1) hPP
          obtain ⟨t3, a1, a2, a3, a4, a5, a6, a7, a8, a9, a10, a11⟩ := pl_addPart (c := c) (n := n) (e := e) (x3 := x3) (lab := t 5 11) (form := rf) o3.1.2.2.2.1.2.2.1 (by omega) (by omega) (by rw [t213]; exact h10) hL2 hx3
          have ho : n = 0 ∨ f2 (10000 + e (n - 1)) = c := by
            by_cases q0 : n = 0
            · exact Or.inl q0
            · refine Or.inr ?_
              rw [(pr _ (h11.2 (n - 1) (by omega)).1).2.2.2]
              exact (h14 (n - 1) (by omega)).1
          have ho2 : n = 0 ∨ P0 ≤ e (n - 1) := by
            by_cases q0 : n = 0
            · exact Or.inl q0
            · exact Or.inr (h14 (n - 1) (by omega)).2
          have xx3 := zTX_trans xx2 o2 (by omega)
          have hB3 := zTB_part (t2 := t3) o3.1 (by omega) List.mem_cons_self ho a2 a3 a4 a6 a9 a10
          have xx4 := zTX_part (t2 := t3) xx3 (by omega) hc ho2 a4 a3 a6 a9 a10
          have hB4 := zTB_rows (H2 := H + n + 1) (u2 := zu u2 39 (2 * (H + n) + 1) rm) hB3 (fun k hk => by simp (disch := first | omega | decide | assumption) only [zu_same, zu_ne1, zu_ne2, zu_row, pl_bd, pl_pt, pl_let, zn_set, zn_get, zn_rd, zn_wr, zn_1, zn_m, Nat.reduceAdd]) (fun j hj => by simp (disch := first | omega | decide | assumption) only [zu_same, zu_ne1, zu_ne2, zu_row, pl_bd, pl_pt, pl_let, zn_set, zn_get, zn_rd, zn_wr, zn_1, zn_m, Nat.reduceAdd]) (by rw [zu_ne1 (by decide)]; exact o3.1.2.2.2.2.2)
          have xx5 := zTX_rows (u2 := zu u2 39 (2 * (H + n) + 1) rm) xx4 (fun k hk => by simp (disch := first | omega | decide | assumption) only [zu_same, zu_ne1, zu_ne2, zu_row, pl_bd, pl_pt, pl_let, zn_set, zn_get, zn_rd, zn_wr, zn_1, zn_m, Nat.reduceAdd]) (fun k hk => by simp (disch := first | omega | decide | assumption) only [zu_same, zu_ne1, zu_ne2, zu_row, pl_bd, pl_pt, pl_let, zn_set, zn_get, zn_rd, zn_wr, zn_1, zn_m, Nat.reduceAdd]) (zFP_zu (zFP_refl _ _) rfl)
          have hCL : zCL G z y p S H i2 d (zup f2 (10000 + P2) c) X c m x xr P0 N2 M2 (P2 + 1) A2 q2 (n + 1) (zup e n P2) t3 (zu u2 39 (2 * (H + n) + 1) rm) := by
            have u39 : ∀ l, l < 2 * (H + n) + 1 → zu u2 39 (2 * (H + n) + 1) rm 39 l = ua 39 l := fun l hl => by
              rw [zu_ne2 (by omega), o2.2.2.2.2.2.2.2.2.2.1 l (by omega), s8.1 39 (by decide) (by decide) (by decide)]
            have f3 : ∀ c', c' < N2 → zup f2 (10000 + P2) c c' = f2 c' := fun c' hc' => zup_ne (by omega)
            have kx : t2 9 c = 8 ∨ t2 9 c = 9 := by
              rw [t29, h8]
              rcases hx with hx | hx
              · exact Or.inl hx.1
              · exact Or.inr hx.1
            have hw := zW_bump (K := t2 9) (H := t2 13) (H2 := t3 13) kx (by rw [t213]; exact h10) a5 (by omega) (fun d hd => (a6 d hd).1) N2 (by omega)
            have hw2 := o3.2.2.2.2.2
            refine ⟨hB4, by omega, o3.2.2.1, by omega, by rw [a4 9 (by omega), hw]; omega, by omega, by rw [f3 c (by omega), f2c]; exact h7, by rw [a4 9 (by omega), t29]; exact h8, ?_, a5, a11, fun j hj => ?_, fun j l h1 h2 => ?_, fun j hj => ?_⟩
            · rw [zu_ne1 (by decide), (o2.2.2.2.2.2.2.2.1 m hmM).1, s8.1 5 (by decide) (by decide) (by decide), l5]; exact h9
            · by_cases ej : j = n
              · subst ej
                rw [zup_at, a7, a8]
                refine ⟨⟨v, w, v4, v1, ?_, v5⟩, ci, o6, o7, ?_⟩
                · show zu u2 39 _ rm 39 _ = _
                  rw [u39 _ (by omega)]; exact k39
                · show zu u2 39 _ rm 39 _ = _
                  rw [zu_same, f3 ci o6]; exact o8
              · have hj2 : j < n := by omega
                have el := (h11.2 j hj2).1
                obtain ⟨c1, c2⟩ := h12 j hj2
                rw [zup_ne ej, (a9 (e j) (by omega)).1, (a9 (e j) (by omega)).2, (pr _ el).1, (pr _ el).2.1]
                refine ⟨?_, ?_⟩
                · show zNm _ _ (zu u2 39 _ rm 39 _)
                  rw [u39 _ (by omega), l39 _ (by omega)]; exact c1
                · show zCh _ _ _ (zu u2 39 _ rm 39 _)
                  rw [u39 _ (by omega), l39 _ (by omega)]
                  exact zCh_ext c2 (fun c' hc' => by rw [f3 c' (by omega)]; exact (o2.2.2.2.2.1 c' hc').1) hNN
            · have lab : ∀ j, j < n → t3 15 (zup e n P2 j) = t 15 (e j) := fun j hj => by
                have el := (h11.2 j hj).1
                rw [zup_ne (by omega), (a9 (e j) (by omega)).1, (pr _ el).1]
              rw [lab j (by omega)]
              by_cases el : l = n
              · rw [el, zup_at, a7]; exact j2 j (by omega)
              · rw [lab l (by omega)]; exact h13 j l h1 (by omega)
            · by_cases ej : j = n
              · subst ej
                rw [zup_at, zup_at]
                exact ⟨rfl, xx3.2.2.1⟩
              · have hj2 : j < n := by omega
                have el := (h11.2 j hj2).1
                rw [zup_ne ej, zup_ne (by omega), (pr _ el).2.2.2]
                exact h14 j hj2
          rw [a1, pl_bd]
          have k5 : t3 5 9 = t2 5 9 := by rw [a4 5 (by omega)]
          rw [zAt_sg hB4.1 (c := 59) (by decide), pl_bd]
          by_cases q59 : t3 5 9 = 59
          · rw [if_pos q59, if_pos q59, if_neg pl_10]
            obtain ⟨t4, u4, b1, b2, b3, b4, b5, b6, b7, b8⟩ := zTB_step hB4 (by rw [q59]; decide)
            rw [b1, pl_bd, b2, pl_bd, pl_let, zn_1]
            unfold bX12_choices_179
            have hCL4 := zCL_fr hCL b3 (by omega) b7 b8
            obtain ⟨rc, t5, rm5, u5, d1, d2, d3⟩ := ih (i2 + 1) fc fm _ _ _ _ _ _ _ _ (Int32.ofNat P2) t4 u4 (by omega) (by rw [if_neg (by omega), show n + 1 - 1 = n by omega, zup_at]) (zTX_trans xx5 b4 (by omega)) hCL4 (by omega) (by omega)
            refine ⟨rc, t5, rm5, u5, d1, d2, ?_⟩
            rcases d3 with ⟨b3, b4, i3, b5⟩ | b3
            · refine Or.inl ⟨b3, b4, i3, ?_⟩
              obtain ⟨f3, N3, M3, P3, A3, q3, c1, c2⟩ := b5
              exact ⟨f3, N3, M3, P3, A3, q3, by omega, c2⟩
            · exact Or.inr b3
          · rw [if_neg q59, if_neg q59, if_pos rfl]
            unfold bX12_choices_179
            obtain ⟨rc, t4, rm4, u4, b1, b2, b3⟩ := zChEnd (gC := gC) (gM := gM) (k := lX12_choices_49 gM (fm + k + 1)) xx5 hCL (by omega) (by omega) hd hx hc hm
            refine ⟨rc, t4, rm4, u4, b1, b2, ?_⟩
            rcases b3 with ⟨b3, b4, i3, b5⟩ | b3
            · refine Or.inl ⟨b3, b4, i3, ?_⟩
              obtain ⟨f3, N3, M3, P3, A3, q3, c1, c2⟩ := b5
              exact ⟨f3, N3, M3, P3, A3, q3, by omega, c2⟩
            · exact Or.inr b3
        · obtain ⟨ra, t3, a1, a2⟩ := zT_addPart (t := t2) (x1 := Int32.ofNat c) (x2 := x3) (x3 := t 5 11) (x4 := rf)
          have hE : zXE z (H + n + 1) t0 u0 t3 (zu u2 39 (2 * (H + n) + 1) rm) := zXE_more (zXE_pre er (zTX_C xx2) (zTX_M xx2)) a2 (zu_row (by decide)) (zFP_zu (zFP_refl _ _) rfl)
          have k9 : t3 5 9 = 21 := hE.1.1
          rw [a1, pl_bd, if_neg (by rw [k9]; decide), zEm_sg (zEr_m hE.1), pl_bd, if_pos rfl]
          obtain ⟨t4, g1, g2, g3, g4⟩ := zEc_leave (c := 125) (zEr_c hE.1) (by decide)
          unfold bX7_readChoice_124 bX12_choices_179
          rw [g1, pl_bd]
          have hE2 := zXE_er hE g2 g3 g4
          obtain ⟨u5, y1, y2⟩ := zFin_er (g := gM) (m := m) (zXE_H (H := H) hE2 (by omega)) (by omega)
          refine ⟨Int32.ofNat c, t4, Int32.ofNat m, u5, rfl, ?_, Or.inr y2⟩
          show bX12_choices_49 gM (lX12_choices_49 gM (fm + k + 1)) (Int32.ofNat m) (Int32.ofNat (2 * H)) 0 _ = _
          unfold bX12_choices_49
          rw [if_pos rfl, zEm_closes (zEr_m hE.1), pl_bd]
          exact y1
    · rw [if_neg q17, if_neg (fun w => q17 (hnm.mp w))]
      obtain ⟨t2, u2, b1, b2, b3⟩ := bad
      exact ⟨Int32.ofNat c, t2, -1, u2, b1, b2, Or.inr b3⟩
