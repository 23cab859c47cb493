/-! the class's loop over all words -/
def zCI (g : Nat → Int32) (n : Nat) (V : Nat → Nat) (t : zS) (p w nn : Nat) (fl sl : Nat → Nat) : Prop :=
  t 2 = g ∧ t 50 4 = Int32.ofNat w ∧ zNT t nn fl sl ∧ t 50 6 = Int32.ofNat (fl nn) ∧ 18 ≤ nn ∧ fl nn ≤ 70 + p ∧ (2 * nn ≤ 36 + p ∨ (2 * nn ≤ 37 + p ∧ (p < n → zaln (g p) = false))) ∧ (∀ v, v ≤ 18 → fl v = zkf v) ∧ (∀ j, j < 70 → t 69 j = zkl j) ∧ zskip g n (n - p) p = zpos g n w ∧ w ≤ p ∧
  (∀ j, j < w → zpos g n j < n ∧ zRow g n (V j) (t 67) j ∧ (zltb (g (zpos g n j)) = true → V j < nn ∧ fl (V j + 1) - fl (V j) = zend g n (zpos g n j) - zpos g n j ∧ ∀ i, i < zend g n (zpos g n j) - zpos g n j → t 69 (fl (V j) + i) = g (zpos g n j + i)))
theorem zskip_no {g : Nat → Int32} {n p : Nat} (hp : p < n) (hnb : ¬ (g p = 32 ∨ g p = 10)) : zskip g n (n - p) p = p := by
  rw [show n - p = (n - (p + 1)) + 1 by omega]
  unfold zskip
  rw [if_neg (fun x => hnb x.2)]
theorem zskip_yes {g : Nat → Int32} {n p : Nat} (hp : p < n) (hnb : g p = 32 ∨ g p = 10) : zskip g n (n - p) p = zskip g n (n - (p + 1)) (p + 1) := by
  rw [show n - p = (n - (p + 1)) + 1 by omega]
  conv => lhs; unfold zskip
  rw [if_pos ⟨hp, hnb⟩]
theorem zCI_step {g : Nat → Int32} {n p w nn nn2 v : Nat} {V fl sl fl2 sl2 : Nat → Nat} {t t2 : zS} {k x : Int32} (h : zCI g n V t p w nn fl sl) (hp : p < n) (hnb : ¬ (g p = 32 ∨ g p = 10)) (hN2 : zNT t2 nn2 fl2 sl2) (h1 : nn ≤ nn2) (hfl : ∀ y, y ≤ nn → fl2 y = fl y) (h6 : t2 50 6 = Int32.ofNat (fl2 nn2)) (hb : fl2 nn2 ≤ 70 + zend g n p) (hc : 2 * nn2 ≤ 36 + zend g n p ∨ (2 * nn2 ≤ 37 + zend g n p ∧ (zend g n p < n → zaln (g (zend g n p)) = false))) (h69 : ∀ j, j < fl nn → t2 69 j = t 69 j) (h67 : t2 67 = t 67) (h2 : t2 2 = g)
    (hr1 : zltb (g p) = true → k = (if v < 17 then Int32.ofNat v else 17) ∧ x = Int32.ofNat v)
    (hr2 : zltb (g p) = false → zdig (g p) = true → k = (if zend g n p - p ≤ 9 then 18 else 20) ∧ x = znum g (zend g n p - p) p 0)
    (hr3 : zltb (g p) = false → zdig (g p) = false → k = zsgk g n p ∧ x = 0)
    (htx : zltb (g p) = true → v < nn2 ∧ fl2 (v + 1) - fl2 v = zend g n p - p ∧ ∀ i, i < zend g n p - p → t2 69 (fl2 v + i) = g (p + i)) :
    zCI g n (zup V w v) (zu (zu (zu (zu t2 67 (3 * w) k) 67 (3 * w + 1) (Int32.ofNat p)) 67 (3 * w + 2) x) 50 4 (Int32.ofNat (w + 1))) (zend g n p) (w + 1) nn2 fl2 sl2 := by
  obtain ⟨q1, q2, q3, q4, q5, q6, q7, q8, q9, q10, q11, q12⟩ := h
  have hz := zend_lt (g := g) hp
  have hpw : zpos g n w = p := by rw [← q10]; exact zskip_no hp hnb
  have z69 : ∀ j, zu (zu (zu (zu t2 67 (3 * w) k) 67 (3 * w + 1) (Int32.ofNat p)) 67 (3 * w + 2) x) 50 4 (Int32.ofNat (w + 1)) 69 j = t2 69 j := by
    intro j; rw [zu_ne1 (by decide), zu_ne1 (by decide), zu_ne1 (by decide), zu_ne1 (by decide)]
  have fl18 : 70 ≤ fl nn := by
    have := zNT_le q3 (nn - 18) 18 (by omega)
    rw [q8 18 (Nat.le_refl _)] at this
    exact this
  have zold : ∀ j, j < 3 * w → zu (zu (zu (zu t2 67 (3 * w) k) 67 (3 * w + 1) (Int32.ofNat p)) 67 (3 * w + 2) x) 50 4 (Int32.ofNat (w + 1)) 67 j = t 67 j := by
    intro j hj; rw [zu_ne1 (by decide), zu_ne2 (by omega), zu_ne2 (by omega), zu_ne2 (by omega), h67]
  refine ⟨?_, zu_same _ _ _ _, zNT_congr hN2 ?_ ?_ ?_ (fun j _ => z69 j), ?_, by omega, hb, hc, fun y hy => by rw [hfl y (by omega)]; exact q8 y hy, fun j hj => by rw [z69, h69 j (by omega)]; exact q9 j hj, ?_, by omega, fun j hj => ?_⟩
  · rw [zu_row (by decide), zu_row (by decide), zu_row (by decide), zu_row (by decide)]; exact h2
  · rw [zu_ne2 (by decide), zu_ne1 (by decide), zu_ne1 (by decide), zu_ne1 (by decide)]
  · rw [zu_row (by decide), zu_row (by decide), zu_row (by decide), zu_row (by decide)]
  · rw [zu_row (by decide), zu_row (by decide), zu_row (by decide), zu_row (by decide)]
  · rw [zu_ne2 (by decide), zu_ne1 (by decide), zu_ne1 (by decide), zu_ne1 (by decide)]; exact h6
  · show _ = (if zpos g n w < n then zskip g n (n - zend g n (zpos g n w)) (zend g n (zpos g n w)) else n)
    rw [hpw, if_pos hp]
  · by_cases e : j = w
    · subst e
      rw [hpw]
      have ev : zup V j v j = v := by simp [zup]
      rw [ev]
      refine ⟨hp, ?_, fun hl => ?_⟩
      · unfold zRow
        rw [hpw]
        have r0 : zu (zu (zu (zu t2 67 (3 * j) k) 67 (3 * j + 1) (Int32.ofNat p)) 67 (3 * j + 2) x) 50 4 (Int32.ofNat (j + 1)) 67 (3 * j) = k := by
          rw [zu_ne1 (by decide), zu_ne2 (by omega), zu_ne2 (by omega), zu_same]
        have r1 : zu (zu (zu (zu t2 67 (3 * j) k) 67 (3 * j + 1) (Int32.ofNat p)) 67 (3 * j + 2) x) 50 4 (Int32.ofNat (j + 1)) 67 (3 * j + 1) = Int32.ofNat p := by
          rw [zu_ne1 (by decide), zu_ne2 (by omega), zu_same]
        have r2 : zu (zu (zu (zu t2 67 (3 * j) k) 67 (3 * j + 1) (Int32.ofNat p)) 67 (3 * j + 2) x) 50 4 (Int32.ofNat (j + 1)) 67 (3 * j + 2) = x := by
          rw [zu_ne1 (by decide), zu_same]
        rw [r0, r1, r2]
        exact ⟨rfl, hr1, hr2, hr3⟩
      · obtain ⟨a1, a2, a3⟩ := htx hl
        exact ⟨a1, a2, fun i hi => by rw [z69]; exact a3 i hi⟩
    · obtain ⟨a1, a2, a3⟩ := q12 j (by omega)
      have ev : zup V w v j = V j := by simp [zup, e]
      rw [ev]
      refine ⟨a1, ?_, fun hl => ?_⟩
      · unfold zRow at a2 ⊢
        rw [zold _ (by omega), zold _ (by omega), zold _ (by omega)]
        exact a2
      · obtain ⟨b1, b2, b3⟩ := a3 hl
        have l1 := zNT_le q3 (nn - (V j + 1)) (V j + 1) (by omega)
        rw [hfl (V j + 1) (by omega), hfl (V j) (by omega)]
        refine ⟨by omega, b2, fun i hi => ?_⟩
        rw [z69, h69 _ (by omega)]
        exact b3 i hi
/-- two words of letters and digits are the same -/
def zTx (g : Nat → Int32) (n j k : Nat) : Prop := zend g n (zpos g n j) - zpos g n j = zend g n (zpos g n k) - zpos g n k ∧ ∀ i, i < zend g n (zpos g n j) - zpos g n j → g (zpos g n j + i) = g (zpos g n k + i)
/-- a word is the k-th known one -/
def zKn (g : Nat → Int32) (n j k : Nat) : Prop := zend g n (zpos g n j) - zpos g n j = zkf (k + 1) - zkf k ∧ ∀ i, i < zend g n (zpos g n j) - zpos g n j → g (zpos g n j + i) = zkl (zkf k + i)
/-- the words of a text in the class's rows: m of them -/
def zWds (g : Nat → Int32) (n m : Nat) (V : Nat → Nat) (t : zS) : Prop := zpos g n m = n ∧ m ≤ n ∧ (∀ j, j < m → zpos g n j < n ∧ zRow g n (V j) (t 67) j ∧ (zltb (g (zpos g n j)) = true → V j < 1600)) ∧
  (t 67 (3 * m) = 19 ∧ t 67 (3 * m + 1) = Int32.ofNat n ∧ t 67 (3 * m + 2) = 0) ∧ t 50 4 = Int32.ofNat (m + 1) ∧
  (∀ j k, j < m → k < m → zltb (g (zpos g n j)) = true → zltb (g (zpos g n k)) = true → (V j = V k ↔ zTx g n j k)) ∧
  (∀ j k, j < m → k < 18 → zltb (g (zpos g n j)) = true → (V j = k ↔ zKn g n j k))
theorem zWds_of {g : Nat → Int32} {n m nn : Nat} {V fl sl : Nat → Nat} {t : zS} (h : zCI g n V t n m nn fl sl) (hn : n ≤ 3000) : zWds g n m V (zu (zu (zu (zu t 67 (3 * m) 19) 67 (3 * m + 1) (Int32.ofNat n)) 67 (3 * m + 2) 0) 50 4 (Int32.ofNat (m + 1))) := by
  obtain ⟨q1, q2, q3, q4, q5, q6, q7, q8, q9, q10, q11, q12⟩ := h
  have fl18 : 70 ≤ fl nn := by
    have := zNT_le q3 (nn - 18) 18 (by omega)
    rw [q8 18 (Nat.le_refl _)] at this
    exact this
  have q9' := q3.2.2.2.2.2.2.2.2.1
  refine ⟨?_, q11, fun j hj => ?_, ⟨?_, ?_, ?_⟩, zu_same _ _ _ _, fun j k hj hk hlj hlk => ?_, fun j k hj hk hlj => ?_⟩
  · rw [← q10, Nat.sub_self]; rfl
  · obtain ⟨a1, a2, a3⟩ := q12 j hj
    refine ⟨a1, ?_, fun hl => by have := (a3 hl).1; omega⟩
    unfold zRow at a2 ⊢
    rw [zu_ne1 (by decide), zu_ne2 (by omega), zu_ne2 (by omega), zu_ne2 (by omega), zu_ne1 (by decide), zu_ne2 (by omega), zu_ne2 (by omega), zu_ne2 (by omega), zu_ne1 (by decide), zu_ne2 (by omega), zu_ne2 (by omega), zu_ne2 (by omega)]
    exact a2
  · rw [zu_ne1 (by decide), zu_ne2 (by omega), zu_ne2 (by omega), zu_same]
  · rw [zu_ne1 (by decide), zu_ne2 (by omega), zu_same]
  · rw [zu_ne1 (by decide), zu_same]
  · obtain ⟨a1, a2, a3⟩ := (q12 j hj).2.2 hlj
    obtain ⟨b1, b2, b3⟩ := (q12 k hk).2.2 hlk
    constructor
    · intro e
      refine ⟨by rw [← a2, ← b2, e], fun i hi => ?_⟩
      rw [← a3 i hi, e]
      exact b3 i (by rw [← b2, ← e, a2]; exact hi)
    · rintro ⟨e1, e2⟩
      refine q9' (V j) (V k) a1 b1 (by rw [a2, b2, e1]) ((zsame_iff _ _ _).mpr (fun i hi => ?_))
      rw [a2] at hi
      rw [a3 i hi, b3 i (by omega)]
      exact e2 i hi
  · obtain ⟨a1, a2, a3⟩ := (q12 j hj).2.2 hlj
    have f1 := q8 k (by omega)
    have f2 := q8 (k + 1) (by omega)
    have f3 := zk_f k hk
    constructor
    · intro e
      refine ⟨by rw [← a2, e, f1, f2], fun i hi => ?_⟩
      rw [← a3 i hi, e, f1]
      exact q9 _ (by rw [e, f1, f2] at a2; omega)
    · rintro ⟨e1, e2⟩
      refine q9' (V j) k a1 (by omega) (by rw [a2, f1, f2, e1]) ((zsame_iff _ _ _).mpr (fun i hi => ?_))
      rw [a2] at hi
      rw [a3 i hi, f1, q9 _ (by omega)]
      exact e2 i hi
theorem pl_cutL {g : Nat → Int32} {n : Nat} (hn : n ≤ 3000) (hg : ∀ j, j < n → 0 ≤ g j ∧ g j ≤ 255) : ∀ (d : Nat), ∀ (fu i p w nn : Nat) (V fl sl : Nat → Nat) (t : zS), d + p = n → i ≤ p → zCI g n V t p w nn fl sl → ∃ t2 m V2, lX10_cut_9 (fu + d + 1) (Int32.ofNat n) (Int32.ofNat p) (Int32.ofNat i) t = some (0, t2) ∧ zWfr t t2 ∧ zWds g n m V2 t2 := by
  intro d
  induction d using Nat.strongRecOn with
  | ind d ih =>
    intro fu i p w nn V fl sl t hd hi h
    have h' := h
    obtain ⟨q1, q2, q3, q4, q5, q6, q7, q8, q9, q10, q11, q12⟩ := h'
    have ei : (Int32.ofNat i).toInt = (i : Int) := pl_ofn (by omega)
    have z3 : (3000 : Int32).toInt = 3000 := by decide
    rw [lX10_cut_9]
    unfold bX10_cut_9
    by_cases hp : p = n
    · subst hp
      have fin : bX10_cut_101 (Int32.ofNat p) t = some (0, (zu (zu (zu (zu t 67 (3 * w) 19) 67 (3 * w + 1) (Int32.ofNat p)) 67 (3 * w + 2) 0) 50 4 (Int32.ofNat (w + 1)))) := by
        unfold bX10_cut_101
        rw [pl_addW q2 (by omega), pl_bd]
      refine ⟨_, w, V, ?_, zWfr_trans (zWfr_trans (zWfr_trans (zWfr_zu (by decide)) (zWfr_zu (by decide))) (zWfr_zu (by decide))) (zWfr_zu (by decide)), zWds_of h hn⟩
      by_cases c : (3000 : Int32) ≤ Int32.ofNat i
      · rw [if_pos c]; exact fin
      · rw [if_neg c, if_pos (Int32.le_refl _)]; exact fin
    · have hp' : p < n := by omega
      have hgp := hg p hp'
      rw [if_neg (fun x => by have := pl_le.mp x; omega), if_neg (fun x => by rw [zn_le (by omega) (by omega)] at x; omega), zn_get (by omega) (by decide), pl_bd]
      show ∃ t2 m V2, (if t 2 p = 32 then _ else _) = _ ∧ _
      rw [q1]
      have hz := zend_lt (g := g) hp'
      by_cases hb : g p = 32 ∨ g p = 10
      · have stp : bX10_cut_43 (lX10_cut_9 (fu + d)) (Int32.ofNat n) (Int32.ofNat p) (Int32.ofNat i) t = lX10_cut_9 (fu + (d - 1) + 1) (Int32.ofNat n) (Int32.ofNat (p + 1)) (Int32.ofNat (i + 1)) t := by
          unfold bX10_cut_43 bX10_cut_95
          rw [pl_let, pl_let, zn_1, zn_1, show fu + (d - 1) + 1 = fu + d by omega]
        obtain ⟨t2, m, V2, r1, r2, r3⟩ := ih (d - 1) (by omega) fu (i + 1) (p + 1) w nn V fl sl t (by omega) (by omega) ⟨q1, q2, q3, q4, q5, by omega, by
          rcases q7 with c | c
          · exact Or.inl (by omega)
          · exact Or.inl (by omega), q8, q9, by rw [← zskip_yes hp' hb]; exact q10, by omega, q12⟩
        refine ⟨t2, m, V2, ?_, r2, r3⟩
        by_cases c : g p = 32
        · rw [if_pos c, stp]; exact r1
        · rw [if_neg c, if_pos (hb.resolve_left c), stp]; exact r1
      · have c1 : ¬ g p = 32 := fun e => hb (Or.inl e)
        have c2 : ¬ g p = 10 := fun e => hb (Or.inr e)
        rw [if_neg c1, if_neg c2]
        have stp : ∀ t3, bX10_cut_95 (lX10_cut_9 (fu + d)) (Int32.ofNat n) (Int32.ofNat (zend g n p)) (Int32.ofNat i) t3 = lX10_cut_9 ((fu + (d - 1 - (n - zend g n p))) + (n - zend g n p) + 1) (Int32.ofNat n) (Int32.ofNat (zend g n p)) (Int32.ofNat (i + 1)) t3 := by
          intro t3
          unfold bX10_cut_95
          rw [pl_let, zn_1, show (fu + (d - 1 - (n - zend g n p))) + (n - zend g n p) + 1 = fu + d by omega]
        by_cases hl : zltb (g p) = true
        · have eend : zend g n p = zrun zaln g n (n - p) p := by unfold zend; rw [if_pos hl]
          obtain ⟨v, nn2, fl2, sl2, t2, a1, a2, a3, a4, a5, a6, a7, a8, a9, a10, a11, a12, a13, a14⟩ := pl_cutNameW hn hp' q3 q4 q6 (by omega)
          rw [q1, ← eend] at a1 a7 a9
          rw [q1, ← eend] at a10
          have g2 : t2 2 = g := by rw [a14 2 (by decide) (by decide) (by decide) (by decide) (by decide)]; exact q1
          rw [pl_cLt (zltb_iff.mp hl), pl_bd, if_neg pl_10, a1, pl_addW (by rw [a12]; exact q2) (by omega), pl_bd, pl_bd, stp]
          have hfalse : ¬ zltb (g p) = false := by rw [hl]; decide
          obtain ⟨t9, m, V2, r1, r2, r3⟩ := ih (n - zend g n p) (by omega) (fu + (d - 1 - (n - zend g n p))) (i + 1) (zend g n p) (w + 1) nn2 (zup V w v) fl2 sl2 _ (by omega) (by omega) (zCI_step (k := (if v < 17 then Int32.ofNat v else 17)) (x := Int32.ofNat v) h hp' hb a2 a3 a5 a6 (by omega) (by
            have ep : 2 * nn ≤ 36 + p := by
              rcases q7 with c | c
              · exact c
              · have := c.2 hp'; rw [zaln_of hl] at this; cases this
            refine Or.inr ⟨by omega, fun hlt => ?_⟩
            rw [eend] at hlt ⊢
            exact zrun_end (n - p) p (by omega) hlt) a11 a13 g2 (fun _ => ⟨rfl, rfl⟩) (fun c => absurd c hfalse) (fun c => absurd c hfalse) (fun _ => ⟨a8, a9, a10⟩))
          exact ⟨t9, m, V2, r1, zWfr_trans a14 (zWfr_trans (zWfr_trans (zWfr_trans (zWfr_trans (zWfr_zu (by decide)) (zWfr_zu (by decide))) (zWfr_zu (by decide))) (zWfr_zu (by decide))) r2), r3⟩
        · have hl' : zltb (g p) = false := by cases hq : zltb (g p) with
            | false => rfl
            | true => exact absurd hq hl
          have hlf : ¬ zLt (g p) := fun x => hl (zltb_iff.mpr x)
          rw [pl_cLf hlf, pl_bd, if_pos rfl]
          have same : ∀ (k x : Int32), (zdig (g p) = true → k = (if zend g n p - p ≤ 9 then 18 else 20) ∧ x = znum g (zend g n p - p) p 0) → (zdig (g p) = false → k = zsgk g n p ∧ x = 0) → ∃ t2 m V2, lX10_cut_9 ((fu + (d - 1 - (n - zend g n p))) + (n - zend g n p) + 1) (Int32.ofNat n) (Int32.ofNat (zend g n p)) (Int32.ofNat (i + 1)) (zu (zu (zu (zu t 67 (3 * w) k) 67 (3 * w + 1) (Int32.ofNat p)) 67 (3 * w + 2) x) 50 4 (Int32.ofNat (w + 1))) = some (0, t2) ∧ zWfr t t2 ∧ zWds g n m V2 t2 := by
            intro k x hk1 hk2
            obtain ⟨t9, m, V2, r1, r2, r3⟩ := ih (n - zend g n p) (by omega) (fu + (d - 1 - (n - zend g n p))) (i + 1) (zend g n p) (w + 1) nn (zup V w 0) fl sl _ (by omega) (by omega) (zCI_step (v := 0) (k := k) (x := x) h hp' hb q3 (Nat.le_refl _) (fun _ _ => rfl) q4 (by omega) (by
              rcases q7 with c | c
              · exact Or.inl (by omega)
              · exact Or.inl (by omega)) (fun _ _ => rfl) rfl q1 (fun c => absurd c hl) (fun _ => hk1) (fun _ => hk2) (fun c => absurd c hl))
            exact ⟨t9, m, V2, r1, zWfr_trans (zWfr_trans (zWfr_trans (zWfr_trans (zWfr_zu (by decide)) (zWfr_zu (by decide))) (zWfr_zu (by decide))) (zWfr_zu (by decide))) r2, r3⟩
          by_cases hdg : zdig (g p) = true
          · have eend : zend g n p = zrun zdig g n (n - p) p := by unfold zend; rw [if_neg hl, if_pos hdg]
            have hdgf : ¬ zdig (g p) = false := by rw [hdg]; decide
            have a1 : mX10_cutNumber (Int32.ofNat p) (Int32.ofNat n) t = some (Int32.ofNat (zend g n p), zu (zu (zu (zu t 67 (3 * w) (if zend g n p - p ≤ 9 then 18 else 20)) 67 (3 * w + 1) (Int32.ofNat p)) 67 (3 * w + 2) (znum g (zend g n p - p) p 0)) 50 4 (Int32.ofNat (w + 1))) := by
              unfold mX10_cutNumber
              rw [show zFU = (999999 - (n - p)) + (n - p) + 1 by show 1000000 = _; omega, pl_cnum hn (n - p) p _ _ _ 0 t (by omega) rfl rfl, q1, ← eend]
              unfold bX10_cutNumber_47 bX10_cutNumber_64
              rw [zn_sub (by omega) (by omega)]
              by_cases c9 : zend g n p - p ≤ 9
              · rw [if_pos (show Int32.ofNat (zend g n p - p) ≤ (9 : Int32) from (zn_le (b := 9) (by omega) (by omega)).mpr c9), if_pos c9, pl_addW q2 (by omega), pl_bd]
              · rw [if_neg (show ¬ Int32.ofNat (zend g n p - p) ≤ (9 : Int32) from fun x => c9 ((zn_le (b := 9) (by omega) (by omega)).mp x)), if_neg c9, pl_addW q2 (by omega), pl_bd]
            rw [pl_cDt (zdig_iff.mp hdg), pl_bd, if_neg pl_10, a1, pl_bd, stp]
            exact same _ _ (fun _ => ⟨rfl, rfl⟩) (fun c => absurd c hdgf)
          · have hdgf : zdig (g p) = false := by cases hq : zdig (g p) with
              | false => rfl
              | true => exact absurd hq hdg
            have a1 : mX10_cutSign (Int32.ofNat p) (Int32.ofNat n) t = some (Int32.ofNat (zend g n p), zu (zu (zu (zu t 67 (3 * w) (zsgk g n p)) 67 (3 * w + 1) (Int32.ofNat p)) 67 (3 * w + 2) 0) 50 4 (Int32.ofNat (w + 1))) := by
              have oth : ∀ (hne : ¬ (g p = 61 ∧ p + 1 < n ∧ g (p + 1) = 61)), bX10_cutSign_46 (Int32.ofNat p) (g p) t = some (Int32.ofNat (zend g n p), zu (zu (zu (zu t 67 (3 * w) (zsgk g n p)) 67 (3 * w + 1) (Int32.ofNat p)) 67 (3 * w + 2) 0) 50 4 (Int32.ofNat (w + 1))) := by
                intro hne
                have eend : zend g n p = p + 1 := by unfold zend; rw [if_neg hl, if_neg hdg, if_neg hne]
                have ek : zsgk g n p = if g p ∈ zSgs then g p else 20 := by unfold zsgk; rw [if_neg hne]
                rw [pl_cutSign46 hgp.1 hgp.2]
                unfold bX10_cutSign_70
                rw [pl_addW q2 (by omega), pl_bd, zn_1, eend, ek]
              unfold mX10_cutSign
              rw [zn_get (by omega) (by decide), pl_bd]
              show (if t 2 p = 61 then _ else _) = _
              rw [q1]
              by_cases c61 : g p = 61
              · rw [if_pos c61]
                by_cases c2 : p + 1 < n
                · rw [zn_1, if_neg (fun x => by rw [zn_le (by omega) (by omega)] at x; omega), zn_get (by omega) (by decide), pl_bd]
                  show (if t 2 (p + 1) = 61 then _ else _) = _
                  rw [q1]
                  by_cases c3 : g (p + 1) = 61
                  · have eend : zend g n p = p + 2 := by unfold zend; rw [if_neg hl, if_neg hdg, if_pos ⟨c61, c2, c3⟩]
                    have ek : zsgk g n p = 256 := by unfold zsgk; rw [if_pos ⟨c61, c2, c3⟩]
                    rw [if_pos c3, pl_addW q2 (by omega), pl_bd, eend, ek]
                    have e2 : Int32.ofNat p + 2 = Int32.ofNat (p + 2) := zn_add p 2
                    rw [e2]
                  · rw [if_neg c3]; exact oth (fun x => c3 x.2.2)
                · rw [zn_1, if_pos ((zn_le (by omega) (by omega)).mpr (by omega))]
                  exact oth (fun x => c2 x.2.1)
              · rw [if_neg c61]; exact oth (fun x => c61 x.1)
            rw [pl_cDf (fun x => hdg (zdig_iff.mpr x)), pl_bd, if_pos rfl, a1, pl_bd, stp]
            exact same _ _ (fun c => absurd c hdg) (fun _ => ⟨rfl, rfl⟩)
theorem pl_cut {t : zS} {n : Nat} (hn : n ≤ 3000) (hg : ∀ j, j < n → 0 ≤ t 2 j ∧ t 2 j ≤ 255) : ∃ t2 m V, mX10_cut (Int32.ofNat n) t = some (0, t2) ∧ zWfr t t2 ∧ zWds (t 2) n m V t2 := by
  obtain ⟨t1, fl, sl, r1, r2, r3, r4⟩ := pl_forgetW (t := t)
  obtain ⟨k1, k2, k3, k4⟩ := r2
  have e2 : t1 2 = t 2 := r3 2 (by decide) (by decide) (by decide) (by decide) (by decide)
  have f18 : fl 18 = 70 := k2 18 (Nat.le_refl _)
  obtain ⟨t2, m, V, s1, s2, s3⟩ := pl_cutL hn hg n (999999 - n) 0 0 0 18 (fun _ => 0) fl sl t1 rfl (Nat.le_refl _) ⟨e2, r4, k1, by rw [f18]; exact k3, Nat.le_refl _, by omega, Or.inl (by omega), fun v hv => k2 v hv, k4, rfl, Nat.le_refl _, fun j hj => absurd hj (Nat.not_lt_zero j)⟩
  refine ⟨t2, m, V, ?_, zWfr_trans r3 s2, s3⟩
  unfold mX10_cut
  rw [r1, pl_bd, show zFU = (999999 - n) + n + 1 by show 1000000 = _; omega]
  exact s1
