/-! the number of a NAME, as a whole -/
def zup (f : Nat → Nat) (a b : Nat) : Nat → Nat := fun x => if x = a then b else f x
theorem zhash_congr {g : Nat → Int32} : ∀ (m p q : Nat) (v : Int32), (∀ i, i < m → g (p + i) = g (q + i)) → zhash g m p v = zhash g m q v := by
  intro m
  induction m with
  | zero => intro p q v _; rfl
  | succ m ih =>
    intro p q v h
    have h0 : g p = g q := h 0 (by omega)
    unfold zhash
    rw [h0]
    refine ih (p + 1) (q + 1) _ (fun i hi => ?_)
    have := h (i + 1) (by omega)
    rw [show p + (i + 1) = p + 1 + i by omega, show q + (i + 1) = q + 1 + i by omega] at this
    exact this
theorem zsame_symm {g : Nat → Int32} {m p q : Nat} (h : zsame g m p q = true) : zsame g m q p = true := by
  rw [zsame_iff] at *
  exact fun i hi => (h i hi).symm
theorem zsame_trans {g : Nat → Int32} {m p q r : Nat} (h : zsame g m p q = true) (h2 : zsame g m q r = true) : zsame g m p r = true := by
  rw [zsame_iff] at *
  exact fun i hi => (h i hi).trans (h2 i hi)
theorem pl_nameNumber {t : zS} {n e : Nat} {fl sl : Nat → Nat} (hN : zNT t n fl sl) (h6 : t 50 6 = Int32.ofNat e) (hb : fl n ≤ e) (he : e ≤ 3100) (hn : n < 1600) :
    (∃ v, v < n ∧ zeqn t fl (fl n) e v ∧ mX10_nameNumber t = some (Int32.ofNat v, zu t 50 6 (Int32.ofNat (fl n)))) ∨
    ((∀ w, w < n → ¬ zeqn t fl (fl n) e w) ∧ ∃ s, s < 4096 ∧ mX10_nameNumber t = some (Int32.ofNat n, zu (zu (zu t 73 s (Int32.ofNat n)) 50 5 (Int32.ofNat (n + 1))) 71 (n + 1) (Int32.ofNat e)) ∧
      zNT (zu (zu (zu t 73 s (Int32.ofNat n)) 50 5 (Int32.ofNat (n + 1))) 71 (n + 1) (Int32.ofNat e)) (n + 1) (zup fl (n + 1) e) (zup sl n s)) := by
  have hN' := hN
  obtain ⟨q1, q2, q3, q4, q5, q6, q7, q8, q9, q10⟩ := hN
  have en : (t 50 5).toInt = (n : Int) := by rw [q2]; exact pl_ofn (by omega)
  have start : mX10_nameNumber t = lX10_nameNumber_46 zFU (Int32.ofNat (fl n)) (zhash (t 69) (e - fl n) (fl n) 0) 0 t := by
    unfold mX10_nameNumber
    rw [pl_get (m := n) (by decide) en (by omega), pl_bd, q4 n (Nat.le_refl _)]
    have hh := pl_hash (w := e) (by omega) (x1 := Int32.ofNat (fl n)) (e - fl n) (fl n) (999999 - (e - fl n)) 0 (Int32.ofNat (fl n)) t (by omega) rfl h6
    rw [show 999999 - (e - fl n) + (e - fl n) + 1 = zFU from (by show _ = 1000000; omega)] at hh
    exact hh
  rw [start]
  by_cases hv : ∃ v, v < n ∧ zeqn t fl (fl n) e v
  · obtain ⟨v, hv, hz⟩ := hv
    obtain ⟨i, hi, his, hbf⟩ := q10 v hv
    have hh : zhash (t 69) (fl (v + 1) - fl v) (fl v) 0 = zhash (t 69) (e - fl n) (fl n) 0 := by
      rw [hz.1]
      exact zhash_congr _ _ _ _ ((zsame_iff _ _ _).mp hz.2)
    rw [hh] at his hbf
    refine Or.inl ⟨v, hv, hz, ?_⟩
    rw [show zFU = (999999 - i) + i + 1 by show 1000000 = _; omega]
    refine pl_probeF hN' hb (by omega) h6 hi hv his hz (fun j hj => ?_) i 0 _ (by omega)
    obtain ⟨w, hw, hws⟩ := hbf j hj
    refine ⟨w, hw, hws, fun hz2 => ?_⟩
    have e1 : w = v := q9 w v hw hv (by rw [hz2.1, hz.1]) (by rw [hz2.1]; exact zsame_trans hz2.2 (zsame_symm hz.2))
    subst e1
    have := zprobe_inj (h := zhash (t 69) (e - fl n) (fl n) 0) (i := j) (j := i) (by omega) hi (pl_ext (by rw [hws, his]))
    omega
  · have hv' : ∀ w, w < n → ¬ zeqn t fl (fl n) e w := fun w hw hz => hv ⟨w, hw, hz⟩
    obtain ⟨i0, s, hi0, hs, his, hneg, hbf⟩ := zhole hN' (zhash (t 69) (e - fl n) (fl n) 0)
    refine Or.inr ⟨hv', s, hs, ?_, ?_⟩
    · rw [show zFU = (999999 - i0) + i0 + 1 by show 1000000 = _; omega]
      exact pl_probeN hN' hn hb (by omega) h6 hi0 his hs hneg (fun j hj => by obtain ⟨w, hw, hws⟩ := hbf j hj; exact ⟨w, hw, hws, hv' w hw⟩) i0 0 _ (by omega)
    · have zr : ∀ k, k ≠ 71 → k ≠ 50 → k ≠ 73 → zu (zu (zu t 73 s (Int32.ofNat n)) 50 5 (Int32.ofNat (n + 1))) 71 (n + 1) (Int32.ofNat e) k = t k := by
        intro k k1 k2 k3
        rw [zu_row k1, zu_row k2, zu_row k3]
      have u_ne : ∀ (f : Nat → Nat) (a b x : Nat), x ≠ a → zup f a b x = f x := by intro f a b x hx; simp [zup, hx]
      have u_eq : ∀ (f : Nat → Nat) (a b : Nat), zup f a b a = b := by intro f a b; simp [zup]
      have slne : ∀ v, v < n → sl v ≠ s := by
        intro v hv he2
        have := (q7 v hv).2
        rw [he2] at this
        rw [this, pl_ofn (by omega)] at hneg
        omega
      have fle : ∀ v, v < n → zup fl (n + 1) e (v + 1) - zup fl (n + 1) e v = fl (v + 1) - fl v := by
        intro v hv; rw [u_ne _ _ _ _ (by omega), u_ne _ _ _ _ (by omega)]
      have z73 : ∀ x, zu (zu (zu t 73 s (Int32.ofNat n)) 50 5 (Int32.ofNat (n + 1))) 71 (n + 1) (Int32.ofNat e) 73 x = zu t 73 s (Int32.ofNat n) 73 x := by
        intro x; rw [zu_ne1 (by decide), zu_ne1 (by decide)]
      refine ⟨by omega, by rw [zu_ne1 (by decide), zu_same], by rw [u_ne _ _ _ _ (by omega)]; exact q3, fun v hv => ?_, fun v hv => ?_, by rw [u_eq]; exact he, fun v hv => ?_, fun s' hs' => ?_, fun v w hv hw hl hsm => ?_, fun v hv => ?_⟩
      · by_cases e1 : v = n + 1
        · subst e1; rw [zu_same, u_eq]
        · rw [zu_ne2 e1, zu_ne1 (by decide), zu_ne1 (by decide), u_ne _ _ _ _ e1]; exact q4 v (by omega)
      · by_cases e1 : v = n
        · subst e1; rw [u_eq, u_ne _ _ _ _ (by omega)]; exact hb
        · rw [u_ne _ _ _ _ (by omega), u_ne _ _ _ _ (by omega)]; exact q5 v (by omega)
      · by_cases e1 : v = n
        · subst e1; rw [u_eq]; exact ⟨hs, by rw [z73, zu_same]⟩
        · rw [u_ne _ _ _ _ e1]
          have := q7 v (by omega)
          exact ⟨this.1, by rw [z73, zu_ne2 (slne v (by omega))]; exact this.2⟩
      · by_cases e1 : s' = s
        · subst e1; exact Or.inr ⟨n, by omega, u_eq _ _ _⟩
        · rw [z73, zu_ne2 e1]
          rcases q8 s' hs' with h | ⟨v, hv, hvs⟩
          · exact Or.inl h
          · exact Or.inr ⟨v, by omega, by rw [u_ne _ _ _ _ (by omega)]; exact hvs⟩
      · rw [zr 69 (by decide) (by decide) (by decide)] at hsm
        by_cases e1 : v = n
        · by_cases e2 : w = n
          · omega
          · exfalso
            subst e1
            rw [u_eq, u_ne _ _ _ _ (by omega), fle w (by omega)] at hl
            rw [u_eq, u_ne _ _ _ v (by omega), u_ne _ _ _ w (by omega)] at hsm
            exact hv' w (by omega) ⟨hl.symm, zsame_symm hsm⟩
        · by_cases e2 : w = n
          · exfalso
            subst e2
            rw [u_eq, u_ne _ _ _ w (by omega), fle v (by omega)] at hl
            rw [fle v (by omega), hl, u_ne _ _ _ w (by omega), u_ne _ _ _ v (by omega)] at hsm
            exact hv' v (by omega) ⟨hl, hsm⟩
          · rw [fle v (by omega), fle w (by omega)] at hl
            rw [fle v (by omega), u_ne _ _ _ v (by omega), u_ne _ _ _ w (by omega)] at hsm
            exact q9 v w (by omega) (by omega) hl hsm
      · rw [zr 69 (by decide) (by decide) (by decide)]
        by_cases e1 : v = n
        · subst e1
          rw [u_eq, u_eq, u_ne _ _ _ v (by omega)]
          refine ⟨i0, hi0, his, fun j hj => ?_⟩
          obtain ⟨w, hw, hws⟩ := hbf j hj
          exact ⟨w, by omega, by rw [u_ne _ _ _ _ (by omega)]; exact hws⟩
        · obtain ⟨i, hi, hiv, hib⟩ := q10 v (by omega)
          rw [fle v (by omega), u_ne _ _ _ v (by omega), u_ne _ _ _ _ e1]
          refine ⟨i, hi, hiv, fun j hj => ?_⟩
          obtain ⟨w, hw, hws⟩ := hib j hj
          exact ⟨w, by omega, by rw [u_ne _ _ _ _ (by omega)]; exact hws⟩
