/-! the probing of the class's table of names -/
/-- the name w has the letters from b up to e -/
def zeqn (t : zS) (fl : Nat → Nat) (b e w : Nat) : Prop := fl (w + 1) - fl w = e - b ∧ zsame (t 69) (e - b) (fl w) b = true
theorem zNT_le {t : zS} {n : Nat} {fl sl : Nat → Nat} (h : zNT t n fl sl) : ∀ k v, v + k = n → fl v ≤ fl n := by
  intro k
  induction k with
  | zero => intro v hv; have e : v = n := by omega
            subst e; exact Nat.le_refl _
  | succ k ih =>
    intro v hv
    exact Nat.le_trans (h.2.2.2.2.1 v (by omega)) (ih (v + 1) (by omega))
/-- one probe at a place that a name w holds -/
theorem pl_probe1 {t : zS} {n b e : Nat} {fl sl : Nat → Nat} {k46 : Int32 → Int32 → Int32 → zS → zR} {h : Int32} {i w : Nat} (hN : zNT t n fl sl) (hb : b ≤ e) (he : e ≤ 3120) (h6 : t 50 6 = Int32.ofNat e) (hi : i < 4096) (hw : w < n) (hs : ((h + Int32.ofNat i) &&& 4095).toInt = (sl w : Int)) :
    bX10_nameNumber_46 k46 (Int32.ofNat b) h (Int32.ofNat i) t = (if fl (w + 1) - fl w = e - b ∧ zsame (t 69) (e - b) (fl w) b = true then some (Int32.ofNat w, zu t 50 6 (Int32.ofNat b)) else k46 (Int32.ofNat b) h (Int32.ofNat (i + 1)) t) := by
  have hsw := hN.2.2.2.2.2.2.1 w hw
  have ei : (Int32.ofNat i).toInt = (i : Int) := pl_ofn (by omega)
  have z4 : (4096 : Int32).toInt = 4096 := by decide
  have l1 := zNT_le hN (n - w) w (by omega)
  have l2 := zNT_le hN (n - (w + 1)) (w + 1) (by omega)
  have l3 := hN.2.2.2.2.1 w hw
  have l4 := hN.2.2.2.2.2.1
  have ln := hN.1
  unfold bX10_nameNumber_46
  rw [if_neg (fun x => by have := pl_le.mp x; omega), pl_let, pl_get (m := sl w) (by decide) hs hsw.1, pl_bd, hsw.2, if_pos (zofn (k := w) (by omega)).1]
  rw [pl_isSame (a := fl w) (a2 := fl (w + 1)) (b := b) (w := e) (by omega) (hN.2.2.2.1 w (by omega)) (hN.2.2.2.1 (w + 1) (by omega)) l3 (by omega) hb he h6, pl_bd]
  by_cases q : fl (w + 1) - fl w = e - b ∧ zsame (t 69) (e - b) (fl w) b = true
  · rw [if_pos q, if_pos q, if_neg pl_10, pl_pt]
  · rw [if_neg q, if_neg q, if_pos rfl, pl_let, show Int32.ofNat i + 1 = Int32.ofNat (i + 1) from nI_1 i]
/-- a name that is known: its number, and the letters are taken back -/
theorem pl_probeF {t : zS} {n b e v i0 : Nat} {fl sl : Nat → Nat} {h : Int32} (hN : zNT t n fl sl) (hb : b ≤ e) (he : e ≤ 3120) (h6 : t 50 6 = Int32.ofNat e) (hi0 : i0 < 4096) (hv : v < n) (hs : ((h + Int32.ofNat i0) &&& 4095).toInt = (sl v : Int)) (heq : zeqn t fl b e v) (hbf : ∀ j, j < i0 → ∃ w, w < n ∧ ((h + Int32.ofNat j) &&& 4095).toInt = (sl w : Int) ∧ ¬ zeqn t fl b e w) : ∀ (d i fu : Nat), d + i = i0 → lX10_nameNumber_46 (fu + d + 1) (Int32.ofNat b) h (Int32.ofNat i) t = some (Int32.ofNat v, zu t 50 6 (Int32.ofNat b)) := by
  intro d
  induction d with
  | zero =>
    intro i fu hi
    have e0 : i = i0 := by omega
    subst e0
    rw [lX10_nameNumber_46, pl_probe1 hN hb he h6 hi0 hv hs, if_pos (show fl (v + 1) - fl v = e - b ∧ zsame (t 69) (e - b) (fl v) b = true from heq)]
  | succ d ih =>
    intro i fu hi
    obtain ⟨w, hw, hsw, hne⟩ := hbf i (by omega)
    rw [show fu + (d + 1) + 1 = (fu + d + 1) + 1 by omega, lX10_nameNumber_46, pl_probe1 hN hb he h6 (by omega) hw hsw, if_neg (show ¬ (fl (w + 1) - fl w = e - b ∧ zsame (t 69) (e - b) (fl w) b = true) from hne)]
    exact ih (i + 1) fu (by omega)
/-- one probe at a hole: the name is new -/
theorem pl_probe0 {t : zS} {n b e s : Nat} {fl sl : Nat → Nat} {k46 : Int32 → Int32 → Int32 → zS → zR} {h : Int32} {i : Nat} (hN : zNT t n fl sl) (hn : n < 1600) (he : e ≤ 3120) (h6 : t 50 6 = Int32.ofNat e) (hi : i < 4096) (hs : ((h + Int32.ofNat i) &&& 4095).toInt = (s : Int)) (h4 : s < 4096) (hh : (t 73 s).toInt < 0) :
    bX10_nameNumber_46 k46 (Int32.ofNat b) h (Int32.ofNat i) t = some (Int32.ofNat n, zu (zu (zu t 73 s (Int32.ofNat n)) 50 5 (Int32.ofNat (n + 1))) 71 (n + 1) (Int32.ofNat e)) := by
  have ei : (Int32.ofNat i).toInt = (i : Int) := pl_ofn (by omega)
  have z4 : (4096 : Int32).toInt = 4096 := by decide
  have z0 : (0 : Int32).toInt = 0 := by decide
  have en1 : (Int32.ofNat (n + 1)).toInt = ((n + 1 : Nat) : Int) := pl_ofn (by omega)
  have h5 := hN.2.1
  have c1 : (Int32.ofNat n + 1) = Int32.ofNat (n + 1) := nI_1 n
  have c2 : (Int32.ofNat (n + 1) - 1) = Int32.ofNat n := by
    have w1 : (1 : Int32).toInt = 1 := by decide
    exact pl_ext (by rw [pl_sub (by omega) (by omega), en1, w1, pl_ofn (by omega)]; omega)
  unfold bX10_nameNumber_46
  have hh' : (t (72 + 1) s).toInt < 0 := hh
  have g0 : zu t (72 + 1) s (Int32.ofNat n) 50 5 = Int32.ofNat n := by rw [zu_ne1 (by decide)]; exact h5
  rw [if_neg (fun x => by have := pl_le.mp x; omega), pl_let, pl_get (m := s) (by decide) hs h4, pl_bd, if_neg (fun x => by have := pl_le.mp x; omega), pl_set (m := s) (by decide) hs h4, pl_bd, pl_pt, h5, g0, c1]
  have g5 : zu (zu t (72 + 1) s (Int32.ofNat n)) 50 5 (Int32.ofNat (n + 1)) 50 5 = Int32.ofNat (n + 1) := zu_same _ _ _ _
  have g6 : zu (zu t (72 + 1) s (Int32.ofNat n)) 50 5 (Int32.ofNat (n + 1)) 50 6 = Int32.ofNat e := by rw [zu_ne2 (by decide), zu_ne1 (by decide)]; exact h6
  rw [g5, g6, pl_set (m := n + 1) (by decide) en1 (by omega), pl_bd]
  have g7 : zu (zu (zu t (72 + 1) s (Int32.ofNat n)) 50 5 (Int32.ofNat (n + 1))) (70 + 1) (n + 1) (Int32.ofNat e) 50 5 = Int32.ofNat (n + 1) := by rw [zu_ne1 (by decide)]; exact g5
  rw [g7, c2]
