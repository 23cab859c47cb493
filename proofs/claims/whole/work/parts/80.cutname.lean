/-! the class's loop over a NAME's bytes: they are put into its row of letters -/
def zblk (t : zS) (c w : Nat) (g : Nat → Int32) (p m : Nat) : zS := fun k j => if k = c ∧ w ≤ j ∧ j < w + m then g (p + (j - w)) else t k j
theorem zblk_0 {t : zS} {c w p : Nat} {g : Nat → Int32} : zblk t c w g p 0 = t := by
  funext k j
  unfold zblk
  rw [if_neg (by omega)]
theorem zblk_step {t : zS} {c w p m c2 j2 : Nat} {g : Nat → Int32} {v v2 : Int32} (hc : c ≠ c2) : zu (zblk (zu (zu t c w (g p)) c2 j2 v) c (w + 1) g (p + 1) m) c2 j2 v2 = zu (zblk t c w g p (m + 1)) c2 j2 v2 := by
  funext k j
  unfold zu zblk
  by_cases q : k = c2 ∧ j = j2
  · rw [if_pos q, if_pos q]
  · rw [if_neg q, if_neg q]
    dsimp only
    rw [if_neg q]
    by_cases hk : k = c
    · subst hk
      by_cases hj : j = w
      · subst hj
        rw [if_neg (by omega), if_pos ⟨rfl, rfl⟩, if_pos ⟨rfl, by omega, by omega⟩, Nat.sub_self, Nat.add_zero]
      · by_cases h2 : w + 1 ≤ j ∧ j < w + 1 + m
        · rw [if_pos ⟨rfl, h2⟩, if_pos ⟨rfl, by omega, by omega⟩, show p + 1 + (j - (w + 1)) = p + (j - w) by omega]
        · rw [if_neg (fun x => h2 x.2), if_neg (fun x => hj x.2), if_neg (fun x => h2 ⟨by omega, by omega⟩)]
    · rw [if_neg (fun x => hk x.1), if_neg (fun x => hk x.1), if_neg (fun x => hk x.1)]
theorem pl_cname {n : Nat} {x2 : Int32} (hn : n ≤ 3000) : ∀ (d p w fu : Nat) (x3 x4 : Int32) (t : zS), d + p = n → x3 = Int32.ofNat n → x4 = Int32.ofNat p → t 50 6 = Int32.ofNat w → w + d ≤ 3120 → lX10_cutName_3 (fu + d + 1) x2 x3 x4 t = bX10_cutName_66 x2 (Int32.ofNat (zrun zaln (t 2) n d p)) (zu (zblk t 69 w (t 2) p (zrun zaln (t 2) n d p - p)) 50 6 (Int32.ofNat (w + (zrun zaln (t 2) n d p - p)))) := by
  intro d
  induction d with
  | zero =>
    intro p w fu x3 x4 t hp h3 h4 hw hb
    rw [lX10_cutName_3]
    unfold bX10_cutName_3
    have e : p = n := by omega
    rw [if_pos (by rw [h3, h4, e]; exact Int32.le_refl _)]
    show bX10_cutName_66 x2 x4 t = bX10_cutName_66 x2 (Int32.ofNat p) (zu (zblk t 69 w (t 2) p (p - p)) 50 6 (Int32.ofNat (w + (p - p))))
    rw [Nat.sub_self, zblk_0, Nat.add_zero, zu_self hw, h4]
  | succ d ih =>
    intro p w fu x3 x4 t hp h3 h4 hw hb
    have e3 : x3.toInt = (n : Int) := by rw [h3]; exact pl_ofn (by omega)
    have e4 : x4.toInt = (p : Int) := by rw [h4]; exact pl_ofn (by omega)
    have ew : (t 50 6).toInt = (w : Int) := by rw [hw]; exact pl_ofn (by omega)
    have step : bX10_cutName_33 (lX10_cutName_3 (fu + d + 1)) x2 x3 x4 t = bX10_cutName_66 x2 (Int32.ofNat (zrun zaln (t 2) n d (p + 1))) (zu (zblk t 69 w (t 2) p (zrun zaln (t 2) n d (p + 1) - p)) 50 6 (Int32.ofNat (w + (zrun zaln (t 2) n d (p + 1) - p)))) := by
      unfold bX10_cutName_33
      rw [pl_get (m := p) (by decide) e4 (by omega), pl_bd, pl_set (m := w) (by decide) ew (by omega), pl_bd, pl_pt, pl_let, zu_ne1 (by decide)]
      have hle := (zrun_le (f := zaln) (g := t 2) (n := n) d (p + 1) (by omega)).1
      rw [ih (p + 1) (w + 1) fu x3 (x4 + 1) (zu (zu t 69 w (t 2 p)) 50 6 (t 50 6 + 1)) (by omega) h3 (by rw [h4]; exact nI_1 p) (by rw [zu_same, hw]; exact nI_1 w) (by omega), zu_row (by decide), zu_row (by decide), zblk_step (by decide), show zrun zaln (t 2) n d (p + 1) - (p + 1) + 1 = zrun zaln (t 2) n d (p + 1) - p by omega, show w + 1 + (zrun zaln (t 2) n d (p + 1) - (p + 1)) = w + (zrun zaln (t 2) n d (p + 1) - p) by omega]
    have stop : bX10_cutName_66 x2 x4 t = bX10_cutName_66 x2 (Int32.ofNat p) (zu (zblk t 69 w (t 2) p (p - p)) 50 6 (Int32.ofNat (w + (p - p)))) := by
      rw [Nat.sub_self, zblk_0, Nat.add_zero, zu_self hw, h4]
    rw [show fu + (d + 1) + 1 = (fu + d + 1) + 1 by omega, lX10_cutName_3]
    unfold bX10_cutName_3
    rw [if_neg (fun x => by have := pl_le.mp x; omega), pl_get (m := p) (by decide) e4 (by omega), pl_bd]
    unfold zrun
    by_cases q1 : zLt (t 2 p)
    · rw [pl_cLt q1, pl_bd, if_neg pl_10, if_pos ⟨by omega, zaln_iff.mpr (Or.inl q1)⟩]; exact step
    · rw [pl_cLf q1, pl_bd, if_pos rfl, pl_get (m := p) (by decide) e4 (by omega), pl_bd]
      by_cases q2 : zDg (t 2 p)
      · rw [pl_cDt q2, pl_bd, if_neg pl_10, if_pos ⟨by omega, zaln_iff.mpr (Or.inr q2)⟩]; exact step
      · rw [pl_cDf q2, pl_bd, if_pos rfl, if_neg (fun x => (zaln_iff.mp x.2).elim q1 q2)]; exact stop
