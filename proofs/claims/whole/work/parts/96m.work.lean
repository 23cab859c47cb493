/-! an EXPRESSION worked out on both sides -/
theorem zn_pm (k : Nat) : Int32.ofNat (k + 1) + (-1) = Int32.ofNat k := by rw [← zn_m k, Int32.sub_eq_add_neg]
def zFwC (t t2 : zS) : Prop := (∀ k, ¬ (k = 85 ∨ k = 51) → t2 k = t k) ∧ ∀ j, ¬ j = 8 → t2 51 j = t 51 j
def zFv (u u2 : zS) : Prop := (∀ k, ¬ (k = 58 ∨ k = 0) → u2 k = u k) ∧ ∀ j, ¬ j = 107 → u2 0 j = u 0 j
theorem zFwC_refl (t : zS) : zFwC t t := ⟨fun _ _ => rfl, fun _ _ => rfl⟩
theorem zFv_refl (t : zS) : zFv t t := ⟨fun _ _ => rfl, fun _ _ => rfl⟩
theorem zFwC_trans {a b c : zS} (h : zFwC a b) (h2 : zFwC b c) : zFwC a c := ⟨fun k q => (h2.1 k q).trans (h.1 k q), fun k q => (h2.2 k q).trans (h.2 k q)⟩
theorem zFv_trans {a b c : zS} (h : zFv a b) (h2 : zFv b c) : zFv a c := ⟨fun k q => (h2.1 k q).trans (h.1 k q), fun k q => (h2.2 k q).trans (h.2 k q)⟩
theorem zFwC_85 {t : zS} {j : Nat} {v : Int32} : zFwC t (zu t 85 j v) := ⟨fun k q => zu_row (by omega), fun k q => zu_ne1 (by decide)⟩
theorem zFv_58 {t : zS} {j : Nat} {v : Int32} : zFv t (zu t 58 j v) := ⟨fun k q => zu_row (by omega), fun k q => zu_ne1 (by decide)⟩
/-- what both answer of an EXPRESSION -/
def zWr (t u : zS) (a b : zR) : Prop := ∃ t2 u2, zFwC t t2 ∧ zFv u u2 ∧ ((a = some (1, t2) ∧ b = some (t2 51 8, u2) ∧ u2 0 107 = 0) ∨ (a = some (0, t2) ∧ (∃ z, b = some (z, u2)) ∧ u2 0 107 = 1))
theorem zWr_of {t u t1 u1 : zS} {a b : zR} (h : zWr t1 u1 a b) (ht : zFwC t t1) (hu : zFv u u1) : zWr t u a b := by
  obtain ⟨t2, u2, h1, h2, h3⟩ := h
  exact ⟨t2, u2, zFwC_trans ht h1, zFv_trans hu h2, h3⟩
theorem zSg_up {K V C : Nat → Int32} {n hb : Nat} : ∀ (l F c h c2 h2 : Nat), zSg K V C n hb l F c h c2 h2 → c ≤ c2 ∧ (0 < l → c < c2) := by
  intro l
  induction l with
  | zero => intro F c h c2 h2 q; exact ⟨by rw [q.1]; omega, fun w => by omega⟩
  | succ l ih =>
    intro F c h c2 h2 q
    obtain ⟨c1, h1, q1, q2⟩ := q
    have := (ih _ _ _ _ _ q2).1
    have lt : c < c1 := by
      rcases q1 with ⟨_, _, _, e, _⟩ | ⟨_, _, _, e, _⟩ | ⟨_, _, _, e, _⟩ | ⟨_, _, e, _⟩ <;> omega
    exact ⟨by omega, fun _ => by omega⟩
theorem zWork {p n bC bM : Nat} (hp : p < 2600) (hbC : bC + n ≤ 24000) (hbM : bM + n ≤ 24000) : ∀ (l F c h c2 fu fv : Nat) (t u : zS), zSg (t 75) (t 77) (u 27) n 250 l F c h c2 1 → u 27 c2 = 0 → c2 < 9000 → F + l ≤ 3000 → h ≤ 250 → (∀ j, j < h → t 85 j = u 58 j) → u 0 107 = 0 → u 51 p = Int32.ofNat bM → (∀ k, k < n → t 143 (bC + k) = u 52 (bM + k)) →
    zWr t u (lX3_work_6 (fu + l + 1) (Int32.ofNat (F + l)) (Int32.ofNat bC) (Int32.ofNat h) (Int32.ofNat F) t) (lX12_worth_10 (fv + l + 1) (Int32.ofNat p) (Int32.ofNat h) (Int32.ofNat c) u) := by
  intro l
  induction l with
  | zero =>
    intro F c h c2 fu fv t u q h0 hc hF hh hst h107 hb hnum
    obtain ⟨q1, q2⟩ := q
    subst q1; subst q2
    refine ⟨zu t 51 8 (t 85 0), u, ⟨fun k q => zu_row (by omega), fun j q => zu_ne2 q⟩, zFv_refl _, Or.inl ⟨?_, ?_, h107⟩⟩
    · show bX3_work_6 _ _ _ _ _ t = _
      unfold bX3_work_6
      rw [if_pos ((zn_le (by omega) (by omega)).mpr (by omega)), show mX5_get 84 256 0 t = some (t 85 0, t) from zn_get (k := 0) (by decide) (by decide), pl_bd, pl_pt]
    · show bX12_worth_10 _ _ _ _ u = _
      unfold bX12_worth_10 bX12_worth_161
      rw [zn_rd hc (by decide), h0, if_pos rfl, show zrd u 58 3000 0 (fun v4417 => some (v4417, u)) = some (u 58 0, u) from zn_rd (k := 0) (by decide) (by decide), zu_same, hst 0 (by decide)]
  | succ l ih =>
    intro F c h c2 fu fv t u q h0 hc hF hh hst h107 hb hnum
    have up := (zSg_up _ _ _ _ _ _ q).2 (by omega)
    obtain ⟨c1, h1, q1, q2⟩ := q
    have up1 := (zSg_up _ _ _ _ _ _ q2).1
    have gK : mX5_get 74 3000 (Int32.ofNat F) t = some (t 75 F, t) := zn_get (by omega) (by decide)
    have gV : mX5_get 76 3000 (Int32.ofNat F) t = some (t 77 F, t) := zn_get (by omega) (by decide)
    have nle : ¬ Int32.ofNat (F + (l + 1)) ≤ Int32.ofNat F := by rw [zn_le (by omega) (by omega)]; omega
    -- one more on the stack
    have push : ∀ v, h + 1 ≤ 250 → c1 = c + 2 → h1 = h + 1 → zWr t u (bX3_work_78 (lX3_work_6 (fu + l + 1)) (Int32.ofNat (F + (l + 1))) (Int32.ofNat bC) (Int32.ofNat h) (Int32.ofNat F) v (Int32.ofNat h) t) (bX12_worth_91 (lX12_worth_10 (fv + l + 1)) (Int32.ofNat p) (Int32.ofNat h) (Int32.ofNat (c + 1)) v (Int32.ofNat h) u) := fun v e1 e2 e3 => by
      unfold bX3_work_78 bX3_work_185 bX12_worth_91 bX12_worth_155
      rw [zn_set (by omega) (by decide), pl_bd, pl_let, pl_let, zn_1, zn_1, zn_wr (by omega) (by decide)]
      simp only [pl_let, zn_1]
      subst e2; subst e3
      have := ih (F + 1) (c + 2) (h + 1) c2 fu fv (zu t 85 h v) (zu u 58 h v) (by rw [zu_row (by decide), zu_row (by decide), zu_row (by decide)]; exact q2) (by rw [zu_ne1 (by decide)]; exact h0) hc (by omega) e1 (fun j hj => by
        by_cases e : j = h
        · subst e; rw [zu_same, zu_same]
        · rw [zu_ne2 e, zu_ne2 e]; exact hst j (by omega)) (by rw [zu_ne1 (by decide)]; exact h107) (by rw [zu_ne1 (by decide)]; exact hb) (fun k hk => by rw [zu_ne1 (by decide), zu_ne1 (by decide)]; exact hnum k hk)
      rw [show F + 1 + l = F + (l + 1) by omega] at this
      exact zWr_of this zFwC_85 zFv_58
    show zWr t u (bX3_work_6 (lX3_work_6 (fu + l + 1)) _ _ _ _ t) (bX12_worth_10 (lX12_worth_10 (fv + l + 1)) _ _ _ u)
    unfold bX3_work_6 bX12_worth_10
    rw [if_neg nle, gK, pl_bd, zn_rd (show c < 9000 by omega) (by decide), h107, zn_rd (show c < 9000 by omega) (by decide)]
    rcases q1 with ⟨k1, k2, k3, k4, k5, k6⟩ | ⟨k1, k2, ⟨k, k3, k7, k8⟩, k4, k5, k6⟩ | ⟨k1, k2, k3, k4, k5⟩ | ⟨k1, k2, k3, k4⟩
    · rw [k1, k2, if_pos rfl, if_neg (by decide), if_pos rfl, if_pos rfl]
      unfold bX3_work_37 bX12_worth_48
      rw [if_pos rfl, gV, pl_bd, pl_let, zn_1, if_pos rfl, zn_rd (by omega) (by decide), ← k3]
      exact push _ k6 k4 k5
    · rw [k1, k2, if_neg (by decide), if_pos rfl, if_neg (by decide), if_pos rfl, if_neg (by decide), if_pos rfl]
      unfold bX3_work_37 bX12_worth_48
      rw [if_neg (by decide), gV, pl_bd, k7, zn_add, zn_get (by omega) (by decide), pl_bd, pl_let, zn_1, if_neg (by decide), zn_rd hp (by decide), zn_rd (by omega) (by decide), k8, hb, zn_add, zn_rd (by omega) (by decide), ← hnum k k3]
      exact push _ k6 k4 k5
    · rw [k1, k2, if_neg (by decide), if_neg (by decide), if_pos rfl, if_neg (by decide), if_pos rfl, if_neg (by decide), if_neg (by decide), if_pos rfl]
      obtain ⟨h', eh⟩ : ∃ h', h = h' + 1 := ⟨h - 1, by omega⟩
      subst eh
      subst k4; subst k5
      unfold bX3_work_185 bX12_worth_155
      rw [zn_m, zn_get (by omega) (by decide), pl_bd, zn_set (by omega) (by decide), pl_bd, pl_let, zn_1, zn_rd (by omega) (by decide), zn_wr (by omega) (by decide), pl_let, zn_1, hst h' (by omega)]
      have := ih (F + 1) (c + 1) (h' + 1) c2 fu fv (zu t 85 h' (-u 58 h')) (zu u 58 h' (-u 58 h')) (by rw [zu_row (by decide), zu_row (by decide), zu_row (by decide)]; exact q2) (by rw [zu_ne1 (by decide)]; exact h0) hc (by omega) hh (fun j hj => by
        by_cases e : j = h'
        · subst e; rw [zu_same, zu_same]
        · rw [zu_ne2 e, zu_ne2 e]; exact hst j (by omega)) (by rw [zu_ne1 (by decide)]; exact h107) (by rw [zu_ne1 (by decide)]; exact hb) (fun k hk => by rw [zu_ne1 (by decide), zu_ne1 (by decide)]; exact hnum k hk)
      rw [show F + 1 + l = F + (l + 1) by omega] at this
      exact zWr_of this zFwC_85 zFv_58
    · obtain ⟨h', eh⟩ : ∃ h', h = h' + 2 := ⟨h - 2, by omega⟩
      subst eh
      have eh1 : h1 = h' + 1 := by omega
      subst eh1
      subst k3
      have y0 : t 85 (h' + 1) = u 58 (h' + 1) := hst _ (by omega)
      have x0 : t 85 h' = u 58 h' := hst _ (by omega)
      -- the value is there
      have fin : ∀ v, zWr t u (bX3_work_185 (lX3_work_6 (fu + l + 1)) (Int32.ofNat (F + (l + 1))) (Int32.ofNat bC) (Int32.ofNat (h' + 1)) (Int32.ofNat F) (zu t 85 h' v)) (bX12_worth_155 (lX12_worth_10 (fv + l + 1)) (Int32.ofNat p) (Int32.ofNat (h' + 1)) (Int32.ofNat c) (zu u 58 h' v)) := fun v => by
        unfold bX3_work_185 bX12_worth_155
        rw [pl_let, zn_1, pl_let, zn_1]
        have := ih (F + 1) (c + 1) (h' + 1) c2 fu fv (zu t 85 h' v) (zu u 58 h' v) (by rw [zu_row (by decide), zu_row (by decide), zu_row (by decide)]; exact q2) (by rw [zu_ne1 (by decide)]; exact h0) hc (by omega) (by omega) (fun j hj => by
          by_cases e : j = h'
          · subst e; rw [zu_same, zu_same]
          · rw [zu_ne2 e, zu_ne2 e]; exact hst j (by omega)) (by rw [zu_ne1 (by decide)]; exact h107) (by rw [zu_ne1 (by decide)]; exact hb) (fun k hk => by rw [zu_ne1 (by decide), zu_ne1 (by decide)]; exact hnum k hk)
        rw [show F + 1 + l = F + (l + 1) by omega] at this
        exact zWr_of this zFwC_85 zFv_58
      have g1 : mX5_get 84 256 (Int32.ofNat (h' + 1)) t = some (u 58 (h' + 1), t) := by rw [← y0]; exact zn_get (by omega) (by decide)
      have g2 : mX5_get 84 256 (Int32.ofNat (h' + 1) - 1) t = some (u 58 h', t) := by rw [zn_m, ← x0]; exact zn_get (by omega) (by decide)
      have w156 : ∀ (kk x8 v : Int32), mX3_join kk (u 58 h') x8 t = some (v, t) → bX3_work_156 (lX3_work_6 (fu + l + 1)) (Int32.ofNat (F + (l + 1))) (Int32.ofNat bC) (Int32.ofNat (h' + 1)) (Int32.ofNat F) kk x8 t = bX3_work_185 (lX3_work_6 (fu + l + 1)) (Int32.ofNat (F + (l + 1))) (Int32.ofNat bC) (Int32.ofNat (h' + 1)) (Int32.ofNat F) (zu t 85 h' v) := fun kk x8 v e => by
        unfold bX3_work_156
        rw [g2, pl_bd, e, pl_bd, zn_m, zn_set (by omega) (by decide), pl_bd]
      have main : ∀ (kk cc v : Int32), t 75 F = kk → u 27 c = cc → ¬ kk = 18 → ¬ kk = 17 → ¬ kk = 257 → ¬ cc = 0 → ¬ cc = 1 → ¬ cc = 2 → ¬ cc = 3 → (u 58 (h' + 1) = 0 → ¬ kk = 47 ∧ ¬ kk = 37) → mX3_join kk (u 58 h') (u 58 (h' + 1)) t = some (v, t) → mX12_worked cc (u 58 h') (u 58 (h' + 1)) u = some (v, u) →
          zWr t u (if kk = 18 then bX3_work_37 (lX3_work_6 (fu + l + 1)) (Int32.ofNat (F + (l + 1))) (Int32.ofNat bC) (Int32.ofNat (h' + 2)) (Int32.ofNat F) kk t else if kk = 17 then bX3_work_37 (lX3_work_6 (fu + l + 1)) (Int32.ofNat (F + (l + 1))) (Int32.ofNat bC) (Int32.ofNat (h' + 2)) (Int32.ofNat F) kk t else if kk = 257 then zbd (mX5_get 84 256 (Int32.ofNat (h' + 2) - 1) t) fun r1862 t1863 => zbd (mX5_set 84 256 (Int32.ofNat (h' + 2) - 1) (-r1862) t1863) fun r1865 t1866 => bX3_work_185 (lX3_work_6 (fu + l + 1)) (Int32.ofNat (F + (l + 1))) (Int32.ofNat bC) (Int32.ofNat (h' + 2)) (Int32.ofNat F) t1866 else zlet (Int32.ofNat (h' + 2) + (-1)) fun v1858 => zbd (mX5_get 84 256 v1858 t) fun r1859 t1860 => if r1859 = 0 then if kk = 47 then some (0, t1860) else if kk = 37 then some (0, t1860) else bX3_work_156 (lX3_work_6 (fu + l + 1)) (Int32.ofNat (F + (l + 1))) (Int32.ofNat bC) v1858 (Int32.ofNat F) kk r1859 t1860 else bX3_work_156 (lX3_work_6 (fu + l + 1)) (Int32.ofNat (F + (l + 1))) (Int32.ofNat bC) v1858 (Int32.ofNat F) kk r1859 t1860)
          (if cc = 0 then bX12_worth_161 u else if (0 : Int32) = 0 then if cc = 1 then bX12_worth_48 (lX12_worth_10 (fv + l + 1)) (Int32.ofNat p) (Int32.ofNat (h' + 2)) (Int32.ofNat c) cc u else if cc = 2 then bX12_worth_48 (lX12_worth_10 (fv + l + 1)) (Int32.ofNat p) (Int32.ofNat (h' + 2)) (Int32.ofNat c) cc u else if cc = 3 then zrd u 58 3000 (Int32.ofNat (h' + 2) - 1) fun v4433 => zwr u 58 3000 (Int32.ofNat (h' + 2) - 1) (-v4433) fun t4436 => bX12_worth_155 (lX12_worth_10 (fv + l + 1)) (Int32.ofNat p) (Int32.ofNat (h' + 2)) (Int32.ofNat c) t4436 else zlet (Int32.ofNat (h' + 2) + (-1)) fun v4423 => zrd u 58 3000 (v4423 - 1) fun v4424 => zrd u 58 3000 v4423 fun v4426 => zbd (mX12_worked cc v4424 v4426 u) fun r4428 t4429 => zwr t4429 58 3000 (v4423 - 1) r4428 fun t4432 => bX12_worth_155 (lX12_worth_10 (fv + l + 1)) (Int32.ofNat p) v4423 (Int32.ofNat c) t4432 else bX12_worth_161 u) := fun kk cc v _ _ a1 a2 a3 b1 b2 b3 b4 hz j1 j2 => by
        rw [if_neg a1, if_neg a2, if_neg a3, if_neg b1, if_pos rfl, if_neg b2, if_neg b3, if_neg b4, pl_let, pl_let, show h' + 2 = h' + 1 + 1 from rfl, zn_pm, g1, pl_bd, zn_m, zn_rd (by omega) (by decide), zn_rd (by omega) (by decide), j2, pl_bd, zn_wr (by omega) (by decide)]
        have e : (if u 58 (h' + 1) = 0 then if kk = 47 then some (0, t) else if kk = 37 then some (0, t) else bX3_work_156 (lX3_work_6 (fu + l + 1)) (Int32.ofNat (F + (l + 1))) (Int32.ofNat bC) (Int32.ofNat (h' + 1)) (Int32.ofNat F) kk (u 58 (h' + 1)) t else bX3_work_156 (lX3_work_6 (fu + l + 1)) (Int32.ofNat (F + (l + 1))) (Int32.ofNat bC) (Int32.ofNat (h' + 1)) (Int32.ofNat F) kk (u 58 (h' + 1)) t) = bX3_work_156 (lX3_work_6 (fu + l + 1)) (Int32.ofNat (F + (l + 1))) (Int32.ofNat bC) (Int32.ofNat (h' + 1)) (Int32.ofNat F) kk (u 58 (h' + 1)) t := by
          by_cases z : u 58 (h' + 1) = 0
          · rw [if_pos z, if_neg (hz z).1, if_neg (hz z).2]
          · rw [if_neg z]
        rw [e, w156 kk _ v j1]
        exact fin v
      -- by nought
      have nought : ∀ kk : Int32, kk = 47 ∨ kk = 37 → t 75 F = kk → u 27 c = kk → u 58 (h' + 1) = 0 → zWr t u (if kk = 18 then bX3_work_37 (lX3_work_6 (fu + l + 1)) (Int32.ofNat (F + (l + 1))) (Int32.ofNat bC) (Int32.ofNat (h' + 2)) (Int32.ofNat F) kk t else if kk = 17 then bX3_work_37 (lX3_work_6 (fu + l + 1)) (Int32.ofNat (F + (l + 1))) (Int32.ofNat bC) (Int32.ofNat (h' + 2)) (Int32.ofNat F) kk t else if kk = 257 then zbd (mX5_get 84 256 (Int32.ofNat (h' + 2) - 1) t) fun r1862 t1863 => zbd (mX5_set 84 256 (Int32.ofNat (h' + 2) - 1) (-r1862) t1863) fun r1865 t1866 => bX3_work_185 (lX3_work_6 (fu + l + 1)) (Int32.ofNat (F + (l + 1))) (Int32.ofNat bC) (Int32.ofNat (h' + 2)) (Int32.ofNat F) t1866 else zlet (Int32.ofNat (h' + 2) + (-1)) fun v1858 => zbd (mX5_get 84 256 v1858 t) fun r1859 t1860 => if r1859 = 0 then if kk = 47 then some (0, t1860) else if kk = 37 then some (0, t1860) else bX3_work_156 (lX3_work_6 (fu + l + 1)) (Int32.ofNat (F + (l + 1))) (Int32.ofNat bC) v1858 (Int32.ofNat F) kk r1859 t1860 else bX3_work_156 (lX3_work_6 (fu + l + 1)) (Int32.ofNat (F + (l + 1))) (Int32.ofNat bC) v1858 (Int32.ofNat F) kk r1859 t1860)
          (if kk = 0 then bX12_worth_161 u else if (0 : Int32) = 0 then if kk = 1 then bX12_worth_48 (lX12_worth_10 (fv + l + 1)) (Int32.ofNat p) (Int32.ofNat (h' + 2)) (Int32.ofNat c) kk u else if kk = 2 then bX12_worth_48 (lX12_worth_10 (fv + l + 1)) (Int32.ofNat p) (Int32.ofNat (h' + 2)) (Int32.ofNat c) kk u else if kk = 3 then zrd u 58 3000 (Int32.ofNat (h' + 2) - 1) fun v4433 => zwr u 58 3000 (Int32.ofNat (h' + 2) - 1) (-v4433) fun t4436 => bX12_worth_155 (lX12_worth_10 (fv + l + 1)) (Int32.ofNat p) (Int32.ofNat (h' + 2)) (Int32.ofNat c) t4436 else zlet (Int32.ofNat (h' + 2) + (-1)) fun v4423 => zrd u 58 3000 (v4423 - 1) fun v4424 => zrd u 58 3000 v4423 fun v4426 => zbd (mX12_worked kk v4424 v4426 u) fun r4428 t4429 => zwr t4429 58 3000 (v4423 - 1) r4428 fun t4432 => bX12_worth_155 (lX12_worth_10 (fv + l + 1)) (Int32.ofNat p) v4423 (Int32.ofNat c) t4432 else bX12_worth_161 u) := fun kk hk _ _ z => by
        have wk : mX12_worked kk (u 58 h') 0 u = some (0, zu u 0 107 1) := by
          unfold mX12_worked bX12_worked_96
          rcases hk with e | e <;> rw [e] <;> rw [if_neg (by decide), if_neg (by decide), if_neg (by decide), if_neg (by decide), if_neg (by decide), if_pos rfl, show ∀ x : zR, z01 1 x = x from fun _ => rfl, pl_pt, zu_same, if_neg (by decide)]
        have last : bX12_worth_155 (lX12_worth_10 (fv + l + 1)) (Int32.ofNat p) (Int32.ofNat (h' + 1)) (Int32.ofNat c) (zu (zu u 0 107 1) 58 h' 0) = some (zu (zu u 0 107 1) 58 h' 0 58 0, zu (zu u 0 107 1) 58 h' 0) := by
          unfold bX12_worth_155
          rw [pl_let, zn_1]
          show bX12_worth_10 _ _ _ _ _ = _
          unfold bX12_worth_10 bX12_worth_161
          rw [zn_rd (by omega) (by decide), zu_ne1 (show (0 : Nat) ≠ 58 by decide), zu_same, if_neg (show ¬ (1 : Int32) = 0 by decide), show zrd (zu (zu u 0 107 1) 58 h' 0) 58 3000 0 (fun v4417 => some (v4417, zu (zu u 0 107 1) 58 h' 0)) = some (zu (zu u 0 107 1) 58 h' 0 58 0, zu (zu u 0 107 1) 58 h' 0) from zn_rd (k := 0) (by decide) (by decide)]
          split <;> rfl
        refine ⟨t, zu (zu u 0 107 1) 58 h' 0, zFwC_refl _, ⟨fun k q => by rw [zu_row (by omega), zu_row (by omega)], fun j q => by rw [zu_ne1 (by decide), zu_ne2 q]⟩, Or.inr ⟨?_, ⟨zu (zu u 0 107 1) 58 h' 0 58 0, ?_⟩, by rw [zu_ne1 (by decide), zu_same]⟩⟩
        · rw [if_neg (by rcases hk with e | e <;> rw [e] <;> decide), if_neg (by rcases hk with e | e <;> rw [e] <;> decide), if_neg (by rcases hk with e | e <;> rw [e] <;> decide), pl_let, show h' + 2 = h' + 1 + 1 from rfl, zn_pm, g1, pl_bd, if_pos z]
          rcases hk with e | e
          · rw [if_pos e]
          · rw [if_neg (by rw [e]; decide), if_pos e]
        · rw [if_neg (by rcases hk with e | e <;> rw [e] <;> decide), if_pos rfl, if_neg (by rcases hk with e | e <;> rw [e] <;> decide), if_neg (by rcases hk with e | e <;> rw [e] <;> decide), if_neg (by rcases hk with e | e <;> rw [e] <;> decide), pl_let, show h' + 2 = h' + 1 + 1 from rfl, zn_pm, zn_m, zn_rd (by omega) (by decide), zn_rd (by omega) (by decide), z, wk, pl_bd, zn_wr (by omega) (by decide)]
          exact last
      have nz : ∀ (y : Int32) (r : zR), ¬ y = 0 → znz y r = r := fun y r h => by unfold znz; rw [if_neg h]
      rcases k1 with ⟨e, k⟩ | ⟨e, e2⟩
      · rw [← e]
        rcases k with k | k | k | k | k | k
        · refine main _ _ (u 58 h' + u 58 (h' + 1)) rfl e.symm (by rw [k]; decide) (by rw [k]; decide) (by rw [k]; decide) (by rw [k]; decide) (by rw [k]; decide) (by rw [k]; decide) (by rw [k]; decide) (fun _ => by rw [k]; decide) (by rw [k]; rfl) (by rw [k]; rfl)
        · refine main _ _ (u 58 h' - u 58 (h' + 1)) rfl e.symm (by rw [k]; decide) (by rw [k]; decide) (by rw [k]; decide) (by rw [k]; decide) (by rw [k]; decide) (by rw [k]; decide) (by rw [k]; decide) (fun _ => by rw [k]; decide) (by rw [k]; rfl) (by rw [k]; rfl)
        · refine main _ _ (u 58 h' * u 58 (h' + 1)) rfl e.symm (by rw [k]; decide) (by rw [k]; decide) (by rw [k]; decide) (by rw [k]; decide) (by rw [k]; decide) (by rw [k]; decide) (by rw [k]; decide) (fun _ => by rw [k]; decide) (by rw [k]; rfl) (by rw [k]; rfl)
        · by_cases z : u 58 (h' + 1) = 0
          · exact nought _ (Or.inl k) rfl e.symm z
          · refine main _ _ (u 58 h' / u 58 (h' + 1)) rfl e.symm (by rw [k]; decide) (by rw [k]; decide) (by rw [k]; decide) (by rw [k]; decide) (by rw [k]; decide) (by rw [k]; decide) (by rw [k]; decide) (fun w => absurd w z) ?_ ?_
            · rw [k]; unfold mX3_join; rw [if_neg (by decide), if_neg (by decide), if_neg (by decide), if_neg (by decide), if_pos rfl, if_neg z, nz _ _ z]
            · rw [k]; unfold mX12_worked bX12_worked_96
              rw [if_neg (by decide), if_neg (by decide), if_neg (by decide), if_neg (by decide), if_neg (by decide), if_neg z, show ∀ x : zR, z01 0 x = x from fun _ => rfl, pl_pt, zu_same, if_pos rfl, if_pos rfl, nz _ _ z, zu_self h107]
        · by_cases z : u 58 (h' + 1) = 0
          · exact nought _ (Or.inr k) rfl e.symm z
          · refine main _ _ (u 58 h' - u 58 h' / u 58 (h' + 1) * u 58 (h' + 1)) rfl e.symm (by rw [k]; decide) (by rw [k]; decide) (by rw [k]; decide) (by rw [k]; decide) (by rw [k]; decide) (by rw [k]; decide) (by rw [k]; decide) (fun w => absurd w z) ?_ ?_
            · rw [k]; unfold mX3_join; rw [if_pos rfl, if_neg z, nz _ _ z]
            · rw [k]; unfold mX12_worked bX12_worked_96
              rw [if_neg (by decide), if_neg (by decide), if_neg (by decide), if_neg (by decide), if_neg (by decide), if_neg z, show ∀ x : zR, z01 0 x = x from fun _ => rfl, pl_pt, zu_same, if_pos rfl, if_neg (by decide), nz _ _ z, zu_self h107]
        · refine main _ _ (if u 58 (h' + 1) ≤ u 58 h' then 0 else 1) rfl e.symm (by rw [k]; decide) (by rw [k]; decide) (by rw [k]; decide) (by rw [k]; decide) (by rw [k]; decide) (by rw [k]; decide) (by rw [k]; decide) (fun _ => by rw [k]; decide) ?_ ?_
          · rw [k]; unfold mX3_join; rw [if_neg (by decide), if_neg (by decide), if_neg (by decide), if_neg (by decide), if_neg (by decide), if_pos rfl]; split <;> rfl
          · rw [k]; unfold mX12_worked; rw [if_neg (by decide), if_neg (by decide), if_neg (by decide), if_pos rfl]; split <;> rfl
      · refine main _ _ (if u 58 h' = u 58 (h' + 1) then 1 else 0) rfl rfl (by rw [e]; decide) (by rw [e]; decide) (by rw [e]; decide) (by rw [e2]; decide) (by rw [e2]; decide) (by rw [e2]; decide) (by rw [e2]; decide) (fun _ => by rw [e]; decide) ?_ ?_
        · rw [e]; unfold mX3_join; rw [if_neg (by decide), if_neg (by decide), if_neg (by decide), if_neg (by decide), if_neg (by decide), if_neg (by decide)]; split <;> rfl
        · rw [e2]; unfold mX12_worked; rw [if_neg (by decide), if_neg (by decide), if_neg (by decide), if_neg (by decide), if_pos rfl]; split <;> rfl
