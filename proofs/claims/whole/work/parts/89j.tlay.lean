/-! the end of + and & -/
theorem zn_half {k : Nat} (h : k < 1000000) : Int32.ofNat (2 * k) / 2 = Int32.ofNat k := by
  apply pl_ext
  rw [Int32.toInt_div, pl_ofn (by omega), pl_ofn (by omega)]
  have e : (2 : Int32).toInt = 2 := by decide
  rw [e, Int.tdiv_eq_ediv_of_nonneg (by omega), Int.bmod_eq_of_le (by omega) (by omega)]
  omega
theorem zTB_lay {G : zTxt} {S H H2 i d : Nat} {f : Nat → Nat} {X : List Nat} {N M P A A2 q : Nat} {t u u2 : zS} (h : zTB G S H i d f X N M P A q t u) (hA : A ≤ A2) (h19 : u2 0 19 = Int32.ofNat A2) (h59 : u2 0 59 = Int32.ofNat (2 * H2)) (ga : ∀ a, a < A → u2 9 a = u 9 a ∧ u2 10 a = u 10 a) (hr : ∀ k, ¬ (k = 0 ∨ k = 9 ∨ k = 10) → u2 k = u k) (h0 : ∀ l, ¬ (l = 19 ∨ l = 59) → u2 0 l = u 0 l) : zTB G S H2 i d f X N M P A2 q t u2 := by
  obtain ⟨a1, a2, a3, ⟨b1, b2, b3, b4, b5, b6, b7⟩, c, a6⟩ := h
  refine ⟨zAt_of a1 (fun _ _ _ => rfl) rfl rfl (fun j j1 _ => h0 j (by omega)) (hr 2 (by omega)) (hr 3 (by omega)) (hr 4 (by omega)), a2, by rw [h0 10 (by omega)]; exact a3, ⟨b1, by rw [h0 14 (by omega)]; exact b2, b3, h19, b5, b6, fun c h1 h2 => ?_⟩, zAK_of c rfl (h0 52 (by omega)) rfl rfl rfl rfl rfl (hr 5 (by omega)) (hr 6 (by omega)) (hr 35 (by omega)) (hr 36 (by omega)) (hr 37 (by omega)) (hr 38 (by omega)), h59⟩
  exact zTL_ext (b7 c h1 h2) (Nat.le_refl _) (Nat.le_refl _) hA h1 (fun _ _ => rfl) (fun _ _ => rfl) rfl rfl rfl (fun _ _ _ => ⟨rfl, rfl, rfl⟩) (by rw [hr 5 (by omega)]) (by rw [hr 6 (by omega)]) (by rw [hr 7 (by omega)]) (by rw [hr 8 (by omega)]) ga
theorem zTX_lay {f f0 : Nat → Nat} {N0 M0 P0 A0 H N M P A A2 : Nat} {t0 u0 t u u2 : zS} (h : zTX f0 f N0 M0 P0 A0 H N M P A t0 u0 t u) (hA : A ≤ A2) (ga : ∀ a, a < A → u2 9 a = u 9 a ∧ u2 10 a = u 10 a) (hr : ∀ k, ¬ (k = 0 ∨ k = 9 ∨ k = 10) → u2 k = u k) (h0 : ∀ l, ¬ (l = 19 ∨ l = 59) → u2 0 l = u 0 l) : zTX f0 f N0 M0 P0 A0 H N M P A2 t0 u0 t u2 := by
  obtain ⟨a1, a2, a3, a4, a5, a6, a7, a8, a9, a10, a11, a12⟩ := h
  refine ⟨a1, a2, a3, by omega, a5, a6, a7, fun j hj => ?_, fun a ha => ?_, fun k hk => ?_, a11, zFP_trans a12 (fun k j hk => ?_)⟩
  · rw [hr 5 (by omega), hr 6 (by omega), hr 7 (by omega), hr 8 (by omega)]; exact a8 j hj
  · rw [(ga a (by omega)).1, (ga a (by omega)).2]; exact a9 a ha
  · rw [hr 39 (by omega)]; exact a10 k hk
  · by_cases e : k = 0
    · subst e
      refine h0 j (fun w => ?_)
      rcases w with w | w <;> subst w <;> cases hk
    · rw [hr k ?_]
      rintro (w | w | w) <;> subst w <;> first | exact e rfl | cases hk
theorem zTB_done {G : zTxt} {S H i d : Nat} {f : Nat → Nat} {X : List Nat} {N M P A q c : Nat} {t u : zS} (h : zTB G S H i d f (c :: X) N M P A q t u) (hc : zTL (zBk G) (zNm (zBk G)) f N P A t u c) : zTB G S H i d f X N M P A q t u := by
  obtain ⟨a1, a2, a3, ⟨b1, b2, b3, b4, b5, b6, b7⟩, c', a6⟩ := h
  refine ⟨a1, a2, a3, ⟨b1, b2, b3, b4, b5, b6, fun k h1 h2 => ?_⟩, c', a6⟩
  by_cases e : k = c
  · rw [e]; exact hc
  · exact b7 k h1 (fun w => by rcases List.mem_cons.mp w with w | w; exact e w; exact h2 w)
theorem zXE_sf {z H : Nat} {t u t2 u2 t3 : zS} (h : zXE z H t u t2 u2) (h1 : zEc t3) (h2 : zSf t2 t3) (h3 : t3 5 12 = t2 5 12) : zXE z H t u t3 u2 := by
  obtain ⟨a1, a2, a3, a4⟩ := h
  exact ⟨zEr_of a1 h1 h3 rfl, a2, zFP_trans a3 (zFP_S h2), a4⟩
theorem zXE_H {z H H1 : Nat} {t u t2 u2 : zS} (h : zXE z H1 t u t2 u2) (hH : H ≤ H1) : zXE z H t u t2 u2 := by
  obtain ⟨a1, ⟨A, H2, b1, b2, b3, b4⟩, a3, a4⟩ := h
  exact ⟨a1, ⟨A, H2, b1, b2, by omega, b4⟩, a3, a4⟩
theorem zT_addPart {t : zS} {x1 x2 x3 x4 : Int32} : ∃ r t2, mX2_addPart x1 x2 x3 x4 t = some (r, t2) ∧ zFP zpT5 t t2 := by
  unfold mX2_addPart
  obtain ⟨t1, a1, a2⟩ := pl_setF (p := zpT5) (c := 14) (n := 1600) (x := t 3 14) (v := x3) (t := t) (by decide) (fun _ => rfl)
  rw [a1, pl_bd]
  obtain ⟨t2, b1, b2⟩ := pl_setF (p := zpT5) (c := 16) (n := 1600) (x := t1 3 14) (v := x4) (t := t1) (by decide) (fun _ => rfl)
  rw [b1, pl_bd]
  obtain ⟨t3, c1, c2⟩ := pl_setF (p := zpT5) (c := 18) (n := 1600) (x := t2 3 14) (v := -1) (t := t2) (by decide) (fun _ => rfl)
  rw [c1, pl_bd]
  have fin : ∀ t4 : zS, zFP zpT5 t t4 → ∃ r t2, bX2_addPart_68 x1 t4 = some (r, t2) ∧ zFP zpT5 t t2 := by
    intro t4 h4
    unfold bX2_addPart_68
    obtain ⟨v, v1⟩ := pl_getA (c := 12) (n := 3000) (x := x1) (t := t4) (by decide)
    rw [v1, pl_bd]
    obtain ⟨t5, d1, d2⟩ := pl_setF (p := zpT5) (c := 12) (n := 3000) (x := x1) (v := v + 1) (t := t4) (by decide) (fun _ => rfl)
    rw [d1, pl_bd, pl_pt]
    exact ⟨_, _, rfl, zFP_zu (zFP_trans h4 d2) rfl⟩
  have h3 := zFP_trans a2 (zFP_trans b2 c2)
  by_cases q : 0 ≤ x2
  · rw [if_pos q]
    obtain ⟨t4, d1, d2⟩ := pl_setF (p := zpT5) (c := 18) (n := 1600) (x := x2) (v := t3 3 14) (t := t3) (by decide) (fun _ => rfl)
    rw [d1, pl_bd]
    exact fin t4 (zFP_trans h3 d2)
  · rw [if_neg q]
    obtain ⟨t4, d1, d2⟩ := pl_setF (p := zpT5) (c := 10) (n := 3000) (x := x1) (v := t3 3 14) (t := t3) (by decide) (fun _ => rfl)
    rw [d1, pl_bd]
    exact fin t4 (zFP_trans h3 d2)
/-- what the reference does behind the last alternative -/
def zFin (g : GgX12_type) (x1 x2 : Int32) (u : zS) : zR := zwr u 7 3100 x1 (u 0 19) fun a => zwr a 8 3100 x1 (((a 0 59) - x2) / 2) fun b => lX12_choices_215 g zFU x1 x2 x2 b
theorem zFin_er {g : GgX12_type} {z H m : Nat} {t u t2 u2 : zS} (h : zXE z H t u t2 u2) (hm : m < 3100) : ∃ u3, zFin g (Int32.ofNat m) (Int32.ofNat (2 * H)) u2 = some (Int32.ofNat m, u3) ∧ zXE z H t u t2 u3 := by
  obtain ⟨a1, ⟨A, H2, b1, b2, b3, b4⟩, a3, a4⟩ := h
  unfold zFin
  rw [zn_wr hm (by decide), zn_wr hm (by decide)]
  generalize hw : zu (zu u2 7 m (u2 0 19)) 8 m (((zu u2 7 m (u2 0 19) 0 59) - Int32.ofNat (2 * H)) / 2) = w
  have w0 : w 0 = u2 0 := by rw [← hw]; simp (disch := first | omega | decide | assumption) only [zu_same, zu_ne1, zu_ne2, zu_row, pl_bd, pl_pt, pl_let, zn_set, zn_get, zn_rd, zn_wr, zn_1, zn_m, Nat.reduceAdd]
  obtain ⟨u3, r1, r2, r3, r4, r5, r6, r7⟩ := pl_lay (g := g) (x1 := Int32.ofNat m) (H := H) (n := H2 - H) (A := A) (by omega) (H2 - H) 0 (zFU - (H2 - H) - 1) w (by omega) (by rw [w0, b2]; congr 1; omega) (by rw [w0]; exact b1) (by omega)
  have ef : zFU - (H2 - H) - 1 + (H2 - H) + 1 = zFU := by unfold zFU; omega
  rw [ef] at r1
  refine ⟨u3, r1, ⟨a1.1, a1.2.1, by rw [r7 9 (by omega), w0]; exact a1.2.2⟩, ⟨A + (H2 - H), H, r4, r5, Nat.le_refl _, by omega⟩, a3, zFP_trans a4 (zFP_trans (b := w) ?_ (fun k j hk => ?_))⟩
  · rw [← hw]; exact zFP_zu (zFP_zu (zFP_refl _ _) rfl) rfl
  · by_cases e : k = 0
    · subst e
      refine r7 j (fun w => ?_)
      rcases w with w | w <;> subst w <;> cases hk
    · rw [r6 k ?_]
      rintro (w | w | w) <;> subst w <;> first | exact e rfl | cases hk
