/-! the first word of a TYPE -/
def zpT5 (k j : Nat) : Bool := k == 5 || zpTC k j
theorem zFP_T5 {t t2 : zS} (h : zFP zpT5 t t2) : zFP zpTC t t2 ∧ t2 5 = t 5 :=
  ⟨zFP_mono h (fun k j q => by unfold zpT5; rw [q, Bool.or_true]), zFP_row 5 h (fun _ => rfl)⟩
theorem zEc_of {t t2 : zS} (h : zEc t) (h5 : t2 5 = t 5) : zEc t2 := by unfold zEc at *; rw [h5]; exact h
theorem zEr_c {t u : zS} (h : zEr t u) : zEc t := ⟨h.1, h.2.1⟩
theorem zEr_m {t u : zS} (h : zEr t u) : 0 ≤ u 0 9 := by rw [h.2.2]; exact h.2.1
theorem zEr_of {t u t2 u2 : zS} (h : zEr t u) (h1 : zEc t2) (h2 : t2 5 12 = t 5 12) (h3 : u2 0 9 = u 0 9) : zEr t2 u2 := ⟨h1.1, h1.2, by rw [h3, h2]; exact h.2.2⟩
theorem zT_node {t : zS} {x y : Int32} : ∃ r t2, mX2_node x y t = some (r, t2) ∧ zFP zpT5 t t2 := by
  unfold mX2_node
  obtain ⟨t1, a1, a2⟩ := pl_setF (p := zpT5) (c := 8) (n := 3000) (x := t 3 13) (v := x) (t := t) (by decide) (fun _ => rfl)
  rw [a1, pl_bd]
  obtain ⟨t2, b1, b2⟩ := pl_setF (p := zpT5) (c := 10) (n := 3000) (x := t1 3 13) (v := y) (t := t1) (by decide) (fun _ => rfl)
  rw [b1, pl_bd]
  unfold bX2_node_43
  by_cases hx : x < 8
  · rw [if_pos hx]
    obtain ⟨t3, c1, c2⟩ := pl_setF (p := zpT5) (c := 12) (n := 3000) (x := t2 3 13) (v := -1) (t := t2) (by decide) (fun _ => rfl)
    rw [c1, pl_bd, pl_pt]
    exact ⟨_, _, rfl, zFP_zu (zFP_trans a2 (zFP_trans b2 c2)) rfl⟩
  · rw [if_neg hx]
    obtain ⟨t3, c1, c2⟩ := pl_setF (p := zpT5) (c := 12) (n := 3000) (x := t2 3 13) (v := 0) (t := t2) (by decide) (fun _ => rfl)
    rw [c1, pl_bd, pl_pt]
    exact ⟨_, _, rfl, zFP_zu (zFP_trans a2 (zFP_trans b2 c2)) rfl⟩
/-- half of a node that goes on -/
def zHp (f : Nat → Nat) (N : Nat) (t u : zS) (c : Nat) : Prop := ((t 9 c = 4 ∧ u 5 (f c) = 3) ∨ (t 9 c = 5 ∧ u 5 (f c) = 4)) ∨ (((t 9 c = 6 ∧ u 5 (f c) = 5) ∨ (t 9 c = 7 ∧ u 5 (f c) = 6)) ∧ zCh f N (t 11 c) (u 7 (f c)))
def zHok (G : zTxt) (z y p S H i d : Nat) (f : Nat → Nat) (X : List Nat) (N M P A : Nat) (t u t2 u2 : zS) (rc rm more : Int32) : Prop := ∃ i2 f2 N2 M2 P2 A2 q2 c, i < i2 ∧ zTX f f2 N M P A H N2 M2 P2 A2 t u t2 u2 ∧ N ≤ c ∧ c < N2 ∧ rc = Int32.ofNat c ∧ rm = Int32.ofNat (f2 c) ∧ 2 * A2 + 2 * H + z ≤ i2 ∧
  ((more = 0 ∧ zTS G z y p S H i2 d f2 X N2 M2 P2 A2 q2 t2 u2 ∧ 2 * q2 ≤ i2 + 1 ∧ (t2 9 c = 0 ∨ t2 9 c = 2 ∨ t2 9 c = 3 ∨ t2 9 c = 8 ∨ t2 9 c = 9)) ∨
   (more = 1 ∧ i + 2 ≤ i2 ∧ zTS G z y p S H i2 d f2 (c :: X) N2 M2 P2 A2 q2 t2 u2 ∧ 2 * q2 ≤ i2 ∧ zHp f2 N2 t2 u2 c))
/-- readers of a whole TYPE -/
def zPF (d : Nat) (fc fm : zS → zR) : Prop := ∀ (G : zTxt) (z y p S H i : Nat) (f : Nat → Nat) (X : List Nat) (N M P A q : Nat) (t u : zS), zTS G z y p S H i d f X N M P A q t u → 2 * q ≤ i → ∃ r t2 r' u2, fc t = some (r, t2) ∧ fm u = some (r', u2) ∧
  ((∃ i2 f2 N2 M2 P2 A2 q2 c, i < i2 ∧ zTX f f2 N M P A H N2 M2 P2 A2 t u t2 u2 ∧ zTS G z y p S H i2 d f2 X N2 M2 P2 A2 q2 t2 u2 ∧ 2 * A2 + 2 * H + z ≤ i2 ∧ 2 * q2 ≤ i2 + 1 ∧ c < N2 ∧ r = Int32.ofNat c ∧ r' = Int32.ofNat (f2 c)) ∨ zXE z H t u t2 u2)
/-- what the reference's loop does with a first word -/
def zHb (G : zTxt) (z y p S H i d : Nat) (f : Nat → Nat) (X : List Nat) (N M P A : Nat) (t u t2 : zS) (rc : Int32) (g : GgX12_type) (k6 : Int32 → Int32 → Int32 → zS → zR) (x1 x2 : Int32) (b : zR) : Prop :=
  (∃ rm more u2, b = bX12_type_306 g k6 x1 x2 more rm u2 ∧ zHok G z y p S H i d f X N M P A t u t2 u2 rc rm more) ∨
  (∃ rm u2, b = some (rm, u2) ∧ zXE z H t u t2 u2) ∨
  (∃ rm more u2, b = bX12_type_306 g k6 x1 x2 more rm u2 ∧ zXE z H t u t2 u2)
theorem zHp_new {f : Nat → Nat} {N M N2 : Nat} {t u : zS} {x b : Int32} (hx : (x = 4 ∧ u 5 M = 3) ∨ (x = 5 ∧ u 5 M = 4)) : zHp (zup f N M) N2 (zcn t N x (-1) b) u N := by
  unfold zHp
  rw [zup_at, zcn_at.1]
  exact Or.inl hx
/-- ( ) is closed: what stood there is laid down -/
theorem zTB_setOf {G : zTxt} {S H i d k : Nat} (hk : k = 7 ∨ k = 8) {f : Nat → Nat} {X : List Nat} {N M P A q m : Nat} {t u : zS} {v : Int32} (h : zTB G S H i d f X N M P A q t u) (hfr : ∀ c, c < N → ¬ c ∈ X → ¬ f c = m) : zTB G S H i d f X N M P A q t (zu u k m v) := by
  obtain ⟨a1, a2, a3, ⟨b1, b2, b3, b4, b5, b6, b7⟩, c, a6⟩ := h
  refine ⟨zAt_of a1 (fun _ _ _ => rfl) rfl rfl (fun j _ _ => zu_ne1 (by omega)) (zu_row (by omega)) (zu_row (by omega)) (zu_row (by omega)), a2, by rw [zu_ne1 (by omega)]; exact a3, ⟨b1, by rw [zu_ne1 (by omega)]; exact b2, b3, by rw [zu_ne1 (by omega)]; exact b4, b5, b6, fun c h1 h2 => ?_⟩, zAK_of c rfl (zu_ne1 (by omega)) rfl rfl rfl rfl rfl (zu_row (by omega)) (zu_row (by omega)) (zu_row (by omega)) (zu_row (by omega)) (zu_row (by omega)) (zu_row (by omega)), by rw [zu_ne1 (by omega)]; exact a6⟩
  have := hfr c h1 h2
  exact zTL_ext (b7 c h1 h2) (Nat.le_refl _) (Nat.le_refl _) (Nat.le_refl _) h1 (fun _ _ => rfl) (fun _ _ => rfl) rfl rfl rfl (fun _ _ _ => ⟨rfl, rfl, rfl⟩) (zu_ne1 (by omega)) (zu_ne1 (by omega)) (zu_ne2 this) (zu_ne2 this) (fun a _ => ⟨zu_ne1 (by omega), zu_ne1 (by omega)⟩)
theorem zTX_setOf {k : Nat} (hk : k = 7 ∨ k = 8) {f f0 : Nat → Nat} {N0 M0 P0 A0 H N M P A m : Nat} {t0 u0 t u : zS} {v : Int32} (h : zTX f0 f N0 M0 P0 A0 H N M P A t0 u0 t u) (hm : M0 ≤ m) : zTX f0 f N0 M0 P0 A0 H N M P A t0 u0 t (zu u k m v) := by
  obtain ⟨a1, a2, a3, a4, a5, a6, a7, a8, a9, a10, a11, a12⟩ := h
  refine ⟨a1, a2, a3, a4, a5, a6, a7, fun j hj => ?_, fun a ha => ?_, fun j hj => ?_, a11, zFP_zu a12 (by rcases hk with e | e <;> subst e <;> rfl)⟩
  · rw [zu_ne1 (by omega), zu_ne1 (by omega), zu_ne2 (by omega), zu_ne2 (by omega)]; exact a8 j hj
  · rw [zu_ne1 (by omega), zu_ne1 (by omega)]; exact a9 a ha
  · rw [zu_ne1 (by omega)]; exact a10 j hj
theorem zXE_more {z H : Nat} {t u t2 u2 t3 u3 : zS} (h : zXE z H t u t2 u2) (h5 : zFP zpT5 t2 t3) (hu : u3 0 = u2 0) (hm : zFP zpTM u2 u3) : zXE z H t u t3 u3 := by
  obtain ⟨a1, a2, a3, a4⟩ := h
  obtain ⟨b1, b2⟩ := zFP_T5 h5
  refine ⟨zEr_of a1 (zEc_of (zEr_c a1) b2) (by rw [b2]) (by rw [hu]), ?_, zFP_trans a3 b1, zFP_trans a4 hm⟩
  rw [hu]; exact a2
theorem zXE_er {z H : Nat} {t u t2 u2 t3 : zS} (h : zXE z H t u t2 u2) (h1 : zEc t3) (h2 : zSf t2 t3) (h3 : t3 5 12 = t2 5 12) : zXE z H t u t3 (zu u2 0 5 0) := by
  obtain ⟨a1, a2, a3, a4⟩ := h
  refine ⟨zEr_of a1 h1 h3 (zu_ne2 (by decide)), ?_, zFP_trans a3 (zFP_S h2), zFP_zu a4 rfl⟩
  rw [zu_ne2 (by decide), zu_ne2 (by decide)]; exact a2
theorem zMsg {gC : GgX7_readForm} {gM : GgX12_type} {k6 : Int32 → Int32 → Int32 → zS → zR} {x1 x2 sd ch a4 a6 b3 b5 : Int32} {G : zTxt} {z y p S H i d : Nat} {f : Nat → Nat} {X : List Nat} {N M P A q : Nat} {t u : zS} (h : zTS G z y p S H i d f X N M P A q t u) (hq : 2 * q ≤ i) (hd : d ≤ 40) (hF : d < 40 → zPF (d + 1) gC.1 gM.1)
    (hs : (sd = 0 ∧ ch = 33 ∧ a4 = 4 ∧ a6 = 6 ∧ b3 = 3 ∧ b5 = 5) ∨ (sd = 1 ∧ ch = 63 ∧ a4 = 5 ∧ a6 = 7 ∧ b3 = 4 ∧ b5 = 6)) (h9 : t 5 9 = ch) : ∃ rc t2, mX7_readMessage gC sd t = some (rc, t2) ∧ zHb G z y p S H i d f X N M P A t u t2 rc gM k6 x1 x2 (bX12_type_43 gM k6 x1 x2 1 u) := by
  have hl := zAt_lt h.1.1
  have hsg := zAt_sg h.1.1 (show (33 : Int32) ∈ zSgs by decide)
  obtain ⟨t1, u1, r1, r2, h1b, x1', v9, v13, _⟩ := zTB_step h.1 (by rw [h9]; rcases hs with e | e <;> rw [e.2.1] <;> decide)
  have n5 := h.2.2.2.2.2
  have n1 := h.2.1
  have n2 := h.2.2.1
  have n3 := h.2.2.2.1
  have n4 := h.2.2.2.2.1
  have h1 : zTS G z y p S H (i + 1) d f X N M P A q t1 u1 := ⟨h1b, by omega, by omega, by omega, by omega, by rw [v9, v13]; omega⟩
  have hl1 := zAt_lt h1.1.1
  have eM : bX12_type_43 gM k6 x1 x2 1 u = zbd (mX12_isKey 16 u1) fun r u3 => if r = 0 then bX12_type_106 gM k6 x1 x2 1 b5 u3 else zbd (mX12_next u3) fun _ u4 => bX12_type_84 gM k6 x1 x2 1 b3 u4 := by
    unfold bX12_type_43
    rw [if_neg pl_10, hsg, pl_bd, r2, pl_bd, h9]
    have c2 : (if (63 : Int32) = 33 then (1 : Int32) else 0) = 0 := by decide
    rcases hs with e | e
    · rw [e.2.1, e.2.2.2.2.1, e.2.2.2.2.2]
      simp only [if_true, pl_10, if_false]
    · rw [e.2.1, e.2.2.2.2.1, e.2.2.2.2.2]
      simp only [c2, if_true]
  have hky : mX12_isKey 16 u1 = some ((if t1 5 9 = 15 then 1 else 0), u1) := zAt_ky h1.1.1 (k := 15) (by decide)
  have e4 : 4 + sd = a4 := by rcases hs with e | e <;> rw [e.1, e.2.2.1] <;> decide
  have e6 : 6 + sd = a6 := by rcases hs with e | e <;> rw [e.1, e.2.2.2.1] <;> decide
  have k4 : a4 = 4 ∨ a4 = 5 := by rcases hs with e | e <;> rw [e.2.2.1] <;> decide
  have k6' : a6 = 6 ∨ a6 = 7 := by rcases hs with e | e <;> rw [e.2.2.2.1] <;> decide
  have l4 : (if a4 < 8 then (-1 : Int32) else 0) = -1 := by rcases k4 with e | e <;> rw [e] <;> decide
  have l6 : (if a6 < 8 then (-1 : Int32) else 0) = -1 := by rcases k6' with e | e <;> rw [e] <;> decide
  have n4' : ¬ (a4 = 2 ∨ a4 = 3) := by rcases k4 with e | e <;> rw [e] <;> decide
  have n6' : ¬ (a6 = 2 ∨ a6 = 3) := by rcases k6' with e | e <;> rw [e] <;> decide
  have n64 : ¬ (a6 = 4 ∨ a6 = 5) := by rcases k6' with e | e <;> rw [e] <;> decide
  rw [eM, hky, pl_bd]
  unfold mX7_readMessage
  rw [r1, pl_bd]
  by_cases q15 : t1 5 9 = 15
  · rw [if_pos q15, if_pos q15, if_neg pl_10]
    obtain ⟨t2, u2, s1, s2, h2, x2', w9, w13, _⟩ := zTB_step h1.1 (by rw [q15]; decide)
    have hl2 := zAt_lt h2.1
    have c13 := h2.2.2.2.1.1
    have m14 := h2.2.2.2.1.2.1
    have xx := zTX_trans x1' x2' (Nat.le_refl _)
    rw [s1, pl_bd, s2, pl_bd, zc_nd c13 (by omega), pl_bd]
    unfold bX12_type_84 bX12_type_149
    rw [zm_nd m14 (by omega), pl_bd, e4, l4]
    have b5' := h2.2.2.2.1.2.2.2.2.1
    have hB := zTB_addC (X2 := N :: X) (x := a4) (y := -1) (b := -1) (zTB_addM (x := b3) (y := -1) (z := -1) h2) (by omega) (Nat.lt_succ_self M) (fun c hc => by have := b5' c hc; omega) (fun c hc => List.mem_cons_of_mem _ hc) (fun e => absurd e n4') (fun w => absurd List.mem_cons_self w)
    refine ⟨_, _, rfl, Or.inl ⟨_, _, _, rfl, i + 2, zup f N M, N + 1, M + 1, P, A, q, N, by omega, zTX_addC (zTX_addM xx) (by omega) (Nat.le_refl _), Nat.le_refl _, by omega, rfl, by rw [zup_at], by omega, Or.inr ⟨rfl, by omega, ⟨hB, by omega, by omega, by omega, by omega, ?_⟩, by omega, ?_⟩⟩⟩
    · rw [zW_add, if_pos k4, w9, w13, v9, v13]
      omega
    · refine zHp_new ?_
      rw [zmn_at.1]
      rcases hs with e | e
      · exact Or.inl ⟨e.2.2.1, e.2.2.2.2.1⟩
      · exact Or.inr ⟨e.2.2.1, e.2.2.2.2.1⟩
  · rw [if_neg q15, if_neg q15, if_pos rfl]
    unfold bX12_type_106
    rw [zm_nd h1.1.2.2.2.1.2.1 (by omega), pl_bd]
    have h1' : zTS G z y p S H (i + 1) d f X N (M + 1) P A q t1 (zmn u1 M b5 (-1) (-1)) := ⟨zTB_addM h1.1, by omega, by omega, by omega, by omega, by rw [v9, v13]; omega⟩
    have xx1 : zTX f f N M P A H N (M + 1) P A t u t1 (zmn u1 M b5 (-1) (-1)) := zTX_addM x1'
    rw [zAt_sg h1'.1.1 (c := 40) (by decide), pl_bd]
    obtain ⟨t2, r, u2, s1, s2, s3⟩ := zTS_enter h1' hd (c := 40) (by decide)
    rw [s1, pl_bd, s2, pl_bd]
    rcases s3 with ⟨rfl, s4, s5, s6⟩ | ⟨rfl, s4⟩
    · rw [if_neg pl_10, if_neg pl_10]
      have xx2 := zTX_trans xx1 s6 (Nat.le_refl _)
      have s7 : zTS G z (y + 2) p S H (i + 1 + 1) (d + 1) f X N (M + 1) P A q t2 u2 := ⟨s5.1, s5.2.1, s5.2.2.1, s5.2.2.2.1, s5.2.2.2.2.1, by
        rw [zW_congr (K := t 9) (H := t 13) N (fun c hc => ⟨(xx2.2.2.2.2.1 c hc).2.1, fun _ => (xx2.2.2.2.2.1 c hc).2.2.2⟩)]
        omega⟩
      obtain ⟨r, t3, r', u3, p1, p2, p3⟩ := hF s4 _ _ _ _ _ _ _ _ _ _ _ _ _ _ _ _ s7 (by omega)
      rw [p1, pl_bd, p2, pl_bd]
      rcases p3 with ⟨i2, f2, N2, M2, P2, A2, q2, c, o1, o2, o3, o4, o5, o6, rfl, rfl⟩ | e
      · obtain ⟨t4, u4, w1, w2, w3⟩ := zTS_leave o3 hd (c := 41) (by decide)
        rw [w1, pl_bd, w2, pl_bd, zn_wr (by omega) (by decide)]
        have xx3 := zTX_trans xx2 o2 (Nat.le_refl _)
        rcases w3 with ⟨w4, w5⟩ | w4
        · have xx4 := zTX_trans xx3 w5 (Nat.le_refl _)
          have hl4 := zAt_lt w4.1.1
          have hN2 := o3.2.1
          have hM2 : M + 1 ≤ M2 := o2.2.1
          have hN3 : N ≤ N2 := o2.1
          rw [zc_nd w4.1.2.2.2.1.1 (by omega), pl_bd, e6, l6]
          have hfr : ∀ c, c < N2 → ¬ f2 c = M := fun c hc => by
            rcases Nat.lt_or_ge c N with g | g
            · rw [(o2.2.2.2.2.1 c g).1]
              have := h1.1.2.2.2.1.2.2.2.2.1 c g
              omega
            · have := o2.2.2.2.2.2.1 c g hc
              omega
          have hB := zTB_addC (X2 := N2 :: X) (x := a6) (y := Int32.ofNat c) (b := -1) (zTB_setOf (k := 7) (Or.inl rfl) (v := Int32.ofNat (f2 c)) w4.1 (fun c hc _ => hfr c hc)) (by omega) hM2 hfr (fun c hc => List.mem_cons_of_mem _ hc) (fun e => absurd e n6') (fun w => absurd List.mem_cons_self w)
          have y5 : u4 5 M = b5 := by
            have y := (zTX_trans (zTX_trans s6 o2 (Nat.le_refl _)) w5 (Nat.le_refl _)).2.2.2.2.2.2.2.1 M (by omega)
            rw [y.1, zmn_at.1]
          have hW4 := w4.2.2.2.2.2
          have hW3 := o3.2.2.2.2.2
          refine ⟨_, _, rfl, Or.inl ⟨_, _, _, rfl, i2 + 1, zup f2 N2 M, N2 + 1, M2, P2, A2, q2, N2, by omega, zTX_addC (zTX_setOf (Or.inl rfl) xx4 (Nat.le_refl _)) (by omega) (Nat.le_refl _), by omega, by omega, rfl, by rw [zup_at], by omega, Or.inr ⟨rfl, by omega, ⟨hB, by omega, by have := o3.2.2.1; omega, by have := o3.2.2.2.1; omega, by omega, ?_⟩, by omega, ?_⟩⟩⟩
          · rw [zW_add, if_neg n64, if_pos k6']
            omega
          · unfold zHp
            rw [zup_at, zcn_at.1, zcn_at.2.1, zu_ne1 (by decide), zu_same, y5]
            refine Or.inr ⟨?_, c, by omega, rfl, by rw [zup_ne (by omega)]⟩
            rcases hs with e | e
            · exact Or.inl ⟨e.2.2.2.1, e.2.2.2.2.2⟩
            · exact Or.inr ⟨e.2.2.2.1, e.2.2.2.2.2⟩
        · obtain ⟨rn, t5, g1, g2⟩ := zT_node (t := t4) (x := 6 + sd) (y := Int32.ofNat c)
          rw [g1, pl_bd]
          exact ⟨_, _, rfl, Or.inr (Or.inr ⟨_, _, _, rfl, zXE_more (zXE_pre w4 (zTX_C xx3) (zTX_M xx3)) g2 (zu_row (by decide)) (zFP_zu (zFP_refl _ _) rfl)⟩)⟩
      · obtain ⟨t4, g1, g2, g3, g4⟩ := zEc_leave (c := 41) (zEr_c e.1) (by decide)
        obtain ⟨rn, t5, g5, g6⟩ := zT_node (t := t4) (x := 6 + sd) (y := r)
        rw [g1, pl_bd, g5, pl_bd, zEm_closes (zEr_m e.1), pl_bd, zn_wr (by omega) (by decide)]
        exact ⟨_, _, rfl, Or.inr (Or.inr ⟨_, _, _, rfl, zXE_more (zXE_er (zXE_pre e (zTX_C xx2) (zTX_M xx2)) g2 g3 g4) g6 (zu_row (by decide)) (zFP_zu (zFP_refl _ _) rfl)⟩)⟩
    · rw [if_pos rfl, if_pos rfl]
      exact ⟨_, _, rfl, Or.inr (Or.inl ⟨_, _, rfl, zXE_pre s4 (zTX_C xx1) (zTX_M xx1)⟩)⟩
