/-! TYPES in lockstep: closed -/
def zFS (G : zTxt) (z y p S H i d : Nat) (f : Nat → Nat) (X : List Nat) (N0 M0 N M P A q : Nat) (x1 x2 y1 y2 : Int32) (t u : zS) : Prop :=
  (x1 = -1 ∧ x2 = -1 ∧ y1 = -1 ∧ y2 = -1 ∧ zTS G z y p S H i d f X N M P A q t u) ∨
  (∃ c l, x1 = Int32.ofNat c ∧ x2 = Int32.ofNat l ∧ y1 = Int32.ofNat (f c) ∧ y2 = Int32.ofNat (f l) ∧ c < N ∧ l < N ∧ N0 ≤ l ∧ M0 ≤ f l ∧ zHp f N t u l ∧ zTS G z y p S H i d f (l :: X) N M P A q t u)
theorem zFormL {gC g1 g2 : GgX7_readForm} {gM m2 : GgX12_type} {G : zTxt} {z y p S H d : Nat} {f0 : Nat → Nat} {X : List Nat} {N0 M0 P0 A0 : Nat} {t0 u0 : zS} (hd : d ≤ 40) (hF : d < 40 → zPF (d + 1) g2.1 gM.1) (hF2 : d < 40 → zPF (d + 1) g2.1 m2.1) (e0 : gC.2.1 = mX7_readHead g1) (e1 : g1.2.2.1 = mX7_readMessage g2) (e2 : g1.2.2.2 = mX7_readChoice g2) (e3 : gM.2 = mX12_choices m2) :
    ∀ (k i fc fm n : Nat) (f : Nat → Nat) (N M P A q : Nat) (x1 x2 y1 y2 : Int32) (t u : zS), 3001 ≤ k + i → zTX f0 f N0 M0 P0 A0 H N M P A t0 u0 t u → zFS G z y p S H i d f X N0 M0 N M P A q x1 x2 y1 y2 t u → 2 * q ≤ i → 2 * n ≤ i →
    ∃ r t2 r' u2, lX7_readForm_6 gC (fc + k + 1) x1 x2 (Int32.ofNat n) t = some (r, t2) ∧ lX12_type_6 gM (fm + k + 2) y1 y2 1 u = some (r', u2) ∧
      ((∃ i2 f2 N2 M2 P2 A2 q2 c, i < i2 ∧ zTX f0 f2 N0 M0 P0 A0 H N2 M2 P2 A2 t0 u0 t2 u2 ∧ zTS G z y p S H i2 d f2 X N2 M2 P2 A2 q2 t2 u2 ∧ 2 * A2 + 2 * H + z ≤ i2 ∧ 2 * q2 ≤ i2 + 1 ∧ c < N2 ∧ r = Int32.ofNat c ∧ r' = Int32.ofNat (f2 c)) ∨ zXE z H t0 u0 t2 u2) := by
  intro k
  induction k with
  | zero =>
    intro i fc fm n f N M P A q x1 x2 y1 y2 t u hk xx h
    have : i ≤ 3000 := by
      rcases h with ⟨_, _, _, _, h⟩ | ⟨c, l, _, _, _, _, _, _, _, _, _, h⟩
      · exact zAt_lt h.1.1
      · exact zAt_lt h.1.1
    omega
  | succ k ih =>
    intro i fc fm n f N M P A q x1 x2 y1 y2 t u hk xx h hq hn
    obtain ⟨X2, hS⟩ : ∃ X2, zTS G z y p S H i d f X2 N M P A q t u := by
      rcases h with ⟨_, _, _, _, h⟩ | ⟨c, l, _, _, _, _, _, _, _, _, _, h⟩
      · exact ⟨_, h⟩
      · exact ⟨_, h⟩
    have hl := zAt_lt hS.1.1
    have hm1 := zAt_m1 hS.1.1
    have hy2 : y2 = -1 ∨ ∃ m, y2 = Int32.ofNat m ∧ m < 3100 := by
      rcases h with ⟨_, _, _, h, _⟩ | ⟨c, l, _, _, _, h, _, h2, _, _, _, h3⟩
      · exact Or.inl h
      · have := h3.1.2.2.2.1.2.2.2.2.1 l h2
        have := h3.2.2.1
        exact Or.inr ⟨f l, h, by omega⟩
    show ∃ r t2 r' u2, bX7_readForm_6 gC (lX7_readForm_6 gC (fc + k + 1)) x1 x2 (Int32.ofNat n) t = some (r, t2) ∧ bX12_type_6 gM (lX12_type_6 gM (fm + k + 2)) y1 y2 1 u = some (r', u2) ∧ _
    unfold bX7_readForm_6
    rw [if_neg (show ¬ (3000 : Int32) ≤ Int32.ofNat n from fun w => by have := (zn_le (a := 3000) (by decide) (by omega)).mp w; omega), if_neg (by rw [hm1.1]; decide), e0]
    have fin : ∀ (t2 : zS) (u2 : zS) (rc rm more : Int32), zXE z H t u t2 u2 → ∃ r t3 r' u3, (if 0 ≤ x2 then zbd (mX2_follow x2 rc t2) fun _ t3 => bX7_readForm_46 gC (lX7_readForm_6 gC (fc + k + 1)) x1 (Int32.ofNat n) rc t3 else bX7_readForm_46 gC (lX7_readForm_6 gC (fc + k + 1)) rc (Int32.ofNat n) rc t2) = some (r, t3) ∧ bX12_type_306 gM (lX12_type_6 gM (fm + k + 2)) y1 y2 more rm u2 = some (r', u3) ∧ zXE z H t0 u0 t3 u3 ∧ zXE z H t0 u0 t3 u2 := by
      intro t2 u2 rc rm more hE
      obtain ⟨r, t3, a1, a2⟩ := zFE (gC := gC) (F := fc + k) (x1 := x1) (x2 := x2) (x3 := Int32.ofNat n) (r := rc) (zEr_c hE.1)
      obtain ⟨r', u3, b1, b2, b3⟩ := zFM (gM := gM) (F := fm + k + 1) (y1 := y1) (more := more) (rm := rm) (zEr_m hE.1) hy2
      have hE2 := zXE_pre hE (zTX_C xx) (zTX_M xx)
      exact ⟨r, t3, r', u3, a1, b1, zXE_more hE2 a2 b2 b3, zXE_more hE2 a2 rfl (zFP_refl _ _)⟩
    rcases h with ⟨w1, w2, w3, w4, h⟩ | ⟨c1, l, w1, w2, w3, w4, w5, w6, w7, w8, w9, h⟩
    · obtain ⟨rc, t2, a1, a2⟩ := zHead (gC := g1) (g2 := g2) (gM := gM) (m2 := m2) (k6 := lX12_type_6 gM (fm + k + 2)) (x1 := y1) (x2 := y2) h hq hd hF hF2 e1 e2 e3
      rw [a1, pl_bd]
      rcases a2 with ⟨rm, more, u2, b1, i2, f2, N2, M2, P2, A2, q2, c, o1, o2, o3, o4, o5, o6, o7, o8⟩ | ⟨rm, u2, b1, b2⟩ | ⟨rm, more, u2, b1, b2⟩
      · rw [b1, w2, if_neg zn_m1]
        have xx2 := zTX_trans xx o2 (Nat.le_refl _)
        unfold bX7_readForm_46 bX12_type_306 bX12_type_318 bX12_type_328
        rw [w4, if_pos (by decide), w3, if_neg zn_m1, o5]
        rcases o8 with ⟨p1, p2, p3, p4⟩ | ⟨p1, p2, p3, p4, p5⟩
        · have := p2.2.1
          have := zAt_lt p2.1.1
          rw [zGo (by omega) p4, pl_bd, if_pos rfl, p1]
          refine ⟨_, _, _, _, rfl, rfl, Or.inl ⟨i2, f2, N2, M2, P2, A2, q2, c, o1, xx2, p2, o7, p3, o4, rfl, o6⟩⟩
        · have hN2 := p3.2.1
          have hl2 := zAt_lt p3.1.1
          rw [zGo1 (by omega) (zHp_k p5), pl_bd, if_neg pl_10, pl_let, zn_1, p1]
          have hM2 : M0 ≤ f2 c := xx2.2.2.2.2.2.1 c (by have := xx.1; omega) o4
          obtain ⟨r, t3, r', u3, d1, d2, d3⟩ := ih i2 fc fm (n + 1) f2 N2 M2 P2 A2 q2 (Int32.ofNat c) (Int32.ofNat c) rm rm t2 u2 (by omega) xx2 (Or.inr ⟨c, c, rfl, rfl, o6, o6, o4, o4, by have := xx.1; omega, hM2, p5, p3⟩) p4 (by omega)
          refine ⟨r, t3, r', u3, d1, d2, ?_⟩
          rcases d3 with ⟨i3, f3, N3, M3, P3, A3, q3, c3, d3, d4⟩ | d3
          · exact Or.inl ⟨i3, f3, N3, M3, P3, A3, q3, c3, by omega, d4⟩
          · exact Or.inr d3
      · obtain ⟨r, t3, r', u3, c1, c2, c3, c4⟩ := fin t2 u2 rc rm 0 b2
        exact ⟨r, t3, _, _, c1, b1, Or.inr c4⟩
      · obtain ⟨r, t3, r', u3, c1, c2, c3, c4⟩ := fin t2 u2 rc rm more b2
        exact ⟨r, t3, _, _, c1, b1.trans c2, Or.inr c3⟩
    · obtain ⟨rc, t2, a1, a2⟩ := zHead (gC := g1) (g2 := g2) (gM := gM) (m2 := m2) (k6 := lX12_type_6 gM (fm + k + 2)) (x1 := y1) (x2 := y2) h hq hd hF hF2 e1 e2 e3
      rw [a1, pl_bd]
      rcases a2 with ⟨rm, more, u2, b1, i2, f2, N2, M2, P2, A2, q2, c, o1, o2, o3, o4, o5, o6, o7, o8⟩ | ⟨rm, u2, b1, b2⟩ | ⟨rm, more, u2, b1, b2⟩
      · have xx2 := zTX_trans xx o2 (Nat.le_refl _)
        have hNN := o2.1
        have hc1 := o2.2.2.2.2.1 c1 w5
        have hcl := o2.2.2.2.2.1 l w6
        have hml := o2.2.2.2.2.2.2.2.1 (f l) (h.1.2.2.2.1.2.2.2.2.1 l w6)
        have hfl : f2 l = f l := hcl.1
        have hp2 : zHp f2 N2 t2 u2 l := zHp_ext w9 hNN (fun c hc => (o2.2.2.2.2.1 c hc).1) w6 hcl.2.1 hcl.2.2.1 hml.1 hml.2.2.1
        have hxl := zTX_link (l := l) (m := f2 l) (x := Int32.ofNat c) (y := Int32.ofNat (f2 c)) xx2 w7 (by rw [hfl]; exact w8)
        have hM2 : M0 ≤ f2 c := xx2.2.2.2.2.2.1 c (by have := xx.1; omega) o4
        have hlN : l < 3000 := by have := h.2.1; omega
        have hfl2 : f l < 3100 := by
          have := h.1.2.2.2.1.2.2.2.2.1 l w6
          have := h.2.2.1
          omega
        unfold mX2_follow
        rw [b1, w2, if_pos (zn_0le (by omega)), zn_set hlN (by decide), pl_bd, pl_bd]
        unfold bX7_readForm_46 bX12_type_306 bX12_type_318 bX12_type_328
        rw [w4, if_neg (zn_neg (by omega)), zn_wr hfl2 (by decide), w3, if_pos (zn_0le (by have := h.1.2.2.2.1.2.2.2.2.1 c1 w5; have := h.2.2.1; omega)), o5, o6]
        rw [hfl] at hxl
        have k9 : zu t2 (12 + 1) l (Int32.ofNat c) 9 = t2 9 := zu_row (by decide)
        rcases o8 with ⟨p1, p2, p3, p4⟩ | ⟨p1, p2, p3, p4, p5⟩
        · have hN2 := p2.2.1
          have hl2 := zAt_lt p2.1.1
          rw [zGo (by omega) (by rw [k9]; exact p4), pl_bd, if_pos rfl, p1]
          have hB := zTB_link (X2 := X) (l := l) (c := c) p2.1 hp2 (by omega) o4 (fun k hk => by
            by_cases e : k = l
            · exact Or.inl e
            · exact Or.inr (fun w => by rcases List.mem_cons.mp w with w | w; exact e w; exact hk w))
          rw [hfl] at hB
          refine ⟨_, _, _, _, rfl, rfl, Or.inl ⟨i2, f2, N2, M2, P2, A2, q2, c1, o1, hxl, ⟨hB, p2.2.1, p2.2.2.1, p2.2.2.2.1, p2.2.2.2.2.1, ?_⟩, o7, p3, by omega, w1, by rw [hc1.1]⟩⟩
          rw [zW_congr (K := t2 9) (H := t2 13) N2 (fun c' _ => ⟨by rw [zu_ne1 (by decide)], fun w => zu_ne2 (fun e => ?_)⟩)]
          · exact p2.2.2.2.2.2
          · rw [e] at w
            rcases zHp_k hp2 with g | g | g | g <;> rw [g] at w <;> revert w <;> decide
        · have hN2 := p3.2.1
          have hl2 := zAt_lt p3.1.1
          rw [zGo1 (by omega) (by rw [k9]; exact zHp_k p5), pl_bd, if_neg pl_10, pl_let, zn_1, p1]
          have hB := zTB_link (X2 := c :: X) (l := l) (c := c) p3.1 hp2 (by omega) o4 (fun k hk => by
            by_cases e : k = l
            · exact Or.inl e
            · refine Or.inr (fun w => hk ?_)
              rcases List.mem_cons.mp w with w | w
              · rw [w]; exact List.mem_cons_self
              · rcases List.mem_cons.mp w with w | w
                · exact absurd w e
                · exact List.mem_cons_of_mem _ w)
          rw [hfl] at hB
          have hp3 : zHp f2 N2 (zu t2 13 l (Int32.ofNat c)) (zu u2 6 (f l) (Int32.ofNat (f2 c))) c := zHp_ext p5 (Nat.le_refl _) (fun _ _ => rfl) o4 (zu_ne1 (by decide)) (zu_ne1 (by decide)) (zu_ne1 (by decide)) (zu_ne1 (by decide))
          obtain ⟨r, t3, r', u3, d1, d2, d3⟩ := ih i2 fc fm (n + 1) f2 N2 M2 P2 A2 q2 (Int32.ofNat c1) (Int32.ofNat c) (Int32.ofNat (f2 c1)) (Int32.ofNat (f2 c)) _ _ (by omega) hxl (Or.inr ⟨c1, c, rfl, rfl, rfl, rfl, by omega, o4, by have := xx.1; omega, hM2, hp3, ⟨hB, p3.2.1, p3.2.2.1, p3.2.2.2.1, p3.2.2.2.2.1, by
            rw [zW_congr (K := t2 9) (H := t2 13) N2 (fun c' _ => ⟨by rw [zu_ne1 (by decide)], fun w => zu_ne2 (fun e => by
              rw [e] at w
              rcases zHp_k hp2 with g | g | g | g <;> rw [g] at w <;> revert w <;> decide)⟩)]
            exact p3.2.2.2.2.2⟩⟩) p4 (by omega)
          rw [hc1.1] at d2
          refine ⟨r, t3, r', u3, by rw [w1]; exact d1, d2, ?_⟩
          rcases d3 with ⟨i3, f3, N3, M3, P3, A3, q3, c3, d3, d4⟩ | d3
          · exact Or.inl ⟨i3, f3, N3, M3, P3, A3, q3, c3, by omega, d4⟩
          · exact Or.inr d3
      · obtain ⟨r, t3, r', u3, c1, c2, c3, c4⟩ := fin t2 u2 rc rm 0 b2
        exact ⟨r, t3, _, _, c1, b1, Or.inr c4⟩
      · obtain ⟨r, t3, r', u3, c1, c2, c3, c4⟩ := fin t2 u2 rc rm more b2
        exact ⟨r, t3, _, _, c1, b1.trans c2, Or.inr c3⟩
theorem zForm_all : ∀ (n d l m : Nat), 41 ≤ d + n → d ≤ 40 → 3 * n ≤ l → 2 * n ≤ m → zPF d (grgX7_readForm l).1 (grgX12_type m).1 := by
  intro n
  induction n with
  | zero => intro d l m h1 h2; omega
  | succ n ih =>
    intro d l m h1 h2 h3 h4
    obtain ⟨l0, rfl⟩ : ∃ l0, l = l0 + 3 := ⟨l - 3, by omega⟩
    obtain ⟨m0, rfl⟩ : ∃ m0, m = m0 + 2 := ⟨m - 2, by omega⟩
    intro G z y p S H i f X N M P A q t u h hq
    show ∃ r t2 r' u2, lX7_readForm_6 (grgX7_readForm (l0 + 2)) zFU (-1) (-1) 0 t = some (r, t2) ∧ lX12_type_6 (grgX12_type (m0 + 1)) zFU (-1) (-1) 1 u = some (r', u2) ∧ _
    obtain ⟨r, t2, r', u2, d1, d2, d3⟩ := zFormL (gC := grgX7_readForm (l0 + 2)) (g1 := grgX7_readForm (l0 + 1)) (g2 := grgX7_readForm l0) (gM := grgX12_type (m0 + 1)) (m2 := grgX12_type m0) h2 (fun hd => ih (d + 1) l0 (m0 + 1) (by omega) (by omega) (by omega) (by omega)) (fun hd => ih (d + 1) l0 m0 (by omega) (by omega) (by omega) (by omega)) rfl rfl rfl rfl 3001 i (zFU - 3002) (zFU - 3003) 0 f N M P A q (-1) (-1) (-1) (-1) t u (by omega) zTX_refl (Or.inl ⟨rfl, rfl, rfl, rfl, h⟩) hq (by omega)
    rw [show zFU - 3002 + 3001 + 1 = zFU by unfold zFU; omega] at d1
    rw [show zFU - 3003 + 3001 + 2 = zFU by unfold zFU; omega] at d2
    exact ⟨r, t2, r', u2, d1, d2, d3⟩
theorem zForm {d : Nat} (hd : d ≤ 40) : zPF d mX7_readFormr mX12_typer := zForm_all 41 d 300 300 (by omega) hd (by omega) (by omega)
