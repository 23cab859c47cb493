/-! while and if in lockstep -/
/-- readers of a BLOCK; its statements have depth e -/
def zPB (d e : Nat) (bc bm : Int32 → zS → zR) : Prop := ∀ (G : zTxt) (i p b H : Nat) (f : Nat → Nat) (N M A S n F C R W V q : Nat) (o : Nat → Nat × Nat) (w : Nat → Nat) (Y Z : List Nat) (hx : Int32) (t u : zS), zBB G i d p b H f N M A S n F C R W V q o w Y Z t u → zBN i A H b S n F C R W V q → zHd o S p e t hx → e ≤ zKc G i →
  ∃ r t2 r' u2, bc hx t = some (r, t2) ∧ bm (zBeh t hx) u = some (r', u2) ∧
    ((∃ i2 S2 n2 F2 C2 R2 W2 V2 q2 o2 w2, i + 2 ≤ i2 ∧ zBB G i2 d p b H f N M A S2 n2 F2 C2 R2 W2 V2 q2 o2 w2 Y Z t2 u2 ∧ zBX p b H S n F C R W V q S2 n2 F2 C2 R2 W2 V2 q2 o o2 w w2 t u t2 u2 ∧ zBF (i + 2) S n F C R W V q i2 S2 n2 F2 C2 R2 W2 V2 q2 ∧ ((r = -1 ∧ r' = zBeh t hx) ∨ ∃ s, r = Int32.ofNat s ∧ r' = Int32.ofNat s ∧ S ≤ s ∧ s < S2 ∧ (o2 s = (e, p) ∧ o2 (10000 + s) = (s, 0)) ∧ t2 101 s = hx) ∧ (t2 5 14 = u2 0 61 ∧ 0 ≤ t2 5 14) ∧ d < 40 ∧ 3 * S2 + i + 2 ≤ 3 * S + i2 ∧ zFP zpR t t2 ∧ zFP zpM u u2) ∨ zSE H t u t2 u2)
theorem zBB_mu {G : zTxt} {i d p b H : Nat} {f : Nat → Nat} {N M A S n F C R W V q s k : Nat} {v : Int32} {o : Nat → Nat × Nat} {w : Nat → Nat} {Y Z : List Nat} {t u : zS} (h : zBB G i d p b H f N M A S n F C R W V q o w Y Z t u) (hsY : s ∈ Y) (hS : S ≤ 1000) (hk : 14 ≤ k ∧ k ≤ 20) : zBB G i d p b H f N M A S n F C R W V q o w Y Z t (zu u k s v) := by
  obtain ⟨⟨b1, b2, b3, b4, b5, b6⟩, a2, a3, a4, a5, a6, a7, a8, a9, a10, a11, a12, a13⟩ := h
  have r : ∀ k', ¬ k' = k → zu u k s v k' = u k' := fun k' hk' => zu_row hk'
  refine ⟨⟨zAt_of b1 (fun j _ _ => rfl) rfl rfl (fun _ _ _ => by rw [r 0 (by omega)]) (r 2 (by omega)) (r 3 (by omega)) (r 4 (by omega)), b2, by rw [r 0 (by omega)]; exact b3, zSl_of b4 (Nat.le_refl _) rfl (by rw [r 0 (by omega)]) rfl rfl rfl (r 31 (by omega)) (r 33 (by omega)), b5, by rw [r 0 (by omega)]; exact b6⟩, zAK_fr a2 rfl (by rw [r 0 (by omega)]) rfl rfl rfl (fun s hs => rfl) (fun s hs => rfl) (r 5 (by omega)) (r 6 (by omega)) (r 35 (by omega)) (r 36 (by omega)) (r 37 (by omega)) (r 38 (by omega)), a3, by rw [r 0 (by omega)]; exact a4, a5, by rw [r 0 (by omega)]; exact a6, a7, by rw [r 0 (by omega)]; exact a8, by rw [r 0 (by omega)]; exact a9, by rw [r 0 (by omega)]; exact a10, fun x k1 k2 => ?_, fun x k1 k2 => ?_, a13⟩
  · have ne : ¬ x = s := fun y => k2 (by rw [y]; exact hsY)
    refine zStm_ext (a11 x k1 k2) k1 (Nat.le_refl _) (Nat.le_refl _) (Nat.le_refl _) (Nat.le_refl _) (Nat.le_refl _) (Nat.le_refl _) (fun _ _ => rfl) (fun _ _ => rfl) (fun k' _ => zu_ne2 ne) (fun _ _ => rfl) (fun _ _ => ⟨rfl, rfl⟩) (fun c _ => by rw [r 27 (by omega)]) (fun _ _ => ⟨rfl, rfl, rfl⟩) (fun y _ => ⟨by rw [r 25 (by omega)], by rw [r 26 (by omega)]⟩) (fun y _ hw => ⟨hw, rfl, rfl, rfl⟩) (fun y _ => ⟨by rw [r 23 (by omega)], by rw [r 24 (by omega)]⟩) (fun m hm hm2 => ⟨m, hm, Nat.le_refl _, hm2⟩)
  · exact zLn_ext (a12 x k1 k2) (a13 x k1).1 k1 (Nat.le_refl _) hS (fun _ _ => rfl) rfl (by rw [r 21 (by omega)]) (by rw [r 22 (by omega)]) (fun _ _ => rfl) (fun _ _ => rfl)
theorem zBX_mu {p b H S n F C R W V q S2 n2 F2 C2 R2 W2 V2 q2 s k : Nat} {v : Int32} {o o2 : Nat → Nat × Nat} {w w2 : Nat → Nat} {t0 u0 t u : zS} (h : zBX p b H S n F C R W V q S2 n2 F2 C2 R2 W2 V2 q2 o o2 w w2 t0 u0 t u) (hs : S ≤ s) (hk : 14 ≤ k ∧ k ≤ 22) : zBX p b H S n F C R W V q S2 n2 F2 C2 R2 W2 V2 q2 o o2 w w2 t0 u0 t (zu u k s v) := by
  obtain ⟨x1, x2, x3, x4, x5, x6, x7, x8, x9, x10, x11, x12, x13⟩ := h
  refine ⟨x1, x2, x3, x4, x5, x6, x7, x8, x9, x10, x11, zLm_zu x12 ?_, fun j hj => by rw [zu_ne1 (by omega)]; exact x13 j hj⟩
  unfold zLR
  rw [if_neg (by omega), if_neg (by omega), if_neg (by omega), if_neg (by omega), if_neg (by omega), if_neg (by omega), if_neg (by omega), if_neg (by omega), if_pos (by omega)]
  exact hs
theorem zBlk_of {G : zTxt} {i2 d p b H : Nat} {f : Nat → Nat} {N M A S2 n2 F2 C2 R2 W2 V2 q2 e s S1 : Nat} {o2 : Nat → Nat × Nat} {w2 : Nat → Nat} {Y Z : List Nat} {t2 u2 : zS} {r r' beh : Int32} (_h : zBB G i2 d p b H f N M A S2 n2 F2 C2 R2 W2 V2 q2 o2 w2 Y Z t2 u2) (ho : o2 s = (e, p)) (hs : s < S1) (hr : (r = -1 ∧ r' = beh) ∨ ∃ x, r = Int32.ofNat x ∧ r' = Int32.ofNat x ∧ S1 ≤ x ∧ x < S2 ∧ (o2 x = (e + 1, p) ∧ o2 (10000 + x) = (x, 0)) ∧ t2 101 x = Int32.ofNat s) : zBl t2 o2 s S2 beh r r' := by
  rcases hr with hr | ⟨x, a1, a2, a3, a4, a5, a6⟩
  · exact Or.inl hr
  · exact Or.inr ⟨x, a1, a2, by omega, a4, ⟨by rw [a5.1, ho], a5.2⟩, a6⟩
theorem zBeh_w {t : zS} {s : Nat} (hs : s < 1000) : zBeh t (Int32.ofNat s) = (if t 87 s = 12 then Int32.ofNat s else -2 - Int32.ofNat s) := by
  unfold zBeh
  have e : (Int32.ofNat s).toNatClampNeg = s := pl_clamp (pl_ofn (by omega))
  rw [if_neg (fun x => absurd (show (0 : Int32) ≤ -1 by rw [← x]; exact zn_0le (by omega)) zn_m1), e]
theorem zEm_block {g : GgX12_block} {u : zS} {x : Int32} (h : 0 ≤ u 0 9) : mX12_block g x u = some (x, zu u 0 5 0) := by
  unfold mX12_block
  rw [zEm_sg h, pl_bd, zEm_opens h, pl_bd, if_pos rfl]
theorem zFP_br {t t2 : zS} (h : ∀ k, ¬ (k = 52 ∨ k = 105 ∨ k = 109 ∨ k = 111 ∨ k = 113 ∨ k = 115) → t2 k = t k) : zFP zpR t t2 := by
  intro k j hq
  rw [h k ?_]
  rintro (e | e | e | e | e | e) <;> subst e <;> cases hq
theorem zWhile {g : GgX7_readBlock} {gm : GgX12_block} {gc' : GgX7_readBlock} {gm' : GgX12_block} {G : zTxt} {i d p b H : Nat} {f : Nat → Nat} {N M A S n F C R W V q e : Nat} {o : Nat → Nat × Nat} {w : Nat → Nat} {Y Z : List Nat} {t0 u0 t u : zS} {hx : Int32} (h : zBB G i d p b H f N M A S n F C R W V q o w Y Z t0 u0) (hN : zBN i A H b S n F C R W V q) (h3 : 3 * S ≤ i) (hU : zUW G i (i + 1) d p b H f N M A S n F C R W V q n F C o w t0 u0 t u) (hd : d ≤ 40) (hS : S < 1000) (hH : zHd o S p e t0 hx) (hed : e + 1 ≤ d) (hK : e + 1 ≤ zKc G (i + 1)) (h0 : zR0 S 12 11 hx t u) (hB : zPB d (e + 1) g.1 gm.1) (ec : g.1 = mX7_readBlock gc') (em : gm.1 = mX12_block gm') :
    ∃ r t2 r' u2, bX7_readStatement_58 g 12 (Int32.ofNat S) t = some (r, t2) ∧ (zbd (mX12_told u) fun r3290 t3291 => zwr t3291 18 1600 (Int32.ofNat S) r3290 fun t3294 => zrd t3294 14 1600 (Int32.ofNat S) fun v3295 => if v3295 = 11 then zbd (gm.1 (Int32.ofNat S) t3294) fun r3313 t3314 => zwr t3314 19 1600 (Int32.ofNat S) r3313 fun t3317 => some (Int32.ofNat S, t3317) else zbd (gm.1 ((-2) - Int32.ofNat S) t3294) fun r3297 t3298 => zwr t3298 19 1600 (Int32.ofNat S) r3297 fun t3301 => zbd (mX12_isKey 12 t3301) fun r3302 t3303 => zbd (mX12_passes r3302 t3303) fun r3305 t3306 => if r3305 = 0 then some (Int32.ofNat S, t3306) else zbd (gm.1 ((-2) - Int32.ofNat S) t3306) fun r3308 t3309 => zwr t3309 20 1600 (Int32.ofNat S) r3308 fun t3312 => some (Int32.ofNat S, t3312)) = some (r', u2) ∧ zSP G i d p b H f N M A S n F C R W V q o w Y Z e hx t0 u0 r t2 r' u2 := by
  have hN2 := hN
  obtain ⟨m1, m2, m3, m4, m5, m6, m7, m8⟩ := hN2
  have hl := zAt_lt hU.1.1
  obtain ⟨k1, k2, k3, k4, k5, k6, k7, k8, k9, k10, k11, k12, k13, k14, k15, k16⟩ := h0
  obtain ⟨t1, r, u1, a1, a2, a3⟩ := zUW_told hU (by omega) hd hS m2 m3 m8 (by omega)
  unfold bX7_readStatement_58
  rw [if_neg (by decide), if_neg (by decide), if_neg (by decide), if_neg (by decide), if_neg (by decide), if_pos rfl, a1, pl_bd, a2, pl_bd, zn_wr (by omega) (by decide), zn_rd (by omega) (by decide)]
  rcases a3 with ⟨i1, n1, F1, C1, b1, b2, b3, b4, b5⟩ | er
  · have r14 : zu u1 18 S r 14 S = 11 := by rw [b3.2 14 (by omega) (by omega) (by simp)]; exact k9
    have r87 : t1 87 S = 12 := by rw [b3.1 87 (by omega) (by omega) (by simp)]; exact k1
    rw [r14, if_pos rfl]
    have hl1 := zAt_lt b2.1.1
    have e13 := b2.2.2.2.2.2.2.2.2.2.2.2.2.1
    have e14 := b2.2.2.2.2.2.2.2.2.2.2.2.2.2.1
    have e15 : n1 + i ≤ n + i1 := b2.2.2.2.2.2.2.2.2.2.2.2.2.2.2.1
    obtain ⟨c1, c2⟩ := zBB_under h b2 m8 hS hH (by omega) (by rw [b3.1 101 (by omega) (by omega) (by simp)]; exact k8) (by rw [b3.1 107 (by omega) (by omega) (by simp)]; exact k16) (by rw [r87]; decide)
    obtain ⟨rb, t2, rb', u2, d1, d2, d3⟩ := hB G i1 p b H f N M A (S + 1) n1 F1 C1 R W V q _ _ (S :: Y) (S :: Z) (Int32.ofNat S) t1 _ c1 ⟨by omega, by omega, by omega, by omega, by omega, by omega, by omega, by omega⟩ (Or.inr ⟨S, rfl, by omega, by rw [zuq_at], Or.inr (Or.inr r87)⟩) (Nat.le_trans hK (zKc_le (by omega)))
    rw [zBeh_w hS, if_pos r87] at d2 d3
    rw [d1, pl_bd, d2, pl_bd, zn_wr (by omega) (by decide)]
    rcases d3 with ⟨i2, S2, n2, F2, C2, R2, W2, V2, q2, o2, w2, g1, g2, g3, g4, g5, g6, g7, g8, g9, g10⟩ | er
    · have hSS := g3.1
      obtain ⟨f1, f2, f3, f4, f5, f6, f7, f8⟩ := g4
      have hl2 := zAt_lt g2.1.1
      have o2S : o2 S = (e, p) := by rw [g3.2.2.2.2.2.2.2.2.1 S (by omega), zuq_at]
      have o2T : o2 (10000 + S) = o (10000 + S) := by rw [g3.2.2.2.2.2.2.2.2.1 (10000 + S) (by omega), zuq_ne (by omega)]
      have rS : ∀ k, 87 ≤ k → k ≤ 107 → ¬ k = 103 → t2 k S = t1 k S := fun k y1 y2 y3 => g3.2.2.2.2.2.2.2.2.2.2.1 k S (by unfold zLQ; rw [if_neg (by omega), if_neg (by omega), if_neg (by omega), if_neg (by omega), if_neg (by omega), if_neg (by omega), if_pos (by omega)]; omega)
      have rM : ∀ k, 14 ≤ k → k ≤ 22 → u2 k S = zu u1 18 S r k S := fun k y1 y2 => g3.2.2.2.2.2.2.2.2.2.2.2.1 k S (by unfold zLR; rw [if_neg (by omega), if_neg (by omega), if_neg (by omega), if_neg (by omega), if_neg (by omega), if_neg (by omega), if_neg (by omega), if_neg (by omega), if_pos (by omega)]; omega)
      obtain ⟨t3, y1, y2, y3, y4, y5, y6, y7, y8, y9, y10⟩ := pl_addBranch (s := S) (n := 0) (e := fun _ => 0) (x3 := -1) (lab := -1) (blk := rb) g2.2.2.2.2.2.2.1 (by omega) hS ⟨by rw [if_pos rfl, rS 105 (by omega) (by omega) (by omega), b3.1 105 (by omega) (by omega) (by simp)]; exact k13, fun j hj => by omega⟩ rfl
      rw [y1, pl_bd]
      have z1 := zBB_mu (k := 19) (v := rb') (zBB_branch (m := 0) (e := fun _ => 0) g2 List.mem_cons_self (by omega) (Or.inl rfl) y2 y3 y4 y5 y8 y9) List.mem_cons_self (by omega) (by omega)
      have X2 := zBX_mu (k := 19) (v := rb') (s := S) (zBX_branch (m := 0) (e := fun _ => 0) (zBX_trans c2 g3 (Nat.le_refl _)) (Nat.le_refl S) (Or.inl rfl) y4 y5 y8 y9) (Nat.le_refl _) (by omega)
      have hg : ∀ q', q' ≤ p → zGr t1 t3 q' := fun q' hq' => zGr_of b2.1.2.2.2.1 z1.1.2.2.2.1 g3.2.1 (by omega) hq' (fun j hj => by rw [y4 39 (by omega)]; exact g3.2.2.2.2.2.2.2.2.2.2.1 39 j hj)
      have hst : zStm G o2 (zup w2 W2 S) S2 F2 C2 R2 (W2 + 1) V2 t3 (zu u2 19 S rb') S := by
        have hrow : ∀ k, 87 ≤ k → k ≤ 101 → t3 k S = t1 k S := fun k q1 q2 => by rw [y4 k (by omega), rS k (by omega) (by omega) (by omega)]
        have hrowM : ∀ k, 14 ≤ k → k ≤ 18 → zu u2 19 S rb' k S = zu u1 18 S r k S := fun k q1 q2 => by rw [zu_ne1 (by omega), rM k (by omega) (by omega)]
        refine ⟨?_, Or.inr (Or.inr (Or.inr (Or.inr (Or.inr (Or.inr (Or.inr (Or.inr ⟨?_, ?_, ?_, ?_, ?_, ?_, ?_⟩)))))))⟩
        · rw [hrow 89 (by omega) (by omega), hrowM 15 (by omega) (by omega), b3.1 89 (by omega) (by omega) (by simp), b3.2 15 (by omega) (by omega) (by simp)]; exact k2
        · rw [hrow 87 (by omega) (by omega)]; exact r87
        · rw [hrowM 14 (by omega) (by omega)]; exact r14
        · rw [hrow 91 (by omega) (by omega), b3.1 91 (by omega) (by omega) (by simp)]; exact k3
        · rw [hrowM 16 (by omega) (by omega), b3.2 16 (by omega) (by omega) (by simp)]; exact k10
        · rw [o2S, hrow 95 (by omega) (by omega), hrow 97 (by omega) (by omega), hrowM 18 (by omega) (by omega)]
          exact zFm_ext b4 (hg p (Nat.le_refl _)) g3.2.2.1 g3.2.2.2.1 (fun k hk => ⟨by rw [y4 75 (by omega)]; exact g3.2.2.2.2.2.2.2.2.2.2.1 75 k hk, by rw [y4 77 (by omega)]; exact g3.2.2.2.2.2.2.2.2.2.2.1 77 k hk⟩) (fun c hc => by rw [zu_ne1 (by decide)]; exact g3.2.2.2.2.2.2.2.2.2.2.2.1 27 c hc)
        · have hb := zBlk_of (s := S) (S1 := S + 1) g2 o2S (by omega) g5
          have e105 := y10.1
          rw [if_neg (by omega), zup_at] at e105
          refine ⟨W2, by omega, e105, ?_, ?_, zup_at _ _ _⟩
          · have := (y10.2 0 (by omega)).2
            rw [zup_at, if_neg (by omega)] at this
            exact this
          · rw [y7, zu_same]
            exact zBl_ext hb (by omega) (fun _ _ => rfl) (Nat.le_refl _) (fun r _ => by rw [y4 101 (by omega)])
        · refine ⟨by rw [o2S]; show e ≤ 38; omega, ?_⟩
          rw [o2S]
          exact Nat.le_trans hK (zKc_le (by have h5 : i1 ≤ G.2.2.1 := b2.1.1.2.2.2.2.1; omega))
      have z2 := zBB_doneY z1 hst
      refine ⟨_, _, _, _, rfl, rfl, Or.inl ⟨i2, S2, n2, F2, C2, R2, W2 + 1, V2, q2, o2, _, rfl, rfl, by omega, by have := g3.1; omega, z2, X2, ⟨by omega, by omega, by omega, by omega, by omega, by omega, by omega, by omega⟩, ⟨o2S, o2T⟩, ?_, ?_, zFP_trans b2.2.2.2.2.2.2.2.2.2.2.2.2.2.2.2.1 (zFP_trans g9 (zFP_br y4)), zFP_zu (zFP_trans b2.2.2.2.2.2.2.2.2.2.2.2.2.2.2.2.2 g10) rfl⟩⟩
      · rw [y4 101 (by omega), rS 101 (by omega) (by omega) (by omega), b3.1 101 (by omega) (by omega) (by simp)]; exact k8
      · rw [y4 99 (by omega), rS 99 (by omega) (by omega) (by omega), b3.1 99 (by omega) (by omega) (by simp)]; exact k7
    · obtain ⟨rx, t3, y1, y2⟩ := zEs_addBranch (x1 := Int32.ofNat S) (x2 := -1) (x3 := -1) (x4 := rb) (zEr_c er.1)
      rw [y1, pl_bd]
      exact ⟨_, _, _, _, rfl, rfl, Or.inr (zSE_zu (zSE_c (zSE_pre er b2.2.2.2.2.2.2.2.2.2.2.2.2.2.2.2.1 b2.2.2.2.2.2.2.2.2.2.2.2.2.2.2.2.2) y2) (by decide) rfl)⟩
  · have hE := zSE_zu (k := 18) (j := S) (v := r) er (by decide) rfl
    obtain ⟨rx, t3, y1, y2⟩ := zEs_addBranch (x1 := Int32.ofNat S) (x2 := -1) (x3 := -1) (x4 := -1) (zEr_c er.1)
    rw [ec, em, zEs_block (zEr_c er.1), pl_bd, y1, pl_bd]
    have e1 : ∀ x, mX12_block gm' x (zu u1 18 S r) = some (x, zu (zu u1 18 S r) 0 5 0) := fun x => zEm_block (zEr_m hE.1)
    have hE2 := zSE_zu (k := 19) (j := S) (v := -2 - Int32.ofNat S) (zSE_5 hE) (by decide) rfl
    have ek : ∀ (u3 : zS), 0 ≤ u3 0 9 → mX12_isKey 12 u3 = some (0, u3) := fun u3 h9 => by
      unfold mX12_isKey
      rw [if_pos h9]
      by_cases q1 : u3 0 5 = 5
      · rw [if_pos q1]
        by_cases q2 : u3 0 8 = 12
        · rw [if_pos q2]
        · rw [if_neg q2]
      · rw [if_neg q1]
    by_cases q : zu u1 18 S r 14 S = 11
    · rw [if_pos q, e1, pl_bd, zn_wr (by omega) (by decide)]
      exact ⟨_, _, _, _, rfl, rfl, Or.inr (zSE_c (zSE_zu (zSE_5 hE) (by decide) rfl) y2)⟩
    · rw [if_neg q, e1, pl_bd, zn_wr (by omega) (by decide), ek _ (zEr_m hE2.1), pl_bd, zEm_passes (zEr_m hE2.1), pl_bd, if_pos rfl]
      exact ⟨_, _, _, _, rfl, rfl, Or.inr (zSE_c (zSE_5 hE2) y2)⟩
