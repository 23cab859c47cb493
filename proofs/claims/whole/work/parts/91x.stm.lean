/-! STATEMENTS in lockstep -/
def zPSt (d e : Nat) (sc : Int32 → zS → zR) (sm : zS → zR) : Prop := ∀ (G : zTxt) (i p b H : Nat) (f : Nat → Nat) (N M A S n F C R W V q : Nat) (o : Nat → Nat × Nat) (w : Nat → Nat) (Y Z : List Nat) (hx : Int32) (t u : zS), zBB G i d p b H f N M A S n F C R W V q o w Y Z t u → zBN i A H b S n F C R W V q → 3 * S ≤ i → zHd o S p e t hx → e + 1 ≤ d → e ≤ zKc G i →
  ∃ r t2 r' u2, sc hx t = some (r, t2) ∧ sm u = some (r', u2) ∧ zSP G i d p b H f N M A S n F C R W V q o w Y Z e hx t u r t2 r' u2
theorem zStartK {G : zTxt} {i d p b H : Nat} {f : Nat → Nat} {N M A S n F C R W V q : Nat} {o : Nat → Nat × Nat} {w : Nat → Nat} {Y Z : List Nat} {t u : zS} {hx kk m : Int32} (h : zBB G i d p b H f N M A S n F C R W V q o w Y Z t u) (h9 : ¬ t 5 9 = 19) : zUW G i i d p b H f N M A S n F C R W V q n F C o w t u (zcb t S kk (t 5 10) hx) (zmb u S m) ∧ zR0 S kk m hx (zcb t S kk (t 5 10) hx) (zmb u S m) ∧ ∃ t1 u1, mX7_step (zcb t S kk (t 5 10) hx) = some (0, t1) ∧ mX12_next (zmb u S m) = some (0, u1) ∧ zUW G i (i + 1) d p b H f N M A S n F C R W V q n F C o w t u t1 u1 ∧ zR0 S kk m hx t1 u1 ∧ (i + 1 ≤ 3000) := by
  have hU : zUW G i i d p b H f N M A S n F C R W V q n F C o w t u (zcb t S kk (t 5 10) hx) (zmb u S m) := zUW_begun h
  have hp := (zAt_w h.1.1).2.1
  have h0 : zR0 S kk m hx (zcb t S kk (t 5 10) hx) (zmb u S m) := by
    obtain ⟨a1, a2, a3, a4, a5, a6, a7, a8, a9, _⟩ := zcb_at (t := t) (s := S) (x := kk) (pl := t 5 10) (h := hx)
    obtain ⟨c1, c2, c3, c4, c5, c6, c7, _⟩ := zmb_at (u := u) (s := S) (x := m)
    exact ⟨a1, ⟨by rw [a2, c2, hp], by rw [a2]; exact zAt_0le h.1.1⟩, a3, a4, a5, a6, a7, a8, c1, c3, c4, c5, a9, c6, c7, zcb_107⟩
  obtain ⟨t1, u1, s1, s2, s3, s4, s5, s6⟩ := zUW_step hU (by rw [zcb_row (by decide)]; exact h9)
  refine ⟨hU, h0, t1, u1, s1, s2, s3, ?_, zAt_lt s3.1.1⟩
  obtain ⟨k1, k2, k3, k4, k5, k6, k7, k8, k9, k10, k11, k12, k13, k14, k15, k16⟩ := h0
  have c : ∀ k, 87 ≤ k → k ≤ 107 → t1 k S = zcb t S kk (t 5 10) hx k S := fun k x y => s4.1 k x y (by simp)
  have g : ∀ k, 14 ≤ k → k ≤ 22 → u1 k S = zmb u S m k S := fun k x y => s4.2 k x y (by simp)
  exact ⟨by rw [c 87 (by decide) (by decide)]; exact k1, by rw [c 89 (by decide) (by decide), g 15 (by decide) (by decide)]; exact k2, by rw [c 91 (by decide) (by decide)]; exact k3, by rw [c 93 (by decide) (by decide)]; exact k4, by rw [c 95 (by decide) (by decide)]; exact k5, by rw [c 97 (by decide) (by decide)]; exact k6, by rw [c 99 (by decide) (by decide)]; exact k7, by rw [c 101 (by decide) (by decide)]; exact k8, by rw [g 14 (by decide) (by decide)]; exact k9, by rw [g 16 (by decide) (by decide)]; exact k10, by rw [g 17 (by decide) (by decide)]; exact k11, by rw [g 18 (by decide) (by decide)]; exact k12, by rw [c 105 (by decide) (by decide)]; exact k13, by rw [g 19 (by decide) (by decide)]; exact k14, by rw [g 20 (by decide) (by decide)]; exact k15, by rw [c 107 (by decide) (by decide)]; exact k16⟩
theorem zSimpleM {u u1 : zS} {S : Nat} {m : Int32} (hS : S < 1600) (h14 : u 14 S = m) (hm : ¬ m = 0) (hn : mX12_next u = some (0, u1)) : mX12_simple (Int32.ofNat S) u = bX12_simple_15 (Int32.ofNat S) m u1 := by
  unfold mX12_simple
  rw [zn_rd hS (by decide), h14, if_neg hm, hn, pl_bd]
theorem zbd_id {a : zR} {r : Int32} {t : zS} (h : a = some (r, t)) : (zbd a fun r t => some (r, t)) = some (r, t) := by rw [h, pl_bd]
theorem zStatement {g gc gc' : GgX7_readBlock} {gm gmc gmw gm' : GgX12_block} {d e : Nat} (hd : d ≤ 40) (ec1 : g.1 = mX7_readBlock gc') (ec : g.2.2 = mX7_readCases gc) (em1 : gm.2.2.1 = mX12_choose gmc) (em2 : gm.2.2.2 = mX12_whether gmw) (em : gmw.1 = mX12_block gm') (hB : zPB d (e + 1) g.1 gmw.1) (hB2 : d < 40 → zPB (d + 1) (e + 1) gc.1 gmc.1) : zPSt d e (mX7_readStatement g) (mX12_statement gm) := by
  intro G i p b H f N M A S n F C R W V q o w Y Z hx t u h hN h3 hH hed hKe
  have hl := zAt_lt h.1.1
  have he : e ≤ 39 := Nat.le_of_lt_succ (Nat.lt_of_lt_of_le (Nat.lt_of_succ_le hed) hd)
  have hbd : C ≤ 6400 ∧ 2 * A + 2 * V + 2 * H ≤ 3002 ∧ S < 1600 := by
    obtain ⟨m1, m2, m3, m4, m5, m6, m7, m8⟩ := hN
    refine ⟨?_, ?_, ?_⟩ <;> omega
  obtain ⟨b1, b2, b3⟩ := hbd
  unfold mX7_readStatement mX12_statement
  rw [pl_let]
  have bad : ∃ t2 u2, bX7_readStatement_28 g t = some (-1, t2) ∧ (zbd (mX12_fails (u 0 6) u) fun r t => some (r, t)) = some (-1, u2) ∧ zSE H t u t2 u2 := by
    obtain ⟨t1, u1, r1, r2, r3, r4, r5, _⟩ := zAt_no h.1.1
    unfold bX7_readStatement_28
    rw [r1, pl_bd, r2, pl_bd]
    exact ⟨t1, u1, rfl, rfl, zSE_ofB h b1 b2 r3 r4 r5⟩
  by_cases q17 : t 5 9 = 17
  · have hnm := (zAt_nm h.1.1).mpr q17
    rw [if_pos q17, if_pos hnm, q17]
    obtain ⟨hU, h0, t1, u1, _, _, _, _, hl1⟩ := zStartK (kk := 17) (m := 0) (hx := hx) h (by rw [q17]; decide)
    have hS : S < 1000 := by omega
    unfold bX7_readStatement_34
    rw [zc_begun h.2.2.1 hS, pl_bd, if_pos rfl, zm_begun h.2.2.2.1 b3, pl_bd]
    obtain ⟨r, t2, r', u2, a1, a2, a3⟩ := zSet (g := g) h hN hU hd hS hH he h0
    have c2 : mX12_simple (Int32.ofNat S) (zmb u S 0) = bX12_simple_15 (Int32.ofNat S) 0 (zmb u S 0) := by
      unfold mX12_simple
      rw [zn_rd b3 (by decide), h0.2.2.2.2.2.2.2.2.1, if_pos rfl]
    rw [c2, a1, zbd_id a2]
    exact ⟨_, _, _, _, rfl, rfl, a3⟩
  · rw [if_neg q17, if_neg (fun x => q17 ((zAt_nm h.1.1).mp x))]
    rcases (zAt_w h.1.1).1 with ⟨k, a1, a2, a3, a4⟩ | ⟨a1, a2, a3⟩ | ⟨a1, a2, a3⟩ | ⟨a1, a2⟩ | ⟨a1, a2⟩ | ⟨a1, a2, a3⟩ | ⟨a1, a2, a3⟩
    · rw [if_pos a3, pl_let, a4, a2]
      have hk9 : ¬ t 5 9 = 19 := by rw [a2]; exact fun x => by have := (zn_inj (b := 19) (by omega) (by decide)).mp x; omega
      have hk : k = 0 ∨ k = 1 ∨ k = 2 ∨ k = 3 ∨ k = 4 ∨ k = 5 ∨ k = 6 ∨ k = 7 ∨ k = 8 ∨ k = 9 ∨ k = 10 ∨ k = 11 ∨ k = 12 ∨ k = 13 ∨ k = 14 ∨ k = 15 ∨ k = 16 := by omega
      have hS : S < 1000 := by
        obtain ⟨_, _, _, _, _, _, _, _, hl1⟩ := zStartK (kk := 17) (m := 0) (hx := hx) h hk9
        omega
      rcases hk with rfl | rfl | rfl | rfl | rfl | rfl | rfl | rfl | rfl | rfl | rfl | rfl | rfl | rfl | rfl | rfl | rfl
      · obtain ⟨t2, u2, c1, c2, c3⟩ := bad
        refine ⟨-1, t2, -1, u2, ?_, c2, Or.inr c3⟩
        exact c1
      · obtain ⟨t2, u2, c1, c2, c3⟩ := bad
        refine ⟨-1, t2, -1, u2, ?_, c2, Or.inr c3⟩
        exact c1
      · obtain ⟨_, hz, t1, u1, s1, s2, s3, s4, _⟩ := zStartK (kk := 2) (m := 1) (hx := hx) h hk9
        obtain ⟨r, t2, r', u2, d1, d2, d3⟩ := zSend (g := g) h hN s3 hd hS hH he s4
        have c1 : bX7_readStatement_34 g hx 2 t = some (r, t2) := by
          unfold bX7_readStatement_34
          rw [zc_begun h.2.2.1 hS, pl_bd, if_neg (by decide), s1, pl_bd, d1]
        have c2 : (zbd (mX12_begun 1 u) fun r t => zbd (mX12_simple r t) fun r t => some (r, t)) = some (r', u2) := by
          rw [zm_begun h.2.2.2.1 b3, pl_bd, zSimpleM b3 hz.2.2.2.2.2.2.2.2.1 (by decide) s2, zbd_id d2]
        exact ⟨r, t2, r', u2, c1, c2, d3⟩
      · obtain ⟨_, hz, t1, u1, s1, s2, s3, s4, _⟩ := zStartK (kk := 3) (m := 2) (hx := hx) h hk9
        obtain ⟨r, t2, r', u2, d1, d2, d3⟩ := zRecv (g := g) h hN s3 hd hS hH he (Or.inl ⟨rfl, rfl⟩) s4
        have c1 : bX7_readStatement_34 g hx 3 t = some (r, t2) := by
          unfold bX7_readStatement_34
          rw [zc_begun h.2.2.1 hS, pl_bd, if_neg (by decide), s1, pl_bd, d1]
        have c2 : (zbd (mX12_begun 2 u) fun r t => zbd (mX12_simple r t) fun r t => some (r, t)) = some (r', u2) := by
          rw [zm_begun h.2.2.2.1 b3, pl_bd, zSimpleM b3 hz.2.2.2.2.2.2.2.2.1 (by decide) s2, zbd_id d2]
        exact ⟨r, t2, r', u2, c1, c2, d3⟩
      · obtain ⟨_, hz, t1, u1, s1, s2, s3, s4, _⟩ := zStartK (kk := 4) (m := 3) (hx := hx) h hk9
        obtain ⟨r, t2, r', u2, d1, d2, d3⟩ := zRecv (g := g) h hN s3 hd hS hH he (Or.inr (Or.inl ⟨rfl, rfl⟩)) s4
        have c1 : bX7_readStatement_34 g hx 4 t = some (r, t2) := by
          unfold bX7_readStatement_34
          rw [zc_begun h.2.2.1 hS, pl_bd, if_neg (by decide), s1, pl_bd, d1]
        have c2 : (zbd (mX12_begun 3 u) fun r t => zbd (mX12_simple r t) fun r t => some (r, t)) = some (r', u2) := by
          rw [zm_begun h.2.2.2.1 b3, pl_bd, zSimpleM b3 hz.2.2.2.2.2.2.2.2.1 (by decide) s2, zbd_id d2]
        exact ⟨r, t2, r', u2, c1, c2, d3⟩
      · obtain ⟨_, hz, t1, u1, s1, s2, s3, s4, _⟩ := zStartK (kk := 5) (m := 4) (hx := hx) h hk9
        obtain ⟨r, t2, r', u2, d1, d2, d3⟩ := zRecv (g := g) h hN s3 hd hS hH he (Or.inr (Or.inr ⟨rfl, rfl⟩)) s4
        have c1 : bX7_readStatement_34 g hx 5 t = some (r, t2) := by
          unfold bX7_readStatement_34
          rw [zc_begun h.2.2.1 hS, pl_bd, if_neg (by decide), s1, pl_bd, d1]
        have c2 : (zbd (mX12_begun 4 u) fun r t => zbd (mX12_simple r t) fun r t => some (r, t)) = some (r', u2) := by
          rw [zm_begun h.2.2.2.1 b3, pl_bd, zSimpleM b3 hz.2.2.2.2.2.2.2.2.1 (by decide) s2, zbd_id d2]
        exact ⟨r, t2, r', u2, c1, c2, d3⟩
      · obtain ⟨_, hz, t1, u1, s1, s2, s3, s4, _⟩ := zStartK (kk := 6) (m := 5) (hx := hx) h hk9
        obtain ⟨r, t2, r', u2, d1, d2, d3⟩ := zPick (g := g) h hN s3 hd hS hH he s4
        have c1 : bX7_readStatement_34 g hx 6 t = some (r, t2) := by
          unfold bX7_readStatement_34
          rw [zc_begun h.2.2.1 hS, pl_bd, if_neg (by decide), s1, pl_bd, d1]
        have c2 : (zbd (mX12_begun 5 u) fun r t => zbd (mX12_simple r t) fun r t => some (r, t)) = some (r', u2) := by
          rw [zm_begun h.2.2.2.1 b3, pl_bd, zSimpleM b3 hz.2.2.2.2.2.2.2.2.1 (by decide) s2, zbd_id d2]
        exact ⟨r, t2, r', u2, c1, c2, d3⟩
      · obtain ⟨_, hz, t1, u1, s1, s2, s3, s4, _⟩ := zStartK (kk := 7) (m := 6) (hx := hx) h hk9
        have hK2 : e + 1 ≤ zKc G (i + 1) := by rw [zKc_kw (k := 7) h.1.1 (by decide) a2]; exact Nat.succ_le_succ hKe
        obtain ⟨r, t2, r', u2, d1, d2, d3⟩ := zCase (g := g) (gc := gc) (gm := gmc) h hN h3 s3 hd hS hH hed hK2 s4 hB2 ec
        have c1 : bX7_readStatement_34 g hx 7 t = some (r, t2) := by
          unfold bX7_readStatement_34
          rw [zc_begun h.2.2.1 hS, pl_bd, if_neg (by decide), s1, pl_bd, d1]
        have c2 : (zbd (mX12_begun 6 u) fun r t => zbd (gm.2.2.1 r t) fun r t => some (r, t)) = some (r', u2) := by
          rw [zm_begun h.2.2.2.1 b3, pl_bd, em1]
          unfold mX12_choose
          rw [s2, pl_bd, d2, pl_bd]
        exact ⟨r, t2, r', u2, c1, c2, d3⟩
      · obtain ⟨_, hz, t1, u1, s1, s2, s3, s4, _⟩ := zStartK (kk := 8) (m := 7) (hx := hx) h hk9
        obtain ⟨r, t2, r', u2, d1, d2, d3⟩ := zCall (g := g) h hN s3 hd hS hH he (Or.inl ⟨rfl, rfl⟩) s4
        have c1 : bX7_readStatement_34 g hx 8 t = some (r, t2) := by
          unfold bX7_readStatement_34
          rw [zc_begun h.2.2.1 hS, pl_bd, if_neg (by decide), s1, pl_bd, d1]
        have c2 : (zbd (mX12_begun 7 u) fun r t => zbd (mX12_simple r t) fun r t => some (r, t)) = some (r', u2) := by
          rw [zm_begun h.2.2.2.1 b3, pl_bd, zSimpleM b3 hz.2.2.2.2.2.2.2.2.1 (by decide) s2, zbd_id d2]
        exact ⟨r, t2, r', u2, c1, c2, d3⟩
      · obtain ⟨_, hz, t1, u1, s1, s2, s3, s4, _⟩ := zStartK (kk := 9) (m := 9) (hx := hx) h hk9
        obtain ⟨r, t2, r', u2, d1, d2, d3⟩ := zCall (g := g) h hN s3 hd hS hH he (Or.inr ⟨rfl, rfl⟩) s4
        have c1 : bX7_readStatement_34 g hx 9 t = some (r, t2) := by
          unfold bX7_readStatement_34
          rw [zc_begun h.2.2.1 hS, pl_bd, if_neg (by decide), s1, pl_bd, d1]
        have c2 : (zbd (mX12_begun 9 u) fun r t => zbd (mX12_simple r t) fun r t => some (r, t)) = some (r', u2) := by
          rw [zm_begun h.2.2.2.1 b3, pl_bd, zSimpleM b3 hz.2.2.2.2.2.2.2.2.1 (by decide) s2, zbd_id d2]
        exact ⟨r, t2, r', u2, c1, c2, d3⟩
      · obtain ⟨_, hz, t1, u1, s1, s2, s3, s4, _⟩ := zStartK (kk := 10) (m := 10) (hx := hx) h hk9
        have hK2 : e + 1 ≤ zKc G (i + 1) := by rw [zKc_kw (k := 10) h.1.1 (by decide) a2]; exact Nat.succ_le_succ hKe
        obtain ⟨r, t2, r', u2, d1, d2, d3⟩ := zIf (g := g) (gm := gmw) h hN h3 s3 hd hS hH hed hK2 s4 hB ec1 em
        have c1 : bX7_readStatement_34 g hx 10 t = some (r, t2) := by
          unfold bX7_readStatement_34
          rw [zc_begun h.2.2.1 hS, pl_bd, if_neg (by decide), s1, pl_bd, d1]
        have c2 : (zbd (mX12_begun 10 u) fun r t => zbd (gm.2.2.2 r t) fun r t => some (r, t)) = some (r', u2) := by
          rw [zm_begun h.2.2.2.1 b3, pl_bd, em2]
          unfold mX12_whether
          rw [s2, pl_bd, d2, pl_bd]
        exact ⟨r, t2, r', u2, c1, c2, d3⟩
      · obtain ⟨t2, u2, c1, c2, c3⟩ := bad
        refine ⟨-1, t2, -1, u2, ?_, c2, Or.inr c3⟩
        exact c1
      · obtain ⟨_, hz, t1, u1, s1, s2, s3, s4, _⟩ := zStartK (kk := 12) (m := 11) (hx := hx) h hk9
        have hK2 : e + 1 ≤ zKc G (i + 1) := by rw [zKc_kw (k := 12) h.1.1 (by decide) a2]; exact Nat.succ_le_succ hKe
        obtain ⟨r, t2, r', u2, d1, d2, d3⟩ := zWhile (g := g) (gm := gmw) h hN h3 s3 hd hS hH hed hK2 s4 hB ec1 em
        have c1 : bX7_readStatement_34 g hx 12 t = some (r, t2) := by
          unfold bX7_readStatement_34
          rw [zc_begun h.2.2.1 hS, pl_bd, if_neg (by decide), s1, pl_bd, d1]
        have c2 : (zbd (mX12_begun 11 u) fun r t => zbd (gm.2.2.2 r t) fun r t => some (r, t)) = some (r', u2) := by
          rw [zm_begun h.2.2.2.1 b3, pl_bd, em2]
          unfold mX12_whether
          rw [s2, pl_bd, d2, pl_bd]
        exact ⟨r, t2, r', u2, c1, c2, d3⟩
      · obtain ⟨_, hz, t1, u1, s1, s2, s3, s4, _⟩ := zStartK (kk := 13) (m := 12) (hx := hx) h hk9
        obtain ⟨r, t2, r', u2, d1, d2, d3⟩ := zPut (g := g) h hN s3 hd hS hH he s4
        have c1 : bX7_readStatement_34 g hx 13 t = some (r, t2) := by
          unfold bX7_readStatement_34
          rw [zc_begun h.2.2.1 hS, pl_bd, if_neg (by decide), s1, pl_bd, d1]
        have c2 : (zbd (mX12_begun 12 u) fun r t => zbd (mX12_simple r t) fun r t => some (r, t)) = some (r', u2) := by
          rw [zm_begun h.2.2.2.1 b3, pl_bd, zSimpleM b3 hz.2.2.2.2.2.2.2.2.1 (by decide) s2, zbd_id d2]
        exact ⟨r, t2, r', u2, c1, c2, d3⟩
      · obtain ⟨_, hz, t1, u1, s1, s2, s3, s4, _⟩ := zStartK (kk := 14) (m := 13) (hx := hx) h hk9
        obtain ⟨r, t2, r', u2, d1, d2, d3⟩ := zGet (g := g) h hN s3 hd hS hH he s4
        have c1 : bX7_readStatement_34 g hx 14 t = some (r, t2) := by
          unfold bX7_readStatement_34
          rw [zc_begun h.2.2.1 hS, pl_bd, if_neg (by decide), s1, pl_bd, d1]
        have c2 : (zbd (mX12_begun 13 u) fun r t => zbd (mX12_simple r t) fun r t => some (r, t)) = some (r', u2) := by
          rw [zm_begun h.2.2.2.1 b3, pl_bd, zSimpleM b3 hz.2.2.2.2.2.2.2.2.1 (by decide) s2, zbd_id d2]
        exact ⟨r, t2, r', u2, c1, c2, d3⟩
      · obtain ⟨t2, u2, c1, c2, c3⟩ := bad
        refine ⟨-1, t2, -1, u2, ?_, c2, Or.inr c3⟩
        exact c1
      · obtain ⟨t2, u2, c1, c2, c3⟩ := bad
        refine ⟨-1, t2, -1, u2, ?_, c2, Or.inr c3⟩
        exact c1
    · exact absurd a1 q17
    · obtain ⟨t2, u2, c1, c2, c3⟩ := bad
      rw [if_neg (show ¬ u 0 5 = 5 by rw [a2]; decide)]
      refine ⟨-1, t2, -1, u2, ?_, c2, Or.inr c3⟩
      rw [a1]
      exact c1
    · obtain ⟨t2, u2, c1, c2, c3⟩ := bad
      rw [if_neg (show ¬ u 0 5 = 5 by rw [a2]; decide)]
      refine ⟨-1, t2, -1, u2, ?_, c2, Or.inr c3⟩
      rw [a1]
      exact c1
    · obtain ⟨t2, u2, c1, c2, c3⟩ := bad
      rw [if_neg (show ¬ u 0 5 = 5 by rw [a2]; decide)]
      refine ⟨-1, t2, -1, u2, ?_, c2, Or.inr c3⟩
      rw [a1]
      exact c1
    · obtain ⟨t2, u2, c1, c2, c3⟩ := bad
      rw [if_neg (show ¬ u 0 5 = 5 by rw [a2]; decide)]
      refine ⟨-1, t2, -1, u2, ?_, c2, Or.inr c3⟩
      rw [a1]
      exact c1
    · obtain ⟨t2, u2, c1, c2, c3⟩ := bad
      rw [if_neg (show ¬ u 0 5 = 5 by rw [a2]; decide)]
      refine ⟨-1, t2, -1, u2, ?_, c2, Or.inr c3⟩
      have hsgs : ∀ c : Int32, c ∈ zSgs → 14 < c := by decide
      by_cases qa : t 5 9 < 2
      · rw [if_pos qa]; exact c1
      · rw [if_neg qa, if_pos (hsgs _ a1)]; exact c1
