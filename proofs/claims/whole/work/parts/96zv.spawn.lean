/-! a process is SPAWNED: both sides by themselves -/
theorem zSpawnC {n : Nat → Nat} {Q mr m p x y sk a p0 : Nat} {R pq : Nat → Nat} {fr fd : Nat} {fp : Nat → Nat} {sp ac : Nat → Int32} {num H t0 t : zS} {TN TE : Nat → Int32} {J : Nat → Nat} {blk : Int32} (h : zAC n mr R pq fr fd fp sp ac num H t) (hP : zAP Q mr R pq fr fd fp) (hf : fd = 0 → fr < 2500) (hs : zSs (fun i => n (pq (R i))) mr + n x ≤ 12000) (hp : zIn mr R p) (hp2 : p < 2501) (hy : y < 1000) (hx : x < 300) (hn : sk + m ≤ n x) (ht : ∀ k, (k = 35 ∨ k = 37 ∨ k = 45 ∨ k = 83 ∨ k = 95 ∨ k = 97) → t k = t0 k) (h35 : t0 35 x = Int32.ofNat p0) (h37 : t0 37 x = Int32.ofNat (sk + m)) (h95 : t0 95 y = Int32.ofNat a) (h97 : t0 97 y = Int32.ofNat (a + m)) (ham : a + m ≤ 1500) (hpk : p0 + (sk + m) ≤ 1500) (hsm : sk + m ≤ 1500) (hC : ∀ i, i < m → (0 ≤ t0 45 (p0 + (sk + i)) → t 62 (sk + i) = TE i ∧ TN i = 0) ∧ (¬ 0 ≤ t0 45 (p0 + (sk + i)) → t 62 (sk + i) = TN i ∧ TE i = -1)) (hJ : ∀ i, i < m → (0 ≤ t0 45 (p0 + (sk + i)) ↔ 0 ≤ TE i) ∧ (0 ≤ TE i → t0 83 (a + i) = Int32.ofNat (J i) ∧ J i < n (pq p))) (kc : Int32 → zS → zR) :
    ∃ t2, (zbd (mX8_join (Int32.ofNat x) (Int32.ofNat (n x)) blk t) fun r2159 t2160 => zbd (mX4_handOver r2159 (Int32.ofNat x) (Int32.ofNat sk) t2160) fun r2162 t2163 => zbd (mX4_giveAway (Int32.ofNat p) (Int32.ofNat y) (Int32.ofNat x) (Int32.ofNat sk) t2163) fun r2165 t2166 => kc r2159 t2166) = kc (Int32.ofNat (zNw fr fd fp)) t2 ∧ zAC n (mr + 1) (zfu R mr (zNw fr fd fp)) (zfu pq (zNw fr fd fp) x) (if fd = 0 then fr + 1 else fr) (fd - 1) fp (zfu sp (zNw fr fd fp) blk) (zfu ac (zNw fr fd fp) 0) (zHn (fun r k => if r = zNw fr fd fp then 0 else num r k) (zNw fr fd fp) sk TN m) (zGa (zHn (fun r k => if r = zNw fr fd fp then -1 else H r k) (zNw fr fd fp) sk TE m) p J TE m) t2 ∧ t2 60 17 = t 60 17 + 1 ∧ ∀ k, ¬ (k = 60 ∨ 126 ≤ k) → t2 k = t k := by
  obtain ⟨n1, n2, n3⟩ := zNw_new hP hf
  obtain ⟨t1, c1, c2, c3, c4⟩ := zJoinC (x := x) (blk := blk) h hP hf hs
  obtain ⟨r, er⟩ : ∃ r, r = zNw fr fd fp := ⟨_, rfl⟩
  rw [← er] at n1 n2 n3 c1 c2 ⊢
  have inr : zIn (mr + 1) (zfu R mr r) r := ⟨mr, by omega, zfu_same⟩
  have pne : ¬ p = r := fun w => by
    obtain ⟨i, i1, i2⟩ := hp
    exact n2 i i1 (i2.trans w)
  have inp : zIn (mr + 1) (zfu R mr r) p := by
    obtain ⟨i, i1, i2⟩ := hp
    exact ⟨i, by omega, by rw [zfu_ne (by omega)]; exact i2⟩
  have pqr : zfu pq r x r = x := zfu_same
  have pqp : zfu pq r x p = pq p := zfu_ne pne
  have ht1 : ∀ k, (k = 35 ∨ k = 37 ∨ k = 45 ∨ k = 83 ∨ k = 95 ∨ k = 97) → t1 k = t0 k := fun k hk => by rw [c4 k (by omega), ht k hk]
  obtain ⟨t2, d1, d2, d3⟩ := zHandC (m := m) (x := x) (sk := sk) (p0 := p0) (tS := t1) (TN := TN) (TE := TE) (num := fun r' k => if r' = r then 0 else num r' k) (H := fun r' k => if r' = r then -1 else H r' k) inr (by omega) (by rw [pqr]; exact hn) hx (fun k hk => ht1 k (by omega)) h35 h37 hpk hsm (fun i hi => by rw [c4 62 (by decide)]; exact hC i hi) (fun i hi => ⟨by show (if r = r then 0 else num r (sk + i)) = 0; rw [if_pos rfl], by show (if r = r then -1 else H r (sk + i)) = -1; rw [if_pos rfl]⟩) m 0 (zFU - m - 1) t1 (by omega) (fun _ _ => rfl) c2
  rw [show zFU - m - 1 + m + 1 = zFU by unfold zFU; omega, Nat.add_zero] at d1
  obtain ⟨t3, e1, e2, e3⟩ := zGiveC (m := m) (x := x) (y := y) (sk := sk) (a := a) (p0 := p0) (tS := t2) (TE := TE) (J := J) (H := zHn (fun r' k => if r' = r then -1 else H r' k) r sk TE m) inp hp2 hy hx (fun k hk => by rw [d2 k (by omega), ht1 k (by omega)]) h35 h97 ham hpk hsm (fun i hi => by rw [pqp]; exact hJ i hi) m 0 (zFU - m - 1) t2 (by omega) (fun _ _ => rfl) d3
  rw [show zFU - m - 1 + m + 1 = zFU by unfold zFU; omega, Nat.add_zero] at e1
  refine ⟨t3, ?_, e3, ?_, fun k hk => by rw [e2 k (by omega), d2 k (by omega), c4 k hk]⟩
  · rw [c1, pl_bd]
    unfold mX4_handOver mX4_giveAway
    rw [d1, pl_bd, zn_get hy (by decide), pl_bd, d2 95 (by decide), ht1 95 (by decide), h95, e1, pl_bd]
  · rw [e2 60 (by decide), d2 60 (by decide), c3]
theorem zSpawnR {n : Nat → Nat} {Q mr m p x y sk a : Nat} {R pq : Nat → Nat} {fr fd : Nat} {fp : Nat → Nat} {sp ac : Nat → Int32} {num H u : zS} {J : Nat → Nat} {x8 x9 x10 : Int32} (h : zAR n mr R pq fr fd fp sp ac num H u) (hP : zAP Q mr R pq fr fd fp) (hf : fd = 0 → fr < 2500) (hs : zSs (fun i => n (pq (R i))) mr + n x ≤ 12000) (hp : zIn mr R p) (hp2 : p < 2501) (hy : y < 1000) (hx : x < Q) (hQ : Q ≤ 300) (hst : ∀ q, q < Q → ∃ b, u 31 q = Int32.ofNat b ∧ u 31 (q + 1) = Int32.ofNat (b + n q) ∧ b + n q ≤ 3000) (hn : sk + m ≤ n x) (h19 : u 19 y = Int32.ofNat a) (h20 : u 20 y = Int32.ofNat m) (ham : a + m ≤ 1500) (hsm : sk + m ≤ 1500) (hJ : ∀ i, i < m → 0 ≤ u 60 i → u 26 (a + i) = Int32.ofNat (J i) ∧ J i < n (pq p)) :
    ∃ u2, lX12_calls_303 zFU (Int32.ofNat p) (Int32.ofNat y) (Int32.ofNat x) 0 (Int32.ofNat sk) x8 x9 x10 0 u = zCY (Int32.ofNat p) (Int32.ofNat y) x8 x9 (Int32.ofNat (zNw fr fd fp)) u2 ∧ zAR n (mr + 1) (zfu R mr (zNw fr fd fp)) (zfu pq (zNw fr fd fp) x) (if fd = 0 then fr + 1 else fr) (fd - 1) fp (zfu (zfu sp p (u 21 y)) (zNw fr fd fp) (u 29 x)) (zfu ac (zNw fr fd fp) 0) (zHn (fun r k => if r = zNw fr fd fp then 0 else num r k) (zNw fr fd fp) sk (u 59) m) (zHn (fun r k => if r = zNw fr fd fp then -1 else zGa H p J (u 60) m r k) (zNw fr fd fp) sk (u 60) m) u2 ∧ u2 0 79 = u 0 79 + 1 ∧ u2 0 80 = u 0 80 + Int32.ofNat (4 + n x) ∧ (∀ j, ¬ (j = 79 ∨ j = 80 ∨ j = 85 ∨ j = 88 ∨ j = 94 ∨ j = 105) → u2 0 j = u 0 j) ∧ ∀ k, ¬ (k = 0 ∨ (46 ≤ k ∧ k ≤ 53)) → u2 k = u k := by
  obtain ⟨n1, n2, n3⟩ := zNw_new hP hf
  obtain ⟨u1, c1, c2, c3⟩ := zGiveR (m := m) (y := y) (a := a) (J := J) (uS := u) (x3 := Int32.ofNat x) (x6 := Int32.ofNat sk) (x8 := x8) (x9 := x9) (x10 := x10) (H := H) hp (by omega) hy h19 h20 ham hJ m 0 (zFU - m - 1) u (by omega) (fun _ _ => rfl) h
  rw [show zFU - m - 1 + m + 1 = zFU by unfold zFU; omega, show Int32.ofNat 0 = 0 from rfl] at c1
  obtain ⟨u2, e2⟩ : ∃ u2, u2 = zu u1 49 p (u 21 y) := ⟨_, rfl⟩
  have h2 : zAR n mr R pq fr fd fp (zfu sp p (u 21 y)) ac num (zGa H p J (u 60) m) u2 := by rw [e2]; exact zAR_sp c3
  have r2 : ∀ k, ¬ (k = 49 ∨ k = 53) → u2 k = u k := fun k hk => by rw [e2, zu_row (by omega), c2 k (by omega)]
  obtain ⟨u3, d1, d2, d3, d4, d5, d6⟩ := zNewP (x := x) h2 hP hf hx hQ (by rw [r2 31 (by decide)]; exact hst) hs
  rw [r2 29 (by decide)] at d2
  obtain ⟨r, er⟩ : ∃ r, r = zNw fr fd fp := ⟨_, rfl⟩
  rw [← er] at n1 n2 n3 d1 d2 ⊢
  have inr : zIn (mr + 1) (zfu R mr r) r := ⟨mr, by omega, zfu_same⟩
  have pqr : zfu pq r x r = x := zfu_same
  have r3 : ∀ k, ¬ (k = 0 ∨ (46 ≤ k ∧ k ≤ 53)) → u3 k = u k := fun k hk => by rw [d6 k hk, r2 k (by omega)]
  obtain ⟨u4, e1, e4, e5⟩ := zHandR (m := m) (y := y) (sk := sk) (uS := u3) (x1 := Int32.ofNat p) (x8 := x8) (x9 := x9) inr (by omega) hy (by rw [pqr]; exact hn) (by rw [r3 20 (by decide)]; exact h20) hsm m 0 (zFU - m - 1) u3 (by omega) (fun _ _ => rfl) d2
  rw [show zFU - m - 1 + m + 1 = zFU by unfold zFU; omega, show Int32.ofNat 0 = 0 from rfl] at e1
  rw [r3 59 (by decide), r3 60 (by decide)] at e5
  refine ⟨u4, ?_, e5, by rw [e4 0 (by decide), d3, r2 0 (by decide)], by rw [e4 0 (by decide), d4, r2 0 (by decide)], fun j hj => by rw [e4 0 (by decide), d5 j hj, r2 0 (by decide)], fun k hk => by rw [e4 k (by omega), r3 k hk]⟩
  rw [c1]
  unfold bX12_calls_362 bX12_calls_448
  rw [zn_rd (by omega) (by decide), c2 21 (by decide), zn_wr (by omega) (by decide), ← e2, if_pos rfl, d1, pl_bd, e1]
/-- both name the same -/
theorem zSpawnE {X : zS} {p r sk m : Nat} {J : Nat → Nat} {TE : Nat → Int32} (h : ¬ p = r) : zGa (zHn (fun r' k => if r' = r then -1 else X r' k) r sk TE m) p J TE m = zHn (fun r' k => if r' = r then -1 else zGa X p J TE m r' k) r sk TE m := by
  funext q
  by_cases e1 : q = r
  · subst e1
    rw [zGa_row (fun w => h w.symm)]
    funext j
    rw [zHn_at, zHn_at]
    show (if _ then _ else (if q = q then -1 else X q j)) = (if _ then _ else (if q = q then -1 else zGa X p J TE m q j))
    rw [if_pos rfl, if_pos rfl]
  · rw [zHn_row e1]
    by_cases e2 : q = p
    · subst e2
      rw [zGa_eq (X := X) (by rw [zHn_row e1]; funext j; show (if q = r then -1 else X q j) = X q j; rw [if_neg e1])]
      funext j
      show zGa X q J TE m q j = (if q = r then -1 else zGa X q J TE m q j)
      rw [if_neg e1]
    · rw [zGa_row e2, zHn_row e1]
      funext j
      show (if q = r then -1 else X q j) = (if q = r then -1 else zGa X p J TE m q j)
      rw [if_neg e1, if_neg e1, zGa_row e2]
theorem zSpE {sp : Nat → Int32} {p r : Nat} {a b : Int32} (h : ¬ p = r) : zfu (zfu sp r b) p a = zfu (zfu sp p a) r b := by
  funext q
  by_cases e1 : q = p
  · subst e1; rw [zfu_same, zfu_ne h, zfu_same]
  · rw [zfu_ne e1]
    by_cases e2 : q = r
    · subst e2; rw [zfu_same, zfu_same]
    · rw [zfu_ne e2, zfu_ne e2, zfu_ne e1]
