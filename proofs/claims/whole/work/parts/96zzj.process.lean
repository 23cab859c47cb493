/-! PROCESS: what a process tells -/
theorem pl_pickL {n : Nat → Nat} {Q m k : Nat} {R pq : Nat → Nat} {fr fd : Nat} {fp : Nat → Nat} {sp ac : Nat → Int32} {num H t : zS} (h : zAC n m R pq fr fd fp sp ac num H t) (hP : zAP Q m R pq fr fd fp) (hk : k < m) : ∀ (d i fu : Nat), i + d = k → lX8_pick_21 (fu + d + 1) (Int32.ofNat k) (Int32.ofNat (R i)) (Int32.ofNat i) t = some (Int32.ofNat (R k), t) := by
  have lt : ∀ i, i < m → R i < 2501 := fun i hi => by have := (hP.1 i hi).1; have := hP.2.2.2.1; omega
  have hm : m ≤ 2500 := by have := hP.2.2.1; have := hP.2.2.2.1; omega
  intro d
  induction d with
  | zero =>
    intro i fu hi
    have : i = k := by omega
    subst this
    show bX8_pick_21 _ _ _ _ t = _
    unfold bX8_pick_21
    rw [if_pos (Int32.le_refl _)]
  | succ d ih =>
    intro i fu hi
    have l1 := lt i (by omega)
    rw [← ih (i + 1) fu (by omega)]
    show bX8_pick_21 (lX8_pick_21 (fu + d + 1)) _ _ _ t = _
    unfold bX8_pick_21
    rw [if_neg (fun w => by have := (zn_le (by omega) (by omega)).mp w; omega), zn_get l1 (by decide), pl_bd, (h.1.2.2 i (by omega)).1, if_pos (by omega), pl_let, zn_1]
theorem pl_pick {n : Nat → Nat} {Q m k : Nat} {R pq : Nat → Nat} {fr fd : Nat} {fp : Nat → Nat} {sp ac : Nat → Int32} {num H t : zS} (h : zAC n m R pq fr fd fp sp ac num H t) (hP : zAP Q m R pq fr fd fp) (hk : k < m) : mX8_pick (Int32.ofNat k) t = some (Int32.ofNat (R k), t) := by
  have hm : m ≤ 2500 := by have := hP.2.2.1; have := hP.2.2.2.1; omega
  have := pl_pickL h hP hk k 0 (zFU - k - 1) (by omega)
  rw [show zFU - k - 1 + k + 1 = zFU by unfold zFU; omega, show Int32.ofNat 0 = 0 from rfl] at this
  unfold mX8_pick
  rw [if_neg (zn_neg (by omega)), h.2.1, if_pos ((zn_lt (by omega) (by omega)).mpr hk), pl_let, h.1.1, if_neg (by omega), this]
/-- the reference behind its count -/
def zPcX (x2 x3 x4 x5 : Int32) (t4906 : zS) : zR := if x2 = 1 then some (x5, t4906) else if x2 = 3 then zrd t4906 48 2600 x4 fun v4908 => zbd (mX12_ownMany v4908 t4906) fun r4910 t4911 => zbd (mX12_isIn (Int32.toInt64 x3) 0 (Int32.toInt64 (r4910 - 1)) t4911) fun r4913 t4914 => if r4913 = 0 then some (0, t4914) else zrd t4914 51 2600 x4 fun v4916 => zrd t4914 52 24000 (v4916 + x3) fun v4918 => some (v4918, t4914) else some (0, t4906)
theorem pl_count {n : Nat → Nat} {m p b c q : Nat} {R pq : Nat → Nat} {fr fd : Nat} {fp : Nat → Nat} {sp ac : Nat → Int32} {num H t u : zS} {x2 x3 : Int32} (hA : zAC n m R pq fr fd fp sp ac num H t) (hR : zAR n m R pq fr fd fp sp ac num H u) (hp : zIn m R p) (hp2 : p < 2501) (hn : n (pq p) ≤ 1100) (h48 : u 48 p = Int32.ofNat q) (hown : mX12_ownMany (Int32.ofNat q) u = some (Int32.ofNat (n (pq p)), u)) :
    ∀ (d i cnt fu fv : Nat), i + d = n (pq p) → ∃ c2, lX8_channels_4 (fu + d + 1) (Int32.ofNat p) (Int32.ofNat cnt) (Int32.ofNat i) t = some (Int32.ofNat c2, t) ∧ lX12_process_72 (fv + d + 1) x2 x3 (Int32.ofNat p) (Int32.ofNat cnt) (Int32.ofNat i) u = zPcX x2 x3 (Int32.ofNat p) (Int32.ofNat c2) u := by
  obtain ⟨bC, b1, b2, b3, b4, _⟩ := zMC_at hA.2.2.2.2.2.2 hp
  obtain ⟨bM, e1, e2, e3, _⟩ := zAR_at hR hp
  intro d
  induction d with
  | zero =>
    intro i cnt fu fv hi
    have : i = n (pq p) := by omega
    subst this
    refine ⟨cnt, ?_, ?_⟩
    · show bX8_channels_4 _ _ _ _ t = _
      unfold bX8_channels_4
      rw [zn_get hp2 (by decide), pl_bd, b3, if_pos (Int32.le_refl _)]
    · show bX12_process_72 _ _ _ _ _ _ u = _
      unfold bX12_process_72
      rw [zn_rd (by omega) (by decide), h48, hown, pl_bd, if_pos (Int32.le_refl _)]
      rfl
  | succ d ih =>
    intro i cnt fu fv hi
    have nle : ¬ Int32.ofNat (n (pq p)) ≤ Int32.ofNat i := fun w => by have := (zn_le (by omega) (by omega)).mp w; omega
    have ch : mX8_channel (Int32.ofNat p) (Int32.ofNat i) t = some (H p i, t) := zCh_get hA.2.2.2.2.2.2 hp hp2 (show i < n (pq p) by omega)
    have key : ∀ a : Nat, (∃ c2, bX8_channels_31 (lX8_channels_4 (fu + d + 1)) (Int32.ofNat p) (Int32.ofNat i) (Int32.ofNat a) (Int32.ofNat cnt) t = some (Int32.ofNat c2, t) ∧ bX12_process_113 (lX12_process_72 (fv + d + 1)) x2 x3 (Int32.ofNat p) (Int32.ofNat i) (Int32.ofNat a) (Int32.ofNat cnt) u = zPcX x2 x3 (Int32.ofNat p) (Int32.ofNat c2) u) := fun a => by
      obtain ⟨c2, z1, z2⟩ := ih (i + 1) (cnt + a) fu fv (by omega)
      refine ⟨c2, ?_, ?_⟩
      · unfold bX8_channels_31
        rw [pl_let, pl_let, zn_add, zn_1]; exact z1
      · unfold bX12_process_113
        rw [pl_let, pl_let, zn_add, zn_1]; exact z2
    have stC : lX8_channels_4 (fu + (d + 1) + 1) (Int32.ofNat p) (Int32.ofNat cnt) (Int32.ofNat i) t = if H p i < 0 then bX8_channels_31 (lX8_channels_4 (fu + d + 1)) (Int32.ofNat p) (Int32.ofNat i) (Int32.ofNat 0) (Int32.ofNat cnt) t else bX8_channels_31 (lX8_channels_4 (fu + d + 1)) (Int32.ofNat p) (Int32.ofNat i) (Int32.ofNat 1) (Int32.ofNat cnt) t := by
      show bX8_channels_4 (lX8_channels_4 (fu + d + 1)) _ _ _ t = _
      unfold bX8_channels_4
      rw [zn_get hp2 (by decide), pl_bd, b3, if_neg nle, ch, pl_bd]
      rfl
    have stM : lX12_process_72 (fv + (d + 1) + 1) x2 x3 (Int32.ofNat p) (Int32.ofNat cnt) (Int32.ofNat i) u = if H p i < 0 then bX12_process_113 (lX12_process_72 (fv + d + 1)) x2 x3 (Int32.ofNat p) (Int32.ofNat i) (Int32.ofNat 0) (Int32.ofNat cnt) u else bX12_process_113 (lX12_process_72 (fv + d + 1)) x2 x3 (Int32.ofNat p) (Int32.ofNat i) (Int32.ofNat 1) (Int32.ofNat cnt) u := by
      show bX12_process_72 (lX12_process_72 (fv + d + 1)) _ _ _ _ _ u = _
      unfold bX12_process_72
      rw [zn_rd (by omega) (by decide), h48, hown, pl_bd, if_neg nle, zn_rd (by omega) (by decide), e1, zn_add, zn_rd (by omega) (by decide), (e3 i (by omega)).2]
      rfl
    rw [stC, stM]
    by_cases c : H p i < 0
    · rw [if_pos c, if_pos c]; exact key 0
    · rw [if_neg c, if_neg c]; exact key 1
theorem zProcT {n : Nat} {t u : zS} (hC : zCnt t u) (hP : zPr n t u) (x y z : Int32) : ∃ r, mX11_process x y z t = some (r, t) ∧ mX12_process x y z u = some (r, u) := by
  have e0 : (0 : Int64).toInt = 0 := by decide
  have i0 : (0 : Int32).toInt = 0 := by decide
  have no : mX8_pick x t = some (-1, t) → ∃ r, mX11_process x y z t = some (r, t) ∧ bX12_process_23 y u = some (r, u) := fun h => by
    unfold mX11_process mX4_tell bX12_process_23
    rw [h, pl_bd, if_neg (by decide)]
    by_cases c : y = 0
    · rw [if_pos c, if_pos c, pl_bd]; exact ⟨-1, rfl, rfl⟩
    · rw [if_neg c, if_neg c, pl_bd]; exact ⟨0, rfl, rfl⟩
  have none : ∀ m : Nat, m ≤ 2500 → t 60 16 = Int32.ofNat m → (x.toInt < 0 ∨ (m : Int) ≤ x.toInt) → mX8_pick x t = some (-1, t) := fun m hm h1 h2 => by
    unfold mX8_pick
    by_cases c : x < 0
    · rw [if_pos c]
    · rw [if_neg c, h1, if_neg (fun w => by
        have a := Int32.lt_iff_toInt_lt.mp w
        rw [pl_ofn (by omega)] at a
        have b : ¬ x.toInt < 0 := fun w' => c (Int32.lt_iff_toInt_lt.mpr (by omega))
        omega)]
  rcases hC with ⟨c0, ⟨c1, c2, c3, c4, c5, _⟩ | ⟨c1, _⟩⟩
  · have := no (none 0 (by omega) c5 (by omega))
    unfold mX12_process
    rw [if_pos c1]
    exact this
  · rcases hP with ⟨_, q⟩ | ⟨p0, G, f, N, M, P, A, T, Q, Pa, bb, S, F, C, R, W, V, o, w, t0, u0, g, h1, h2, h3, h4, h5, h6 | ⟨_, m, Rg, ⟨pq, fr, fd, fp, sp, ac, num, H, Y, ql, MC, MR, fc, fk, rw, fq, mem, lim, a1, a2, a3, _⟩, _⟩⟩
    · rw [c1] at q; exact absurd q (by decide)
    · rw [c1] at h6; exact absurd h6 (by decide)
    · have hm : m ≤ 2500 := by have := a3.2.2.1; have := a3.2.2.2.1; omega
      have hQ : Q ≤ 300 := h1.1.2.2.2.2.2.2.2.2.1
      have last : (Int32.toInt64 (u 0 85 - 1)).toInt = (m : Int) - 1 := by
        rw [pl_64, a2.1]
        by_cases z0 : m = 0
        · subst z0; decide
        · rw [show Int32.ofNat m - 1 = Int32.ofNat (m - 1) from zn_sub (b := 1) (by omega) (by omega), pl_ofn (by omega)]
          omega
      unfold mX12_process
      rw [if_neg (by rw [c1]; decide)]
      by_cases c : x.toInt < 0 ∨ (m : Int) ≤ x.toInt
      · rw [pl_inf (by rw [last]; omega), pl_bd, if_pos rfl]
        exact no (none m hm a1.2.1 c)
      · rw [pl_int (by rw [last]; omega), pl_bd, if_neg pl_10]
        obtain ⟨k, k1, k2, k3⟩ := zNatOf (x := x) (Int32.le_iff_toInt_le.mpr (by omega))
        have hk : k < m := by omega
        rw [k1]
        obtain ⟨q1, q2⟩ := a3.1 k hk
        have p25 : Rg k < 2501 := by have := a3.2.2.2.1; omega
        have inp : zIn m Rg (Rg k) := ⟨k, hk, rfl⟩
        obtain ⟨n1, n2⟩ := zNq_at h1 q2
        obtain ⟨s46, s48, s49, s50⟩ := a2.2.2.2.2.1 k hk
        obtain ⟨b127, b129, b131⟩ := a1.2.2.2.2.2.1 k hk
        obtain ⟨b, y1, y2, y3⟩ := zSt31 h1 h4 _ q2
        have own : mX12_ownMany (Int32.ofNat (pq (Rg k))) u = some (Int32.ofNat (zNq t0 (pq (Rg k))), u) := pl_own (by omega) y1 y2 (by omega)
        obtain ⟨bC, d1, d2, d3, d4, _⟩ := zMC_at a1.2.2.2.2.2.2 inp
        obtain ⟨bM, g1, g2, g3, _⟩ := zAR_at a2 inp
        rw [zn_rd (by omega) (by decide), s46]
        unfold mX11_process mX4_tell
        rw [pl_pick a1 a3 hk, pl_bd, if_pos (zn_0le (by omega))]
        by_cases r0 : y = 0
        · rw [if_pos r0, if_pos r0, zn_get p25 (by decide), pl_bd, pl_bd, b127, zn_rd (by omega) (by decide), s48]
          exact ⟨_, rfl, rfl⟩
        · rw [if_neg r0, if_neg r0]
          by_cases r2 : y = 2
          · subst r2
            rw [if_neg (show ¬ (2 : Int32) = 1 by decide), if_pos (show (2 : Int32) = 2 from rfl), if_pos (show (2 : Int32) = 2 from rfl), zn_get p25 (by decide), pl_bd, pl_bd, b131, zn_rd (by omega) (by decide), s50]
            exact ⟨_, rfl, rfl⟩
          · rw [if_neg r2, if_neg r2]
            obtain ⟨c2, z1, z2⟩ := pl_count (q := pq (Rg k)) (b := 0) (c := 0) (x2 := y) (x3 := z) a1 a2 inp p25 n2 s48 own (zNq t0 (pq (Rg k))) 0 0 (zFU - zNq t0 (pq (Rg k)) - 1) (zFU - zNq t0 (pq (Rg k)) - 1) (by omega)
            rw [show zFU - zNq t0 (pq (Rg k)) - 1 + zNq t0 (pq (Rg k)) + 1 = zFU by unfold zFU; omega, show Int32.ofNat 0 = 0 from rfl] at z1 z2
            rw [z2]
            unfold zPcX mX8_channels
            by_cases r1 : y = 1
            · rw [if_pos r1, if_pos r1, z1, pl_bd, pl_bd]
              exact ⟨_, rfl, rfl⟩
            · rw [if_neg r1, if_neg r1]
              by_cases r3 : y = 3
              · have lastn : (Int32.toInt64 (Int32.ofNat (zNq t0 (pq (Rg k))) - 1)).toInt = (zNq t0 (pq (Rg k)) : Int) - 1 := by
                  rw [pl_64]
                  by_cases z0 : zNq t0 (pq (Rg k)) = 0
                  · rw [z0]; decide
                  · rw [show Int32.ofNat (zNq t0 (pq (Rg k))) - 1 = Int32.ofNat (zNq t0 (pq (Rg k)) - 1) from zn_sub (b := 1) (by omega) (by omega), pl_ofn (by omega)]
                    omega
                rw [if_pos r3, if_pos r3, zn_rd (by omega) (by decide), s48, own, pl_bd]
                by_cases l : z < 0
                · have l' := Int32.lt_iff_toInt_lt.mp l
                  rw [if_pos l, pl_bd, pl_inf (by rw [lastn]; omega), pl_bd, if_pos rfl]
                  exact ⟨_, rfl, rfl⟩
                · have l' : ¬ z.toInt < 0 := fun w => l (Int32.lt_iff_toInt_lt.mpr (by omega))
                  obtain ⟨j, j1, j2, j3⟩ := zNatOf (x := z) (Int32.not_lt.mp l)
                  rw [if_neg l, zn_get p25 (by decide), pl_bd, d3]
                  by_cases lj : j < zNq t0 (pq (Rg k))
                  · rw [pl_int (by rw [lastn]; omega), pl_bd, if_neg pl_10, j1, if_neg (fun w => by have := (zn_le (by omega) (by omega)).mp w; omega), zn_get p25 (by decide), pl_bd, d1, zn_add, zn_get (by omega) (by decide), pl_bd, pl_bd, (d4 j lj).1, zn_rd (by omega) (by decide), g1, zn_add, zn_rd (by omega) (by decide), (g3 j lj).1]
                    exact ⟨_, rfl, rfl⟩
                  · rw [pl_inf (by rw [lastn]; omega), pl_bd, if_pos rfl, j1, if_pos ((zn_le (by omega) (by omega)).mpr (by omega)), pl_bd]
                    exact ⟨_, rfl, rfl⟩
              · rw [if_neg r3, if_neg r3, pl_bd]
                exact ⟨_, rfl, rfl⟩
/-- the step PROCESS -/
theorem st_process {n : Nat} {t u : zS} (h : zR4 (fun t u => zCnt t u ∧ zPr n t u) t u) (x y z : Int32) : zStp (fun t u => zCnt t u ∧ zPr (n + 1) t u) (mX11_process x y z t) (mX12_process x y z u) := by
  obtain ⟨hT, hZ, hI, hC, hP⟩ := h
  have hC : zCnt t u := hC
  obtain ⟨r, a, b⟩ := zProcT hC (zPr_u hP hI) x y z
  exact ⟨r, t, u, a, b, hT, hZ, hI, hC, zPr_mono hP (by omega)⟩
