/-! the reference: the number of a NAME, and next() as a whole -/
theorem pl_nm31z {k2 : Int32 → zS → zR} {k fu : Nat} {x3 : Int32} {u : zS} : lX12_nameOf_31 k2 (fu + 1) (Int32.ofNat k) 0 x3 u = bX12_nameOf_82 k2 (Int32.ofNat k) 0 u := by
  rw [lX12_nameOf_31]
  unfold bX12_nameOf_31
  by_cases c : u 0 7 ≤ x3
  · rw [if_pos c]
  · rw [if_neg c, if_pos rfl]
theorem pl_nm31 {k2 : Int32 → zS → zR} {k a p l : Nat} {u : zS} (hk : k < 1600) (h3 : u 3 k = Int32.ofNat a) (h6 : u 0 6 = Int32.ofNat p) (h7 : u 0 7 = Int32.ofNat l) (ha : a + l ≤ 3000) (hp : p + l ≤ 3000) : ∀ (d i fu : Nat), d + i = l → lX12_nameOf_31 k2 (fu + d + 1) (Int32.ofNat k) 1 (Int32.ofNat i) u = bX12_nameOf_82 k2 (Int32.ofNat k) (if zsame (u 2) d (a + i) (p + i) = true then 1 else 0) u := by
  intro d
  induction d with
  | zero =>
    intro i fu hi
    rw [lX12_nameOf_31]
    unfold bX12_nameOf_31
    rw [if_pos (by rw [h7, zn_le (by omega) (by omega)]; omega), zsame, if_pos rfl]
  | succ d ih =>
    intro i fu hi
    rw [show fu + (d + 1) + 1 = (fu + d + 1) + 1 by omega, lX12_nameOf_31]
    unfold bX12_nameOf_31
    rw [if_neg (by rw [h7, zn_le (by omega) (by omega)]; omega), if_neg pl_10, zn_rd hk (by decide), h3, zn_add, zn_rd (by omega) (by decide), h6, zn_add, zn_rd (by omega) (by decide)]
    unfold bX12_nameOf_75 zsame
    by_cases c : u 2 (a + i) = u 2 (p + i)
    · rw [if_pos c, if_pos c, pl_let, zn_1, ih (i + 1) fu (by omega)]
      rfl
    · rw [if_neg c, if_neg c, pl_let, zn_1, pl_nm31z]
      rfl
theorem pl_nm2 {k2 : Int32 → zS → zR} {k N a la p l : Nat} {u : zS} (hN : u 0 11 = Int32.ofNat N) (hN2 : N ≤ 1600) (hk : k < N) (h3 : u 3 k = Int32.ofNat a) (h4 : u 4 k = Int32.ofNat la) (h6 : u 0 6 = Int32.ofNat p) (h7 : u 0 7 = Int32.ofNat l) (ha : a + la ≤ 3000) (hp : p + l ≤ 3000) :
    bX12_nameOf_2 k2 (Int32.ofNat k) u = (if la = l ∧ zsame (u 2) l a p = true then some (Int32.ofNat k, u) else k2 (Int32.ofNat (k + 1)) u) := by
  unfold bX12_nameOf_2
  rw [if_neg (by rw [hN, zn_le (by omega) (by omega)]; omega), zn_rd (by omega) (by decide), h4, h7]
  by_cases c : la = l
  · subst c
    rw [if_pos rfl]
    unfold bX12_nameOf_28
    rw [show zFU = (999999 - la) + la + 1 by show 1000000 = _; omega, show (0 : Int32) = Int32.ofNat 0 from rfl, pl_nm31 (by omega) h3 h6 h7 ha hp la 0 _ (by omega)]
    unfold bX12_nameOf_82
    rw [Nat.add_zero, Nat.add_zero]
    by_cases c2 : zsame (u 2) la a p = true
    · rw [if_pos c2, if_neg pl_10, if_pos ⟨rfl, c2⟩]
    · rw [if_neg c2, if_pos rfl, if_neg (fun w => c2 w.2), pl_let, zn_1]
  · rw [if_neg (fun w => c ((zn_inj (by omega) (by omega)).mp w)), if_neg (fun w => c w.1)]
    unfold bX12_nameOf_28
    rw [show zFU = 999999 + 1 from rfl, pl_nm31z]
    unfold bX12_nameOf_82
    rw [if_pos rfl, pl_let, zn_1]
theorem zNs_in {g : Nat → Int32} {n m i : Nat} {V : Nat → Nat} (h : zPn g n m V i = true) (hm : V i ∈ zNs g n m V i) : zNs g n m V (i + 1) = zNs g n m V i := by
  unfold zNs at *
  conv => lhs; unfold zLs
  rw [if_neg (fun w => w.2 hm)]
theorem zNs_new {g : Nat → Int32} {n m i : Nat} {V : Nat → Nat} (h : zPn g n m V i = true) (hm : ¬ V i ∈ zNs g n m V i) : zNs g n m V (i + 1) = zNs g n m V i ++ [V i] := by
  unfold zNs at *
  conv => lhs; unfold zLs
  rw [if_pos ⟨h, hm⟩]
theorem zNs_no {g : Nat → Int32} {n m i : Nat} {V : Nat → Nat} (h : ¬ zPn g n m V i = true) : zNs g n m V (i + 1) = zNs g n m V i := by
  unfold zNs
  conv => lhs; unfold zLs
  rw [if_neg (fun w => h w.1)]
theorem pl_nameOf {g : Nat → Int32} {n m i : Nat} {V : Nat → Nat} {u : zS} (W : zWf g n m V) (hn : n ≤ 3000) (h2 : u 2 = g) (hi : i < m) (hl : zltb (g (zpos g n i)) = true) (hv : 17 ≤ V i) (h6 : u 0 6 = Int32.ofNat (zpos g n i)) (h7 : u 0 7 = Int32.ofNat (zend g n (zpos g n i) - zpos g n i)) (hM : zNM g n m V i u) :
    ∃ w u2, mX12_nameOf u = some (Int32.ofNat w, u2) ∧ (zNs g n m V (i + 1))[w]? = some (V i) ∧ zNM g n m V (i + 1) u2 ∧ (∀ k, k ≠ 0 → k ≠ 3 → k ≠ 4 → u2 k = u k) ∧ ∀ j, j ≠ 11 → u2 0 j = u 0 j := by
  have hP : zPn g n m V i = true := by unfold zPn; exact decide_eq_true ⟨hi, hl, hv⟩
  have hp := (W.2.2.1 i hi).1
  have hz := zend_lt (g := g) hp
  have hlen := zNs_len W i
  have hlen1 := zNs_len W (i + 1)
  have stp : ∀ (k2 : Int32 → zS → zR) (k v : Nat), (zNs g n m V i)[k]? = some v → bX12_nameOf_2 k2 (Int32.ofNat k) u = (if v = V i then some (Int32.ofNat k, u) else k2 (Int32.ofNat (k + 1)) u) := by
    intro k2 k v hkv
    obtain ⟨j, j1, j2, j3, j4, j5⟩ := hM.2 k v hkv
    have hpj := (W.2.2.1 j j1).1
    have hzj := zend_lt (g := g) hpj
    rw [pl_nm2 hM.1 hlen (zLs_lt hkv) j4 j5 h6 h7 (by omega) (by omega), h2]
    have tx := W.2.2.2.1 j i j1 hi j2 hl
    rw [j3] at tx
    by_cases c : v = V i
    · obtain ⟨e1, e2⟩ := tx.mp c
      rw [if_pos ⟨e1, (zsame_iff _ _ _).mpr (fun q hq => e2 q (by omega))⟩, if_pos c]
    · rw [if_neg (fun w => c (tx.mpr ⟨w.1, fun q hq => (zsame_iff _ _ _).mp w.2 q (by omega)⟩)), if_neg c]
  have hget : ∀ k, k < (zNs g n m V i).length → ∃ v, (zNs g n m V i)[k]? = some v := fun k hk => ⟨(zNs g n m V i)[k], List.getElem?_eq_getElem hk⟩
  by_cases hin : V i ∈ zNs g n m V i
  · obtain ⟨w, hw⟩ := List.mem_iff_getElem?.mp hin
    have hwl := zLs_lt hw
    have go : ∀ (d k fu : Nat), d + k = w → lX12_nameOf_2 (fu + d + 1) (Int32.ofNat k) u = some (Int32.ofNat w, u) := by
      intro d
      induction d with
      | zero =>
        intro k fu hk
        have e : k = w := by omega
        subst e
        rw [lX12_nameOf_2, stp _ k _ hw, if_pos rfl]
      | succ d ih =>
        intro k fu hk
        obtain ⟨v, hv2⟩ := hget k (by omega)
        rw [show fu + (d + 1) + 1 = (fu + d + 1) + 1 by omega, lX12_nameOf_2, stp _ k v hv2, if_neg (fun e => by
          subst e
          have := zLs_inj i k w _ hv2 hw
          omega)]
        exact ih (k + 1) fu (by omega)
    refine ⟨w, u, ?_, by rw [zNs_in hP hin]; exact hw, ?_, fun _ _ _ _ => rfl, fun _ _ => rfl⟩
    · unfold mX12_nameOf
      rw [show zFU = (999999 - w) + w + 1 by show 1000000 = _; omega]
      exact go w 0 _ (by omega)
    · unfold zNM
      rw [zNs_in hP hin]; exact hM
  · have hnew := zNs_new hP hin
    rw [hnew, List.length_append, List.length_singleton] at hlen1
    have eN : (Int32.ofNat ((zNs g n m V i).length + 1) - 1) = Int32.ofNat (zNs g n m V i).length := zn_sub (a := (zNs g n m V i).length + 1) (b := 1) (by omega) (by omega)
    have go : ∀ (d k fu : Nat), d + k = (zNs g n m V i).length → lX12_nameOf_2 (fu + d + 1) (Int32.ofNat k) u = some (Int32.ofNat (zNs g n m V i).length, zu (zu (zu u 3 (zNs g n m V i).length (u 0 6)) 4 (zNs g n m V i).length (u 0 7)) 0 11 (Int32.ofNat ((zNs g n m V i).length + 1))) := by
      intro d
      induction d with
      | zero =>
        intro k fu hk
        have e : k = (zNs g n m V i).length := by omega
        rw [e, lX12_nameOf_2]
        unfold bX12_nameOf_2
        rw [hM.1, if_pos (Int32.le_refl _), zn_wr (by omega) (by decide)]
        simp only [zu_ne1 (show (0 : Nat) ≠ 3 by decide), zu_ne1 (show (0 : Nat) ≠ 4 by decide), hM.1]
        rw [zn_wr (by omega) (by decide), pl_pt]
        simp only [zu_ne1 (show (0 : Nat) ≠ 3 by decide), zu_ne1 (show (0 : Nat) ≠ 4 by decide), hM.1, zn_1, zu_same, eN]
      | succ d ih =>
        intro k fu hk
        obtain ⟨v, hv2⟩ := hget k (by omega)
        rw [show fu + (d + 1) + 1 = (fu + d + 1) + 1 by omega, lX12_nameOf_2, stp _ k v hv2, if_neg (fun e => by
          subst e
          exact hin (List.mem_of_getElem? hv2))]
        exact ih (k + 1) fu (by omega)
    refine ⟨(zNs g n m V i).length, zu (zu (zu u 3 (zNs g n m V i).length (u 0 6)) 4 (zNs g n m V i).length (u 0 7)) 0 11 (Int32.ofNat ((zNs g n m V i).length + 1)), ?_, ?_, ?_, fun k k1 k2 k3 => ?_, fun j hj => ?_⟩
    · unfold mX12_nameOf
      rw [show zFU = (999999 - (zNs g n m V i).length) + (zNs g n m V i).length + 1 by show 1000000 = _; omega]
      exact go _ 0 _ (by omega)
    · rw [hnew, List.getElem?_append_right (Nat.le_refl _), Nat.sub_self]; rfl
    · unfold zNM
      rw [hnew]
      refine ⟨by rw [zu_same, List.length_append, List.length_singleton], fun k v hkv => ?_⟩
      by_cases c : k < (zNs g n m V i).length
      · rw [List.getElem?_append_left c] at hkv
        obtain ⟨j, j1, j2, j3, j4, j5⟩ := hM.2 k v hkv
        refine ⟨j, j1, j2, j3, ?_, ?_⟩
        · rw [zu_ne1 (by decide), zu_ne1 (by decide), zu_ne2 (by omega)]; exact j4
        · rw [zu_ne1 (by decide), zu_ne2 (by omega), zu_ne1 (by decide)]; exact j5
      · have l1 := zLs_lt hkv
        rw [List.length_append, List.length_singleton] at l1
        have e : k = (zNs g n m V i).length := by omega
        rw [e, List.getElem?_append_right (Nat.le_refl _), Nat.sub_self] at hkv
        have e2 : V i = v := by simpa using hkv
        refine ⟨i, hi, hl, e2, ?_, ?_⟩
        · rw [e, zu_ne1 (by decide), zu_ne1 (by decide), zu_same]; exact h6
        · rw [e, zu_ne1 (by decide), zu_same]; exact h7
    · rw [zu_row k1, zu_row k3, zu_row k2]
    · rw [zu_ne2 hj, zu_ne1 (by decide), zu_ne1 (by decide)]
theorem pl_byteAt {g : Nat → Int32} {n p : Nat} {u : zS} (hn : n ≤ 3000) (h2 : u 2 = g) (h3 : u 0 3 = Int32.ofNat n) (hp : p ≤ 3001) : mX12_byteAt (Int32.ofNat p) u = some ((if p < n then g p else 0), u) := by
  unfold mX12_byteAt
  by_cases c : p < n
  · rw [if_neg (by rw [h3, zn_le (by omega) (by omega)]; omega), zn_rd (by omega) (by decide), if_pos c, h2]
  · rw [if_pos (by rw [h3, zn_le (by omega) (by omega)]; omega), if_neg c]
theorem zNM_of {g : Nat → Int32} {n m i : Nat} {V : Nat → Nat} {u u2 : zS} (h : zNM g n m V i u) (h1 : u2 0 11 = u 0 11) (h3 : u2 3 = u 3) (h4 : u2 4 = u 4) : zNM g n m V i u2 := by
  unfold zNM at *
  rw [h1, h3, h4]; exact h
theorem pl_next {g : Nat → Int32} {n m i p0 : Nat} {V : Nat → Nat} {u : zS} (W : zWf g n m V) (hn : n ≤ 3000) (h2 : u 2 = g) (h3 : u 0 3 = Int32.ofNat n) (h4 : u 0 4 = Int32.ofNat p0) (hp0 : p0 ≤ n) (hs : zskip g n (n - p0) p0 = zpos g n i) (hi : i ≤ m) (hM : zNM g n m V i u) :
    ∃ u2, mX12_next u = some (0, u2) ∧ zMfr u u2 ∧ zNM g n m V (i + 1) u2 ∧ zWM g n m V i u2 := by
  rw [pl_mnext hn hp0 h4 h3, h2, hs]
  have hpn : zpos g n i ≤ n := by rw [← hs]; exact (zskip_le (n - p0) p0 (by omega)).2
  generalize hP : zpos g n i = p at hpn
  unfold bX12_next_52
  simp only [pl_pt]
  generalize hU : zu (zu (zu (zu u 0 4 (Int32.ofNat p)) 0 6 (zu u 0 4 (Int32.ofNat p) 0 4)) 0 7 0) 0 8 0 = u1
  have r4 : u1 0 4 = Int32.ofNat p := by rw [← hU]; simp [zu]
  have r6 : u1 0 6 = Int32.ofNat p := by rw [← hU]; simp [zu]
  have r7 : u1 0 7 = Int32.ofNat 0 := by rw [← hU]; simp [zu]
  have r8 : u1 0 8 = 0 := by rw [← hU]; simp [zu]
  have r3 : u1 0 3 = Int32.ofNat n := by rw [← hU]; simp [zu, h3]
  have r11 : u1 0 11 = u 0 11 := by rw [← hU]; simp [zu]
  have rr : ∀ k, k ≠ 0 → u1 k = u k := by intro k hk; rw [← hU, zu_row hk, zu_row hk, zu_row hk, zu_row hk]
  have r2 : u1 2 = g := by rw [rr 2 (by decide)]; exact h2
  have fr1 : zMfr u u1 := by
    rw [← hU]
    exact zMfr_trans (zMfr_trans (zMfr_trans (zMfr_0 (by decide)) (zMfr_0 (by decide))) (zMfr_0 (by decide))) (zMfr_0 (by decide))
  have hM1 : zNM g n m V i u1 := zNM_of hM r11 (rr 3 (by decide)) (rr 4 (by decide))
  rw [r4, pl_byteAt hn r2 r3 (by omega), pl_bd, r3]
  by_cases hend : p = n
  · have hno : ¬ zPn g n m V i = true := by
      unfold zPn
      rw [decide_eq_true_iff]
      intro w
      have := (W.2.2.1 i w.1).1
      omega
    rw [if_pos (by rw [r4, hend])]
    unfold bX12_next_414
    rw [pl_pt]
    refine ⟨_, rfl, zMfr_trans (zMfr_trans fr1 (zMfr_0 (by decide))) (zMfr_0 (by decide)), ?_, ?_⟩
    · have h9 : zNM g n m V (i + 1) u1 := by unfold zNM; rw [zNs_no hno]; exact hM1
      exact zNM_of h9 (by simp [zu]) (by rw [zu_row (by decide), zu_row (by decide)]) (by rw [zu_row (by decide), zu_row (by decide)])
    · unfold zWM
      rw [hP]
      refine ⟨by simp [zu, r6], fun _ => ⟨by simp [zu], ?_⟩, fun w => by omega⟩
      rw [zu_same, zu_ne2 (by decide), zu_ne2 (by decide), r6, r7, zn_add, hend]; rfl
  · have hp : p < n := by omega
    have him : i < m := by
      rcases Nat.lt_or_ge i m with q | q
      · exact q
      · have : i = m := by omega
        subst this
        have := W.1
        omega
    rw [if_neg (by rw [r4, zn_inj (by omega) (by omega)]; exact hend), if_pos hp]
    have hz := zend_lt (g := g) hp
    by_cases hl : zltb (g p) = true
    · have eend : zend g n p = zrun zaln g n (n - p) p := by unfold zend; rw [if_pos hl]
      rw [pl_mLt (zltb_iff.mp hl), pl_bd, if_neg pl_10, show zFU = (999999 - (n - p)) + (n - p) + 1 by show 1000000 = _; omega, pl_mname (a := p) hn (n - p) p _ u1 (by omega) (Nat.le_refl _) r6 (by rw [Nat.sub_self]; exact r7) r3, r2, ← eend]
      generalize hU2 : zu u1 0 7 (Int32.ofNat (zend g n p - p)) = u2
      have s6 : u2 0 6 = Int32.ofNat p := by rw [← hU2]; simp [zu, r6]
      have s7 : u2 0 7 = Int32.ofNat (zend g n p - p) := by rw [← hU2]; simp [zu]
      have s2 : u2 2 = g := by rw [← hU2, zu_row (by decide)]; exact r2
      have fr2 : zMfr u u2 := by rw [← hU2]; exact zMfr_trans fr1 (zMfr_0 (by decide))
      have hM2 : zNM g n m V i u2 := zNM_of hM1 (by rw [← hU2]; simp [zu]) (by rw [← hU2, zu_row (by decide)]) (by rw [← hU2, zu_row (by decide)])
      unfold bX12_next_174
      rw [pl_keyOf W hn s2 him (by rw [hP]; exact hl) (by rw [hP]; exact s6) (by rw [hP]; exact s7), pl_bd, pl_pt, zu_same]
      have hV := (W.2.2.1 i him).2 (by rw [hP]; exact hl)
      by_cases hk : V i < 17
      · have hno : ¬ zPn g n m V i = true := by
          unfold zPn
          rw [decide_eq_true_iff]
          intro w
          omega
        rw [if_pos hk, if_neg (by rw [pl_le, pl_ofn (by omega)]; have z0 : (0 : Int32).toInt = 0 := by decide
                                  omega)]
        unfold bX12_next_195
        rw [pl_pt, zu_same, if_neg (by decide)]
        unfold bX12_next_414
        rw [pl_pt]
        refine ⟨_, rfl, zMfr_trans (zMfr_trans (zMfr_trans fr2 (zMfr_0 (by decide))) (zMfr_0 (by decide))) (zMfr_0 (by decide)), ?_, ?_⟩
        · have h9 : zNM g n m V (i + 1) u2 := by unfold zNM; rw [zNs_no hno]; exact hM2
          exact zNM_of h9 (by simp [zu]) (by rw [zu_row (by decide), zu_row (by decide), zu_row (by decide)]) (by rw [zu_row (by decide), zu_row (by decide), zu_row (by decide)])
        · unfold zWM
          rw [hP]
          refine ⟨by simp [zu, s6], fun w => absurd w hend, fun _ => ⟨?_, fun _ => ⟨fun _ => ⟨by simp [zu], by simp [zu]⟩, fun w => by omega⟩, fun w => ?_, fun w => ?_⟩⟩
          · rw [zu_same, zu_ne2 (by decide), zu_ne2 (by decide), zu_ne2 (by decide), zu_ne2 (by decide), s6, s7, zn_add, show p + (zend g n p - p) = zend g n p by omega]
          · rw [hl] at w; cases w
          · rw [hl] at w; cases w
      · rw [if_neg hk, if_pos (by decide)]
        unfold bX12_next_195
        rw [pl_pt, zu_same, if_pos rfl]
        generalize hU3 : zu (zu u2 0 8 (Int32.ofNat 0)) 0 5 2 = u3
        have v6 : u3 0 6 = Int32.ofNat p := by rw [← hU3]; simp [zu, s6]
        have v7 : u3 0 7 = Int32.ofNat (zend g n p - p) := by rw [← hU3]; simp [zu, s7]
        have v5 : u3 0 5 = 2 := by rw [← hU3]; simp [zu]
        have v2 : u3 2 = g := by rw [← hU3, zu_row (by decide), zu_row (by decide)]; exact s2
        have fr3 : zMfr u u3 := by rw [← hU3]; exact zMfr_trans (zMfr_trans fr2 (zMfr_0 (by decide))) (zMfr_0 (by decide))
        have hM3 : zNM g n m V i u3 := zNM_of hM2 (by rw [← hU3]; simp [zu]) (by rw [← hU3, zu_row (by decide), zu_row (by decide)]) (by rw [← hU3, zu_row (by decide), zu_row (by decide)])
        obtain ⟨w, u4, a1, a2, a3, a4, a5⟩ := pl_nameOf W hn v2 him (by rw [hP]; exact hl) (by omega) (by rw [hP]; exact v6) (by rw [hP]; exact v7) hM3
        rw [a1, pl_bd, pl_pt]
        unfold bX12_next_414
        rw [pl_pt]
        have fr4 : zMfr u u4 := zMfr_trans fr3 ⟨a4, fun j _ _ _ _ _ j6 => a5 j j6⟩
        refine ⟨_, rfl, zMfr_trans (zMfr_trans fr4 (zMfr_0 (by decide))) (zMfr_0 (by decide)), ?_, ?_⟩
        · exact zNM_of a3 (by simp [zu]) (by rw [zu_row (by decide), zu_row (by decide)]) (by rw [zu_row (by decide), zu_row (by decide)])
        · unfold zWM
          rw [hP]
          refine ⟨?_, fun w => absurd w hend, fun _ => ⟨?_, fun _ => ⟨fun q => absurd q hk, fun _ => ⟨?_, w, ?_, a2⟩⟩, fun w => ?_, fun w => ?_⟩⟩
          · rw [zu_ne2 (by decide), zu_ne2 (by decide), a5 6 (by decide)]; exact v6
          · rw [zu_same, zu_ne2 (by decide), zu_ne2 (by decide), a5 6 (by decide), a5 7 (by decide), v6, v7, zn_add, show p + (zend g n p - p) = zend g n p by omega]
          · rw [zu_ne2 (by decide), zu_ne2 (by decide), a5 5 (by decide)]; exact v5
          · rw [zu_ne2 (by decide), zu_same]
          · rw [hl] at w; cases w
          · rw [hl] at w; cases w
    · have hl' : zltb (g p) = false := by cases hq : zltb (g p) with
        | false => rfl
        | true => exact absurd hq hl
      have hno : ¬ zPn g n m V i = true := by
        unfold zPn
        rw [decide_eq_true_iff, hP]
        intro w
        exact hl w.2.1
      have h9 : zNM g n m V (i + 1) u1 := by unfold zNM; rw [zNs_no hno]; exact hM1
      rw [pl_mLf (fun x => hl (zltb_iff.mpr x)), pl_bd, if_pos rfl]
      by_cases hdg : zdig (g p) = true
      · have eend : zend g n p = zrun zdig g n (n - p) p := by unfold zend; rw [if_neg hl, if_pos hdg]
        rw [pl_mDt (zdig_iff.mp hdg), pl_bd, if_neg pl_10, show zFU = (999999 - (n - p)) + (n - p) + 1 by show 1000000 = _; omega, pl_mdigs (a := p) hn (n - p) p _ u1 (by omega) (Nat.le_refl _) r6 (by rw [Nat.sub_self]; exact r7) r3, r2, ← eend]
        unfold bX12_next_273
        rw [zu_same]
        by_cases c9 : zend g n p - p ≤ 9
        · rw [if_pos (show Int32.ofNat (zend g n p - p) ≤ (9 : Int32) from (zn_le (b := 9) (by omega) (by omega)).mpr c9)]
          unfold bX12_next_288
          rw [pl_pt, show zFU = (999999 - (zend g n p - p)) + (zend g n p - p) + 1 by show 1000000 = _; omega, pl_mnum (a := p) (l := zend g n p - p) (by omega) (zend g n p - p) 0 _ 0 _ (by omega) rfl (by simp [zu, r6]) (by simp [zu]) (by simp [zu])]
          unfold bX12_next_341 bX12_next_414
          rw [pl_pt]
          refine ⟨_, rfl, zMfr_trans (zMfr_trans (zMfr_trans (zMfr_trans fr1 (zMfr_0 (by decide))) (zMfr_0 (by decide))) (zMfr_0 (by decide))) (zMfr_0 (by decide)), ?_, ?_⟩
          · exact zNM_of h9 (by simp [zu]) (by rw [zu_row (by decide), zu_row (by decide), zu_row (by decide), zu_row (by decide)]) (by rw [zu_row (by decide), zu_row (by decide), zu_row (by decide), zu_row (by decide)])
          · unfold zWM
            rw [hP]
            refine ⟨by simp [zu, r6], fun w => absurd w hend, fun _ => ⟨?_, fun w => absurd w hl, fun _ _ => ⟨by rw [if_pos c9]; simp [zu], fun _ => ?_⟩, fun _ w => ?_⟩⟩
            · rw [zu_same]
              rw [show ∀ x, zu (zu (zu u1 0 7 (Int32.ofNat (zend g n p - p))) 0 5 3) 0 8 x 0 6 = Int32.ofNat p from fun x => by simp [zu, r6], show ∀ x, zu (zu (zu u1 0 7 (Int32.ofNat (zend g n p - p))) 0 5 3) 0 8 x 0 7 = Int32.ofNat (zend g n p - p) from fun x => by simp [zu], zn_add, show p + (zend g n p - p) = zend g n p by omega]
            · rw [zu_ne2 (by decide), zu_same, zu_row (by decide), zu_row (by decide), r2, Nat.add_zero, zu_ne2 (by decide), zu_ne2 (by decide), r8]
            · rw [hdg] at w; cases w
        · rw [if_neg (show ¬ Int32.ofNat (zend g n p - p) ≤ (9 : Int32) from fun w => c9 ((zn_le (b := 9) (by omega) (by omega)).mp w))]
          unfold bX12_next_288
          rw [pl_pt, show zFU = 999999 + 1 from rfl, lX12_next_293]
          unfold bX12_next_293
          rw [if_neg (by rw [zu_ne2 (by decide), zu_same, pl_le, pl_ofn (by omega)]; have z0 : (0 : Int32).toInt = 0 := by decide
                         omega), if_neg (by rw [zu_same]; decide)]
          unfold bX12_next_341 bX12_next_414
          rw [pl_pt]
          refine ⟨_, rfl, zMfr_trans (zMfr_trans (zMfr_trans fr1 (zMfr_0 (by decide))) (zMfr_0 (by decide))) (zMfr_0 (by decide)), ?_, ?_⟩
          · exact zNM_of h9 (by simp [zu]) (by rw [zu_row (by decide), zu_row (by decide), zu_row (by decide)]) (by rw [zu_row (by decide), zu_row (by decide), zu_row (by decide)])
          · unfold zWM
            rw [hP]
            refine ⟨by simp [zu, r6], fun w => absurd w hend, fun _ => ⟨?_, fun w => absurd w hl, fun _ _ => ⟨by rw [if_neg c9]; simp [zu], fun w => absurd w c9⟩, fun _ w => ?_⟩⟩
            · rw [zu_same, zu_ne2 (by decide), zu_ne2 (by decide), zu_ne2 (by decide), zu_same, r6, zn_add, show p + (zend g n p - p) = zend g n p by omega]
            · rw [hdg] at w; cases w
      · have hdgf : zdig (g p) = false := by cases hq : zdig (g p) with
          | false => rfl
          | true => exact absurd hq hdg
        have fin : ∀ (y : Nat) (hy : zend g n p = p + y) (x : Int32), (if g p = 61 ∧ p + 1 < n ∧ g (p + 1) = 61 then 69 else g p) = x → ∃ u2, bX12_next_395 (g p) x (zu u1 0 7 (Int32.ofNat y)) = some (0, u2) ∧ zMfr u u2 ∧ zNM g n m V (i + 1) u2 ∧ zWM g n m V i u2 := by
          intro y hy x hx
          unfold bX12_next_395
          rw [pl_pt, pl_mSg, pl_bd]
          have fin2 : ∀ (z : Int32), (if g p ∈ zSgs then 4 else 1) = z → ∃ u2, bX12_next_411 z (zu (zu u1 0 7 (Int32.ofNat y)) 0 8 x) = some (0, u2) ∧ zMfr u u2 ∧ zNM g n m V (i + 1) u2 ∧ zWM g n m V i u2 := by
            intro z hzz
            unfold bX12_next_411 bX12_next_414
            rw [pl_pt, pl_pt]
            refine ⟨_, rfl, zMfr_trans (zMfr_trans (zMfr_trans (zMfr_trans fr1 (zMfr_0 (by decide))) (zMfr_0 (by decide))) (zMfr_0 (by decide))) (zMfr_0 (by decide)), ?_, ?_⟩
            · exact zNM_of h9 (by simp [zu]) (by rw [zu_row (by decide), zu_row (by decide), zu_row (by decide), zu_row (by decide)]) (by rw [zu_row (by decide), zu_row (by decide), zu_row (by decide), zu_row (by decide)])
            · unfold zWM
              rw [hP]
              refine ⟨by simp [zu, r6], fun w => absurd w hend, fun _ => ⟨?_, fun w => absurd w hl, fun _ w => absurd w hdg, fun _ _ => ⟨by rw [hzz]; simp [zu], by rw [hx]; simp [zu]⟩⟩⟩
              rw [zu_same, zu_ne2 (by decide), zu_ne2 (by decide), zu_ne2 (by decide), zu_ne2 (by decide), zu_ne2 (by decide), zu_same, r6, zn_add, hy]
          by_cases c : g p ∈ zSgs
          · rw [if_pos c, if_neg pl_10]; exact fin2 4 (by rw [if_pos c])
          · rw [if_neg c, if_pos rfl]; exact fin2 1 (by rw [if_neg c])
        rw [pl_mDf (fun x => hdg (zdig_iff.mpr x)), pl_bd, if_pos rfl]
        have one : ¬ (g p = 61 ∧ p + 1 < n ∧ g (p + 1) = 61) → ∃ u2, bX12_next_369 (g p) u1 = some (0, u2) ∧ zMfr u u2 ∧ zNM g n m V (i + 1) u2 ∧ zWM g n m V i u2 := by
          intro hne
          unfold bX12_next_369 bX12_next_370 bX12_next_381
          rw [if_pos rfl, pl_pt, if_pos rfl]
          exact fin 1 (by unfold zend; rw [if_neg hl, if_neg hdg, if_neg hne]) (g p) (by rw [if_neg hne])
        by_cases c61 : g p = 61
        · rw [if_pos c61, r4, zn_1, pl_byteAt hn r2 r3 (by omega), pl_bd]
          by_cases c2 : p + 1 < n
          · rw [if_pos c2]
            by_cases c3 : g (p + 1) = 61
            · rw [if_pos c3]
              unfold bX12_next_370 bX12_next_381
              rw [if_neg pl_10, pl_pt, if_neg pl_10]
              exact fin 2 (by unfold zend; rw [if_neg hl, if_neg hdg, if_pos ⟨c61, c2, c3⟩]) 69 (by rw [if_pos ⟨c61, c2, c3⟩])
            · rw [if_neg c3]; exact one (fun w => c3 w.2.2)
          · rw [if_neg c2, if_neg (by decide)]; exact one (fun w => c2 w.2.1)
        · rw [if_neg c61]; exact one (fun w => c61 w.1)
