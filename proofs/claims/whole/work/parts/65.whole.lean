set_option maxHeartbeats 8000000 in
set_option maxRecDepth 100000 in
/-- THE LAW, from its entry, out of a relation that every call keeps -/
theorem whole_of (Rel : Nat → zS → zS → Prop) (hR0 : Rel 0 zs0C zs0M)
    (hstep : ∀ (n : Nat) (t u : zS) (op a b c d e : Int32), n < 512 → Rel n t u → ∃ (r : Int32) (t2 u2 : zS), zkC op a b c d e t = some (r, t2) ∧ zkM op a b c d e u = some (r, u2) ∧ Rel (n + 1) t2 u2)
    {p : Program} {e : Env} {s : State} {m : MethodId} {below : List Frame} {meth : Method} {c : Code} (l : Launch) {b L : Nat} {xs : Nat → Int32} (hL : L ≤ 3072) (C0 : lw_At p s m meth c b L xs) : W p l e room_1 s m #[Value.ref b] below meth c s.heap [] 0 0 (lw_Z below #[Value.ref b] s) (entryFrame m ([Value.ref b] : List Value).toArray 4) := by
  obtain ⟨hx, hb, hr, hml, hown, hts, hX, hbl, hlocks, hgv⟩ := id C0
  have hown : s.vm.findClass RL = some m.cls := hown
  have htsG : ∀ w ∈ zGT, w.before #[Value.ref b] s = true := fun w hw => hts w (zGT_lw hw)
  have hkn : ∀ k : Nat, ∃ q : ClassId × (Nat → Nat), ∀ r, zcl[k]? = some r → u_Kn s r.1 r.2.1 r.2.2 q.1 q.2 := by
    intro k
    match k with
    | 0 => obtain ⟨c9, i9, h9⟩ := u_known (C := RX0) (T := TX0) (N := 10) (n := 10) htsG u_RX0 (htsG _ in_RX0); exact ⟨(c9, i9), fun r hr => by cases hr; exact h9⟩
    | 1 => obtain ⟨c9, i9, h9⟩ := u_known (C := RX1) (T := TX1) (N := 7) (n := 7) htsG u_RX1 (htsG _ in_RX1); exact ⟨(c9, i9), fun r hr => by cases hr; exact h9⟩
    | 2 => obtain ⟨c9, i9, h9⟩ := u_known (C := RX2) (T := TX2) (N := 16) (n := 16) htsG u_RX2 (htsG _ in_RX2); exact ⟨(c9, i9), fun r hr => by cases hr; exact h9⟩
    | 3 => obtain ⟨c9, i9, h9⟩ := u_known (C := RX3) (T := TX3) (N := 9) (n := 9) htsG u_RX3 (htsG _ in_RX3); exact ⟨(c9, i9), fun r hr => by cases hr; exact h9⟩
    | 4 => obtain ⟨c9, i9, h9⟩ := u_known (C := RX4) (T := TX4) (N := 17) (n := 17) htsG u_RX4 (htsG _ in_RX4); exact ⟨(c9, i9), fun r hr => by cases hr; exact h9⟩
    | 5 => obtain ⟨c9, i9, h9⟩ := u_known (C := RX5) (T := TX5) (N := 1) (n := 1) htsG u_RX5 (htsG _ in_RX5); exact ⟨(c9, i9), fun r hr => by cases hr; exact h9⟩
    | 6 => obtain ⟨c9, i9, h9⟩ := u_known (C := RX6) (T := TX6) (N := 11) (n := 11) htsG u_RX6 (htsG _ in_RX6); exact ⟨(c9, i9), fun r hr => by cases hr; exact h9⟩
    | 7 => obtain ⟨c9, i9, h9⟩ := u_known (C := RX7) (T := TX7) (N := 15) (n := 15) htsG u_RX7 (htsG _ in_RX7); exact ⟨(c9, i9), fun r hr => by cases hr; exact h9⟩
    | 8 => obtain ⟨c9, i9, h9⟩ := u_known (C := RX8) (T := TX8) (N := 18) (n := 18) htsG u_RX8 (htsG _ in_RX8); exact ⟨(c9, i9), fun r hr => by cases hr; exact h9⟩
    | 9 => obtain ⟨c9, i9, h9⟩ := u_known (C := RX9) (T := TX9) (N := 17) (n := 17) htsG u_RX9 (htsG _ in_RX9); exact ⟨(c9, i9), fun r hr => by cases hr; exact h9⟩
    | 10 => obtain ⟨c9, i9, h9⟩ := u_known (C := RX10) (T := TX10) (N := 7) (n := 7) htsG u_RX10 (htsG _ in_RX10); exact ⟨(c9, i9), fun r hr => by cases hr; exact h9⟩
    | 11 => obtain ⟨c9, i9, h9⟩ := u_known (C := RX11) (T := TX11) (N := 10) (n := 10) htsG u_RX11 (htsG _ in_RX11); exact ⟨(c9, i9), fun r hr => by cases hr; exact h9⟩
    | 12 => obtain ⟨c9, i9, h9⟩ := u_known (C := RX12) (T := TX12) (N := 110) (n := 110) htsG u_RX12 (htsG _ in_RX12); exact ⟨(c9, i9), fun r hr => by cases hr; exact h9⟩
    | k + 13 => exact ⟨(m.cls, fun _ => 0), fun r hr => by simp [zcl] at hr⟩
  obtain ⟨dd, hdd⟩ := Classical.axiomOfChoice hkn
  obtain ⟨cI, kI, pI, hI1, hI2, hI3⟩ := Cond.arrayClass_spec (args := #[Value.ref b]) (first := s) (o := none) (s := s) (idx := []) (type := .int) (htsG _ aci)
  obtain ⟨cZ, kZ, pZ, hZ1, hZ2, hZ3⟩ := Cond.arrayClass_spec (args := #[Value.ref b]) (first := s) (o := none) (s := s) (idx := []) (type := .boolean) (htsG _ acz)
  obtain ⟨D, hD0⟩ : ∃ D : va_G, D = (fun k => (dd k).1, fun k => (dd k).2) := ⟨_, rfl⟩
  obtain ⟨ca, hca⟩ : ∃ ca : Nat → ClassId, ca = fun k => if k = 0 then cI else cZ := ⟨_, rfl⟩
  have hK : va_K D zcl (ztys ca) s := by
    subst hD0; subst hca
    refine ⟨fun k q hq => hdd k q hq, fun k q hq => ?_⟩
    match k, hq with
    | 0, hq => cases hq; exact ⟨fun n z => ⟨fun k h => (by cases h), kI, hI2, pI, hI3⟩, hI1⟩
    | 1, hq => cases hq; exact ⟨fun n z => ⟨fun k h => (by cases h), kZ, hZ2, pZ, hZ3⟩, hZ1⟩
    | k + 2, hq => simp [ztys] at hq
  have hNW : zNW s := by
    intro q hq
    simp only [zNst, List.mem_cons, List.not_mem_nil, or_false] at hq
    rcases hq with rfl | rfl | rfl | rfl | rfl | rfl | rfl
    · exact va_Nw.of rfl (hts _ (zch2 _ (List.mem_of_getElem? (i := 54) rfl)))
    · exact va_Nw.of rfl (hts _ (zch2 _ (List.mem_of_getElem? (i := 170) rfl)))
    · exact va_Nw.of rfl (hts _ (zch2 _ (List.mem_of_getElem? (i := 211) rfl)))
    · exact va_Nw.of rfl (hts _ (zch1 _ (List.mem_of_getElem? (i := 45) rfl)))
    · exact va_Nw.of rfl (hts _ (zch1 _ (List.mem_of_getElem? (i := 104) rfl)))
    · exact va_Nw.of rfl (hts _ (zch1 _ (List.mem_of_getElem? (i := 149) rfl)))
    · exact va_Nw.of rfl (hts _ (zch1 _ (List.mem_of_getElem? (i := 237) rfl)))
  have hs := flat_of_before _ hgv
  have hAo : ∀ a : Nat, a < s.heap.size → ¬ (fun q : Nat => s.heap.size ≤ q) a := fun a h => Nat.not_le.mpr h
  obtain ⟨adK, adV, hVS, hVt⟩ := vk_Sof (args := #[Value.ref b]) (s := s) (N := 2) (tm := fun i => if i = 0 then .string RX10 75 else .string RX10 90) (len := zlen) (byt := zbyt) (A := fun q : Nat => s.heap.size ≤ q)
    (by intro i hi; rcases (show i = 0 ∨ i = 1 by omega) with rfl | rfl <;> decide)
    (by intro i hi; rcases (show i = 0 ∨ i = 1 by omega) with rfl | rfl <;> exact hs _ (by decide +kernel))
    (by intro i hi; rcases (show i = 0 ∨ i = 1 by omega) with rfl | rfl <;> exact hs _ (by decide +kernel))
    (by intro i hi; rcases (show i = 0 ∨ i = 1 by omega) with rfl | rfl <;> exact hs _ (by decide +kernel))
    (by intro i hi; rcases (show i = 0 ∨ i = 1 by omega) with rfl | rfl <;> exact hs _ (by decide +kernel))
    (by
      have h0 : ∀ j, j < 88 → Cond.eq (.elem (.field (.string RX10 75) "java/lang/String" "value" "[B") (.int (Int32.ofNat j))) (.int ((zbyt.getD 0 []).getD j 0)) ∈ flatC (Jvm.Cond.and given_1 narrow_1) := by decide +kernel
      have h1 : ∀ j, j < 18 → Cond.eq (.elem (.field (.string RX10 90) "java/lang/String" "value" "[B") (.int (Int32.ofNat j))) (.int ((zbyt.getD 1 []).getD j 0)) ∈ flatC (Jvm.Cond.and given_1 narrow_1) := by decide +kernel
      intro i hi j hj
      rcases (show i = 0 ∨ i = 1 by omega) with rfl | rfl
      · exact hs _ (h0 j hj)
      · exact hs _ (h1 j hj))
    (by
      intro i j hi hj hij
      rcases (show i = 0 ∨ i = 1 by omega) with rfl | rfl <;> rcases (show j = 0 ∨ j = 1 by omega) with rfl | rfl
      · exact absurd rfl hij
      · first | exact Or.inl (hs _ (by decide +kernel)) | exact Or.inr (hs _ (by decide +kernel))
      · first | exact Or.inl (hs _ (by decide +kernel)) | exact Or.inr (hs _ (by decide +kernel))
      · exact absurd rfl hij) hAo
  have hZs : va_Z "java/lang/String" "COMPACT_STRINGS" "Z" (.int 1) (fun q : Nat => s.heap.size ≤ q) s s.heap := va_Zof (hts _ (zch3 _ (List.mem_of_getElem? (i := 209) rfl))) (hts _ (zch1 _ (List.mem_of_getElem? (i := 15) rfl))) (va_eqt (hs (.eq (.static "java/lang/String" "COMPACT_STRINGS" "Z") (.int 1)) (by decide +kernel))) hAo
  have hZq : va_Zq "jdk/internal/util/Preconditions" "SIOOBE_FORMATTER" "Ljava/util/function/BiFunction;" (fun q : Nat => s.heap.size ≤ q) s s.heap := va_Zqof (hts _ (zch3 _ (List.mem_of_getElem? (i := 225) rfl))) (hts _ (zch1 _ (List.mem_of_getElem? (i := 17) rfl))) (hs _ (by decide +kernel)) hAo
  have hR1 : vk_R RX10 75 ztx0 (adK 0) s := vk_R.of (hts _ (zch3 _ (List.mem_of_getElem? (i := 199) rfl))) (hVt 0 (by decide))
  have hR2 : vk_R RX10 90 ztx1 (adK 1) s := vk_R.of (hts _ (zch4 _ (List.mem_of_getElem? (i := 42) rfl))) (hVt 1 (by decide))
  have hy : ∀ a : Nat → Nat, zHy (l, D, ca, a, adK, adV) (fun q : Nat => s.heap.size ≤ q) s := fun a => ⟨hR1, hR2, hVS, hZs, hZq⟩
  have hA : ∀ q : Nat, s.heap.size ≤ q → (fun q : Nat => s.heap.size ≤ q) q := fun _ h => h
  have hS : va_S (fun q : Nat => s.heap.size ≤ q) s.heap s.heap [] := va_S.rf
  have hP : va_P D zcl [] s.heap := fun k q h => by simp at h
  have hDD : va_D (fun q : Nat => s.heap.size ≤ q) [] := ⟨fun i j p q h => by simp at h, fun k q h => by simp at h⟩
  have hl := lv_entry ([.ref b]) (n := 4) (Nat.le_of_ble_eq_true rfl)
  rw [lg_entry_eq]
  generalize (lg_sl ([.ref b]) ++ List.replicate (4 - (lg_sl ([.ref b])).length) Slot.unset).toArray = ls at hl ⊢
  have hl : lv_has ls 4 [(0, .ref b)] := hl
  refine va_new (ci := 11) (fs := [.null, .null, .null, .null, .null, .null, .int 0, .int 0, .int 0, .int 0]) (C := RX11) (T := TX11) (N := 10) hx hb htsG u_RX11 tyX11 tyX11_ok hown (htsG _ lcl_7) (htsG _ in_RX11) (htsG _ lin_7) hK hP hDD hS hA rfl ldf_7 (by decide) (by decide) dL_law_0 (fun q0 H hP hDD hS => ?_)
  have hP : va_P D zcl [(q0, .inr (11, [.null, .null, .null, .null, .null, .null, .int 0, .int 0, .int 0, .int 0]))] H := hP
  have hDD : va_D (fun q : Nat => s.heap.size ≤ q) [(q0, .inr (11, [.null, .null, .null, .null, .null, .null, .int 0, .int 0, .int 0, .int 0]))] := hDD
  refine lv_dup hx hb dL_law_3 rfl ?_
  have hFc := va_free (wc := [(q0, .inr (11, [.null, .null, .null, .null, .null, .null, .int 0, .int 0, .int 0, .int 0]))]) hDD hS hA [0] rfl
  refine va_callv (va_runI (As := []) (rest := [.ref q0]) ⟨hx, hb, hml, hown, htsG⟩ (con_X11 (E := (l, D, ca, fun _ => 0, adK, adV)) q0 H.size) (cwI 0 htsG (zGood yy_X11_init.1) rfl rfl rfl (htsG _ lin_7) (htsG _ lml_9) (htsG _ yi_X11_init) rfl (by decide +kernel) ⟨Nat.le_of_ble_eq_true rfl, Nat.le_of_ble_eq_true rfl⟩) ⟨fun a U g mk q => ⟨q.1, q.2.1, q.2.2.1, va_K.moved (u := U) (U := U.calling g mk a) (Vm.Alike.refl U.vm) q.2.2.2.1, q.2.2.2.2.1, zNW_same rfl q.2.2.2.2.2⟩, fun U hU hW => ⟨rfl, by rw [hU], by rw [hU]; exact hP, va_K.moved hW.alike hK, hDD.weaken (fun _ _ _ _ => trivial), zNW_warm hW hNW⟩⟩ rfl rfl hl.1 rfl (lv_room (Nat.le_of_ble_eq_true rfl)) dL_law_4 ⟨by decide, by decide⟩) hS (fun q _ h => hFc q h) hFc (fun u t H1 locs1 ht hvm hw hB hz1 hk1 hS1 => ?_)
  obtain ⟨w1, hw1, hP1, hD1⟩ := hB
  rw [ht] at hP1
  obtain ⟨aC, haC, hPC, hDC⟩ := zw0C hw1 hP1 hD1
  have hDC : va_D (fun q : Nat => s.heap.size ≤ q) (zw aC ca shC zs0C) := hDC.weaken (fun k q _ h => hFc _ h)
  have hPC : va_P D zcl (zw aC ca shC zs0C) H1 := hPC
  refine lv_astore_n (lv' := [(1, .ref q0), (0, .ref b)]) hx hb dL_law_7 rfl hl (by decide) rfl (fun ls hl => ?_)
  refine va_new (ci := 12) (fs := [.null, .int 0, .null, .int 0, .int 0, .int 0, .int 0, .int 0, .int 0, .int 0, .int 0, .int 0, .null, .null, .int 0, .null, .null, .null, .null, .int 0, .null, .null, .int 0, .null, .null, .null, .int 0, .null, .null, .null, .null, .null, .null, .null, .null, .null, .int 0, .null, .null, .int 0, .null, .null, .int 0, .null, .int 0, .null, .null, .null, .null, .null, .null, .null, .int 0, .null, .null, .null, .null, .int 0, .null, .int 0, .int 0, .int 0, .int 0, .null, .null, .int 0, .null, .int 0, .int 0, .null, .int 0, .int 0, .int 0, .int 0, .int 0, .int 0, .int 0, .int 0, .int 0, .int 0, .int 0, .int 0, .null, .int 0, .null, .int 0, .int 0, .null, .int 0, .null, .null, .null, .null, .null, .int 0, .null, .null, .int 0, .int 0, .null, .int 0, .int 0, .null, .null, .null, .int 0, .null, .int 0, .null, .null]) (C := RX12) (T := TX12) (N := 110) hx hb htsG u_RX12 tyX12 tyX12_ok hown (htsG _ lcl_10) (htsG _ in_RX12) (htsG _ lin_10) hK hPC hDC hS1 hA rfl ldf_10 (by decide) (by decide) dL_law_8 (fun q1 H2 hP2 hD2 hS2 => ?_)
  have hPC2 : va_P D zcl (zw aC ca shC zs0C) H2 := va_P_left hP2
  have hPm : va_P D zcl [(q1, .inr (12, [.null, .int 0, .null, .int 0, .int 0, .int 0, .int 0, .int 0, .int 0, .int 0, .int 0, .int 0, .null, .null, .int 0, .null, .null, .null, .null, .int 0, .null, .null, .int 0, .null, .null, .null, .int 0, .null, .null, .null, .null, .null, .null, .null, .null, .null, .int 0, .null, .null, .int 0, .null, .null, .int 0, .null, .int 0, .null, .null, .null, .null, .null, .null, .null, .int 0, .null, .null, .null, .null, .int 0, .null, .int 0, .int 0, .int 0, .int 0, .null, .null, .int 0, .null, .int 0, .int 0, .null, .int 0, .int 0, .int 0, .int 0, .int 0, .int 0, .int 0, .int 0, .int 0, .int 0, .int 0, .int 0, .null, .int 0, .null, .int 0, .int 0, .null, .int 0, .null, .null, .null, .null, .null, .int 0, .null, .null, .int 0, .int 0, .null, .int 0, .int 0, .null, .null, .null, .int 0, .null, .int 0, .null, .null]))] H2 := va_P_right hP2
  have hq1 : (fun q : Nat => s.heap.size ≤ q) q1 := hD2.2 (zw aC ca shC zs0C).length (q1, .inr (12, [.null, .int 0, .null, .int 0, .int 0, .int 0, .int 0, .int 0, .int 0, .int 0, .int 0, .int 0, .null, .null, .int 0, .null, .null, .null, .null, .int 0, .null, .null, .int 0, .null, .null, .null, .int 0, .null, .null, .null, .null, .null, .null, .null, .null, .null, .int 0, .null, .null, .int 0, .null, .null, .int 0, .null, .int 0, .null, .null, .null, .null, .null, .null, .null, .int 0, .null, .null, .null, .null, .int 0, .null, .int 0, .int 0, .int 0, .int 0, .null, .null, .int 0, .null, .int 0, .int 0, .null, .int 0, .int 0, .int 0, .int 0, .int 0, .int 0, .int 0, .int 0, .int 0, .int 0, .int 0, .int 0, .null, .int 0, .null, .int 0, .int 0, .null, .int 0, .null, .null, .null, .null, .null, .int 0, .null, .null, .int 0, .int 0, .null, .int 0, .int 0, .null, .null, .null, .int 0, .null, .int 0, .null, .null])) (by rw [List.getElem?_append_right (Nat.le_refl _), Nat.sub_self]; rfl)
  have hDm : va_D (fun q : Nat => s.heap.size ≤ q) [(q1, .inr (12, [.null, .int 0, .null, .int 0, .int 0, .int 0, .int 0, .int 0, .int 0, .int 0, .int 0, .int 0, .null, .null, .int 0, .null, .null, .null, .null, .int 0, .null, .null, .int 0, .null, .null, .null, .int 0, .null, .null, .null, .null, .null, .null, .null, .null, .null, .int 0, .null, .null, .int 0, .null, .null, .int 0, .null, .int 0, .null, .null, .null, .null, .null, .null, .null, .int 0, .null, .null, .null, .null, .int 0, .null, .int 0, .int 0, .int 0, .int 0, .null, .null, .int 0, .null, .int 0, .int 0, .null, .int 0, .int 0, .int 0, .int 0, .int 0, .int 0, .int 0, .int 0, .int 0, .int 0, .int 0, .int 0, .null, .int 0, .null, .int 0, .int 0, .null, .int 0, .null, .null, .null, .null, .null, .int 0, .null, .null, .int 0, .int 0, .null, .int 0, .int 0, .null, .null, .null, .int 0, .null, .int 0, .null, .null]))] := ⟨fun i j p q h1 h2 _ => by
      have g1 := (List.getElem?_eq_some_iff.mp h1).1
      have g2 := (List.getElem?_eq_some_iff.mp h2).1
      simp at g1 g2; omega, fun k q h => by
      have g1 := (List.getElem?_eq_some_iff.mp h).1
      simp at g1; subst g1; cases h; exact hq1⟩
  have hne : ∀ (k : Nat) (x : Nat × va_E), (zw aC ca shC zs0C)[k]? = some x → x.1 ≠ q1 := by
    intro k x hx1 he
    have hk9 := (List.getElem?_eq_some_iff.mp hx1).1
    have := hD2.1 k (zw aC ca shC zs0C).length x (q1, .inr (12, [.null, .int 0, .null, .int 0, .int 0, .int 0, .int 0, .int 0, .int 0, .int 0, .int 0, .int 0, .null, .null, .int 0, .null, .null, .null, .null, .int 0, .null, .null, .int 0, .null, .null, .null, .int 0, .null, .null, .null, .null, .null, .null, .null, .null, .null, .int 0, .null, .null, .int 0, .null, .null, .int 0, .null, .int 0, .null, .null, .null, .null, .null, .null, .null, .int 0, .null, .null, .null, .null, .int 0, .null, .int 0, .int 0, .int 0, .int 0, .null, .null, .int 0, .null, .int 0, .int 0, .null, .int 0, .int 0, .int 0, .int 0, .int 0, .int 0, .int 0, .int 0, .int 0, .int 0, .int 0, .int 0, .null, .int 0, .null, .int 0, .int 0, .null, .int 0, .null, .null, .null, .null, .null, .int 0, .null, .null, .int 0, .int 0, .null, .int 0, .int 0, .null, .null, .null, .int 0, .null, .int 0, .null, .null])) (by rw [List.getElem?_append_left hk9]; exact hx1) (by rw [List.getElem?_append_right (Nat.le_refl _), Nat.sub_self]; rfl) he
    omega
  refine lv_dup hx hb dL_law_11 rfl ?_
  have hFm := va_free (wc := [(q1, .inr (12, [.null, .int 0, .null, .int 0, .int 0, .int 0, .int 0, .int 0, .int 0, .int 0, .int 0, .int 0, .null, .null, .int 0, .null, .null, .null, .null, .int 0, .null, .null, .int 0, .null, .null, .null, .int 0, .null, .null, .null, .null, .null, .null, .null, .null, .null, .int 0, .null, .null, .int 0, .null, .null, .int 0, .null, .int 0, .null, .null, .null, .null, .null, .null, .null, .int 0, .null, .null, .null, .null, .int 0, .null, .int 0, .int 0, .int 0, .int 0, .null, .null, .int 0, .null, .int 0, .int 0, .null, .int 0, .int 0, .int 0, .int 0, .int 0, .int 0, .int 0, .int 0, .int 0, .int 0, .int 0, .int 0, .null, .int 0, .null, .int 0, .int 0, .null, .int 0, .null, .null, .null, .null, .null, .int 0, .null, .null, .int 0, .int 0, .null, .int 0, .int 0, .null, .null, .null, .int 0, .null, .int 0, .null, .null]))]) hDm hS2 hA [0] rfl
  refine va_callv (va_runI (As := []) (rest := [.ref q1]) ⟨hx, hb, hml, hown, htsG⟩ (con_X12 (E := (l, D, ca, fun _ => 0, adK, adV)) q1 H2.size) (cwI 0 htsG (zGood yy_X12_init.1) rfl rfl rfl (htsG _ lin_10) (htsG _ lml_12) (htsG _ yi_X12_init) rfl (by decide +kernel) ⟨Nat.le_of_ble_eq_true rfl, Nat.le_of_ble_eq_true rfl⟩) ⟨fun a U g mk q => ⟨q.1, q.2.1, q.2.2.1, va_K.moved (u := U) (U := U.calling g mk a) (Vm.Alike.refl U.vm) q.2.2.2.1, q.2.2.2.2.1, zNW_same rfl q.2.2.2.2.2⟩, fun U hU hW => ⟨rfl, by rw [hU], by rw [hU]; exact hPm, va_K.moved hW.alike hK, hDm.weaken (fun _ _ _ _ => trivial), zNW_warm hW hNW⟩⟩ rfl rfl hl.1 rfl (lv_room (Nat.le_of_ble_eq_true rfl)) dL_law_12 ⟨by decide, by decide⟩) hS2 (fun q _ h => hFm q h) hFm (fun u t H3 locs3 ht hvm hw hB hz3 hk3 hS3 => ?_)
  obtain ⟨w3, hw3, hP3, hD3⟩ := hB
  rw [ht] at hP3
  obtain ⟨aM, haM, hPM, hDM⟩ := zw0M hw3 hP3 hD3
  have hPM : va_P D zcl (zw aM ca shM zs0M) H3 := hPM
  have hDM : va_D (va_A [(q1, .inr (12, [.null, .int 0, .null, .int 0, .int 0, .int 0, .int 0, .int 0, .int 0, .int 0, .int 0, .int 0, .null, .null, .int 0, .null, .null, .null, .null, .int 0, .null, .null, .int 0, .null, .null, .null, .int 0, .null, .null, .null, .null, .null, .null, .null, .null, .null, .int 0, .null, .null, .int 0, .null, .null, .int 0, .null, .int 0, .null, .null, .null, .null, .null, .null, .null, .int 0, .null, .null, .null, .null, .int 0, .null, .int 0, .int 0, .int 0, .int 0, .null, .null, .int 0, .null, .int 0, .int 0, .null, .int 0, .int 0, .int 0, .int 0, .int 0, .int 0, .int 0, .int 0, .int 0, .int 0, .int 0, .int 0, .null, .int 0, .null, .int 0, .int 0, .null, .int 0, .null, .null, .null, .null, .null, .int 0, .null, .null, .int 0, .int 0, .null, .int 0, .int 0, .null, .null, .null, .int 0, .null, .int 0, .null, .null]))] H2.size) (zw aM ca shM zs0M) := hDM
  have hnA : ∀ (k : Nat) (x : Nat × va_E), (zw aC ca shC zs0C)[k]? = some x → ¬ va_A [(q1, .inr (12, [.null, .int 0, .null, .int 0, .int 0, .int 0, .int 0, .int 0, .int 0, .int 0, .int 0, .int 0, .null, .null, .int 0, .null, .null, .null, .null, .int 0, .null, .null, .int 0, .null, .null, .null, .int 0, .null, .null, .null, .null, .null, .null, .null, .null, .null, .int 0, .null, .null, .int 0, .null, .null, .int 0, .null, .int 0, .null, .null, .null, .null, .null, .null, .null, .int 0, .null, .null, .null, .null, .int 0, .null, .int 0, .int 0, .int 0, .int 0, .null, .null, .int 0, .null, .int 0, .int 0, .null, .int 0, .int 0, .int 0, .int 0, .int 0, .int 0, .int 0, .int 0, .int 0, .int 0, .int 0, .int 0, .null, .int 0, .null, .int 0, .int 0, .null, .int 0, .null, .null, .null, .null, .null, .int 0, .null, .null, .int 0, .int 0, .null, .int 0, .int 0, .null, .null, .null, .int 0, .null, .int 0, .null, .null]))] H2.size x.1 := by
    intro k x hx1 hc
    have hlt := (hPC2 k x hx1).lt
    rcases hc with ⟨k2, e2, h2⟩ | h2
    · have g1 := (List.getElem?_eq_some_iff.mp h2).1
      have g2 : k2 = 0 := by simp only [List.length_cons, List.length_nil] at g1; omega
      rw [g2] at h2
      have h3 := Option.some.inj h2
      exact hne k x hx1 (congrArg Prod.fst h3).symm
    · omega
  have hPC3 : va_P D zcl (zw aC ca shC zs0C) H3 := hPC2.kept (fun k x hx1 => hk3 _ (hPC2 k x hx1).lt (hnA k x hx1))
  refine lv_astore_n (lv' := [(2, .ref q1), (1, .ref q0), (0, .ref b)]) hx hb dL_law_15 rfl hl (by decide) rfl (fun ls hl => ?_)
  refine lv_iconst (v := 0) hx hb dL_law_16 (by decide) ?_
  refine lv_istore_n (lv' := [(3, .int 0), (2, .ref q1), (1, .ref q0), (0, .ref b)]) hx hb dL_law_17 rfl hl (by decide) rfl (fun ls hl => ?_)
  refine W.widen (k := 600000) (n := 7302250) (by decide) (by decide) ?_
  obtain ⟨iC, sC⟩ := zw_inj hDC
  obtain ⟨iM, sM⟩ := zw_inj hDM
  have hloop := law_loop (E := (l, D, ca, aC, adK, adV)) (F := (l, D, ca, aM, adK, adV)) (K := (p, e, s, m, below, meth, c, b, L, xs)) hL Rel hstep 513 0 0 zs0C zs0M rfl (by show L < _; omega) (by omega) hR0
  have hcz : ∀ k, k < shC.length → ∃ x : Nat × va_E, (zw aC ca shC zs0C)[k]? = some x ∧ x.1 = aC k := fun k hk => ⟨_, zw_at (List.getElem?_eq_getElem hk), zcell_adr⟩
  refine hloop ⟨hx, hb, hr, hml, hown, htsG, hX, hbl, hlocks, hK, iC, iM, ?_, ?_, rfl, rfl, rfl, hy aC, hy aM, hL⟩ H3 _ ls hPC3 hPM hS3 ?_
  · intro q hq
    refine ⟨sC q hq, fun hc => ?_⟩
    obtain ⟨k, hk, hkq⟩ := hq
    obtain ⟨x, hx1, hx2⟩ := hcz k hk
    exact hnA k x hx1 (by rw [hx2, show aC k = q from hkq]; exact sM q hc)
  · intro q hq
    exact hFm q (sM q hq)
  · have e1 : za (l, D, ca, aC, adK, adV) 0 = q0 := haC
    have e2 : za (l, D, ca, aM, adK, adV) 0 = q1 := haM
    rw [e1, e2]
    exact lv_sub hl [3, 2, 1, 0] rfl
