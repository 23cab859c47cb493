-- SessionHouseModel.check(I)V
theorem dX12_check_0 : decode cX12_check 0 = .ok (.aload_n 0, 1) := by decide +kernel
theorem dX12_check_1 : decode cX12_check 1 = .ok (.iload_n 1, 1) := by decide +kernel
theorem dX12_check_2 : decode cX12_check 2 = .ok (.invokevirtual 458, 3) := by decide +kernel
theorem dX12_check_5 : decode cX12_check 5 = .ok (.istore_n 2, 1) := by decide +kernel
theorem dX12_check_6 : decode cX12_check 6 = .ok (.aload_n 0, 1) := by decide +kernel
theorem dX12_check_7 : decode cX12_check 7 = .ok (.iload_n 1, 1) := by decide +kernel
theorem dX12_check_8 : decode cX12_check 8 = .ok (.putfield 461, 3) := by decide +kernel
theorem dX12_check_11 : decode cX12_check 11 = .ok (.aload_n 0, 1) := by decide +kernel
theorem dX12_check_12 : decode cX12_check 12 = .ok (.iconst 0, 1) := by decide +kernel
theorem dX12_check_13 : decode cX12_check 13 = .ok (.putfield 464, 3) := by decide +kernel
theorem dX12_check_16 : decode cX12_check 16 = .ok (.iconst 0, 1) := by decide +kernel
theorem dX12_check_17 : decode cX12_check 17 = .ok (.istore_n 3, 1) := by decide +kernel
theorem dX12_check_18 : decode cX12_check 18 = .ok (.iload_n 3, 1) := by decide +kernel
theorem dX12_check_19 : decode cX12_check 19 = .ok (.iload_n 2, 1) := by decide +kernel
theorem dX12_check_20 : decode cX12_check 20 = .ok (.if_icmp .ge 64, 3) := by decide +kernel
theorem dX12_check_23 : decode cX12_check 23 = .ok (.aload_n 0, 1) := by decide +kernel
theorem dX12_check_24 : decode cX12_check 24 = .ok (.getfield 135, 3) := by decide +kernel
theorem dX12_check_27 : decode cX12_check 27 = .ok (.iload_n 3, 1) := by decide +kernel
theorem dX12_check_28 : decode cX12_check 28 = .ok (.iconst (-1), 1) := by decide +kernel
theorem dX12_check_29 : decode cX12_check 29 = .ok (.iastore, 1) := by decide +kernel
theorem dX12_check_30 : decode cX12_check 30 = .ok (.iload_n 3, 1) := by decide +kernel
theorem dX12_check_31 : decode cX12_check 31 = .ok (.aload_n 0, 1) := by decide +kernel
theorem dX12_check_32 : decode cX12_check 32 = .ok (.getfield 103, 3) := by decide +kernel
theorem dX12_check_35 : decode cX12_check 35 = .ok (.iload_n 1, 1) := by decide +kernel
theorem dX12_check_36 : decode cX12_check 36 = .ok (.iaload, 1) := by decide +kernel
theorem dX12_check_37 : decode cX12_check 37 = .ok (.if_icmp .ge 19, 3) := by decide +kernel
theorem dX12_check_40 : decode cX12_check 40 = .ok (.aload_n 0, 1) := by decide +kernel
theorem dX12_check_41 : decode cX12_check 41 = .ok (.getfield 109, 3) := by decide +kernel
theorem dX12_check_44 : decode cX12_check 44 = .ok (.aload_n 0, 1) := by decide +kernel
theorem dX12_check_45 : decode cX12_check 45 = .ok (.getfield 100, 3) := by decide +kernel
theorem dX12_check_48 : decode cX12_check 48 = .ok (.iload_n 1, 1) := by decide +kernel
theorem dX12_check_49 : decode cX12_check 49 = .ok (.iaload, 1) := by decide +kernel
theorem dX12_check_50 : decode cX12_check 50 = .ok (.iload_n 3, 1) := by decide +kernel
theorem dX12_check_51 : decode cX12_check 51 = .ok (.iadd, 1) := by decide +kernel
theorem dX12_check_52 : decode cX12_check 52 = .ok (.iaload, 1) := by decide +kernel
theorem dX12_check_53 : decode cX12_check 53 = .ok (.goto 4, 3) := by decide +kernel
theorem dX12_check_56 : decode cX12_check 56 = .ok (.iconst (-1), 1) := by decide +kernel
theorem dX12_check_57 : decode cX12_check 57 = .ok (.istore 4, 2) := by decide +kernel
theorem dX12_check_59 : decode cX12_check 59 = .ok (.iload 4, 2) := by decide +kernel
theorem dX12_check_61 : decode cX12_check 61 = .ok (.ifCond .lt 17, 3) := by decide +kernel
theorem dX12_check_64 : decode cX12_check 64 = .ok (.aload_n 0, 1) := by decide +kernel
theorem dX12_check_65 : decode cX12_check 65 = .ok (.iconst 0, 1) := by decide +kernel
theorem dX12_check_66 : decode cX12_check 66 = .ok (.iload_n 3, 1) := by decide +kernel
theorem dX12_check_67 : decode cX12_check 67 = .ok (.aload_n 0, 1) := by decide +kernel
theorem dX12_check_68 : decode cX12_check 68 = .ok (.iconst 2, 1) := by decide +kernel
theorem dX12_check_69 : decode cX12_check 69 = .ok (.iload 4, 2) := by decide +kernel
theorem dX12_check_71 : decode cX12_check 71 = .ok (.imul, 1) := by decide +kernel
theorem dX12_check_72 : decode cX12_check 72 = .ok (.invokevirtual 432, 3) := by decide +kernel
theorem dX12_check_75 : decode cX12_check 75 = .ok (.invokevirtual 467, 3) := by decide +kernel
theorem dX12_check_78 : decode cX12_check 78 = .ok (.iinc 3 1, 3) := by decide +kernel
theorem dX12_check_81 : decode cX12_check 81 = .ok (.goto (-63), 3) := by decide +kernel
theorem dX12_check_84 : decode cX12_check 84 = .ok (.aload_n 0, 1) := by decide +kernel
theorem dX12_check_85 : decode cX12_check 85 = .ok (.aload_n 0, 1) := by decide +kernel
theorem dX12_check_86 : decode cX12_check 86 = .ok (.getfield 94, 3) := by decide +kernel
theorem dX12_check_89 : decode cX12_check 89 = .ok (.iload_n 1, 1) := by decide +kernel
theorem dX12_check_90 : decode cX12_check 90 = .ok (.iaload, 1) := by decide +kernel
theorem dX12_check_91 : decode cX12_check 91 = .ok (.iconst 0, 1) := by decide +kernel
theorem dX12_check_92 : decode cX12_check 92 = .ok (.invokevirtual 471, 3) := by decide +kernel
theorem dX12_check_95 : decode cX12_check 95 = .ok (.istore_n 3, 1) := by decide +kernel
theorem dX12_check_96 : decode cX12_check 96 = .ok (.iload_n 3, 1) := by decide +kernel
theorem dX12_check_97 : decode cX12_check 97 = .ok (.ifCond .ne 28, 3) := by decide +kernel
theorem dX12_check_100 : decode cX12_check 100 = .ok (.aload_n 0, 1) := by decide +kernel
theorem dX12_check_101 : decode cX12_check 101 = .ok (.getfield 423, 3) := by decide +kernel
theorem dX12_check_104 : decode cX12_check 104 = .ok (.ifCond .ge 21, 3) := by decide +kernel
theorem dX12_check_107 : decode cX12_check 107 = .ok (.aload_n 0, 1) := by decide +kernel
theorem dX12_check_108 : decode cX12_check 108 = .ok (.iconst 0, 1) := by decide +kernel
theorem dX12_check_109 : decode cX12_check 109 = .ok (.invokevirtual 475, 3) := by decide +kernel
theorem dX12_check_112 : decode cX12_check 112 = .ok (.ifCond .eq 13, 3) := by decide +kernel
theorem dX12_check_115 : decode cX12_check 115 = .ok (.aload_n 0, 1) := by decide +kernel
theorem dX12_check_116 : decode cX12_check 116 = .ok (.aload_n 0, 1) := by decide +kernel
theorem dX12_check_117 : decode cX12_check 117 = .ok (.getfield 97, 3) := by decide +kernel
theorem dX12_check_120 : decode cX12_check 120 = .ok (.iload_n 1, 1) := by decide +kernel
theorem dX12_check_121 : decode cX12_check 121 = .ok (.iaload, 1) := by decide +kernel
theorem dX12_check_122 : decode cX12_check 122 = .ok (.invokevirtual 478, 3) := by decide +kernel
theorem dX12_check_125 : decode cX12_check 125 = .ok (.return_, 1) := by decide +kernel
def bX12_check_78 (k18 : Int32 → Int32 → Int32 → zS → zR) (x1 : Int32) (x2 : Int32) (x3 : Int32) (t : zS) : zR := zlet (x3 + 1) fun v4160 => k18 x1 x2 v4160 t
def bX12_check_57 (k18 : Int32 → Int32 → Int32 → zS → zR) (x1 : Int32) (x2 : Int32) (x3 : Int32) (y0 : Int32) (t : zS) : zR := if y0 < 0 then bX12_check_78 k18 x1 x2 x3 t else zbd (mX12_plain (2 * y0) t) fun r4161 t4162 => zbd (mX12_setChannel 0 x3 r4161 t4162) fun r4164 t4165 => bX12_check_78 k18 x1 x2 x3 t4165
def bX12_check_18 (k18 : Int32 → Int32 → Int32 → zS → zR) (x1 : Int32) (x2 : Int32) (x3 : Int32) (t : zS) : zR := if x2 ≤ x3 then zrd t 29 300 x1 fun v4167 => zbd (mX12_checkBlockr v4167 0 t) fun r4169 t4170 => if r4169 = 0 then if 0 ≤ (t4170 0 67) then some (0, t4170) else zbd (mX12_hasAny 0 t4170) fun r4172 t4173 => if r4172 = 0 then some (0, t4173) else zrd t4173 30 300 x1 fun v4175 => zbd (mX12_isBad v4175 t4173) fun r4177 t4178 => some (0, t4178) else some (0, t4170) else zwr t 42 66000 x3 (-1) fun t4181 => zrd t4181 32 300 x1 fun v4182 => if v4182 ≤ x3 then bX12_check_57 k18 x1 x2 x3 (-1) t4181 else zrd t4181 31 301 x1 fun v4184 => zrd t4181 34 3000 (v4184 + x3) fun v4186 => bX12_check_57 k18 x1 x2 x3 v4186 t4181
def lX12_check_18 : Nat → Int32 → Int32 → Int32 → zS → zR
  | 0, _, _, _, _ => none
  | fu + 1, x1, x2, x3, t => bX12_check_18 (lX12_check_18  fu) x1 x2 x3 t
def mX12_check (x1 : Int32) (t : zS) : zR := zbd (mX12_ownMany x1 t) fun r4188 t4189 => zpt t4189 0 68 x1 fun t4191 => zpt t4191 0 70 0 fun t4192 => lX12_check_18  zFU x1 r4188 0 t4192
set_option maxHeartbeats 4000000 in
set_option maxRecDepth 20000 in
theorem wbX12_check_78 {E : zE} {C : zC} {f : Nat} {ro : Int32 × zS} (hf : 306 ≤ f) (k18 : Int32 → Int32 → Int32 → zS → zR) (hk18 : ∀ (x1 x2 x3 : Int32) (t : zS), k18 x1 x2 x3 t = some ro → zJ E shM C cX12_check RX12 5 f none ro t 18 [(0, .ref (za E 0)), (1, .int x1), (2, .int x2), (3, .int x3)] []) (x1 : Int32) (x2 : Int32) (x3 : Int32) (t : zS) (hF : bX12_check_78 k18 x1 x2 x3 t = some ro) : zJ E shM C cX12_check RX12 5 f none ro t 78 [(0, .ref (za E 0)), (1, .int x1), (2, .int x2), (3, .int x3)] [] := by
  unfold bX12_check_78 at hF
  obtain ⟨v4160, ev4160⟩ : ∃ y : Int32, y = (x3 + 1) := ⟨_, rfl⟩
  have hF := zlet_at ev4160 hF
  refine z_iinc (v := v4160) (lv' := [(3, .int v4160), (0, .ref (za E 0)), (1, .int x1), (2, .int x2)]) (k := 3) dX12_check_78 rfl (by rw [ev4160]; rfl) (by decide) rfl ?_
  refine z_goto (tgt := 18) dX12_check_81 (by decide) ?_
  refine z_sub [1, 2, 3, 0] rfl ?_
  exact hk18 x1 x2 v4160 _ hF
set_option maxHeartbeats 4000000 in
set_option maxRecDepth 20000 in
theorem wbX12_check_57 {E : zE} {C : zC} {f : Nat} {ro : Int32 × zS} (hf : 306 ≤ f) (k18 : Int32 → Int32 → Int32 → zS → zR) (hk18 : ∀ (x1 x2 x3 : Int32) (t : zS), k18 x1 x2 x3 t = some ro → zJ E shM C cX12_check RX12 5 f none ro t 18 [(0, .ref (za E 0)), (1, .int x1), (2, .int x2), (3, .int x3)] []) (x1 : Int32) (x2 : Int32) (x3 : Int32) (y0 : Int32) (t : zS) (hF : bX12_check_57 k18 x1 x2 x3 y0 t = some ro) : zJ E shM C cX12_check RX12 5 f none ro t 57 [(0, .ref (za E 0)), (1, .int x1), (2, .int x2), (3, .int x3)] [.int y0] := by
  unfold bX12_check_57 at hF
  refine z_istore (lv' := [(4, .int y0), (0, .ref (za E 0)), (1, .int x1), (2, .int x2), (3, .int x3)]) dX12_check_57 (by decide) rfl ?_
  refine z_iload 0 dX12_check_59 rfl ?_
  refine z_if_lt (tgt := 78) dX12_check_61 (by decide) (fun hc => ?_) (fun hc => ?_)
  · have hF := zif_t hc hF
    refine z_sub [1, 2, 3, 4] rfl ?_
    exact wbX12_check_78 hf k18 hk18 x1 x2 x3 _ hF
  · have hF := zif_f hc hF
    refine z_aload_n 1 dX12_check_64 rfl rfl ?_
    refine z_iconst (v := 0) dX12_check_65 (by decide) ?_
    refine z_iload_n 4 dX12_check_66 rfl rfl ?_
    refine z_aload_n 1 dX12_check_67 rfl rfl ?_
    refine z_iconst (v := 2) dX12_check_68 (by decide) ?_
    refine z_iload 0 dX12_check_69 rfl ?_
    refine z_imul dX12_check_71 ?_
    obtain ⟨r4161, t4162, hc4163, hF⟩ := zbd_at hF
    refine z_callVi (ctX12_plain (E := E) (f := f - 1) (by omega) hc4163) yy_X12_plain yv_X12_plain ob_M_0 lk_RX12_432 (by omega) rfl rfl (Nat.le_of_ble_eq_true rfl) dX12_check_72 ?_
    obtain ⟨r4164, t4165, hc4166, hF⟩ := zbd_at hF
    refine z_callVv (ctX12_setChannel (E := E) (f := f - 1) (by omega) hc4166) yy_X12_setChannel yv_X12_setChannel ob_M_0 lk_RX12_467 (by omega) rfl rfl (Nat.le_of_ble_eq_true rfl) dX12_check_75 ?_
    refine z_sub [1, 2, 3, 4] rfl ?_
    exact wbX12_check_78 hf k18 hk18 x1 x2 x3 _ hF
set_option maxHeartbeats 4000000 in
set_option maxRecDepth 20000 in
theorem wbX12_check_18 {E : zE} {C : zC} {f : Nat} {ro : Int32 × zS} (hf : 306 ≤ f) (k18 : Int32 → Int32 → Int32 → zS → zR) (hk18 : ∀ (x1 x2 x3 : Int32) (t : zS), k18 x1 x2 x3 t = some ro → zJ E shM C cX12_check RX12 5 f none ro t 18 [(0, .ref (za E 0)), (1, .int x1), (2, .int x2), (3, .int x3)] []) (x1 : Int32) (x2 : Int32) (x3 : Int32) (t : zS) (hF : bX12_check_18 k18 x1 x2 x3 t = some ro) : zJ E shM C cX12_check RX12 5 f none ro t 18 [(0, .ref (za E 0)), (1, .int x1), (2, .int x2), (3, .int x3)] [] := by
  unfold bX12_check_18 at hF
  refine z_iload_n 3 dX12_check_18 rfl rfl ?_
  refine z_iload_n 2 dX12_check_19 rfl rfl ?_
  refine z_icmp_ge (tgt := 84) dX12_check_20 (by decide) (fun hc => ?_) (fun hc => ?_)
  · have hF := zif_t hc hF
    refine z_aload_n 0 dX12_check_84 rfl rfl ?_
    refine z_aload_n 0 dX12_check_85 rfl rfl ?_
    refine z_getr fr_RX12_94 dX12_check_86 ?_
    refine z_iload_n 1 dX12_check_89 rfl rfl ?_
    obtain ⟨hi4168, hF⟩ := zrd_at hF
    refine z_iald (n := 300) rfl hi4168 dX12_check_90 ?_
    generalize t 29 (Int32.toNatClampNeg x1) = v4167 at hF ⊢
    refine z_iconst (v := 0) dX12_check_91 (by decide) ?_
    obtain ⟨r4169, t4170, hc4171, hF⟩ := zbd_at hF
    refine z_callVi (ctX12_checkBlockr (E := E) (f := f - 1) (by omega) hc4171) yy_X12_checkBlock yv_X12_checkBlock ob_M_0 lk_RX12_471 (by omega) rfl rfl (Nat.le_of_ble_eq_true rfl) dX12_check_92 ?_
    refine z_istore_n (lv' := [(3, .int r4169), (0, .ref (za E 0)), (1, .int x1), (2, .int x2)]) dX12_check_95 rfl (by decide) rfl ?_
    refine z_iload_n 0 dX12_check_96 rfl rfl ?_
    refine z_if_ne (tgt := 125) dX12_check_97 (by decide) (fun hc => ?_) (fun hc => ?_)
    · have hF := zif_f hc hF
      exact z_vret hF dX12_check_125
    · have hF := zif_t hc hF
      refine z_aload_n 1 dX12_check_100 rfl rfl ?_
      refine z_geti fi_RX12_423 dX12_check_101 ?_
      refine z_if_ge (tgt := 125) dX12_check_104 (by decide) (fun hc => ?_) (fun hc => ?_)
      · have hF := zif_t hc hF
        exact z_vret hF dX12_check_125
      · have hF := zif_f hc hF
        refine z_aload_n 1 dX12_check_107 rfl rfl ?_
        refine z_iconst (v := 0) dX12_check_108 (by decide) ?_
        obtain ⟨r4172, t4173, hc4174, hF⟩ := zbd_at hF
        refine z_callVi (ctX12_hasAny (E := E) (f := f - 1) (by omega) hc4174) yy_X12_hasAny yv_X12_hasAny ob_M_0 lk_RX12_475 (by omega) rfl rfl (Nat.le_of_ble_eq_true rfl) dX12_check_109 ?_
        refine z_if_eq (tgt := 125) dX12_check_112 (by decide) (fun hc => ?_) (fun hc => ?_)
        · have hF := zif_t hc hF
          exact z_vret hF dX12_check_125
        · have hF := zif_f hc hF
          refine z_aload_n 1 dX12_check_115 rfl rfl ?_
          refine z_aload_n 1 dX12_check_116 rfl rfl ?_
          refine z_getr fr_RX12_97 dX12_check_117 ?_
          refine z_iload_n 2 dX12_check_120 rfl rfl ?_
          obtain ⟨hi4176, hF⟩ := zrd_at hF
          refine z_iald (n := 300) rfl hi4176 dX12_check_121 ?_
          generalize t4173 30 (Int32.toNatClampNeg x1) = v4175 at hF ⊢
          obtain ⟨r4177, t4178, hc4179, hF⟩ := zbd_at hF
          refine z_callVv (ctX12_isBad (E := E) (f := f - 1) (by omega) hc4179) yy_X12_isBad yv_X12_isBad ob_M_0 lk_RX12_478 (by omega) rfl rfl (Nat.le_of_ble_eq_true rfl) dX12_check_122 ?_
          exact z_vret hF dX12_check_125
  · have hF := zif_f hc hF
    refine z_aload_n 0 dX12_check_23 rfl rfl ?_
    refine z_getr fr_RX12_135 dX12_check_24 ?_
    refine z_iload_n 3 dX12_check_27 rfl rfl ?_
    refine z_iconst (v := (-1)) dX12_check_28 (by decide) ?_
    obtain ⟨hi4180, hF⟩ := zwr_at hF
    refine z_iast (n := 66000) rfl hi4180 dX12_check_29 (fun t4181 et4181 => ?_)
    have hF := hF t4181 et4181
    refine z_iload_n 3 dX12_check_30 rfl rfl ?_
    refine z_aload_n 0 dX12_check_31 rfl rfl ?_
    refine z_getr fr_RX12_103 dX12_check_32 ?_
    refine z_iload_n 1 dX12_check_35 rfl rfl ?_
    obtain ⟨hi4183, hF⟩ := zrd_at hF
    refine z_iald (n := 300) rfl hi4183 dX12_check_36 ?_
    generalize t4181 32 (Int32.toNatClampNeg x1) = v4182 at hF ⊢
    refine z_icmp_ge (tgt := 56) dX12_check_37 (by decide) (fun hc => ?_) (fun hc => ?_)
    · have hF := zif_t hc hF
      refine z_iconst (v := (-1)) dX12_check_56 (by decide) ?_
      exact wbX12_check_57 hf k18 hk18 x1 x2 x3 (-1) _ hF
    · have hF := zif_f hc hF
      refine z_aload_n 0 dX12_check_40 rfl rfl ?_
      refine z_getr fr_RX12_109 dX12_check_41 ?_
      refine z_aload_n 0 dX12_check_44 rfl rfl ?_
      refine z_getr fr_RX12_100 dX12_check_45 ?_
      refine z_iload_n 1 dX12_check_48 rfl rfl ?_
      obtain ⟨hi4185, hF⟩ := zrd_at hF
      refine z_iald (n := 301) rfl hi4185 dX12_check_49 ?_
      generalize t4181 31 (Int32.toNatClampNeg x1) = v4184 at hF ⊢
      refine z_iload_n 3 dX12_check_50 rfl rfl ?_
      refine z_iadd dX12_check_51 ?_
      obtain ⟨hi4187, hF⟩ := zrd_at hF
      refine z_iald (n := 3000) rfl hi4187 dX12_check_52 ?_
      generalize t4181 34 (Int32.toNatClampNeg (v4184 + x3)) = v4186 at hF ⊢
      refine z_goto (tgt := 57) dX12_check_53 (by decide) ?_
      exact wbX12_check_57 hf k18 hk18 x1 x2 x3 v4186 _ hF
set_option maxHeartbeats 4000000 in
set_option maxRecDepth 20000 in
theorem wlX12_check_18 {E : zE} {C : zC} {f : Nat} {ro : Int32 × zS} (hf : 306 ≤ f) (fu : Nat) : ∀ (x1 x2 x3 : Int32) (t : zS), lX12_check_18  fu x1 x2 x3 t = some ro → zJ E shM C cX12_check RX12 5 f none ro t 18 [(0, .ref (za E 0)), (1, .int x1), (2, .int x2), (3, .int x3)] [] := by
  induction fu with
  | zero => intro x1 x2 x3 t hF; cases hF
  | succ fu ih => intro x1 x2 x3 t hF; exact wbX12_check_18 hf (lX12_check_18  fu) ih x1 x2 x3 t hF
set_option maxHeartbeats 4000000 in
set_option maxRecDepth 20000 in
theorem ctX12_check {E : zE} {f : Nat} (hf : 306 ≤ f) {x1 : Int32} {t : zS} {ro : Int32 × zS} (hF : mX12_check  x1 t = some ro) : zM E shM f yX12_check cX12_check 5 none [.ref (za E 0), .int x1] t ro := by
  refine zM_of (by decide) (Nat.le_of_ble_eq_true rfl) (fun C => ?_)
  show zJ E shM C cX12_check RX12 5 f none ro t 0 [(0, .ref (za E 0)), (1, .int x1)] []
  unfold mX12_check at hF
  refine z_aload_n 0 dX12_check_0 rfl rfl ?_
  refine z_iload_n 1 dX12_check_1 rfl rfl ?_
  obtain ⟨r4188, t4189, hc4190, hF⟩ := zbd_at hF
  refine z_callVi (ctX12_ownMany (E := E) (f := f - 1) (by omega) hc4190) yy_X12_ownMany yv_X12_ownMany ob_M_0 lk_RX12_458 (by omega) rfl rfl (Nat.le_of_ble_eq_true rfl) dX12_check_2 ?_
  refine z_istore_n (lv' := [(2, .int r4188), (0, .ref (za E 0)), (1, .int x1)]) dX12_check_5 rfl (by decide) rfl ?_
  refine z_aload_n 1 dX12_check_6 rfl rfl ?_
  refine z_iload_n 2 dX12_check_7 rfl rfl ?_
  refine z_puti fw_RX12_461 dX12_check_8 (fun t4191 et4191 => ?_)
  have hF := zpt_at hF t4191 et4191
  refine z_aload_n 1 dX12_check_11 rfl rfl ?_
  refine z_iconst (v := 0) dX12_check_12 (by decide) ?_
  refine z_puti fw_RX12_464 dX12_check_13 (fun t4192 et4192 => ?_)
  have hF := zpt_at hF t4192 et4192
  refine z_iconst (v := 0) dX12_check_16 (by decide) ?_
  refine z_istore_n (lv' := [(3, .int 0), (2, .int r4188), (0, .ref (za E 0)), (1, .int x1)]) dX12_check_17 rfl (by decide) rfl ?_
  refine z_sub [2, 3, 1, 0] rfl ?_
  exact wlX12_check_18 hf  zFU x1 r4188 0 _ hF
-- SessionHouseModel.program()I
theorem dX12_program_0 : decode cX12_program 0 = .ok (.aload_n 0, 1) := by decide +kernel
theorem dX12_program_1 : decode cX12_program 1 = .ok (.aload_n 0, 1) := by decide +kernel
theorem dX12_program_2 : decode cX12_program 2 = .ok (.getfield 397, 3) := by decide +kernel
theorem dX12_program_5 : decode cX12_program 5 = .ok (.putfield 221, 3) := by decide +kernel
theorem dX12_program_8 : decode cX12_program 8 = .ok (.iconst 0, 1) := by decide +kernel
theorem dX12_program_9 : decode cX12_program 9 = .ok (.istore_n 1, 1) := by decide +kernel
theorem dX12_program_10 : decode cX12_program 10 = .ok (.iload_n 1, 1) := by decide +kernel
theorem dX12_program_11 : decode cX12_program 11 = .ok (.aload_n 0, 1) := by decide +kernel
theorem dX12_program_12 : decode cX12_program 12 = .ok (.getfield 397, 3) := by decide +kernel
theorem dX12_program_15 : decode cX12_program 15 = .ok (.if_icmp .ge 21, 3) := by decide +kernel
theorem dX12_program_18 : decode cX12_program 18 = .ok (.aload_n 0, 1) := by decide +kernel
theorem dX12_program_19 : decode cX12_program 19 = .ok (.getfield 13, 3) := by decide +kernel
theorem dX12_program_22 : decode cX12_program 22 = .ok (.iload_n 1, 1) := by decide +kernel
theorem dX12_program_23 : decode cX12_program 23 = .ok (.aload_n 0, 1) := by decide +kernel
theorem dX12_program_24 : decode cX12_program 24 = .ok (.getfield 7, 3) := by decide +kernel
theorem dX12_program_27 : decode cX12_program 27 = .ok (.iload_n 1, 1) := by decide +kernel
theorem dX12_program_28 : decode cX12_program 28 = .ok (.iaload, 1) := by decide +kernel
theorem dX12_program_29 : decode cX12_program 29 = .ok (.iastore, 1) := by decide +kernel
theorem dX12_program_30 : decode cX12_program 30 = .ok (.iinc 1 1, 3) := by decide +kernel
theorem dX12_program_33 : decode cX12_program 33 = .ok (.goto (-23), 3) := by decide +kernel
theorem dX12_program_36 : decode cX12_program 36 = .ok (.aload_n 0, 1) := by decide +kernel
theorem dX12_program_37 : decode cX12_program 37 = .ok (.iconst 0, 1) := by decide +kernel
theorem dX12_program_38 : decode cX12_program 38 = .ok (.putfield 397, 3) := by decide +kernel
theorem dX12_program_41 : decode cX12_program 41 = .ok (.aload_n 0, 1) := by decide +kernel
theorem dX12_program_42 : decode cX12_program 42 = .ok (.iconst 0, 1) := by decide +kernel
theorem dX12_program_43 : decode cX12_program 43 = .ok (.putfield 400, 3) := by decide +kernel
theorem dX12_program_46 : decode cX12_program 46 = .ok (.aload_n 0, 1) := by decide +kernel
theorem dX12_program_47 : decode cX12_program 47 = .ok (.iconst 0, 1) := by decide +kernel
theorem dX12_program_48 : decode cX12_program 48 = .ok (.putfield 404, 3) := by decide +kernel
theorem dX12_program_51 : decode cX12_program 51 = .ok (.aload_n 0, 1) := by decide +kernel
theorem dX12_program_52 : decode cX12_program 52 = .ok (.iconst 0, 1) := by decide +kernel
theorem dX12_program_53 : decode cX12_program 53 = .ok (.putfield 237, 3) := by decide +kernel
theorem dX12_program_56 : decode cX12_program 56 = .ok (.aload_n 0, 1) := by decide +kernel
theorem dX12_program_57 : decode cX12_program 57 = .ok (.iconst (-1), 1) := by decide +kernel
theorem dX12_program_58 : decode cX12_program 58 = .ok (.putfield 267, 3) := by decide +kernel
theorem dX12_program_61 : decode cX12_program 61 = .ok (.aload_n 0, 1) := by decide +kernel
theorem dX12_program_62 : decode cX12_program 62 = .ok (.iconst 0, 1) := by decide +kernel
theorem dX12_program_63 : decode cX12_program 63 = .ok (.putfield 276, 3) := by decide +kernel
theorem dX12_program_66 : decode cX12_program 66 = .ok (.aload_n 0, 1) := by decide +kernel
theorem dX12_program_67 : decode cX12_program 67 = .ok (.iconst 0, 1) := by decide +kernel
theorem dX12_program_68 : decode cX12_program 68 = .ok (.putfield 234, 3) := by decide +kernel
theorem dX12_program_71 : decode cX12_program 71 = .ok (.aload_n 0, 1) := by decide +kernel
theorem dX12_program_72 : decode cX12_program 72 = .ok (.iconst 0, 1) := by decide +kernel
theorem dX12_program_73 : decode cX12_program 73 = .ok (.putfield 286, 3) := by decide +kernel
theorem dX12_program_76 : decode cX12_program 76 = .ok (.aload_n 0, 1) := by decide +kernel
theorem dX12_program_77 : decode cX12_program 77 = .ok (.iconst 0, 1) := by decide +kernel
theorem dX12_program_78 : decode cX12_program 78 = .ok (.putfield 319, 3) := by decide +kernel
theorem dX12_program_81 : decode cX12_program 81 = .ok (.aload_n 0, 1) := by decide +kernel
theorem dX12_program_82 : decode cX12_program 82 = .ok (.iconst 0, 1) := by decide +kernel
theorem dX12_program_83 : decode cX12_program 83 = .ok (.putfield 316, 3) := by decide +kernel
theorem dX12_program_86 : decode cX12_program 86 = .ok (.aload_n 0, 1) := by decide +kernel
theorem dX12_program_87 : decode cX12_program 87 = .ok (.iconst 0, 1) := by decide +kernel
theorem dX12_program_88 : decode cX12_program 88 = .ok (.putfield 388, 3) := by decide +kernel
theorem dX12_program_91 : decode cX12_program 91 = .ok (.aload_n 0, 1) := by decide +kernel
theorem dX12_program_92 : decode cX12_program 92 = .ok (.iconst 0, 1) := by decide +kernel
theorem dX12_program_93 : decode cX12_program 93 = .ok (.putfield 343, 3) := by decide +kernel
theorem dX12_program_96 : decode cX12_program 96 = .ok (.aload_n 0, 1) := by decide +kernel
theorem dX12_program_97 : decode cX12_program 97 = .ok (.iconst 0, 1) := by decide +kernel
theorem dX12_program_98 : decode cX12_program 98 = .ok (.putfield 367, 3) := by decide +kernel
theorem dX12_program_101 : decode cX12_program 101 = .ok (.aload_n 0, 1) := by decide +kernel
theorem dX12_program_102 : decode cX12_program 102 = .ok (.iconst 0, 1) := by decide +kernel
theorem dX12_program_103 : decode cX12_program 103 = .ok (.putfield 364, 3) := by decide +kernel
theorem dX12_program_106 : decode cX12_program 106 = .ok (.aload_n 0, 1) := by decide +kernel
theorem dX12_program_107 : decode cX12_program 107 = .ok (.iconst 0, 1) := by decide +kernel
theorem dX12_program_108 : decode cX12_program 108 = .ok (.putfield 370, 3) := by decide +kernel
theorem dX12_program_111 : decode cX12_program 111 = .ok (.aload_n 0, 1) := by decide +kernel
theorem dX12_program_112 : decode cX12_program 112 = .ok (.iconst 0, 1) := by decide +kernel
theorem dX12_program_113 : decode cX12_program 113 = .ok (.putfield 328, 3) := by decide +kernel
theorem dX12_program_116 : decode cX12_program 116 = .ok (.aload_n 0, 1) := by decide +kernel
theorem dX12_program_117 : decode cX12_program 117 = .ok (.getfield 100, 3) := by decide +kernel
theorem dX12_program_120 : decode cX12_program 120 = .ok (.iconst 0, 1) := by decide +kernel
theorem dX12_program_121 : decode cX12_program 121 = .ok (.iconst 0, 1) := by decide +kernel
theorem dX12_program_122 : decode cX12_program 122 = .ok (.iastore, 1) := by decide +kernel
theorem dX12_program_123 : decode cX12_program 123 = .ok (.aload_n 0, 1) := by decide +kernel
theorem dX12_program_124 : decode cX12_program 124 = .ok (.iconst 0, 1) := by decide +kernel
theorem dX12_program_125 : decode cX12_program 125 = .ok (.putfield 289, 3) := by decide +kernel
theorem dX12_program_128 : decode cX12_program 128 = .ok (.aload_n 0, 1) := by decide +kernel
theorem dX12_program_129 : decode cX12_program 129 = .ok (.invokevirtual 273, 3) := by decide +kernel
theorem dX12_program_132 : decode cX12_program 132 = .ok (.iconst 1, 1) := by decide +kernel
theorem dX12_program_133 : decode cX12_program 133 = .ok (.istore_n 1, 1) := by decide +kernel
theorem dX12_program_134 : decode cX12_program 134 = .ok (.iload_n 1, 1) := by decide +kernel
theorem dX12_program_135 : decode cX12_program 135 = .ok (.ifCond .eq 93, 3) := by decide +kernel
theorem dX12_program_138 : decode cX12_program 138 = .ok (.aload_n 0, 1) := by decide +kernel
theorem dX12_program_139 : decode cX12_program 139 = .ok (.iconst 1, 1) := by decide +kernel
theorem dX12_program_140 : decode cX12_program 140 = .ok (.invokevirtual 292, 3) := by decide +kernel
theorem dX12_program_143 : decode cX12_program 143 = .ok (.ifCond .eq 14, 3) := by decide +kernel
theorem dX12_program_146 : decode cX12_program 146 = .ok (.aload_n 0, 1) := by decide +kernel
theorem dX12_program_147 : decode cX12_program 147 = .ok (.invokevirtual 273, 3) := by decide +kernel
theorem dX12_program_150 : decode cX12_program 150 = .ok (.aload_n 0, 1) := by decide +kernel
theorem dX12_program_151 : decode cX12_program 151 = .ok (.invokevirtual 407, 3) := by decide +kernel
theorem dX12_program_154 : decode cX12_program 154 = .ok (.goto 51, 3) := by decide +kernel
theorem dX12_program_157 : decode cX12_program 157 = .ok (.aload_n 0, 1) := by decide +kernel
theorem dX12_program_158 : decode cX12_program 158 = .ok (.iconst 2, 1) := by decide +kernel
theorem dX12_program_159 : decode cX12_program 159 = .ok (.invokevirtual 292, 3) := by decide +kernel
theorem dX12_program_162 : decode cX12_program 162 = .ok (.ifCond .eq 34, 3) := by decide +kernel
theorem dX12_program_165 : decode cX12_program 165 = .ok (.aload_n 0, 1) := by decide +kernel
theorem dX12_program_166 : decode cX12_program 166 = .ok (.invokevirtual 273, 3) := by decide +kernel
theorem dX12_program_169 : decode cX12_program 169 = .ok (.aload_n 0, 1) := by decide +kernel
theorem dX12_program_170 : decode cX12_program 170 = .ok (.invokevirtual 410, 3) := by decide +kernel
theorem dX12_program_173 : decode cX12_program 173 = .ok (.aload_n 0, 1) := by decide +kernel
theorem dX12_program_174 : decode cX12_program 174 = .ok (.getfield 267, 3) := by decide +kernel
theorem dX12_program_177 : decode cX12_program 177 = .ok (.ifCond .ge 28, 3) := by decide +kernel
theorem dX12_program_180 : decode cX12_program 180 = .ok (.aload_n 0, 1) := by decide +kernel
theorem dX12_program_181 : decode cX12_program 181 = .ok (.getfield 97, 3) := by decide +kernel
theorem dX12_program_184 : decode cX12_program 184 = .ok (.aload_n 0, 1) := by decide +kernel
theorem dX12_program_185 : decode cX12_program 185 = .ok (.getfield 322, 3) := by decide +kernel
theorem dX12_program_188 : decode cX12_program 188 = .ok (.aload_n 0, 1) := by decide +kernel
theorem dX12_program_189 : decode cX12_program 189 = .ok (.getfield 340, 3) := by decide +kernel
theorem dX12_program_192 : decode cX12_program 192 = .ok (.iastore, 1) := by decide +kernel
theorem dX12_program_193 : decode cX12_program 193 = .ok (.goto 12, 3) := by decide +kernel
theorem dX12_program_196 : decode cX12_program 196 = .ok (.aload_n 0, 1) := by decide +kernel
theorem dX12_program_197 : decode cX12_program 197 = .ok (.aload_n 0, 1) := by decide +kernel
theorem dX12_program_198 : decode cX12_program 198 = .ok (.getfield 227, 3) := by decide +kernel
theorem dX12_program_201 : decode cX12_program 201 = .ok (.invokevirtual 270, 3) := by decide +kernel
theorem dX12_program_204 : decode cX12_program 204 = .ok (.istore_n 2, 1) := by decide +kernel
theorem dX12_program_205 : decode cX12_program 205 = .ok (.aload_n 0, 1) := by decide +kernel
theorem dX12_program_206 : decode cX12_program 206 = .ok (.getfield 267, 3) := by decide +kernel
theorem dX12_program_209 : decode cX12_program 209 = .ok (.ifCond .ge 14, 3) := by decide +kernel
theorem dX12_program_212 : decode cX12_program 212 = .ok (.aload_n 0, 1) := by decide +kernel
theorem dX12_program_213 : decode cX12_program 213 = .ok (.getfield 247, 3) := by decide +kernel
theorem dX12_program_216 : decode cX12_program 216 = .ok (.ifCond .eq 7, 3) := by decide +kernel
theorem dX12_program_219 : decode cX12_program 219 = .ok (.iconst 1, 1) := by decide +kernel
theorem dX12_program_220 : decode cX12_program 220 = .ok (.goto 4, 3) := by decide +kernel
theorem dX12_program_223 : decode cX12_program 223 = .ok (.iconst 0, 1) := by decide +kernel
theorem dX12_program_224 : decode cX12_program 224 = .ok (.istore_n 1, 1) := by decide +kernel
theorem dX12_program_225 : decode cX12_program 225 = .ok (.goto (-91), 3) := by decide +kernel
theorem dX12_program_228 : decode cX12_program 228 = .ok (.aload_n 0, 1) := by decide +kernel
theorem dX12_program_229 : decode cX12_program 229 = .ok (.getfield 267, 3) := by decide +kernel
theorem dX12_program_232 : decode cX12_program 232 = .ok (.ifCond .ge 7, 3) := by decide +kernel
theorem dX12_program_235 : decode cX12_program 235 = .ok (.aload_n 0, 1) := by decide +kernel
theorem dX12_program_236 : decode cX12_program 236 = .ok (.invokevirtual 413, 3) := by decide +kernel
theorem dX12_program_239 : decode cX12_program 239 = .ok (.aload_n 0, 1) := by decide +kernel
theorem dX12_program_240 : decode cX12_program 240 = .ok (.aload_n 0, 1) := by decide +kernel
theorem dX12_program_241 : decode cX12_program 241 = .ok (.getfield 267, 3) := by decide +kernel
theorem dX12_program_244 : decode cX12_program 244 = .ok (.ifCond .ge 22, 3) := by decide +kernel
theorem dX12_program_247 : decode cX12_program 247 = .ok (.aload_n 0, 1) := by decide +kernel
theorem dX12_program_248 : decode cX12_program 248 = .ok (.aload_n 0, 1) := by decide +kernel
theorem dX12_program_249 : decode cX12_program 249 = .ok (.bipush 109, 2) := by decide +kernel
theorem dX12_program_251 : decode cX12_program 251 = .ok (.bipush 97, 2) := by decide +kernel
theorem dX12_program_253 : decode cX12_program 253 = .ok (.bipush 105, 2) := by decide +kernel
theorem dX12_program_255 : decode cX12_program 255 = .ok (.bipush 110, 2) := by decide +kernel
theorem dX12_program_257 : decode cX12_program 257 = .ok (.invokevirtual 416, 3) := by decide +kernel
theorem dX12_program_260 : decode cX12_program 260 = .ok (.invokevirtual 394, 3) := by decide +kernel
theorem dX12_program_263 : decode cX12_program 263 = .ok (.goto 4, 3) := by decide +kernel
theorem dX12_program_266 : decode cX12_program 266 = .ok (.iconst (-1), 1) := by decide +kernel
theorem dX12_program_267 : decode cX12_program 267 = .ok (.putfield 420, 3) := by decide +kernel
theorem dX12_program_270 : decode cX12_program 270 = .ok (.aload_n 0, 1) := by decide +kernel
theorem dX12_program_271 : decode cX12_program 271 = .ok (.getfield 267, 3) := by decide +kernel
theorem dX12_program_274 : decode cX12_program 274 = .ok (.ifCond .ge 30, 3) := by decide +kernel
theorem dX12_program_277 : decode cX12_program 277 = .ok (.aload_n 0, 1) := by decide +kernel
theorem dX12_program_278 : decode cX12_program 278 = .ok (.getfield 420, 3) := by decide +kernel
theorem dX12_program_281 : decode cX12_program 281 = .ok (.ifCond .lt 15, 3) := by decide +kernel
theorem dX12_program_284 : decode cX12_program 284 = .ok (.aload_n 0, 1) := by decide +kernel
theorem dX12_program_285 : decode cX12_program 285 = .ok (.getfield 103, 3) := by decide +kernel
theorem dX12_program_288 : decode cX12_program 288 = .ok (.aload_n 0, 1) := by decide +kernel
theorem dX12_program_289 : decode cX12_program 289 = .ok (.getfield 420, 3) := by decide +kernel
theorem dX12_program_292 : decode cX12_program 292 = .ok (.iaload, 1) := by decide +kernel
theorem dX12_program_293 : decode cX12_program 293 = .ok (.ifCond .le 11, 3) := by decide +kernel
theorem dX12_program_296 : decode cX12_program 296 = .ok (.aload_n 0, 1) := by decide +kernel
theorem dX12_program_297 : decode cX12_program 297 = .ok (.aload_n 0, 1) := by decide +kernel
theorem dX12_program_298 : decode cX12_program 298 = .ok (.getfield 221, 3) := by decide +kernel
theorem dX12_program_301 : decode cX12_program 301 = .ok (.putfield 267, 3) := by decide +kernel
theorem dX12_program_304 : decode cX12_program 304 = .ok (.aload_n 0, 1) := by decide +kernel
theorem dX12_program_305 : decode cX12_program 305 = .ok (.getfield 267, 3) := by decide +kernel
theorem dX12_program_308 : decode cX12_program 308 = .ok (.ifCond .lt 10, 3) := by decide +kernel
theorem dX12_program_311 : decode cX12_program 311 = .ok (.iconst (-1), 1) := by decide +kernel
theorem dX12_program_312 : decode cX12_program 312 = .ok (.aload_n 0, 1) := by decide +kernel
theorem dX12_program_313 : decode cX12_program 313 = .ok (.getfield 267, 3) := by decide +kernel
theorem dX12_program_316 : decode cX12_program 316 = .ok (.isub, 1) := by decide +kernel
theorem dX12_program_317 : decode cX12_program 317 = .ok (.ireturn, 1) := by decide +kernel
theorem dX12_program_318 : decode cX12_program 318 = .ok (.aload_n 0, 1) := by decide +kernel
theorem dX12_program_319 : decode cX12_program 319 = .ok (.iconst (-1), 1) := by decide +kernel
theorem dX12_program_320 : decode cX12_program 320 = .ok (.putfield 423, 3) := by decide +kernel
theorem dX12_program_323 : decode cX12_program 323 = .ok (.iconst 0, 1) := by decide +kernel
theorem dX12_program_324 : decode cX12_program 324 = .ok (.istore_n 2, 1) := by decide +kernel
theorem dX12_program_325 : decode cX12_program 325 = .ok (.iload_n 2, 1) := by decide +kernel
theorem dX12_program_326 : decode cX12_program 326 = .ok (.aload_n 0, 1) := by decide +kernel
theorem dX12_program_327 : decode cX12_program 327 = .ok (.getfield 328, 3) := by decide +kernel
theorem dX12_program_330 : decode cX12_program 330 = .ok (.if_icmp .ge 21, 3) := by decide +kernel
theorem dX12_program_333 : decode cX12_program 333 = .ok (.aload_n 0, 1) := by decide +kernel
theorem dX12_program_334 : decode cX12_program 334 = .ok (.getfield 423, 3) := by decide +kernel
theorem dX12_program_337 : decode cX12_program 337 = .ok (.ifCond .ge 14, 3) := by decide +kernel
theorem dX12_program_340 : decode cX12_program 340 = .ok (.aload_n 0, 1) := by decide +kernel
theorem dX12_program_341 : decode cX12_program 341 = .ok (.iload_n 2, 1) := by decide +kernel
theorem dX12_program_342 : decode cX12_program 342 = .ok (.invokevirtual 426, 3) := by decide +kernel
theorem dX12_program_345 : decode cX12_program 345 = .ok (.iinc 2 1, 3) := by decide +kernel
theorem dX12_program_348 : decode cX12_program 348 = .ok (.goto (-23), 3) := by decide +kernel
theorem dX12_program_351 : decode cX12_program 351 = .ok (.aload_n 0, 1) := by decide +kernel
theorem dX12_program_352 : decode cX12_program 352 = .ok (.getfield 423, 3) := by decide +kernel
theorem dX12_program_355 : decode cX12_program 355 = .ok (.ifCond .lt 12, 3) := by decide +kernel
theorem dX12_program_358 : decode cX12_program 358 = .ok (.sipush (-10000), 3) := by decide +kernel
theorem dX12_program_361 : decode cX12_program 361 = .ok (.aload_n 0, 1) := by decide +kernel
theorem dX12_program_362 : decode cX12_program 362 = .ok (.getfield 423, 3) := by decide +kernel
theorem dX12_program_365 : decode cX12_program 365 = .ok (.isub, 1) := by decide +kernel
theorem dX12_program_366 : decode cX12_program 366 = .ok (.ireturn, 1) := by decide +kernel
theorem dX12_program_367 : decode cX12_program 367 = .ok (.aload_n 0, 1) := by decide +kernel
theorem dX12_program_368 : decode cX12_program 368 = .ok (.invokevirtual 429, 3) := by decide +kernel
theorem dX12_program_371 : decode cX12_program 371 = .ok (.aload_n 0, 1) := by decide +kernel
theorem dX12_program_372 : decode cX12_program 372 = .ok (.iconst 1, 1) := by decide +kernel
theorem dX12_program_373 : decode cX12_program 373 = .ok (.putfield 400, 3) := by decide +kernel
theorem dX12_program_376 : decode cX12_program 376 = .ok (.aload_n 0, 1) := by decide +kernel
theorem dX12_program_377 : decode cX12_program 377 = .ok (.getfield 328, 3) := by decide +kernel
theorem dX12_program_380 : decode cX12_program 380 = .ok (.ireturn, 1) := by decide +kernel
def bX12_program_224 (k134 : Int32 → zS → zR) (y0 : Int32) (t : zS) : zR := k134 y0 t
def bX12_program_223 (k134 : Int32 → zS → zR) (t : zS) : zR := bX12_program_224 k134 0 t
def bX12_program_205 (k134 : Int32 → zS → zR) (t : zS) : zR := if 0 ≤ (t 0 9) then bX12_program_223 k134  t else if (t 0 5) = 0 then bX12_program_223 k134  t else bX12_program_224 k134 1 t
def bX12_program_351 (t : zS) : zR := if (t 0 67) < 0 then zbd (mX12_setAfter  t) fun r4193 t4194 => zpt t4194 0 57 1 fun t4196 => some ((t4196 0 44), t4196) else some (((-10000) - (t 0 67)), t)
def bX12_program_325 (k325 : Int32 → zS → zR) (x2 : Int32) (t : zS) : zR := if (t 0 44) ≤ x2 then bX12_program_351   t else if 0 ≤ (t 0 67) then bX12_program_351   t else zbd (mX12_check x2 t) fun r4197 t4198 => zlet (x2 + 1) fun v4200 => k325 v4200 t4198
def lX12_program_325 : Nat → Int32 → zS → zR
  | 0, _, _ => none
  | fu + 1, x2, t => bX12_program_325 (lX12_program_325  fu) x2 t
def bX12_program_304 (t : zS) : zR := if (t 0 9) < 0 then zpt t 0 67 (-1) fun t4201 => lX12_program_325  zFU 0 t4201 else some (((-1) - (t 0 9)), t)
def bX12_program_296 (t : zS) : zR := zpt t 0 9 (t 0 3) fun t4202 => bX12_program_304   t4202
def bX12_program_267 (y0 : Int32) (t : zS) : zR := zpt t 0 62 y0 fun t4203 => if 0 ≤ (t4203 0 9) then bX12_program_304   t4203 else if (t4203 0 62) < 0 then bX12_program_296   t4203 else zrd t4203 32 300 (t4203 0 62) fun v4204 => if v4204 ≤ 0 then bX12_program_304   t4203 else bX12_program_296   t4203
def bX12_program_239 (t : zS) : zR := if 0 ≤ (t 0 9) then bX12_program_267  (-1) t else zbd (mX12_idOf 109 97 105 110 t) fun r4206 t4207 => zbd (mX12_procOfId r4206 t4207) fun r4209 t4210 => bX12_program_267  r4209 t4210
def bX12_program_134 (k134 : Int32 → zS → zR) (x1 : Int32) (t : zS) : zR := if x1 = 0 then if 0 ≤ (t 0 9) then bX12_program_239   t else zbd (mX12_lookUp  t) fun r4212 t4213 => bX12_program_239   t4213 else zbd (mX12_isKey 1 t) fun r4215 t4216 => if r4215 = 0 then zbd (mX12_isKey 2 t4216) fun r4218 t4219 => if r4218 = 0 then zbd (mX12_fails (t4219 0 6) t4219) fun r4221 t4222 => bX12_program_205 k134  t4222 else zbd (mX12_next  t4219) fun r4224 t4225 => zbd (mX12_proc  t4225) fun r4227 t4228 => if 0 ≤ (t4228 0 9) then bX12_program_205 k134  t4228 else zwr t4228 30 300 (t4228 0 60) (t4228 0 61) fun t4231 => bX12_program_205 k134  t4231 else zbd (mX12_next  t4216) fun r4232 t4233 => zbd (mX12_namedType  t4233) fun r4235 t4236 => bX12_program_205 k134  t4236
def lX12_program_134 : Nat → Int32 → zS → zR
  | 0, _, _ => none
  | fu + 1, x1, t => bX12_program_134 (lX12_program_134  fu) x1 t
def bX12_program_10 (k10 : Int32 → zS → zR) (x1 : Int32) (t : zS) : zR := if (t 0 1) ≤ x1 then zpt t 0 1 0 fun t4238 => zpt t4238 0 57 0 fun t4239 => zpt t4239 0 71 0 fun t4240 => zpt t4240 0 4 0 fun t4241 => zpt t4241 0 9 (-1) fun t4242 => zpt t4242 0 10 0 fun t4243 => zpt t4243 0 11 0 fun t4244 => zpt t4244 0 14 0 fun t4245 => zpt t4245 0 19 0 fun t4246 => zpt t4246 0 59 0 fun t4247 => zpt t4247 0 22 0 fun t4248 => zpt t4248 0 26 0 fun t4249 => zpt t4249 0 36 0 fun t4250 => zpt t4250 0 39 0 fun t4251 => zpt t4251 0 42 0 fun t4252 => zpt t4252 0 44 0 fun t4253 => zwr t4253 31 301 0 0 fun t4255 => zpt t4255 0 52 0 fun t4256 => zbd (mX12_next  t4256) fun r4257 t4258 => lX12_program_134  zFU 1 t4258 else zrd t 1 3000 x1 fun v4260 => zwr t 2 3000 x1 v4260 fun t4263 => zlet (x1 + 1) fun v4264 => k10 v4264 t4263
def lX12_program_10 : Nat → Int32 → zS → zR
  | 0, _, _ => none
  | fu + 1, x1, t => bX12_program_10 (lX12_program_10  fu) x1 t
def mX12_program (t : zS) : zR := zpt t 0 3 (t 0 1) fun t4265 => lX12_program_10  zFU 0 t4265
set_option maxHeartbeats 4000000 in
set_option maxRecDepth 20000 in
theorem wbX12_program_224 {E : zE} {C : zC} {f : Nat} {ro : Int32 × zS} (hf : 612 ≤ f) (k134 : Int32 → zS → zR) (hk134 : ∀ (x1 : Int32) (t : zS), k134 x1 t = some ro → zJ E shM C cX12_program RX12 3 f (some .int) ro t 134 [(0, .ref (za E 0)), (1, .int x1)] []) (y0 : Int32) (t : zS) (hF : bX12_program_224 k134 y0 t = some ro) : zJ E shM C cX12_program RX12 3 f (some .int) ro t 224 [(0, .ref (za E 0))] [.int y0] := by
  unfold bX12_program_224 at hF
  refine z_istore_n (lv' := [(1, .int y0), (0, .ref (za E 0))]) dX12_program_224 rfl (by decide) rfl ?_
  refine z_goto (tgt := 134) dX12_program_225 (by decide) ?_
  refine z_sub [1, 0] rfl ?_
  exact hk134 y0 _ hF
set_option maxHeartbeats 4000000 in
set_option maxRecDepth 20000 in
theorem wbX12_program_223 {E : zE} {C : zC} {f : Nat} {ro : Int32 × zS} (hf : 612 ≤ f) (k134 : Int32 → zS → zR) (hk134 : ∀ (x1 : Int32) (t : zS), k134 x1 t = some ro → zJ E shM C cX12_program RX12 3 f (some .int) ro t 134 [(0, .ref (za E 0)), (1, .int x1)] []) (t : zS) (hF : bX12_program_223 k134  t = some ro) : zJ E shM C cX12_program RX12 3 f (some .int) ro t 223 [(0, .ref (za E 0))] [] := by
  unfold bX12_program_223 at hF
  refine z_iconst (v := 0) dX12_program_223 (by decide) ?_
  exact wbX12_program_224 hf k134 hk134 0 _ hF
set_option maxHeartbeats 4000000 in
set_option maxRecDepth 20000 in
theorem wbX12_program_205 {E : zE} {C : zC} {f : Nat} {ro : Int32 × zS} (hf : 612 ≤ f) (k134 : Int32 → zS → zR) (hk134 : ∀ (x1 : Int32) (t : zS), k134 x1 t = some ro → zJ E shM C cX12_program RX12 3 f (some .int) ro t 134 [(0, .ref (za E 0)), (1, .int x1)] []) (t : zS) (hF : bX12_program_205 k134  t = some ro) : zJ E shM C cX12_program RX12 3 f (some .int) ro t 205 [(0, .ref (za E 0))] [] := by
  unfold bX12_program_205 at hF
  refine z_aload_n 0 dX12_program_205 rfl rfl ?_
  refine z_geti fi_RX12_267 dX12_program_206 ?_
  refine z_if_ge (tgt := 223) dX12_program_209 (by decide) (fun hc => ?_) (fun hc => ?_)
  · have hF := zif_t hc hF
    exact wbX12_program_223 hf k134 hk134  _ hF
  · have hF := zif_f hc hF
    refine z_aload_n 0 dX12_program_212 rfl rfl ?_
    refine z_geti fi_RX12_247 dX12_program_213 ?_
    refine z_if_eq (tgt := 223) dX12_program_216 (by decide) (fun hc => ?_) (fun hc => ?_)
    · have hF := zif_t hc hF
      exact wbX12_program_223 hf k134 hk134  _ hF
    · have hF := zif_f hc hF
      refine z_iconst (v := 1) dX12_program_219 (by decide) ?_
      refine z_goto (tgt := 224) dX12_program_220 (by decide) ?_
      exact wbX12_program_224 hf k134 hk134 1 _ hF
set_option maxHeartbeats 4000000 in
set_option maxRecDepth 20000 in
theorem wbX12_program_351 {E : zE} {C : zC} {f : Nat} {ro : Int32 × zS} (hf : 612 ≤ f) (t : zS) (hF : bX12_program_351   t = some ro) : zJ E shM C cX12_program RX12 3 f (some .int) ro t 351 [(0, .ref (za E 0))] [] := by
  unfold bX12_program_351 at hF
  refine z_aload_n 0 dX12_program_351 rfl rfl ?_
  refine z_geti fi_RX12_423 dX12_program_352 ?_
  refine z_if_lt (tgt := 367) dX12_program_355 (by decide) (fun hc => ?_) (fun hc => ?_)
  · have hF := zif_t hc hF
    refine z_aload_n 0 dX12_program_367 rfl rfl ?_
    obtain ⟨r4193, t4194, hc4195, hF⟩ := zbd_at hF
    refine z_callVv (ctX12_setAfter (E := E) (f := f - 1) (by omega) hc4195) yy_X12_setAfter yv_X12_setAfter ob_M_0 lk_RX12_429 (by omega) rfl rfl (Nat.le_of_ble_eq_true rfl) dX12_program_368 ?_
    refine z_aload_n 0 dX12_program_371 rfl rfl ?_
    refine z_iconst (v := 1) dX12_program_372 (by decide) ?_
    refine z_putz fw_RX12_400 (by decide) dX12_program_373 (fun t4196 et4196 => ?_)
    have hF := zpt_at hF t4196 et4196
    refine z_aload_n 0 dX12_program_376 rfl rfl ?_
    refine z_geti fi_RX12_328 dX12_program_377 ?_
    exact z_iret hF dX12_program_380
  · have hF := zif_f hc hF
    refine z_sipush (v := (-10000)) dX12_program_358 (by decide) ?_
    refine z_aload_n 0 dX12_program_361 rfl rfl ?_
    refine z_geti fi_RX12_423 dX12_program_362 ?_
    refine z_isub dX12_program_365 ?_
    exact z_iret hF dX12_program_366
set_option maxHeartbeats 4000000 in
set_option maxRecDepth 20000 in
theorem wbX12_program_325 {E : zE} {C : zC} {f : Nat} {ro : Int32 × zS} (hf : 612 ≤ f) (k325 : Int32 → zS → zR) (hk325 : ∀ (x2 : Int32) (t : zS), k325 x2 t = some ro → zJ E shM C cX12_program RX12 3 f (some .int) ro t 325 [(0, .ref (za E 0)), (2, .int x2)] []) (x2 : Int32) (t : zS) (hF : bX12_program_325 k325 x2 t = some ro) : zJ E shM C cX12_program RX12 3 f (some .int) ro t 325 [(0, .ref (za E 0)), (2, .int x2)] [] := by
  unfold bX12_program_325 at hF
  refine z_iload_n 1 dX12_program_325 rfl rfl ?_
  refine z_aload_n 0 dX12_program_326 rfl rfl ?_
  refine z_geti fi_RX12_328 dX12_program_327 ?_
  refine z_icmp_ge (tgt := 351) dX12_program_330 (by decide) (fun hc => ?_) (fun hc => ?_)
  · have hF := zif_t hc hF
    refine z_sub [0] rfl ?_
    exact wbX12_program_351 hf   _ hF
  · have hF := zif_f hc hF
    refine z_aload_n 0 dX12_program_333 rfl rfl ?_
    refine z_geti fi_RX12_423 dX12_program_334 ?_
    refine z_if_ge (tgt := 351) dX12_program_337 (by decide) (fun hc => ?_) (fun hc => ?_)
    · have hF := zif_t hc hF
      refine z_sub [0] rfl ?_
      exact wbX12_program_351 hf   _ hF
    · have hF := zif_f hc hF
      refine z_aload_n 0 dX12_program_340 rfl rfl ?_
      refine z_iload_n 1 dX12_program_341 rfl rfl ?_
      obtain ⟨r4197, t4198, hc4199, hF⟩ := zbd_at hF
      refine z_callVv (ctX12_check (E := E) (f := f - 1) (by omega) hc4199) yy_X12_check yv_X12_check ob_M_0 lk_RX12_426 (by omega) rfl rfl (Nat.le_of_ble_eq_true rfl) dX12_program_342 ?_
      obtain ⟨v4200, ev4200⟩ : ∃ y : Int32, y = (x2 + 1) := ⟨_, rfl⟩
      have hF := zlet_at ev4200 hF
      refine z_iinc (v := v4200) (lv' := [(2, .int v4200), (0, .ref (za E 0))]) (k := 1) dX12_program_345 rfl (by rw [ev4200]; rfl) (by decide) rfl ?_
      refine z_goto (tgt := 325) dX12_program_348 (by decide) ?_
      refine z_sub [1, 0] rfl ?_
      exact hk325 v4200 _ hF
set_option maxHeartbeats 4000000 in
set_option maxRecDepth 20000 in
theorem wlX12_program_325 {E : zE} {C : zC} {f : Nat} {ro : Int32 × zS} (hf : 612 ≤ f) (fu : Nat) : ∀ (x2 : Int32) (t : zS), lX12_program_325  fu x2 t = some ro → zJ E shM C cX12_program RX12 3 f (some .int) ro t 325 [(0, .ref (za E 0)), (2, .int x2)] [] := by
  induction fu with
  | zero => intro x2 t hF; cases hF
  | succ fu ih => intro x2 t hF; exact wbX12_program_325 hf (lX12_program_325  fu) ih x2 t hF
set_option maxHeartbeats 4000000 in
set_option maxRecDepth 20000 in
theorem wbX12_program_304 {E : zE} {C : zC} {f : Nat} {ro : Int32 × zS} (hf : 612 ≤ f) (t : zS) (hF : bX12_program_304   t = some ro) : zJ E shM C cX12_program RX12 3 f (some .int) ro t 304 [(0, .ref (za E 0))] [] := by
  unfold bX12_program_304 at hF
  refine z_aload_n 0 dX12_program_304 rfl rfl ?_
  refine z_geti fi_RX12_267 dX12_program_305 ?_
  refine z_if_lt (tgt := 318) dX12_program_308 (by decide) (fun hc => ?_) (fun hc => ?_)
  · have hF := zif_t hc hF
    refine z_aload_n 0 dX12_program_318 rfl rfl ?_
    refine z_iconst (v := (-1)) dX12_program_319 (by decide) ?_
    refine z_puti fw_RX12_423 dX12_program_320 (fun t4201 et4201 => ?_)
    have hF := zpt_at hF t4201 et4201
    refine z_iconst (v := 0) dX12_program_323 (by decide) ?_
    refine z_istore_n (lv' := [(2, .int 0), (0, .ref (za E 0))]) dX12_program_324 rfl (by decide) rfl ?_
    refine z_sub [1, 0] rfl ?_
    exact wlX12_program_325 hf  zFU 0 _ hF
  · have hF := zif_f hc hF
    refine z_iconst (v := (-1)) dX12_program_311 (by decide) ?_
    refine z_aload_n 0 dX12_program_312 rfl rfl ?_
    refine z_geti fi_RX12_267 dX12_program_313 ?_
    refine z_isub dX12_program_316 ?_
    exact z_iret hF dX12_program_317
set_option maxHeartbeats 4000000 in
set_option maxRecDepth 20000 in
theorem wbX12_program_296 {E : zE} {C : zC} {f : Nat} {ro : Int32 × zS} (hf : 612 ≤ f) (t : zS) (hF : bX12_program_296   t = some ro) : zJ E shM C cX12_program RX12 3 f (some .int) ro t 296 [(0, .ref (za E 0))] [] := by
  unfold bX12_program_296 at hF
  refine z_aload_n 0 dX12_program_296 rfl rfl ?_
  refine z_aload_n 0 dX12_program_297 rfl rfl ?_
  refine z_geti fi_RX12_221 dX12_program_298 ?_
  refine z_puti fw_RX12_267 dX12_program_301 (fun t4202 et4202 => ?_)
  have hF := zpt_at hF t4202 et4202
  exact wbX12_program_304 hf   _ hF
set_option maxHeartbeats 4000000 in
set_option maxRecDepth 20000 in
theorem wbX12_program_267 {E : zE} {C : zC} {f : Nat} {ro : Int32 × zS} (hf : 612 ≤ f) (y0 : Int32) (t : zS) (hF : bX12_program_267  y0 t = some ro) : zJ E shM C cX12_program RX12 3 f (some .int) ro t 267 [(0, .ref (za E 0))] [.int y0, .ref (za E 0)] := by
  unfold bX12_program_267 at hF
  refine z_puti fw_RX12_420 dX12_program_267 (fun t4203 et4203 => ?_)
  have hF := zpt_at hF t4203 et4203
  refine z_aload_n 0 dX12_program_270 rfl rfl ?_
  refine z_geti fi_RX12_267 dX12_program_271 ?_
  refine z_if_ge (tgt := 304) dX12_program_274 (by decide) (fun hc => ?_) (fun hc => ?_)
  · have hF := zif_t hc hF
    exact wbX12_program_304 hf   _ hF
  · have hF := zif_f hc hF
    refine z_aload_n 0 dX12_program_277 rfl rfl ?_
    refine z_geti fi_RX12_420 dX12_program_278 ?_
    refine z_if_lt (tgt := 296) dX12_program_281 (by decide) (fun hc => ?_) (fun hc => ?_)
    · have hF := zif_t hc hF
      exact wbX12_program_296 hf   _ hF
    · have hF := zif_f hc hF
      refine z_aload_n 0 dX12_program_284 rfl rfl ?_
      refine z_getr fr_RX12_103 dX12_program_285 ?_
      refine z_aload_n 0 dX12_program_288 rfl rfl ?_
      refine z_geti fi_RX12_420 dX12_program_289 ?_
      obtain ⟨hi4205, hF⟩ := zrd_at hF
      refine z_iald (n := 300) rfl hi4205 dX12_program_292 ?_
      generalize t4203 32 (Int32.toNatClampNeg (t4203 0 62)) = v4204 at hF ⊢
      refine z_if_le (tgt := 304) dX12_program_293 (by decide) (fun hc => ?_) (fun hc => ?_)
      · have hF := zif_t hc hF
        exact wbX12_program_304 hf   _ hF
      · have hF := zif_f hc hF
        exact wbX12_program_296 hf   _ hF
set_option maxHeartbeats 4000000 in
set_option maxRecDepth 20000 in
theorem wbX12_program_239 {E : zE} {C : zC} {f : Nat} {ro : Int32 × zS} (hf : 612 ≤ f) (t : zS) (hF : bX12_program_239   t = some ro) : zJ E shM C cX12_program RX12 3 f (some .int) ro t 239 [(0, .ref (za E 0))] [] := by
  unfold bX12_program_239 at hF
  refine z_aload_n 0 dX12_program_239 rfl rfl ?_
  refine z_aload_n 0 dX12_program_240 rfl rfl ?_
  refine z_geti fi_RX12_267 dX12_program_241 ?_
  refine z_if_ge (tgt := 266) dX12_program_244 (by decide) (fun hc => ?_) (fun hc => ?_)
  · have hF := zif_t hc hF
    refine z_iconst (v := (-1)) dX12_program_266 (by decide) ?_
    exact wbX12_program_267 hf  (-1) _ hF
  · have hF := zif_f hc hF
    refine z_aload_n 0 dX12_program_247 rfl rfl ?_
    refine z_aload_n 0 dX12_program_248 rfl rfl ?_
    refine z_bipush (v := 109) dX12_program_249 (by decide) ?_
    refine z_bipush (v := 97) dX12_program_251 (by decide) ?_
    refine z_bipush (v := 105) dX12_program_253 (by decide) ?_
    refine z_bipush (v := 110) dX12_program_255 (by decide) ?_
    obtain ⟨r4206, t4207, hc4208, hF⟩ := zbd_at hF
    refine z_callVi (ctX12_idOf (E := E) (f := f - 1) (by omega) hc4208) yy_X12_idOf yv_X12_idOf ob_M_0 lk_RX12_416 (by omega) rfl rfl (Nat.le_of_ble_eq_true rfl) dX12_program_257 ?_
    obtain ⟨r4209, t4210, hc4211, hF⟩ := zbd_at hF
    refine z_callVi (ctX12_procOfId (E := E) (f := f - 1) (by omega) hc4211) yy_X12_procOfId yv_X12_procOfId ob_M_0 lk_RX12_394 (by omega) rfl rfl (Nat.le_of_ble_eq_true rfl) dX12_program_260 ?_
    refine z_goto (tgt := 267) dX12_program_263 (by decide) ?_
    exact wbX12_program_267 hf  r4209 _ hF
set_option maxHeartbeats 4000000 in
set_option maxRecDepth 20000 in
theorem wbX12_program_134 {E : zE} {C : zC} {f : Nat} {ro : Int32 × zS} (hf : 612 ≤ f) (k134 : Int32 → zS → zR) (hk134 : ∀ (x1 : Int32) (t : zS), k134 x1 t = some ro → zJ E shM C cX12_program RX12 3 f (some .int) ro t 134 [(0, .ref (za E 0)), (1, .int x1)] []) (x1 : Int32) (t : zS) (hF : bX12_program_134 k134 x1 t = some ro) : zJ E shM C cX12_program RX12 3 f (some .int) ro t 134 [(0, .ref (za E 0)), (1, .int x1)] [] := by
  unfold bX12_program_134 at hF
  refine z_iload_n 1 dX12_program_134 rfl rfl ?_
  refine z_if_eq (tgt := 228) dX12_program_135 (by decide) (fun hc => ?_) (fun hc => ?_)
  · have hF := zif_t hc hF
    refine z_aload_n 0 dX12_program_228 rfl rfl ?_
    refine z_geti fi_RX12_267 dX12_program_229 ?_
    refine z_if_ge (tgt := 239) dX12_program_232 (by decide) (fun hc => ?_) (fun hc => ?_)
    · have hF := zif_t hc hF
      refine z_sub [0] rfl ?_
      exact wbX12_program_239 hf   _ hF
    · have hF := zif_f hc hF
      refine z_aload_n 0 dX12_program_235 rfl rfl ?_
      obtain ⟨r4212, t4213, hc4214, hF⟩ := zbd_at hF
      refine z_callVv (ctX12_lookUp (E := E) (f := f - 1) (by omega) hc4214) yy_X12_lookUp yv_X12_lookUp ob_M_0 lk_RX12_413 (by omega) rfl rfl (Nat.le_of_ble_eq_true rfl) dX12_program_236 ?_
      refine z_sub [0] rfl ?_
      exact wbX12_program_239 hf   _ hF
  · have hF := zif_f hc hF
    refine z_aload_n 0 dX12_program_138 rfl rfl ?_
    refine z_iconst (v := 1) dX12_program_139 (by decide) ?_
    obtain ⟨r4215, t4216, hc4217, hF⟩ := zbd_at hF
    refine z_callVi (ctX12_isKey (E := E) (f := f - 1) (by omega) hc4217) yy_X12_isKey yv_X12_isKey ob_M_0 lk_RX12_292 (by omega) rfl rfl (Nat.le_of_ble_eq_true rfl) dX12_program_140 ?_
    refine z_if_eq (tgt := 157) dX12_program_143 (by decide) (fun hc => ?_) (fun hc => ?_)
    · have hF := zif_t hc hF
      refine z_aload_n 0 dX12_program_157 rfl rfl ?_
      refine z_iconst (v := 2) dX12_program_158 (by decide) ?_
      obtain ⟨r4218, t4219, hc4220, hF⟩ := zbd_at hF
      refine z_callVi (ctX12_isKey (E := E) (f := f - 1) (by omega) hc4220) yy_X12_isKey yv_X12_isKey ob_M_0 lk_RX12_292 (by omega) rfl rfl (Nat.le_of_ble_eq_true rfl) dX12_program_159 ?_
      refine z_if_eq (tgt := 196) dX12_program_162 (by decide) (fun hc => ?_) (fun hc => ?_)
      · have hF := zif_t hc hF
        refine z_aload_n 0 dX12_program_196 rfl rfl ?_
        refine z_aload_n 0 dX12_program_197 rfl rfl ?_
        refine z_geti fi_RX12_227 dX12_program_198 ?_
        obtain ⟨r4221, t4222, hc4223, hF⟩ := zbd_at hF
        refine z_callVi (ctX12_fails (E := E) (f := f - 1) (by omega) hc4223) yy_X12_fails yv_X12_fails ob_M_0 lk_RX12_270 (by omega) rfl rfl (Nat.le_of_ble_eq_true rfl) dX12_program_201 ?_
        refine z_istore_n (lv' := [(2, .int r4221), (0, .ref (za E 0)), (1, .int x1)]) dX12_program_204 rfl (by decide) rfl ?_
        refine z_sub [1] rfl ?_
        exact wbX12_program_205 hf k134 hk134  _ hF
      · have hF := zif_f hc hF
        refine z_aload_n 0 dX12_program_165 rfl rfl ?_
        obtain ⟨r4224, t4225, hc4226, hF⟩ := zbd_at hF
        refine z_callVv (ctX12_next (E := E) (f := f - 1) (by omega) hc4226) yy_X12_next yv_X12_next ob_M_0 lk_RX12_273 (by omega) rfl rfl (Nat.le_of_ble_eq_true rfl) dX12_program_166 ?_
        refine z_aload_n 0 dX12_program_169 rfl rfl ?_
        obtain ⟨r4227, t4228, hc4229, hF⟩ := zbd_at hF
        refine z_callVv (ctX12_proc (E := E) (f := f - 1) (by omega) hc4229) yy_X12_proc yv_X12_proc ob_M_0 lk_RX12_410 (by omega) rfl rfl (Nat.le_of_ble_eq_true rfl) dX12_program_170 ?_
        refine z_aload_n 0 dX12_program_173 rfl rfl ?_
        refine z_geti fi_RX12_267 dX12_program_174 ?_
        refine z_if_ge (tgt := 205) dX12_program_177 (by decide) (fun hc => ?_) (fun hc => ?_)
        · have hF := zif_t hc hF
          refine z_sub [0] rfl ?_
          exact wbX12_program_205 hf k134 hk134  _ hF
        · have hF := zif_f hc hF
          refine z_aload_n 0 dX12_program_180 rfl rfl ?_
          refine z_getr fr_RX12_97 dX12_program_181 ?_
          refine z_aload_n 0 dX12_program_184 rfl rfl ?_
          refine z_geti fi_RX12_322 dX12_program_185 ?_
          refine z_aload_n 0 dX12_program_188 rfl rfl ?_
          refine z_geti fi_RX12_340 dX12_program_189 ?_
          obtain ⟨hi4230, hF⟩ := zwr_at hF
          refine z_iast (n := 300) rfl hi4230 dX12_program_192 (fun t4231 et4231 => ?_)
          have hF := hF t4231 et4231
          refine z_goto (tgt := 205) dX12_program_193 (by decide) ?_
          refine z_sub [0] rfl ?_
          exact wbX12_program_205 hf k134 hk134  _ hF
    · have hF := zif_f hc hF
      refine z_aload_n 0 dX12_program_146 rfl rfl ?_
      obtain ⟨r4232, t4233, hc4234, hF⟩ := zbd_at hF
      refine z_callVv (ctX12_next (E := E) (f := f - 1) (by omega) hc4234) yy_X12_next yv_X12_next ob_M_0 lk_RX12_273 (by omega) rfl rfl (Nat.le_of_ble_eq_true rfl) dX12_program_147 ?_
      refine z_aload_n 0 dX12_program_150 rfl rfl ?_
      obtain ⟨r4235, t4236, hc4237, hF⟩ := zbd_at hF
      refine z_callVv (ctX12_namedType (E := E) (f := f - 1) (by omega) hc4237) yy_X12_namedType yv_X12_namedType ob_M_0 lk_RX12_407 (by omega) rfl rfl (Nat.le_of_ble_eq_true rfl) dX12_program_151 ?_
      refine z_goto (tgt := 205) dX12_program_154 (by decide) ?_
      refine z_sub [0] rfl ?_
      exact wbX12_program_205 hf k134 hk134  _ hF
set_option maxHeartbeats 4000000 in
set_option maxRecDepth 20000 in
theorem wlX12_program_134 {E : zE} {C : zC} {f : Nat} {ro : Int32 × zS} (hf : 612 ≤ f) (fu : Nat) : ∀ (x1 : Int32) (t : zS), lX12_program_134  fu x1 t = some ro → zJ E shM C cX12_program RX12 3 f (some .int) ro t 134 [(0, .ref (za E 0)), (1, .int x1)] [] := by
  induction fu with
  | zero => intro x1 t hF; cases hF
  | succ fu ih => intro x1 t hF; exact wbX12_program_134 hf (lX12_program_134  fu) ih x1 t hF
set_option maxHeartbeats 4000000 in
set_option maxRecDepth 20000 in
theorem wbX12_program_10 {E : zE} {C : zC} {f : Nat} {ro : Int32 × zS} (hf : 612 ≤ f) (k10 : Int32 → zS → zR) (hk10 : ∀ (x1 : Int32) (t : zS), k10 x1 t = some ro → zJ E shM C cX12_program RX12 3 f (some .int) ro t 10 [(0, .ref (za E 0)), (1, .int x1)] []) (x1 : Int32) (t : zS) (hF : bX12_program_10 k10 x1 t = some ro) : zJ E shM C cX12_program RX12 3 f (some .int) ro t 10 [(0, .ref (za E 0)), (1, .int x1)] [] := by
  unfold bX12_program_10 at hF
  refine z_iload_n 1 dX12_program_10 rfl rfl ?_
  refine z_aload_n 0 dX12_program_11 rfl rfl ?_
  refine z_geti fi_RX12_397 dX12_program_12 ?_
  refine z_icmp_ge (tgt := 36) dX12_program_15 (by decide) (fun hc => ?_) (fun hc => ?_)
  · have hF := zif_t hc hF
    refine z_aload_n 0 dX12_program_36 rfl rfl ?_
    refine z_iconst (v := 0) dX12_program_37 (by decide) ?_
    refine z_puti fw_RX12_397 dX12_program_38 (fun t4238 et4238 => ?_)
    have hF := zpt_at hF t4238 et4238
    refine z_aload_n 0 dX12_program_41 rfl rfl ?_
    refine z_iconst (v := 0) dX12_program_42 (by decide) ?_
    refine z_putz fw_RX12_400 (by decide) dX12_program_43 (fun t4239 et4239 => ?_)
    have hF := zpt_at hF t4239 et4239
    refine z_aload_n 0 dX12_program_46 rfl rfl ?_
    refine z_iconst (v := 0) dX12_program_47 (by decide) ?_
    refine z_putz fw_RX12_404 (by decide) dX12_program_48 (fun t4240 et4240 => ?_)
    have hF := zpt_at hF t4240 et4240
    refine z_aload_n 0 dX12_program_51 rfl rfl ?_
    refine z_iconst (v := 0) dX12_program_52 (by decide) ?_
    refine z_puti fw_RX12_237 dX12_program_53 (fun t4241 et4241 => ?_)
    have hF := zpt_at hF t4241 et4241
    refine z_aload_n 0 dX12_program_56 rfl rfl ?_
    refine z_iconst (v := (-1)) dX12_program_57 (by decide) ?_
    refine z_puti fw_RX12_267 dX12_program_58 (fun t4242 et4242 => ?_)
    have hF := zpt_at hF t4242 et4242
    refine z_aload_n 0 dX12_program_61 rfl rfl ?_
    refine z_iconst (v := 0) dX12_program_62 (by decide) ?_
    refine z_puti fw_RX12_276 dX12_program_63 (fun t4243 et4243 => ?_)
    have hF := zpt_at hF t4243 et4243
    refine z_aload_n 0 dX12_program_66 rfl rfl ?_
    refine z_iconst (v := 0) dX12_program_67 (by decide) ?_
    refine z_puti fw_RX12_234 dX12_program_68 (fun t4244 et4244 => ?_)
    have hF := zpt_at hF t4244 et4244
    refine z_aload_n 0 dX12_program_71 rfl rfl ?_
    refine z_iconst (v := 0) dX12_program_72 (by decide) ?_
    refine z_puti fw_RX12_286 dX12_program_73 (fun t4245 et4245 => ?_)
    have hF := zpt_at hF t4245 et4245
    refine z_aload_n 0 dX12_program_76 rfl rfl ?_
    refine z_iconst (v := 0) dX12_program_77 (by decide) ?_
    refine z_puti fw_RX12_319 dX12_program_78 (fun t4246 et4246 => ?_)
    have hF := zpt_at hF t4246 et4246
    refine z_aload_n 0 dX12_program_81 rfl rfl ?_
    refine z_iconst (v := 0) dX12_program_82 (by decide) ?_
    refine z_puti fw_RX12_316 dX12_program_83 (fun t4247 et4247 => ?_)
    have hF := zpt_at hF t4247 et4247
    refine z_aload_n 0 dX12_program_86 rfl rfl ?_
    refine z_iconst (v := 0) dX12_program_87 (by decide) ?_
    refine z_puti fw_RX12_388 dX12_program_88 (fun t4248 et4248 => ?_)
    have hF := zpt_at hF t4248 et4248
    refine z_aload_n 0 dX12_program_91 rfl rfl ?_
    refine z_iconst (v := 0) dX12_program_92 (by decide) ?_
    refine z_puti fw_RX12_343 dX12_program_93 (fun t4249 et4249 => ?_)
    have hF := zpt_at hF t4249 et4249
    refine z_aload_n 0 dX12_program_96 rfl rfl ?_
    refine z_iconst (v := 0) dX12_program_97 (by decide) ?_
    refine z_puti fw_RX12_367 dX12_program_98 (fun t4250 et4250 => ?_)
    have hF := zpt_at hF t4250 et4250
    refine z_aload_n 0 dX12_program_101 rfl rfl ?_
    refine z_iconst (v := 0) dX12_program_102 (by decide) ?_
    refine z_puti fw_RX12_364 dX12_program_103 (fun t4251 et4251 => ?_)
    have hF := zpt_at hF t4251 et4251
    refine z_aload_n 0 dX12_program_106 rfl rfl ?_
    refine z_iconst (v := 0) dX12_program_107 (by decide) ?_
    refine z_puti fw_RX12_370 dX12_program_108 (fun t4252 et4252 => ?_)
    have hF := zpt_at hF t4252 et4252
    refine z_aload_n 0 dX12_program_111 rfl rfl ?_
    refine z_iconst (v := 0) dX12_program_112 (by decide) ?_
    refine z_puti fw_RX12_328 dX12_program_113 (fun t4253 et4253 => ?_)
    have hF := zpt_at hF t4253 et4253
    refine z_aload_n 0 dX12_program_116 rfl rfl ?_
    refine z_getr fr_RX12_100 dX12_program_117 ?_
    refine z_iconst (v := 0) dX12_program_120 (by decide) ?_
    refine z_iconst (v := 0) dX12_program_121 (by decide) ?_
    obtain ⟨hi4254, hF⟩ := zwr_at hF
    refine z_iast (n := 301) rfl hi4254 dX12_program_122 (fun t4255 et4255 => ?_)
    have hF := hF t4255 et4255
    refine z_aload_n 0 dX12_program_123 rfl rfl ?_
    refine z_iconst (v := 0) dX12_program_124 (by decide) ?_
    refine z_puti fw_RX12_289 dX12_program_125 (fun t4256 et4256 => ?_)
    have hF := zpt_at hF t4256 et4256
    refine z_aload_n 0 dX12_program_128 rfl rfl ?_
    obtain ⟨r4257, t4258, hc4259, hF⟩ := zbd_at hF
    refine z_callVv (ctX12_next (E := E) (f := f - 1) (by omega) hc4259) yy_X12_next yv_X12_next ob_M_0 lk_RX12_273 (by omega) rfl rfl (Nat.le_of_ble_eq_true rfl) dX12_program_129 ?_
    refine z_iconst (v := 1) dX12_program_132 (by decide) ?_
    refine z_istore_n (lv' := [(1, .int 1), (0, .ref (za E 0))]) dX12_program_133 rfl (by decide) rfl ?_
    refine z_sub [1, 0] rfl ?_
    exact wlX12_program_134 hf  zFU 1 _ hF
  · have hF := zif_f hc hF
    refine z_aload_n 0 dX12_program_18 rfl rfl ?_
    refine z_getr fr_RX12_13 dX12_program_19 ?_
    refine z_iload_n 1 dX12_program_22 rfl rfl ?_
    refine z_aload_n 0 dX12_program_23 rfl rfl ?_
    refine z_getr fr_RX12_7 dX12_program_24 ?_
    refine z_iload_n 1 dX12_program_27 rfl rfl ?_
    obtain ⟨hi4261, hF⟩ := zrd_at hF
    refine z_iald (n := 3000) rfl hi4261 dX12_program_28 ?_
    generalize t 1 (Int32.toNatClampNeg x1) = v4260 at hF ⊢
    obtain ⟨hi4262, hF⟩ := zwr_at hF
    refine z_iast (n := 3000) rfl hi4262 dX12_program_29 (fun t4263 et4263 => ?_)
    have hF := hF t4263 et4263
    obtain ⟨v4264, ev4264⟩ : ∃ y : Int32, y = (x1 + 1) := ⟨_, rfl⟩
    have hF := zlet_at ev4264 hF
    refine z_iinc (v := v4264) (lv' := [(1, .int v4264), (0, .ref (za E 0))]) (k := 1) dX12_program_30 rfl (by rw [ev4264]; rfl) (by decide) rfl ?_
    refine z_goto (tgt := 10) dX12_program_33 (by decide) ?_
    refine z_sub [1, 0] rfl ?_
    exact hk10 v4264 _ hF
set_option maxHeartbeats 4000000 in
set_option maxRecDepth 20000 in
theorem wlX12_program_10 {E : zE} {C : zC} {f : Nat} {ro : Int32 × zS} (hf : 612 ≤ f) (fu : Nat) : ∀ (x1 : Int32) (t : zS), lX12_program_10  fu x1 t = some ro → zJ E shM C cX12_program RX12 3 f (some .int) ro t 10 [(0, .ref (za E 0)), (1, .int x1)] [] := by
  induction fu with
  | zero => intro x1 t hF; cases hF
  | succ fu ih => intro x1 t hF; exact wbX12_program_10 hf (lX12_program_10  fu) ih x1 t hF
set_option maxHeartbeats 4000000 in
set_option maxRecDepth 20000 in
theorem ctX12_program {E : zE} {f : Nat} (hf : 612 ≤ f) {t : zS} {ro : Int32 × zS} (hF : mX12_program   t = some ro) : zM E shM f yX12_program cX12_program 3 (some .int) [.ref (za E 0)] t ro := by
  refine zM_of (by decide) (Nat.le_of_ble_eq_true rfl) (fun C => ?_)
  show zJ E shM C cX12_program RX12 3 f (some .int) ro t 0 [(0, .ref (za E 0))] []
  unfold mX12_program at hF
  refine z_aload_n 0 dX12_program_0 rfl rfl ?_
  refine z_aload_n 0 dX12_program_1 rfl rfl ?_
  refine z_geti fi_RX12_397 dX12_program_2 ?_
  refine z_puti fw_RX12_221 dX12_program_5 (fun t4265 et4265 => ?_)
  have hF := zpt_at hF t4265 et4265
  refine z_iconst (v := 0) dX12_program_8 (by decide) ?_
  refine z_istore_n (lv' := [(1, .int 0), (0, .ref (za E 0))]) dX12_program_9 rfl (by decide) rfl ?_
  refine z_sub [1, 0] rfl ?_
  exact wlX12_program_10 hf  zFU 0 _ hF
-- SessionHouseModel.processCells(I)I
theorem dX12_processCells_0 : decode cX12_processCells 0 = .ok (.iconst 4, 1) := by decide +kernel
theorem dX12_processCells_1 : decode cX12_processCells 1 = .ok (.aload_n 0, 1) := by decide +kernel
theorem dX12_processCells_2 : decode cX12_processCells 2 = .ok (.iload_n 1, 1) := by decide +kernel
theorem dX12_processCells_3 : decode cX12_processCells 3 = .ok (.invokevirtual 458, 3) := by decide +kernel
theorem dX12_processCells_6 : decode cX12_processCells 6 = .ok (.iadd, 1) := by decide +kernel
theorem dX12_processCells_7 : decode cX12_processCells 7 = .ok (.ireturn, 1) := by decide +kernel
def mX12_processCells (x1 : Int32) (t : zS) : zR := zbd (mX12_ownMany x1 t) fun r4266 t4267 => some ((4 + r4266), t4267)
set_option maxHeartbeats 4000000 in
set_option maxRecDepth 20000 in
theorem ctX12_processCells {E : zE} {f : Nat} (hf : 2 ≤ f) {x1 : Int32} {t : zS} {ro : Int32 × zS} (hF : mX12_processCells  x1 t = some ro) : zM E shM f yX12_processCells cX12_processCells 2 (some .int) [.ref (za E 0), .int x1] t ro := by
  refine zM_of (by decide) (Nat.le_of_ble_eq_true rfl) (fun C => ?_)
  show zJ E shM C cX12_processCells RX12 2 f (some .int) ro t 0 [(0, .ref (za E 0)), (1, .int x1)] []
  unfold mX12_processCells at hF
  refine z_iconst (v := 4) dX12_processCells_0 (by decide) ?_
  refine z_aload_n 0 dX12_processCells_1 rfl rfl ?_
  refine z_iload_n 1 dX12_processCells_2 rfl rfl ?_
  obtain ⟨r4266, t4267, hc4268, hF⟩ := zbd_at hF
  refine z_callVi (ctX12_ownMany (E := E) (f := f - 1) (by omega) hc4268) yy_X12_ownMany yv_X12_ownMany ob_M_0 lk_RX12_458 (by omega) rfl rfl (Nat.le_of_ble_eq_true rfl) dX12_processCells_3 ?_
  refine z_iadd dX12_processCells_6 ?_
  exact z_iret hF dX12_processCells_7
-- SessionHouseModel.channelCells()I
theorem dX12_channelCells_0 : decode cX12_channelCells 0 = .ok (.iconst 4, 1) := by decide +kernel
theorem dX12_channelCells_1 : decode cX12_channelCells 1 = .ok (.iconst 2, 1) := by decide +kernel
theorem dX12_channelCells_2 : decode cX12_channelCells 2 = .ok (.aload_n 0, 1) := by decide +kernel
theorem dX12_channelCells_3 : decode cX12_channelCells 3 = .ok (.getfield 141, 3) := by decide +kernel
theorem dX12_channelCells_6 : decode cX12_channelCells 6 = .ok (.imul, 1) := by decide +kernel
theorem dX12_channelCells_7 : decode cX12_channelCells 7 = .ok (.iadd, 1) := by decide +kernel
theorem dX12_channelCells_8 : decode cX12_channelCells 8 = .ok (.ireturn, 1) := by decide +kernel
def mX12_channelCells (t : zS) : zR := some ((4 + (2 * (t 0 73))), t)
set_option maxHeartbeats 4000000 in
set_option maxRecDepth 20000 in
theorem ctX12_channelCells {E : zE} {f : Nat} (hf : 1 ≤ f) {t : zS} {ro : Int32 × zS} (hF : mX12_channelCells   t = some ro) : zM E shM f yX12_channelCells cX12_channelCells 1 (some .int) [.ref (za E 0)] t ro := by
  refine zM_of (by decide) (Nat.le_of_ble_eq_true rfl) (fun C => ?_)
  show zJ E shM C cX12_channelCells RX12 1 f (some .int) ro t 0 [(0, .ref (za E 0))] []
  unfold mX12_channelCells at hF
  refine z_iconst (v := 4) dX12_channelCells_0 (by decide) ?_
  refine z_iconst (v := 2) dX12_channelCells_1 (by decide) ?_
  refine z_aload_n 0 dX12_channelCells_2 rfl rfl ?_
  refine z_geti fi_RX12_141 dX12_channelCells_3 ?_
  refine z_imul dX12_channelCells_6 ?_
  refine z_iadd dX12_channelCells_7 ?_
  exact z_iret hF dX12_channelCells_8
-- SessionHouseModel.close()V
theorem dX12_close_0 : decode cX12_close 0 = .ok (.iconst 0, 1) := by decide +kernel
theorem dX12_close_1 : decode cX12_close 1 = .ok (.istore_n 1, 1) := by decide +kernel
theorem dX12_close_2 : decode cX12_close 2 = .ok (.iconst 0, 1) := by decide +kernel
theorem dX12_close_3 : decode cX12_close 3 = .ok (.istore_n 2, 1) := by decide +kernel
theorem dX12_close_4 : decode cX12_close 4 = .ok (.iload_n 2, 1) := by decide +kernel
theorem dX12_close_5 : decode cX12_close 5 = .ok (.aload_n 0, 1) := by decide +kernel
theorem dX12_close_6 : decode cX12_close 6 = .ok (.getfield 530, 3) := by decide +kernel
theorem dX12_close_9 : decode cX12_close 9 = .ok (.if_icmp .ge 190, 3) := by decide +kernel
theorem dX12_close_12 : decode cX12_close 12 = .ok (.iconst (-1), 1) := by decide +kernel
theorem dX12_close_13 : decode cX12_close 13 = .ok (.istore_n 3, 1) := by decide +kernel
theorem dX12_close_14 : decode cX12_close 14 = .ok (.iconst 0, 1) := by decide +kernel
theorem dX12_close_15 : decode cX12_close 15 = .ok (.istore 4, 2) := by decide +kernel
theorem dX12_close_17 : decode cX12_close 17 = .ok (.iload 4, 2) := by decide +kernel
theorem dX12_close_19 : decode cX12_close 19 = .ok (.aload_n 0, 1) := by decide +kernel
theorem dX12_close_20 : decode cX12_close 20 = .ok (.getfield 530, 3) := by decide +kernel
theorem dX12_close_23 : decode cX12_close 23 = .ok (.if_icmp .ge 77, 3) := by decide +kernel
theorem dX12_close_26 : decode cX12_close 26 = .ok (.aload_n 0, 1) := by decide +kernel
theorem dX12_close_27 : decode cX12_close 27 = .ok (.aload_n 0, 1) := by decide +kernel
theorem dX12_close_28 : decode cX12_close 28 = .ok (.getfield 166, 3) := by decide +kernel
theorem dX12_close_31 : decode cX12_close 31 = .ok (.aload_n 0, 1) := by decide +kernel
theorem dX12_close_32 : decode cX12_close 32 = .ok (.getfield 160, 3) := by decide +kernel
theorem dX12_close_35 : decode cX12_close 35 = .ok (.iload 4, 2) := by decide +kernel
theorem dX12_close_37 : decode cX12_close 37 = .ok (.iaload, 1) := by decide +kernel
theorem dX12_close_38 : decode cX12_close 38 = .ok (.iaload, 1) := by decide +kernel
theorem dX12_close_39 : decode cX12_close 39 = .ok (.invokevirtual 458, 3) := by decide +kernel
theorem dX12_close_42 : decode cX12_close 42 = .ok (.ifCond .le 52, 3) := by decide +kernel
theorem dX12_close_45 : decode cX12_close 45 = .ok (.aload_n 0, 1) := by decide +kernel
theorem dX12_close_46 : decode cX12_close 46 = .ok (.getfield 175, 3) := by decide +kernel
theorem dX12_close_49 : decode cX12_close 49 = .ok (.aload_n 0, 1) := by decide +kernel
theorem dX12_close_50 : decode cX12_close 50 = .ok (.getfield 160, 3) := by decide +kernel
theorem dX12_close_53 : decode cX12_close 53 = .ok (.iload 4, 2) := by decide +kernel
theorem dX12_close_55 : decode cX12_close 55 = .ok (.iaload, 1) := by decide +kernel
theorem dX12_close_56 : decode cX12_close 56 = .ok (.iaload, 1) := by decide +kernel
theorem dX12_close_57 : decode cX12_close 57 = .ok (.iload_n 1, 1) := by decide +kernel
theorem dX12_close_58 : decode cX12_close 58 = .ok (.if_icmp .lt 36, 3) := by decide +kernel
theorem dX12_close_61 : decode cX12_close 61 = .ok (.iload_n 3, 1) := by decide +kernel
theorem dX12_close_62 : decode cX12_close 62 = .ok (.ifCond .lt 24, 3) := by decide +kernel
theorem dX12_close_65 : decode cX12_close 65 = .ok (.aload_n 0, 1) := by decide +kernel
theorem dX12_close_66 : decode cX12_close 66 = .ok (.getfield 175, 3) := by decide +kernel
theorem dX12_close_69 : decode cX12_close 69 = .ok (.aload_n 0, 1) := by decide +kernel
theorem dX12_close_70 : decode cX12_close 70 = .ok (.getfield 160, 3) := by decide +kernel
theorem dX12_close_73 : decode cX12_close 73 = .ok (.iload 4, 2) := by decide +kernel
theorem dX12_close_75 : decode cX12_close 75 = .ok (.iaload, 1) := by decide +kernel
theorem dX12_close_76 : decode cX12_close 76 = .ok (.iaload, 1) := by decide +kernel
theorem dX12_close_77 : decode cX12_close 77 = .ok (.aload_n 0, 1) := by decide +kernel
theorem dX12_close_78 : decode cX12_close 78 = .ok (.getfield 175, 3) := by decide +kernel
theorem dX12_close_81 : decode cX12_close 81 = .ok (.iload_n 3, 1) := by decide +kernel
theorem dX12_close_82 : decode cX12_close 82 = .ok (.iaload, 1) := by decide +kernel
theorem dX12_close_83 : decode cX12_close 83 = .ok (.if_icmp .ge 11, 3) := by decide +kernel
theorem dX12_close_86 : decode cX12_close 86 = .ok (.aload_n 0, 1) := by decide +kernel
theorem dX12_close_87 : decode cX12_close 87 = .ok (.getfield 160, 3) := by decide +kernel
theorem dX12_close_90 : decode cX12_close 90 = .ok (.iload 4, 2) := by decide +kernel
theorem dX12_close_92 : decode cX12_close 92 = .ok (.iaload, 1) := by decide +kernel
theorem dX12_close_93 : decode cX12_close 93 = .ok (.istore_n 3, 1) := by decide +kernel
theorem dX12_close_94 : decode cX12_close 94 = .ok (.iinc 4 1, 3) := by decide +kernel
theorem dX12_close_97 : decode cX12_close 97 = .ok (.goto (-80), 3) := by decide +kernel
theorem dX12_close_100 : decode cX12_close 100 = .ok (.iload_n 3, 1) := by decide +kernel
theorem dX12_close_101 : decode cX12_close 101 = .ok (.ifCond .ge 6, 3) := by decide +kernel
theorem dX12_close_104 : decode cX12_close 104 = .ok (.goto 95, 3) := by decide +kernel
theorem dX12_close_107 : decode cX12_close 107 = .ok (.aload_n 0, 1) := by decide +kernel
theorem dX12_close_108 : decode cX12_close 108 = .ok (.aload_n 0, 1) := by decide +kernel
theorem dX12_close_109 : decode cX12_close 109 = .ok (.getfield 166, 3) := by decide +kernel
theorem dX12_close_112 : decode cX12_close 112 = .ok (.iload_n 3, 1) := by decide +kernel
theorem dX12_close_113 : decode cX12_close 113 = .ok (.iaload, 1) := by decide +kernel
theorem dX12_close_114 : decode cX12_close 114 = .ok (.invokevirtual 458, 3) := by decide +kernel
theorem dX12_close_117 : decode cX12_close 117 = .ok (.istore 4, 2) := by decide +kernel
theorem dX12_close_119 : decode cX12_close 119 = .ok (.iconst 0, 1) := by decide +kernel
theorem dX12_close_120 : decode cX12_close 120 = .ok (.istore 5, 2) := by decide +kernel
theorem dX12_close_122 : decode cX12_close 122 = .ok (.iload 5, 2) := by decide +kernel
theorem dX12_close_124 : decode cX12_close 124 = .ok (.iload 4, 2) := by decide +kernel
theorem dX12_close_126 : decode cX12_close 126 = .ok (.if_icmp .ge 55, 3) := by decide +kernel
theorem dX12_close_129 : decode cX12_close 129 = .ok (.aload_n 0, 1) := by decide +kernel
theorem dX12_close_130 : decode cX12_close 130 = .ok (.getfield 178, 3) := by decide +kernel
theorem dX12_close_133 : decode cX12_close 133 = .ok (.iload_n 1, 1) := by decide +kernel
theorem dX12_close_134 : decode cX12_close 134 = .ok (.iload 5, 2) := by decide +kernel
theorem dX12_close_136 : decode cX12_close 136 = .ok (.iadd, 1) := by decide +kernel
theorem dX12_close_137 : decode cX12_close 137 = .ok (.aload_n 0, 1) := by decide +kernel
theorem dX12_close_138 : decode cX12_close 138 = .ok (.getfield 178, 3) := by decide +kernel
theorem dX12_close_141 : decode cX12_close 141 = .ok (.aload_n 0, 1) := by decide +kernel
theorem dX12_close_142 : decode cX12_close 142 = .ok (.getfield 175, 3) := by decide +kernel
theorem dX12_close_145 : decode cX12_close 145 = .ok (.iload_n 3, 1) := by decide +kernel
theorem dX12_close_146 : decode cX12_close 146 = .ok (.iaload, 1) := by decide +kernel
theorem dX12_close_147 : decode cX12_close 147 = .ok (.iload 5, 2) := by decide +kernel
theorem dX12_close_149 : decode cX12_close 149 = .ok (.iadd, 1) := by decide +kernel
theorem dX12_close_150 : decode cX12_close 150 = .ok (.iaload, 1) := by decide +kernel
theorem dX12_close_151 : decode cX12_close 151 = .ok (.iastore, 1) := by decide +kernel
theorem dX12_close_152 : decode cX12_close 152 = .ok (.aload_n 0, 1) := by decide +kernel
theorem dX12_close_153 : decode cX12_close 153 = .ok (.getfield 181, 3) := by decide +kernel
theorem dX12_close_156 : decode cX12_close 156 = .ok (.iload_n 1, 1) := by decide +kernel
theorem dX12_close_157 : decode cX12_close 157 = .ok (.iload 5, 2) := by decide +kernel
theorem dX12_close_159 : decode cX12_close 159 = .ok (.iadd, 1) := by decide +kernel
theorem dX12_close_160 : decode cX12_close 160 = .ok (.aload_n 0, 1) := by decide +kernel
theorem dX12_close_161 : decode cX12_close 161 = .ok (.getfield 181, 3) := by decide +kernel
theorem dX12_close_164 : decode cX12_close 164 = .ok (.aload_n 0, 1) := by decide +kernel
theorem dX12_close_165 : decode cX12_close 165 = .ok (.getfield 175, 3) := by decide +kernel
theorem dX12_close_168 : decode cX12_close 168 = .ok (.iload_n 3, 1) := by decide +kernel
theorem dX12_close_169 : decode cX12_close 169 = .ok (.iaload, 1) := by decide +kernel
theorem dX12_close_170 : decode cX12_close 170 = .ok (.iload 5, 2) := by decide +kernel
theorem dX12_close_172 : decode cX12_close 172 = .ok (.iadd, 1) := by decide +kernel
theorem dX12_close_173 : decode cX12_close 173 = .ok (.iaload, 1) := by decide +kernel
theorem dX12_close_174 : decode cX12_close 174 = .ok (.iastore, 1) := by decide +kernel
theorem dX12_close_175 : decode cX12_close 175 = .ok (.iinc 5 1, 3) := by decide +kernel
theorem dX12_close_178 : decode cX12_close 178 = .ok (.goto (-56), 3) := by decide +kernel
theorem dX12_close_181 : decode cX12_close 181 = .ok (.aload_n 0, 1) := by decide +kernel
theorem dX12_close_182 : decode cX12_close 182 = .ok (.getfield 175, 3) := by decide +kernel
theorem dX12_close_185 : decode cX12_close 185 = .ok (.iload_n 3, 1) := by decide +kernel
theorem dX12_close_186 : decode cX12_close 186 = .ok (.iload_n 1, 1) := by decide +kernel
theorem dX12_close_187 : decode cX12_close 187 = .ok (.iastore, 1) := by decide +kernel
theorem dX12_close_188 : decode cX12_close 188 = .ok (.iload_n 1, 1) := by decide +kernel
theorem dX12_close_189 : decode cX12_close 189 = .ok (.iload 4, 2) := by decide +kernel
theorem dX12_close_191 : decode cX12_close 191 = .ok (.iadd, 1) := by decide +kernel
theorem dX12_close_192 : decode cX12_close 192 = .ok (.istore_n 1, 1) := by decide +kernel
theorem dX12_close_193 : decode cX12_close 193 = .ok (.iinc 2 1, 3) := by decide +kernel
theorem dX12_close_196 : decode cX12_close 196 = .ok (.goto (-192), 3) := by decide +kernel
theorem dX12_close_199 : decode cX12_close 199 = .ok (.aload_n 0, 1) := by decide +kernel
theorem dX12_close_200 : decode cX12_close 200 = .ok (.iload_n 1, 1) := by decide +kernel
theorem dX12_close_201 : decode cX12_close 201 = .ok (.putfield 533, 3) := by decide +kernel
theorem dX12_close_204 : decode cX12_close 204 = .ok (.return_, 1) := by decide +kernel
def bX12_close_94 (k4 : Int32 → Int32 → zS → zR) (k17 : Int32 → Int32 → Int32 → Int32 → zS → zR) (x1 : Int32) (x2 : Int32) (x3 : Int32) (x4 : Int32) (t : zS) : zR := zlet (x4 + 1) fun v4269 => k17 x1 x2 x3 v4269 t
def bX12_close_86 (k4 : Int32 → Int32 → zS → zR) (k17 : Int32 → Int32 → Int32 → Int32 → zS → zR) (x1 : Int32) (x2 : Int32) (x4 : Int32) (t : zS) : zR := zrd t 46 2600 x4 fun v4270 => bX12_close_94 k4 k17 x1 x2 v4270 x4 t
def bX12_close_199 (x1 : Int32) (t : zS) : zR := zpt t 0 94 x1 fun t4272 => some (0, t4272)
def bX12_close_122 (k4 : Int32 → Int32 → zS → zR) (k122 : Int32 → Int32 → Int32 → Int32 → Int32 → zS → zR) (x1 : Int32) (x2 : Int32) (x3 : Int32) (x4 : Int32) (x5 : Int32) (t : zS) : zR := if x4 ≤ x5 then zwr t 51 2600 x3 x1 fun t4274 => zlet (x1 + x4) fun v4275 => zlet (x2 + 1) fun v4276 => k4 v4275 v4276 t4274 else zrd t 51 2600 x3 fun v4277 => zrd t 52 24000 (v4277 + x5) fun v4279 => zwr t 52 24000 (x1 + x5) v4279 fun t4282 => zrd t4282 51 2600 x3 fun v4283 => zrd t4282 53 24000 (v4283 + x5) fun v4285 => zwr t4282 53 24000 (x1 + x5) v4285 fun t4288 => zlet (x5 + 1) fun v4289 => k122 x1 x2 x3 x4 v4289 t4288
def lX12_close_122 (k4 : Int32 → Int32 → zS → zR) : Nat → Int32 → Int32 → Int32 → Int32 → Int32 → zS → zR
  | 0, _, _, _, _, _, _ => none
  | fu + 1, x1, x2, x3, x4, x5, t => bX12_close_122 k4 (lX12_close_122 k4 fu) x1 x2 x3 x4 x5 t
def bX12_close_17 (k4 : Int32 → Int32 → zS → zR) (k17 : Int32 → Int32 → Int32 → Int32 → zS → zR) (x1 : Int32) (x2 : Int32) (x3 : Int32) (x4 : Int32) (t : zS) : zR := if (t 0 85) ≤ x4 then if 0 ≤ x3 then zrd t 48 2600 x3 fun v4290 => zbd (mX12_ownMany v4290 t) fun r4292 t4293 => lX12_close_122 k4 zFU x1 x2 x3 r4292 0 t4293 else bX12_close_199  x1 t else zrd t 46 2600 x4 fun v4295 => zrd t 48 2600 v4295 fun v4297 => zbd (mX12_ownMany v4297 t) fun r4299 t4300 => if r4299 ≤ 0 then bX12_close_94 k4 k17 x1 x2 x3 x4 t4300 else zrd t4300 46 2600 x4 fun v4302 => zrd t4300 51 2600 v4302 fun v4304 => if v4304 < x1 then bX12_close_94 k4 k17 x1 x2 x3 x4 t4300 else if x3 < 0 then bX12_close_86 k4 k17 x1 x2 x4 t4300 else zrd t4300 46 2600 x4 fun v4306 => zrd t4300 51 2600 v4306 fun v4308 => zrd t4300 51 2600 x3 fun v4310 => if v4310 ≤ v4308 then bX12_close_94 k4 k17 x1 x2 x3 x4 t4300 else bX12_close_86 k4 k17 x1 x2 x4 t4300
def lX12_close_17 (k4 : Int32 → Int32 → zS → zR) : Nat → Int32 → Int32 → Int32 → Int32 → zS → zR
  | 0, _, _, _, _, _ => none
  | fu + 1, x1, x2, x3, x4, t => bX12_close_17 k4 (lX12_close_17 k4 fu) x1 x2 x3 x4 t
def bX12_close_4 (k4 : Int32 → Int32 → zS → zR) (x1 : Int32) (x2 : Int32) (t : zS) : zR := if (t 0 85) ≤ x2 then bX12_close_199  x1 t else lX12_close_17 k4 zFU x1 x2 (-1) 0 t
def lX12_close_4 : Nat → Int32 → Int32 → zS → zR
  | 0, _, _, _ => none
  | fu + 1, x1, x2, t => bX12_close_4 (lX12_close_4  fu) x1 x2 t
def mX12_close (t : zS) : zR := lX12_close_4  zFU 0 0 t
set_option maxHeartbeats 4000000 in
set_option maxRecDepth 20000 in
theorem wbX12_close_94 {E : zE} {C : zC} {f : Nat} {ro : Int32 × zS} (hf : 2 ≤ f) (k4 : Int32 → Int32 → zS → zR) (hk4 : ∀ (x1 x2 : Int32) (t : zS), k4 x1 x2 t = some ro → zJ E shM C cX12_close RX12 6 f none ro t 4 [(0, .ref (za E 0)), (1, .int x1), (2, .int x2)] []) (k17 : Int32 → Int32 → Int32 → Int32 → zS → zR) (hk17 : ∀ (x1 x2 x3 x4 : Int32) (t : zS), k17 x1 x2 x3 x4 t = some ro → zJ E shM C cX12_close RX12 6 f none ro t 17 [(0, .ref (za E 0)), (1, .int x1), (2, .int x2), (3, .int x3), (4, .int x4)] []) (x1 : Int32) (x2 : Int32) (x3 : Int32) (x4 : Int32) (t : zS) (hF : bX12_close_94 k4 k17 x1 x2 x3 x4 t = some ro) : zJ E shM C cX12_close RX12 6 f none ro t 94 [(0, .ref (za E 0)), (1, .int x1), (2, .int x2), (3, .int x3), (4, .int x4)] [] := by
  unfold bX12_close_94 at hF
  obtain ⟨v4269, ev4269⟩ : ∃ y : Int32, y = (x4 + 1) := ⟨_, rfl⟩
  have hF := zlet_at ev4269 hF
  refine z_iinc (v := v4269) (lv' := [(4, .int v4269), (0, .ref (za E 0)), (1, .int x1), (2, .int x2), (3, .int x3)]) (k := 4) dX12_close_94 rfl (by rw [ev4269]; rfl) (by decide) rfl ?_
  refine z_goto (tgt := 17) dX12_close_97 (by decide) ?_
  refine z_sub [1, 2, 3, 4, 0] rfl ?_
  exact hk17 x1 x2 x3 v4269 _ hF
set_option maxHeartbeats 4000000 in
set_option maxRecDepth 20000 in
theorem wbX12_close_86 {E : zE} {C : zC} {f : Nat} {ro : Int32 × zS} (hf : 2 ≤ f) (k4 : Int32 → Int32 → zS → zR) (hk4 : ∀ (x1 x2 : Int32) (t : zS), k4 x1 x2 t = some ro → zJ E shM C cX12_close RX12 6 f none ro t 4 [(0, .ref (za E 0)), (1, .int x1), (2, .int x2)] []) (k17 : Int32 → Int32 → Int32 → Int32 → zS → zR) (hk17 : ∀ (x1 x2 x3 x4 : Int32) (t : zS), k17 x1 x2 x3 x4 t = some ro → zJ E shM C cX12_close RX12 6 f none ro t 17 [(0, .ref (za E 0)), (1, .int x1), (2, .int x2), (3, .int x3), (4, .int x4)] []) (x1 : Int32) (x2 : Int32) (x4 : Int32) (t : zS) (hF : bX12_close_86 k4 k17 x1 x2 x4 t = some ro) : zJ E shM C cX12_close RX12 6 f none ro t 86 [(0, .ref (za E 0)), (1, .int x1), (2, .int x2), (4, .int x4)] [] := by
  unfold bX12_close_86 at hF
  refine z_aload_n 0 dX12_close_86 rfl rfl ?_
  refine z_getr fr_RX12_160 dX12_close_87 ?_
  refine z_iload 3 dX12_close_90 rfl ?_
  obtain ⟨hi4271, hF⟩ := zrd_at hF
  refine z_iald (n := 2600) rfl hi4271 dX12_close_92 ?_
  generalize t 46 (Int32.toNatClampNeg x4) = v4270 at hF ⊢
  refine z_istore_n (lv' := [(3, .int v4270), (0, .ref (za E 0)), (1, .int x1), (2, .int x2), (4, .int x4)]) dX12_close_93 rfl (by decide) rfl ?_
  refine z_sub [1, 2, 3, 0, 4] rfl ?_
  exact wbX12_close_94 hf k4 hk4 k17 hk17 x1 x2 v4270 x4 _ hF
set_option maxHeartbeats 4000000 in
set_option maxRecDepth 20000 in
theorem wbX12_close_199 {E : zE} {C : zC} {f : Nat} {ro : Int32 × zS} (hf : 2 ≤ f) (x1 : Int32) (t : zS) (hF : bX12_close_199  x1 t = some ro) : zJ E shM C cX12_close RX12 6 f none ro t 199 [(0, .ref (za E 0)), (1, .int x1)] [] := by
  unfold bX12_close_199 at hF
  refine z_aload_n 0 dX12_close_199 rfl rfl ?_
  refine z_iload_n 1 dX12_close_200 rfl rfl ?_
  refine z_puti fw_RX12_533 dX12_close_201 (fun t4272 et4272 => ?_)
  have hF := zpt_at hF t4272 et4272
  exact z_vret hF dX12_close_204
set_option maxHeartbeats 4000000 in
set_option maxRecDepth 20000 in
theorem wbX12_close_122 {E : zE} {C : zC} {f : Nat} {ro : Int32 × zS} (hf : 2 ≤ f) (k4 : Int32 → Int32 → zS → zR) (hk4 : ∀ (x1 x2 : Int32) (t : zS), k4 x1 x2 t = some ro → zJ E shM C cX12_close RX12 6 f none ro t 4 [(0, .ref (za E 0)), (1, .int x1), (2, .int x2)] []) (k122 : Int32 → Int32 → Int32 → Int32 → Int32 → zS → zR) (hk122 : ∀ (x1 x2 x3 x4 x5 : Int32) (t : zS), k122 x1 x2 x3 x4 x5 t = some ro → zJ E shM C cX12_close RX12 6 f none ro t 122 [(0, .ref (za E 0)), (1, .int x1), (2, .int x2), (3, .int x3), (4, .int x4), (5, .int x5)] []) (x1 : Int32) (x2 : Int32) (x3 : Int32) (x4 : Int32) (x5 : Int32) (t : zS) (hF : bX12_close_122 k4 k122 x1 x2 x3 x4 x5 t = some ro) : zJ E shM C cX12_close RX12 6 f none ro t 122 [(0, .ref (za E 0)), (1, .int x1), (2, .int x2), (3, .int x3), (4, .int x4), (5, .int x5)] [] := by
  unfold bX12_close_122 at hF
  refine z_iload 5 dX12_close_122 rfl ?_
  refine z_iload 4 dX12_close_124 rfl ?_
  refine z_icmp_ge (tgt := 181) dX12_close_126 (by decide) (fun hc => ?_) (fun hc => ?_)
  · have hF := zif_t hc hF
    refine z_aload_n 0 dX12_close_181 rfl rfl ?_
    refine z_getr fr_RX12_175 dX12_close_182 ?_
    refine z_iload_n 3 dX12_close_185 rfl rfl ?_
    refine z_iload_n 1 dX12_close_186 rfl rfl ?_
    obtain ⟨hi4273, hF⟩ := zwr_at hF
    refine z_iast (n := 2600) rfl hi4273 dX12_close_187 (fun t4274 et4274 => ?_)
    have hF := hF t4274 et4274
    refine z_iload_n 1 dX12_close_188 rfl rfl ?_
    refine z_iload 4 dX12_close_189 rfl ?_
    refine z_iadd dX12_close_191 ?_
    refine z_topi (fun v4275 ev4275 => ?_)
    have hF := zlet_at ev4275 hF
    refine z_istore_n (lv' := [(1, .int v4275), (0, .ref (za E 0)), (2, .int x2), (3, .int x3), (4, .int x4), (5, .int x5)]) dX12_close_192 rfl (by decide) rfl ?_
    obtain ⟨v4276, ev4276⟩ : ∃ y : Int32, y = (x2 + 1) := ⟨_, rfl⟩
    have hF := zlet_at ev4276 hF
    refine z_iinc (v := v4276) (lv' := [(2, .int v4276), (1, .int v4275), (0, .ref (za E 0)), (3, .int x3), (4, .int x4), (5, .int x5)]) (k := 2) dX12_close_193 rfl (by rw [ev4276]; rfl) (by decide) rfl ?_
    refine z_goto (tgt := 4) dX12_close_196 (by decide) ?_
    refine z_sub [2, 1, 0] rfl ?_
    exact hk4 v4275 v4276 _ hF
  · have hF := zif_f hc hF
    refine z_aload_n 0 dX12_close_129 rfl rfl ?_
    refine z_getr fr_RX12_178 dX12_close_130 ?_
    refine z_iload_n 1 dX12_close_133 rfl rfl ?_
    refine z_iload 5 dX12_close_134 rfl ?_
    refine z_iadd dX12_close_136 ?_
    refine z_aload_n 0 dX12_close_137 rfl rfl ?_
    refine z_getr fr_RX12_178 dX12_close_138 ?_
    refine z_aload_n 0 dX12_close_141 rfl rfl ?_
    refine z_getr fr_RX12_175 dX12_close_142 ?_
    refine z_iload_n 3 dX12_close_145 rfl rfl ?_
    obtain ⟨hi4278, hF⟩ := zrd_at hF
    refine z_iald (n := 2600) rfl hi4278 dX12_close_146 ?_
    generalize t 51 (Int32.toNatClampNeg x3) = v4277 at hF ⊢
    refine z_iload 5 dX12_close_147 rfl ?_
    refine z_iadd dX12_close_149 ?_
    obtain ⟨hi4280, hF⟩ := zrd_at hF
    refine z_iald (n := 24000) rfl hi4280 dX12_close_150 ?_
    generalize t 52 (Int32.toNatClampNeg (v4277 + x5)) = v4279 at hF ⊢
    obtain ⟨hi4281, hF⟩ := zwr_at hF
    refine z_iast (n := 24000) rfl hi4281 dX12_close_151 (fun t4282 et4282 => ?_)
    have hF := hF t4282 et4282
    refine z_aload_n 0 dX12_close_152 rfl rfl ?_
    refine z_getr fr_RX12_181 dX12_close_153 ?_
    refine z_iload_n 1 dX12_close_156 rfl rfl ?_
    refine z_iload 5 dX12_close_157 rfl ?_
    refine z_iadd dX12_close_159 ?_
    refine z_aload_n 0 dX12_close_160 rfl rfl ?_
    refine z_getr fr_RX12_181 dX12_close_161 ?_
    refine z_aload_n 0 dX12_close_164 rfl rfl ?_
    refine z_getr fr_RX12_175 dX12_close_165 ?_
    refine z_iload_n 3 dX12_close_168 rfl rfl ?_
    obtain ⟨hi4284, hF⟩ := zrd_at hF
    refine z_iald (n := 2600) rfl hi4284 dX12_close_169 ?_
    generalize t4282 51 (Int32.toNatClampNeg x3) = v4283 at hF ⊢
    refine z_iload 5 dX12_close_170 rfl ?_
    refine z_iadd dX12_close_172 ?_
    obtain ⟨hi4286, hF⟩ := zrd_at hF
    refine z_iald (n := 24000) rfl hi4286 dX12_close_173 ?_
    generalize t4282 53 (Int32.toNatClampNeg (v4283 + x5)) = v4285 at hF ⊢
    obtain ⟨hi4287, hF⟩ := zwr_at hF
    refine z_iast (n := 24000) rfl hi4287 dX12_close_174 (fun t4288 et4288 => ?_)
    have hF := hF t4288 et4288
    obtain ⟨v4289, ev4289⟩ : ∃ y : Int32, y = (x5 + 1) := ⟨_, rfl⟩
    have hF := zlet_at ev4289 hF
    refine z_iinc (v := v4289) (lv' := [(5, .int v4289), (0, .ref (za E 0)), (1, .int x1), (2, .int x2), (3, .int x3), (4, .int x4)]) (k := 5) dX12_close_175 rfl (by rw [ev4289]; rfl) (by decide) rfl ?_
    refine z_goto (tgt := 122) dX12_close_178 (by decide) ?_
    refine z_sub [1, 2, 3, 4, 5, 0] rfl ?_
    exact hk122 x1 x2 x3 x4 v4289 _ hF
set_option maxHeartbeats 4000000 in
set_option maxRecDepth 20000 in
theorem wlX12_close_122 {E : zE} {C : zC} {f : Nat} {ro : Int32 × zS} (hf : 2 ≤ f) (k4 : Int32 → Int32 → zS → zR) (hk4 : ∀ (x1 x2 : Int32) (t : zS), k4 x1 x2 t = some ro → zJ E shM C cX12_close RX12 6 f none ro t 4 [(0, .ref (za E 0)), (1, .int x1), (2, .int x2)] []) (fu : Nat) : ∀ (x1 x2 x3 x4 x5 : Int32) (t : zS), lX12_close_122 k4 fu x1 x2 x3 x4 x5 t = some ro → zJ E shM C cX12_close RX12 6 f none ro t 122 [(0, .ref (za E 0)), (1, .int x1), (2, .int x2), (3, .int x3), (4, .int x4), (5, .int x5)] [] := by
  induction fu with
  | zero => intro x1 x2 x3 x4 x5 t hF; cases hF
  | succ fu ih => intro x1 x2 x3 x4 x5 t hF; exact wbX12_close_122 hf k4 hk4 (lX12_close_122 k4 fu) ih x1 x2 x3 x4 x5 t hF
set_option maxHeartbeats 4000000 in
set_option maxRecDepth 20000 in
theorem wbX12_close_17 {E : zE} {C : zC} {f : Nat} {ro : Int32 × zS} (hf : 2 ≤ f) (k4 : Int32 → Int32 → zS → zR) (hk4 : ∀ (x1 x2 : Int32) (t : zS), k4 x1 x2 t = some ro → zJ E shM C cX12_close RX12 6 f none ro t 4 [(0, .ref (za E 0)), (1, .int x1), (2, .int x2)] []) (k17 : Int32 → Int32 → Int32 → Int32 → zS → zR) (hk17 : ∀ (x1 x2 x3 x4 : Int32) (t : zS), k17 x1 x2 x3 x4 t = some ro → zJ E shM C cX12_close RX12 6 f none ro t 17 [(0, .ref (za E 0)), (1, .int x1), (2, .int x2), (3, .int x3), (4, .int x4)] []) (x1 : Int32) (x2 : Int32) (x3 : Int32) (x4 : Int32) (t : zS) (hF : bX12_close_17 k4 k17 x1 x2 x3 x4 t = some ro) : zJ E shM C cX12_close RX12 6 f none ro t 17 [(0, .ref (za E 0)), (1, .int x1), (2, .int x2), (3, .int x3), (4, .int x4)] [] := by
  unfold bX12_close_17 at hF
  refine z_iload 4 dX12_close_17 rfl ?_
  refine z_aload_n 0 dX12_close_19 rfl rfl ?_
  refine z_geti fi_RX12_530 dX12_close_20 ?_
  refine z_icmp_ge (tgt := 100) dX12_close_23 (by decide) (fun hc => ?_) (fun hc => ?_)
  · have hF := zif_t hc hF
    refine z_iload_n 3 dX12_close_100 rfl rfl ?_
    refine z_if_ge (tgt := 107) dX12_close_101 (by decide) (fun hc => ?_) (fun hc => ?_)
    · have hF := zif_t hc hF
      refine z_aload_n 0 dX12_close_107 rfl rfl ?_
      refine z_aload_n 0 dX12_close_108 rfl rfl ?_
      refine z_getr fr_RX12_166 dX12_close_109 ?_
      refine z_iload_n 3 dX12_close_112 rfl rfl ?_
      obtain ⟨hi4291, hF⟩ := zrd_at hF
      refine z_iald (n := 2600) rfl hi4291 dX12_close_113 ?_
      generalize t 48 (Int32.toNatClampNeg x3) = v4290 at hF ⊢
      obtain ⟨r4292, t4293, hc4294, hF⟩ := zbd_at hF
      refine z_callVi (ctX12_ownMany (E := E) (f := f - 1) (by omega) hc4294) yy_X12_ownMany yv_X12_ownMany ob_M_0 lk_RX12_458 (by omega) rfl rfl (Nat.le_of_ble_eq_true rfl) dX12_close_114 ?_
      refine z_istore (lv' := [(4, .int r4292), (0, .ref (za E 0)), (1, .int x1), (2, .int x2), (3, .int x3)]) dX12_close_117 (by decide) rfl ?_
      refine z_iconst (v := 0) dX12_close_119 (by decide) ?_
      refine z_istore (lv' := [(5, .int 0), (4, .int r4292), (0, .ref (za E 0)), (1, .int x1), (2, .int x2), (3, .int x3)]) dX12_close_120 (by decide) rfl ?_
      refine z_sub [2, 3, 4, 5, 1, 0] rfl ?_
      exact wlX12_close_122 hf k4 hk4 zFU x1 x2 x3 r4292 0 _ hF
    · have hF := zif_f hc hF
      refine z_goto (tgt := 199) dX12_close_104 (by decide) ?_
      refine z_sub [0, 1] rfl ?_
      exact wbX12_close_199 hf  x1 _ hF
  · have hF := zif_f hc hF
    refine z_aload_n 0 dX12_close_26 rfl rfl ?_
    refine z_aload_n 0 dX12_close_27 rfl rfl ?_
    refine z_getr fr_RX12_166 dX12_close_28 ?_
    refine z_aload_n 0 dX12_close_31 rfl rfl ?_
    refine z_getr fr_RX12_160 dX12_close_32 ?_
    refine z_iload 4 dX12_close_35 rfl ?_
    obtain ⟨hi4296, hF⟩ := zrd_at hF
    refine z_iald (n := 2600) rfl hi4296 dX12_close_37 ?_
    generalize t 46 (Int32.toNatClampNeg x4) = v4295 at hF ⊢
    obtain ⟨hi4298, hF⟩ := zrd_at hF
    refine z_iald (n := 2600) rfl hi4298 dX12_close_38 ?_
    generalize t 48 (Int32.toNatClampNeg v4295) = v4297 at hF ⊢
    obtain ⟨r4299, t4300, hc4301, hF⟩ := zbd_at hF
    refine z_callVi (ctX12_ownMany (E := E) (f := f - 1) (by omega) hc4301) yy_X12_ownMany yv_X12_ownMany ob_M_0 lk_RX12_458 (by omega) rfl rfl (Nat.le_of_ble_eq_true rfl) dX12_close_39 ?_
    refine z_if_le (tgt := 94) dX12_close_42 (by decide) (fun hc => ?_) (fun hc => ?_)
    · have hF := zif_t hc hF
      exact wbX12_close_94 hf k4 hk4 k17 hk17 x1 x2 x3 x4 _ hF
    · have hF := zif_f hc hF
      refine z_aload_n 0 dX12_close_45 rfl rfl ?_
      refine z_getr fr_RX12_175 dX12_close_46 ?_
      refine z_aload_n 0 dX12_close_49 rfl rfl ?_
      refine z_getr fr_RX12_160 dX12_close_50 ?_
      refine z_iload 4 dX12_close_53 rfl ?_
      obtain ⟨hi4303, hF⟩ := zrd_at hF
      refine z_iald (n := 2600) rfl hi4303 dX12_close_55 ?_
      generalize t4300 46 (Int32.toNatClampNeg x4) = v4302 at hF ⊢
      obtain ⟨hi4305, hF⟩ := zrd_at hF
      refine z_iald (n := 2600) rfl hi4305 dX12_close_56 ?_
      generalize t4300 51 (Int32.toNatClampNeg v4302) = v4304 at hF ⊢
      refine z_iload_n 1 dX12_close_57 rfl rfl ?_
      refine z_icmp_lt (tgt := 94) dX12_close_58 (by decide) (fun hc => ?_) (fun hc => ?_)
      · have hF := zif_t hc hF
        exact wbX12_close_94 hf k4 hk4 k17 hk17 x1 x2 x3 x4 _ hF
      · have hF := zif_f hc hF
        refine z_iload_n 3 dX12_close_61 rfl rfl ?_
        refine z_if_lt (tgt := 86) dX12_close_62 (by decide) (fun hc => ?_) (fun hc => ?_)
        · have hF := zif_t hc hF
          refine z_sub [0, 1, 2, 4] rfl ?_
          exact wbX12_close_86 hf k4 hk4 k17 hk17 x1 x2 x4 _ hF
        · have hF := zif_f hc hF
          refine z_aload_n 0 dX12_close_65 rfl rfl ?_
          refine z_getr fr_RX12_175 dX12_close_66 ?_
          refine z_aload_n 0 dX12_close_69 rfl rfl ?_
          refine z_getr fr_RX12_160 dX12_close_70 ?_
          refine z_iload 4 dX12_close_73 rfl ?_
          obtain ⟨hi4307, hF⟩ := zrd_at hF
          refine z_iald (n := 2600) rfl hi4307 dX12_close_75 ?_
          generalize t4300 46 (Int32.toNatClampNeg x4) = v4306 at hF ⊢
          obtain ⟨hi4309, hF⟩ := zrd_at hF
          refine z_iald (n := 2600) rfl hi4309 dX12_close_76 ?_
          generalize t4300 51 (Int32.toNatClampNeg v4306) = v4308 at hF ⊢
          refine z_aload_n 0 dX12_close_77 rfl rfl ?_
          refine z_getr fr_RX12_175 dX12_close_78 ?_
          refine z_iload_n 3 dX12_close_81 rfl rfl ?_
          obtain ⟨hi4311, hF⟩ := zrd_at hF
          refine z_iald (n := 2600) rfl hi4311 dX12_close_82 ?_
          generalize t4300 51 (Int32.toNatClampNeg x3) = v4310 at hF ⊢
          refine z_icmp_ge (tgt := 94) dX12_close_83 (by decide) (fun hc => ?_) (fun hc => ?_)
          · have hF := zif_t hc hF
            exact wbX12_close_94 hf k4 hk4 k17 hk17 x1 x2 x3 x4 _ hF
          · have hF := zif_f hc hF
            refine z_sub [0, 1, 2, 4] rfl ?_
            exact wbX12_close_86 hf k4 hk4 k17 hk17 x1 x2 x4 _ hF
set_option maxHeartbeats 4000000 in
set_option maxRecDepth 20000 in
theorem wlX12_close_17 {E : zE} {C : zC} {f : Nat} {ro : Int32 × zS} (hf : 2 ≤ f) (k4 : Int32 → Int32 → zS → zR) (hk4 : ∀ (x1 x2 : Int32) (t : zS), k4 x1 x2 t = some ro → zJ E shM C cX12_close RX12 6 f none ro t 4 [(0, .ref (za E 0)), (1, .int x1), (2, .int x2)] []) (fu : Nat) : ∀ (x1 x2 x3 x4 : Int32) (t : zS), lX12_close_17 k4 fu x1 x2 x3 x4 t = some ro → zJ E shM C cX12_close RX12 6 f none ro t 17 [(0, .ref (za E 0)), (1, .int x1), (2, .int x2), (3, .int x3), (4, .int x4)] [] := by
  induction fu with
  | zero => intro x1 x2 x3 x4 t hF; cases hF
  | succ fu ih => intro x1 x2 x3 x4 t hF; exact wbX12_close_17 hf k4 hk4 (lX12_close_17 k4 fu) ih x1 x2 x3 x4 t hF
set_option maxHeartbeats 4000000 in
set_option maxRecDepth 20000 in
theorem wbX12_close_4 {E : zE} {C : zC} {f : Nat} {ro : Int32 × zS} (hf : 2 ≤ f) (k4 : Int32 → Int32 → zS → zR) (hk4 : ∀ (x1 x2 : Int32) (t : zS), k4 x1 x2 t = some ro → zJ E shM C cX12_close RX12 6 f none ro t 4 [(0, .ref (za E 0)), (1, .int x1), (2, .int x2)] []) (x1 : Int32) (x2 : Int32) (t : zS) (hF : bX12_close_4 k4 x1 x2 t = some ro) : zJ E shM C cX12_close RX12 6 f none ro t 4 [(0, .ref (za E 0)), (1, .int x1), (2, .int x2)] [] := by
  unfold bX12_close_4 at hF
  refine z_iload_n 2 dX12_close_4 rfl rfl ?_
  refine z_aload_n 0 dX12_close_5 rfl rfl ?_
  refine z_geti fi_RX12_530 dX12_close_6 ?_
  refine z_icmp_ge (tgt := 199) dX12_close_9 (by decide) (fun hc => ?_) (fun hc => ?_)
  · have hF := zif_t hc hF
    refine z_sub [0, 1] rfl ?_
    exact wbX12_close_199 hf  x1 _ hF
  · have hF := zif_f hc hF
    refine z_iconst (v := (-1)) dX12_close_12 (by decide) ?_
    refine z_istore_n (lv' := [(3, .int (-1)), (0, .ref (za E 0)), (1, .int x1), (2, .int x2)]) dX12_close_13 rfl (by decide) rfl ?_
    refine z_iconst (v := 0) dX12_close_14 (by decide) ?_
    refine z_istore (lv' := [(4, .int 0), (3, .int (-1)), (0, .ref (za E 0)), (1, .int x1), (2, .int x2)]) dX12_close_15 (by decide) rfl ?_
    refine z_sub [2, 3, 4, 1, 0] rfl ?_
    exact wlX12_close_17 hf k4 hk4 zFU x1 x2 (-1) 0 _ hF
set_option maxHeartbeats 4000000 in
set_option maxRecDepth 20000 in
theorem wlX12_close_4 {E : zE} {C : zC} {f : Nat} {ro : Int32 × zS} (hf : 2 ≤ f) (fu : Nat) : ∀ (x1 x2 : Int32) (t : zS), lX12_close_4  fu x1 x2 t = some ro → zJ E shM C cX12_close RX12 6 f none ro t 4 [(0, .ref (za E 0)), (1, .int x1), (2, .int x2)] [] := by
  induction fu with
  | zero => intro x1 x2 t hF; cases hF
  | succ fu ih => intro x1 x2 t hF; exact wbX12_close_4 hf (lX12_close_4  fu) ih x1 x2 t hF
set_option maxHeartbeats 4000000 in
set_option maxRecDepth 20000 in
theorem ctX12_close {E : zE} {f : Nat} (hf : 2 ≤ f) {t : zS} {ro : Int32 × zS} (hF : mX12_close   t = some ro) : zM E shM f yX12_close cX12_close 6 none [.ref (za E 0)] t ro := by
  refine zM_of (by decide) (Nat.le_of_ble_eq_true rfl) (fun C => ?_)
  show zJ E shM C cX12_close RX12 6 f none ro t 0 [(0, .ref (za E 0))] []
  unfold mX12_close at hF
  refine z_iconst (v := 0) dX12_close_0 (by decide) ?_
  refine z_istore_n (lv' := [(1, .int 0), (0, .ref (za E 0))]) dX12_close_1 rfl (by decide) rfl ?_
  refine z_iconst (v := 0) dX12_close_2 (by decide) ?_
  refine z_istore_n (lv' := [(2, .int 0), (1, .int 0), (0, .ref (za E 0))]) dX12_close_3 rfl (by decide) rfl ?_
  refine z_sub [2, 1, 0] rfl ?_
  exact wlX12_close_4 hf  zFU 0 0 _ hF
-- SessionHouseModel.rooms(I)I
theorem dX12_rooms_0 : decode cX12_rooms 0 = .ok (.aload_n 0, 1) := by decide +kernel
theorem dX12_rooms_1 : decode cX12_rooms 1 = .ok (.iload_n 1, 1) := by decide +kernel
theorem dX12_rooms_2 : decode cX12_rooms 2 = .ok (.invokevirtual 458, 3) := by decide +kernel
theorem dX12_rooms_5 : decode cX12_rooms 5 = .ok (.istore_n 2, 1) := by decide +kernel
theorem dX12_rooms_6 : decode cX12_rooms 6 = .ok (.aload_n 0, 1) := by decide +kernel
theorem dX12_rooms_7 : decode cX12_rooms 7 = .ok (.getfield 533, 3) := by decide +kernel
theorem dX12_rooms_10 : decode cX12_rooms 10 = .ok (.iload_n 2, 1) := by decide +kernel
theorem dX12_rooms_11 : decode cX12_rooms 11 = .ok (.iadd, 1) := by decide +kernel
theorem dX12_rooms_12 : decode cX12_rooms 12 = .ok (.aload_n 0, 1) := by decide +kernel
theorem dX12_rooms_13 : decode cX12_rooms 13 = .ok (.getfield 178, 3) := by decide +kernel
theorem dX12_rooms_16 : decode cX12_rooms 16 = .ok (.arraylength, 1) := by decide +kernel
theorem dX12_rooms_17 : decode cX12_rooms 17 = .ok (.if_icmp .le 7, 3) := by decide +kernel
theorem dX12_rooms_20 : decode cX12_rooms 20 = .ok (.aload_n 0, 1) := by decide +kernel
theorem dX12_rooms_21 : decode cX12_rooms 21 = .ok (.invokevirtual 536, 3) := by decide +kernel
theorem dX12_rooms_24 : decode cX12_rooms 24 = .ok (.iload_n 2, 1) := by decide +kernel
theorem dX12_rooms_25 : decode cX12_rooms 25 = .ok (.ifCond .ne 5, 3) := by decide +kernel
theorem dX12_rooms_28 : decode cX12_rooms 28 = .ok (.iconst 0, 1) := by decide +kernel
theorem dX12_rooms_29 : decode cX12_rooms 29 = .ok (.ireturn, 1) := by decide +kernel
theorem dX12_rooms_30 : decode cX12_rooms 30 = .ok (.aload_n 0, 1) := by decide +kernel
theorem dX12_rooms_31 : decode cX12_rooms 31 = .ok (.getfield 533, 3) := by decide +kernel
theorem dX12_rooms_34 : decode cX12_rooms 34 = .ok (.istore_n 3, 1) := by decide +kernel
theorem dX12_rooms_35 : decode cX12_rooms 35 = .ok (.aload_n 0, 1) := by decide +kernel
theorem dX12_rooms_36 : decode cX12_rooms 36 = .ok (.dup, 1) := by decide +kernel
theorem dX12_rooms_37 : decode cX12_rooms 37 = .ok (.getfield 533, 3) := by decide +kernel
theorem dX12_rooms_40 : decode cX12_rooms 40 = .ok (.iload_n 2, 1) := by decide +kernel
theorem dX12_rooms_41 : decode cX12_rooms 41 = .ok (.iadd, 1) := by decide +kernel
theorem dX12_rooms_42 : decode cX12_rooms 42 = .ok (.putfield 533, 3) := by decide +kernel
theorem dX12_rooms_45 : decode cX12_rooms 45 = .ok (.iconst 0, 1) := by decide +kernel
theorem dX12_rooms_46 : decode cX12_rooms 46 = .ok (.istore 4, 2) := by decide +kernel
theorem dX12_rooms_48 : decode cX12_rooms 48 = .ok (.iload 4, 2) := by decide +kernel
theorem dX12_rooms_50 : decode cX12_rooms 50 = .ok (.iload_n 2, 1) := by decide +kernel
theorem dX12_rooms_51 : decode cX12_rooms 51 = .ok (.if_icmp .ge 29, 3) := by decide +kernel
theorem dX12_rooms_54 : decode cX12_rooms 54 = .ok (.aload_n 0, 1) := by decide +kernel
theorem dX12_rooms_55 : decode cX12_rooms 55 = .ok (.getfield 178, 3) := by decide +kernel
theorem dX12_rooms_58 : decode cX12_rooms 58 = .ok (.iload_n 3, 1) := by decide +kernel
theorem dX12_rooms_59 : decode cX12_rooms 59 = .ok (.iload 4, 2) := by decide +kernel
theorem dX12_rooms_61 : decode cX12_rooms 61 = .ok (.iadd, 1) := by decide +kernel
theorem dX12_rooms_62 : decode cX12_rooms 62 = .ok (.iconst 0, 1) := by decide +kernel
theorem dX12_rooms_63 : decode cX12_rooms 63 = .ok (.iastore, 1) := by decide +kernel
theorem dX12_rooms_64 : decode cX12_rooms 64 = .ok (.aload_n 0, 1) := by decide +kernel
theorem dX12_rooms_65 : decode cX12_rooms 65 = .ok (.getfield 181, 3) := by decide +kernel
theorem dX12_rooms_68 : decode cX12_rooms 68 = .ok (.iload_n 3, 1) := by decide +kernel
theorem dX12_rooms_69 : decode cX12_rooms 69 = .ok (.iload 4, 2) := by decide +kernel
theorem dX12_rooms_71 : decode cX12_rooms 71 = .ok (.iadd, 1) := by decide +kernel
theorem dX12_rooms_72 : decode cX12_rooms 72 = .ok (.iconst (-1), 1) := by decide +kernel
theorem dX12_rooms_73 : decode cX12_rooms 73 = .ok (.iastore, 1) := by decide +kernel
theorem dX12_rooms_74 : decode cX12_rooms 74 = .ok (.iinc 4 1, 3) := by decide +kernel
theorem dX12_rooms_77 : decode cX12_rooms 77 = .ok (.goto (-29), 3) := by decide +kernel
theorem dX12_rooms_80 : decode cX12_rooms 80 = .ok (.iload_n 3, 1) := by decide +kernel
theorem dX12_rooms_81 : decode cX12_rooms 81 = .ok (.ireturn, 1) := by decide +kernel
def bX12_rooms_48 (k48 : Int32 → Int32 → Int32 → zS → zR) (x2 : Int32) (x3 : Int32) (x4 : Int32) (t : zS) : zR := if x2 ≤ x4 then some (x3, t) else zwr t 52 24000 (x3 + x4) 0 fun t4313 => zwr t4313 53 24000 (x3 + x4) (-1) fun t4315 => zlet (x4 + 1) fun v4316 => k48 x2 x3 v4316 t4315
def lX12_rooms_48 : Nat → Int32 → Int32 → Int32 → zS → zR
  | 0, _, _, _, _ => none
  | fu + 1, x2, x3, x4, t => bX12_rooms_48 (lX12_rooms_48  fu) x2 x3 x4 t
def bX12_rooms_24 (x2 : Int32) (t : zS) : zR := if x2 = 0 then some (0, t) else zlet (t 0 94) fun v4317 => zpt t 0 94 ((t 0 94) + x2) fun t4318 => lX12_rooms_48  zFU x2 v4317 0 t4318
def mX12_rooms (x1 : Int32) (t : zS) : zR := zbd (mX12_ownMany x1 t) fun r4319 t4320 => if ((t4320 0 94) + r4319) ≤ 24000 then bX12_rooms_24  r4319 t4320 else zbd (mX12_close  t4320) fun r4322 t4323 => bX12_rooms_24  r4319 t4323
set_option maxHeartbeats 4000000 in
set_option maxRecDepth 20000 in
theorem wbX12_rooms_48 {E : zE} {C : zC} {f : Nat} {ro : Int32 × zS} (hf : 3 ≤ f) (k48 : Int32 → Int32 → Int32 → zS → zR) (hk48 : ∀ (x2 x3 x4 : Int32) (t : zS), k48 x2 x3 x4 t = some ro → zJ E shM C cX12_rooms RX12 5 f (some .int) ro t 48 [(0, .ref (za E 0)), (2, .int x2), (3, .int x3), (4, .int x4)] []) (x2 : Int32) (x3 : Int32) (x4 : Int32) (t : zS) (hF : bX12_rooms_48 k48 x2 x3 x4 t = some ro) : zJ E shM C cX12_rooms RX12 5 f (some .int) ro t 48 [(0, .ref (za E 0)), (2, .int x2), (3, .int x3), (4, .int x4)] [] := by
  unfold bX12_rooms_48 at hF
  refine z_iload 3 dX12_rooms_48 rfl ?_
  refine z_iload_n 1 dX12_rooms_50 rfl rfl ?_
  refine z_icmp_ge (tgt := 80) dX12_rooms_51 (by decide) (fun hc => ?_) (fun hc => ?_)
  · have hF := zif_t hc hF
    refine z_iload_n 2 dX12_rooms_80 rfl rfl ?_
    exact z_iret hF dX12_rooms_81
  · have hF := zif_f hc hF
    refine z_aload_n 0 dX12_rooms_54 rfl rfl ?_
    refine z_getr fr_RX12_178 dX12_rooms_55 ?_
    refine z_iload_n 2 dX12_rooms_58 rfl rfl ?_
    refine z_iload 3 dX12_rooms_59 rfl ?_
    refine z_iadd dX12_rooms_61 ?_
    refine z_iconst (v := 0) dX12_rooms_62 (by decide) ?_
    obtain ⟨hi4312, hF⟩ := zwr_at hF
    refine z_iast (n := 24000) rfl hi4312 dX12_rooms_63 (fun t4313 et4313 => ?_)
    have hF := hF t4313 et4313
    refine z_aload_n 0 dX12_rooms_64 rfl rfl ?_
    refine z_getr fr_RX12_181 dX12_rooms_65 ?_
    refine z_iload_n 2 dX12_rooms_68 rfl rfl ?_
    refine z_iload 3 dX12_rooms_69 rfl ?_
    refine z_iadd dX12_rooms_71 ?_
    refine z_iconst (v := (-1)) dX12_rooms_72 (by decide) ?_
    obtain ⟨hi4314, hF⟩ := zwr_at hF
    refine z_iast (n := 24000) rfl hi4314 dX12_rooms_73 (fun t4315 et4315 => ?_)
    have hF := hF t4315 et4315
    obtain ⟨v4316, ev4316⟩ : ∃ y : Int32, y = (x4 + 1) := ⟨_, rfl⟩
    have hF := zlet_at ev4316 hF
    refine z_iinc (v := v4316) (lv' := [(4, .int v4316), (0, .ref (za E 0)), (2, .int x2), (3, .int x3)]) (k := 3) dX12_rooms_74 rfl (by rw [ev4316]; rfl) (by decide) rfl ?_
    refine z_goto (tgt := 48) dX12_rooms_77 (by decide) ?_
    refine z_sub [1, 2, 3, 0] rfl ?_
    exact hk48 x2 x3 v4316 _ hF
set_option maxHeartbeats 4000000 in
set_option maxRecDepth 20000 in
theorem wlX12_rooms_48 {E : zE} {C : zC} {f : Nat} {ro : Int32 × zS} (hf : 3 ≤ f) (fu : Nat) : ∀ (x2 x3 x4 : Int32) (t : zS), lX12_rooms_48  fu x2 x3 x4 t = some ro → zJ E shM C cX12_rooms RX12 5 f (some .int) ro t 48 [(0, .ref (za E 0)), (2, .int x2), (3, .int x3), (4, .int x4)] [] := by
  induction fu with
  | zero => intro x2 x3 x4 t hF; cases hF
  | succ fu ih => intro x2 x3 x4 t hF; exact wbX12_rooms_48 hf (lX12_rooms_48  fu) ih x2 x3 x4 t hF
set_option maxHeartbeats 4000000 in
set_option maxRecDepth 20000 in
theorem wbX12_rooms_24 {E : zE} {C : zC} {f : Nat} {ro : Int32 × zS} (hf : 3 ≤ f) (x2 : Int32) (t : zS) (hF : bX12_rooms_24  x2 t = some ro) : zJ E shM C cX12_rooms RX12 5 f (some .int) ro t 24 [(0, .ref (za E 0)), (2, .int x2)] [] := by
  unfold bX12_rooms_24 at hF
  refine z_iload_n 1 dX12_rooms_24 rfl rfl ?_
  refine z_if_ne (tgt := 30) dX12_rooms_25 (by decide) (fun hc => ?_) (fun hc => ?_)
  · have hF := zif_f hc hF
    refine z_aload_n 0 dX12_rooms_30 rfl rfl ?_
    refine z_geti fi_RX12_533 dX12_rooms_31 ?_
    refine z_topi (fun v4317 ev4317 => ?_)
    have hF := zlet_at ev4317 hF
    refine z_istore_n (lv' := [(3, .int v4317), (0, .ref (za E 0)), (2, .int x2)]) dX12_rooms_34 rfl (by decide) rfl ?_
    refine z_aload_n 1 dX12_rooms_35 rfl rfl ?_
    refine z_dup dX12_rooms_36 rfl ?_
    refine z_geti fi_RX12_533 dX12_rooms_37 ?_
    refine z_iload_n 2 dX12_rooms_40 rfl rfl ?_
    refine z_iadd dX12_rooms_41 ?_
    refine z_puti fw_RX12_533 dX12_rooms_42 (fun t4318 et4318 => ?_)
    have hF := zpt_at hF t4318 et4318
    refine z_iconst (v := 0) dX12_rooms_45 (by decide) ?_
    refine z_istore (lv' := [(4, .int 0), (3, .int v4317), (0, .ref (za E 0)), (2, .int x2)]) dX12_rooms_46 (by decide) rfl ?_
    refine z_sub [2, 3, 1, 0] rfl ?_
    exact wlX12_rooms_48 hf  zFU x2 v4317 0 _ hF
  · have hF := zif_t hc hF
    refine z_iconst (v := 0) dX12_rooms_28 (by decide) ?_
    exact z_iret hF dX12_rooms_29
set_option maxHeartbeats 4000000 in
set_option maxRecDepth 20000 in
theorem ctX12_rooms {E : zE} {f : Nat} (hf : 3 ≤ f) {x1 : Int32} {t : zS} {ro : Int32 × zS} (hF : mX12_rooms  x1 t = some ro) : zM E shM f yX12_rooms cX12_rooms 5 (some .int) [.ref (za E 0), .int x1] t ro := by
  refine zM_of (by decide) (Nat.le_of_ble_eq_true rfl) (fun C => ?_)
  show zJ E shM C cX12_rooms RX12 5 f (some .int) ro t 0 [(0, .ref (za E 0)), (1, .int x1)] []
  unfold mX12_rooms at hF
  refine z_aload_n 0 dX12_rooms_0 rfl rfl ?_
  refine z_iload_n 1 dX12_rooms_1 rfl rfl ?_
  obtain ⟨r4319, t4320, hc4321, hF⟩ := zbd_at hF
  refine z_callVi (ctX12_ownMany (E := E) (f := f - 1) (by omega) hc4321) yy_X12_ownMany yv_X12_ownMany ob_M_0 lk_RX12_458 (by omega) rfl rfl (Nat.le_of_ble_eq_true rfl) dX12_rooms_2 ?_
  refine z_istore_n (lv' := [(2, .int r4319), (0, .ref (za E 0)), (1, .int x1)]) dX12_rooms_5 rfl (by decide) rfl ?_
  refine z_aload_n 1 dX12_rooms_6 rfl rfl ?_
  refine z_geti fi_RX12_533 dX12_rooms_7 ?_
  refine z_iload_n 0 dX12_rooms_10 rfl rfl ?_
  refine z_iadd dX12_rooms_11 ?_
  refine z_aload_n 1 dX12_rooms_12 rfl rfl ?_
  refine z_getr fr_RX12_178 dX12_rooms_13 ?_
  refine z_alen (n := 24000) (v := 24000) rfl rfl (by decide) dX12_rooms_16 ?_
  refine z_icmp_le (tgt := 24) dX12_rooms_17 (by decide) (fun hc => ?_) (fun hc => ?_)
  · have hF := zif_t hc hF
    refine z_sub [1, 0] rfl ?_
    exact wbX12_rooms_24 hf  r4319 _ hF
  · have hF := zif_f hc hF
    refine z_aload_n 1 dX12_rooms_20 rfl rfl ?_
    obtain ⟨r4322, t4323, hc4324, hF⟩ := zbd_at hF
    refine z_callVv (ctX12_close (E := E) (f := f - 1) (by omega) hc4324) yy_X12_close yv_X12_close ob_M_0 lk_RX12_536 (by omega) rfl rfl (Nat.le_of_ble_eq_true rfl) dX12_rooms_21 ?_
    refine z_sub [1, 0] rfl ?_
    exact wbX12_rooms_24 hf  r4319 _ hF
-- SessionHouseModel.newProcess(I)I
theorem dX12_newProcess_0 : decode cX12_newProcess 0 = .ok (.aload_n 0, 1) := by decide +kernel
theorem dX12_newProcess_1 : decode cX12_newProcess 1 = .ok (.getfield 539, 3) := by decide +kernel
theorem dX12_newProcess_4 : decode cX12_newProcess 4 = .ok (.ifCond .le 22, 3) := by decide +kernel
theorem dX12_newProcess_7 : decode cX12_newProcess 7 = .ok (.aload_n 0, 1) := by decide +kernel
theorem dX12_newProcess_8 : decode cX12_newProcess 8 = .ok (.getfield 163, 3) := by decide +kernel
theorem dX12_newProcess_11 : decode cX12_newProcess 11 = .ok (.aload_n 0, 1) := by decide +kernel
theorem dX12_newProcess_12 : decode cX12_newProcess 12 = .ok (.dup, 1) := by decide +kernel
theorem dX12_newProcess_13 : decode cX12_newProcess 13 = .ok (.getfield 539, 3) := by decide +kernel
theorem dX12_newProcess_16 : decode cX12_newProcess 16 = .ok (.iconst 1, 1) := by decide +kernel
theorem dX12_newProcess_17 : decode cX12_newProcess 17 = .ok (.isub, 1) := by decide +kernel
theorem dX12_newProcess_18 : decode cX12_newProcess 18 = .ok (.dup_x1, 1) := by decide +kernel
theorem dX12_newProcess_19 : decode cX12_newProcess 19 = .ok (.putfield 539, 3) := by decide +kernel
theorem dX12_newProcess_22 : decode cX12_newProcess 22 = .ok (.iaload, 1) := by decide +kernel
theorem dX12_newProcess_23 : decode cX12_newProcess 23 = .ok (.goto 14, 3) := by decide +kernel
theorem dX12_newProcess_26 : decode cX12_newProcess 26 = .ok (.aload_n 0, 1) := by decide +kernel
theorem dX12_newProcess_27 : decode cX12_newProcess 27 = .ok (.dup, 1) := by decide +kernel
theorem dX12_newProcess_28 : decode cX12_newProcess 28 = .ok (.getfield 542, 3) := by decide +kernel
theorem dX12_newProcess_31 : decode cX12_newProcess 31 = .ok (.dup_x1, 1) := by decide +kernel
theorem dX12_newProcess_32 : decode cX12_newProcess 32 = .ok (.iconst 1, 1) := by decide +kernel
theorem dX12_newProcess_33 : decode cX12_newProcess 33 = .ok (.iadd, 1) := by decide +kernel
theorem dX12_newProcess_34 : decode cX12_newProcess 34 = .ok (.putfield 542, 3) := by decide +kernel
theorem dX12_newProcess_37 : decode cX12_newProcess 37 = .ok (.istore_n 2, 1) := by decide +kernel
theorem dX12_newProcess_38 : decode cX12_newProcess 38 = .ok (.aload_n 0, 1) := by decide +kernel
theorem dX12_newProcess_39 : decode cX12_newProcess 39 = .ok (.getfield 166, 3) := by decide +kernel
theorem dX12_newProcess_42 : decode cX12_newProcess 42 = .ok (.iload_n 2, 1) := by decide +kernel
theorem dX12_newProcess_43 : decode cX12_newProcess 43 = .ok (.iload_n 1, 1) := by decide +kernel
theorem dX12_newProcess_44 : decode cX12_newProcess 44 = .ok (.iastore, 1) := by decide +kernel
theorem dX12_newProcess_45 : decode cX12_newProcess 45 = .ok (.aload_n 0, 1) := by decide +kernel
theorem dX12_newProcess_46 : decode cX12_newProcess 46 = .ok (.getfield 169, 3) := by decide +kernel
theorem dX12_newProcess_49 : decode cX12_newProcess 49 = .ok (.iload_n 2, 1) := by decide +kernel
theorem dX12_newProcess_50 : decode cX12_newProcess 50 = .ok (.aload_n 0, 1) := by decide +kernel
theorem dX12_newProcess_51 : decode cX12_newProcess 51 = .ok (.getfield 94, 3) := by decide +kernel
theorem dX12_newProcess_54 : decode cX12_newProcess 54 = .ok (.iload_n 1, 1) := by decide +kernel
theorem dX12_newProcess_55 : decode cX12_newProcess 55 = .ok (.iaload, 1) := by decide +kernel
theorem dX12_newProcess_56 : decode cX12_newProcess 56 = .ok (.iastore, 1) := by decide +kernel
theorem dX12_newProcess_57 : decode cX12_newProcess 57 = .ok (.aload_n 0, 1) := by decide +kernel
theorem dX12_newProcess_58 : decode cX12_newProcess 58 = .ok (.getfield 172, 3) := by decide +kernel
theorem dX12_newProcess_61 : decode cX12_newProcess 61 = .ok (.iload_n 2, 1) := by decide +kernel
theorem dX12_newProcess_62 : decode cX12_newProcess 62 = .ok (.iconst 0, 1) := by decide +kernel
theorem dX12_newProcess_63 : decode cX12_newProcess 63 = .ok (.iastore, 1) := by decide +kernel
theorem dX12_newProcess_64 : decode cX12_newProcess 64 = .ok (.aload_n 0, 1) := by decide +kernel
theorem dX12_newProcess_65 : decode cX12_newProcess 65 = .ok (.getfield 175, 3) := by decide +kernel
theorem dX12_newProcess_68 : decode cX12_newProcess 68 = .ok (.iload_n 2, 1) := by decide +kernel
theorem dX12_newProcess_69 : decode cX12_newProcess 69 = .ok (.aload_n 0, 1) := by decide +kernel
theorem dX12_newProcess_70 : decode cX12_newProcess 70 = .ok (.iload_n 1, 1) := by decide +kernel
theorem dX12_newProcess_71 : decode cX12_newProcess 71 = .ok (.invokevirtual 545, 3) := by decide +kernel
theorem dX12_newProcess_74 : decode cX12_newProcess 74 = .ok (.iastore, 1) := by decide +kernel
theorem dX12_newProcess_75 : decode cX12_newProcess 75 = .ok (.aload_n 0, 1) := by decide +kernel
theorem dX12_newProcess_76 : decode cX12_newProcess 76 = .ok (.getfield 160, 3) := by decide +kernel
theorem dX12_newProcess_79 : decode cX12_newProcess 79 = .ok (.aload_n 0, 1) := by decide +kernel
theorem dX12_newProcess_80 : decode cX12_newProcess 80 = .ok (.getfield 530, 3) := by decide +kernel
theorem dX12_newProcess_83 : decode cX12_newProcess 83 = .ok (.iload_n 2, 1) := by decide +kernel
theorem dX12_newProcess_84 : decode cX12_newProcess 84 = .ok (.iastore, 1) := by decide +kernel
theorem dX12_newProcess_85 : decode cX12_newProcess 85 = .ok (.aload_n 0, 1) := by decide +kernel
theorem dX12_newProcess_86 : decode cX12_newProcess 86 = .ok (.dup, 1) := by decide +kernel
theorem dX12_newProcess_87 : decode cX12_newProcess 87 = .ok (.getfield 530, 3) := by decide +kernel
theorem dX12_newProcess_90 : decode cX12_newProcess 90 = .ok (.iconst 1, 1) := by decide +kernel
theorem dX12_newProcess_91 : decode cX12_newProcess 91 = .ok (.iadd, 1) := by decide +kernel
theorem dX12_newProcess_92 : decode cX12_newProcess 92 = .ok (.putfield 530, 3) := by decide +kernel
theorem dX12_newProcess_95 : decode cX12_newProcess 95 = .ok (.aload_n 0, 1) := by decide +kernel
theorem dX12_newProcess_96 : decode cX12_newProcess 96 = .ok (.dup, 1) := by decide +kernel
theorem dX12_newProcess_97 : decode cX12_newProcess 97 = .ok (.getfield 548, 3) := by decide +kernel
theorem dX12_newProcess_100 : decode cX12_newProcess 100 = .ok (.iconst 1, 1) := by decide +kernel
theorem dX12_newProcess_101 : decode cX12_newProcess 101 = .ok (.iadd, 1) := by decide +kernel
theorem dX12_newProcess_102 : decode cX12_newProcess 102 = .ok (.putfield 548, 3) := by decide +kernel
theorem dX12_newProcess_105 : decode cX12_newProcess 105 = .ok (.aload_n 0, 1) := by decide +kernel
theorem dX12_newProcess_106 : decode cX12_newProcess 106 = .ok (.dup, 1) := by decide +kernel
theorem dX12_newProcess_107 : decode cX12_newProcess 107 = .ok (.getfield 551, 3) := by decide +kernel
theorem dX12_newProcess_110 : decode cX12_newProcess 110 = .ok (.aload_n 0, 1) := by decide +kernel
theorem dX12_newProcess_111 : decode cX12_newProcess 111 = .ok (.iload_n 1, 1) := by decide +kernel
theorem dX12_newProcess_112 : decode cX12_newProcess 112 = .ok (.invokevirtual 554, 3) := by decide +kernel
theorem dX12_newProcess_115 : decode cX12_newProcess 115 = .ok (.iadd, 1) := by decide +kernel
theorem dX12_newProcess_116 : decode cX12_newProcess 116 = .ok (.putfield 551, 3) := by decide +kernel
theorem dX12_newProcess_119 : decode cX12_newProcess 119 = .ok (.iload_n 2, 1) := by decide +kernel
theorem dX12_newProcess_120 : decode cX12_newProcess 120 = .ok (.ireturn, 1) := by decide +kernel
def bX12_newProcess_37 (x1 : Int32) (y0 : Int32) (t : zS) : zR := zwr t 48 2600 y0 x1 fun t4326 => zrd t4326 29 300 x1 fun v4327 => zwr t4326 49 2600 y0 v4327 fun t4330 => zwr t4330 50 2600 y0 0 fun t4332 => zbd (mX12_rooms x1 t4332) fun r4333 t4334 => zwr t4334 51 2600 y0 r4333 fun t4337 => zwr t4337 46 2600 (t4337 0 85) y0 fun t4339 => zpt t4339 0 85 ((t4339 0 85) + 1) fun t4340 => zpt t4340 0 79 ((t4340 0 79) + 1) fun t4341 => zbd (mX12_processCells x1 t4341) fun r4342 t4343 => zpt t4343 0 80 ((t4341 0 80) + r4342) fun t4345 => some (y0, t4345)
def mX12_newProcess (x1 : Int32) (t : zS) : zR := if (t 0 88) ≤ 0 then zpt t 0 105 ((t 0 105) + 1) fun t4346 => bX12_newProcess_37  x1 (t 0 105) t4346 else zpt t 0 88 ((t 0 88) - 1) fun t4347 => zrd t4347 47 2600 ((t 0 88) - 1) fun v4348 => bX12_newProcess_37  x1 v4348 t4347
set_option maxHeartbeats 4000000 in
set_option maxRecDepth 20000 in
theorem wbX12_newProcess_37 {E : zE} {C : zC} {f : Nat} {ro : Int32 × zS} (hf : 4 ≤ f) (x1 : Int32) (y0 : Int32) (t : zS) (hF : bX12_newProcess_37  x1 y0 t = some ro) : zJ E shM C cX12_newProcess RX12 3 f (some .int) ro t 37 [(0, .ref (za E 0)), (1, .int x1)] [.int y0] := by
  unfold bX12_newProcess_37 at hF
  refine z_istore_n (lv' := [(2, .int y0), (0, .ref (za E 0)), (1, .int x1)]) dX12_newProcess_37 rfl (by decide) rfl ?_
  refine z_aload_n 1 dX12_newProcess_38 rfl rfl ?_
  refine z_getr fr_RX12_166 dX12_newProcess_39 ?_
  refine z_iload_n 0 dX12_newProcess_42 rfl rfl ?_
  refine z_iload_n 2 dX12_newProcess_43 rfl rfl ?_
  obtain ⟨hi4325, hF⟩ := zwr_at hF
  refine z_iast (n := 2600) rfl hi4325 dX12_newProcess_44 (fun t4326 et4326 => ?_)
  have hF := hF t4326 et4326
  refine z_aload_n 1 dX12_newProcess_45 rfl rfl ?_
  refine z_getr fr_RX12_169 dX12_newProcess_46 ?_
  refine z_iload_n 0 dX12_newProcess_49 rfl rfl ?_
  refine z_aload_n 1 dX12_newProcess_50 rfl rfl ?_
  refine z_getr fr_RX12_94 dX12_newProcess_51 ?_
  refine z_iload_n 2 dX12_newProcess_54 rfl rfl ?_
  obtain ⟨hi4328, hF⟩ := zrd_at hF
  refine z_iald (n := 300) rfl hi4328 dX12_newProcess_55 ?_
  generalize t4326 29 (Int32.toNatClampNeg x1) = v4327 at hF ⊢
  obtain ⟨hi4329, hF⟩ := zwr_at hF
  refine z_iast (n := 2600) rfl hi4329 dX12_newProcess_56 (fun t4330 et4330 => ?_)
  have hF := hF t4330 et4330
  refine z_aload_n 1 dX12_newProcess_57 rfl rfl ?_
  refine z_getr fr_RX12_172 dX12_newProcess_58 ?_
  refine z_iload_n 0 dX12_newProcess_61 rfl rfl ?_
  refine z_iconst (v := 0) dX12_newProcess_62 (by decide) ?_
  obtain ⟨hi4331, hF⟩ := zwr_at hF
  refine z_iast (n := 2600) rfl hi4331 dX12_newProcess_63 (fun t4332 et4332 => ?_)
  have hF := hF t4332 et4332
  refine z_aload_n 1 dX12_newProcess_64 rfl rfl ?_
  refine z_getr fr_RX12_175 dX12_newProcess_65 ?_
  refine z_iload_n 0 dX12_newProcess_68 rfl rfl ?_
  refine z_aload_n 1 dX12_newProcess_69 rfl rfl ?_
  refine z_iload_n 2 dX12_newProcess_70 rfl rfl ?_
  obtain ⟨r4333, t4334, hc4335, hF⟩ := zbd_at hF
  refine z_callVi (ctX12_rooms (E := E) (f := f - 1) (by omega) hc4335) yy_X12_rooms yv_X12_rooms ob_M_0 lk_RX12_545 (by omega) rfl rfl (Nat.le_of_ble_eq_true rfl) dX12_newProcess_71 ?_
  obtain ⟨hi4336, hF⟩ := zwr_at hF
  refine z_iast (n := 2600) rfl hi4336 dX12_newProcess_74 (fun t4337 et4337 => ?_)
  have hF := hF t4337 et4337
  refine z_aload_n 1 dX12_newProcess_75 rfl rfl ?_
  refine z_getr fr_RX12_160 dX12_newProcess_76 ?_
  refine z_aload_n 1 dX12_newProcess_79 rfl rfl ?_
  refine z_geti fi_RX12_530 dX12_newProcess_80 ?_
  refine z_iload_n 0 dX12_newProcess_83 rfl rfl ?_
  obtain ⟨hi4338, hF⟩ := zwr_at hF
  refine z_iast (n := 2600) rfl hi4338 dX12_newProcess_84 (fun t4339 et4339 => ?_)
  have hF := hF t4339 et4339
  refine z_aload_n 1 dX12_newProcess_85 rfl rfl ?_
  refine z_dup dX12_newProcess_86 rfl ?_
  refine z_geti fi_RX12_530 dX12_newProcess_87 ?_
  refine z_iconst (v := 1) dX12_newProcess_90 (by decide) ?_
  refine z_iadd dX12_newProcess_91 ?_
  refine z_puti fw_RX12_530 dX12_newProcess_92 (fun t4340 et4340 => ?_)
  have hF := zpt_at hF t4340 et4340
  refine z_aload_n 1 dX12_newProcess_95 rfl rfl ?_
  refine z_dup dX12_newProcess_96 rfl ?_
  refine z_geti fi_RX12_548 dX12_newProcess_97 ?_
  refine z_iconst (v := 1) dX12_newProcess_100 (by decide) ?_
  refine z_iadd dX12_newProcess_101 ?_
  refine z_puti fw_RX12_548 dX12_newProcess_102 (fun t4341 et4341 => ?_)
  have hF := zpt_at hF t4341 et4341
  refine z_aload_n 1 dX12_newProcess_105 rfl rfl ?_
  refine z_dup dX12_newProcess_106 rfl ?_
  refine z_geti fi_RX12_551 dX12_newProcess_107 ?_
  refine z_aload_n 1 dX12_newProcess_110 rfl rfl ?_
  refine z_iload_n 2 dX12_newProcess_111 rfl rfl ?_
  obtain ⟨r4342, t4343, hc4344, hF⟩ := zbd_at hF
  refine z_callVi (ctX12_processCells (E := E) (f := f - 1) (by omega) hc4344) yy_X12_processCells yv_X12_processCells ob_M_0 lk_RX12_554 (by omega) rfl rfl (Nat.le_of_ble_eq_true rfl) dX12_newProcess_112 ?_
  refine z_iadd dX12_newProcess_115 ?_
  refine z_puti fw_RX12_551 dX12_newProcess_116 (fun t4345 et4345 => ?_)
  have hF := zpt_at hF t4345 et4345
  refine z_iload_n 0 dX12_newProcess_119 rfl rfl ?_
  exact z_iret hF dX12_newProcess_120
set_option maxHeartbeats 4000000 in
set_option maxRecDepth 20000 in
theorem ctX12_newProcess {E : zE} {f : Nat} (hf : 4 ≤ f) {x1 : Int32} {t : zS} {ro : Int32 × zS} (hF : mX12_newProcess  x1 t = some ro) : zM E shM f yX12_newProcess cX12_newProcess 3 (some .int) [.ref (za E 0), .int x1] t ro := by
  refine zM_of (by decide) (Nat.le_of_ble_eq_true rfl) (fun C => ?_)
  show zJ E shM C cX12_newProcess RX12 3 f (some .int) ro t 0 [(0, .ref (za E 0)), (1, .int x1)] []
  unfold mX12_newProcess at hF
  refine z_aload_n 0 dX12_newProcess_0 rfl rfl ?_
  refine z_geti fi_RX12_539 dX12_newProcess_1 ?_
  refine z_if_le (tgt := 26) dX12_newProcess_4 (by decide) (fun hc => ?_) (fun hc => ?_)
  · have hF := zif_t hc hF
    refine z_aload_n 0 dX12_newProcess_26 rfl rfl ?_
    refine z_dup dX12_newProcess_27 rfl ?_
    refine z_geti fi_RX12_542 dX12_newProcess_28 ?_
    refine z_dup_x1 dX12_newProcess_31 rfl rfl ?_
    refine z_iconst (v := 1) dX12_newProcess_32 (by decide) ?_
    refine z_iadd dX12_newProcess_33 ?_
    refine z_puti fw_RX12_542 dX12_newProcess_34 (fun t4346 et4346 => ?_)
    have hF := zpt_at hF t4346 et4346
    exact wbX12_newProcess_37 hf  x1 (t 0 105) _ hF
  · have hF := zif_f hc hF
    refine z_aload_n 0 dX12_newProcess_7 rfl rfl ?_
    refine z_getr fr_RX12_163 dX12_newProcess_8 ?_
    refine z_aload_n 0 dX12_newProcess_11 rfl rfl ?_
    refine z_dup dX12_newProcess_12 rfl ?_
    refine z_geti fi_RX12_539 dX12_newProcess_13 ?_
    refine z_iconst (v := 1) dX12_newProcess_16 (by decide) ?_
    refine z_isub dX12_newProcess_17 ?_
    refine z_dup_x1 dX12_newProcess_18 rfl rfl ?_
    refine z_puti fw_RX12_539 dX12_newProcess_19 (fun t4347 et4347 => ?_)
    have hF := zpt_at hF t4347 et4347
    obtain ⟨hi4349, hF⟩ := zrd_at hF
    refine z_iald (n := 2600) rfl hi4349 dX12_newProcess_22 ?_
    generalize t4347 47 (Int32.toNatClampNeg ((t 0 88) - 1)) = v4348 at hF ⊢
    refine z_goto (tgt := 37) dX12_newProcess_23 (by decide) ?_
    exact wbX12_newProcess_37 hf  x1 v4348 _ hF
-- SessionHouseModel.newChannel(I)I
theorem dX12_newChannel_0 : decode cX12_newChannel 0 = .ok (.aload_n 0, 1) := by decide +kernel
theorem dX12_newChannel_1 : decode cX12_newChannel 1 = .ok (.getfield 557, 3) := by decide +kernel
theorem dX12_newChannel_4 : decode cX12_newChannel 4 = .ok (.ifCond .le 22, 3) := by decide +kernel
theorem dX12_newChannel_7 : decode cX12_newChannel 7 = .ok (.aload_n 0, 1) := by decide +kernel
theorem dX12_newChannel_8 : decode cX12_newChannel 8 = .ok (.getfield 184, 3) := by decide +kernel
theorem dX12_newChannel_11 : decode cX12_newChannel 11 = .ok (.aload_n 0, 1) := by decide +kernel
theorem dX12_newChannel_12 : decode cX12_newChannel 12 = .ok (.dup, 1) := by decide +kernel
theorem dX12_newChannel_13 : decode cX12_newChannel 13 = .ok (.getfield 557, 3) := by decide +kernel
theorem dX12_newChannel_16 : decode cX12_newChannel 16 = .ok (.iconst 1, 1) := by decide +kernel
theorem dX12_newChannel_17 : decode cX12_newChannel 17 = .ok (.isub, 1) := by decide +kernel
theorem dX12_newChannel_18 : decode cX12_newChannel 18 = .ok (.dup_x1, 1) := by decide +kernel
theorem dX12_newChannel_19 : decode cX12_newChannel 19 = .ok (.putfield 557, 3) := by decide +kernel
theorem dX12_newChannel_22 : decode cX12_newChannel 22 = .ok (.iaload, 1) := by decide +kernel
theorem dX12_newChannel_23 : decode cX12_newChannel 23 = .ok (.goto 14, 3) := by decide +kernel
theorem dX12_newChannel_26 : decode cX12_newChannel 26 = .ok (.aload_n 0, 1) := by decide +kernel
theorem dX12_newChannel_27 : decode cX12_newChannel 27 = .ok (.dup, 1) := by decide +kernel
theorem dX12_newChannel_28 : decode cX12_newChannel 28 = .ok (.getfield 560, 3) := by decide +kernel
theorem dX12_newChannel_31 : decode cX12_newChannel 31 = .ok (.dup_x1, 1) := by decide +kernel
theorem dX12_newChannel_32 : decode cX12_newChannel 32 = .ok (.iconst 1, 1) := by decide +kernel
theorem dX12_newChannel_33 : decode cX12_newChannel 33 = .ok (.iadd, 1) := by decide +kernel
theorem dX12_newChannel_34 : decode cX12_newChannel 34 = .ok (.putfield 560, 3) := by decide +kernel
theorem dX12_newChannel_37 : decode cX12_newChannel 37 = .ok (.istore_n 2, 1) := by decide +kernel
theorem dX12_newChannel_38 : decode cX12_newChannel 38 = .ok (.aload_n 0, 1) := by decide +kernel
theorem dX12_newChannel_39 : decode cX12_newChannel 39 = .ok (.getfield 187, 3) := by decide +kernel
theorem dX12_newChannel_42 : decode cX12_newChannel 42 = .ok (.iconst 2, 1) := by decide +kernel
theorem dX12_newChannel_43 : decode cX12_newChannel 43 = .ok (.iload_n 2, 1) := by decide +kernel
theorem dX12_newChannel_44 : decode cX12_newChannel 44 = .ok (.imul, 1) := by decide +kernel
theorem dX12_newChannel_45 : decode cX12_newChannel 45 = .ok (.iload_n 1, 1) := by decide +kernel
theorem dX12_newChannel_46 : decode cX12_newChannel 46 = .ok (.iastore, 1) := by decide +kernel
theorem dX12_newChannel_47 : decode cX12_newChannel 47 = .ok (.aload_n 0, 1) := by decide +kernel
theorem dX12_newChannel_48 : decode cX12_newChannel 48 = .ok (.getfield 187, 3) := by decide +kernel
theorem dX12_newChannel_51 : decode cX12_newChannel 51 = .ok (.iconst 2, 1) := by decide +kernel
theorem dX12_newChannel_52 : decode cX12_newChannel 52 = .ok (.iload_n 2, 1) := by decide +kernel
theorem dX12_newChannel_53 : decode cX12_newChannel 53 = .ok (.imul, 1) := by decide +kernel
theorem dX12_newChannel_54 : decode cX12_newChannel 54 = .ok (.iconst 1, 1) := by decide +kernel
theorem dX12_newChannel_55 : decode cX12_newChannel 55 = .ok (.iadd, 1) := by decide +kernel
theorem dX12_newChannel_56 : decode cX12_newChannel 56 = .ok (.aload_n 0, 1) := by decide +kernel
theorem dX12_newChannel_57 : decode cX12_newChannel 57 = .ok (.iload_n 1, 1) := by decide +kernel
theorem dX12_newChannel_58 : decode cX12_newChannel 58 = .ok (.iconst 1, 1) := by decide +kernel
theorem dX12_newChannel_59 : decode cX12_newChannel 59 = .ok (.ixor, 1) := by decide +kernel
theorem dX12_newChannel_60 : decode cX12_newChannel 60 = .ok (.invokevirtual 432, 3) := by decide +kernel
theorem dX12_newChannel_63 : decode cX12_newChannel 63 = .ok (.iastore, 1) := by decide +kernel
theorem dX12_newChannel_64 : decode cX12_newChannel 64 = .ok (.aload_n 0, 1) := by decide +kernel
theorem dX12_newChannel_65 : decode cX12_newChannel 65 = .ok (.getfield 190, 3) := by decide +kernel
theorem dX12_newChannel_68 : decode cX12_newChannel 68 = .ok (.iconst 2, 1) := by decide +kernel
theorem dX12_newChannel_69 : decode cX12_newChannel 69 = .ok (.iload_n 2, 1) := by decide +kernel
theorem dX12_newChannel_70 : decode cX12_newChannel 70 = .ok (.imul, 1) := by decide +kernel
theorem dX12_newChannel_71 : decode cX12_newChannel 71 = .ok (.iconst 0, 1) := by decide +kernel
theorem dX12_newChannel_72 : decode cX12_newChannel 72 = .ok (.iastore, 1) := by decide +kernel
theorem dX12_newChannel_73 : decode cX12_newChannel 73 = .ok (.aload_n 0, 1) := by decide +kernel
theorem dX12_newChannel_74 : decode cX12_newChannel 74 = .ok (.getfield 190, 3) := by decide +kernel
theorem dX12_newChannel_77 : decode cX12_newChannel 77 = .ok (.iconst 2, 1) := by decide +kernel
theorem dX12_newChannel_78 : decode cX12_newChannel 78 = .ok (.iload_n 2, 1) := by decide +kernel
theorem dX12_newChannel_79 : decode cX12_newChannel 79 = .ok (.imul, 1) := by decide +kernel
theorem dX12_newChannel_80 : decode cX12_newChannel 80 = .ok (.iconst 1, 1) := by decide +kernel
theorem dX12_newChannel_81 : decode cX12_newChannel 81 = .ok (.iadd, 1) := by decide +kernel
theorem dX12_newChannel_82 : decode cX12_newChannel 82 = .ok (.iconst 0, 1) := by decide +kernel
theorem dX12_newChannel_83 : decode cX12_newChannel 83 = .ok (.iastore, 1) := by decide +kernel
theorem dX12_newChannel_84 : decode cX12_newChannel 84 = .ok (.aload_n 0, 1) := by decide +kernel
theorem dX12_newChannel_85 : decode cX12_newChannel 85 = .ok (.dup, 1) := by decide +kernel
theorem dX12_newChannel_86 : decode cX12_newChannel 86 = .ok (.getfield 563, 3) := by decide +kernel
theorem dX12_newChannel_89 : decode cX12_newChannel 89 = .ok (.iconst 1, 1) := by decide +kernel
theorem dX12_newChannel_90 : decode cX12_newChannel 90 = .ok (.iadd, 1) := by decide +kernel
theorem dX12_newChannel_91 : decode cX12_newChannel 91 = .ok (.putfield 563, 3) := by decide +kernel
theorem dX12_newChannel_94 : decode cX12_newChannel 94 = .ok (.aload_n 0, 1) := by decide +kernel
theorem dX12_newChannel_95 : decode cX12_newChannel 95 = .ok (.dup, 1) := by decide +kernel
theorem dX12_newChannel_96 : decode cX12_newChannel 96 = .ok (.getfield 551, 3) := by decide +kernel
theorem dX12_newChannel_99 : decode cX12_newChannel 99 = .ok (.aload_n 0, 1) := by decide +kernel
theorem dX12_newChannel_100 : decode cX12_newChannel 100 = .ok (.invokevirtual 566, 3) := by decide +kernel
theorem dX12_newChannel_103 : decode cX12_newChannel 103 = .ok (.iadd, 1) := by decide +kernel
theorem dX12_newChannel_104 : decode cX12_newChannel 104 = .ok (.putfield 551, 3) := by decide +kernel
theorem dX12_newChannel_107 : decode cX12_newChannel 107 = .ok (.iconst 2, 1) := by decide +kernel
theorem dX12_newChannel_108 : decode cX12_newChannel 108 = .ok (.iload_n 2, 1) := by decide +kernel
theorem dX12_newChannel_109 : decode cX12_newChannel 109 = .ok (.imul, 1) := by decide +kernel
theorem dX12_newChannel_110 : decode cX12_newChannel 110 = .ok (.ireturn, 1) := by decide +kernel
def bX12_newChannel_37 (x1 : Int32) (y0 : Int32) (t : zS) : zR := zwr t 55 3500 (2 * y0) x1 fun t4351 => zbd (mX12_plain (x1 ^^^ 1) t4351) fun r4352 t4353 => zwr t4353 55 3500 ((2 * y0) + 1) r4352 fun t4356 => zwr t4356 56 3500 (2 * y0) 0 fun t4358 => zwr t4358 56 3500 ((2 * y0) + 1) 0 fun t4360 => zpt t4360 0 100 ((t4360 0 100) + 1) fun t4361 => zbd (mX12_channelCells  t4361) fun r4362 t4363 => zpt t4363 0 80 ((t4361 0 80) + r4362) fun t4365 => some ((2 * y0), t4365)
def mX12_newChannel (x1 : Int32) (t : zS) : zR := if (t 0 98) ≤ 0 then zpt t 0 97 ((t 0 97) + 1) fun t4366 => bX12_newChannel_37  x1 (t 0 97) t4366 else zpt t 0 98 ((t 0 98) - 1) fun t4367 => zrd t4367 54 1750 ((t 0 98) - 1) fun v4368 => bX12_newChannel_37  x1 v4368 t4367
set_option maxHeartbeats 4000000 in
set_option maxRecDepth 20000 in
theorem wbX12_newChannel_37 {E : zE} {C : zC} {f : Nat} {ro : Int32 × zS} (hf : 2 ≤ f) (x1 : Int32) (y0 : Int32) (t : zS) (hF : bX12_newChannel_37  x1 y0 t = some ro) : zJ E shM C cX12_newChannel RX12 3 f (some .int) ro t 37 [(0, .ref (za E 0)), (1, .int x1)] [.int y0] := by
  unfold bX12_newChannel_37 at hF
  refine z_istore_n (lv' := [(2, .int y0), (0, .ref (za E 0)), (1, .int x1)]) dX12_newChannel_37 rfl (by decide) rfl ?_
  refine z_aload_n 1 dX12_newChannel_38 rfl rfl ?_
  refine z_getr fr_RX12_187 dX12_newChannel_39 ?_
  refine z_iconst (v := 2) dX12_newChannel_42 (by decide) ?_
  refine z_iload_n 0 dX12_newChannel_43 rfl rfl ?_
  refine z_imul dX12_newChannel_44 ?_
  refine z_iload_n 2 dX12_newChannel_45 rfl rfl ?_
  obtain ⟨hi4350, hF⟩ := zwr_at hF
  refine z_iast (n := 3500) rfl hi4350 dX12_newChannel_46 (fun t4351 et4351 => ?_)
  have hF := hF t4351 et4351
  refine z_aload_n 1 dX12_newChannel_47 rfl rfl ?_
  refine z_getr fr_RX12_187 dX12_newChannel_48 ?_
  refine z_iconst (v := 2) dX12_newChannel_51 (by decide) ?_
  refine z_iload_n 0 dX12_newChannel_52 rfl rfl ?_
  refine z_imul dX12_newChannel_53 ?_
  refine z_iconst (v := 1) dX12_newChannel_54 (by decide) ?_
  refine z_iadd dX12_newChannel_55 ?_
  refine z_aload_n 1 dX12_newChannel_56 rfl rfl ?_
  refine z_iload_n 2 dX12_newChannel_57 rfl rfl ?_
  refine z_iconst (v := 1) dX12_newChannel_58 (by decide) ?_
  refine z_ixor dX12_newChannel_59 ?_
  obtain ⟨r4352, t4353, hc4354, hF⟩ := zbd_at hF
  refine z_callVi (ctX12_plain (E := E) (f := f - 1) (by omega) hc4354) yy_X12_plain yv_X12_plain ob_M_0 lk_RX12_432 (by omega) rfl rfl (Nat.le_of_ble_eq_true rfl) dX12_newChannel_60 ?_
  obtain ⟨hi4355, hF⟩ := zwr_at hF
  refine z_iast (n := 3500) rfl hi4355 dX12_newChannel_63 (fun t4356 et4356 => ?_)
  have hF := hF t4356 et4356
  refine z_aload_n 1 dX12_newChannel_64 rfl rfl ?_
  refine z_getr fr_RX12_190 dX12_newChannel_65 ?_
  refine z_iconst (v := 2) dX12_newChannel_68 (by decide) ?_
  refine z_iload_n 0 dX12_newChannel_69 rfl rfl ?_
  refine z_imul dX12_newChannel_70 ?_
  refine z_iconst (v := 0) dX12_newChannel_71 (by decide) ?_
  obtain ⟨hi4357, hF⟩ := zwr_at hF
  refine z_iast (n := 3500) rfl hi4357 dX12_newChannel_72 (fun t4358 et4358 => ?_)
  have hF := hF t4358 et4358
  refine z_aload_n 1 dX12_newChannel_73 rfl rfl ?_
  refine z_getr fr_RX12_190 dX12_newChannel_74 ?_
  refine z_iconst (v := 2) dX12_newChannel_77 (by decide) ?_
  refine z_iload_n 0 dX12_newChannel_78 rfl rfl ?_
  refine z_imul dX12_newChannel_79 ?_
  refine z_iconst (v := 1) dX12_newChannel_80 (by decide) ?_
  refine z_iadd dX12_newChannel_81 ?_
  refine z_iconst (v := 0) dX12_newChannel_82 (by decide) ?_
  obtain ⟨hi4359, hF⟩ := zwr_at hF
  refine z_iast (n := 3500) rfl hi4359 dX12_newChannel_83 (fun t4360 et4360 => ?_)
  have hF := hF t4360 et4360
  refine z_aload_n 1 dX12_newChannel_84 rfl rfl ?_
  refine z_dup dX12_newChannel_85 rfl ?_
  refine z_geti fi_RX12_563 dX12_newChannel_86 ?_
  refine z_iconst (v := 1) dX12_newChannel_89 (by decide) ?_
  refine z_iadd dX12_newChannel_90 ?_
  refine z_puti fw_RX12_563 dX12_newChannel_91 (fun t4361 et4361 => ?_)
  have hF := zpt_at hF t4361 et4361
  refine z_aload_n 1 dX12_newChannel_94 rfl rfl ?_
  refine z_dup dX12_newChannel_95 rfl ?_
  refine z_geti fi_RX12_551 dX12_newChannel_96 ?_
  refine z_aload_n 1 dX12_newChannel_99 rfl rfl ?_
  obtain ⟨r4362, t4363, hc4364, hF⟩ := zbd_at hF
  refine z_callVi (ctX12_channelCells (E := E) (f := f - 1) (by omega) hc4364) yy_X12_channelCells yv_X12_channelCells ob_M_0 lk_RX12_566 (by omega) rfl rfl (Nat.le_of_ble_eq_true rfl) dX12_newChannel_100 ?_
  refine z_iadd dX12_newChannel_103 ?_
  refine z_puti fw_RX12_551 dX12_newChannel_104 (fun t4365 et4365 => ?_)
  have hF := zpt_at hF t4365 et4365
  refine z_iconst (v := 2) dX12_newChannel_107 (by decide) ?_
  refine z_iload_n 0 dX12_newChannel_108 rfl rfl ?_
  refine z_imul dX12_newChannel_109 ?_
  exact z_iret hF dX12_newChannel_110
set_option maxHeartbeats 4000000 in
set_option maxRecDepth 20000 in
theorem ctX12_newChannel {E : zE} {f : Nat} (hf : 2 ≤ f) {x1 : Int32} {t : zS} {ro : Int32 × zS} (hF : mX12_newChannel  x1 t = some ro) : zM E shM f yX12_newChannel cX12_newChannel 3 (some .int) [.ref (za E 0), .int x1] t ro := by
  refine zM_of (by decide) (Nat.le_of_ble_eq_true rfl) (fun C => ?_)
  show zJ E shM C cX12_newChannel RX12 3 f (some .int) ro t 0 [(0, .ref (za E 0)), (1, .int x1)] []
  unfold mX12_newChannel at hF
  refine z_aload_n 0 dX12_newChannel_0 rfl rfl ?_
  refine z_geti fi_RX12_557 dX12_newChannel_1 ?_
  refine z_if_le (tgt := 26) dX12_newChannel_4 (by decide) (fun hc => ?_) (fun hc => ?_)
  · have hF := zif_t hc hF
    refine z_aload_n 0 dX12_newChannel_26 rfl rfl ?_
    refine z_dup dX12_newChannel_27 rfl ?_
    refine z_geti fi_RX12_560 dX12_newChannel_28 ?_
    refine z_dup_x1 dX12_newChannel_31 rfl rfl ?_
    refine z_iconst (v := 1) dX12_newChannel_32 (by decide) ?_
    refine z_iadd dX12_newChannel_33 ?_
    refine z_puti fw_RX12_560 dX12_newChannel_34 (fun t4366 et4366 => ?_)
    have hF := zpt_at hF t4366 et4366
    exact wbX12_newChannel_37 hf  x1 (t 0 97) _ hF
  · have hF := zif_f hc hF
    refine z_aload_n 0 dX12_newChannel_7 rfl rfl ?_
    refine z_getr fr_RX12_184 dX12_newChannel_8 ?_
    refine z_aload_n 0 dX12_newChannel_11 rfl rfl ?_
    refine z_dup dX12_newChannel_12 rfl ?_
    refine z_geti fi_RX12_557 dX12_newChannel_13 ?_
    refine z_iconst (v := 1) dX12_newChannel_16 (by decide) ?_
    refine z_isub dX12_newChannel_17 ?_
    refine z_dup_x1 dX12_newChannel_18 rfl rfl ?_
    refine z_puti fw_RX12_557 dX12_newChannel_19 (fun t4367 et4367 => ?_)
    have hF := zpt_at hF t4367 et4367
    obtain ⟨hi4369, hF⟩ := zrd_at hF
    refine z_iald (n := 1750) rfl hi4369 dX12_newChannel_22 ?_
    generalize t4367 54 (Int32.toNatClampNeg ((t 0 98) - 1)) = v4368 at hF ⊢
    refine z_goto (tgt := 37) dX12_newChannel_23 (by decide) ?_
    exact wbX12_newChannel_37 hf  x1 v4368 _ hF
