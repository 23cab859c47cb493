-- SessionHouse$House.branch(II)Z
theorem dX4_branch_0 : decode cX4_branch 0 = .ok (.aload_n 0, 1) := by decide +kernel
theorem dX4_branch_1 : decode cX4_branch 1 = .ok (.iload_n 1, 1) := by decide +kernel
theorem dX4_branch_2 : decode cX4_branch 2 = .ok (.aload_n 0, 1) := by decide +kernel
theorem dX4_branch_3 : decode cX4_branch 3 = .ok (.getfield 48, 3) := by decide +kernel
theorem dX4_branch_6 : decode cX4_branch 6 = .ok (.getfield 213, 3) := by decide +kernel
theorem dX4_branch_9 : decode cX4_branch 9 = .ok (.iload_n 2, 1) := by decide +kernel
theorem dX4_branch_10 : decode cX4_branch 10 = .ok (.invokevirtual 99, 3) := by decide +kernel
theorem dX4_branch_13 : decode cX4_branch 13 = .ok (.aload_n 0, 1) := by decide +kernel
theorem dX4_branch_14 : decode cX4_branch 14 = .ok (.getfield 48, 3) := by decide +kernel
theorem dX4_branch_17 : decode cX4_branch 17 = .ok (.getfield 216, 3) := by decide +kernel
theorem dX4_branch_20 : decode cX4_branch 20 = .ok (.iload_n 2, 1) := by decide +kernel
theorem dX4_branch_21 : decode cX4_branch 21 = .ok (.invokevirtual 99, 3) := by decide +kernel
theorem dX4_branch_24 : decode cX4_branch 24 = .ok (.invokevirtual 219, 3) := by decide +kernel
theorem dX4_branch_27 : decode cX4_branch 27 = .ok (.ifCond .ne 5, 3) := by decide +kernel
theorem dX4_branch_30 : decode cX4_branch 30 = .ok (.iconst 0, 1) := by decide +kernel
theorem dX4_branch_31 : decode cX4_branch 31 = .ok (.ireturn, 1) := by decide +kernel
theorem dX4_branch_32 : decode cX4_branch 32 = .ok (.aload_n 0, 1) := by decide +kernel
theorem dX4_branch_33 : decode cX4_branch 33 = .ok (.getfield 48, 3) := by decide +kernel
theorem dX4_branch_36 : decode cX4_branch 36 = .ok (.getfield 246, 3) := by decide +kernel
theorem dX4_branch_39 : decode cX4_branch 39 = .ok (.iload_n 2, 1) := by decide +kernel
theorem dX4_branch_40 : decode cX4_branch 40 = .ok (.invokevirtual 99, 3) := by decide +kernel
theorem dX4_branch_43 : decode cX4_branch 43 = .ok (.istore_n 3, 1) := by decide +kernel
theorem dX4_branch_44 : decode cX4_branch 44 = .ok (.aload_n 0, 1) := by decide +kernel
theorem dX4_branch_45 : decode cX4_branch 45 = .ok (.getfield 44, 3) := by decide +kernel
theorem dX4_branch_48 : decode cX4_branch 48 = .ok (.getfield 222, 3) := by decide +kernel
theorem dX4_branch_51 : decode cX4_branch 51 = .ok (.ifCond .ne 15, 3) := by decide +kernel
theorem dX4_branch_54 : decode cX4_branch 54 = .ok (.aload_n 0, 1) := by decide +kernel
theorem dX4_branch_55 : decode cX4_branch 55 = .ok (.getfield 48, 3) := by decide +kernel
theorem dX4_branch_58 : decode cX4_branch 58 = .ok (.getfield 248, 3) := by decide +kernel
theorem dX4_branch_61 : decode cX4_branch 61 = .ok (.iload_n 3, 1) := by decide +kernel
theorem dX4_branch_62 : decode cX4_branch 62 = .ok (.invokevirtual 99, 3) := by decide +kernel
theorem dX4_branch_65 : decode cX4_branch 65 = .ok (.istore_n 3, 1) := by decide +kernel
theorem dX4_branch_66 : decode cX4_branch 66 = .ok (.aload_n 0, 1) := by decide +kernel
theorem dX4_branch_67 : decode cX4_branch 67 = .ok (.getfield 21, 3) := by decide +kernel
theorem dX4_branch_70 : decode cX4_branch 70 = .ok (.getfield 112, 3) := by decide +kernel
theorem dX4_branch_73 : decode cX4_branch 73 = .ok (.iload_n 1, 1) := by decide +kernel
theorem dX4_branch_74 : decode cX4_branch 74 = .ok (.aload_n 0, 1) := by decide +kernel
theorem dX4_branch_75 : decode cX4_branch 75 = .ok (.getfield 48, 3) := by decide +kernel
theorem dX4_branch_78 : decode cX4_branch 78 = .ok (.iload_n 2, 1) := by decide +kernel
theorem dX4_branch_79 : decode cX4_branch 79 = .ok (.iload_n 3, 1) := by decide +kernel
theorem dX4_branch_80 : decode cX4_branch 80 = .ok (.invokevirtual 243, 3) := by decide +kernel
theorem dX4_branch_83 : decode cX4_branch 83 = .ok (.invokevirtual 62, 3) := by decide +kernel
theorem dX4_branch_86 : decode cX4_branch 86 = .ok (.iconst 1, 1) := by decide +kernel
theorem dX4_branch_87 : decode cX4_branch 87 = .ok (.ireturn, 1) := by decide +kernel
def bX4_branch_66 (x1 : Int32) (x2 : Int32) (x3 : Int32) (t : zS) : zR := zbd (mX9_entry x2 x3 t) fun r2231 t2232 => zbd (mX5_set 128 2501 x1 r2231 t2232) fun r2234 t2235 => some (1, t2235)
def mX4_branch (x1 : Int32) (x2 : Int32) (t : zS) : zR := zbd (mX5_get 94 1000 x2 t) fun r2237 t2238 => zbd (mX5_get 96 1000 x2 t2238) fun r2240 t2241 => zbd (mX4_work x1 r2237 r2240 t2241) fun r2243 t2244 => if r2243 = 0 then some (0, t2244) else zbd (mX5_get 104 1000 x2 t2244) fun r2246 t2247 => if (t2247 51 8) = 0 then zbd (mX5_get 114 1600 r2246 t2247) fun r2249 t2250 => bX4_branch_66  x1 x2 r2249 t2250 else bX4_branch_66  x1 x2 r2246 t2247
set_option maxHeartbeats 4000000 in
set_option maxRecDepth 20000 in
theorem wbX4_branch_66 {E : zE} {C : zC} {f : Nat} {ro : Int32 × zS} (hf : 4 ≤ f) (x1 : Int32) (x2 : Int32) (x3 : Int32) (t : zS) (hF : bX4_branch_66  x1 x2 x3 t = some ro) : zJ E shC C cX4_branch RX4 4 f (some .boolean) ro t 66 [(0, .ref (za E 7)), (1, .int x1), (2, .int x2), (3, .int x3)] [] := by
  unfold bX4_branch_66 at hF
  refine z_aload_n 0 dX4_branch_66 rfl rfl ?_
  refine z_getr fr_RX4_21 dX4_branch_67 ?_
  refine z_getr fr_RX4_112 dX4_branch_70 ?_
  refine z_iload_n 1 dX4_branch_73 rfl rfl ?_
  refine z_aload_n 0 dX4_branch_74 rfl rfl ?_
  refine z_getr fr_RX4_48 dX4_branch_75 ?_
  refine z_iload_n 2 dX4_branch_78 rfl rfl ?_
  refine z_iload_n 3 dX4_branch_79 rfl rfl ?_
  obtain ⟨r2231, t2232, hc2233, hF⟩ := zbd_at hF
  refine z_callVi (ctX9_entry (E := E) (f := f - 1) (by omega) hc2233) yy_X9_entry yv_X9_entry ob_C_52 lk_RX4_243 (by omega) rfl rfl (Nat.le_of_ble_eq_true rfl) dX4_branch_80 ?_
  obtain ⟨r2234, t2235, hc2236, hF⟩ := zbd_at hF
  refine z_callVv (ctX5_set (E := E) (sh := shC) (f := f - 1) (by omega) (k := 128) (n := 2501) rfl rfl hc2236) yy_X5_set yv_X5_set ob_C_128 lk_RX4_62 (by omega) rfl rfl (Nat.le_of_ble_eq_true rfl) dX4_branch_83 ?_
  refine z_iconst (v := 1) dX4_branch_86 (by decide) ?_
  exact z_zret hF (by decide) dX4_branch_87
set_option maxHeartbeats 4000000 in
set_option maxRecDepth 20000 in
theorem ctX4_branch {E : zE} {f : Nat} (hf : 4 ≤ f) {x1 : Int32} {x2 : Int32} {t : zS} {ro : Int32 × zS} (hF : mX4_branch  x1 x2 t = some ro) : zM E shC f yX4_branch cX4_branch 4 (some .boolean) [.ref (za E 7), .int x1, .int x2] t ro := by
  refine zM_of (by decide) (Nat.le_of_ble_eq_true rfl) (fun C => ?_)
  show zJ E shC C cX4_branch RX4 4 f (some .boolean) ro t 0 [(0, .ref (za E 7)), (1, .int x1), (2, .int x2)] []
  unfold mX4_branch at hF
  refine z_aload_n 0 dX4_branch_0 rfl rfl ?_
  refine z_iload_n 1 dX4_branch_1 rfl rfl ?_
  refine z_aload_n 0 dX4_branch_2 rfl rfl ?_
  refine z_getr fr_RX4_48 dX4_branch_3 ?_
  refine z_getr fr_RX4_213 dX4_branch_6 ?_
  refine z_iload_n 2 dX4_branch_9 rfl rfl ?_
  obtain ⟨r2237, t2238, hc2239, hF⟩ := zbd_at hF
  refine z_callVi (ctX5_get (E := E) (sh := shC) (f := f - 1) (by omega) (k := 94) (n := 1000) rfl rfl hc2239) yy_X5_get yv_X5_get ob_C_94 lk_RX4_99 (by omega) rfl rfl (Nat.le_of_ble_eq_true rfl) dX4_branch_10 ?_
  refine z_aload_n 0 dX4_branch_13 rfl rfl ?_
  refine z_getr fr_RX4_48 dX4_branch_14 ?_
  refine z_getr fr_RX4_216 dX4_branch_17 ?_
  refine z_iload_n 2 dX4_branch_20 rfl rfl ?_
  obtain ⟨r2240, t2241, hc2242, hF⟩ := zbd_at hF
  refine z_callVi (ctX5_get (E := E) (sh := shC) (f := f - 1) (by omega) (k := 96) (n := 1000) rfl rfl hc2242) yy_X5_get yv_X5_get ob_C_96 lk_RX4_99 (by omega) rfl rfl (Nat.le_of_ble_eq_true rfl) dX4_branch_21 ?_
  obtain ⟨r2243, t2244, hc2245, hF⟩ := zbd_at hF
  refine z_callVi (ctX4_work (E := E) (f := f - 1) (by omega) hc2245) yy_X4_work yv_X4_work ob_C_7 lk_RX4_219 (by omega) rfl rfl (Nat.le_of_ble_eq_true rfl) dX4_branch_24 ?_
  refine z_if_ne (tgt := 32) dX4_branch_27 (by decide) (fun hc => ?_) (fun hc => ?_)
  · have hF := zif_f hc hF
    refine z_aload_n 0 dX4_branch_32 rfl rfl ?_
    refine z_getr fr_RX4_48 dX4_branch_33 ?_
    refine z_getr fr_RX4_246 dX4_branch_36 ?_
    refine z_iload_n 2 dX4_branch_39 rfl rfl ?_
    obtain ⟨r2246, t2247, hc2248, hF⟩ := zbd_at hF
    refine z_callVi (ctX5_get (E := E) (sh := shC) (f := f - 1) (by omega) (k := 104) (n := 1000) rfl rfl hc2248) yy_X5_get yv_X5_get ob_C_104 lk_RX4_99 (by omega) rfl rfl (Nat.le_of_ble_eq_true rfl) dX4_branch_40 ?_
    refine z_istore_n (lv' := [(3, .int r2246), (0, .ref (za E 7)), (1, .int x1), (2, .int x2)]) dX4_branch_43 rfl (by decide) rfl ?_
    refine z_aload_n 1 dX4_branch_44 rfl rfl ?_
    refine z_getr fr_RX4_44 dX4_branch_45 ?_
    refine z_geti fi_RX4_222 dX4_branch_48 ?_
    refine z_if_ne (tgt := 66) dX4_branch_51 (by decide) (fun hc => ?_) (fun hc => ?_)
    · have hF := zif_f hc hF
      refine z_sub [1, 2, 3, 0] rfl ?_
      exact wbX4_branch_66 hf  x1 x2 r2246 _ hF
    · have hF := zif_t hc hF
      refine z_aload_n 1 dX4_branch_54 rfl rfl ?_
      refine z_getr fr_RX4_48 dX4_branch_55 ?_
      refine z_getr fr_RX4_248 dX4_branch_58 ?_
      refine z_iload_n 0 dX4_branch_61 rfl rfl ?_
      obtain ⟨r2249, t2250, hc2251, hF⟩ := zbd_at hF
      refine z_callVi (ctX5_get (E := E) (sh := shC) (f := f - 1) (by omega) (k := 114) (n := 1600) rfl rfl hc2251) yy_X5_get yv_X5_get ob_C_114 lk_RX4_99 (by omega) rfl rfl (Nat.le_of_ble_eq_true rfl) dX4_branch_62 ?_
      refine z_istore_n (lv' := [(3, .int r2249), (0, .ref (za E 7)), (1, .int x1), (2, .int x2)]) dX4_branch_65 rfl (by decide) rfl ?_
      refine z_sub [1, 2, 3, 0] rfl ?_
      exact wbX4_branch_66 hf  x1 x2 r2249 _ hF
  · have hF := zif_t hc hF
    refine z_iconst (v := 0) dX4_branch_30 (by decide) ?_
    exact z_zret hF (by decide) dX4_branch_31
-- SessionHouse$House.show(II)Z
theorem dX4_show_0 : decode cX4_show 0 = .ok (.aload_n 0, 1) := by decide +kernel
theorem dX4_show_1 : decode cX4_show 1 = .ok (.iload_n 1, 1) := by decide +kernel
theorem dX4_show_2 : decode cX4_show 2 = .ok (.aload_n 0, 1) := by decide +kernel
theorem dX4_show_3 : decode cX4_show 3 = .ok (.getfield 48, 3) := by decide +kernel
theorem dX4_show_6 : decode cX4_show 6 = .ok (.getfield 213, 3) := by decide +kernel
theorem dX4_show_9 : decode cX4_show 9 = .ok (.iload_n 2, 1) := by decide +kernel
theorem dX4_show_10 : decode cX4_show 10 = .ok (.invokevirtual 99, 3) := by decide +kernel
theorem dX4_show_13 : decode cX4_show 13 = .ok (.aload_n 0, 1) := by decide +kernel
theorem dX4_show_14 : decode cX4_show 14 = .ok (.getfield 48, 3) := by decide +kernel
theorem dX4_show_17 : decode cX4_show 17 = .ok (.getfield 216, 3) := by decide +kernel
theorem dX4_show_20 : decode cX4_show 20 = .ok (.iload_n 2, 1) := by decide +kernel
theorem dX4_show_21 : decode cX4_show 21 = .ok (.invokevirtual 99, 3) := by decide +kernel
theorem dX4_show_24 : decode cX4_show 24 = .ok (.invokevirtual 219, 3) := by decide +kernel
theorem dX4_show_27 : decode cX4_show 27 = .ok (.ifCond .ne 5, 3) := by decide +kernel
theorem dX4_show_30 : decode cX4_show 30 = .ok (.iconst 0, 1) := by decide +kernel
theorem dX4_show_31 : decode cX4_show 31 = .ok (.ireturn, 1) := by decide +kernel
theorem dX4_show_32 : decode cX4_show 32 = .ok (.aload_n 0, 1) := by decide +kernel
theorem dX4_show_33 : decode cX4_show 33 = .ok (.getfield 37, 3) := by decide +kernel
theorem dX4_show_36 : decode cX4_show 36 = .ok (.aload_n 0, 1) := by decide +kernel
theorem dX4_show_37 : decode cX4_show 37 = .ok (.getfield 66, 3) := by decide +kernel
theorem dX4_show_40 : decode cX4_show 40 = .ok (.aload_n 0, 1) := by decide +kernel
theorem dX4_show_41 : decode cX4_show 41 = .ok (.getfield 44, 3) := by decide +kernel
theorem dX4_show_44 : decode cX4_show 44 = .ok (.getfield 222, 3) := by decide +kernel
theorem dX4_show_47 : decode cX4_show 47 = .ok (.invokevirtual 62, 3) := by decide +kernel
theorem dX4_show_50 : decode cX4_show 50 = .ok (.aload_n 0, 1) := by decide +kernel
theorem dX4_show_51 : decode cX4_show 51 = .ok (.dup, 1) := by decide +kernel
theorem dX4_show_52 : decode cX4_show 52 = .ok (.getfield 66, 3) := by decide +kernel
theorem dX4_show_55 : decode cX4_show 55 = .ok (.iconst 1, 1) := by decide +kernel
theorem dX4_show_56 : decode cX4_show 56 = .ok (.iadd, 1) := by decide +kernel
theorem dX4_show_57 : decode cX4_show 57 = .ok (.putfield 66, 3) := by decide +kernel
theorem dX4_show_60 : decode cX4_show 60 = .ok (.aload_n 0, 1) := by decide +kernel
theorem dX4_show_61 : decode cX4_show 61 = .ok (.iload_n 1, 1) := by decide +kernel
theorem dX4_show_62 : decode cX4_show 62 = .ok (.iload_n 2, 1) := by decide +kernel
theorem dX4_show_63 : decode cX4_show 63 = .ok (.invokevirtual 225, 3) := by decide +kernel
theorem dX4_show_66 : decode cX4_show 66 = .ok (.ireturn, 1) := by decide +kernel
def mX4_show (x1 : Int32) (x2 : Int32) (t : zS) : zR := zbd (mX5_get 94 1000 x2 t) fun r2252 t2253 => zbd (mX5_get 96 1000 x2 t2253) fun r2255 t2256 => zbd (mX4_work x1 r2252 r2255 t2256) fun r2258 t2259 => if r2258 = 0 then some (0, t2259) else zbd (mX5_set 65 500 (t2259 7 10) (t2259 51 8) t2259) fun r2261 t2262 => zpt t2262 7 10 ((t2262 7 10) + 1) fun t2264 => zbd (mX4_goOn x1 x2 t2264) fun r2265 t2266 => z01 r2265 (some (r2265, t2266))
set_option maxHeartbeats 4000000 in
set_option maxRecDepth 20000 in
theorem ctX4_show {E : zE} {f : Nat} (hf : 5 ≤ f) {x1 : Int32} {x2 : Int32} {t : zS} {ro : Int32 × zS} (hF : mX4_show  x1 x2 t = some ro) : zM E shC f yX4_show cX4_show 3 (some .boolean) [.ref (za E 7), .int x1, .int x2] t ro := by
  refine zM_of (by decide) (Nat.le_of_ble_eq_true rfl) (fun C => ?_)
  show zJ E shC C cX4_show RX4 3 f (some .boolean) ro t 0 [(0, .ref (za E 7)), (1, .int x1), (2, .int x2)] []
  unfold mX4_show at hF
  refine z_aload_n 0 dX4_show_0 rfl rfl ?_
  refine z_iload_n 1 dX4_show_1 rfl rfl ?_
  refine z_aload_n 0 dX4_show_2 rfl rfl ?_
  refine z_getr fr_RX4_48 dX4_show_3 ?_
  refine z_getr fr_RX4_213 dX4_show_6 ?_
  refine z_iload_n 2 dX4_show_9 rfl rfl ?_
  obtain ⟨r2252, t2253, hc2254, hF⟩ := zbd_at hF
  refine z_callVi (ctX5_get (E := E) (sh := shC) (f := f - 1) (by omega) (k := 94) (n := 1000) rfl rfl hc2254) yy_X5_get yv_X5_get ob_C_94 lk_RX4_99 (by omega) rfl rfl (Nat.le_of_ble_eq_true rfl) dX4_show_10 ?_
  refine z_aload_n 0 dX4_show_13 rfl rfl ?_
  refine z_getr fr_RX4_48 dX4_show_14 ?_
  refine z_getr fr_RX4_216 dX4_show_17 ?_
  refine z_iload_n 2 dX4_show_20 rfl rfl ?_
  obtain ⟨r2255, t2256, hc2257, hF⟩ := zbd_at hF
  refine z_callVi (ctX5_get (E := E) (sh := shC) (f := f - 1) (by omega) (k := 96) (n := 1000) rfl rfl hc2257) yy_X5_get yv_X5_get ob_C_96 lk_RX4_99 (by omega) rfl rfl (Nat.le_of_ble_eq_true rfl) dX4_show_21 ?_
  obtain ⟨r2258, t2259, hc2260, hF⟩ := zbd_at hF
  refine z_callVi (ctX4_work (E := E) (f := f - 1) (by omega) hc2260) yy_X4_work yv_X4_work ob_C_7 lk_RX4_219 (by omega) rfl rfl (Nat.le_of_ble_eq_true rfl) dX4_show_24 ?_
  refine z_if_ne (tgt := 32) dX4_show_27 (by decide) (fun hc => ?_) (fun hc => ?_)
  · have hF := zif_f hc hF
    refine z_aload_n 0 dX4_show_32 rfl rfl ?_
    refine z_getr fr_RX4_37 dX4_show_33 ?_
    refine z_aload_n 0 dX4_show_36 rfl rfl ?_
    refine z_geti fi_RX4_66 dX4_show_37 ?_
    refine z_aload_n 0 dX4_show_40 rfl rfl ?_
    refine z_getr fr_RX4_44 dX4_show_41 ?_
    refine z_geti fi_RX4_222 dX4_show_44 ?_
    obtain ⟨r2261, t2262, hc2263, hF⟩ := zbd_at hF
    refine z_callVv (ctX5_set (E := E) (sh := shC) (f := f - 1) (by omega) (k := 65) (n := 500) rfl rfl hc2263) yy_X5_set yv_X5_set ob_C_65 lk_RX4_62 (by omega) rfl rfl (Nat.le_of_ble_eq_true rfl) dX4_show_47 ?_
    refine z_aload_n 0 dX4_show_50 rfl rfl ?_
    refine z_dup dX4_show_51 rfl ?_
    refine z_geti fi_RX4_66 dX4_show_52 ?_
    refine z_iconst (v := 1) dX4_show_55 (by decide) ?_
    refine z_iadd dX4_show_56 ?_
    refine z_puti fw_RX4_66 dX4_show_57 (fun t2264 et2264 => ?_)
    have hF := zpt_at hF t2264 et2264
    refine z_aload_n 0 dX4_show_60 rfl rfl ?_
    refine z_iload_n 1 dX4_show_61 rfl rfl ?_
    refine z_iload_n 2 dX4_show_62 rfl rfl ?_
    obtain ⟨r2265, t2266, hc2267, hF⟩ := zbd_at hF
    refine z_callVi (ctX4_goOn (E := E) (f := f - 1) (by omega) hc2267) yy_X4_goOn yv_X4_goOn ob_C_7 lk_RX4_225 (by omega) rfl rfl (Nat.le_of_ble_eq_true rfl) dX4_show_63 ?_
    obtain ⟨hz2268, hF⟩ := z01_at hF
    exact z_zret hF hz2268 dX4_show_66
  · have hF := zif_t hc hF
    refine z_iconst (v := 0) dX4_show_30 (by decide) ?_
    exact z_zret hF (by decide) dX4_show_31
-- SessionHouse$House.fetch(II)Z
theorem dX4_fetch_0 : decode cX4_fetch 0 = .ok (.aload_n 0, 1) := by decide +kernel
theorem dX4_fetch_1 : decode cX4_fetch 1 = .ok (.getfield 59, 3) := by decide +kernel
theorem dX4_fetch_4 : decode cX4_fetch 4 = .ok (.ifCond .ne 10, 3) := by decide +kernel
theorem dX4_fetch_7 : decode cX4_fetch 7 = .ok (.aload_n 0, 1) := by decide +kernel
theorem dX4_fetch_8 : decode cX4_fetch 8 = .ok (.iconst 2, 1) := by decide +kernel
theorem dX4_fetch_9 : decode cX4_fetch 9 = .ok (.putfield 40, 3) := by decide +kernel
theorem dX4_fetch_12 : decode cX4_fetch 12 = .ok (.iconst 0, 1) := by decide +kernel
theorem dX4_fetch_13 : decode cX4_fetch 13 = .ok (.ireturn, 1) := by decide +kernel
theorem dX4_fetch_14 : decode cX4_fetch 14 = .ok (.aload_n 0, 1) := by decide +kernel
theorem dX4_fetch_15 : decode cX4_fetch 15 = .ok (.getfield 21, 3) := by decide +kernel
theorem dX4_fetch_18 : decode cX4_fetch 18 = .ok (.iload_n 1, 1) := by decide +kernel
theorem dX4_fetch_19 : decode cX4_fetch 19 = .ok (.aload_n 0, 1) := by decide +kernel
theorem dX4_fetch_20 : decode cX4_fetch 20 = .ok (.getfield 48, 3) := by decide +kernel
theorem dX4_fetch_23 : decode cX4_fetch 23 = .ok (.getfield 180, 3) := by decide +kernel
theorem dX4_fetch_26 : decode cX4_fetch 26 = .ok (.iload_n 2, 1) := by decide +kernel
theorem dX4_fetch_27 : decode cX4_fetch 27 = .ok (.invokevirtual 99, 3) := by decide +kernel
theorem dX4_fetch_30 : decode cX4_fetch 30 = .ok (.aload_n 0, 1) := by decide +kernel
theorem dX4_fetch_31 : decode cX4_fetch 31 = .ok (.getfield 34, 3) := by decide +kernel
theorem dX4_fetch_34 : decode cX4_fetch 34 = .ok (.aload_n 0, 1) := by decide +kernel
theorem dX4_fetch_35 : decode cX4_fetch 35 = .ok (.getfield 56, 3) := by decide +kernel
theorem dX4_fetch_38 : decode cX4_fetch 38 = .ok (.invokevirtual 99, 3) := by decide +kernel
theorem dX4_fetch_41 : decode cX4_fetch 41 = .ok (.invokevirtual 234, 3) := by decide +kernel
theorem dX4_fetch_44 : decode cX4_fetch 44 = .ok (.aload_n 0, 1) := by decide +kernel
theorem dX4_fetch_45 : decode cX4_fetch 45 = .ok (.aload_n 0, 1) := by decide +kernel
theorem dX4_fetch_46 : decode cX4_fetch 46 = .ok (.getfield 56, 3) := by decide +kernel
theorem dX4_fetch_49 : decode cX4_fetch 49 = .ok (.iconst 1, 1) := by decide +kernel
theorem dX4_fetch_50 : decode cX4_fetch 50 = .ok (.iadd, 1) := by decide +kernel
theorem dX4_fetch_51 : decode cX4_fetch 51 = .ok (.sipush 300, 3) := by decide +kernel
theorem dX4_fetch_54 : decode cX4_fetch 54 = .ok (.if_icmp .lt 7, 3) := by decide +kernel
theorem dX4_fetch_57 : decode cX4_fetch 57 = .ok (.iconst 0, 1) := by decide +kernel
theorem dX4_fetch_58 : decode cX4_fetch 58 = .ok (.goto 9, 3) := by decide +kernel
theorem dX4_fetch_61 : decode cX4_fetch 61 = .ok (.aload_n 0, 1) := by decide +kernel
theorem dX4_fetch_62 : decode cX4_fetch 62 = .ok (.getfield 56, 3) := by decide +kernel
theorem dX4_fetch_65 : decode cX4_fetch 65 = .ok (.iconst 1, 1) := by decide +kernel
theorem dX4_fetch_66 : decode cX4_fetch 66 = .ok (.iadd, 1) := by decide +kernel
theorem dX4_fetch_67 : decode cX4_fetch 67 = .ok (.putfield 56, 3) := by decide +kernel
theorem dX4_fetch_70 : decode cX4_fetch 70 = .ok (.aload_n 0, 1) := by decide +kernel
theorem dX4_fetch_71 : decode cX4_fetch 71 = .ok (.dup, 1) := by decide +kernel
theorem dX4_fetch_72 : decode cX4_fetch 72 = .ok (.getfield 59, 3) := by decide +kernel
theorem dX4_fetch_75 : decode cX4_fetch 75 = .ok (.iconst 1, 1) := by decide +kernel
theorem dX4_fetch_76 : decode cX4_fetch 76 = .ok (.isub, 1) := by decide +kernel
theorem dX4_fetch_77 : decode cX4_fetch 77 = .ok (.putfield 59, 3) := by decide +kernel
theorem dX4_fetch_80 : decode cX4_fetch 80 = .ok (.aload_n 0, 1) := by decide +kernel
theorem dX4_fetch_81 : decode cX4_fetch 81 = .ok (.iload_n 1, 1) := by decide +kernel
theorem dX4_fetch_82 : decode cX4_fetch 82 = .ok (.iload_n 2, 1) := by decide +kernel
theorem dX4_fetch_83 : decode cX4_fetch 83 = .ok (.invokevirtual 225, 3) := by decide +kernel
theorem dX4_fetch_86 : decode cX4_fetch 86 = .ok (.ireturn, 1) := by decide +kernel
def bX4_fetch_67 (x1 : Int32) (x2 : Int32) (y0 : Int32) (t : zS) : zR := zpt t 7 8 y0 fun t2269 => zpt t2269 7 9 ((t2269 7 9) - 1) fun t2270 => zbd (mX4_goOn x1 x2 t2270) fun r2271 t2272 => z01 r2271 (some (r2271, t2272))
def mX4_fetch (x1 : Int32) (x2 : Int32) (t : zS) : zR := if (t 7 9) = 0 then zpt t 7 16 2 fun t2284 => some (0, t2284) else zbd (mX5_get 90 1000 x2 t) fun r2275 t2276 => zbd (mX5_get 63 300 (t2276 7 8) t2276) fun r2278 t2279 => zbd (mX8_setNumber x1 r2275 r2278 t2279) fun r2281 t2282 => if ((t2282 7 8) + 1) < 300 then bX4_fetch_67  x1 x2 ((t2282 7 8) + 1) t2282 else bX4_fetch_67  x1 x2 0 t2282
set_option maxHeartbeats 4000000 in
set_option maxRecDepth 20000 in
theorem wbX4_fetch_67 {E : zE} {C : zC} {f : Nat} {ro : Int32 × zS} (hf : 5 ≤ f) (x1 : Int32) (x2 : Int32) (y0 : Int32) (t : zS) (hF : bX4_fetch_67  x1 x2 y0 t = some ro) : zJ E shC C cX4_fetch RX4 3 f (some .boolean) ro t 67 [(0, .ref (za E 7)), (1, .int x1), (2, .int x2)] [.int y0, .ref (za E 7)] := by
  unfold bX4_fetch_67 at hF
  refine z_puti fw_RX4_56 dX4_fetch_67 (fun t2269 et2269 => ?_)
  have hF := zpt_at hF t2269 et2269
  refine z_aload_n 0 dX4_fetch_70 rfl rfl ?_
  refine z_dup dX4_fetch_71 rfl ?_
  refine z_geti fi_RX4_59 dX4_fetch_72 ?_
  refine z_iconst (v := 1) dX4_fetch_75 (by decide) ?_
  refine z_isub dX4_fetch_76 ?_
  refine z_puti fw_RX4_59 dX4_fetch_77 (fun t2270 et2270 => ?_)
  have hF := zpt_at hF t2270 et2270
  refine z_aload_n 0 dX4_fetch_80 rfl rfl ?_
  refine z_iload_n 1 dX4_fetch_81 rfl rfl ?_
  refine z_iload_n 2 dX4_fetch_82 rfl rfl ?_
  obtain ⟨r2271, t2272, hc2273, hF⟩ := zbd_at hF
  refine z_callVi (ctX4_goOn (E := E) (f := f - 1) (by omega) hc2273) yy_X4_goOn yv_X4_goOn ob_C_7 lk_RX4_225 (by omega) rfl rfl (Nat.le_of_ble_eq_true rfl) dX4_fetch_83 ?_
  obtain ⟨hz2274, hF⟩ := z01_at hF
  exact z_zret hF hz2274 dX4_fetch_86
set_option maxHeartbeats 4000000 in
set_option maxRecDepth 20000 in
theorem ctX4_fetch {E : zE} {f : Nat} (hf : 5 ≤ f) {x1 : Int32} {x2 : Int32} {t : zS} {ro : Int32 × zS} (hF : mX4_fetch  x1 x2 t = some ro) : zM E shC f yX4_fetch cX4_fetch 3 (some .boolean) [.ref (za E 7), .int x1, .int x2] t ro := by
  refine zM_of (by decide) (Nat.le_of_ble_eq_true rfl) (fun C => ?_)
  show zJ E shC C cX4_fetch RX4 3 f (some .boolean) ro t 0 [(0, .ref (za E 7)), (1, .int x1), (2, .int x2)] []
  unfold mX4_fetch at hF
  refine z_aload_n 0 dX4_fetch_0 rfl rfl ?_
  refine z_geti fi_RX4_59 dX4_fetch_1 ?_
  refine z_if_ne (tgt := 14) dX4_fetch_4 (by decide) (fun hc => ?_) (fun hc => ?_)
  · have hF := zif_f hc hF
    refine z_aload_n 0 dX4_fetch_14 rfl rfl ?_
    refine z_getr fr_RX4_21 dX4_fetch_15 ?_
    refine z_iload_n 1 dX4_fetch_18 rfl rfl ?_
    refine z_aload_n 0 dX4_fetch_19 rfl rfl ?_
    refine z_getr fr_RX4_48 dX4_fetch_20 ?_
    refine z_getr fr_RX4_180 dX4_fetch_23 ?_
    refine z_iload_n 2 dX4_fetch_26 rfl rfl ?_
    obtain ⟨r2275, t2276, hc2277, hF⟩ := zbd_at hF
    refine z_callVi (ctX5_get (E := E) (sh := shC) (f := f - 1) (by omega) (k := 90) (n := 1000) rfl rfl hc2277) yy_X5_get yv_X5_get ob_C_90 lk_RX4_99 (by omega) rfl rfl (Nat.le_of_ble_eq_true rfl) dX4_fetch_27 ?_
    refine z_aload_n 0 dX4_fetch_30 rfl rfl ?_
    refine z_getr fr_RX4_34 dX4_fetch_31 ?_
    refine z_aload_n 0 dX4_fetch_34 rfl rfl ?_
    refine z_geti fi_RX4_56 dX4_fetch_35 ?_
    obtain ⟨r2278, t2279, hc2280, hF⟩ := zbd_at hF
    refine z_callVi (ctX5_get (E := E) (sh := shC) (f := f - 1) (by omega) (k := 63) (n := 300) rfl rfl hc2280) yy_X5_get yv_X5_get ob_C_63 lk_RX4_99 (by omega) rfl rfl (Nat.le_of_ble_eq_true rfl) dX4_fetch_38 ?_
    obtain ⟨r2281, t2282, hc2283, hF⟩ := zbd_at hF
    refine z_callVv (ctX8_setNumber (E := E) (f := f - 1) (by omega) hc2283) yy_X8_setNumber yv_X8_setNumber ob_C_60 lk_RX4_234 (by omega) rfl rfl (Nat.le_of_ble_eq_true rfl) dX4_fetch_41 ?_
    refine z_aload_n 0 dX4_fetch_44 rfl rfl ?_
    refine z_aload_n 0 dX4_fetch_45 rfl rfl ?_
    refine z_geti fi_RX4_56 dX4_fetch_46 ?_
    refine z_iconst (v := 1) dX4_fetch_49 (by decide) ?_
    refine z_iadd dX4_fetch_50 ?_
    refine z_sipush (v := 300) dX4_fetch_51 (by decide) ?_
    refine z_icmp_lt (tgt := 61) dX4_fetch_54 (by decide) (fun hc => ?_) (fun hc => ?_)
    · have hF := zif_t hc hF
      refine z_aload_n 0 dX4_fetch_61 rfl rfl ?_
      refine z_geti fi_RX4_56 dX4_fetch_62 ?_
      refine z_iconst (v := 1) dX4_fetch_65 (by decide) ?_
      refine z_iadd dX4_fetch_66 ?_
      exact wbX4_fetch_67 hf  x1 x2 ((t2282 7 8) + 1) _ hF
    · have hF := zif_f hc hF
      refine z_iconst (v := 0) dX4_fetch_57 (by decide) ?_
      refine z_goto (tgt := 67) dX4_fetch_58 (by decide) ?_
      exact wbX4_fetch_67 hf  x1 x2 0 _ hF
  · have hF := zif_t hc hF
    refine z_aload_n 0 dX4_fetch_7 rfl rfl ?_
    refine z_iconst (v := 2) dX4_fetch_8 (by decide) ?_
    refine z_puti fw_RX4_40 dX4_fetch_9 (fun t2284 et2284 => ?_)
    have hF := zpt_at hF t2284 et2284
    refine z_iconst (v := 0) dX4_fetch_12 (by decide) ?_
    exact z_zret hF (by decide) dX4_fetch_13
-- SessionHouse$House.assign(II)Z
theorem dX4_assign_0 : decode cX4_assign 0 = .ok (.aload_n 0, 1) := by decide +kernel
theorem dX4_assign_1 : decode cX4_assign 1 = .ok (.iload_n 1, 1) := by decide +kernel
theorem dX4_assign_2 : decode cX4_assign 2 = .ok (.aload_n 0, 1) := by decide +kernel
theorem dX4_assign_3 : decode cX4_assign 3 = .ok (.getfield 48, 3) := by decide +kernel
theorem dX4_assign_6 : decode cX4_assign 6 = .ok (.getfield 213, 3) := by decide +kernel
theorem dX4_assign_9 : decode cX4_assign 9 = .ok (.iload_n 2, 1) := by decide +kernel
theorem dX4_assign_10 : decode cX4_assign 10 = .ok (.invokevirtual 99, 3) := by decide +kernel
theorem dX4_assign_13 : decode cX4_assign 13 = .ok (.aload_n 0, 1) := by decide +kernel
theorem dX4_assign_14 : decode cX4_assign 14 = .ok (.getfield 48, 3) := by decide +kernel
theorem dX4_assign_17 : decode cX4_assign 17 = .ok (.getfield 216, 3) := by decide +kernel
theorem dX4_assign_20 : decode cX4_assign 20 = .ok (.iload_n 2, 1) := by decide +kernel
theorem dX4_assign_21 : decode cX4_assign 21 = .ok (.invokevirtual 99, 3) := by decide +kernel
theorem dX4_assign_24 : decode cX4_assign 24 = .ok (.invokevirtual 219, 3) := by decide +kernel
theorem dX4_assign_27 : decode cX4_assign 27 = .ok (.ifCond .ne 5, 3) := by decide +kernel
theorem dX4_assign_30 : decode cX4_assign 30 = .ok (.iconst 0, 1) := by decide +kernel
theorem dX4_assign_31 : decode cX4_assign 31 = .ok (.ireturn, 1) := by decide +kernel
theorem dX4_assign_32 : decode cX4_assign 32 = .ok (.aload_n 0, 1) := by decide +kernel
theorem dX4_assign_33 : decode cX4_assign 33 = .ok (.getfield 21, 3) := by decide +kernel
theorem dX4_assign_36 : decode cX4_assign 36 = .ok (.iload_n 1, 1) := by decide +kernel
theorem dX4_assign_37 : decode cX4_assign 37 = .ok (.aload_n 0, 1) := by decide +kernel
theorem dX4_assign_38 : decode cX4_assign 38 = .ok (.getfield 48, 3) := by decide +kernel
theorem dX4_assign_41 : decode cX4_assign 41 = .ok (.getfield 180, 3) := by decide +kernel
theorem dX4_assign_44 : decode cX4_assign 44 = .ok (.iload_n 2, 1) := by decide +kernel
theorem dX4_assign_45 : decode cX4_assign 45 = .ok (.invokevirtual 99, 3) := by decide +kernel
theorem dX4_assign_48 : decode cX4_assign 48 = .ok (.aload_n 0, 1) := by decide +kernel
theorem dX4_assign_49 : decode cX4_assign 49 = .ok (.getfield 44, 3) := by decide +kernel
theorem dX4_assign_52 : decode cX4_assign 52 = .ok (.getfield 222, 3) := by decide +kernel
theorem dX4_assign_55 : decode cX4_assign 55 = .ok (.invokevirtual 234, 3) := by decide +kernel
theorem dX4_assign_58 : decode cX4_assign 58 = .ok (.aload_n 0, 1) := by decide +kernel
theorem dX4_assign_59 : decode cX4_assign 59 = .ok (.iload_n 1, 1) := by decide +kernel
theorem dX4_assign_60 : decode cX4_assign 60 = .ok (.iload_n 2, 1) := by decide +kernel
theorem dX4_assign_61 : decode cX4_assign 61 = .ok (.invokevirtual 225, 3) := by decide +kernel
theorem dX4_assign_64 : decode cX4_assign 64 = .ok (.ireturn, 1) := by decide +kernel
def mX4_assign (x1 : Int32) (x2 : Int32) (t : zS) : zR := zbd (mX5_get 94 1000 x2 t) fun r2285 t2286 => zbd (mX5_get 96 1000 x2 t2286) fun r2288 t2289 => zbd (mX4_work x1 r2285 r2288 t2289) fun r2291 t2292 => if r2291 = 0 then some (0, t2292) else zbd (mX5_get 90 1000 x2 t2292) fun r2294 t2295 => zbd (mX8_setNumber x1 r2294 (t2295 51 8) t2295) fun r2297 t2298 => zbd (mX4_goOn x1 x2 t2298) fun r2300 t2301 => z01 r2300 (some (r2300, t2301))
set_option maxHeartbeats 4000000 in
set_option maxRecDepth 20000 in
theorem ctX4_assign {E : zE} {f : Nat} (hf : 5 ≤ f) {x1 : Int32} {x2 : Int32} {t : zS} {ro : Int32 × zS} (hF : mX4_assign  x1 x2 t = some ro) : zM E shC f yX4_assign cX4_assign 3 (some .boolean) [.ref (za E 7), .int x1, .int x2] t ro := by
  refine zM_of (by decide) (Nat.le_of_ble_eq_true rfl) (fun C => ?_)
  show zJ E shC C cX4_assign RX4 3 f (some .boolean) ro t 0 [(0, .ref (za E 7)), (1, .int x1), (2, .int x2)] []
  unfold mX4_assign at hF
  refine z_aload_n 0 dX4_assign_0 rfl rfl ?_
  refine z_iload_n 1 dX4_assign_1 rfl rfl ?_
  refine z_aload_n 0 dX4_assign_2 rfl rfl ?_
  refine z_getr fr_RX4_48 dX4_assign_3 ?_
  refine z_getr fr_RX4_213 dX4_assign_6 ?_
  refine z_iload_n 2 dX4_assign_9 rfl rfl ?_
  obtain ⟨r2285, t2286, hc2287, hF⟩ := zbd_at hF
  refine z_callVi (ctX5_get (E := E) (sh := shC) (f := f - 1) (by omega) (k := 94) (n := 1000) rfl rfl hc2287) yy_X5_get yv_X5_get ob_C_94 lk_RX4_99 (by omega) rfl rfl (Nat.le_of_ble_eq_true rfl) dX4_assign_10 ?_
  refine z_aload_n 0 dX4_assign_13 rfl rfl ?_
  refine z_getr fr_RX4_48 dX4_assign_14 ?_
  refine z_getr fr_RX4_216 dX4_assign_17 ?_
  refine z_iload_n 2 dX4_assign_20 rfl rfl ?_
  obtain ⟨r2288, t2289, hc2290, hF⟩ := zbd_at hF
  refine z_callVi (ctX5_get (E := E) (sh := shC) (f := f - 1) (by omega) (k := 96) (n := 1000) rfl rfl hc2290) yy_X5_get yv_X5_get ob_C_96 lk_RX4_99 (by omega) rfl rfl (Nat.le_of_ble_eq_true rfl) dX4_assign_21 ?_
  obtain ⟨r2291, t2292, hc2293, hF⟩ := zbd_at hF
  refine z_callVi (ctX4_work (E := E) (f := f - 1) (by omega) hc2293) yy_X4_work yv_X4_work ob_C_7 lk_RX4_219 (by omega) rfl rfl (Nat.le_of_ble_eq_true rfl) dX4_assign_24 ?_
  refine z_if_ne (tgt := 32) dX4_assign_27 (by decide) (fun hc => ?_) (fun hc => ?_)
  · have hF := zif_f hc hF
    refine z_aload_n 0 dX4_assign_32 rfl rfl ?_
    refine z_getr fr_RX4_21 dX4_assign_33 ?_
    refine z_iload_n 1 dX4_assign_36 rfl rfl ?_
    refine z_aload_n 0 dX4_assign_37 rfl rfl ?_
    refine z_getr fr_RX4_48 dX4_assign_38 ?_
    refine z_getr fr_RX4_180 dX4_assign_41 ?_
    refine z_iload_n 2 dX4_assign_44 rfl rfl ?_
    obtain ⟨r2294, t2295, hc2296, hF⟩ := zbd_at hF
    refine z_callVi (ctX5_get (E := E) (sh := shC) (f := f - 1) (by omega) (k := 90) (n := 1000) rfl rfl hc2296) yy_X5_get yv_X5_get ob_C_90 lk_RX4_99 (by omega) rfl rfl (Nat.le_of_ble_eq_true rfl) dX4_assign_45 ?_
    refine z_aload_n 0 dX4_assign_48 rfl rfl ?_
    refine z_getr fr_RX4_44 dX4_assign_49 ?_
    refine z_geti fi_RX4_222 dX4_assign_52 ?_
    obtain ⟨r2297, t2298, hc2299, hF⟩ := zbd_at hF
    refine z_callVv (ctX8_setNumber (E := E) (f := f - 1) (by omega) hc2299) yy_X8_setNumber yv_X8_setNumber ob_C_60 lk_RX4_234 (by omega) rfl rfl (Nat.le_of_ble_eq_true rfl) dX4_assign_55 ?_
    refine z_aload_n 0 dX4_assign_58 rfl rfl ?_
    refine z_iload_n 1 dX4_assign_59 rfl rfl ?_
    refine z_iload_n 2 dX4_assign_60 rfl rfl ?_
    obtain ⟨r2300, t2301, hc2302, hF⟩ := zbd_at hF
    refine z_callVi (ctX4_goOn (E := E) (f := f - 1) (by omega) hc2302) yy_X4_goOn yv_X4_goOn ob_C_7 lk_RX4_225 (by omega) rfl rfl (Nat.le_of_ble_eq_true rfl) dX4_assign_61 ?_
    obtain ⟨hz2303, hF⟩ := z01_at hF
    exact z_zret hF hz2303 dX4_assign_64
  · have hF := zif_t hc hF
    refine z_iconst (v := 0) dX4_assign_30 (by decide) ?_
    exact z_zret hF (by decide) dX4_assign_31
-- SessionHouse$House.act(II)Z
theorem dX4_act_0 : decode cX4_act 0 = .ok (.aload_n 0, 1) := by decide +kernel
theorem dX4_act_1 : decode cX4_act 1 = .ok (.getfield 48, 3) := by decide +kernel
theorem dX4_act_4 : decode cX4_act 4 = .ok (.getfield 133, 3) := by decide +kernel
theorem dX4_act_7 : decode cX4_act 7 = .ok (.iload_n 2, 1) := by decide +kernel
theorem dX4_act_8 : decode cX4_act 8 = .ok (.invokevirtual 99, 3) := by decide +kernel
theorem dX4_act_11 : decode cX4_act 11 = .ok (.tableswitch 121 2 14 #[65, 72, 65, 72, 65, 79, 86, 93, 100, 121, 100, 107, 114], 65) := by decide +kernel
theorem dX4_act_76 : decode cX4_act 76 = .ok (.aload_n 0, 1) := by decide +kernel
theorem dX4_act_77 : decode cX4_act 77 = .ok (.iload_n 1, 1) := by decide +kernel
theorem dX4_act_78 : decode cX4_act 78 = .ok (.iload_n 2, 1) := by decide +kernel
theorem dX4_act_79 : decode cX4_act 79 = .ok (.invokevirtual 138, 3) := by decide +kernel
theorem dX4_act_82 : decode cX4_act 82 = .ok (.ireturn, 1) := by decide +kernel
theorem dX4_act_83 : decode cX4_act 83 = .ok (.aload_n 0, 1) := by decide +kernel
theorem dX4_act_84 : decode cX4_act 84 = .ok (.iload_n 1, 1) := by decide +kernel
theorem dX4_act_85 : decode cX4_act 85 = .ok (.iload_n 2, 1) := by decide +kernel
theorem dX4_act_86 : decode cX4_act 86 = .ok (.invokevirtual 141, 3) := by decide +kernel
theorem dX4_act_89 : decode cX4_act 89 = .ok (.ireturn, 1) := by decide +kernel
theorem dX4_act_90 : decode cX4_act 90 = .ok (.aload_n 0, 1) := by decide +kernel
theorem dX4_act_91 : decode cX4_act 91 = .ok (.iload_n 1, 1) := by decide +kernel
theorem dX4_act_92 : decode cX4_act 92 = .ok (.iload_n 2, 1) := by decide +kernel
theorem dX4_act_93 : decode cX4_act 93 = .ok (.invokevirtual 144, 3) := by decide +kernel
theorem dX4_act_96 : decode cX4_act 96 = .ok (.ireturn, 1) := by decide +kernel
theorem dX4_act_97 : decode cX4_act 97 = .ok (.aload_n 0, 1) := by decide +kernel
theorem dX4_act_98 : decode cX4_act 98 = .ok (.iload_n 1, 1) := by decide +kernel
theorem dX4_act_99 : decode cX4_act 99 = .ok (.iload_n 2, 1) := by decide +kernel
theorem dX4_act_100 : decode cX4_act 100 = .ok (.invokevirtual 147, 3) := by decide +kernel
theorem dX4_act_103 : decode cX4_act 103 = .ok (.ireturn, 1) := by decide +kernel
theorem dX4_act_104 : decode cX4_act 104 = .ok (.aload_n 0, 1) := by decide +kernel
theorem dX4_act_105 : decode cX4_act 105 = .ok (.iload_n 1, 1) := by decide +kernel
theorem dX4_act_106 : decode cX4_act 106 = .ok (.iload_n 2, 1) := by decide +kernel
theorem dX4_act_107 : decode cX4_act 107 = .ok (.invokevirtual 150, 3) := by decide +kernel
theorem dX4_act_110 : decode cX4_act 110 = .ok (.ireturn, 1) := by decide +kernel
theorem dX4_act_111 : decode cX4_act 111 = .ok (.aload_n 0, 1) := by decide +kernel
theorem dX4_act_112 : decode cX4_act 112 = .ok (.iload_n 1, 1) := by decide +kernel
theorem dX4_act_113 : decode cX4_act 113 = .ok (.iload_n 2, 1) := by decide +kernel
theorem dX4_act_114 : decode cX4_act 114 = .ok (.invokevirtual 153, 3) := by decide +kernel
theorem dX4_act_117 : decode cX4_act 117 = .ok (.ireturn, 1) := by decide +kernel
theorem dX4_act_118 : decode cX4_act 118 = .ok (.aload_n 0, 1) := by decide +kernel
theorem dX4_act_119 : decode cX4_act 119 = .ok (.iload_n 1, 1) := by decide +kernel
theorem dX4_act_120 : decode cX4_act 120 = .ok (.iload_n 2, 1) := by decide +kernel
theorem dX4_act_121 : decode cX4_act 121 = .ok (.invokevirtual 156, 3) := by decide +kernel
theorem dX4_act_124 : decode cX4_act 124 = .ok (.ireturn, 1) := by decide +kernel
theorem dX4_act_125 : decode cX4_act 125 = .ok (.aload_n 0, 1) := by decide +kernel
theorem dX4_act_126 : decode cX4_act 126 = .ok (.iload_n 1, 1) := by decide +kernel
theorem dX4_act_127 : decode cX4_act 127 = .ok (.iload_n 2, 1) := by decide +kernel
theorem dX4_act_128 : decode cX4_act 128 = .ok (.invokevirtual 159, 3) := by decide +kernel
theorem dX4_act_131 : decode cX4_act 131 = .ok (.ireturn, 1) := by decide +kernel
theorem dX4_act_132 : decode cX4_act 132 = .ok (.aload_n 0, 1) := by decide +kernel
theorem dX4_act_133 : decode cX4_act 133 = .ok (.iload_n 1, 1) := by decide +kernel
theorem dX4_act_134 : decode cX4_act 134 = .ok (.iload_n 2, 1) := by decide +kernel
theorem dX4_act_135 : decode cX4_act 135 = .ok (.invokevirtual 162, 3) := by decide +kernel
theorem dX4_act_138 : decode cX4_act 138 = .ok (.ireturn, 1) := by decide +kernel
def mX4_act (x1 : Int32) (x2 : Int32) (t : zS) : zR := zbd (mX5_get 86 1000 x2 t) fun r2304 t2305 => if r2304 = 2 then zbd (mX4_say x1 x2 t2305) fun r2307 t2308 => z01 r2307 (some (r2307, t2308)) else if r2304 = 3 then zbd (mX4_hear x1 x2 t2305) fun r2312 t2313 => z01 r2312 (some (r2312, t2313)) else if r2304 = 4 then zbd (mX4_say x1 x2 t2305) fun r2317 t2318 => z01 r2317 (some (r2317, t2318)) else if r2304 = 5 then zbd (mX4_hear x1 x2 t2305) fun r2322 t2323 => z01 r2322 (some (r2322, t2323)) else if r2304 = 6 then zbd (mX4_say x1 x2 t2305) fun r2327 t2328 => z01 r2327 (some (r2327, t2328)) else if r2304 = 7 then zbd (mX4_choose x1 x2 t2305) fun r2332 t2333 => z01 r2332 (some (r2332, t2333)) else if r2304 = 8 then zbd (mX4_spawn x1 x2 t2305) fun r2337 t2338 => z01 r2337 (some (r2337, t2338)) else if r2304 = 9 then zbd (mX4_become x1 x2 t2305) fun r2342 t2343 => z01 r2342 (some (r2342, t2343)) else if r2304 = 10 then zbd (mX4_branch x1 x2 t2305) fun r2347 t2348 => z01 r2347 (some (r2347, t2348)) else if r2304 = 11 then zbd (mX4_assign x1 x2 t2305) fun r2352 t2353 => z01 r2352 (some (r2352, t2353)) else if r2304 = 12 then zbd (mX4_branch x1 x2 t2305) fun r2357 t2358 => z01 r2357 (some (r2357, t2358)) else if r2304 = 13 then zbd (mX4_show x1 x2 t2305) fun r2362 t2363 => z01 r2362 (some (r2362, t2363)) else if r2304 = 14 then zbd (mX4_fetch x1 x2 t2305) fun r2367 t2368 => z01 r2367 (some (r2367, t2368)) else zbd (mX4_assign x1 x2 t2305) fun r2372 t2373 => z01 r2372 (some (r2372, t2373))
set_option maxHeartbeats 4000000 in
set_option maxRecDepth 20000 in
theorem ctX4_act {E : zE} {f : Nat} (hf : 6 ≤ f) {x1 : Int32} {x2 : Int32} {t : zS} {ro : Int32 × zS} (hF : mX4_act  x1 x2 t = some ro) : zM E shC f yX4_act cX4_act 3 (some .boolean) [.ref (za E 7), .int x1, .int x2] t ro := by
  refine zM_of (by decide) (Nat.le_of_ble_eq_true rfl) (fun C => ?_)
  show zJ E shC C cX4_act RX4 3 f (some .boolean) ro t 0 [(0, .ref (za E 7)), (1, .int x1), (2, .int x2)] []
  unfold mX4_act at hF
  refine z_aload_n 0 dX4_act_0 rfl rfl ?_
  refine z_getr fr_RX4_48 dX4_act_1 ?_
  refine z_getr fr_RX4_133 dX4_act_4 ?_
  refine z_iload_n 2 dX4_act_7 rfl rfl ?_
  obtain ⟨r2304, t2305, hc2306, hF⟩ := zbd_at hF
  refine z_callVi (ctX5_get (E := E) (sh := shC) (f := f - 1) (by omega) (k := 86) (n := 1000) rfl rfl hc2306) yy_X5_get yv_X5_get ob_C_86 lk_RX4_99 (by omega) rfl rfl (Nat.le_of_ble_eq_true rfl) dX4_act_8 ?_
  by_cases hc : r2304 = 2
  · have hF := zif_t hc hF
    refine z_tabIn (tgt := 76) dX4_act_11 (by rw [hc]; decide) (by rw [hc]; decide) (by rw [hc]; rfl) (by decide) ?_
    refine z_aload_n 0 dX4_act_76 rfl rfl ?_
    refine z_iload_n 1 dX4_act_77 rfl rfl ?_
    refine z_iload_n 2 dX4_act_78 rfl rfl ?_
    obtain ⟨r2307, t2308, hc2309, hF⟩ := zbd_at hF
    refine z_callVi (ctX4_say (E := E) (f := f - 1) (by omega) hc2309) yy_X4_say yv_X4_say ob_C_7 lk_RX4_138 (by omega) rfl rfl (Nat.le_of_ble_eq_true rfl) dX4_act_79 ?_
    obtain ⟨hz2310, hF⟩ := z01_at hF
    exact z_zret hF hz2310 dX4_act_82
  have hF := zif_f hc hF
  have hn2311 := hc; clear hc
  by_cases hc : r2304 = 3
  · have hF := zif_t hc hF
    refine z_tabIn (tgt := 83) dX4_act_11 (by rw [hc]; decide) (by rw [hc]; decide) (by rw [hc]; rfl) (by decide) ?_
    refine z_aload_n 0 dX4_act_83 rfl rfl ?_
    refine z_iload_n 1 dX4_act_84 rfl rfl ?_
    refine z_iload_n 2 dX4_act_85 rfl rfl ?_
    obtain ⟨r2312, t2313, hc2314, hF⟩ := zbd_at hF
    refine z_callVi (ctX4_hear (E := E) (f := f - 1) (by omega) hc2314) yy_X4_hear yv_X4_hear ob_C_7 lk_RX4_141 (by omega) rfl rfl (Nat.le_of_ble_eq_true rfl) dX4_act_86 ?_
    obtain ⟨hz2315, hF⟩ := z01_at hF
    exact z_zret hF hz2315 dX4_act_89
  have hF := zif_f hc hF
  have hn2316 := hc; clear hc
  by_cases hc : r2304 = 4
  · have hF := zif_t hc hF
    refine z_tabIn (tgt := 76) dX4_act_11 (by rw [hc]; decide) (by rw [hc]; decide) (by rw [hc]; rfl) (by decide) ?_
    refine z_aload_n 0 dX4_act_76 rfl rfl ?_
    refine z_iload_n 1 dX4_act_77 rfl rfl ?_
    refine z_iload_n 2 dX4_act_78 rfl rfl ?_
    obtain ⟨r2317, t2318, hc2319, hF⟩ := zbd_at hF
    refine z_callVi (ctX4_say (E := E) (f := f - 1) (by omega) hc2319) yy_X4_say yv_X4_say ob_C_7 lk_RX4_138 (by omega) rfl rfl (Nat.le_of_ble_eq_true rfl) dX4_act_79 ?_
    obtain ⟨hz2320, hF⟩ := z01_at hF
    exact z_zret hF hz2320 dX4_act_82
  have hF := zif_f hc hF
  have hn2321 := hc; clear hc
  by_cases hc : r2304 = 5
  · have hF := zif_t hc hF
    refine z_tabIn (tgt := 83) dX4_act_11 (by rw [hc]; decide) (by rw [hc]; decide) (by rw [hc]; rfl) (by decide) ?_
    refine z_aload_n 0 dX4_act_83 rfl rfl ?_
    refine z_iload_n 1 dX4_act_84 rfl rfl ?_
    refine z_iload_n 2 dX4_act_85 rfl rfl ?_
    obtain ⟨r2322, t2323, hc2324, hF⟩ := zbd_at hF
    refine z_callVi (ctX4_hear (E := E) (f := f - 1) (by omega) hc2324) yy_X4_hear yv_X4_hear ob_C_7 lk_RX4_141 (by omega) rfl rfl (Nat.le_of_ble_eq_true rfl) dX4_act_86 ?_
    obtain ⟨hz2325, hF⟩ := z01_at hF
    exact z_zret hF hz2325 dX4_act_89
  have hF := zif_f hc hF
  have hn2326 := hc; clear hc
  by_cases hc : r2304 = 6
  · have hF := zif_t hc hF
    refine z_tabIn (tgt := 76) dX4_act_11 (by rw [hc]; decide) (by rw [hc]; decide) (by rw [hc]; rfl) (by decide) ?_
    refine z_aload_n 0 dX4_act_76 rfl rfl ?_
    refine z_iload_n 1 dX4_act_77 rfl rfl ?_
    refine z_iload_n 2 dX4_act_78 rfl rfl ?_
    obtain ⟨r2327, t2328, hc2329, hF⟩ := zbd_at hF
    refine z_callVi (ctX4_say (E := E) (f := f - 1) (by omega) hc2329) yy_X4_say yv_X4_say ob_C_7 lk_RX4_138 (by omega) rfl rfl (Nat.le_of_ble_eq_true rfl) dX4_act_79 ?_
    obtain ⟨hz2330, hF⟩ := z01_at hF
    exact z_zret hF hz2330 dX4_act_82
  have hF := zif_f hc hF
  have hn2331 := hc; clear hc
  by_cases hc : r2304 = 7
  · have hF := zif_t hc hF
    refine z_tabIn (tgt := 90) dX4_act_11 (by rw [hc]; decide) (by rw [hc]; decide) (by rw [hc]; rfl) (by decide) ?_
    refine z_aload_n 0 dX4_act_90 rfl rfl ?_
    refine z_iload_n 1 dX4_act_91 rfl rfl ?_
    refine z_iload_n 2 dX4_act_92 rfl rfl ?_
    obtain ⟨r2332, t2333, hc2334, hF⟩ := zbd_at hF
    refine z_callVi (ctX4_choose (E := E) (f := f - 1) (by omega) hc2334) yy_X4_choose yv_X4_choose ob_C_7 lk_RX4_144 (by omega) rfl rfl (Nat.le_of_ble_eq_true rfl) dX4_act_93 ?_
    obtain ⟨hz2335, hF⟩ := z01_at hF
    exact z_zret hF hz2335 dX4_act_96
  have hF := zif_f hc hF
  have hn2336 := hc; clear hc
  by_cases hc : r2304 = 8
  · have hF := zif_t hc hF
    refine z_tabIn (tgt := 97) dX4_act_11 (by rw [hc]; decide) (by rw [hc]; decide) (by rw [hc]; rfl) (by decide) ?_
    refine z_aload_n 0 dX4_act_97 rfl rfl ?_
    refine z_iload_n 1 dX4_act_98 rfl rfl ?_
    refine z_iload_n 2 dX4_act_99 rfl rfl ?_
    obtain ⟨r2337, t2338, hc2339, hF⟩ := zbd_at hF
    refine z_callVi (ctX4_spawn (E := E) (f := f - 1) (by omega) hc2339) yy_X4_spawn yv_X4_spawn ob_C_7 lk_RX4_147 (by omega) rfl rfl (Nat.le_of_ble_eq_true rfl) dX4_act_100 ?_
    obtain ⟨hz2340, hF⟩ := z01_at hF
    exact z_zret hF hz2340 dX4_act_103
  have hF := zif_f hc hF
  have hn2341 := hc; clear hc
  by_cases hc : r2304 = 9
  · have hF := zif_t hc hF
    refine z_tabIn (tgt := 104) dX4_act_11 (by rw [hc]; decide) (by rw [hc]; decide) (by rw [hc]; rfl) (by decide) ?_
    refine z_aload_n 0 dX4_act_104 rfl rfl ?_
    refine z_iload_n 1 dX4_act_105 rfl rfl ?_
    refine z_iload_n 2 dX4_act_106 rfl rfl ?_
    obtain ⟨r2342, t2343, hc2344, hF⟩ := zbd_at hF
    refine z_callVi (ctX4_become (E := E) (f := f - 1) (by omega) hc2344) yy_X4_become yv_X4_become ob_C_7 lk_RX4_150 (by omega) rfl rfl (Nat.le_of_ble_eq_true rfl) dX4_act_107 ?_
    obtain ⟨hz2345, hF⟩ := z01_at hF
    exact z_zret hF hz2345 dX4_act_110
  have hF := zif_f hc hF
  have hn2346 := hc; clear hc
  by_cases hc : r2304 = 10
  · have hF := zif_t hc hF
    refine z_tabIn (tgt := 111) dX4_act_11 (by rw [hc]; decide) (by rw [hc]; decide) (by rw [hc]; rfl) (by decide) ?_
    refine z_aload_n 0 dX4_act_111 rfl rfl ?_
    refine z_iload_n 1 dX4_act_112 rfl rfl ?_
    refine z_iload_n 2 dX4_act_113 rfl rfl ?_
    obtain ⟨r2347, t2348, hc2349, hF⟩ := zbd_at hF
    refine z_callVi (ctX4_branch (E := E) (f := f - 1) (by omega) hc2349) yy_X4_branch yv_X4_branch ob_C_7 lk_RX4_153 (by omega) rfl rfl (Nat.le_of_ble_eq_true rfl) dX4_act_114 ?_
    obtain ⟨hz2350, hF⟩ := z01_at hF
    exact z_zret hF hz2350 dX4_act_117
  have hF := zif_f hc hF
  have hn2351 := hc; clear hc
  by_cases hc : r2304 = 11
  · have hF := zif_t hc hF
    refine z_tabIn (tgt := 132) dX4_act_11 (by rw [hc]; decide) (by rw [hc]; decide) (by rw [hc]; rfl) (by decide) ?_
    refine z_aload_n 0 dX4_act_132 rfl rfl ?_
    refine z_iload_n 1 dX4_act_133 rfl rfl ?_
    refine z_iload_n 2 dX4_act_134 rfl rfl ?_
    obtain ⟨r2352, t2353, hc2354, hF⟩ := zbd_at hF
    refine z_callVi (ctX4_assign (E := E) (f := f - 1) (by omega) hc2354) yy_X4_assign yv_X4_assign ob_C_7 lk_RX4_162 (by omega) rfl rfl (Nat.le_of_ble_eq_true rfl) dX4_act_135 ?_
    obtain ⟨hz2355, hF⟩ := z01_at hF
    exact z_zret hF hz2355 dX4_act_138
  have hF := zif_f hc hF
  have hn2356 := hc; clear hc
  by_cases hc : r2304 = 12
  · have hF := zif_t hc hF
    refine z_tabIn (tgt := 111) dX4_act_11 (by rw [hc]; decide) (by rw [hc]; decide) (by rw [hc]; rfl) (by decide) ?_
    refine z_aload_n 0 dX4_act_111 rfl rfl ?_
    refine z_iload_n 1 dX4_act_112 rfl rfl ?_
    refine z_iload_n 2 dX4_act_113 rfl rfl ?_
    obtain ⟨r2357, t2358, hc2359, hF⟩ := zbd_at hF
    refine z_callVi (ctX4_branch (E := E) (f := f - 1) (by omega) hc2359) yy_X4_branch yv_X4_branch ob_C_7 lk_RX4_153 (by omega) rfl rfl (Nat.le_of_ble_eq_true rfl) dX4_act_114 ?_
    obtain ⟨hz2360, hF⟩ := z01_at hF
    exact z_zret hF hz2360 dX4_act_117
  have hF := zif_f hc hF
  have hn2361 := hc; clear hc
  by_cases hc : r2304 = 13
  · have hF := zif_t hc hF
    refine z_tabIn (tgt := 118) dX4_act_11 (by rw [hc]; decide) (by rw [hc]; decide) (by rw [hc]; rfl) (by decide) ?_
    refine z_aload_n 0 dX4_act_118 rfl rfl ?_
    refine z_iload_n 1 dX4_act_119 rfl rfl ?_
    refine z_iload_n 2 dX4_act_120 rfl rfl ?_
    obtain ⟨r2362, t2363, hc2364, hF⟩ := zbd_at hF
    refine z_callVi (ctX4_show (E := E) (f := f - 1) (by omega) hc2364) yy_X4_show yv_X4_show ob_C_7 lk_RX4_156 (by omega) rfl rfl (Nat.le_of_ble_eq_true rfl) dX4_act_121 ?_
    obtain ⟨hz2365, hF⟩ := z01_at hF
    exact z_zret hF hz2365 dX4_act_124
  have hF := zif_f hc hF
  have hn2366 := hc; clear hc
  by_cases hc : r2304 = 14
  · have hF := zif_t hc hF
    refine z_tabIn (tgt := 125) dX4_act_11 (by rw [hc]; decide) (by rw [hc]; decide) (by rw [hc]; rfl) (by decide) ?_
    refine z_aload_n 0 dX4_act_125 rfl rfl ?_
    refine z_iload_n 1 dX4_act_126 rfl rfl ?_
    refine z_iload_n 2 dX4_act_127 rfl rfl ?_
    obtain ⟨r2367, t2368, hc2369, hF⟩ := zbd_at hF
    refine z_callVi (ctX4_fetch (E := E) (f := f - 1) (by omega) hc2369) yy_X4_fetch yv_X4_fetch ob_C_7 lk_RX4_159 (by omega) rfl rfl (Nat.le_of_ble_eq_true rfl) dX4_act_128 ?_
    obtain ⟨hz2370, hF⟩ := z01_at hF
    exact z_zret hF hz2370 dX4_act_131
  have hF := zif_f hc hF
  have hn2371 := hc; clear hc
  have hO : (r2304).toInt < 2 ∨ 14 < (r2304).toInt := by
    have qhn2311 := lv_neT (a := 2) hn2311 (by decide)
    have qhn2316 := lv_neT (a := 3) hn2316 (by decide)
    have qhn2321 := lv_neT (a := 4) hn2321 (by decide)
    have qhn2326 := lv_neT (a := 5) hn2326 (by decide)
    have qhn2331 := lv_neT (a := 6) hn2331 (by decide)
    have qhn2336 := lv_neT (a := 7) hn2336 (by decide)
    have qhn2341 := lv_neT (a := 8) hn2341 (by decide)
    have qhn2346 := lv_neT (a := 9) hn2346 (by decide)
    have qhn2351 := lv_neT (a := 10) hn2351 (by decide)
    have qhn2356 := lv_neT (a := 11) hn2356 (by decide)
    have qhn2361 := lv_neT (a := 12) hn2361 (by decide)
    have qhn2366 := lv_neT (a := 13) hn2366 (by decide)
    have qhn2371 := lv_neT (a := 14) hn2371 (by decide)
    omega
  refine z_tabOut (tgt := 132) dX4_act_11 hO (by decide) ?_
  refine z_aload_n 0 dX4_act_132 rfl rfl ?_
  refine z_iload_n 1 dX4_act_133 rfl rfl ?_
  refine z_iload_n 2 dX4_act_134 rfl rfl ?_
  obtain ⟨r2372, t2373, hc2374, hF⟩ := zbd_at hF
  refine z_callVi (ctX4_assign (E := E) (f := f - 1) (by omega) hc2374) yy_X4_assign yv_X4_assign ob_C_7 lk_RX4_162 (by omega) rfl rfl (Nat.le_of_ble_eq_true rfl) dX4_act_135 ?_
  obtain ⟨hz2375, hF⟩ := z01_at hF
  exact z_zret hF hz2375 dX4_act_138
-- SessionHouse$Ring.nextOf(I)I
theorem dX8_nextOf_0 : decode cX8_nextOf 0 = .ok (.aload_n 0, 1) := by decide +kernel
theorem dX8_nextOf_1 : decode cX8_nextOf 1 = .ok (.getfield 32, 3) := by decide +kernel
theorem dX8_nextOf_4 : decode cX8_nextOf 4 = .ok (.iload_n 1, 1) := by decide +kernel
theorem dX8_nextOf_5 : decode cX8_nextOf 5 = .ok (.invokevirtual 72, 3) := by decide +kernel
theorem dX8_nextOf_8 : decode cX8_nextOf 8 = .ok (.ifCond .ge 10, 3) := by decide +kernel
theorem dX8_nextOf_11 : decode cX8_nextOf 11 = .ok (.aload_n 0, 1) := by decide +kernel
theorem dX8_nextOf_12 : decode cX8_nextOf 12 = .ok (.getfield 47, 3) := by decide +kernel
theorem dX8_nextOf_15 : decode cX8_nextOf 15 = .ok (.goto 11, 3) := by decide +kernel
theorem dX8_nextOf_18 : decode cX8_nextOf 18 = .ok (.aload_n 0, 1) := by decide +kernel
theorem dX8_nextOf_19 : decode cX8_nextOf 19 = .ok (.getfield 32, 3) := by decide +kernel
theorem dX8_nextOf_22 : decode cX8_nextOf 22 = .ok (.iload_n 1, 1) := by decide +kernel
theorem dX8_nextOf_23 : decode cX8_nextOf 23 = .ok (.invokevirtual 72, 3) := by decide +kernel
theorem dX8_nextOf_26 : decode cX8_nextOf 26 = .ok (.ireturn, 1) := by decide +kernel
def mX8_nextOf (x1 : Int32) (t : zS) : zR := zbd (mX5_get 136 2501 x1 t) fun r2376 t2377 => if 0 ≤ r2376 then zbd (mX5_get 136 2501 x1 t2377) fun r2379 t2380 => some (r2379, t2380) else some ((t2377 60 10), t2377)
set_option maxHeartbeats 4000000 in
set_option maxRecDepth 20000 in
theorem ctX8_nextOf {E : zE} {f : Nat} (hf : 2 ≤ f) {x1 : Int32} {t : zS} {ro : Int32 × zS} (hF : mX8_nextOf  x1 t = some ro) : zM E shC f yX8_nextOf cX8_nextOf 2 (some .int) [.ref (za E 60), .int x1] t ro := by
  refine zM_of (by decide) (Nat.le_of_ble_eq_true rfl) (fun C => ?_)
  show zJ E shC C cX8_nextOf RX8 2 f (some .int) ro t 0 [(0, .ref (za E 60)), (1, .int x1)] []
  unfold mX8_nextOf at hF
  refine z_aload_n 0 dX8_nextOf_0 rfl rfl ?_
  refine z_getr fr_RX8_32 dX8_nextOf_1 ?_
  refine z_iload_n 1 dX8_nextOf_4 rfl rfl ?_
  obtain ⟨r2376, t2377, hc2378, hF⟩ := zbd_at hF
  refine z_callVi (ctX5_get (E := E) (sh := shC) (f := f - 1) (by omega) (k := 136) (n := 2501) rfl rfl hc2378) yy_X5_get yv_X5_get ob_C_136 lk_RX8_72 (by omega) rfl rfl (Nat.le_of_ble_eq_true rfl) dX8_nextOf_5 ?_
  refine z_if_ge (tgt := 18) dX8_nextOf_8 (by decide) (fun hc => ?_) (fun hc => ?_)
  · have hF := zif_t hc hF
    refine z_aload_n 0 dX8_nextOf_18 rfl rfl ?_
    refine z_getr fr_RX8_32 dX8_nextOf_19 ?_
    refine z_iload_n 1 dX8_nextOf_22 rfl rfl ?_
    obtain ⟨r2379, t2380, hc2381, hF⟩ := zbd_at hF
    refine z_callVi (ctX5_get (E := E) (sh := shC) (f := f - 1) (by omega) (k := 136) (n := 2501) rfl rfl hc2381) yy_X5_get yv_X5_get ob_C_136 lk_RX8_72 (by omega) rfl rfl (Nat.le_of_ble_eq_true rfl) dX8_nextOf_23 ?_
    exact z_iret hF dX8_nextOf_26
  · have hF := zif_f hc hF
    refine z_aload_n 0 dX8_nextOf_11 rfl rfl ?_
    refine z_geti fi_RX8_47 dX8_nextOf_12 ?_
    refine z_goto (tgt := 26) dX8_nextOf_15 (by decide) ?_
    exact z_iret hF dX8_nextOf_26
-- SessionHouse$House.visit()V
theorem dX4_visit_0 : decode cX4_visit 0 = .ok (.aload_n 0, 1) := by decide +kernel
theorem dX4_visit_1 : decode cX4_visit 1 = .ok (.getfield 109, 3) := by decide +kernel
theorem dX4_visit_4 : decode cX4_visit 4 = .ok (.istore_n 1, 1) := by decide +kernel
theorem dX4_visit_5 : decode cX4_visit 5 = .ok (.aload_n 0, 1) := by decide +kernel
theorem dX4_visit_6 : decode cX4_visit 6 = .ok (.getfield 21, 3) := by decide +kernel
theorem dX4_visit_9 : decode cX4_visit 9 = .ok (.getfield 112, 3) := by decide +kernel
theorem dX4_visit_12 : decode cX4_visit 12 = .ok (.iload_n 1, 1) := by decide +kernel
theorem dX4_visit_13 : decode cX4_visit 13 = .ok (.invokevirtual 99, 3) := by decide +kernel
theorem dX4_visit_16 : decode cX4_visit 16 = .ok (.istore_n 2, 1) := by decide +kernel
theorem dX4_visit_17 : decode cX4_visit 17 = .ok (.aload_n 0, 1) := by decide +kernel
theorem dX4_visit_18 : decode cX4_visit 18 = .ok (.dup, 1) := by decide +kernel
theorem dX4_visit_19 : decode cX4_visit 19 = .ok (.getfield 69, 3) := by decide +kernel
theorem dX4_visit_22 : decode cX4_visit 22 = .ok (.iconst 1, 1) := by decide +kernel
theorem dX4_visit_23 : decode cX4_visit 23 = .ok (.iadd, 1) := by decide +kernel
theorem dX4_visit_24 : decode cX4_visit 24 = .ok (.putfield 69, 3) := by decide +kernel
theorem dX4_visit_27 : decode cX4_visit 27 = .ok (.iload_n 2, 1) := by decide +kernel
theorem dX4_visit_28 : decode cX4_visit 28 = .ok (.ifCond .ge 57, 3) := by decide +kernel
theorem dX4_visit_31 : decode cX4_visit 31 = .ok (.aload_n 0, 1) := by decide +kernel
theorem dX4_visit_32 : decode cX4_visit 32 = .ok (.dup, 1) := by decide +kernel
theorem dX4_visit_33 : decode cX4_visit 33 = .ok (.getfield 75, 3) := by decide +kernel
theorem dX4_visit_36 : decode cX4_visit 36 = .ok (.aload_n 0, 1) := by decide +kernel
theorem dX4_visit_37 : decode cX4_visit 37 = .ok (.aload_n 0, 1) := by decide +kernel
theorem dX4_visit_38 : decode cX4_visit 38 = .ok (.getfield 21, 3) := by decide +kernel
theorem dX4_visit_41 : decode cX4_visit 41 = .ok (.getfield 115, 3) := by decide +kernel
theorem dX4_visit_44 : decode cX4_visit 44 = .ok (.iload_n 1, 1) := by decide +kernel
theorem dX4_visit_45 : decode cX4_visit 45 = .ok (.invokevirtual 99, 3) := by decide +kernel
theorem dX4_visit_48 : decode cX4_visit 48 = .ok (.invokevirtual 93, 3) := by decide +kernel
theorem dX4_visit_51 : decode cX4_visit 51 = .ok (.isub, 1) := by decide +kernel
theorem dX4_visit_52 : decode cX4_visit 52 = .ok (.putfield 75, 3) := by decide +kernel
theorem dX4_visit_55 : decode cX4_visit 55 = .ok (.aload_n 0, 1) := by decide +kernel
theorem dX4_visit_56 : decode cX4_visit 56 = .ok (.getfield 21, 3) := by decide +kernel
theorem dX4_visit_59 : decode cX4_visit 59 = .ok (.iload_n 1, 1) := by decide +kernel
theorem dX4_visit_60 : decode cX4_visit 60 = .ok (.invokevirtual 118, 3) := by decide +kernel
theorem dX4_visit_63 : decode cX4_visit 63 = .ok (.aload_n 0, 1) := by decide +kernel
theorem dX4_visit_64 : decode cX4_visit 64 = .ok (.aload_n 0, 1) := by decide +kernel
theorem dX4_visit_65 : decode cX4_visit 65 = .ok (.getfield 21, 3) := by decide +kernel
theorem dX4_visit_68 : decode cX4_visit 68 = .ok (.getfield 121, 3) := by decide +kernel
theorem dX4_visit_71 : decode cX4_visit 71 = .ok (.ifCond .ne 7, 3) := by decide +kernel
theorem dX4_visit_74 : decode cX4_visit 74 = .ok (.iconst 1, 1) := by decide +kernel
theorem dX4_visit_75 : decode cX4_visit 75 = .ok (.goto 4, 3) := by decide +kernel
theorem dX4_visit_78 : decode cX4_visit 78 = .ok (.iconst 0, 1) := by decide +kernel
theorem dX4_visit_79 : decode cX4_visit 79 = .ok (.putfield 40, 3) := by decide +kernel
theorem dX4_visit_82 : decode cX4_visit 82 = .ok (.goto 46, 3) := by decide +kernel
theorem dX4_visit_85 : decode cX4_visit 85 = .ok (.aload_n 0, 1) := by decide +kernel
theorem dX4_visit_86 : decode cX4_visit 86 = .ok (.iload_n 1, 1) := by decide +kernel
theorem dX4_visit_87 : decode cX4_visit 87 = .ok (.iload_n 2, 1) := by decide +kernel
theorem dX4_visit_88 : decode cX4_visit 88 = .ok (.invokevirtual 124, 3) := by decide +kernel
theorem dX4_visit_91 : decode cX4_visit 91 = .ok (.ifCond .eq 37, 3) := by decide +kernel
theorem dX4_visit_94 : decode cX4_visit 94 = .ok (.aload_n 0, 1) := by decide +kernel
theorem dX4_visit_95 : decode cX4_visit 95 = .ok (.dup, 1) := by decide +kernel
theorem dX4_visit_96 : decode cX4_visit 96 = .ok (.getfield 72, 3) := by decide +kernel
theorem dX4_visit_99 : decode cX4_visit 99 = .ok (.iconst 1, 1) := by decide +kernel
theorem dX4_visit_100 : decode cX4_visit 100 = .ok (.iadd, 1) := by decide +kernel
theorem dX4_visit_101 : decode cX4_visit 101 = .ok (.putfield 72, 3) := by decide +kernel
theorem dX4_visit_104 : decode cX4_visit 104 = .ok (.aload_n 0, 1) := by decide +kernel
theorem dX4_visit_105 : decode cX4_visit 105 = .ok (.getfield 21, 3) := by decide +kernel
theorem dX4_visit_108 : decode cX4_visit 108 = .ok (.getfield 128, 3) := by decide +kernel
theorem dX4_visit_111 : decode cX4_visit 111 = .ok (.iload_n 1, 1) := by decide +kernel
theorem dX4_visit_112 : decode cX4_visit 112 = .ok (.aload_n 0, 1) := by decide +kernel
theorem dX4_visit_113 : decode cX4_visit 113 = .ok (.getfield 21, 3) := by decide +kernel
theorem dX4_visit_116 : decode cX4_visit 116 = .ok (.getfield 128, 3) := by decide +kernel
theorem dX4_visit_119 : decode cX4_visit 119 = .ok (.iload_n 1, 1) := by decide +kernel
theorem dX4_visit_120 : decode cX4_visit 120 = .ok (.invokevirtual 99, 3) := by decide +kernel
theorem dX4_visit_123 : decode cX4_visit 123 = .ok (.iconst 1, 1) := by decide +kernel
theorem dX4_visit_124 : decode cX4_visit 124 = .ok (.iadd, 1) := by decide +kernel
theorem dX4_visit_125 : decode cX4_visit 125 = .ok (.invokevirtual 62, 3) := by decide +kernel
theorem dX4_visit_128 : decode cX4_visit 128 = .ok (.aload_n 0, 1) := by decide +kernel
theorem dX4_visit_129 : decode cX4_visit 129 = .ok (.aload_n 0, 1) := by decide +kernel
theorem dX4_visit_130 : decode cX4_visit 130 = .ok (.getfield 21, 3) := by decide +kernel
theorem dX4_visit_133 : decode cX4_visit 133 = .ok (.iload_n 1, 1) := by decide +kernel
theorem dX4_visit_134 : decode cX4_visit 134 = .ok (.invokevirtual 130, 3) := by decide +kernel
theorem dX4_visit_137 : decode cX4_visit 137 = .ok (.putfield 109, 3) := by decide +kernel
theorem dX4_visit_140 : decode cX4_visit 140 = .ok (.return_, 1) := by decide +kernel
def bX4_visit_128 (x1 : Int32) (t : zS) : zR := zbd (mX8_nextOf x1 t) fun r2382 t2383 => zpt t2383 7 13 r2382 fun t2385 => some (0, t2385)
def bX4_visit_79 (x1 : Int32) (y0 : Int32) (t : zS) : zR := zpt t 7 16 y0 fun t2386 => bX4_visit_128  x1 t2386
def mX4_visit (t : zS) : zR := zlet (t 7 13) fun v2387 => zbd (mX5_get 128 2501 v2387 t) fun r2388 t2389 => zpt t2389 7 11 ((t2389 7 11) + 1) fun t2391 => if 0 ≤ r2388 then zbd (mX4_act v2387 r2388 t2391) fun r2392 t2393 => if r2392 = 0 then bX4_visit_128  v2387 t2393 else zpt t2393 7 12 ((t2393 7 12) + 1) fun t2395 => zbd (mX5_get 130 2501 v2387 t2395) fun r2396 t2397 => zbd (mX5_set 130 2501 v2387 (r2396 + 1) t2397) fun r2399 t2400 => bX4_visit_128  v2387 t2400 else zbd (mX5_get 126 2501 v2387 t2391) fun r2402 t2403 => zbd (mX4_cellsOf r2402 t2403) fun r2405 t2406 => zpt t2406 7 14 ((t2391 7 14) - r2405) fun t2408 => zbd (mX8_leave v2387 t2408) fun r2409 t2410 => if (t2410 60 16) = 0 then bX4_visit_79  v2387 1 t2410 else bX4_visit_79  v2387 0 t2410
set_option maxHeartbeats 4000000 in
set_option maxRecDepth 20000 in
theorem wbX4_visit_128 {E : zE} {C : zC} {f : Nat} {ro : Int32 × zS} (hf : 7 ≤ f) (x1 : Int32) (t : zS) (hF : bX4_visit_128  x1 t = some ro) : zJ E shC C cX4_visit RX4 3 f none ro t 128 [(0, .ref (za E 7)), (1, .int x1)] [] := by
  unfold bX4_visit_128 at hF
  refine z_aload_n 0 dX4_visit_128 rfl rfl ?_
  refine z_aload_n 0 dX4_visit_129 rfl rfl ?_
  refine z_getr fr_RX4_21 dX4_visit_130 ?_
  refine z_iload_n 1 dX4_visit_133 rfl rfl ?_
  obtain ⟨r2382, t2383, hc2384, hF⟩ := zbd_at hF
  refine z_callVi (ctX8_nextOf (E := E) (f := f - 1) (by omega) hc2384) yy_X8_nextOf yv_X8_nextOf ob_C_60 lk_RX4_130 (by omega) rfl rfl (Nat.le_of_ble_eq_true rfl) dX4_visit_134 ?_
  refine z_puti fw_RX4_109 dX4_visit_137 (fun t2385 et2385 => ?_)
  have hF := zpt_at hF t2385 et2385
  exact z_vret hF dX4_visit_140
set_option maxHeartbeats 4000000 in
set_option maxRecDepth 20000 in
theorem wbX4_visit_79 {E : zE} {C : zC} {f : Nat} {ro : Int32 × zS} (hf : 7 ≤ f) (x1 : Int32) (y0 : Int32) (t : zS) (hF : bX4_visit_79  x1 y0 t = some ro) : zJ E shC C cX4_visit RX4 3 f none ro t 79 [(0, .ref (za E 7)), (1, .int x1)] [.int y0, .ref (za E 7)] := by
  unfold bX4_visit_79 at hF
  refine z_puti fw_RX4_40 dX4_visit_79 (fun t2386 et2386 => ?_)
  have hF := zpt_at hF t2386 et2386
  refine z_goto (tgt := 128) dX4_visit_82 (by decide) ?_
  exact wbX4_visit_128 hf  x1 _ hF
set_option maxHeartbeats 4000000 in
set_option maxRecDepth 20000 in
theorem ctX4_visit {E : zE} {f : Nat} (hf : 7 ≤ f) {t : zS} {ro : Int32 × zS} (hF : mX4_visit   t = some ro) : zM E shC f yX4_visit cX4_visit 3 none [.ref (za E 7)] t ro := by
  refine zM_of (by decide) (Nat.le_of_ble_eq_true rfl) (fun C => ?_)
  show zJ E shC C cX4_visit RX4 3 f none ro t 0 [(0, .ref (za E 7))] []
  unfold mX4_visit at hF
  refine z_aload_n 0 dX4_visit_0 rfl rfl ?_
  refine z_geti fi_RX4_109 dX4_visit_1 ?_
  refine z_topi (fun v2387 ev2387 => ?_)
  have hF := zlet_at ev2387 hF
  refine z_istore_n (lv' := [(1, .int v2387), (0, .ref (za E 7))]) dX4_visit_4 rfl (by decide) rfl ?_
  refine z_aload_n 1 dX4_visit_5 rfl rfl ?_
  refine z_getr fr_RX4_21 dX4_visit_6 ?_
  refine z_getr fr_RX4_112 dX4_visit_9 ?_
  refine z_iload_n 0 dX4_visit_12 rfl rfl ?_
  obtain ⟨r2388, t2389, hc2390, hF⟩ := zbd_at hF
  refine z_callVi (ctX5_get (E := E) (sh := shC) (f := f - 1) (by omega) (k := 128) (n := 2501) rfl rfl hc2390) yy_X5_get yv_X5_get ob_C_128 lk_RX4_99 (by omega) rfl rfl (Nat.le_of_ble_eq_true rfl) dX4_visit_13 ?_
  refine z_istore_n (lv' := [(2, .int r2388), (1, .int v2387), (0, .ref (za E 7))]) dX4_visit_16 rfl (by decide) rfl ?_
  refine z_aload_n 2 dX4_visit_17 rfl rfl ?_
  refine z_dup dX4_visit_18 rfl ?_
  refine z_geti fi_RX4_69 dX4_visit_19 ?_
  refine z_iconst (v := 1) dX4_visit_22 (by decide) ?_
  refine z_iadd dX4_visit_23 ?_
  refine z_puti fw_RX4_69 dX4_visit_24 (fun t2391 et2391 => ?_)
  have hF := zpt_at hF t2391 et2391
  refine z_iload_n 0 dX4_visit_27 rfl rfl ?_
  refine z_if_ge (tgt := 85) dX4_visit_28 (by decide) (fun hc => ?_) (fun hc => ?_)
  · have hF := zif_t hc hF
    refine z_aload_n 2 dX4_visit_85 rfl rfl ?_
    refine z_iload_n 1 dX4_visit_86 rfl rfl ?_
    refine z_iload_n 0 dX4_visit_87 rfl rfl ?_
    obtain ⟨r2392, t2393, hc2394, hF⟩ := zbd_at hF
    refine z_callVi (ctX4_act (E := E) (f := f - 1) (by omega) hc2394) yy_X4_act yv_X4_act ob_C_7 lk_RX4_124 (by omega) rfl rfl (Nat.le_of_ble_eq_true rfl) dX4_visit_88 ?_
    refine z_if_eq (tgt := 128) dX4_visit_91 (by decide) (fun hc => ?_) (fun hc => ?_)
    · have hF := zif_t hc hF
      refine z_sub [2, 1] rfl ?_
      exact wbX4_visit_128 hf  v2387 _ hF
    · have hF := zif_f hc hF
      refine z_aload_n 2 dX4_visit_94 rfl rfl ?_
      refine z_dup dX4_visit_95 rfl ?_
      refine z_geti fi_RX4_72 dX4_visit_96 ?_
      refine z_iconst (v := 1) dX4_visit_99 (by decide) ?_
      refine z_iadd dX4_visit_100 ?_
      refine z_puti fw_RX4_72 dX4_visit_101 (fun t2395 et2395 => ?_)
      have hF := zpt_at hF t2395 et2395
      refine z_aload_n 2 dX4_visit_104 rfl rfl ?_
      refine z_getr fr_RX4_21 dX4_visit_105 ?_
      refine z_getr fr_RX4_128 dX4_visit_108 ?_
      refine z_iload_n 1 dX4_visit_111 rfl rfl ?_
      refine z_aload_n 2 dX4_visit_112 rfl rfl ?_
      refine z_getr fr_RX4_21 dX4_visit_113 ?_
      refine z_getr fr_RX4_128 dX4_visit_116 ?_
      refine z_iload_n 1 dX4_visit_119 rfl rfl ?_
      obtain ⟨r2396, t2397, hc2398, hF⟩ := zbd_at hF
      refine z_callVi (ctX5_get (E := E) (sh := shC) (f := f - 1) (by omega) (k := 130) (n := 2501) rfl rfl hc2398) yy_X5_get yv_X5_get ob_C_130 lk_RX4_99 (by omega) rfl rfl (Nat.le_of_ble_eq_true rfl) dX4_visit_120 ?_
      refine z_iconst (v := 1) dX4_visit_123 (by decide) ?_
      refine z_iadd dX4_visit_124 ?_
      obtain ⟨r2399, t2400, hc2401, hF⟩ := zbd_at hF
      refine z_callVv (ctX5_set (E := E) (sh := shC) (f := f - 1) (by omega) (k := 130) (n := 2501) rfl rfl hc2401) yy_X5_set yv_X5_set ob_C_130 lk_RX4_62 (by omega) rfl rfl (Nat.le_of_ble_eq_true rfl) dX4_visit_125 ?_
      refine z_sub [2, 1] rfl ?_
      exact wbX4_visit_128 hf  v2387 _ hF
  · have hF := zif_f hc hF
    refine z_aload_n 2 dX4_visit_31 rfl rfl ?_
    refine z_dup dX4_visit_32 rfl ?_
    refine z_geti fi_RX4_75 dX4_visit_33 ?_
    refine z_aload_n 2 dX4_visit_36 rfl rfl ?_
    refine z_aload_n 2 dX4_visit_37 rfl rfl ?_
    refine z_getr fr_RX4_21 dX4_visit_38 ?_
    refine z_getr fr_RX4_115 dX4_visit_41 ?_
    refine z_iload_n 1 dX4_visit_44 rfl rfl ?_
    obtain ⟨r2402, t2403, hc2404, hF⟩ := zbd_at hF
    refine z_callVi (ctX5_get (E := E) (sh := shC) (f := f - 1) (by omega) (k := 126) (n := 2501) rfl rfl hc2404) yy_X5_get yv_X5_get ob_C_126 lk_RX4_99 (by omega) rfl rfl (Nat.le_of_ble_eq_true rfl) dX4_visit_45 ?_
    obtain ⟨r2405, t2406, hc2407, hF⟩ := zbd_at hF
    refine z_callVi (ctX4_cellsOf (E := E) (f := f - 1) (by omega) hc2407) yy_X4_cellsOf yv_X4_cellsOf ob_C_7 lk_RX4_93 (by omega) rfl rfl (Nat.le_of_ble_eq_true rfl) dX4_visit_48 ?_
    refine z_isub dX4_visit_51 ?_
    refine z_puti fw_RX4_75 dX4_visit_52 (fun t2408 et2408 => ?_)
    have hF := zpt_at hF t2408 et2408
    refine z_aload_n 2 dX4_visit_55 rfl rfl ?_
    refine z_getr fr_RX4_21 dX4_visit_56 ?_
    refine z_iload_n 1 dX4_visit_59 rfl rfl ?_
    obtain ⟨r2409, t2410, hc2411, hF⟩ := zbd_at hF
    refine z_callVv (ctX8_leave (E := E) (f := f - 1) (by omega) hc2411) yy_X8_leave yv_X8_leave ob_C_60 lk_RX4_118 (by omega) rfl rfl (Nat.le_of_ble_eq_true rfl) dX4_visit_60 ?_
    refine z_aload_n 2 dX4_visit_63 rfl rfl ?_
    refine z_aload_n 2 dX4_visit_64 rfl rfl ?_
    refine z_getr fr_RX4_21 dX4_visit_65 ?_
    refine z_geti fi_RX4_121 dX4_visit_68 ?_
    refine z_if_ne (tgt := 78) dX4_visit_71 (by decide) (fun hc => ?_) (fun hc => ?_)
    · have hF := zif_f hc hF
      refine z_iconst (v := 0) dX4_visit_78 (by decide) ?_
      refine z_sub [2, 1] rfl ?_
      exact wbX4_visit_79 hf  v2387 0 _ hF
    · have hF := zif_t hc hF
      refine z_iconst (v := 1) dX4_visit_74 (by decide) ?_
      refine z_goto (tgt := 79) dX4_visit_75 (by decide) ?_
      refine z_sub [2, 1] rfl ?_
      exact wbX4_visit_79 hf  v2387 1 _ hF
-- SessionHouse.run(I)I
theorem dX11_run_0 : decode cX11_run 0 = .ok (.iload_n 1, 1) := by decide +kernel
theorem dX11_run_1 : decode cX11_run 1 = .ok (.ifCond .lt 10, 3) := by decide +kernel
theorem dX11_run_4 : decode cX11_run 4 = .ok (.iload_n 1, 1) := by decide +kernel
theorem dX11_run_5 : decode cX11_run 5 = .ok (.sipush 20000, 3) := by decide +kernel
theorem dX11_run_8 : decode cX11_run 8 = .ok (.if_icmp .le 5, 3) := by decide +kernel
theorem dX11_run_11 : decode cX11_run 11 = .ok (.iconst (-1), 1) := by decide +kernel
theorem dX11_run_12 : decode cX11_run 12 = .ok (.ireturn, 1) := by decide +kernel
theorem dX11_run_13 : decode cX11_run 13 = .ok (.iconst 0, 1) := by decide +kernel
theorem dX11_run_14 : decode cX11_run 14 = .ok (.istore_n 2, 1) := by decide +kernel
theorem dX11_run_15 : decode cX11_run 15 = .ok (.iload_n 2, 1) := by decide +kernel
theorem dX11_run_16 : decode cX11_run 16 = .ok (.iload_n 1, 1) := by decide +kernel
theorem dX11_run_17 : decode cX11_run 17 = .ok (.if_icmp .ge 26, 3) := by decide +kernel
theorem dX11_run_20 : decode cX11_run 20 = .ok (.aload_n 0, 1) := by decide +kernel
theorem dX11_run_21 : decode cX11_run 21 = .ok (.getfield 58, 3) := by decide +kernel
theorem dX11_run_24 : decode cX11_run 24 = .ok (.getfield 108, 3) := by decide +kernel
theorem dX11_run_27 : decode cX11_run 27 = .ok (.ifCond .ne 16, 3) := by decide +kernel
theorem dX11_run_30 : decode cX11_run 30 = .ok (.aload_n 0, 1) := by decide +kernel
theorem dX11_run_31 : decode cX11_run 31 = .ok (.getfield 58, 3) := by decide +kernel
theorem dX11_run_34 : decode cX11_run 34 = .ok (.invokevirtual 111, 3) := by decide +kernel
theorem dX11_run_37 : decode cX11_run 37 = .ok (.iinc 2 1, 3) := by decide +kernel
theorem dX11_run_40 : decode cX11_run 40 = .ok (.goto (-25), 3) := by decide +kernel
theorem dX11_run_43 : decode cX11_run 43 = .ok (.aload_n 0, 1) := by decide +kernel
theorem dX11_run_44 : decode cX11_run 44 = .ok (.getfield 58, 3) := by decide +kernel
theorem dX11_run_47 : decode cX11_run 47 = .ok (.getfield 108, 3) := by decide +kernel
theorem dX11_run_50 : decode cX11_run 50 = .ok (.ireturn, 1) := by decide +kernel
def bX11_run_15 (k15 : Int32 → Int32 → zS → zR) (x1 : Int32) (x2 : Int32) (t : zS) : zR := if x1 ≤ x2 then some ((t 7 16), t) else if (t 7 16) = 0 then zbd (mX4_visit  t) fun r2412 t2413 => zlet (x2 + 1) fun v2415 => k15 x1 v2415 t2413 else some ((t 7 16), t)
def lX11_run_15 : Nat → Int32 → Int32 → zS → zR
  | 0, _, _, _ => none
  | fu + 1, x1, x2, t => bX11_run_15 (lX11_run_15  fu) x1 x2 t
def mX11_run (x1 : Int32) (t : zS) : zR := if x1 < 0 then some ((-1), t) else if x1 ≤ 20000 then lX11_run_15  zFU x1 0 t else some ((-1), t)
set_option maxHeartbeats 4000000 in
set_option maxRecDepth 20000 in
theorem wbX11_run_15 {E : zE} {C : zC} {f : Nat} {ro : Int32 × zS} (hf : 8 ≤ f) (k15 : Int32 → Int32 → zS → zR) (hk15 : ∀ (x1 x2 : Int32) (t : zS), k15 x1 x2 t = some ro → zJ E shC C cX11_run RX11 3 f (some .int) ro t 15 [(0, .ref (za E 0)), (1, .int x1), (2, .int x2)] []) (x1 : Int32) (x2 : Int32) (t : zS) (hF : bX11_run_15 k15 x1 x2 t = some ro) : zJ E shC C cX11_run RX11 3 f (some .int) ro t 15 [(0, .ref (za E 0)), (1, .int x1), (2, .int x2)] [] := by
  unfold bX11_run_15 at hF
  refine z_iload_n 2 dX11_run_15 rfl rfl ?_
  refine z_iload_n 1 dX11_run_16 rfl rfl ?_
  refine z_icmp_ge (tgt := 43) dX11_run_17 (by decide) (fun hc => ?_) (fun hc => ?_)
  · have hF := zif_t hc hF
    refine z_aload_n 0 dX11_run_43 rfl rfl ?_
    refine z_getr fr_RX11_58 dX11_run_44 ?_
    refine z_geti fi_RX11_108 dX11_run_47 ?_
    exact z_iret hF dX11_run_50
  · have hF := zif_f hc hF
    refine z_aload_n 0 dX11_run_20 rfl rfl ?_
    refine z_getr fr_RX11_58 dX11_run_21 ?_
    refine z_geti fi_RX11_108 dX11_run_24 ?_
    refine z_if_ne (tgt := 43) dX11_run_27 (by decide) (fun hc => ?_) (fun hc => ?_)
    · have hF := zif_f hc hF
      refine z_aload_n 0 dX11_run_43 rfl rfl ?_
      refine z_getr fr_RX11_58 dX11_run_44 ?_
      refine z_geti fi_RX11_108 dX11_run_47 ?_
      exact z_iret hF dX11_run_50
    · have hF := zif_t hc hF
      refine z_aload_n 0 dX11_run_30 rfl rfl ?_
      refine z_getr fr_RX11_58 dX11_run_31 ?_
      obtain ⟨r2412, t2413, hc2414, hF⟩ := zbd_at hF
      refine z_callVv (ctX4_visit (E := E) (f := f - 1) (by omega) hc2414) yy_X4_visit yv_X4_visit ob_C_7 lk_RX11_111 (by omega) rfl rfl (Nat.le_of_ble_eq_true rfl) dX11_run_34 ?_
      obtain ⟨v2415, ev2415⟩ : ∃ y : Int32, y = (x2 + 1) := ⟨_, rfl⟩
      have hF := zlet_at ev2415 hF
      refine z_iinc (v := v2415) (lv' := [(2, .int v2415), (0, .ref (za E 0)), (1, .int x1)]) (k := 2) dX11_run_37 rfl (by rw [ev2415]; rfl) (by decide) rfl ?_
      refine z_goto (tgt := 15) dX11_run_40 (by decide) ?_
      refine z_sub [1, 2, 0] rfl ?_
      exact hk15 x1 v2415 _ hF
set_option maxHeartbeats 4000000 in
set_option maxRecDepth 20000 in
theorem wlX11_run_15 {E : zE} {C : zC} {f : Nat} {ro : Int32 × zS} (hf : 8 ≤ f) (fu : Nat) : ∀ (x1 x2 : Int32) (t : zS), lX11_run_15  fu x1 x2 t = some ro → zJ E shC C cX11_run RX11 3 f (some .int) ro t 15 [(0, .ref (za E 0)), (1, .int x1), (2, .int x2)] [] := by
  induction fu with
  | zero => intro x1 x2 t hF; cases hF
  | succ fu ih => intro x1 x2 t hF; exact wbX11_run_15 hf (lX11_run_15  fu) ih x1 x2 t hF
set_option maxHeartbeats 4000000 in
set_option maxRecDepth 20000 in
theorem ctX11_run {E : zE} {f : Nat} (hf : 8 ≤ f) {x1 : Int32} {t : zS} {ro : Int32 × zS} (hF : mX11_run  x1 t = some ro) : zM E shC f yX11_run cX11_run 3 (some .int) [.ref (za E 0), .int x1] t ro := by
  refine zM_of (by decide) (Nat.le_of_ble_eq_true rfl) (fun C => ?_)
  show zJ E shC C cX11_run RX11 3 f (some .int) ro t 0 [(0, .ref (za E 0)), (1, .int x1)] []
  unfold mX11_run at hF
  refine z_iload_n 1 dX11_run_0 rfl rfl ?_
  refine z_if_lt (tgt := 11) dX11_run_1 (by decide) (fun hc => ?_) (fun hc => ?_)
  · have hF := zif_t hc hF
    refine z_iconst (v := (-1)) dX11_run_11 (by decide) ?_
    exact z_iret hF dX11_run_12
  · have hF := zif_f hc hF
    refine z_iload_n 1 dX11_run_4 rfl rfl ?_
    refine z_sipush (v := 20000) dX11_run_5 (by decide) ?_
    refine z_icmp_le (tgt := 13) dX11_run_8 (by decide) (fun hc => ?_) (fun hc => ?_)
    · have hF := zif_t hc hF
      refine z_iconst (v := 0) dX11_run_13 (by decide) ?_
      refine z_istore_n (lv' := [(2, .int 0), (0, .ref (za E 0)), (1, .int x1)]) dX11_run_14 rfl (by decide) rfl ?_
      refine z_sub [1, 2, 0] rfl ?_
      exact wlX11_run_15 hf  zFU x1 0 _ hF
    · have hF := zif_f hc hF
      refine z_iconst (v := (-1)) dX11_run_11 (by decide) ?_
      exact z_iret hF dX11_run_12
-- SessionHouse$House.outputAt(I)I
theorem dX4_outputAt_0 : decode cX4_outputAt 0 = .ok (.iload_n 1, 1) := by decide +kernel
theorem dX4_outputAt_1 : decode cX4_outputAt 1 = .ok (.ifCond .lt 29, 3) := by decide +kernel
theorem dX4_outputAt_4 : decode cX4_outputAt 4 = .ok (.iload_n 1, 1) := by decide +kernel
theorem dX4_outputAt_5 : decode cX4_outputAt 5 = .ok (.aload_n 0, 1) := by decide +kernel
theorem dX4_outputAt_6 : decode cX4_outputAt 6 = .ok (.getfield 66, 3) := by decide +kernel
theorem dX4_outputAt_9 : decode cX4_outputAt 9 = .ok (.if_icmp .ge 21, 3) := by decide +kernel
theorem dX4_outputAt_12 : decode cX4_outputAt 12 = .ok (.iload_n 1, 1) := by decide +kernel
theorem dX4_outputAt_13 : decode cX4_outputAt 13 = .ok (.sipush 500, 3) := by decide +kernel
theorem dX4_outputAt_16 : decode cX4_outputAt 16 = .ok (.if_icmp .ge 14, 3) := by decide +kernel
theorem dX4_outputAt_19 : decode cX4_outputAt 19 = .ok (.aload_n 0, 1) := by decide +kernel
theorem dX4_outputAt_20 : decode cX4_outputAt 20 = .ok (.getfield 37, 3) := by decide +kernel
theorem dX4_outputAt_23 : decode cX4_outputAt 23 = .ok (.iload_n 1, 1) := by decide +kernel
theorem dX4_outputAt_24 : decode cX4_outputAt 24 = .ok (.invokevirtual 99, 3) := by decide +kernel
theorem dX4_outputAt_27 : decode cX4_outputAt 27 = .ok (.goto 4, 3) := by decide +kernel
theorem dX4_outputAt_30 : decode cX4_outputAt 30 = .ok (.iconst 0, 1) := by decide +kernel
theorem dX4_outputAt_31 : decode cX4_outputAt 31 = .ok (.ireturn, 1) := by decide +kernel
def mX4_outputAt (x1 : Int32) (t : zS) : zR := if x1 < 0 then some (0, t) else if (t 7 10) ≤ x1 then some (0, t) else if 500 ≤ x1 then some (0, t) else zbd (mX5_get 65 500 x1 t) fun r2416 t2417 => some (r2416, t2417)
set_option maxHeartbeats 4000000 in
set_option maxRecDepth 20000 in
theorem ctX4_outputAt {E : zE} {f : Nat} (hf : 2 ≤ f) {x1 : Int32} {t : zS} {ro : Int32 × zS} (hF : mX4_outputAt  x1 t = some ro) : zM E shC f yX4_outputAt cX4_outputAt 2 (some .int) [.ref (za E 7), .int x1] t ro := by
  refine zM_of (by decide) (Nat.le_of_ble_eq_true rfl) (fun C => ?_)
  show zJ E shC C cX4_outputAt RX4 2 f (some .int) ro t 0 [(0, .ref (za E 7)), (1, .int x1)] []
  unfold mX4_outputAt at hF
  refine z_iload_n 1 dX4_outputAt_0 rfl rfl ?_
  refine z_if_lt (tgt := 30) dX4_outputAt_1 (by decide) (fun hc => ?_) (fun hc => ?_)
  · have hF := zif_t hc hF
    refine z_iconst (v := 0) dX4_outputAt_30 (by decide) ?_
    exact z_iret hF dX4_outputAt_31
  · have hF := zif_f hc hF
    refine z_iload_n 1 dX4_outputAt_4 rfl rfl ?_
    refine z_aload_n 0 dX4_outputAt_5 rfl rfl ?_
    refine z_geti fi_RX4_66 dX4_outputAt_6 ?_
    refine z_icmp_ge (tgt := 30) dX4_outputAt_9 (by decide) (fun hc => ?_) (fun hc => ?_)
    · have hF := zif_t hc hF
      refine z_iconst (v := 0) dX4_outputAt_30 (by decide) ?_
      exact z_iret hF dX4_outputAt_31
    · have hF := zif_f hc hF
      refine z_iload_n 1 dX4_outputAt_12 rfl rfl ?_
      refine z_sipush (v := 500) dX4_outputAt_13 (by decide) ?_
      refine z_icmp_ge (tgt := 30) dX4_outputAt_16 (by decide) (fun hc => ?_) (fun hc => ?_)
      · have hF := zif_t hc hF
        refine z_iconst (v := 0) dX4_outputAt_30 (by decide) ?_
        exact z_iret hF dX4_outputAt_31
      · have hF := zif_f hc hF
        refine z_aload_n 0 dX4_outputAt_19 rfl rfl ?_
        refine z_getr fr_RX4_37 dX4_outputAt_20 ?_
        refine z_iload_n 1 dX4_outputAt_23 rfl rfl ?_
        obtain ⟨r2416, t2417, hc2418, hF⟩ := zbd_at hF
        refine z_callVi (ctX5_get (E := E) (sh := shC) (f := f - 1) (by omega) (k := 65) (n := 500) rfl rfl hc2418) yy_X5_get yv_X5_get ob_C_65 lk_RX4_99 (by omega) rfl rfl (Nat.le_of_ble_eq_true rfl) dX4_outputAt_24 ?_
        refine z_goto (tgt := 31) dX4_outputAt_27 (by decide) ?_
        exact z_iret hF dX4_outputAt_31
-- SessionHouse.output(I)I
theorem dX11_output_0 : decode cX11_output 0 = .ok (.aload_n 0, 1) := by decide +kernel
theorem dX11_output_1 : decode cX11_output 1 = .ok (.getfield 58, 3) := by decide +kernel
theorem dX11_output_4 : decode cX11_output 4 = .ok (.iload_n 1, 1) := by decide +kernel
theorem dX11_output_5 : decode cX11_output 5 = .ok (.invokevirtual 114, 3) := by decide +kernel
theorem dX11_output_8 : decode cX11_output 8 = .ok (.ireturn, 1) := by decide +kernel
def mX11_output (x1 : Int32) (t : zS) : zR := zbd (mX4_outputAt x1 t) fun r2419 t2420 => some (r2419, t2420)
set_option maxHeartbeats 4000000 in
set_option maxRecDepth 20000 in
theorem ctX11_output {E : zE} {f : Nat} (hf : 3 ≤ f) {x1 : Int32} {t : zS} {ro : Int32 × zS} (hF : mX11_output  x1 t = some ro) : zM E shC f yX11_output cX11_output 2 (some .int) [.ref (za E 0), .int x1] t ro := by
  refine zM_of (by decide) (Nat.le_of_ble_eq_true rfl) (fun C => ?_)
  show zJ E shC C cX11_output RX11 2 f (some .int) ro t 0 [(0, .ref (za E 0)), (1, .int x1)] []
  unfold mX11_output at hF
  refine z_aload_n 0 dX11_output_0 rfl rfl ?_
  refine z_getr fr_RX11_58 dX11_output_1 ?_
  refine z_iload_n 1 dX11_output_4 rfl rfl ?_
  obtain ⟨r2419, t2420, hc2421, hF⟩ := zbd_at hF
  refine z_callVi (ctX4_outputAt (E := E) (f := f - 1) (by omega) hc2421) yy_X4_outputAt yv_X4_outputAt ob_C_7 lk_RX11_114 (by omega) rfl rfl (Nat.le_of_ble_eq_true rfl) dX11_output_5 ?_
  exact z_iret hF dX11_output_8
-- SessionHouse$House.tally(I)I
theorem dX4_tally_0 : decode cX4_tally 0 = .ok (.iload_n 1, 1) := by decide +kernel
theorem dX4_tally_1 : decode cX4_tally 1 = .ok (.tableswitch 108 0 8 #[51, 56, 61, 69, 77, 82, 90, 98, 103], 51) := by decide +kernel
theorem dX4_tally_52 : decode cX4_tally 52 = .ok (.aload_n 0, 1) := by decide +kernel
theorem dX4_tally_53 : decode cX4_tally 53 = .ok (.getfield 69, 3) := by decide +kernel
theorem dX4_tally_56 : decode cX4_tally 56 = .ok (.ireturn, 1) := by decide +kernel
theorem dX4_tally_57 : decode cX4_tally 57 = .ok (.aload_n 0, 1) := by decide +kernel
theorem dX4_tally_58 : decode cX4_tally 58 = .ok (.getfield 72, 3) := by decide +kernel
theorem dX4_tally_61 : decode cX4_tally 61 = .ok (.ireturn, 1) := by decide +kernel
theorem dX4_tally_62 : decode cX4_tally 62 = .ok (.aload_n 0, 1) := by decide +kernel
theorem dX4_tally_63 : decode cX4_tally 63 = .ok (.getfield 21, 3) := by decide +kernel
theorem dX4_tally_66 : decode cX4_tally 66 = .ok (.getfield 121, 3) := by decide +kernel
theorem dX4_tally_69 : decode cX4_tally 69 = .ok (.ireturn, 1) := by decide +kernel
theorem dX4_tally_70 : decode cX4_tally 70 = .ok (.aload_n 0, 1) := by decide +kernel
theorem dX4_tally_71 : decode cX4_tally 71 = .ok (.getfield 21, 3) := by decide +kernel
theorem dX4_tally_74 : decode cX4_tally 74 = .ok (.getfield 285, 3) := by decide +kernel
theorem dX4_tally_77 : decode cX4_tally 77 = .ok (.ireturn, 1) := by decide +kernel
theorem dX4_tally_78 : decode cX4_tally 78 = .ok (.aload_n 0, 1) := by decide +kernel
theorem dX4_tally_79 : decode cX4_tally 79 = .ok (.getfield 75, 3) := by decide +kernel
theorem dX4_tally_82 : decode cX4_tally 82 = .ok (.ireturn, 1) := by decide +kernel
theorem dX4_tally_83 : decode cX4_tally 83 = .ok (.aload_n 0, 1) := by decide +kernel
theorem dX4_tally_84 : decode cX4_tally 84 = .ok (.getfield 12, 3) := by decide +kernel
theorem dX4_tally_87 : decode cX4_tally 87 = .ok (.getfield 288, 3) := by decide +kernel
theorem dX4_tally_90 : decode cX4_tally 90 = .ok (.ireturn, 1) := by decide +kernel
theorem dX4_tally_91 : decode cX4_tally 91 = .ok (.aload_n 0, 1) := by decide +kernel
theorem dX4_tally_92 : decode cX4_tally 92 = .ok (.getfield 12, 3) := by decide +kernel
theorem dX4_tally_95 : decode cX4_tally 95 = .ok (.getfield 289, 3) := by decide +kernel
theorem dX4_tally_98 : decode cX4_tally 98 = .ok (.ireturn, 1) := by decide +kernel
theorem dX4_tally_99 : decode cX4_tally 99 = .ok (.aload_n 0, 1) := by decide +kernel
theorem dX4_tally_100 : decode cX4_tally 100 = .ok (.getfield 66, 3) := by decide +kernel
theorem dX4_tally_103 : decode cX4_tally 103 = .ok (.ireturn, 1) := by decide +kernel
theorem dX4_tally_104 : decode cX4_tally 104 = .ok (.aload_n 0, 1) := by decide +kernel
theorem dX4_tally_105 : decode cX4_tally 105 = .ok (.getfield 59, 3) := by decide +kernel
theorem dX4_tally_108 : decode cX4_tally 108 = .ok (.ireturn, 1) := by decide +kernel
theorem dX4_tally_109 : decode cX4_tally 109 = .ok (.iconst (-1), 1) := by decide +kernel
theorem dX4_tally_110 : decode cX4_tally 110 = .ok (.ireturn, 1) := by decide +kernel
def mX4_tally (x1 : Int32) (t : zS) : zR := if x1 = 0 then some ((t 7 11), t) else if x1 = 1 then some ((t 7 12), t) else if x1 = 2 then some ((t 60 16), t) else if x1 = 3 then some ((t 60 17), t) else if x1 = 4 then some ((t 7 14), t) else if x1 = 5 then some ((t 59 8), t) else if x1 = 6 then some ((t 59 9), t) else if x1 = 7 then some ((t 7 10), t) else if x1 = 8 then some ((t 7 9), t) else some ((-1), t)
set_option maxHeartbeats 4000000 in
set_option maxRecDepth 20000 in
theorem ctX4_tally {E : zE} {f : Nat} (hf : 1 ≤ f) {x1 : Int32} {t : zS} {ro : Int32 × zS} (hF : mX4_tally  x1 t = some ro) : zM E shC f yX4_tally cX4_tally 2 (some .int) [.ref (za E 7), .int x1] t ro := by
  refine zM_of (by decide) (Nat.le_of_ble_eq_true rfl) (fun C => ?_)
  show zJ E shC C cX4_tally RX4 2 f (some .int) ro t 0 [(0, .ref (za E 7)), (1, .int x1)] []
  unfold mX4_tally at hF
  refine z_iload_n 1 dX4_tally_0 rfl rfl ?_
  by_cases hc : x1 = 0
  · have hF := zif_t hc hF
    refine z_tabIn (tgt := 52) dX4_tally_1 (by rw [hc]; decide) (by rw [hc]; decide) (by rw [hc]; rfl) (by decide) ?_
    refine z_aload_n 0 dX4_tally_52 rfl rfl ?_
    refine z_geti fi_RX4_69 dX4_tally_53 ?_
    exact z_iret hF dX4_tally_56
  have hF := zif_f hc hF
  have hn2422 := hc; clear hc
  by_cases hc : x1 = 1
  · have hF := zif_t hc hF
    refine z_tabIn (tgt := 57) dX4_tally_1 (by rw [hc]; decide) (by rw [hc]; decide) (by rw [hc]; rfl) (by decide) ?_
    refine z_aload_n 0 dX4_tally_57 rfl rfl ?_
    refine z_geti fi_RX4_72 dX4_tally_58 ?_
    exact z_iret hF dX4_tally_61
  have hF := zif_f hc hF
  have hn2423 := hc; clear hc
  by_cases hc : x1 = 2
  · have hF := zif_t hc hF
    refine z_tabIn (tgt := 62) dX4_tally_1 (by rw [hc]; decide) (by rw [hc]; decide) (by rw [hc]; rfl) (by decide) ?_
    refine z_aload_n 0 dX4_tally_62 rfl rfl ?_
    refine z_getr fr_RX4_21 dX4_tally_63 ?_
    refine z_geti fi_RX4_121 dX4_tally_66 ?_
    exact z_iret hF dX4_tally_69
  have hF := zif_f hc hF
  have hn2424 := hc; clear hc
  by_cases hc : x1 = 3
  · have hF := zif_t hc hF
    refine z_tabIn (tgt := 70) dX4_tally_1 (by rw [hc]; decide) (by rw [hc]; decide) (by rw [hc]; rfl) (by decide) ?_
    refine z_aload_n 0 dX4_tally_70 rfl rfl ?_
    refine z_getr fr_RX4_21 dX4_tally_71 ?_
    refine z_geti fi_RX4_285 dX4_tally_74 ?_
    exact z_iret hF dX4_tally_77
  have hF := zif_f hc hF
  have hn2425 := hc; clear hc
  by_cases hc : x1 = 4
  · have hF := zif_t hc hF
    refine z_tabIn (tgt := 78) dX4_tally_1 (by rw [hc]; decide) (by rw [hc]; decide) (by rw [hc]; rfl) (by decide) ?_
    refine z_aload_n 0 dX4_tally_78 rfl rfl ?_
    refine z_geti fi_RX4_75 dX4_tally_79 ?_
    exact z_iret hF dX4_tally_82
  have hF := zif_f hc hF
  have hn2426 := hc; clear hc
  by_cases hc : x1 = 5
  · have hF := zif_t hc hF
    refine z_tabIn (tgt := 83) dX4_tally_1 (by rw [hc]; decide) (by rw [hc]; decide) (by rw [hc]; rfl) (by decide) ?_
    refine z_aload_n 0 dX4_tally_83 rfl rfl ?_
    refine z_getr fr_RX4_12 dX4_tally_84 ?_
    refine z_geti fi_RX4_288 dX4_tally_87 ?_
    exact z_iret hF dX4_tally_90
  have hF := zif_f hc hF
  have hn2427 := hc; clear hc
  by_cases hc : x1 = 6
  · have hF := zif_t hc hF
    refine z_tabIn (tgt := 91) dX4_tally_1 (by rw [hc]; decide) (by rw [hc]; decide) (by rw [hc]; rfl) (by decide) ?_
    refine z_aload_n 0 dX4_tally_91 rfl rfl ?_
    refine z_getr fr_RX4_12 dX4_tally_92 ?_
    refine z_geti fi_RX4_289 dX4_tally_95 ?_
    exact z_iret hF dX4_tally_98
  have hF := zif_f hc hF
  have hn2428 := hc; clear hc
  by_cases hc : x1 = 7
  · have hF := zif_t hc hF
    refine z_tabIn (tgt := 99) dX4_tally_1 (by rw [hc]; decide) (by rw [hc]; decide) (by rw [hc]; rfl) (by decide) ?_
    refine z_aload_n 0 dX4_tally_99 rfl rfl ?_
    refine z_geti fi_RX4_66 dX4_tally_100 ?_
    exact z_iret hF dX4_tally_103
  have hF := zif_f hc hF
  have hn2429 := hc; clear hc
  by_cases hc : x1 = 8
  · have hF := zif_t hc hF
    refine z_tabIn (tgt := 104) dX4_tally_1 (by rw [hc]; decide) (by rw [hc]; decide) (by rw [hc]; rfl) (by decide) ?_
    refine z_aload_n 0 dX4_tally_104 rfl rfl ?_
    refine z_geti fi_RX4_59 dX4_tally_105 ?_
    exact z_iret hF dX4_tally_108
  have hF := zif_f hc hF
  have hn2430 := hc; clear hc
  have hO : (x1).toInt < 0 ∨ 8 < (x1).toInt := by
    have qhn2422 := lv_neT (a := 0) hn2422 (by decide)
    have qhn2423 := lv_neT (a := 1) hn2423 (by decide)
    have qhn2424 := lv_neT (a := 2) hn2424 (by decide)
    have qhn2425 := lv_neT (a := 3) hn2425 (by decide)
    have qhn2426 := lv_neT (a := 4) hn2426 (by decide)
    have qhn2427 := lv_neT (a := 5) hn2427 (by decide)
    have qhn2428 := lv_neT (a := 6) hn2428 (by decide)
    have qhn2429 := lv_neT (a := 7) hn2429 (by decide)
    have qhn2430 := lv_neT (a := 8) hn2430 (by decide)
    omega
  refine z_tabOut (tgt := 109) dX4_tally_1 hO (by decide) ?_
  refine z_iconst (v := (-1)) dX4_tally_109 (by decide) ?_
  exact z_iret hF dX4_tally_110
-- SessionHouse.count(I)I
theorem dX11_count_0 : decode cX11_count 0 = .ok (.iload_n 1, 1) := by decide +kernel
theorem dX11_count_1 : decode cX11_count 1 = .ok (.bipush 9, 2) := by decide +kernel
theorem dX11_count_3 : decode cX11_count 3 = .ok (.if_icmp .ne 10, 3) := by decide +kernel
theorem dX11_count_6 : decode cX11_count 6 = .ok (.aload_n 0, 1) := by decide +kernel
theorem dX11_count_7 : decode cX11_count 7 = .ok (.getfield 70, 3) := by decide +kernel
theorem dX11_count_10 : decode cX11_count 10 = .ok (.goto 11, 3) := by decide +kernel
theorem dX11_count_13 : decode cX11_count 13 = .ok (.aload_n 0, 1) := by decide +kernel
theorem dX11_count_14 : decode cX11_count 14 = .ok (.getfield 58, 3) := by decide +kernel
theorem dX11_count_17 : decode cX11_count 17 = .ok (.iload_n 1, 1) := by decide +kernel
theorem dX11_count_18 : decode cX11_count 18 = .ok (.invokevirtual 117, 3) := by decide +kernel
theorem dX11_count_21 : decode cX11_count 21 = .ok (.ireturn, 1) := by decide +kernel
def mX11_count (x1 : Int32) (t : zS) : zR := if x1 = 9 then some ((t 0 6), t) else zbd (mX4_tally x1 t) fun r2431 t2432 => some (r2431, t2432)
set_option maxHeartbeats 4000000 in
set_option maxRecDepth 20000 in
theorem ctX11_count {E : zE} {f : Nat} (hf : 2 ≤ f) {x1 : Int32} {t : zS} {ro : Int32 × zS} (hF : mX11_count  x1 t = some ro) : zM E shC f yX11_count cX11_count 2 (some .int) [.ref (za E 0), .int x1] t ro := by
  refine zM_of (by decide) (Nat.le_of_ble_eq_true rfl) (fun C => ?_)
  show zJ E shC C cX11_count RX11 2 f (some .int) ro t 0 [(0, .ref (za E 0)), (1, .int x1)] []
  unfold mX11_count at hF
  refine z_iload_n 1 dX11_count_0 rfl rfl ?_
  refine z_bipush (v := 9) dX11_count_1 (by decide) ?_
  refine z_icmp_ne (tgt := 13) dX11_count_3 (by decide) (fun hc => ?_) (fun hc => ?_)
  · have hF := zif_f hc hF
    refine z_aload_n 0 dX11_count_13 rfl rfl ?_
    refine z_getr fr_RX11_58 dX11_count_14 ?_
    refine z_iload_n 1 dX11_count_17 rfl rfl ?_
    obtain ⟨r2431, t2432, hc2433, hF⟩ := zbd_at hF
    refine z_callVi (ctX4_tally (E := E) (f := f - 1) (by omega) hc2433) yy_X4_tally yv_X4_tally ob_C_7 lk_RX11_117 (by omega) rfl rfl (Nat.le_of_ble_eq_true rfl) dX11_count_18 ?_
    exact z_iret hF dX11_count_21
  · have hF := zif_t hc hF
    refine z_aload_n 0 dX11_count_6 rfl rfl ?_
    refine z_geti fi_RX11_70 dX11_count_7 ?_
    refine z_goto (tgt := 21) dX11_count_10 (by decide) ?_
    exact z_iret hF dX11_count_21
-- SessionHouse$Ring.pick(I)I
theorem dX8_pick_0 : decode cX8_pick 0 = .ok (.iload_n 1, 1) := by decide +kernel
theorem dX8_pick_1 : decode cX8_pick 1 = .ok (.ifCond .lt 11, 3) := by decide +kernel
theorem dX8_pick_4 : decode cX8_pick 4 = .ok (.iload_n 1, 1) := by decide +kernel
theorem dX8_pick_5 : decode cX8_pick 5 = .ok (.aload_n 0, 1) := by decide +kernel
theorem dX8_pick_6 : decode cX8_pick 6 = .ok (.getfield 66, 3) := by decide +kernel
theorem dX8_pick_9 : decode cX8_pick 9 = .ok (.if_icmp .lt 5, 3) := by decide +kernel
theorem dX8_pick_12 : decode cX8_pick 12 = .ok (.iconst (-1), 1) := by decide +kernel
theorem dX8_pick_13 : decode cX8_pick 13 = .ok (.ireturn, 1) := by decide +kernel
theorem dX8_pick_14 : decode cX8_pick 14 = .ok (.aload_n 0, 1) := by decide +kernel
theorem dX8_pick_15 : decode cX8_pick 15 = .ok (.getfield 47, 3) := by decide +kernel
theorem dX8_pick_18 : decode cX8_pick 18 = .ok (.istore_n 2, 1) := by decide +kernel
theorem dX8_pick_19 : decode cX8_pick 19 = .ok (.iconst 0, 1) := by decide +kernel
theorem dX8_pick_20 : decode cX8_pick 20 = .ok (.istore_n 3, 1) := by decide +kernel
theorem dX8_pick_21 : decode cX8_pick 21 = .ok (.iload_n 3, 1) := by decide +kernel
theorem dX8_pick_22 : decode cX8_pick 22 = .ok (.iload_n 1, 1) := by decide +kernel
theorem dX8_pick_23 : decode cX8_pick 23 = .ok (.if_icmp .ge 18, 3) := by decide +kernel
theorem dX8_pick_26 : decode cX8_pick 26 = .ok (.aload_n 0, 1) := by decide +kernel
theorem dX8_pick_27 : decode cX8_pick 27 = .ok (.getfield 32, 3) := by decide +kernel
theorem dX8_pick_30 : decode cX8_pick 30 = .ok (.iload_n 2, 1) := by decide +kernel
theorem dX8_pick_31 : decode cX8_pick 31 = .ok (.invokevirtual 72, 3) := by decide +kernel
theorem dX8_pick_34 : decode cX8_pick 34 = .ok (.istore_n 2, 1) := by decide +kernel
theorem dX8_pick_35 : decode cX8_pick 35 = .ok (.iinc 3 1, 3) := by decide +kernel
theorem dX8_pick_38 : decode cX8_pick 38 = .ok (.goto (-17), 3) := by decide +kernel
theorem dX8_pick_41 : decode cX8_pick 41 = .ok (.iload_n 2, 1) := by decide +kernel
theorem dX8_pick_42 : decode cX8_pick 42 = .ok (.ireturn, 1) := by decide +kernel
def bX8_pick_21 (k21 : Int32 → Int32 → Int32 → zS → zR) (x1 : Int32) (x2 : Int32) (x3 : Int32) (t : zS) : zR := if x1 ≤ x3 then some (x2, t) else zbd (mX5_get 136 2501 x2 t) fun r2434 t2435 => zlet (x3 + 1) fun v2437 => k21 x1 r2434 v2437 t2435
def lX8_pick_21 : Nat → Int32 → Int32 → Int32 → zS → zR
  | 0, _, _, _, _ => none
  | fu + 1, x1, x2, x3, t => bX8_pick_21 (lX8_pick_21  fu) x1 x2 x3 t
def mX8_pick (x1 : Int32) (t : zS) : zR := if x1 < 0 then some ((-1), t) else if x1 < (t 60 16) then zlet (t 60 10) fun v2438 => lX8_pick_21  zFU x1 v2438 0 t else some ((-1), t)
set_option maxHeartbeats 4000000 in
set_option maxRecDepth 20000 in
theorem wbX8_pick_21 {E : zE} {C : zC} {f : Nat} {ro : Int32 × zS} (hf : 2 ≤ f) (k21 : Int32 → Int32 → Int32 → zS → zR) (hk21 : ∀ (x1 x2 x3 : Int32) (t : zS), k21 x1 x2 x3 t = some ro → zJ E shC C cX8_pick RX8 4 f (some .int) ro t 21 [(0, .ref (za E 60)), (1, .int x1), (2, .int x2), (3, .int x3)] []) (x1 : Int32) (x2 : Int32) (x3 : Int32) (t : zS) (hF : bX8_pick_21 k21 x1 x2 x3 t = some ro) : zJ E shC C cX8_pick RX8 4 f (some .int) ro t 21 [(0, .ref (za E 60)), (1, .int x1), (2, .int x2), (3, .int x3)] [] := by
  unfold bX8_pick_21 at hF
  refine z_iload_n 3 dX8_pick_21 rfl rfl ?_
  refine z_iload_n 1 dX8_pick_22 rfl rfl ?_
  refine z_icmp_ge (tgt := 41) dX8_pick_23 (by decide) (fun hc => ?_) (fun hc => ?_)
  · have hF := zif_t hc hF
    refine z_iload_n 2 dX8_pick_41 rfl rfl ?_
    exact z_iret hF dX8_pick_42
  · have hF := zif_f hc hF
    refine z_aload_n 0 dX8_pick_26 rfl rfl ?_
    refine z_getr fr_RX8_32 dX8_pick_27 ?_
    refine z_iload_n 2 dX8_pick_30 rfl rfl ?_
    obtain ⟨r2434, t2435, hc2436, hF⟩ := zbd_at hF
    refine z_callVi (ctX5_get (E := E) (sh := shC) (f := f - 1) (by omega) (k := 136) (n := 2501) rfl rfl hc2436) yy_X5_get yv_X5_get ob_C_136 lk_RX8_72 (by omega) rfl rfl (Nat.le_of_ble_eq_true rfl) dX8_pick_31 ?_
    refine z_istore_n (lv' := [(2, .int r2434), (0, .ref (za E 60)), (1, .int x1), (3, .int x3)]) dX8_pick_34 rfl (by decide) rfl ?_
    obtain ⟨v2437, ev2437⟩ : ∃ y : Int32, y = (x3 + 1) := ⟨_, rfl⟩
    have hF := zlet_at ev2437 hF
    refine z_iinc (v := v2437) (lv' := [(3, .int v2437), (2, .int r2434), (0, .ref (za E 60)), (1, .int x1)]) (k := 3) dX8_pick_35 rfl (by rw [ev2437]; rfl) (by decide) rfl ?_
    refine z_goto (tgt := 21) dX8_pick_38 (by decide) ?_
    refine z_sub [2, 3, 1, 0] rfl ?_
    exact hk21 x1 r2434 v2437 _ hF
set_option maxHeartbeats 4000000 in
set_option maxRecDepth 20000 in
theorem wlX8_pick_21 {E : zE} {C : zC} {f : Nat} {ro : Int32 × zS} (hf : 2 ≤ f) (fu : Nat) : ∀ (x1 x2 x3 : Int32) (t : zS), lX8_pick_21  fu x1 x2 x3 t = some ro → zJ E shC C cX8_pick RX8 4 f (some .int) ro t 21 [(0, .ref (za E 60)), (1, .int x1), (2, .int x2), (3, .int x3)] [] := by
  induction fu with
  | zero => intro x1 x2 x3 t hF; cases hF
  | succ fu ih => intro x1 x2 x3 t hF; exact wbX8_pick_21 hf (lX8_pick_21  fu) ih x1 x2 x3 t hF
set_option maxHeartbeats 4000000 in
set_option maxRecDepth 20000 in
theorem ctX8_pick {E : zE} {f : Nat} (hf : 2 ≤ f) {x1 : Int32} {t : zS} {ro : Int32 × zS} (hF : mX8_pick  x1 t = some ro) : zM E shC f yX8_pick cX8_pick 4 (some .int) [.ref (za E 60), .int x1] t ro := by
  refine zM_of (by decide) (Nat.le_of_ble_eq_true rfl) (fun C => ?_)
  show zJ E shC C cX8_pick RX8 4 f (some .int) ro t 0 [(0, .ref (za E 60)), (1, .int x1)] []
  unfold mX8_pick at hF
  refine z_iload_n 1 dX8_pick_0 rfl rfl ?_
  refine z_if_lt (tgt := 12) dX8_pick_1 (by decide) (fun hc => ?_) (fun hc => ?_)
  · have hF := zif_t hc hF
    refine z_iconst (v := (-1)) dX8_pick_12 (by decide) ?_
    exact z_iret hF dX8_pick_13
  · have hF := zif_f hc hF
    refine z_iload_n 1 dX8_pick_4 rfl rfl ?_
    refine z_aload_n 0 dX8_pick_5 rfl rfl ?_
    refine z_geti fi_RX8_66 dX8_pick_6 ?_
    refine z_icmp_lt (tgt := 14) dX8_pick_9 (by decide) (fun hc => ?_) (fun hc => ?_)
    · have hF := zif_t hc hF
      refine z_aload_n 0 dX8_pick_14 rfl rfl ?_
      refine z_geti fi_RX8_47 dX8_pick_15 ?_
      refine z_topi (fun v2438 ev2438 => ?_)
      have hF := zlet_at ev2438 hF
      refine z_istore_n (lv' := [(2, .int v2438), (0, .ref (za E 60)), (1, .int x1)]) dX8_pick_18 rfl (by decide) rfl ?_
      refine z_iconst (v := 0) dX8_pick_19 (by decide) ?_
      refine z_istore_n (lv' := [(3, .int 0), (2, .int v2438), (0, .ref (za E 60)), (1, .int x1)]) dX8_pick_20 rfl (by decide) rfl ?_
      refine z_sub [2, 3, 1, 0] rfl ?_
      exact wlX8_pick_21 hf  zFU x1 v2438 0 _ hF
    · have hF := zif_f hc hF
      refine z_iconst (v := (-1)) dX8_pick_12 (by decide) ?_
      exact z_iret hF dX8_pick_13
-- SessionHouse$Ring.channels(I)I
theorem dX8_channels_0 : decode cX8_channels 0 = .ok (.iconst 0, 1) := by decide +kernel
theorem dX8_channels_1 : decode cX8_channels 1 = .ok (.istore_n 2, 1) := by decide +kernel
theorem dX8_channels_2 : decode cX8_channels 2 = .ok (.iconst 0, 1) := by decide +kernel
theorem dX8_channels_3 : decode cX8_channels 3 = .ok (.istore_n 3, 1) := by decide +kernel
theorem dX8_channels_4 : decode cX8_channels 4 = .ok (.iload_n 3, 1) := by decide +kernel
theorem dX8_channels_5 : decode cX8_channels 5 = .ok (.aload_n 0, 1) := by decide +kernel
theorem dX8_channels_6 : decode cX8_channels 6 = .ok (.getfield 29, 3) := by decide +kernel
theorem dX8_channels_9 : decode cX8_channels 9 = .ok (.iload_n 1, 1) := by decide +kernel
theorem dX8_channels_10 : decode cX8_channels 10 = .ok (.invokevirtual 72, 3) := by decide +kernel
theorem dX8_channels_13 : decode cX8_channels 13 = .ok (.if_icmp .ge 26, 3) := by decide +kernel
theorem dX8_channels_16 : decode cX8_channels 16 = .ok (.iload_n 2, 1) := by decide +kernel
theorem dX8_channels_17 : decode cX8_channels 17 = .ok (.aload_n 0, 1) := by decide +kernel
theorem dX8_channels_18 : decode cX8_channels 18 = .ok (.iload_n 1, 1) := by decide +kernel
theorem dX8_channels_19 : decode cX8_channels 19 = .ok (.iload_n 3, 1) := by decide +kernel
theorem dX8_channels_20 : decode cX8_channels 20 = .ok (.invokevirtual 94, 3) := by decide +kernel
theorem dX8_channels_23 : decode cX8_channels 23 = .ok (.ifCond .lt 7, 3) := by decide +kernel
theorem dX8_channels_26 : decode cX8_channels 26 = .ok (.iconst 1, 1) := by decide +kernel
theorem dX8_channels_27 : decode cX8_channels 27 = .ok (.goto 4, 3) := by decide +kernel
theorem dX8_channels_30 : decode cX8_channels 30 = .ok (.iconst 0, 1) := by decide +kernel
theorem dX8_channels_31 : decode cX8_channels 31 = .ok (.iadd, 1) := by decide +kernel
theorem dX8_channels_32 : decode cX8_channels 32 = .ok (.istore_n 2, 1) := by decide +kernel
theorem dX8_channels_33 : decode cX8_channels 33 = .ok (.iinc 3 1, 3) := by decide +kernel
theorem dX8_channels_36 : decode cX8_channels 36 = .ok (.goto (-32), 3) := by decide +kernel
theorem dX8_channels_39 : decode cX8_channels 39 = .ok (.iload_n 2, 1) := by decide +kernel
theorem dX8_channels_40 : decode cX8_channels 40 = .ok (.ireturn, 1) := by decide +kernel
def bX8_channels_31 (k4 : Int32 → Int32 → Int32 → zS → zR) (x1 : Int32) (x3 : Int32) (y0 : Int32) (y1 : Int32) (t : zS) : zR := zlet (y1 + y0) fun v2439 => zlet (x3 + 1) fun v2440 => k4 x1 v2439 v2440 t
def bX8_channels_4 (k4 : Int32 → Int32 → Int32 → zS → zR) (x1 : Int32) (x2 : Int32) (x3 : Int32) (t : zS) : zR := zbd (mX5_get 134 2501 x1 t) fun r2441 t2442 => if r2441 ≤ x3 then some (x2, t2442) else zbd (mX8_channel x1 x3 t2442) fun r2444 t2445 => if r2444 < 0 then bX8_channels_31 k4 x1 x3 0 x2 t2445 else bX8_channels_31 k4 x1 x3 1 x2 t2445
def lX8_channels_4 : Nat → Int32 → Int32 → Int32 → zS → zR
  | 0, _, _, _, _ => none
  | fu + 1, x1, x2, x3, t => bX8_channels_4 (lX8_channels_4  fu) x1 x2 x3 t
def mX8_channels (x1 : Int32) (t : zS) : zR := lX8_channels_4  zFU x1 0 0 t
set_option maxHeartbeats 4000000 in
set_option maxRecDepth 20000 in
theorem wbX8_channels_31 {E : zE} {C : zC} {f : Nat} {ro : Int32 × zS} (hf : 3 ≤ f) (k4 : Int32 → Int32 → Int32 → zS → zR) (hk4 : ∀ (x1 x2 x3 : Int32) (t : zS), k4 x1 x2 x3 t = some ro → zJ E shC C cX8_channels RX8 4 f (some .int) ro t 4 [(0, .ref (za E 60)), (1, .int x1), (2, .int x2), (3, .int x3)] []) (x1 : Int32) (x3 : Int32) (y0 : Int32) (y1 : Int32) (t : zS) (hF : bX8_channels_31 k4 x1 x3 y0 y1 t = some ro) : zJ E shC C cX8_channels RX8 4 f (some .int) ro t 31 [(0, .ref (za E 60)), (1, .int x1), (3, .int x3)] [.int y0, .int y1] := by
  unfold bX8_channels_31 at hF
  refine z_iadd dX8_channels_31 ?_
  refine z_topi (fun v2439 ev2439 => ?_)
  have hF := zlet_at ev2439 hF
  refine z_istore_n (lv' := [(2, .int v2439), (0, .ref (za E 60)), (1, .int x1), (3, .int x3)]) dX8_channels_32 rfl (by decide) rfl ?_
  obtain ⟨v2440, ev2440⟩ : ∃ y : Int32, y = (x3 + 1) := ⟨_, rfl⟩
  have hF := zlet_at ev2440 hF
  refine z_iinc (v := v2440) (lv' := [(3, .int v2440), (2, .int v2439), (0, .ref (za E 60)), (1, .int x1)]) (k := 3) dX8_channels_33 rfl (by rw [ev2440]; rfl) (by decide) rfl ?_
  refine z_goto (tgt := 4) dX8_channels_36 (by decide) ?_
  refine z_sub [2, 3, 1, 0] rfl ?_
  exact hk4 x1 v2439 v2440 _ hF
set_option maxHeartbeats 4000000 in
set_option maxRecDepth 20000 in
theorem wbX8_channels_4 {E : zE} {C : zC} {f : Nat} {ro : Int32 × zS} (hf : 3 ≤ f) (k4 : Int32 → Int32 → Int32 → zS → zR) (hk4 : ∀ (x1 x2 x3 : Int32) (t : zS), k4 x1 x2 x3 t = some ro → zJ E shC C cX8_channels RX8 4 f (some .int) ro t 4 [(0, .ref (za E 60)), (1, .int x1), (2, .int x2), (3, .int x3)] []) (x1 : Int32) (x2 : Int32) (x3 : Int32) (t : zS) (hF : bX8_channels_4 k4 x1 x2 x3 t = some ro) : zJ E shC C cX8_channels RX8 4 f (some .int) ro t 4 [(0, .ref (za E 60)), (1, .int x1), (2, .int x2), (3, .int x3)] [] := by
  unfold bX8_channels_4 at hF
  refine z_iload_n 3 dX8_channels_4 rfl rfl ?_
  refine z_aload_n 0 dX8_channels_5 rfl rfl ?_
  refine z_getr fr_RX8_29 dX8_channels_6 ?_
  refine z_iload_n 1 dX8_channels_9 rfl rfl ?_
  obtain ⟨r2441, t2442, hc2443, hF⟩ := zbd_at hF
  refine z_callVi (ctX5_get (E := E) (sh := shC) (f := f - 1) (by omega) (k := 134) (n := 2501) rfl rfl hc2443) yy_X5_get yv_X5_get ob_C_134 lk_RX8_72 (by omega) rfl rfl (Nat.le_of_ble_eq_true rfl) dX8_channels_10 ?_
  refine z_icmp_ge (tgt := 39) dX8_channels_13 (by decide) (fun hc => ?_) (fun hc => ?_)
  · have hF := zif_t hc hF
    refine z_iload_n 2 dX8_channels_39 rfl rfl ?_
    exact z_iret hF dX8_channels_40
  · have hF := zif_f hc hF
    refine z_iload_n 2 dX8_channels_16 rfl rfl ?_
    refine z_aload_n 0 dX8_channels_17 rfl rfl ?_
    refine z_iload_n 1 dX8_channels_18 rfl rfl ?_
    refine z_iload_n 3 dX8_channels_19 rfl rfl ?_
    obtain ⟨r2444, t2445, hc2446, hF⟩ := zbd_at hF
    refine z_callVi (ctX8_channel (E := E) (f := f - 1) (by omega) hc2446) yy_X8_channel yv_X8_channel ob_C_60 lk_RX8_94 (by omega) rfl rfl (Nat.le_of_ble_eq_true rfl) dX8_channels_20 ?_
    refine z_if_lt (tgt := 30) dX8_channels_23 (by decide) (fun hc => ?_) (fun hc => ?_)
    · have hF := zif_t hc hF
      refine z_iconst (v := 0) dX8_channels_30 (by decide) ?_
      refine z_sub [0, 1, 3] rfl ?_
      exact wbX8_channels_31 hf k4 hk4 x1 x3 0 x2 _ hF
    · have hF := zif_f hc hF
      refine z_iconst (v := 1) dX8_channels_26 (by decide) ?_
      refine z_goto (tgt := 31) dX8_channels_27 (by decide) ?_
      refine z_sub [0, 1, 3] rfl ?_
      exact wbX8_channels_31 hf k4 hk4 x1 x3 1 x2 _ hF
set_option maxHeartbeats 4000000 in
set_option maxRecDepth 20000 in
theorem wlX8_channels_4 {E : zE} {C : zC} {f : Nat} {ro : Int32 × zS} (hf : 3 ≤ f) (fu : Nat) : ∀ (x1 x2 x3 : Int32) (t : zS), lX8_channels_4  fu x1 x2 x3 t = some ro → zJ E shC C cX8_channels RX8 4 f (some .int) ro t 4 [(0, .ref (za E 60)), (1, .int x1), (2, .int x2), (3, .int x3)] [] := by
  induction fu with
  | zero => intro x1 x2 x3 t hF; cases hF
  | succ fu ih => intro x1 x2 x3 t hF; exact wbX8_channels_4 hf (lX8_channels_4  fu) ih x1 x2 x3 t hF
set_option maxHeartbeats 4000000 in
set_option maxRecDepth 20000 in
theorem ctX8_channels {E : zE} {f : Nat} (hf : 3 ≤ f) {x1 : Int32} {t : zS} {ro : Int32 × zS} (hF : mX8_channels  x1 t = some ro) : zM E shC f yX8_channels cX8_channels 4 (some .int) [.ref (za E 60), .int x1] t ro := by
  refine zM_of (by decide) (Nat.le_of_ble_eq_true rfl) (fun C => ?_)
  show zJ E shC C cX8_channels RX8 4 f (some .int) ro t 0 [(0, .ref (za E 60)), (1, .int x1)] []
  unfold mX8_channels at hF
  refine z_iconst (v := 0) dX8_channels_0 (by decide) ?_
  refine z_istore_n (lv' := [(2, .int 0), (0, .ref (za E 60)), (1, .int x1)]) dX8_channels_1 rfl (by decide) rfl ?_
  refine z_iconst (v := 0) dX8_channels_2 (by decide) ?_
  refine z_istore_n (lv' := [(3, .int 0), (2, .int 0), (0, .ref (za E 60)), (1, .int x1)]) dX8_channels_3 rfl (by decide) rfl ?_
  refine z_sub [2, 3, 1, 0] rfl ?_
  exact wlX8_channels_4 hf  zFU x1 0 0 _ hF
-- SessionHouse$House.tell(III)I
theorem dX4_tell_0 : decode cX4_tell 0 = .ok (.aload_n 0, 1) := by decide +kernel
theorem dX4_tell_1 : decode cX4_tell 1 = .ok (.getfield 21, 3) := by decide +kernel
theorem dX4_tell_4 : decode cX4_tell 4 = .ok (.iload_n 1, 1) := by decide +kernel
theorem dX4_tell_5 : decode cX4_tell 5 = .ok (.invokevirtual 292, 3) := by decide +kernel
theorem dX4_tell_8 : decode cX4_tell 8 = .ok (.istore 4, 2) := by decide +kernel
theorem dX4_tell_10 : decode cX4_tell 10 = .ok (.iload 4, 2) := by decide +kernel
theorem dX4_tell_12 : decode cX4_tell 12 = .ok (.ifCond .ge 13, 3) := by decide +kernel
theorem dX4_tell_15 : decode cX4_tell 15 = .ok (.iload_n 2, 1) := by decide +kernel
theorem dX4_tell_16 : decode cX4_tell 16 = .ok (.ifCond .ne 7, 3) := by decide +kernel
theorem dX4_tell_19 : decode cX4_tell 19 = .ok (.iconst (-1), 1) := by decide +kernel
theorem dX4_tell_20 : decode cX4_tell 20 = .ok (.goto 4, 3) := by decide +kernel
theorem dX4_tell_23 : decode cX4_tell 23 = .ok (.iconst 0, 1) := by decide +kernel
theorem dX4_tell_24 : decode cX4_tell 24 = .ok (.ireturn, 1) := by decide +kernel
theorem dX4_tell_25 : decode cX4_tell 25 = .ok (.iload_n 2, 1) := by decide +kernel
theorem dX4_tell_26 : decode cX4_tell 26 = .ok (.tableswitch 115 0 3 #[30, 43, 53, 66], 30) := by decide +kernel
theorem dX4_tell_56 : decode cX4_tell 56 = .ok (.aload_n 0, 1) := by decide +kernel
theorem dX4_tell_57 : decode cX4_tell 57 = .ok (.getfield 21, 3) := by decide +kernel
theorem dX4_tell_60 : decode cX4_tell 60 = .ok (.getfield 115, 3) := by decide +kernel
theorem dX4_tell_63 : decode cX4_tell 63 = .ok (.iload 4, 2) := by decide +kernel
theorem dX4_tell_65 : decode cX4_tell 65 = .ok (.invokevirtual 99, 3) := by decide +kernel
theorem dX4_tell_68 : decode cX4_tell 68 = .ok (.ireturn, 1) := by decide +kernel
theorem dX4_tell_69 : decode cX4_tell 69 = .ok (.aload_n 0, 1) := by decide +kernel
theorem dX4_tell_70 : decode cX4_tell 70 = .ok (.getfield 21, 3) := by decide +kernel
theorem dX4_tell_73 : decode cX4_tell 73 = .ok (.iload 4, 2) := by decide +kernel
theorem dX4_tell_75 : decode cX4_tell 75 = .ok (.invokevirtual 295, 3) := by decide +kernel
theorem dX4_tell_78 : decode cX4_tell 78 = .ok (.ireturn, 1) := by decide +kernel
theorem dX4_tell_79 : decode cX4_tell 79 = .ok (.aload_n 0, 1) := by decide +kernel
theorem dX4_tell_80 : decode cX4_tell 80 = .ok (.getfield 21, 3) := by decide +kernel
theorem dX4_tell_83 : decode cX4_tell 83 = .ok (.getfield 128, 3) := by decide +kernel
theorem dX4_tell_86 : decode cX4_tell 86 = .ok (.iload 4, 2) := by decide +kernel
theorem dX4_tell_88 : decode cX4_tell 88 = .ok (.invokevirtual 99, 3) := by decide +kernel
theorem dX4_tell_91 : decode cX4_tell 91 = .ok (.ireturn, 1) := by decide +kernel
theorem dX4_tell_92 : decode cX4_tell 92 = .ok (.iload_n 3, 1) := by decide +kernel
theorem dX4_tell_93 : decode cX4_tell 93 = .ok (.ifCond .lt 46, 3) := by decide +kernel
theorem dX4_tell_96 : decode cX4_tell 96 = .ok (.iload_n 3, 1) := by decide +kernel
theorem dX4_tell_97 : decode cX4_tell 97 = .ok (.aload_n 0, 1) := by decide +kernel
theorem dX4_tell_98 : decode cX4_tell 98 = .ok (.getfield 21, 3) := by decide +kernel
theorem dX4_tell_101 : decode cX4_tell 101 = .ok (.getfield 297, 3) := by decide +kernel
theorem dX4_tell_104 : decode cX4_tell 104 = .ok (.iload 4, 2) := by decide +kernel
theorem dX4_tell_106 : decode cX4_tell 106 = .ok (.invokevirtual 99, 3) := by decide +kernel
theorem dX4_tell_109 : decode cX4_tell 109 = .ok (.if_icmp .ge 30, 3) := by decide +kernel
theorem dX4_tell_112 : decode cX4_tell 112 = .ok (.aload_n 0, 1) := by decide +kernel
theorem dX4_tell_113 : decode cX4_tell 113 = .ok (.getfield 21, 3) := by decide +kernel
theorem dX4_tell_116 : decode cX4_tell 116 = .ok (.getfield 165, 3) := by decide +kernel
theorem dX4_tell_119 : decode cX4_tell 119 = .ok (.aload_n 0, 1) := by decide +kernel
theorem dX4_tell_120 : decode cX4_tell 120 = .ok (.getfield 21, 3) := by decide +kernel
theorem dX4_tell_123 : decode cX4_tell 123 = .ok (.getfield 168, 3) := by decide +kernel
theorem dX4_tell_126 : decode cX4_tell 126 = .ok (.iload 4, 2) := by decide +kernel
theorem dX4_tell_128 : decode cX4_tell 128 = .ok (.invokevirtual 99, 3) := by decide +kernel
theorem dX4_tell_131 : decode cX4_tell 131 = .ok (.iload_n 3, 1) := by decide +kernel
theorem dX4_tell_132 : decode cX4_tell 132 = .ok (.iadd, 1) := by decide +kernel
theorem dX4_tell_133 : decode cX4_tell 133 = .ok (.invokevirtual 99, 3) := by decide +kernel
theorem dX4_tell_136 : decode cX4_tell 136 = .ok (.goto 4, 3) := by decide +kernel
theorem dX4_tell_139 : decode cX4_tell 139 = .ok (.iconst 0, 1) := by decide +kernel
theorem dX4_tell_140 : decode cX4_tell 140 = .ok (.ireturn, 1) := by decide +kernel
theorem dX4_tell_141 : decode cX4_tell 141 = .ok (.iconst 0, 1) := by decide +kernel
theorem dX4_tell_142 : decode cX4_tell 142 = .ok (.ireturn, 1) := by decide +kernel
def mX4_tell (x1 : Int32) (x2 : Int32) (x3 : Int32) (t : zS) : zR := zbd (mX8_pick x1 t) fun r2447 t2448 => if 0 ≤ r2447 then if x2 = 0 then zbd (mX5_get 126 2501 r2447 t2448) fun r2450 t2451 => some (r2450, t2451) else if x2 = 1 then zbd (mX8_channels r2447 t2448) fun r2454 t2455 => some (r2454, t2455) else if x2 = 2 then zbd (mX5_get 130 2501 r2447 t2448) fun r2458 t2459 => some (r2458, t2459) else if x2 = 3 then if x3 < 0 then some (0, t2448) else zbd (mX5_get 134 2501 r2447 t2448) fun r2462 t2463 => if r2462 ≤ x3 then some (0, t2463) else zbd (mX5_get 132 2501 r2447 t2463) fun r2465 t2466 => zbd (mX5_get 142 24000 (r2465 + x3) t2466) fun r2468 t2469 => some (r2468, t2469) else some (0, t2448) else if x2 = 0 then some ((-1), t2448) else some (0, t2448)
set_option maxHeartbeats 4000000 in
set_option maxRecDepth 20000 in
theorem ctX4_tell {E : zE} {f : Nat} (hf : 4 ≤ f) {x1 : Int32} {x2 : Int32} {x3 : Int32} {t : zS} {ro : Int32 × zS} (hF : mX4_tell  x1 x2 x3 t = some ro) : zM E shC f yX4_tell cX4_tell 5 (some .int) [.ref (za E 7), .int x1, .int x2, .int x3] t ro := by
  refine zM_of (by decide) (Nat.le_of_ble_eq_true rfl) (fun C => ?_)
  show zJ E shC C cX4_tell RX4 5 f (some .int) ro t 0 [(0, .ref (za E 7)), (1, .int x1), (2, .int x2), (3, .int x3)] []
  unfold mX4_tell at hF
  refine z_aload_n 0 dX4_tell_0 rfl rfl ?_
  refine z_getr fr_RX4_21 dX4_tell_1 ?_
  refine z_iload_n 1 dX4_tell_4 rfl rfl ?_
  obtain ⟨r2447, t2448, hc2449, hF⟩ := zbd_at hF
  refine z_callVi (ctX8_pick (E := E) (f := f - 1) (by omega) hc2449) yy_X8_pick yv_X8_pick ob_C_60 lk_RX4_292 (by omega) rfl rfl (Nat.le_of_ble_eq_true rfl) dX4_tell_5 ?_
  refine z_istore (lv' := [(4, .int r2447), (0, .ref (za E 7)), (1, .int x1), (2, .int x2), (3, .int x3)]) dX4_tell_8 (by decide) rfl ?_
  refine z_iload 0 dX4_tell_10 rfl ?_
  refine z_if_ge (tgt := 25) dX4_tell_12 (by decide) (fun hc => ?_) (fun hc => ?_)
  · have hF := zif_t hc hF
    refine z_iload_n 3 dX4_tell_25 rfl rfl ?_
    by_cases hc : x2 = 0
    · have hF := zif_t hc hF
      refine z_tabIn (tgt := 56) dX4_tell_26 (by rw [hc]; decide) (by rw [hc]; decide) (by rw [hc]; rfl) (by decide) ?_
      refine z_aload_n 1 dX4_tell_56 rfl rfl ?_
      refine z_getr fr_RX4_21 dX4_tell_57 ?_
      refine z_getr fr_RX4_115 dX4_tell_60 ?_
      refine z_iload 0 dX4_tell_63 rfl ?_
      obtain ⟨r2450, t2451, hc2452, hF⟩ := zbd_at hF
      refine z_callVi (ctX5_get (E := E) (sh := shC) (f := f - 1) (by omega) (k := 126) (n := 2501) rfl rfl hc2452) yy_X5_get yv_X5_get ob_C_126 lk_RX4_99 (by omega) rfl rfl (Nat.le_of_ble_eq_true rfl) dX4_tell_65 ?_
      exact z_iret hF dX4_tell_68
    have hF := zif_f hc hF
    have hn2453 := hc; clear hc
    by_cases hc : x2 = 1
    · have hF := zif_t hc hF
      refine z_tabIn (tgt := 69) dX4_tell_26 (by rw [hc]; decide) (by rw [hc]; decide) (by rw [hc]; rfl) (by decide) ?_
      refine z_aload_n 1 dX4_tell_69 rfl rfl ?_
      refine z_getr fr_RX4_21 dX4_tell_70 ?_
      refine z_iload 0 dX4_tell_73 rfl ?_
      obtain ⟨r2454, t2455, hc2456, hF⟩ := zbd_at hF
      refine z_callVi (ctX8_channels (E := E) (f := f - 1) (by omega) hc2456) yy_X8_channels yv_X8_channels ob_C_60 lk_RX4_295 (by omega) rfl rfl (Nat.le_of_ble_eq_true rfl) dX4_tell_75 ?_
      exact z_iret hF dX4_tell_78
    have hF := zif_f hc hF
    have hn2457 := hc; clear hc
    by_cases hc : x2 = 2
    · have hF := zif_t hc hF
      refine z_tabIn (tgt := 79) dX4_tell_26 (by rw [hc]; decide) (by rw [hc]; decide) (by rw [hc]; rfl) (by decide) ?_
      refine z_aload_n 1 dX4_tell_79 rfl rfl ?_
      refine z_getr fr_RX4_21 dX4_tell_80 ?_
      refine z_getr fr_RX4_128 dX4_tell_83 ?_
      refine z_iload 0 dX4_tell_86 rfl ?_
      obtain ⟨r2458, t2459, hc2460, hF⟩ := zbd_at hF
      refine z_callVi (ctX5_get (E := E) (sh := shC) (f := f - 1) (by omega) (k := 130) (n := 2501) rfl rfl hc2460) yy_X5_get yv_X5_get ob_C_130 lk_RX4_99 (by omega) rfl rfl (Nat.le_of_ble_eq_true rfl) dX4_tell_88 ?_
      exact z_iret hF dX4_tell_91
    have hF := zif_f hc hF
    have hn2461 := hc; clear hc
    by_cases hc : x2 = 3
    · have hF := zif_t hc hF
      refine z_tabIn (tgt := 92) dX4_tell_26 (by rw [hc]; decide) (by rw [hc]; decide) (by rw [hc]; rfl) (by decide) ?_
      refine z_iload_n 4 dX4_tell_92 rfl rfl ?_
      refine z_if_lt (tgt := 139) dX4_tell_93 (by decide) (fun hc => ?_) (fun hc => ?_)
      · have hF := zif_t hc hF
        refine z_iconst (v := 0) dX4_tell_139 (by decide) ?_
        exact z_iret hF dX4_tell_140
      · have hF := zif_f hc hF
        refine z_iload_n 4 dX4_tell_96 rfl rfl ?_
        refine z_aload_n 1 dX4_tell_97 rfl rfl ?_
        refine z_getr fr_RX4_21 dX4_tell_98 ?_
        refine z_getr fr_RX4_297 dX4_tell_101 ?_
        refine z_iload 0 dX4_tell_104 rfl ?_
        obtain ⟨r2462, t2463, hc2464, hF⟩ := zbd_at hF
        refine z_callVi (ctX5_get (E := E) (sh := shC) (f := f - 1) (by omega) (k := 134) (n := 2501) rfl rfl hc2464) yy_X5_get yv_X5_get ob_C_134 lk_RX4_99 (by omega) rfl rfl (Nat.le_of_ble_eq_true rfl) dX4_tell_106 ?_
        refine z_icmp_ge (tgt := 139) dX4_tell_109 (by decide) (fun hc => ?_) (fun hc => ?_)
        · have hF := zif_t hc hF
          refine z_iconst (v := 0) dX4_tell_139 (by decide) ?_
          exact z_iret hF dX4_tell_140
        · have hF := zif_f hc hF
          refine z_aload_n 1 dX4_tell_112 rfl rfl ?_
          refine z_getr fr_RX4_21 dX4_tell_113 ?_
          refine z_getr fr_RX4_165 dX4_tell_116 ?_
          refine z_aload_n 1 dX4_tell_119 rfl rfl ?_
          refine z_getr fr_RX4_21 dX4_tell_120 ?_
          refine z_getr fr_RX4_168 dX4_tell_123 ?_
          refine z_iload 0 dX4_tell_126 rfl ?_
          obtain ⟨r2465, t2466, hc2467, hF⟩ := zbd_at hF
          refine z_callVi (ctX5_get (E := E) (sh := shC) (f := f - 1) (by omega) (k := 132) (n := 2501) rfl rfl hc2467) yy_X5_get yv_X5_get ob_C_132 lk_RX4_99 (by omega) rfl rfl (Nat.le_of_ble_eq_true rfl) dX4_tell_128 ?_
          refine z_iload_n 4 dX4_tell_131 rfl rfl ?_
          refine z_iadd dX4_tell_132 ?_
          obtain ⟨r2468, t2469, hc2470, hF⟩ := zbd_at hF
          refine z_callVi (ctX5_get (E := E) (sh := shC) (f := f - 1) (by omega) (k := 142) (n := 24000) rfl rfl hc2470) yy_X5_get yv_X5_get ob_C_142 lk_RX4_99 (by omega) rfl rfl (Nat.le_of_ble_eq_true rfl) dX4_tell_133 ?_
          refine z_goto (tgt := 140) dX4_tell_136 (by decide) ?_
          exact z_iret hF dX4_tell_140
    have hF := zif_f hc hF
    have hn2471 := hc; clear hc
    have hO : (x2).toInt < 0 ∨ 3 < (x2).toInt := by
      have qhn2453 := lv_neT (a := 0) hn2453 (by decide)
      have qhn2457 := lv_neT (a := 1) hn2457 (by decide)
      have qhn2461 := lv_neT (a := 2) hn2461 (by decide)
      have qhn2471 := lv_neT (a := 3) hn2471 (by decide)
      omega
    refine z_tabOut (tgt := 141) dX4_tell_26 hO (by decide) ?_
    refine z_iconst (v := 0) dX4_tell_141 (by decide) ?_
    exact z_iret hF dX4_tell_142
  · have hF := zif_f hc hF
    refine z_iload_n 3 dX4_tell_15 rfl rfl ?_
    refine z_if_ne (tgt := 23) dX4_tell_16 (by decide) (fun hc => ?_) (fun hc => ?_)
    · have hF := zif_f hc hF
      refine z_iconst (v := 0) dX4_tell_23 (by decide) ?_
      exact z_iret hF dX4_tell_24
    · have hF := zif_t hc hF
      refine z_iconst (v := (-1)) dX4_tell_19 (by decide) ?_
      refine z_goto (tgt := 24) dX4_tell_20 (by decide) ?_
      exact z_iret hF dX4_tell_24
-- SessionHouse.process(III)I
theorem dX11_process_0 : decode cX11_process 0 = .ok (.aload_n 0, 1) := by decide +kernel
theorem dX11_process_1 : decode cX11_process 1 = .ok (.getfield 58, 3) := by decide +kernel
theorem dX11_process_4 : decode cX11_process 4 = .ok (.iload_n 1, 1) := by decide +kernel
theorem dX11_process_5 : decode cX11_process 5 = .ok (.iload_n 2, 1) := by decide +kernel
theorem dX11_process_6 : decode cX11_process 6 = .ok (.iload_n 3, 1) := by decide +kernel
theorem dX11_process_7 : decode cX11_process 7 = .ok (.invokevirtual 120, 3) := by decide +kernel
theorem dX11_process_10 : decode cX11_process 10 = .ok (.ireturn, 1) := by decide +kernel
def mX11_process (x1 : Int32) (x2 : Int32) (x3 : Int32) (t : zS) : zR := zbd (mX4_tell x1 x2 x3 t) fun r2472 t2473 => some (r2472, t2473)
set_option maxHeartbeats 4000000 in
set_option maxRecDepth 20000 in
theorem ctX11_process {E : zE} {f : Nat} (hf : 5 ≤ f) {x1 : Int32} {x2 : Int32} {x3 : Int32} {t : zS} {ro : Int32 × zS} (hF : mX11_process  x1 x2 x3 t = some ro) : zM E shC f yX11_process cX11_process 4 (some .int) [.ref (za E 0), .int x1, .int x2, .int x3] t ro := by
  refine zM_of (by decide) (Nat.le_of_ble_eq_true rfl) (fun C => ?_)
  show zJ E shC C cX11_process RX11 4 f (some .int) ro t 0 [(0, .ref (za E 0)), (1, .int x1), (2, .int x2), (3, .int x3)] []
  unfold mX11_process at hF
  refine z_aload_n 0 dX11_process_0 rfl rfl ?_
  refine z_getr fr_RX11_58 dX11_process_1 ?_
  refine z_iload_n 1 dX11_process_4 rfl rfl ?_
  refine z_iload_n 2 dX11_process_5 rfl rfl ?_
  refine z_iload_n 3 dX11_process_6 rfl rfl ?_
  obtain ⟨r2472, t2473, hc2474, hF⟩ := zbd_at hF
  refine z_callVi (ctX4_tell (E := E) (f := f - 1) (by omega) hc2474) yy_X4_tell yv_X4_tell ob_C_7 lk_RX11_120 (by omega) rfl rfl (Nat.le_of_ble_eq_true rfl) dX11_process_7 ?_
  exact z_iret hF dX11_process_10
-- SessionHouse.types(III)I
theorem dX11_types_0 : decode cX11_types 0 = .ok (.iload_n 1, 1) := by decide +kernel
theorem dX11_types_1 : decode cX11_types 1 = .ok (.ifCond .lt 33, 3) := by decide +kernel
theorem dX11_types_4 : decode cX11_types 4 = .ok (.iload_n 1, 1) := by decide +kernel
theorem dX11_types_5 : decode cX11_types 5 = .ok (.aload_n 0, 1) := by decide +kernel
theorem dX11_types_6 : decode cX11_types 6 = .ok (.getfield 62, 3) := by decide +kernel
theorem dX11_types_9 : decode cX11_types 9 = .ok (.getfield 124, 3) := by decide +kernel
theorem dX11_types_12 : decode cX11_types 12 = .ok (.if_icmp .ge 22, 3) := by decide +kernel
theorem dX11_types_15 : decode cX11_types 15 = .ok (.iload_n 2, 1) := by decide +kernel
theorem dX11_types_16 : decode cX11_types 16 = .ok (.ifCond .lt 18, 3) := by decide +kernel
theorem dX11_types_19 : decode cX11_types 19 = .ok (.iload_n 2, 1) := by decide +kernel
theorem dX11_types_20 : decode cX11_types 20 = .ok (.aload_n 0, 1) := by decide +kernel
theorem dX11_types_21 : decode cX11_types 21 = .ok (.getfield 62, 3) := by decide +kernel
theorem dX11_types_24 : decode cX11_types 24 = .ok (.getfield 124, 3) := by decide +kernel
theorem dX11_types_27 : decode cX11_types 27 = .ok (.if_icmp .ge 7, 3) := by decide +kernel
theorem dX11_types_30 : decode cX11_types 30 = .ok (.iconst 1, 1) := by decide +kernel
theorem dX11_types_31 : decode cX11_types 31 = .ok (.goto 4, 3) := by decide +kernel
theorem dX11_types_34 : decode cX11_types 34 = .ok (.iconst 0, 1) := by decide +kernel
theorem dX11_types_35 : decode cX11_types 35 = .ok (.istore 4, 2) := by decide +kernel
theorem dX11_types_37 : decode cX11_types 37 = .ok (.aload_n 0, 1) := by decide +kernel
theorem dX11_types_38 : decode cX11_types 38 = .ok (.getfield 80, 3) := by decide +kernel
theorem dX11_types_41 : decode cX11_types 41 = .ok (.ifCond .eq 17, 3) := by decide +kernel
theorem dX11_types_44 : decode cX11_types 44 = .ok (.iload 4, 2) := by decide +kernel
theorem dX11_types_46 : decode cX11_types 46 = .ok (.ifCond .eq 12, 3) := by decide +kernel
theorem dX11_types_49 : decode cX11_types 49 = .ok (.iload_n 3, 1) := by decide +kernel
theorem dX11_types_50 : decode cX11_types 50 = .ok (.ifCond .lt 8, 3) := by decide +kernel
theorem dX11_types_53 : decode cX11_types 53 = .ok (.iload_n 3, 1) := by decide +kernel
theorem dX11_types_54 : decode cX11_types 54 = .ok (.iconst 1, 1) := by decide +kernel
theorem dX11_types_55 : decode cX11_types 55 = .ok (.if_icmp .le 5, 3) := by decide +kernel
theorem dX11_types_58 : decode cX11_types 58 = .ok (.iconst (-1), 1) := by decide +kernel
theorem dX11_types_59 : decode cX11_types 59 = .ok (.ireturn, 1) := by decide +kernel
theorem dX11_types_60 : decode cX11_types 60 = .ok (.aload_n 0, 1) := by decide +kernel
theorem dX11_types_61 : decode cX11_types 61 = .ok (.getfield 62, 3) := by decide +kernel
theorem dX11_types_64 : decode cX11_types 64 = .ok (.aload_n 0, 1) := by decide +kernel
theorem dX11_types_65 : decode cX11_types 65 = .ok (.getfield 62, 3) := by decide +kernel
theorem dX11_types_68 : decode cX11_types 68 = .ok (.getfield 125, 3) := by decide +kernel
theorem dX11_types_71 : decode cX11_types 71 = .ok (.iload_n 1, 1) := by decide +kernel
theorem dX11_types_72 : decode cX11_types 72 = .ok (.invokevirtual 128, 3) := by decide +kernel
theorem dX11_types_75 : decode cX11_types 75 = .ok (.aload_n 0, 1) := by decide +kernel
theorem dX11_types_76 : decode cX11_types 76 = .ok (.getfield 62, 3) := by decide +kernel
theorem dX11_types_79 : decode cX11_types 79 = .ok (.getfield 125, 3) := by decide +kernel
theorem dX11_types_82 : decode cX11_types 82 = .ok (.iload_n 2, 1) := by decide +kernel
theorem dX11_types_83 : decode cX11_types 83 = .ok (.invokevirtual 128, 3) := by decide +kernel
theorem dX11_types_86 : decode cX11_types 86 = .ok (.iload_n 3, 1) := by decide +kernel
theorem dX11_types_87 : decode cX11_types 87 = .ok (.ixor, 1) := by decide +kernel
theorem dX11_types_88 : decode cX11_types 88 = .ok (.invokevirtual 131, 3) := by decide +kernel
theorem dX11_types_91 : decode cX11_types 91 = .ok (.ifCond .eq 7, 3) := by decide +kernel
theorem dX11_types_94 : decode cX11_types 94 = .ok (.iconst 1, 1) := by decide +kernel
theorem dX11_types_95 : decode cX11_types 95 = .ok (.goto 4, 3) := by decide +kernel
theorem dX11_types_98 : decode cX11_types 98 = .ok (.iconst 0, 1) := by decide +kernel
theorem dX11_types_99 : decode cX11_types 99 = .ok (.ireturn, 1) := by decide +kernel
def bX11_types_35 (x1 : Int32) (x2 : Int32) (x3 : Int32) (y0 : Int32) (t : zS) : zR := if (t 0 9) = 0 then some ((-1), t) else if y0 = 0 then some ((-1), t) else if x3 < 0 then some ((-1), t) else if x3 ≤ 1 then zbd (mX5_get 26 400 x1 t) fun r2475 t2476 => zbd (mX5_get 26 400 x2 t2476) fun r2478 t2479 => zbd (mX2_equal r2475 (r2478 ^^^ x3) t2479) fun r2481 t2482 => if r2481 = 0 then some (0, t2482) else some (1, t2482) else some ((-1), t)
def bX11_types_34 (x1 : Int32) (x2 : Int32) (x3 : Int32) (t : zS) : zR := bX11_types_35  x1 x2 x3 0 t
def mX11_types (x1 : Int32) (x2 : Int32) (x3 : Int32) (t : zS) : zR := if x1 < 0 then bX11_types_34  x1 x2 x3 t else if (t 3 15) ≤ x1 then bX11_types_34  x1 x2 x3 t else if x2 < 0 then bX11_types_34  x1 x2 x3 t else if (t 3 15) ≤ x2 then bX11_types_34  x1 x2 x3 t else bX11_types_35  x1 x2 x3 1 t
set_option maxHeartbeats 4000000 in
set_option maxRecDepth 20000 in
theorem wbX11_types_35 {E : zE} {C : zC} {f : Nat} {ro : Int32 × zS} (hf : 5 ≤ f) (x1 : Int32) (x2 : Int32) (x3 : Int32) (y0 : Int32) (t : zS) (hF : bX11_types_35  x1 x2 x3 y0 t = some ro) : zJ E shC C cX11_types RX11 5 f (some .int) ro t 35 [(0, .ref (za E 0)), (1, .int x1), (2, .int x2), (3, .int x3)] [.int y0] := by
  unfold bX11_types_35 at hF
  refine z_istore (lv' := [(4, .int y0), (0, .ref (za E 0)), (1, .int x1), (2, .int x2), (3, .int x3)]) dX11_types_35 (by decide) rfl ?_
  refine z_aload_n 1 dX11_types_37 rfl rfl ?_
  refine z_geti fi_RX11_80 dX11_types_38 ?_
  refine z_if_eq (tgt := 58) dX11_types_41 (by decide) (fun hc => ?_) (fun hc => ?_)
  · have hF := zif_t hc hF
    refine z_iconst (v := (-1)) dX11_types_58 (by decide) ?_
    exact z_iret hF dX11_types_59
  · have hF := zif_f hc hF
    refine z_iload 0 dX11_types_44 rfl ?_
    refine z_if_eq (tgt := 58) dX11_types_46 (by decide) (fun hc => ?_) (fun hc => ?_)
    · have hF := zif_t hc hF
      refine z_iconst (v := (-1)) dX11_types_58 (by decide) ?_
      exact z_iret hF dX11_types_59
    · have hF := zif_f hc hF
      refine z_iload_n 4 dX11_types_49 rfl rfl ?_
      refine z_if_lt (tgt := 58) dX11_types_50 (by decide) (fun hc => ?_) (fun hc => ?_)
      · have hF := zif_t hc hF
        refine z_iconst (v := (-1)) dX11_types_58 (by decide) ?_
        exact z_iret hF dX11_types_59
      · have hF := zif_f hc hF
        refine z_iload_n 4 dX11_types_53 rfl rfl ?_
        refine z_iconst (v := 1) dX11_types_54 (by decide) ?_
        refine z_icmp_le (tgt := 60) dX11_types_55 (by decide) (fun hc => ?_) (fun hc => ?_)
        · have hF := zif_t hc hF
          refine z_aload_n 1 dX11_types_60 rfl rfl ?_
          refine z_getr fr_RX11_62 dX11_types_61 ?_
          refine z_aload_n 1 dX11_types_64 rfl rfl ?_
          refine z_getr fr_RX11_62 dX11_types_65 ?_
          refine z_getr fr_RX11_125 dX11_types_68 ?_
          refine z_iload_n 2 dX11_types_71 rfl rfl ?_
          obtain ⟨r2475, t2476, hc2477, hF⟩ := zbd_at hF
          refine z_callVi (ctX5_get (E := E) (sh := shC) (f := f - 1) (by omega) (k := 26) (n := 400) rfl rfl hc2477) yy_X5_get yv_X5_get ob_C_26 lk_RX11_128 (by omega) rfl rfl (Nat.le_of_ble_eq_true rfl) dX11_types_72 ?_
          refine z_aload_n 1 dX11_types_75 rfl rfl ?_
          refine z_getr fr_RX11_62 dX11_types_76 ?_
          refine z_getr fr_RX11_125 dX11_types_79 ?_
          refine z_iload_n 3 dX11_types_82 rfl rfl ?_
          obtain ⟨r2478, t2479, hc2480, hF⟩ := zbd_at hF
          refine z_callVi (ctX5_get (E := E) (sh := shC) (f := f - 1) (by omega) (k := 26) (n := 400) rfl rfl hc2480) yy_X5_get yv_X5_get ob_C_26 lk_RX11_128 (by omega) rfl rfl (Nat.le_of_ble_eq_true rfl) dX11_types_83 ?_
          refine z_iload_n 4 dX11_types_86 rfl rfl ?_
          refine z_ixor dX11_types_87 ?_
          obtain ⟨r2481, t2482, hc2483, hF⟩ := zbd_at hF
          refine z_callVi (ctX2_equal (E := E) (f := f - 1) (by omega) hc2483) yy_X2_equal yv_X2_equal ob_C_3 lk_RX11_131 (by omega) rfl rfl (Nat.le_of_ble_eq_true rfl) dX11_types_88 ?_
          refine z_if_eq (tgt := 98) dX11_types_91 (by decide) (fun hc => ?_) (fun hc => ?_)
          · have hF := zif_t hc hF
            refine z_iconst (v := 0) dX11_types_98 (by decide) ?_
            exact z_iret hF dX11_types_99
          · have hF := zif_f hc hF
            refine z_iconst (v := 1) dX11_types_94 (by decide) ?_
            refine z_goto (tgt := 99) dX11_types_95 (by decide) ?_
            exact z_iret hF dX11_types_99
        · have hF := zif_f hc hF
          refine z_iconst (v := (-1)) dX11_types_58 (by decide) ?_
          exact z_iret hF dX11_types_59
set_option maxHeartbeats 4000000 in
set_option maxRecDepth 20000 in
theorem wbX11_types_34 {E : zE} {C : zC} {f : Nat} {ro : Int32 × zS} (hf : 5 ≤ f) (x1 : Int32) (x2 : Int32) (x3 : Int32) (t : zS) (hF : bX11_types_34  x1 x2 x3 t = some ro) : zJ E shC C cX11_types RX11 5 f (some .int) ro t 34 [(0, .ref (za E 0)), (1, .int x1), (2, .int x2), (3, .int x3)] [] := by
  unfold bX11_types_34 at hF
  refine z_iconst (v := 0) dX11_types_34 (by decide) ?_
  exact wbX11_types_35 hf  x1 x2 x3 0 _ hF
set_option maxHeartbeats 4000000 in
set_option maxRecDepth 20000 in
theorem ctX11_types {E : zE} {f : Nat} (hf : 5 ≤ f) {x1 : Int32} {x2 : Int32} {x3 : Int32} {t : zS} {ro : Int32 × zS} (hF : mX11_types  x1 x2 x3 t = some ro) : zM E shC f yX11_types cX11_types 5 (some .int) [.ref (za E 0), .int x1, .int x2, .int x3] t ro := by
  refine zM_of (by decide) (Nat.le_of_ble_eq_true rfl) (fun C => ?_)
  show zJ E shC C cX11_types RX11 5 f (some .int) ro t 0 [(0, .ref (za E 0)), (1, .int x1), (2, .int x2), (3, .int x3)] []
  unfold mX11_types at hF
  refine z_iload_n 1 dX11_types_0 rfl rfl ?_
  refine z_if_lt (tgt := 34) dX11_types_1 (by decide) (fun hc => ?_) (fun hc => ?_)
  · have hF := zif_t hc hF
    exact wbX11_types_34 hf  x1 x2 x3 _ hF
  · have hF := zif_f hc hF
    refine z_iload_n 1 dX11_types_4 rfl rfl ?_
    refine z_aload_n 0 dX11_types_5 rfl rfl ?_
    refine z_getr fr_RX11_62 dX11_types_6 ?_
    refine z_geti fi_RX11_124 dX11_types_9 ?_
    refine z_icmp_ge (tgt := 34) dX11_types_12 (by decide) (fun hc => ?_) (fun hc => ?_)
    · have hF := zif_t hc hF
      exact wbX11_types_34 hf  x1 x2 x3 _ hF
    · have hF := zif_f hc hF
      refine z_iload_n 2 dX11_types_15 rfl rfl ?_
      refine z_if_lt (tgt := 34) dX11_types_16 (by decide) (fun hc => ?_) (fun hc => ?_)
      · have hF := zif_t hc hF
        exact wbX11_types_34 hf  x1 x2 x3 _ hF
      · have hF := zif_f hc hF
        refine z_iload_n 2 dX11_types_19 rfl rfl ?_
        refine z_aload_n 0 dX11_types_20 rfl rfl ?_
        refine z_getr fr_RX11_62 dX11_types_21 ?_
        refine z_geti fi_RX11_124 dX11_types_24 ?_
        refine z_icmp_ge (tgt := 34) dX11_types_27 (by decide) (fun hc => ?_) (fun hc => ?_)
        · have hF := zif_t hc hF
          exact wbX11_types_34 hf  x1 x2 x3 _ hF
        · have hF := zif_f hc hF
          refine z_iconst (v := 1) dX11_types_30 (by decide) ?_
          refine z_goto (tgt := 35) dX11_types_31 (by decide) ?_
          exact wbX11_types_35 hf  x1 x2 x3 1 _ hF
-- SessionHouseModel.isIn(JJJ)Z
theorem dX12_isIn_0 : decode cX12_isIn 0 = .ok (.lload_n 0, 1) := by decide +kernel
theorem dX12_isIn_1 : decode cX12_isIn 1 = .ok (.lload_n 2, 1) := by decide +kernel
theorem dX12_isIn_2 : decode cX12_isIn 2 = .ok (.lcmp, 1) := by decide +kernel
theorem dX12_isIn_3 : decode cX12_isIn 3 = .ok (.ifCond .lt 14, 3) := by decide +kernel
theorem dX12_isIn_6 : decode cX12_isIn 6 = .ok (.lload_n 0, 1) := by decide +kernel
theorem dX12_isIn_7 : decode cX12_isIn 7 = .ok (.lload 4, 2) := by decide +kernel
theorem dX12_isIn_9 : decode cX12_isIn 9 = .ok (.lcmp, 1) := by decide +kernel
theorem dX12_isIn_10 : decode cX12_isIn 10 = .ok (.ifCond .gt 7, 3) := by decide +kernel
theorem dX12_isIn_13 : decode cX12_isIn 13 = .ok (.iconst 1, 1) := by decide +kernel
theorem dX12_isIn_14 : decode cX12_isIn 14 = .ok (.goto 4, 3) := by decide +kernel
theorem dX12_isIn_17 : decode cX12_isIn 17 = .ok (.iconst 0, 1) := by decide +kernel
theorem dX12_isIn_18 : decode cX12_isIn 18 = .ok (.ireturn, 1) := by decide +kernel
def mX12_isIn (x0 : Int64) (x2 : Int64) (x4 : Int64) (t : zS) : zR := if (lg_cmp x0 x2) < 0 then some (0, t) else if 0 < (lg_cmp x0 x4) then some (0, t) else some (1, t)
set_option maxHeartbeats 4000000 in
set_option maxRecDepth 20000 in
theorem ctX12_isIn {E : zE} {f : Nat} (hf : 1 ≤ f) {x0 : Int64} {x2 : Int64} {x4 : Int64} {t : zS} {ro : Int32 × zS} (hF : mX12_isIn  x0 x2 x4 t = some ro) : zM E shM f yX12_isIn cX12_isIn 6 (some .boolean) [.long x0, .long x2, .long x4] t ro := by
  refine zM_of (by decide) (Nat.le_of_ble_eq_true rfl) (fun C => ?_)
  show zJ E shM C cX12_isIn RX12 6 f (some .boolean) ro t 0 [(0, .long x0), (2, .long x2), (4, .long x4)] []
  unfold mX12_isIn at hF
  refine z_lload_n 0 dX12_isIn_0 rfl rfl ?_
  refine z_lload_n 1 dX12_isIn_1 rfl rfl ?_
  refine z_lcmp dX12_isIn_2 ?_
  refine z_if_lt (tgt := 17) dX12_isIn_3 (by decide) (fun hc => ?_) (fun hc => ?_)
  · have hF := zif_t hc hF
    refine z_iconst (v := 0) dX12_isIn_17 (by decide) ?_
    exact z_zret hF (by decide) dX12_isIn_18
  · have hF := zif_f hc hF
    refine z_lload_n 0 dX12_isIn_6 rfl rfl ?_
    refine z_lload 2 dX12_isIn_7 rfl ?_
    refine z_lcmp dX12_isIn_9 ?_
    refine z_if_gt (tgt := 17) dX12_isIn_10 (by decide) (fun hc => ?_) (fun hc => ?_)
    · have hF := zif_t hc hF
      refine z_iconst (v := 0) dX12_isIn_17 (by decide) ?_
      exact z_zret hF (by decide) dX12_isIn_18
    · have hF := zif_f hc hF
      refine z_iconst (v := 1) dX12_isIn_13 (by decide) ?_
      refine z_goto (tgt := 18) dX12_isIn_14 (by decide) ?_
      exact z_zret hF (by decide) dX12_isIn_18
-- SessionHouseModel.isDigit(I)Z
theorem dX12_isDigit_0 : decode cX12_isDigit 0 = .ok (.iload_n 0, 1) := by decide +kernel
theorem dX12_isDigit_1 : decode cX12_isDigit 1 = .ok (.i2l, 1) := by decide +kernel
theorem dX12_isDigit_2 : decode cX12_isDigit 2 = .ok (.ldc2_w 205, 3) := by decide +kernel
theorem dX12_isDigit_5 : decode cX12_isDigit 5 = .ok (.ldc2_w 207, 3) := by decide +kernel
theorem dX12_isDigit_8 : decode cX12_isDigit 8 = .ok (.invokestatic 209, 3) := by decide +kernel
theorem dX12_isDigit_11 : decode cX12_isDigit 11 = .ok (.ireturn, 1) := by decide +kernel
def mX12_isDigit (x0 : Int32) (t : zS) : zR := zbd (mX12_isIn (Int32.toInt64 x0) 48 57 t) fun r2484 t2485 => z01 r2484 (some (r2484, t2485))
set_option maxHeartbeats 4000000 in
set_option maxRecDepth 20000 in
theorem ctX12_isDigit {E : zE} {f : Nat} (hf : 2 ≤ f) {x0 : Int32} {t : zS} {ro : Int32 × zS} (hF : mX12_isDigit  x0 t = some ro) : zM E shM f yX12_isDigit cX12_isDigit 1 (some .boolean) [.int x0] t ro := by
  refine zM_of (by decide) (Nat.le_of_ble_eq_true rfl) (fun C => ?_)
  show zJ E shM C cX12_isDigit RX12 1 f (some .boolean) ro t 0 [(0, .int x0)] []
  unfold mX12_isDigit at hF
  refine z_iload_n 0 dX12_isDigit_0 rfl rfl ?_
  refine z_i2l dX12_isDigit_1 ?_
  refine z_ldc2 kc_RX12_205 dX12_isDigit_2 ?_
  refine z_ldc2 kc_RX12_207 dX12_isDigit_5 ?_
  obtain ⟨r2484, t2485, hc2486, hF⟩ := zbd_at hF
  refine z_callSi (ctX12_isIn (E := E) (f := f - 1) (by omega) hc2486) yy_X12_isIn yv_X12_isIn lk_RX12_209 (by omega) rfl rfl (Nat.le_of_ble_eq_true rfl) dX12_isDigit_8 ?_
  obtain ⟨hz2487, hF⟩ := z01_at hF
  exact z_zret hF hz2487 dX12_isDigit_11
-- SessionHouseModel.isLetter(I)Z
theorem dX12_isLetter_0 : decode cX12_isLetter 0 = .ok (.iload_n 0, 1) := by decide +kernel
theorem dX12_isLetter_1 : decode cX12_isLetter 1 = .ok (.i2l, 1) := by decide +kernel
theorem dX12_isLetter_2 : decode cX12_isLetter 2 = .ok (.ldc2_w 213, 3) := by decide +kernel
theorem dX12_isLetter_5 : decode cX12_isLetter 5 = .ok (.ldc2_w 215, 3) := by decide +kernel
theorem dX12_isLetter_8 : decode cX12_isLetter 8 = .ok (.invokestatic 209, 3) := by decide +kernel
theorem dX12_isLetter_11 : decode cX12_isLetter 11 = .ok (.ifCond .ne 17, 3) := by decide +kernel
theorem dX12_isLetter_14 : decode cX12_isLetter 14 = .ok (.iload_n 0, 1) := by decide +kernel
theorem dX12_isLetter_15 : decode cX12_isLetter 15 = .ok (.i2l, 1) := by decide +kernel
theorem dX12_isLetter_16 : decode cX12_isLetter 16 = .ok (.ldc2_w 217, 3) := by decide +kernel
theorem dX12_isLetter_19 : decode cX12_isLetter 19 = .ok (.ldc2_w 219, 3) := by decide +kernel
theorem dX12_isLetter_22 : decode cX12_isLetter 22 = .ok (.invokestatic 209, 3) := by decide +kernel
theorem dX12_isLetter_25 : decode cX12_isLetter 25 = .ok (.ifCond .eq 7, 3) := by decide +kernel
theorem dX12_isLetter_28 : decode cX12_isLetter 28 = .ok (.iconst 1, 1) := by decide +kernel
theorem dX12_isLetter_29 : decode cX12_isLetter 29 = .ok (.goto 4, 3) := by decide +kernel
theorem dX12_isLetter_32 : decode cX12_isLetter 32 = .ok (.iconst 0, 1) := by decide +kernel
theorem dX12_isLetter_33 : decode cX12_isLetter 33 = .ok (.ireturn, 1) := by decide +kernel
def bX12_isLetter_28 (t : zS) : zR := some (1, t)
def mX12_isLetter (x0 : Int32) (t : zS) : zR := zbd (mX12_isIn (Int32.toInt64 x0) 97 122 t) fun r2488 t2489 => if r2488 = 0 then zbd (mX12_isIn (Int32.toInt64 x0) 65 90 t2489) fun r2491 t2492 => if r2491 = 0 then some (0, t2492) else bX12_isLetter_28   t2492 else bX12_isLetter_28   t2489
set_option maxHeartbeats 4000000 in
set_option maxRecDepth 20000 in
theorem wbX12_isLetter_28 {E : zE} {C : zC} {f : Nat} {ro : Int32 × zS} (hf : 2 ≤ f) (t : zS) (hF : bX12_isLetter_28   t = some ro) : zJ E shM C cX12_isLetter RX12 1 f (some .boolean) ro t 28 [] [] := by
  unfold bX12_isLetter_28 at hF
  refine z_iconst (v := 1) dX12_isLetter_28 (by decide) ?_
  refine z_goto (tgt := 33) dX12_isLetter_29 (by decide) ?_
  exact z_zret hF (by decide) dX12_isLetter_33
set_option maxHeartbeats 4000000 in
set_option maxRecDepth 20000 in
theorem ctX12_isLetter {E : zE} {f : Nat} (hf : 2 ≤ f) {x0 : Int32} {t : zS} {ro : Int32 × zS} (hF : mX12_isLetter  x0 t = some ro) : zM E shM f yX12_isLetter cX12_isLetter 1 (some .boolean) [.int x0] t ro := by
  refine zM_of (by decide) (Nat.le_of_ble_eq_true rfl) (fun C => ?_)
  show zJ E shM C cX12_isLetter RX12 1 f (some .boolean) ro t 0 [(0, .int x0)] []
  unfold mX12_isLetter at hF
  refine z_iload_n 0 dX12_isLetter_0 rfl rfl ?_
  refine z_i2l dX12_isLetter_1 ?_
  refine z_ldc2 kc_RX12_213 dX12_isLetter_2 ?_
  refine z_ldc2 kc_RX12_215 dX12_isLetter_5 ?_
  obtain ⟨r2488, t2489, hc2490, hF⟩ := zbd_at hF
  refine z_callSi (ctX12_isIn (E := E) (f := f - 1) (by omega) hc2490) yy_X12_isIn yv_X12_isIn lk_RX12_209 (by omega) rfl rfl (Nat.le_of_ble_eq_true rfl) dX12_isLetter_8 ?_
  refine z_if_ne (tgt := 28) dX12_isLetter_11 (by decide) (fun hc => ?_) (fun hc => ?_)
  · have hF := zif_f hc hF
    refine z_sub [] rfl ?_
    exact wbX12_isLetter_28 hf   _ hF
  · have hF := zif_t hc hF
    refine z_iload_n 0 dX12_isLetter_14 rfl rfl ?_
    refine z_i2l dX12_isLetter_15 ?_
    refine z_ldc2 kc_RX12_217 dX12_isLetter_16 ?_
    refine z_ldc2 kc_RX12_219 dX12_isLetter_19 ?_
    obtain ⟨r2491, t2492, hc2493, hF⟩ := zbd_at hF
    refine z_callSi (ctX12_isIn (E := E) (f := f - 1) (by omega) hc2493) yy_X12_isIn yv_X12_isIn lk_RX12_209 (by omega) rfl rfl (Nat.le_of_ble_eq_true rfl) dX12_isLetter_22 ?_
    refine z_if_eq (tgt := 32) dX12_isLetter_25 (by decide) (fun hc => ?_) (fun hc => ?_)
    · have hF := zif_t hc hF
      refine z_iconst (v := 0) dX12_isLetter_32 (by decide) ?_
      exact z_zret hF (by decide) dX12_isLetter_33
    · have hF := zif_f hc hF
      refine z_sub [] rfl ?_
      exact wbX12_isLetter_28 hf   _ hF
-- SessionHouseModel.byteAt(I)I
theorem dX12_byteAt_0 : decode cX12_byteAt 0 = .ok (.iload_n 1, 1) := by decide +kernel
theorem dX12_byteAt_1 : decode cX12_byteAt 1 = .ok (.aload_n 0, 1) := by decide +kernel
theorem dX12_byteAt_2 : decode cX12_byteAt 2 = .ok (.getfield 221, 3) := by decide +kernel
theorem dX12_byteAt_5 : decode cX12_byteAt 5 = .ok (.if_icmp .ge 12, 3) := by decide +kernel
theorem dX12_byteAt_8 : decode cX12_byteAt 8 = .ok (.aload_n 0, 1) := by decide +kernel
theorem dX12_byteAt_9 : decode cX12_byteAt 9 = .ok (.getfield 13, 3) := by decide +kernel
theorem dX12_byteAt_12 : decode cX12_byteAt 12 = .ok (.iload_n 1, 1) := by decide +kernel
theorem dX12_byteAt_13 : decode cX12_byteAt 13 = .ok (.iaload, 1) := by decide +kernel
theorem dX12_byteAt_14 : decode cX12_byteAt 14 = .ok (.goto 4, 3) := by decide +kernel
theorem dX12_byteAt_17 : decode cX12_byteAt 17 = .ok (.iconst 0, 1) := by decide +kernel
theorem dX12_byteAt_18 : decode cX12_byteAt 18 = .ok (.ireturn, 1) := by decide +kernel
def mX12_byteAt (x1 : Int32) (t : zS) : zR := if (t 0 3) ≤ x1 then some (0, t) else zrd t 2 3000 x1 fun v2494 => some (v2494, t)
set_option maxHeartbeats 4000000 in
set_option maxRecDepth 20000 in
theorem ctX12_byteAt {E : zE} {f : Nat} (hf : 1 ≤ f) {x1 : Int32} {t : zS} {ro : Int32 × zS} (hF : mX12_byteAt  x1 t = some ro) : zM E shM f yX12_byteAt cX12_byteAt 2 (some .int) [.ref (za E 0), .int x1] t ro := by
  refine zM_of (by decide) (Nat.le_of_ble_eq_true rfl) (fun C => ?_)
  show zJ E shM C cX12_byteAt RX12 2 f (some .int) ro t 0 [(0, .ref (za E 0)), (1, .int x1)] []
  unfold mX12_byteAt at hF
  refine z_iload_n 1 dX12_byteAt_0 rfl rfl ?_
  refine z_aload_n 0 dX12_byteAt_1 rfl rfl ?_
  refine z_geti fi_RX12_221 dX12_byteAt_2 ?_
  refine z_icmp_ge (tgt := 17) dX12_byteAt_5 (by decide) (fun hc => ?_) (fun hc => ?_)
  · have hF := zif_t hc hF
    refine z_iconst (v := 0) dX12_byteAt_17 (by decide) ?_
    exact z_iret hF dX12_byteAt_18
  · have hF := zif_f hc hF
    refine z_aload_n 0 dX12_byteAt_8 rfl rfl ?_
    refine z_getr fr_RX12_13 dX12_byteAt_9 ?_
    refine z_iload_n 1 dX12_byteAt_12 rfl rfl ?_
    obtain ⟨hi2495, hF⟩ := zrd_at hF
    refine z_iald (n := 3000) rfl hi2495 dX12_byteAt_13 ?_
    generalize t 2 (Int32.toNatClampNeg x1) = v2494 at hF ⊢
    refine z_goto (tgt := 18) dX12_byteAt_14 (by decide) ?_
    exact z_iret hF dX12_byteAt_18
