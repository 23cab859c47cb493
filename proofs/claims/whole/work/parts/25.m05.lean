-- SessionHouse$Forms.equal(II)Z
theorem dX2_equal_0 : decode cX2_equal 0 = .ok (.aload_n 0, 1) := by decide +kernel
theorem dX2_equal_1 : decode cX2_equal 1 = .ok (.iconst 0, 1) := by decide +kernel
theorem dX2_equal_2 : decode cX2_equal 2 = .ok (.putfield 86, 3) := by decide +kernel
theorem dX2_equal_5 : decode cX2_equal 5 = .ok (.aload_n 0, 1) := by decide +kernel
theorem dX2_equal_6 : decode cX2_equal 6 = .ok (.iload_n 1, 1) := by decide +kernel
theorem dX2_equal_7 : decode cX2_equal 7 = .ok (.iload_n 2, 1) := by decide +kernel
theorem dX2_equal_8 : decode cX2_equal 8 = .ok (.invokevirtual 89, 3) := by decide +kernel
theorem dX2_equal_11 : decode cX2_equal 11 = .ok (.iconst 0, 1) := by decide +kernel
theorem dX2_equal_12 : decode cX2_equal 12 = .ok (.istore_n 3, 1) := by decide +kernel
theorem dX2_equal_13 : decode cX2_equal 13 = .ok (.iload_n 3, 1) := by decide +kernel
theorem dX2_equal_14 : decode cX2_equal 14 = .ok (.sipush 12000, 3) := by decide +kernel
theorem dX2_equal_17 : decode cX2_equal 17 = .ok (.if_icmp .ge 152, 3) := by decide +kernel
theorem dX2_equal_20 : decode cX2_equal 20 = .ok (.aload_n 0, 1) := by decide +kernel
theorem dX2_equal_21 : decode cX2_equal 21 = .ok (.getfield 86, 3) := by decide +kernel
theorem dX2_equal_24 : decode cX2_equal 24 = .ok (.ifCond .le 145, 3) := by decide +kernel
theorem dX2_equal_27 : decode cX2_equal 27 = .ok (.aload_n 0, 1) := by decide +kernel
theorem dX2_equal_28 : decode cX2_equal 28 = .ok (.dup, 1) := by decide +kernel
theorem dX2_equal_29 : decode cX2_equal 29 = .ok (.getfield 86, 3) := by decide +kernel
theorem dX2_equal_32 : decode cX2_equal 32 = .ok (.iconst 1, 1) := by decide +kernel
theorem dX2_equal_33 : decode cX2_equal 33 = .ok (.isub, 1) := by decide +kernel
theorem dX2_equal_34 : decode cX2_equal 34 = .ok (.putfield 86, 3) := by decide +kernel
theorem dX2_equal_37 : decode cX2_equal 37 = .ok (.aload_n 0, 1) := by decide +kernel
theorem dX2_equal_38 : decode cX2_equal 38 = .ok (.aload_n 0, 1) := by decide +kernel
theorem dX2_equal_39 : decode cX2_equal 39 = .ok (.aload_n 0, 1) := by decide +kernel
theorem dX2_equal_40 : decode cX2_equal 40 = .ok (.getfield 50, 3) := by decide +kernel
theorem dX2_equal_43 : decode cX2_equal 43 = .ok (.iconst 2, 1) := by decide +kernel
theorem dX2_equal_44 : decode cX2_equal 44 = .ok (.aload_n 0, 1) := by decide +kernel
theorem dX2_equal_45 : decode cX2_equal 45 = .ok (.getfield 86, 3) := by decide +kernel
theorem dX2_equal_48 : decode cX2_equal 48 = .ok (.imul, 1) := by decide +kernel
theorem dX2_equal_49 : decode cX2_equal 49 = .ok (.invokevirtual 74, 3) := by decide +kernel
theorem dX2_equal_52 : decode cX2_equal 52 = .ok (.invokevirtual 92, 3) := by decide +kernel
theorem dX2_equal_55 : decode cX2_equal 55 = .ok (.invokevirtual 95, 3) := by decide +kernel
theorem dX2_equal_58 : decode cX2_equal 58 = .ok (.istore 4, 2) := by decide +kernel
theorem dX2_equal_60 : decode cX2_equal 60 = .ok (.aload_n 0, 1) := by decide +kernel
theorem dX2_equal_61 : decode cX2_equal 61 = .ok (.aload_n 0, 1) := by decide +kernel
theorem dX2_equal_62 : decode cX2_equal 62 = .ok (.aload_n 0, 1) := by decide +kernel
theorem dX2_equal_63 : decode cX2_equal 63 = .ok (.getfield 50, 3) := by decide +kernel
theorem dX2_equal_66 : decode cX2_equal 66 = .ok (.iconst 2, 1) := by decide +kernel
theorem dX2_equal_67 : decode cX2_equal 67 = .ok (.aload_n 0, 1) := by decide +kernel
theorem dX2_equal_68 : decode cX2_equal 68 = .ok (.getfield 86, 3) := by decide +kernel
theorem dX2_equal_71 : decode cX2_equal 71 = .ok (.imul, 1) := by decide +kernel
theorem dX2_equal_72 : decode cX2_equal 72 = .ok (.iconst 1, 1) := by decide +kernel
theorem dX2_equal_73 : decode cX2_equal 73 = .ok (.iadd, 1) := by decide +kernel
theorem dX2_equal_74 : decode cX2_equal 74 = .ok (.invokevirtual 74, 3) := by decide +kernel
theorem dX2_equal_77 : decode cX2_equal 77 = .ok (.invokevirtual 92, 3) := by decide +kernel
theorem dX2_equal_80 : decode cX2_equal 80 = .ok (.invokevirtual 95, 3) := by decide +kernel
theorem dX2_equal_83 : decode cX2_equal 83 = .ok (.istore 5, 2) := by decide +kernel
theorem dX2_equal_85 : decode cX2_equal 85 = .ok (.iload 4, 2) := by decide +kernel
theorem dX2_equal_87 : decode cX2_equal 87 = .ok (.iload 5, 2) := by decide +kernel
theorem dX2_equal_89 : decode cX2_equal 89 = .ok (.if_icmp .ne 6, 3) := by decide +kernel
theorem dX2_equal_92 : decode cX2_equal 92 = .ok (.goto 71, 3) := by decide +kernel
theorem dX2_equal_95 : decode cX2_equal 95 = .ok (.aload_n 0, 1) := by decide +kernel
theorem dX2_equal_96 : decode cX2_equal 96 = .ok (.iload 4, 2) := by decide +kernel
theorem dX2_equal_98 : decode cX2_equal 98 = .ok (.invokevirtual 98, 3) := by decide +kernel
theorem dX2_equal_101 : decode cX2_equal 101 = .ok (.aload_n 0, 1) := by decide +kernel
theorem dX2_equal_102 : decode cX2_equal 102 = .ok (.iload 5, 2) := by decide +kernel
theorem dX2_equal_104 : decode cX2_equal 104 = .ok (.invokevirtual 98, 3) := by decide +kernel
theorem dX2_equal_107 : decode cX2_equal 107 = .ok (.if_icmp .ne 39, 3) := by decide +kernel
theorem dX2_equal_110 : decode cX2_equal 110 = .ok (.aload_n 0, 1) := by decide +kernel
theorem dX2_equal_111 : decode cX2_equal 111 = .ok (.iload 4, 2) := by decide +kernel
theorem dX2_equal_113 : decode cX2_equal 113 = .ok (.invokevirtual 98, 3) := by decide +kernel
theorem dX2_equal_116 : decode cX2_equal 116 = .ok (.bipush 8, 2) := by decide +kernel
theorem dX2_equal_118 : decode cX2_equal 118 = .ok (.if_icmp .lt 17, 3) := by decide +kernel
theorem dX2_equal_121 : decode cX2_equal 121 = .ok (.aload_n 0, 1) := by decide +kernel
theorem dX2_equal_122 : decode cX2_equal 122 = .ok (.iload 4, 2) := by decide +kernel
theorem dX2_equal_124 : decode cX2_equal 124 = .ok (.iload 5, 2) := by decide +kernel
theorem dX2_equal_126 : decode cX2_equal 126 = .ok (.invokevirtual 101, 3) := by decide +kernel
theorem dX2_equal_129 : decode cX2_equal 129 = .ok (.ifCond .eq 17, 3) := by decide +kernel
theorem dX2_equal_132 : decode cX2_equal 132 = .ok (.goto 20, 3) := by decide +kernel
theorem dX2_equal_135 : decode cX2_equal 135 = .ok (.aload_n 0, 1) := by decide +kernel
theorem dX2_equal_136 : decode cX2_equal 136 = .ok (.iload 4, 2) := by decide +kernel
theorem dX2_equal_138 : decode cX2_equal 138 = .ok (.iload 5, 2) := by decide +kernel
theorem dX2_equal_140 : decode cX2_equal 140 = .ok (.invokevirtual 105, 3) := by decide +kernel
theorem dX2_equal_143 : decode cX2_equal 143 = .ok (.ifCond .ne 9, 3) := by decide +kernel
theorem dX2_equal_146 : decode cX2_equal 146 = .ok (.aload_n 0, 1) := by decide +kernel
theorem dX2_equal_147 : decode cX2_equal 147 = .ok (.invokevirtual 67, 3) := by decide +kernel
theorem dX2_equal_150 : decode cX2_equal 150 = .ok (.iconst 0, 1) := by decide +kernel
theorem dX2_equal_151 : decode cX2_equal 151 = .ok (.ireturn, 1) := by decide +kernel
theorem dX2_equal_152 : decode cX2_equal 152 = .ok (.aload_n 0, 1) := by decide +kernel
theorem dX2_equal_153 : decode cX2_equal 153 = .ok (.getfield 47, 3) := by decide +kernel
theorem dX2_equal_156 : decode cX2_equal 156 = .ok (.iload 4, 2) := by decide +kernel
theorem dX2_equal_158 : decode cX2_equal 158 = .ok (.iload 5, 2) := by decide +kernel
theorem dX2_equal_160 : decode cX2_equal 160 = .ok (.invokevirtual 70, 3) := by decide +kernel
theorem dX2_equal_163 : decode cX2_equal 163 = .ok (.iinc 3 1, 3) := by decide +kernel
theorem dX2_equal_166 : decode cX2_equal 166 = .ok (.goto (-153), 3) := by decide +kernel
theorem dX2_equal_169 : decode cX2_equal 169 = .ok (.iconst 1, 1) := by decide +kernel
theorem dX2_equal_170 : decode cX2_equal 170 = .ok (.ireturn, 1) := by decide +kernel
def bX2_equal_163 (k13 : Int32 → zS → zR) (x3 : Int32) (t : zS) : zR := zlet (x3 + 1) fun v1219 => k13 v1219 t
def bX2_equal_152 (k13 : Int32 → zS → zR) (x3 : Int32) (x4 : Int32) (x5 : Int32) (t : zS) : zR := zbd (mX5_set 28 6000 x4 x5 t) fun r1220 t1221 => bX2_equal_163 k13 x3 t1221
def bX2_equal_146 (t : zS) : zR := zbd (mX2_forgetEqual  t) fun r1223 t1224 => some (0, t1224)
def bX2_equal_13 (k13 : Int32 → zS → zR) (x3 : Int32) (t : zS) : zR := if 12000 ≤ x3 then some (1, t) else if (t 3 12) ≤ 0 then some (1, t) else zpt t 3 12 ((t 3 12) - 1) fun t1226 => zbd (mX5_get 30 12004 (2 * (t1226 3 12)) t1226) fun r1227 t1228 => zbd (mX2_settled r1227 t1228) fun r1230 t1231 => zbd (mX2_highest r1230 t1231) fun r1233 t1234 => zbd (mX5_get 30 12004 ((2 * (t1234 3 12)) + 1) t1234) fun r1236 t1237 => zbd (mX2_settled r1236 t1237) fun r1239 t1240 => zbd (mX2_highest r1239 t1240) fun r1242 t1243 => if r1233 = r1242 then bX2_equal_163 k13 x3 t1243 else zbd (mX2_kindOf r1233 t1243) fun r1245 t1246 => zbd (mX2_kindOf r1242 t1246) fun r1248 t1249 => if r1245 = r1248 then zbd (mX2_kindOf r1233 t1249) fun r1251 t1252 => if r1251 < 8 then zbd (mX2_goOnAlike r1233 r1242 t1252) fun r1254 t1255 => if r1254 = 0 then bX2_equal_146   t1255 else bX2_equal_152 k13 x3 r1233 r1242 t1255 else zbd (mX2_chooseAlike r1233 r1242 t1252) fun r1257 t1258 => if r1257 = 0 then bX2_equal_146   t1258 else bX2_equal_152 k13 x3 r1233 r1242 t1258 else bX2_equal_146   t1249
def lX2_equal_13 : Nat → Int32 → zS → zR
  | 0, _, _ => none
  | fu + 1, x3, t => bX2_equal_13 (lX2_equal_13  fu) x3 t
def mX2_equal (x1 : Int32) (x2 : Int32) (t : zS) : zR := zpt t 3 12 0 fun t1260 => zbd (mX2_pairUp x1 x2 t1260) fun r1261 t1262 => lX2_equal_13  zFU 0 t1262
set_option maxHeartbeats 4000000 in
set_option maxRecDepth 20000 in
theorem wbX2_equal_163 {E : zE} {C : zC} {f : Nat} {ro : Int32 × zS} (hf : 4 ≤ f) (k13 : Int32 → zS → zR) (hk13 : ∀ (x3 : Int32) (t : zS), k13 x3 t = some ro → zJ E shC C cX2_equal RX2 6 f (some .boolean) ro t 13 [(0, .ref (za E 3)), (3, .int x3)] []) (x3 : Int32) (t : zS) (hF : bX2_equal_163 k13 x3 t = some ro) : zJ E shC C cX2_equal RX2 6 f (some .boolean) ro t 163 [(0, .ref (za E 3)), (3, .int x3)] [] := by
  unfold bX2_equal_163 at hF
  obtain ⟨v1219, ev1219⟩ : ∃ y : Int32, y = (x3 + 1) := ⟨_, rfl⟩
  have hF := zlet_at ev1219 hF
  refine z_iinc (v := v1219) (lv' := [(3, .int v1219), (0, .ref (za E 3))]) (k := 1) dX2_equal_163 rfl (by rw [ev1219]; rfl) (by decide) rfl ?_
  refine z_goto (tgt := 13) dX2_equal_166 (by decide) ?_
  refine z_sub [1, 0] rfl ?_
  exact hk13 v1219 _ hF
set_option maxHeartbeats 4000000 in
set_option maxRecDepth 20000 in
theorem wbX2_equal_152 {E : zE} {C : zC} {f : Nat} {ro : Int32 × zS} (hf : 4 ≤ f) (k13 : Int32 → zS → zR) (hk13 : ∀ (x3 : Int32) (t : zS), k13 x3 t = some ro → zJ E shC C cX2_equal RX2 6 f (some .boolean) ro t 13 [(0, .ref (za E 3)), (3, .int x3)] []) (x3 : Int32) (x4 : Int32) (x5 : Int32) (t : zS) (hF : bX2_equal_152 k13 x3 x4 x5 t = some ro) : zJ E shC C cX2_equal RX2 6 f (some .boolean) ro t 152 [(0, .ref (za E 3)), (3, .int x3), (4, .int x4), (5, .int x5)] [] := by
  unfold bX2_equal_152 at hF
  refine z_aload_n 0 dX2_equal_152 rfl rfl ?_
  refine z_getr fr_RX2_47 dX2_equal_153 ?_
  refine z_iload 2 dX2_equal_156 rfl ?_
  refine z_iload 3 dX2_equal_158 rfl ?_
  obtain ⟨r1220, t1221, hc1222, hF⟩ := zbd_at hF
  refine z_callVv (ctX5_set (E := E) (sh := shC) (f := f - 1) (by omega) (k := 28) (n := 6000) rfl rfl hc1222) yy_X5_set yv_X5_set ob_C_28 lk_RX2_70 (by omega) rfl rfl (Nat.le_of_ble_eq_true rfl) dX2_equal_160 ?_
  refine z_sub [0, 1] rfl ?_
  exact wbX2_equal_163 hf k13 hk13 x3 _ hF
set_option maxHeartbeats 4000000 in
set_option maxRecDepth 20000 in
theorem wbX2_equal_146 {E : zE} {C : zC} {f : Nat} {ro : Int32 × zS} (hf : 4 ≤ f) (t : zS) (hF : bX2_equal_146   t = some ro) : zJ E shC C cX2_equal RX2 6 f (some .boolean) ro t 146 [(0, .ref (za E 3))] [] := by
  unfold bX2_equal_146 at hF
  refine z_aload_n 0 dX2_equal_146 rfl rfl ?_
  obtain ⟨r1223, t1224, hc1225, hF⟩ := zbd_at hF
  refine z_callVv (ctX2_forgetEqual (E := E) (f := f - 1) (by omega) hc1225) yy_X2_forgetEqual yv_X2_forgetEqual ob_C_3 lk_RX2_67 (by omega) rfl rfl (Nat.le_of_ble_eq_true rfl) dX2_equal_147 ?_
  refine z_iconst (v := 0) dX2_equal_150 (by decide) ?_
  exact z_zret hF (by decide) dX2_equal_151
set_option maxHeartbeats 4000000 in
set_option maxRecDepth 20000 in
theorem wbX2_equal_13 {E : zE} {C : zC} {f : Nat} {ro : Int32 × zS} (hf : 4 ≤ f) (k13 : Int32 → zS → zR) (hk13 : ∀ (x3 : Int32) (t : zS), k13 x3 t = some ro → zJ E shC C cX2_equal RX2 6 f (some .boolean) ro t 13 [(0, .ref (za E 3)), (3, .int x3)] []) (x3 : Int32) (t : zS) (hF : bX2_equal_13 k13 x3 t = some ro) : zJ E shC C cX2_equal RX2 6 f (some .boolean) ro t 13 [(0, .ref (za E 3)), (3, .int x3)] [] := by
  unfold bX2_equal_13 at hF
  refine z_iload_n 1 dX2_equal_13 rfl rfl ?_
  refine z_sipush (v := 12000) dX2_equal_14 (by decide) ?_
  refine z_icmp_ge (tgt := 169) dX2_equal_17 (by decide) (fun hc => ?_) (fun hc => ?_)
  · have hF := zif_t hc hF
    refine z_iconst (v := 1) dX2_equal_169 (by decide) ?_
    exact z_zret hF (by decide) dX2_equal_170
  · have hF := zif_f hc hF
    refine z_aload_n 0 dX2_equal_20 rfl rfl ?_
    refine z_geti fi_RX2_86 dX2_equal_21 ?_
    refine z_if_le (tgt := 169) dX2_equal_24 (by decide) (fun hc => ?_) (fun hc => ?_)
    · have hF := zif_t hc hF
      refine z_iconst (v := 1) dX2_equal_169 (by decide) ?_
      exact z_zret hF (by decide) dX2_equal_170
    · have hF := zif_f hc hF
      refine z_aload_n 0 dX2_equal_27 rfl rfl ?_
      refine z_dup dX2_equal_28 rfl ?_
      refine z_geti fi_RX2_86 dX2_equal_29 ?_
      refine z_iconst (v := 1) dX2_equal_32 (by decide) ?_
      refine z_isub dX2_equal_33 ?_
      refine z_puti fw_RX2_86 dX2_equal_34 (fun t1226 et1226 => ?_)
      have hF := zpt_at hF t1226 et1226
      refine z_aload_n 0 dX2_equal_37 rfl rfl ?_
      refine z_aload_n 0 dX2_equal_38 rfl rfl ?_
      refine z_aload_n 0 dX2_equal_39 rfl rfl ?_
      refine z_getr fr_RX2_50 dX2_equal_40 ?_
      refine z_iconst (v := 2) dX2_equal_43 (by decide) ?_
      refine z_aload_n 0 dX2_equal_44 rfl rfl ?_
      refine z_geti fi_RX2_86 dX2_equal_45 ?_
      refine z_imul dX2_equal_48 ?_
      obtain ⟨r1227, t1228, hc1229, hF⟩ := zbd_at hF
      refine z_callVi (ctX5_get (E := E) (sh := shC) (f := f - 1) (by omega) (k := 30) (n := 12004) rfl rfl hc1229) yy_X5_get yv_X5_get ob_C_30 lk_RX2_74 (by omega) rfl rfl (Nat.le_of_ble_eq_true rfl) dX2_equal_49 ?_
      obtain ⟨r1230, t1231, hc1232, hF⟩ := zbd_at hF
      refine z_callVi (ctX2_settled (E := E) (f := f - 1) (by omega) hc1232) yy_X2_settled yv_X2_settled ob_C_3 lk_RX2_92 (by omega) rfl rfl (Nat.le_of_ble_eq_true rfl) dX2_equal_52 ?_
      obtain ⟨r1233, t1234, hc1235, hF⟩ := zbd_at hF
      refine z_callVi (ctX2_highest (E := E) (f := f - 1) (by omega) hc1235) yy_X2_highest yv_X2_highest ob_C_3 lk_RX2_95 (by omega) rfl rfl (Nat.le_of_ble_eq_true rfl) dX2_equal_55 ?_
      refine z_istore (lv' := [(4, .int r1233), (0, .ref (za E 3)), (3, .int x3)]) dX2_equal_58 (by decide) rfl ?_
      refine z_aload_n 1 dX2_equal_60 rfl rfl ?_
      refine z_aload_n 1 dX2_equal_61 rfl rfl ?_
      refine z_aload_n 1 dX2_equal_62 rfl rfl ?_
      refine z_getr fr_RX2_50 dX2_equal_63 ?_
      refine z_iconst (v := 2) dX2_equal_66 (by decide) ?_
      refine z_aload_n 1 dX2_equal_67 rfl rfl ?_
      refine z_geti fi_RX2_86 dX2_equal_68 ?_
      refine z_imul dX2_equal_71 ?_
      refine z_iconst (v := 1) dX2_equal_72 (by decide) ?_
      refine z_iadd dX2_equal_73 ?_
      obtain ⟨r1236, t1237, hc1238, hF⟩ := zbd_at hF
      refine z_callVi (ctX5_get (E := E) (sh := shC) (f := f - 1) (by omega) (k := 30) (n := 12004) rfl rfl hc1238) yy_X5_get yv_X5_get ob_C_30 lk_RX2_74 (by omega) rfl rfl (Nat.le_of_ble_eq_true rfl) dX2_equal_74 ?_
      obtain ⟨r1239, t1240, hc1241, hF⟩ := zbd_at hF
      refine z_callVi (ctX2_settled (E := E) (f := f - 1) (by omega) hc1241) yy_X2_settled yv_X2_settled ob_C_3 lk_RX2_92 (by omega) rfl rfl (Nat.le_of_ble_eq_true rfl) dX2_equal_77 ?_
      obtain ⟨r1242, t1243, hc1244, hF⟩ := zbd_at hF
      refine z_callVi (ctX2_highest (E := E) (f := f - 1) (by omega) hc1244) yy_X2_highest yv_X2_highest ob_C_3 lk_RX2_95 (by omega) rfl rfl (Nat.le_of_ble_eq_true rfl) dX2_equal_80 ?_
      refine z_istore (lv' := [(5, .int r1242), (4, .int r1233), (0, .ref (za E 3)), (3, .int x3)]) dX2_equal_83 (by decide) rfl ?_
      refine z_iload 1 dX2_equal_85 rfl ?_
      refine z_iload 0 dX2_equal_87 rfl ?_
      refine z_icmp_ne (tgt := 95) dX2_equal_89 (by decide) (fun hc => ?_) (fun hc => ?_)
      · have hF := zif_f hc hF
        refine z_aload_n 2 dX2_equal_95 rfl rfl ?_
        refine z_iload 1 dX2_equal_96 rfl ?_
        obtain ⟨r1245, t1246, hc1247, hF⟩ := zbd_at hF
        refine z_callVi (ctX2_kindOf (E := E) (f := f - 1) (by omega) hc1247) yy_X2_kindOf yv_X2_kindOf ob_C_3 lk_RX2_98 (by omega) rfl rfl (Nat.le_of_ble_eq_true rfl) dX2_equal_98 ?_
        refine z_aload_n 2 dX2_equal_101 rfl rfl ?_
        refine z_iload 0 dX2_equal_102 rfl ?_
        obtain ⟨r1248, t1249, hc1250, hF⟩ := zbd_at hF
        refine z_callVi (ctX2_kindOf (E := E) (f := f - 1) (by omega) hc1250) yy_X2_kindOf yv_X2_kindOf ob_C_3 lk_RX2_98 (by omega) rfl rfl (Nat.le_of_ble_eq_true rfl) dX2_equal_104 ?_
        refine z_icmp_ne (tgt := 146) dX2_equal_107 (by decide) (fun hc => ?_) (fun hc => ?_)
        · have hF := zif_f hc hF
          refine z_sub [2] rfl ?_
          exact wbX2_equal_146 hf   _ hF
        · have hF := zif_t hc hF
          refine z_aload_n 2 dX2_equal_110 rfl rfl ?_
          refine z_iload 1 dX2_equal_111 rfl ?_
          obtain ⟨r1251, t1252, hc1253, hF⟩ := zbd_at hF
          refine z_callVi (ctX2_kindOf (E := E) (f := f - 1) (by omega) hc1253) yy_X2_kindOf yv_X2_kindOf ob_C_3 lk_RX2_98 (by omega) rfl rfl (Nat.le_of_ble_eq_true rfl) dX2_equal_113 ?_
          refine z_bipush (v := 8) dX2_equal_116 (by decide) ?_
          refine z_icmp_lt (tgt := 135) dX2_equal_118 (by decide) (fun hc => ?_) (fun hc => ?_)
          · have hF := zif_t hc hF
            refine z_aload_n 2 dX2_equal_135 rfl rfl ?_
            refine z_iload 1 dX2_equal_136 rfl ?_
            refine z_iload 0 dX2_equal_138 rfl ?_
            obtain ⟨r1254, t1255, hc1256, hF⟩ := zbd_at hF
            refine z_callVi (ctX2_goOnAlike (E := E) (f := f - 1) (by omega) hc1256) yy_X2_goOnAlike yv_X2_goOnAlike ob_C_3 lk_RX2_105 (by omega) rfl rfl (Nat.le_of_ble_eq_true rfl) dX2_equal_140 ?_
            refine z_if_ne (tgt := 152) dX2_equal_143 (by decide) (fun hc => ?_) (fun hc => ?_)
            · have hF := zif_f hc hF
              refine z_sub [2, 3, 1, 0] rfl ?_
              exact wbX2_equal_152 hf k13 hk13 x3 r1233 r1242 _ hF
            · have hF := zif_t hc hF
              refine z_sub [2] rfl ?_
              exact wbX2_equal_146 hf   _ hF
          · have hF := zif_f hc hF
            refine z_aload_n 2 dX2_equal_121 rfl rfl ?_
            refine z_iload 1 dX2_equal_122 rfl ?_
            refine z_iload 0 dX2_equal_124 rfl ?_
            obtain ⟨r1257, t1258, hc1259, hF⟩ := zbd_at hF
            refine z_callVi (ctX2_chooseAlike (E := E) (f := f - 1) (by omega) hc1259) yy_X2_chooseAlike yv_X2_chooseAlike ob_C_3 lk_RX2_101 (by omega) rfl rfl (Nat.le_of_ble_eq_true rfl) dX2_equal_126 ?_
            refine z_if_eq (tgt := 146) dX2_equal_129 (by decide) (fun hc => ?_) (fun hc => ?_)
            · have hF := zif_t hc hF
              refine z_sub [2] rfl ?_
              exact wbX2_equal_146 hf   _ hF
            · have hF := zif_f hc hF
              refine z_goto (tgt := 152) dX2_equal_132 (by decide) ?_
              refine z_sub [2, 3, 1, 0] rfl ?_
              exact wbX2_equal_152 hf k13 hk13 x3 r1233 r1242 _ hF
      · have hF := zif_t hc hF
        refine z_goto (tgt := 163) dX2_equal_92 (by decide) ?_
        refine z_sub [2, 3] rfl ?_
        exact wbX2_equal_163 hf k13 hk13 x3 _ hF
set_option maxHeartbeats 4000000 in
set_option maxRecDepth 20000 in
theorem wlX2_equal_13 {E : zE} {C : zC} {f : Nat} {ro : Int32 × zS} (hf : 4 ≤ f) (fu : Nat) : ∀ (x3 : Int32) (t : zS), lX2_equal_13  fu x3 t = some ro → zJ E shC C cX2_equal RX2 6 f (some .boolean) ro t 13 [(0, .ref (za E 3)), (3, .int x3)] [] := by
  induction fu with
  | zero => intro x3 t hF; cases hF
  | succ fu ih => intro x3 t hF; exact wbX2_equal_13 hf (lX2_equal_13  fu) ih x3 t hF
set_option maxHeartbeats 4000000 in
set_option maxRecDepth 20000 in
theorem ctX2_equal {E : zE} {f : Nat} (hf : 4 ≤ f) {x1 : Int32} {x2 : Int32} {t : zS} {ro : Int32 × zS} (hF : mX2_equal  x1 x2 t = some ro) : zM E shC f yX2_equal cX2_equal 6 (some .boolean) [.ref (za E 3), .int x1, .int x2] t ro := by
  refine zM_of (by decide) (Nat.le_of_ble_eq_true rfl) (fun C => ?_)
  show zJ E shC C cX2_equal RX2 6 f (some .boolean) ro t 0 [(0, .ref (za E 3)), (1, .int x1), (2, .int x2)] []
  unfold mX2_equal at hF
  refine z_aload_n 0 dX2_equal_0 rfl rfl ?_
  refine z_iconst (v := 0) dX2_equal_1 (by decide) ?_
  refine z_puti fw_RX2_86 dX2_equal_2 (fun t1260 et1260 => ?_)
  have hF := zpt_at hF t1260 et1260
  refine z_aload_n 0 dX2_equal_5 rfl rfl ?_
  refine z_iload_n 1 dX2_equal_6 rfl rfl ?_
  refine z_iload_n 2 dX2_equal_7 rfl rfl ?_
  obtain ⟨r1261, t1262, hc1263, hF⟩ := zbd_at hF
  refine z_callVv (ctX2_pairUp (E := E) (f := f - 1) (by omega) hc1263) yy_X2_pairUp yv_X2_pairUp ob_C_3 lk_RX2_89 (by omega) rfl rfl (Nat.le_of_ble_eq_true rfl) dX2_equal_8 ?_
  refine z_iconst (v := 0) dX2_equal_11 (by decide) ?_
  refine z_istore_n (lv' := [(3, .int 0), (0, .ref (za E 3)), (1, .int x1), (2, .int x2)]) dX2_equal_12 rfl (by decide) rfl ?_
  refine z_sub [1, 0] rfl ?_
  exact wlX2_equal_13 hf  zFU 0 _ hF
-- SessionHouse$Checker.givesArguments(I)Z
theorem dX1_givesArguments_0 : decode cX1_givesArguments 0 = .ok (.aload_n 0, 1) := by decide +kernel
theorem dX1_givesArguments_1 : decode cX1_givesArguments 1 = .ok (.getfield 33, 3) := by decide +kernel
theorem dX1_givesArguments_4 : decode cX1_givesArguments 4 = .ok (.aload_n 0, 1) := by decide +kernel
theorem dX1_givesArguments_5 : decode cX1_givesArguments 5 = .ok (.getfield 29, 3) := by decide +kernel
theorem dX1_givesArguments_8 : decode cX1_givesArguments 8 = .ok (.getfield 150, 3) := by decide +kernel
theorem dX1_givesArguments_11 : decode cX1_givesArguments 11 = .ok (.iload_n 1, 1) := by decide +kernel
theorem dX1_givesArguments_12 : decode cX1_givesArguments 12 = .ok (.invokevirtual 46, 3) := by decide +kernel
theorem dX1_givesArguments_15 : decode cX1_givesArguments 15 = .ok (.invokevirtual 180, 3) := by decide +kernel
theorem dX1_givesArguments_18 : decode cX1_givesArguments 18 = .ok (.istore_n 2, 1) := by decide +kernel
theorem dX1_givesArguments_19 : decode cX1_givesArguments 19 = .ok (.aload_n 0, 1) := by decide +kernel
theorem dX1_givesArguments_20 : decode cX1_givesArguments 20 = .ok (.getfield 29, 3) := by decide +kernel
theorem dX1_givesArguments_23 : decode cX1_givesArguments 23 = .ok (.getfield 147, 3) := by decide +kernel
theorem dX1_givesArguments_26 : decode cX1_givesArguments 26 = .ok (.iload_n 1, 1) := by decide +kernel
theorem dX1_givesArguments_27 : decode cX1_givesArguments 27 = .ok (.invokevirtual 46, 3) := by decide +kernel
theorem dX1_givesArguments_30 : decode cX1_givesArguments 30 = .ok (.ifCond .lt 7, 3) := by decide +kernel
theorem dX1_givesArguments_33 : decode cX1_givesArguments 33 = .ok (.iconst 1, 1) := by decide +kernel
theorem dX1_givesArguments_34 : decode cX1_givesArguments 34 = .ok (.goto 4, 3) := by decide +kernel
theorem dX1_givesArguments_37 : decode cX1_givesArguments 37 = .ok (.iconst 0, 1) := by decide +kernel
theorem dX1_givesArguments_38 : decode cX1_givesArguments 38 = .ok (.istore_n 3, 1) := by decide +kernel
theorem dX1_givesArguments_39 : decode cX1_givesArguments 39 = .ok (.aload_n 0, 1) := by decide +kernel
theorem dX1_givesArguments_40 : decode cX1_givesArguments 40 = .ok (.getfield 29, 3) := by decide +kernel
theorem dX1_givesArguments_43 : decode cX1_givesArguments 43 = .ok (.getfield 125, 3) := by decide +kernel
theorem dX1_givesArguments_46 : decode cX1_givesArguments 46 = .ok (.iload_n 1, 1) := by decide +kernel
theorem dX1_givesArguments_47 : decode cX1_givesArguments 47 = .ok (.invokevirtual 46, 3) := by decide +kernel
theorem dX1_givesArguments_50 : decode cX1_givesArguments 50 = .ok (.istore 4, 2) := by decide +kernel
theorem dX1_givesArguments_52 : decode cX1_givesArguments 52 = .ok (.iload 4, 2) := by decide +kernel
theorem dX1_givesArguments_54 : decode cX1_givesArguments 54 = .ok (.aload_n 0, 1) := by decide +kernel
theorem dX1_givesArguments_55 : decode cX1_givesArguments 55 = .ok (.getfield 29, 3) := by decide +kernel
theorem dX1_givesArguments_58 : decode cX1_givesArguments 58 = .ok (.getfield 128, 3) := by decide +kernel
theorem dX1_givesArguments_61 : decode cX1_givesArguments 61 = .ok (.iload_n 1, 1) := by decide +kernel
theorem dX1_givesArguments_62 : decode cX1_givesArguments 62 = .ok (.invokevirtual 46, 3) := by decide +kernel
theorem dX1_givesArguments_65 : decode cX1_givesArguments 65 = .ok (.if_icmp .ge 127, 3) := by decide +kernel
theorem dX1_givesArguments_68 : decode cX1_givesArguments 68 = .ok (.aload_n 0, 1) := by decide +kernel
theorem dX1_givesArguments_69 : decode cX1_givesArguments 69 = .ok (.getfield 33, 3) := by decide +kernel
theorem dX1_givesArguments_72 : decode cX1_givesArguments 72 = .ok (.iload_n 2, 1) := by decide +kernel
theorem dX1_givesArguments_73 : decode cX1_givesArguments 73 = .ok (.iload_n 3, 1) := by decide +kernel
theorem dX1_givesArguments_74 : decode cX1_givesArguments 74 = .ok (.invokevirtual 59, 3) := by decide +kernel
theorem dX1_givesArguments_77 : decode cX1_givesArguments 77 = .ok (.istore 5, 2) := by decide +kernel
theorem dX1_givesArguments_79 : decode cX1_givesArguments 79 = .ok (.aload_n 0, 1) := by decide +kernel
theorem dX1_givesArguments_80 : decode cX1_givesArguments 80 = .ok (.getfield 25, 3) := by decide +kernel
theorem dX1_givesArguments_83 : decode cX1_givesArguments 83 = .ok (.getfield 183, 3) := by decide +kernel
theorem dX1_givesArguments_86 : decode cX1_givesArguments 86 = .ok (.iload 4, 2) := by decide +kernel
theorem dX1_givesArguments_88 : decode cX1_givesArguments 88 = .ok (.invokevirtual 46, 3) := by decide +kernel
theorem dX1_givesArguments_91 : decode cX1_givesArguments 91 = .ok (.istore 6, 2) := by decide +kernel
theorem dX1_givesArguments_93 : decode cX1_givesArguments 93 = .ok (.iload 5, 2) := by decide +kernel
theorem dX1_givesArguments_95 : decode cX1_givesArguments 95 = .ok (.ifCond .ge 43, 3) := by decide +kernel
theorem dX1_givesArguments_98 : decode cX1_givesArguments 98 = .ok (.aload_n 0, 1) := by decide +kernel
theorem dX1_givesArguments_99 : decode cX1_givesArguments 99 = .ok (.getfield 25, 3) := by decide +kernel
theorem dX1_givesArguments_102 : decode cX1_givesArguments 102 = .ok (.aload_n 0, 1) := by decide +kernel
theorem dX1_givesArguments_103 : decode cX1_givesArguments 103 = .ok (.getfield 15, 3) := by decide +kernel
theorem dX1_givesArguments_106 : decode cX1_givesArguments 106 = .ok (.aload_n 0, 1) := by decide +kernel
theorem dX1_givesArguments_107 : decode cX1_givesArguments 107 = .ok (.getfield 25, 3) := by decide +kernel
theorem dX1_givesArguments_110 : decode cX1_givesArguments 110 = .ok (.getfield 186, 3) := by decide +kernel
theorem dX1_givesArguments_113 : decode cX1_givesArguments 113 = .ok (.iload 4, 2) := by decide +kernel
theorem dX1_givesArguments_115 : decode cX1_givesArguments 115 = .ok (.invokevirtual 46, 3) := by decide +kernel
theorem dX1_givesArguments_118 : decode cX1_givesArguments 118 = .ok (.aload_n 0, 1) := by decide +kernel
theorem dX1_givesArguments_119 : decode cX1_givesArguments 119 = .ok (.getfield 25, 3) := by decide +kernel
theorem dX1_givesArguments_122 : decode cX1_givesArguments 122 = .ok (.getfield 189, 3) := by decide +kernel
theorem dX1_givesArguments_125 : decode cX1_givesArguments 125 = .ok (.iload 4, 2) := by decide +kernel
theorem dX1_givesArguments_127 : decode cX1_givesArguments 127 = .ok (.invokevirtual 46, 3) := by decide +kernel
theorem dX1_givesArguments_130 : decode cX1_givesArguments 130 = .ok (.invokevirtual 131, 3) := by decide +kernel
theorem dX1_givesArguments_133 : decode cX1_givesArguments 133 = .ok (.ifCond .ne 50, 3) := by decide +kernel
theorem dX1_givesArguments_136 : decode cX1_givesArguments 136 = .ok (.iconst 0, 1) := by decide +kernel
theorem dX1_givesArguments_137 : decode cX1_givesArguments 137 = .ok (.ireturn, 1) := by decide +kernel
theorem dX1_givesArguments_138 : decode cX1_givesArguments 138 = .ok (.aload_n 0, 1) := by decide +kernel
theorem dX1_givesArguments_139 : decode cX1_givesArguments 139 = .ok (.getfield 15, 3) := by decide +kernel
theorem dX1_givesArguments_142 : decode cX1_givesArguments 142 = .ok (.iload 6, 2) := by decide +kernel
theorem dX1_givesArguments_144 : decode cX1_givesArguments 144 = .ok (.invokevirtual 46, 3) := by decide +kernel
theorem dX1_givesArguments_147 : decode cX1_givesArguments 147 = .ok (.ifCond .lt 24, 3) := by decide +kernel
theorem dX1_givesArguments_150 : decode cX1_givesArguments 150 = .ok (.aload_n 0, 1) := by decide +kernel
theorem dX1_givesArguments_151 : decode cX1_givesArguments 151 = .ok (.getfield 21, 3) := by decide +kernel
theorem dX1_givesArguments_154 : decode cX1_givesArguments 154 = .ok (.aload_n 0, 1) := by decide +kernel
theorem dX1_givesArguments_155 : decode cX1_givesArguments 155 = .ok (.getfield 15, 3) := by decide +kernel
theorem dX1_givesArguments_158 : decode cX1_givesArguments 158 = .ok (.iload 6, 2) := by decide +kernel
theorem dX1_givesArguments_160 : decode cX1_givesArguments 160 = .ok (.invokevirtual 46, 3) := by decide +kernel
theorem dX1_givesArguments_163 : decode cX1_givesArguments 163 = .ok (.iload 5, 2) := by decide +kernel
theorem dX1_givesArguments_165 : decode cX1_givesArguments 165 = .ok (.invokevirtual 92, 3) := by decide +kernel
theorem dX1_givesArguments_168 : decode cX1_givesArguments 168 = .ok (.ifCond .ne 5, 3) := by decide +kernel
theorem dX1_givesArguments_171 : decode cX1_givesArguments 171 = .ok (.iconst 0, 1) := by decide +kernel
theorem dX1_givesArguments_172 : decode cX1_givesArguments 172 = .ok (.ireturn, 1) := by decide +kernel
theorem dX1_givesArguments_173 : decode cX1_givesArguments 173 = .ok (.aload_n 0, 1) := by decide +kernel
theorem dX1_givesArguments_174 : decode cX1_givesArguments 174 = .ok (.getfield 15, 3) := by decide +kernel
theorem dX1_givesArguments_177 : decode cX1_givesArguments 177 = .ok (.iload 6, 2) := by decide +kernel
theorem dX1_givesArguments_179 : decode cX1_givesArguments 179 = .ok (.iconst (-1), 1) := by decide +kernel
theorem dX1_givesArguments_180 : decode cX1_givesArguments 180 = .ok (.invokevirtual 88, 3) := by decide +kernel
theorem dX1_givesArguments_183 : decode cX1_givesArguments 183 = .ok (.iinc 3 1, 3) := by decide +kernel
theorem dX1_givesArguments_186 : decode cX1_givesArguments 186 = .ok (.iinc 4 1, 3) := by decide +kernel
theorem dX1_givesArguments_189 : decode cX1_givesArguments 189 = .ok (.goto (-137), 3) := by decide +kernel
theorem dX1_givesArguments_192 : decode cX1_givesArguments 192 = .ok (.iconst 1, 1) := by decide +kernel
theorem dX1_givesArguments_193 : decode cX1_givesArguments 193 = .ok (.ireturn, 1) := by decide +kernel
def bX1_givesArguments_183 (k52 : Int32 → Int32 → Int32 → Int32 → zS → zR) (x1 : Int32) (x2 : Int32) (x3 : Int32) (x4 : Int32) (t : zS) : zR := zlet (x3 + 1) fun v1264 => zlet (x4 + 1) fun v1265 => k52 x1 x2 v1264 v1265 t
def bX1_givesArguments_52 (k52 : Int32 → Int32 → Int32 → Int32 → zS → zR) (x1 : Int32) (x2 : Int32) (x3 : Int32) (x4 : Int32) (t : zS) : zR := zbd (mX5_get 96 1000 x1 t) fun r1266 t1267 => if r1266 ≤ x4 then some (1, t1267) else zbd (mX6_form x2 x3 t1267) fun r1269 t1270 => zbd (mX5_get 82 1600 x4 t1270) fun r1272 t1273 => if 0 ≤ r1269 then zbd (mX5_get 57 80000 r1272 t1273) fun r1275 t1276 => if r1275 < 0 then some (0, t1276) else zbd (mX5_get 57 80000 r1272 t1276) fun r1278 t1279 => zbd (mX2_equal r1278 r1269 t1279) fun r1281 t1282 => if r1281 = 0 then some (0, t1282) else zbd (mX5_set 57 80000 r1272 (-1) t1282) fun r1284 t1285 => bX1_givesArguments_183 k52 x1 x2 x3 x4 t1285 else zbd (mX5_get 78 1600 x4 t1273) fun r1287 t1288 => zbd (mX5_get 80 1600 x4 t1288) fun r1290 t1291 => zbd (mX3_isWithout r1287 r1290 t1291) fun r1293 t1294 => if r1293 = 0 then some (0, t1294) else bX1_givesArguments_183 k52 x1 x2 x3 x4 t1294
def lX1_givesArguments_52 : Nat → Int32 → Int32 → Int32 → Int32 → zS → zR
  | 0, _, _, _, _, _ => none
  | fu + 1, x1, x2, x3, x4, t => bX1_givesArguments_52 (lX1_givesArguments_52  fu) x1 x2 x3 x4 t
def bX1_givesArguments_38 (x1 : Int32) (x2 : Int32) (y0 : Int32) (t : zS) : zR := zbd (mX5_get 94 1000 x1 t) fun r1296 t1297 => lX1_givesArguments_52  zFU x1 x2 y0 r1296 t1297
def mX1_givesArguments (x1 : Int32) (t : zS) : zR := zbd (mX5_get 92 1000 x1 t) fun r1299 t1300 => zbd (mX6_find r1299 t1300) fun r1302 t1303 => zbd (mX5_get 90 1000 x1 t1303) fun r1305 t1306 => if r1305 < 0 then bX1_givesArguments_38  x1 r1302 0 t1306 else bX1_givesArguments_38  x1 r1302 1 t1306
set_option maxHeartbeats 4000000 in
set_option maxRecDepth 20000 in
theorem wbX1_givesArguments_183 {E : zE} {C : zC} {f : Nat} {ro : Int32 × zS} (hf : 5 ≤ f) (k52 : Int32 → Int32 → Int32 → Int32 → zS → zR) (hk52 : ∀ (x1 x2 x3 x4 : Int32) (t : zS), k52 x1 x2 x3 x4 t = some ro → zJ E shC C cX1_givesArguments RX1 7 f (some .boolean) ro t 52 [(0, .ref (za E 6)), (1, .int x1), (2, .int x2), (3, .int x3), (4, .int x4)] []) (x1 : Int32) (x2 : Int32) (x3 : Int32) (x4 : Int32) (t : zS) (hF : bX1_givesArguments_183 k52 x1 x2 x3 x4 t = some ro) : zJ E shC C cX1_givesArguments RX1 7 f (some .boolean) ro t 183 [(0, .ref (za E 6)), (1, .int x1), (2, .int x2), (3, .int x3), (4, .int x4)] [] := by
  unfold bX1_givesArguments_183 at hF
  obtain ⟨v1264, ev1264⟩ : ∃ y : Int32, y = (x3 + 1) := ⟨_, rfl⟩
  have hF := zlet_at ev1264 hF
  refine z_iinc (v := v1264) (lv' := [(3, .int v1264), (0, .ref (za E 6)), (1, .int x1), (2, .int x2), (4, .int x4)]) (k := 3) dX1_givesArguments_183 rfl (by rw [ev1264]; rfl) (by decide) rfl ?_
  obtain ⟨v1265, ev1265⟩ : ∃ y : Int32, y = (x4 + 1) := ⟨_, rfl⟩
  have hF := zlet_at ev1265 hF
  refine z_iinc (v := v1265) (lv' := [(4, .int v1265), (3, .int v1264), (0, .ref (za E 6)), (1, .int x1), (2, .int x2)]) (k := 4) dX1_givesArguments_186 rfl (by rw [ev1265]; rfl) (by decide) rfl ?_
  refine z_goto (tgt := 52) dX1_givesArguments_189 (by decide) ?_
  refine z_sub [2, 3, 4, 1, 0] rfl ?_
  exact hk52 x1 x2 v1264 v1265 _ hF
set_option maxHeartbeats 4000000 in
set_option maxRecDepth 20000 in
theorem wbX1_givesArguments_52 {E : zE} {C : zC} {f : Nat} {ro : Int32 × zS} (hf : 5 ≤ f) (k52 : Int32 → Int32 → Int32 → Int32 → zS → zR) (hk52 : ∀ (x1 x2 x3 x4 : Int32) (t : zS), k52 x1 x2 x3 x4 t = some ro → zJ E shC C cX1_givesArguments RX1 7 f (some .boolean) ro t 52 [(0, .ref (za E 6)), (1, .int x1), (2, .int x2), (3, .int x3), (4, .int x4)] []) (x1 : Int32) (x2 : Int32) (x3 : Int32) (x4 : Int32) (t : zS) (hF : bX1_givesArguments_52 k52 x1 x2 x3 x4 t = some ro) : zJ E shC C cX1_givesArguments RX1 7 f (some .boolean) ro t 52 [(0, .ref (za E 6)), (1, .int x1), (2, .int x2), (3, .int x3), (4, .int x4)] [] := by
  unfold bX1_givesArguments_52 at hF
  refine z_iload 4 dX1_givesArguments_52 rfl ?_
  refine z_aload_n 0 dX1_givesArguments_54 rfl rfl ?_
  refine z_getr fr_RX1_29 dX1_givesArguments_55 ?_
  refine z_getr fr_RX1_128 dX1_givesArguments_58 ?_
  refine z_iload_n 1 dX1_givesArguments_61 rfl rfl ?_
  obtain ⟨r1266, t1267, hc1268, hF⟩ := zbd_at hF
  refine z_callVi (ctX5_get (E := E) (sh := shC) (f := f - 1) (by omega) (k := 96) (n := 1000) rfl rfl hc1268) yy_X5_get yv_X5_get ob_C_96 lk_RX1_46 (by omega) rfl rfl (Nat.le_of_ble_eq_true rfl) dX1_givesArguments_62 ?_
  refine z_icmp_ge (tgt := 192) dX1_givesArguments_65 (by decide) (fun hc => ?_) (fun hc => ?_)
  · have hF := zif_t hc hF
    refine z_iconst (v := 1) dX1_givesArguments_192 (by decide) ?_
    exact z_zret hF (by decide) dX1_givesArguments_193
  · have hF := zif_f hc hF
    refine z_aload_n 0 dX1_givesArguments_68 rfl rfl ?_
    refine z_getr fr_RX1_33 dX1_givesArguments_69 ?_
    refine z_iload_n 2 dX1_givesArguments_72 rfl rfl ?_
    refine z_iload_n 3 dX1_givesArguments_73 rfl rfl ?_
    obtain ⟨r1269, t1270, hc1271, hF⟩ := zbd_at hF
    refine z_callVi (ctX6_form (E := E) (f := f - 1) (by omega) hc1271) yy_X6_form yv_X6_form ob_C_4 lk_RX1_59 (by omega) rfl rfl (Nat.le_of_ble_eq_true rfl) dX1_givesArguments_74 ?_
    refine z_istore (lv' := [(5, .int r1269), (0, .ref (za E 6)), (1, .int x1), (2, .int x2), (3, .int x3), (4, .int x4)]) dX1_givesArguments_77 (by decide) rfl ?_
    refine z_aload_n 1 dX1_givesArguments_79 rfl rfl ?_
    refine z_getr fr_RX1_25 dX1_givesArguments_80 ?_
    refine z_getr fr_RX1_183 dX1_givesArguments_83 ?_
    refine z_iload 5 dX1_givesArguments_86 rfl ?_
    obtain ⟨r1272, t1273, hc1274, hF⟩ := zbd_at hF
    refine z_callVi (ctX5_get (E := E) (sh := shC) (f := f - 1) (by omega) (k := 82) (n := 1600) rfl rfl hc1274) yy_X5_get yv_X5_get ob_C_82 lk_RX1_46 (by omega) rfl rfl (Nat.le_of_ble_eq_true rfl) dX1_givesArguments_88 ?_
    refine z_istore (lv' := [(6, .int r1272), (5, .int r1269), (0, .ref (za E 6)), (1, .int x1), (2, .int x2), (3, .int x3), (4, .int x4)]) dX1_givesArguments_91 (by decide) rfl ?_
    refine z_iload 1 dX1_givesArguments_93 rfl ?_
    refine z_if_ge (tgt := 138) dX1_givesArguments_95 (by decide) (fun hc => ?_) (fun hc => ?_)
    · have hF := zif_t hc hF
      refine z_aload_n 2 dX1_givesArguments_138 rfl rfl ?_
      refine z_getr fr_RX1_15 dX1_givesArguments_139 ?_
      refine z_iload 0 dX1_givesArguments_142 rfl ?_
      obtain ⟨r1275, t1276, hc1277, hF⟩ := zbd_at hF
      refine z_callVi (ctX5_get (E := E) (sh := shC) (f := f - 1) (by omega) (k := 57) (n := 80000) rfl rfl hc1277) yy_X5_get yv_X5_get ob_C_57 lk_RX1_46 (by omega) rfl rfl (Nat.le_of_ble_eq_true rfl) dX1_givesArguments_144 ?_
      refine z_if_lt (tgt := 171) dX1_givesArguments_147 (by decide) (fun hc => ?_) (fun hc => ?_)
      · have hF := zif_t hc hF
        refine z_iconst (v := 0) dX1_givesArguments_171 (by decide) ?_
        exact z_zret hF (by decide) dX1_givesArguments_172
      · have hF := zif_f hc hF
        refine z_aload_n 2 dX1_givesArguments_150 rfl rfl ?_
        refine z_getr fr_RX1_21 dX1_givesArguments_151 ?_
        refine z_aload_n 2 dX1_givesArguments_154 rfl rfl ?_
        refine z_getr fr_RX1_15 dX1_givesArguments_155 ?_
        refine z_iload 0 dX1_givesArguments_158 rfl ?_
        obtain ⟨r1278, t1279, hc1280, hF⟩ := zbd_at hF
        refine z_callVi (ctX5_get (E := E) (sh := shC) (f := f - 1) (by omega) (k := 57) (n := 80000) rfl rfl hc1280) yy_X5_get yv_X5_get ob_C_57 lk_RX1_46 (by omega) rfl rfl (Nat.le_of_ble_eq_true rfl) dX1_givesArguments_160 ?_
        refine z_iload 1 dX1_givesArguments_163 rfl ?_
        obtain ⟨r1281, t1282, hc1283, hF⟩ := zbd_at hF
        refine z_callVi (ctX2_equal (E := E) (f := f - 1) (by omega) hc1283) yy_X2_equal yv_X2_equal ob_C_3 lk_RX1_92 (by omega) rfl rfl (Nat.le_of_ble_eq_true rfl) dX1_givesArguments_165 ?_
        refine z_if_ne (tgt := 173) dX1_givesArguments_168 (by decide) (fun hc => ?_) (fun hc => ?_)
        · have hF := zif_f hc hF
          refine z_aload_n 2 dX1_givesArguments_173 rfl rfl ?_
          refine z_getr fr_RX1_15 dX1_givesArguments_174 ?_
          refine z_iload 0 dX1_givesArguments_177 rfl ?_
          refine z_iconst (v := (-1)) dX1_givesArguments_179 (by decide) ?_
          obtain ⟨r1284, t1285, hc1286, hF⟩ := zbd_at hF
          refine z_callVv (ctX5_set (E := E) (sh := shC) (f := f - 1) (by omega) (k := 57) (n := 80000) rfl rfl hc1286) yy_X5_set yv_X5_set ob_C_57 lk_RX1_88 (by omega) rfl rfl (Nat.le_of_ble_eq_true rfl) dX1_givesArguments_180 ?_
          refine z_sub [2, 3, 4, 5, 6] rfl ?_
          exact wbX1_givesArguments_183 hf k52 hk52 x1 x2 x3 x4 _ hF
        · have hF := zif_t hc hF
          refine z_iconst (v := 0) dX1_givesArguments_171 (by decide) ?_
          exact z_zret hF (by decide) dX1_givesArguments_172
    · have hF := zif_f hc hF
      refine z_aload_n 2 dX1_givesArguments_98 rfl rfl ?_
      refine z_getr fr_RX1_25 dX1_givesArguments_99 ?_
      refine z_aload_n 2 dX1_givesArguments_102 rfl rfl ?_
      refine z_getr fr_RX1_15 dX1_givesArguments_103 ?_
      refine z_aload_n 2 dX1_givesArguments_106 rfl rfl ?_
      refine z_getr fr_RX1_25 dX1_givesArguments_107 ?_
      refine z_getr fr_RX1_186 dX1_givesArguments_110 ?_
      refine z_iload 6 dX1_givesArguments_113 rfl ?_
      obtain ⟨r1287, t1288, hc1289, hF⟩ := zbd_at hF
      refine z_callVi (ctX5_get (E := E) (sh := shC) (f := f - 1) (by omega) (k := 78) (n := 1600) rfl rfl hc1289) yy_X5_get yv_X5_get ob_C_78 lk_RX1_46 (by omega) rfl rfl (Nat.le_of_ble_eq_true rfl) dX1_givesArguments_115 ?_
      refine z_aload_n 2 dX1_givesArguments_118 rfl rfl ?_
      refine z_getr fr_RX1_25 dX1_givesArguments_119 ?_
      refine z_getr fr_RX1_189 dX1_givesArguments_122 ?_
      refine z_iload 6 dX1_givesArguments_125 rfl ?_
      obtain ⟨r1290, t1291, hc1292, hF⟩ := zbd_at hF
      refine z_callVi (ctX5_get (E := E) (sh := shC) (f := f - 1) (by omega) (k := 80) (n := 1600) rfl rfl hc1292) yy_X5_get yv_X5_get ob_C_80 lk_RX1_46 (by omega) rfl rfl (Nat.le_of_ble_eq_true rfl) dX1_givesArguments_127 ?_
      obtain ⟨r1293, t1294, hc1295, hF⟩ := zbd_at hF
      refine z_callVi (ctX3_isWithout (E := E) (f := f - 1) (by omega) hc1295) yy_X3_isWithout yv_X3_isWithout ob_C_51 lk_RX1_131 (by omega) rfl rfl (Nat.le_of_ble_eq_true rfl) dX1_givesArguments_130 ?_
      refine z_if_ne (tgt := 183) dX1_givesArguments_133 (by decide) (fun hc => ?_) (fun hc => ?_)
      · have hF := zif_f hc hF
        refine z_sub [2, 3, 4, 5, 6] rfl ?_
        exact wbX1_givesArguments_183 hf k52 hk52 x1 x2 x3 x4 _ hF
      · have hF := zif_t hc hF
        refine z_iconst (v := 0) dX1_givesArguments_136 (by decide) ?_
        exact z_zret hF (by decide) dX1_givesArguments_137
set_option maxHeartbeats 4000000 in
set_option maxRecDepth 20000 in
theorem wlX1_givesArguments_52 {E : zE} {C : zC} {f : Nat} {ro : Int32 × zS} (hf : 5 ≤ f) (fu : Nat) : ∀ (x1 x2 x3 x4 : Int32) (t : zS), lX1_givesArguments_52  fu x1 x2 x3 x4 t = some ro → zJ E shC C cX1_givesArguments RX1 7 f (some .boolean) ro t 52 [(0, .ref (za E 6)), (1, .int x1), (2, .int x2), (3, .int x3), (4, .int x4)] [] := by
  induction fu with
  | zero => intro x1 x2 x3 x4 t hF; cases hF
  | succ fu ih => intro x1 x2 x3 x4 t hF; exact wbX1_givesArguments_52 hf (lX1_givesArguments_52  fu) ih x1 x2 x3 x4 t hF
set_option maxHeartbeats 4000000 in
set_option maxRecDepth 20000 in
theorem wbX1_givesArguments_38 {E : zE} {C : zC} {f : Nat} {ro : Int32 × zS} (hf : 5 ≤ f) (x1 : Int32) (x2 : Int32) (y0 : Int32) (t : zS) (hF : bX1_givesArguments_38  x1 x2 y0 t = some ro) : zJ E shC C cX1_givesArguments RX1 7 f (some .boolean) ro t 38 [(0, .ref (za E 6)), (1, .int x1), (2, .int x2)] [.int y0] := by
  unfold bX1_givesArguments_38 at hF
  refine z_istore_n (lv' := [(3, .int y0), (0, .ref (za E 6)), (1, .int x1), (2, .int x2)]) dX1_givesArguments_38 rfl (by decide) rfl ?_
  refine z_aload_n 1 dX1_givesArguments_39 rfl rfl ?_
  refine z_getr fr_RX1_29 dX1_givesArguments_40 ?_
  refine z_getr fr_RX1_125 dX1_givesArguments_43 ?_
  refine z_iload_n 2 dX1_givesArguments_46 rfl rfl ?_
  obtain ⟨r1296, t1297, hc1298, hF⟩ := zbd_at hF
  refine z_callVi (ctX5_get (E := E) (sh := shC) (f := f - 1) (by omega) (k := 94) (n := 1000) rfl rfl hc1298) yy_X5_get yv_X5_get ob_C_94 lk_RX1_46 (by omega) rfl rfl (Nat.le_of_ble_eq_true rfl) dX1_givesArguments_47 ?_
  refine z_istore (lv' := [(4, .int r1296), (3, .int y0), (0, .ref (za E 6)), (1, .int x1), (2, .int x2)]) dX1_givesArguments_50 (by decide) rfl ?_
  refine z_sub [2, 3, 4, 1, 0] rfl ?_
  exact wlX1_givesArguments_52 hf  zFU x1 x2 y0 r1296 _ hF
set_option maxHeartbeats 4000000 in
set_option maxRecDepth 20000 in
theorem ctX1_givesArguments {E : zE} {f : Nat} (hf : 5 ≤ f) {x1 : Int32} {t : zS} {ro : Int32 × zS} (hF : mX1_givesArguments  x1 t = some ro) : zM E shC f yX1_givesArguments cX1_givesArguments 7 (some .boolean) [.ref (za E 6), .int x1] t ro := by
  refine zM_of (by decide) (Nat.le_of_ble_eq_true rfl) (fun C => ?_)
  show zJ E shC C cX1_givesArguments RX1 7 f (some .boolean) ro t 0 [(0, .ref (za E 6)), (1, .int x1)] []
  unfold mX1_givesArguments at hF
  refine z_aload_n 0 dX1_givesArguments_0 rfl rfl ?_
  refine z_getr fr_RX1_33 dX1_givesArguments_1 ?_
  refine z_aload_n 0 dX1_givesArguments_4 rfl rfl ?_
  refine z_getr fr_RX1_29 dX1_givesArguments_5 ?_
  refine z_getr fr_RX1_150 dX1_givesArguments_8 ?_
  refine z_iload_n 1 dX1_givesArguments_11 rfl rfl ?_
  obtain ⟨r1299, t1300, hc1301, hF⟩ := zbd_at hF
  refine z_callVi (ctX5_get (E := E) (sh := shC) (f := f - 1) (by omega) (k := 92) (n := 1000) rfl rfl hc1301) yy_X5_get yv_X5_get ob_C_92 lk_RX1_46 (by omega) rfl rfl (Nat.le_of_ble_eq_true rfl) dX1_givesArguments_12 ?_
  obtain ⟨r1302, t1303, hc1304, hF⟩ := zbd_at hF
  refine z_callVi (ctX6_find (E := E) (f := f - 1) (by omega) hc1304) yy_X6_find yv_X6_find ob_C_4 lk_RX1_180 (by omega) rfl rfl (Nat.le_of_ble_eq_true rfl) dX1_givesArguments_15 ?_
  refine z_istore_n (lv' := [(2, .int r1302), (0, .ref (za E 6)), (1, .int x1)]) dX1_givesArguments_18 rfl (by decide) rfl ?_
  refine z_aload_n 1 dX1_givesArguments_19 rfl rfl ?_
  refine z_getr fr_RX1_29 dX1_givesArguments_20 ?_
  refine z_getr fr_RX1_147 dX1_givesArguments_23 ?_
  refine z_iload_n 2 dX1_givesArguments_26 rfl rfl ?_
  obtain ⟨r1305, t1306, hc1307, hF⟩ := zbd_at hF
  refine z_callVi (ctX5_get (E := E) (sh := shC) (f := f - 1) (by omega) (k := 90) (n := 1000) rfl rfl hc1307) yy_X5_get yv_X5_get ob_C_90 lk_RX1_46 (by omega) rfl rfl (Nat.le_of_ble_eq_true rfl) dX1_givesArguments_27 ?_
  refine z_if_lt (tgt := 37) dX1_givesArguments_30 (by decide) (fun hc => ?_) (fun hc => ?_)
  · have hF := zif_t hc hF
    refine z_iconst (v := 0) dX1_givesArguments_37 (by decide) ?_
    refine z_sub [1, 2, 0] rfl ?_
    exact wbX1_givesArguments_38 hf  x1 r1302 0 _ hF
  · have hF := zif_f hc hF
    refine z_iconst (v := 1) dX1_givesArguments_33 (by decide) ?_
    refine z_goto (tgt := 38) dX1_givesArguments_34 (by decide) ?_
    refine z_sub [1, 2, 0] rfl ?_
    exact wbX1_givesArguments_38 hf  x1 r1302 1 _ hF
-- SessionHouse$Checker.opensChannel(I)Z
theorem dX1_opensChannel_0 : decode cX1_opensChannel 0 = .ok (.aload_n 0, 1) := by decide +kernel
theorem dX1_opensChannel_1 : decode cX1_opensChannel 1 = .ok (.getfield 29, 3) := by decide +kernel
theorem dX1_opensChannel_4 : decode cX1_opensChannel 4 = .ok (.getfield 147, 3) := by decide +kernel
theorem dX1_opensChannel_7 : decode cX1_opensChannel 7 = .ok (.iload_n 1, 1) := by decide +kernel
theorem dX1_opensChannel_8 : decode cX1_opensChannel 8 = .ok (.invokevirtual 46, 3) := by decide +kernel
theorem dX1_opensChannel_11 : decode cX1_opensChannel 11 = .ok (.istore_n 2, 1) := by decide +kernel
theorem dX1_opensChannel_12 : decode cX1_opensChannel 12 = .ok (.iload_n 2, 1) := by decide +kernel
theorem dX1_opensChannel_13 : decode cX1_opensChannel 13 = .ok (.ifCond .ge 5, 3) := by decide +kernel
theorem dX1_opensChannel_16 : decode cX1_opensChannel 16 = .ok (.iconst 1, 1) := by decide +kernel
theorem dX1_opensChannel_17 : decode cX1_opensChannel 17 = .ok (.ireturn, 1) := by decide +kernel
theorem dX1_opensChannel_18 : decode cX1_opensChannel 18 = .ok (.aload_n 0, 1) := by decide +kernel
theorem dX1_opensChannel_19 : decode cX1_opensChannel 19 = .ok (.getfield 15, 3) := by decide +kernel
theorem dX1_opensChannel_22 : decode cX1_opensChannel 22 = .ok (.iload_n 2, 1) := by decide +kernel
theorem dX1_opensChannel_23 : decode cX1_opensChannel 23 = .ok (.invokevirtual 46, 3) := by decide +kernel
theorem dX1_opensChannel_26 : decode cX1_opensChannel 26 = .ok (.ifCond .lt 5, 3) := by decide +kernel
theorem dX1_opensChannel_29 : decode cX1_opensChannel 29 = .ok (.iconst 0, 1) := by decide +kernel
theorem dX1_opensChannel_30 : decode cX1_opensChannel 30 = .ok (.ireturn, 1) := by decide +kernel
theorem dX1_opensChannel_31 : decode cX1_opensChannel 31 = .ok (.aload_n 0, 1) := by decide +kernel
theorem dX1_opensChannel_32 : decode cX1_opensChannel 32 = .ok (.getfield 33, 3) := by decide +kernel
theorem dX1_opensChannel_35 : decode cX1_opensChannel 35 = .ok (.aload_n 0, 1) := by decide +kernel
theorem dX1_opensChannel_36 : decode cX1_opensChannel 36 = .ok (.getfield 29, 3) := by decide +kernel
theorem dX1_opensChannel_39 : decode cX1_opensChannel 39 = .ok (.getfield 150, 3) := by decide +kernel
theorem dX1_opensChannel_42 : decode cX1_opensChannel 42 = .ok (.iload_n 1, 1) := by decide +kernel
theorem dX1_opensChannel_43 : decode cX1_opensChannel 43 = .ok (.invokevirtual 46, 3) := by decide +kernel
theorem dX1_opensChannel_46 : decode cX1_opensChannel 46 = .ok (.invokevirtual 180, 3) := by decide +kernel
theorem dX1_opensChannel_49 : decode cX1_opensChannel 49 = .ok (.istore_n 3, 1) := by decide +kernel
theorem dX1_opensChannel_50 : decode cX1_opensChannel 50 = .ok (.aload_n 0, 1) := by decide +kernel
theorem dX1_opensChannel_51 : decode cX1_opensChannel 51 = .ok (.getfield 29, 3) := by decide +kernel
theorem dX1_opensChannel_54 : decode cX1_opensChannel 54 = .ok (.getfield 165, 3) := by decide +kernel
theorem dX1_opensChannel_57 : decode cX1_opensChannel 57 = .ok (.iload_n 1, 1) := by decide +kernel
theorem dX1_opensChannel_58 : decode cX1_opensChannel 58 = .ok (.aload_n 0, 1) := by decide +kernel
theorem dX1_opensChannel_59 : decode cX1_opensChannel 59 = .ok (.iload_n 2, 1) := by decide +kernel
theorem dX1_opensChannel_60 : decode cX1_opensChannel 60 = .ok (.aload_n 0, 1) := by decide +kernel
theorem dX1_opensChannel_61 : decode cX1_opensChannel 61 = .ok (.getfield 33, 3) := by decide +kernel
theorem dX1_opensChannel_64 : decode cX1_opensChannel 64 = .ok (.iload_n 3, 1) := by decide +kernel
theorem dX1_opensChannel_65 : decode cX1_opensChannel 65 = .ok (.iconst 0, 1) := by decide +kernel
theorem dX1_opensChannel_66 : decode cX1_opensChannel 66 = .ok (.invokevirtual 59, 3) := by decide +kernel
theorem dX1_opensChannel_69 : decode cX1_opensChannel 69 = .ok (.iconst 1, 1) := by decide +kernel
theorem dX1_opensChannel_70 : decode cX1_opensChannel 70 = .ok (.ixor, 1) := by decide +kernel
theorem dX1_opensChannel_71 : decode cX1_opensChannel 71 = .ok (.invokevirtual 63, 3) := by decide +kernel
theorem dX1_opensChannel_74 : decode cX1_opensChannel 74 = .ok (.invokevirtual 88, 3) := by decide +kernel
theorem dX1_opensChannel_77 : decode cX1_opensChannel 77 = .ok (.iconst 1, 1) := by decide +kernel
theorem dX1_opensChannel_78 : decode cX1_opensChannel 78 = .ok (.ireturn, 1) := by decide +kernel
def mX1_opensChannel (x1 : Int32) (t : zS) : zR := zbd (mX5_get 90 1000 x1 t) fun r1308 t1309 => if 0 ≤ r1308 then zbd (mX5_get 57 80000 r1308 t1309) fun r1311 t1312 => if r1311 < 0 then zbd (mX5_get 92 1000 x1 t1312) fun r1314 t1315 => zbd (mX6_find r1314 t1315) fun r1317 t1318 => zbd (mX6_form r1317 0 t1318) fun r1320 t1321 => zbd (mX1_hold r1308 (r1320 ^^^ 1) t1321) fun r1323 t1324 => zbd (mX5_set 106 1000 x1 r1323 t1324) fun r1326 t1327 => some (1, t1327) else some (0, t1312) else some (1, t1309)
set_option maxHeartbeats 4000000 in
set_option maxRecDepth 20000 in
theorem ctX1_opensChannel {E : zE} {f : Nat} (hf : 4 ≤ f) {x1 : Int32} {t : zS} {ro : Int32 × zS} (hF : mX1_opensChannel  x1 t = some ro) : zM E shC f yX1_opensChannel cX1_opensChannel 4 (some .boolean) [.ref (za E 6), .int x1] t ro := by
  refine zM_of (by decide) (Nat.le_of_ble_eq_true rfl) (fun C => ?_)
  show zJ E shC C cX1_opensChannel RX1 4 f (some .boolean) ro t 0 [(0, .ref (za E 6)), (1, .int x1)] []
  unfold mX1_opensChannel at hF
  refine z_aload_n 0 dX1_opensChannel_0 rfl rfl ?_
  refine z_getr fr_RX1_29 dX1_opensChannel_1 ?_
  refine z_getr fr_RX1_147 dX1_opensChannel_4 ?_
  refine z_iload_n 1 dX1_opensChannel_7 rfl rfl ?_
  obtain ⟨r1308, t1309, hc1310, hF⟩ := zbd_at hF
  refine z_callVi (ctX5_get (E := E) (sh := shC) (f := f - 1) (by omega) (k := 90) (n := 1000) rfl rfl hc1310) yy_X5_get yv_X5_get ob_C_90 lk_RX1_46 (by omega) rfl rfl (Nat.le_of_ble_eq_true rfl) dX1_opensChannel_8 ?_
  refine z_istore_n (lv' := [(2, .int r1308), (0, .ref (za E 6)), (1, .int x1)]) dX1_opensChannel_11 rfl (by decide) rfl ?_
  refine z_iload_n 0 dX1_opensChannel_12 rfl rfl ?_
  refine z_if_ge (tgt := 18) dX1_opensChannel_13 (by decide) (fun hc => ?_) (fun hc => ?_)
  · have hF := zif_t hc hF
    refine z_aload_n 1 dX1_opensChannel_18 rfl rfl ?_
    refine z_getr fr_RX1_15 dX1_opensChannel_19 ?_
    refine z_iload_n 0 dX1_opensChannel_22 rfl rfl ?_
    obtain ⟨r1311, t1312, hc1313, hF⟩ := zbd_at hF
    refine z_callVi (ctX5_get (E := E) (sh := shC) (f := f - 1) (by omega) (k := 57) (n := 80000) rfl rfl hc1313) yy_X5_get yv_X5_get ob_C_57 lk_RX1_46 (by omega) rfl rfl (Nat.le_of_ble_eq_true rfl) dX1_opensChannel_23 ?_
    refine z_if_lt (tgt := 31) dX1_opensChannel_26 (by decide) (fun hc => ?_) (fun hc => ?_)
    · have hF := zif_t hc hF
      refine z_aload_n 1 dX1_opensChannel_31 rfl rfl ?_
      refine z_getr fr_RX1_33 dX1_opensChannel_32 ?_
      refine z_aload_n 1 dX1_opensChannel_35 rfl rfl ?_
      refine z_getr fr_RX1_29 dX1_opensChannel_36 ?_
      refine z_getr fr_RX1_150 dX1_opensChannel_39 ?_
      refine z_iload_n 2 dX1_opensChannel_42 rfl rfl ?_
      obtain ⟨r1314, t1315, hc1316, hF⟩ := zbd_at hF
      refine z_callVi (ctX5_get (E := E) (sh := shC) (f := f - 1) (by omega) (k := 92) (n := 1000) rfl rfl hc1316) yy_X5_get yv_X5_get ob_C_92 lk_RX1_46 (by omega) rfl rfl (Nat.le_of_ble_eq_true rfl) dX1_opensChannel_43 ?_
      obtain ⟨r1317, t1318, hc1319, hF⟩ := zbd_at hF
      refine z_callVi (ctX6_find (E := E) (f := f - 1) (by omega) hc1319) yy_X6_find yv_X6_find ob_C_4 lk_RX1_180 (by omega) rfl rfl (Nat.le_of_ble_eq_true rfl) dX1_opensChannel_46 ?_
      refine z_istore_n (lv' := [(3, .int r1317), (2, .int r1308), (0, .ref (za E 6)), (1, .int x1)]) dX1_opensChannel_49 rfl (by decide) rfl ?_
      refine z_aload_n 2 dX1_opensChannel_50 rfl rfl ?_
      refine z_getr fr_RX1_29 dX1_opensChannel_51 ?_
      refine z_getr fr_RX1_165 dX1_opensChannel_54 ?_
      refine z_iload_n 3 dX1_opensChannel_57 rfl rfl ?_
      refine z_aload_n 2 dX1_opensChannel_58 rfl rfl ?_
      refine z_iload_n 1 dX1_opensChannel_59 rfl rfl ?_
      refine z_aload_n 2 dX1_opensChannel_60 rfl rfl ?_
      refine z_getr fr_RX1_33 dX1_opensChannel_61 ?_
      refine z_iload_n 0 dX1_opensChannel_64 rfl rfl ?_
      refine z_iconst (v := 0) dX1_opensChannel_65 (by decide) ?_
      obtain ⟨r1320, t1321, hc1322, hF⟩ := zbd_at hF
      refine z_callVi (ctX6_form (E := E) (f := f - 1) (by omega) hc1322) yy_X6_form yv_X6_form ob_C_4 lk_RX1_59 (by omega) rfl rfl (Nat.le_of_ble_eq_true rfl) dX1_opensChannel_66 ?_
      refine z_iconst (v := 1) dX1_opensChannel_69 (by decide) ?_
      refine z_ixor dX1_opensChannel_70 ?_
      obtain ⟨r1323, t1324, hc1325, hF⟩ := zbd_at hF
      refine z_callVi (ctX1_hold (E := E) (f := f - 1) (by omega) hc1325) yy_X1_hold yv_X1_hold ob_C_6 lk_RX1_63 (by omega) rfl rfl (Nat.le_of_ble_eq_true rfl) dX1_opensChannel_71 ?_
      obtain ⟨r1326, t1327, hc1328, hF⟩ := zbd_at hF
      refine z_callVv (ctX5_set (E := E) (sh := shC) (f := f - 1) (by omega) (k := 106) (n := 1000) rfl rfl hc1328) yy_X5_set yv_X5_set ob_C_106 lk_RX1_88 (by omega) rfl rfl (Nat.le_of_ble_eq_true rfl) dX1_opensChannel_74 ?_
      refine z_iconst (v := 1) dX1_opensChannel_77 (by decide) ?_
      exact z_zret hF (by decide) dX1_opensChannel_78
    · have hF := zif_f hc hF
      refine z_iconst (v := 0) dX1_opensChannel_29 (by decide) ?_
      exact z_zret hF (by decide) dX1_opensChannel_30
  · have hF := zif_f hc hF
    refine z_iconst (v := 1) dX1_opensChannel_16 (by decide) ?_
    exact z_zret hF (by decide) dX1_opensChannel_17
-- SessionHouse$Checker.hasChannels()Z
theorem dX1_hasChannels_0 : decode cX1_hasChannels 0 = .ok (.iconst 0, 1) := by decide +kernel
theorem dX1_hasChannels_1 : decode cX1_hasChannels 1 = .ok (.istore_n 1, 1) := by decide +kernel
theorem dX1_hasChannels_2 : decode cX1_hasChannels 2 = .ok (.iload_n 1, 1) := by decide +kernel
theorem dX1_hasChannels_3 : decode cX1_hasChannels 3 = .ok (.aload_n 0, 1) := by decide +kernel
theorem dX1_hasChannels_4 : decode cX1_hasChannels 4 = .ok (.getfield 50, 3) := by decide +kernel
theorem dX1_hasChannels_7 : decode cX1_hasChannels 7 = .ok (.if_icmp .ge 22, 3) := by decide +kernel
theorem dX1_hasChannels_10 : decode cX1_hasChannels 10 = .ok (.aload_n 0, 1) := by decide +kernel
theorem dX1_hasChannels_11 : decode cX1_hasChannels 11 = .ok (.getfield 15, 3) := by decide +kernel
theorem dX1_hasChannels_14 : decode cX1_hasChannels 14 = .ok (.iload_n 1, 1) := by decide +kernel
theorem dX1_hasChannels_15 : decode cX1_hasChannels 15 = .ok (.invokevirtual 46, 3) := by decide +kernel
theorem dX1_hasChannels_18 : decode cX1_hasChannels 18 = .ok (.ifCond .lt 5, 3) := by decide +kernel
theorem dX1_hasChannels_21 : decode cX1_hasChannels 21 = .ok (.iconst 1, 1) := by decide +kernel
theorem dX1_hasChannels_22 : decode cX1_hasChannels 22 = .ok (.ireturn, 1) := by decide +kernel
theorem dX1_hasChannels_23 : decode cX1_hasChannels 23 = .ok (.iinc 1 1, 3) := by decide +kernel
theorem dX1_hasChannels_26 : decode cX1_hasChannels 26 = .ok (.goto (-24), 3) := by decide +kernel
theorem dX1_hasChannels_29 : decode cX1_hasChannels 29 = .ok (.iconst 0, 1) := by decide +kernel
theorem dX1_hasChannels_30 : decode cX1_hasChannels 30 = .ok (.ireturn, 1) := by decide +kernel
def bX1_hasChannels_2 (k2 : Int32 → zS → zR) (x1 : Int32) (t : zS) : zR := if (t 6 5) ≤ x1 then some (0, t) else zbd (mX5_get 57 80000 x1 t) fun r1329 t1330 => if r1329 < 0 then zlet (x1 + 1) fun v1332 => k2 v1332 t1330 else some (1, t1330)
def lX1_hasChannels_2 : Nat → Int32 → zS → zR
  | 0, _, _ => none
  | fu + 1, x1, t => bX1_hasChannels_2 (lX1_hasChannels_2  fu) x1 t
def mX1_hasChannels (t : zS) : zR := lX1_hasChannels_2  zFU 0 t
set_option maxHeartbeats 4000000 in
set_option maxRecDepth 20000 in
theorem wbX1_hasChannels_2 {E : zE} {C : zC} {f : Nat} {ro : Int32 × zS} (hf : 2 ≤ f) (k2 : Int32 → zS → zR) (hk2 : ∀ (x1 : Int32) (t : zS), k2 x1 t = some ro → zJ E shC C cX1_hasChannels RX1 2 f (some .boolean) ro t 2 [(0, .ref (za E 6)), (1, .int x1)] []) (x1 : Int32) (t : zS) (hF : bX1_hasChannels_2 k2 x1 t = some ro) : zJ E shC C cX1_hasChannels RX1 2 f (some .boolean) ro t 2 [(0, .ref (za E 6)), (1, .int x1)] [] := by
  unfold bX1_hasChannels_2 at hF
  refine z_iload_n 1 dX1_hasChannels_2 rfl rfl ?_
  refine z_aload_n 0 dX1_hasChannels_3 rfl rfl ?_
  refine z_geti fi_RX1_50 dX1_hasChannels_4 ?_
  refine z_icmp_ge (tgt := 29) dX1_hasChannels_7 (by decide) (fun hc => ?_) (fun hc => ?_)
  · have hF := zif_t hc hF
    refine z_iconst (v := 0) dX1_hasChannels_29 (by decide) ?_
    exact z_zret hF (by decide) dX1_hasChannels_30
  · have hF := zif_f hc hF
    refine z_aload_n 0 dX1_hasChannels_10 rfl rfl ?_
    refine z_getr fr_RX1_15 dX1_hasChannels_11 ?_
    refine z_iload_n 1 dX1_hasChannels_14 rfl rfl ?_
    obtain ⟨r1329, t1330, hc1331, hF⟩ := zbd_at hF
    refine z_callVi (ctX5_get (E := E) (sh := shC) (f := f - 1) (by omega) (k := 57) (n := 80000) rfl rfl hc1331) yy_X5_get yv_X5_get ob_C_57 lk_RX1_46 (by omega) rfl rfl (Nat.le_of_ble_eq_true rfl) dX1_hasChannels_15 ?_
    refine z_if_lt (tgt := 23) dX1_hasChannels_18 (by decide) (fun hc => ?_) (fun hc => ?_)
    · have hF := zif_t hc hF
      obtain ⟨v1332, ev1332⟩ : ∃ y : Int32, y = (x1 + 1) := ⟨_, rfl⟩
      have hF := zlet_at ev1332 hF
      refine z_iinc (v := v1332) (lv' := [(1, .int v1332), (0, .ref (za E 6))]) (k := 1) dX1_hasChannels_23 rfl (by rw [ev1332]; rfl) (by decide) rfl ?_
      refine z_goto (tgt := 2) dX1_hasChannels_26 (by decide) ?_
      refine z_sub [1, 0] rfl ?_
      exact hk2 v1332 _ hF
    · have hF := zif_f hc hF
      refine z_iconst (v := 1) dX1_hasChannels_21 (by decide) ?_
      exact z_zret hF (by decide) dX1_hasChannels_22
set_option maxHeartbeats 4000000 in
set_option maxRecDepth 20000 in
theorem wlX1_hasChannels_2 {E : zE} {C : zC} {f : Nat} {ro : Int32 × zS} (hf : 2 ≤ f) (fu : Nat) : ∀ (x1 : Int32) (t : zS), lX1_hasChannels_2  fu x1 t = some ro → zJ E shC C cX1_hasChannels RX1 2 f (some .boolean) ro t 2 [(0, .ref (za E 6)), (1, .int x1)] [] := by
  induction fu with
  | zero => intro x1 t hF; cases hF
  | succ fu ih => intro x1 t hF; exact wbX1_hasChannels_2 hf (lX1_hasChannels_2  fu) ih x1 t hF
set_option maxHeartbeats 4000000 in
set_option maxRecDepth 20000 in
theorem ctX1_hasChannels {E : zE} {f : Nat} (hf : 2 ≤ f) {t : zS} {ro : Int32 × zS} (hF : mX1_hasChannels   t = some ro) : zM E shC f yX1_hasChannels cX1_hasChannels 2 (some .boolean) [.ref (za E 6)] t ro := by
  refine zM_of (by decide) (Nat.le_of_ble_eq_true rfl) (fun C => ?_)
  show zJ E shC C cX1_hasChannels RX1 2 f (some .boolean) ro t 0 [(0, .ref (za E 6))] []
  unfold mX1_hasChannels at hF
  refine z_iconst (v := 0) dX1_hasChannels_0 (by decide) ?_
  refine z_istore_n (lv' := [(1, .int 0), (0, .ref (za E 6))]) dX1_hasChannels_1 rfl (by decide) rfl ?_
  refine z_sub [1, 0] rfl ?_
  exact wlX1_hasChannels_2 hf  zFU 0 _ hF
-- SessionHouse$Forms.byLabel(II)I
theorem dX2_byLabel_0 : decode cX2_byLabel 0 = .ok (.aload_n 0, 1) := by decide +kernel
theorem dX2_byLabel_1 : decode cX2_byLabel 1 = .ok (.iload_n 1, 1) := by decide +kernel
theorem dX2_byLabel_2 : decode cX2_byLabel 2 = .ok (.iconst 1, 1) := by decide +kernel
theorem dX2_byLabel_3 : decode cX2_byLabel 3 = .ok (.ishr, 1) := by decide +kernel
theorem dX2_byLabel_4 : decode cX2_byLabel 4 = .ok (.iload_n 2, 1) := by decide +kernel
theorem dX2_byLabel_5 : decode cX2_byLabel 5 = .ok (.invokevirtual 82, 3) := by decide +kernel
theorem dX2_byLabel_8 : decode cX2_byLabel 8 = .ok (.istore_n 3, 1) := by decide +kernel
theorem dX2_byLabel_9 : decode cX2_byLabel 9 = .ok (.iload_n 3, 1) := by decide +kernel
theorem dX2_byLabel_10 : decode cX2_byLabel 10 = .ok (.ifCond .ge 7, 3) := by decide +kernel
theorem dX2_byLabel_13 : decode cX2_byLabel 13 = .ok (.iconst (-1), 1) := by decide +kernel
theorem dX2_byLabel_14 : decode cX2_byLabel 14 = .ok (.goto 17, 3) := by decide +kernel
theorem dX2_byLabel_17 : decode cX2_byLabel 17 = .ok (.iconst 2, 1) := by decide +kernel
theorem dX2_byLabel_18 : decode cX2_byLabel 18 = .ok (.aload_n 0, 1) := by decide +kernel
theorem dX2_byLabel_19 : decode cX2_byLabel 19 = .ok (.getfield 29, 3) := by decide +kernel
theorem dX2_byLabel_22 : decode cX2_byLabel 22 = .ok (.iload_n 3, 1) := by decide +kernel
theorem dX2_byLabel_23 : decode cX2_byLabel 23 = .ok (.invokevirtual 74, 3) := by decide +kernel
theorem dX2_byLabel_26 : decode cX2_byLabel 26 = .ok (.imul, 1) := by decide +kernel
theorem dX2_byLabel_27 : decode cX2_byLabel 27 = .ok (.iload_n 1, 1) := by decide +kernel
theorem dX2_byLabel_28 : decode cX2_byLabel 28 = .ok (.iconst 1, 1) := by decide +kernel
theorem dX2_byLabel_29 : decode cX2_byLabel 29 = .ok (.iand, 1) := by decide +kernel
theorem dX2_byLabel_30 : decode cX2_byLabel 30 = .ok (.iadd, 1) := by decide +kernel
theorem dX2_byLabel_31 : decode cX2_byLabel 31 = .ok (.ireturn, 1) := by decide +kernel
def mX2_byLabel (x1 : Int32) (x2 : Int32) (t : zS) : zR := zbd (mX2_findPart (x1 >>> (1 &&& 31)) x2 t) fun r1333 t1334 => if 0 ≤ r1333 then zbd (mX5_get 16 1600 r1333 t1334) fun r1336 t1337 => some (((2 * r1336) + (x1 &&& 1)), t1337) else some ((-1), t1334)
set_option maxHeartbeats 4000000 in
set_option maxRecDepth 20000 in
theorem ctX2_byLabel {E : zE} {f : Nat} (hf : 3 ≤ f) {x1 : Int32} {x2 : Int32} {t : zS} {ro : Int32 × zS} (hF : mX2_byLabel  x1 x2 t = some ro) : zM E shC f yX2_byLabel cX2_byLabel 4 (some .int) [.ref (za E 3), .int x1, .int x2] t ro := by
  refine zM_of (by decide) (Nat.le_of_ble_eq_true rfl) (fun C => ?_)
  show zJ E shC C cX2_byLabel RX2 4 f (some .int) ro t 0 [(0, .ref (za E 3)), (1, .int x1), (2, .int x2)] []
  unfold mX2_byLabel at hF
  refine z_aload_n 0 dX2_byLabel_0 rfl rfl ?_
  refine z_iload_n 1 dX2_byLabel_1 rfl rfl ?_
  refine z_iconst (v := 1) dX2_byLabel_2 (by decide) ?_
  refine z_ishr dX2_byLabel_3 ?_
  refine z_iload_n 2 dX2_byLabel_4 rfl rfl ?_
  obtain ⟨r1333, t1334, hc1335, hF⟩ := zbd_at hF
  refine z_callVi (ctX2_findPart (E := E) (f := f - 1) (by omega) hc1335) yy_X2_findPart yv_X2_findPart ob_C_3 lk_RX2_82 (by omega) rfl rfl (Nat.le_of_ble_eq_true rfl) dX2_byLabel_5 ?_
  refine z_istore_n (lv' := [(3, .int r1333), (0, .ref (za E 3)), (1, .int x1), (2, .int x2)]) dX2_byLabel_8 rfl (by decide) rfl ?_
  refine z_iload_n 0 dX2_byLabel_9 rfl rfl ?_
  refine z_if_ge (tgt := 17) dX2_byLabel_10 (by decide) (fun hc => ?_) (fun hc => ?_)
  · have hF := zif_t hc hF
    refine z_iconst (v := 2) dX2_byLabel_17 (by decide) ?_
    refine z_aload_n 1 dX2_byLabel_18 rfl rfl ?_
    refine z_getr fr_RX2_29 dX2_byLabel_19 ?_
    refine z_iload_n 0 dX2_byLabel_22 rfl rfl ?_
    obtain ⟨r1336, t1337, hc1338, hF⟩ := zbd_at hF
    refine z_callVi (ctX5_get (E := E) (sh := shC) (f := f - 1) (by omega) (k := 16) (n := 1600) rfl rfl hc1338) yy_X5_get yv_X5_get ob_C_16 lk_RX2_74 (by omega) rfl rfl (Nat.le_of_ble_eq_true rfl) dX2_byLabel_23 ?_
    refine z_imul dX2_byLabel_26 ?_
    refine z_iload_n 2 dX2_byLabel_27 rfl rfl ?_
    refine z_iconst (v := 1) dX2_byLabel_28 (by decide) ?_
    refine z_iand dX2_byLabel_29 ?_
    refine z_iadd dX2_byLabel_30 ?_
    exact z_iret hF dX2_byLabel_31
  · have hF := zif_f hc hF
    refine z_iconst (v := (-1)) dX2_byLabel_13 (by decide) ?_
    refine z_goto (tgt := 31) dX2_byLabel_14 (by decide) ?_
    exact z_iret hF dX2_byLabel_31
-- SessionHouse$Checker.isGoodCase(I)Z
theorem dX1_isGoodCase_0 : decode cX1_isGoodCase 0 = .ok (.aload_n 0, 1) := by decide +kernel
theorem dX1_isGoodCase_1 : decode cX1_isGoodCase 1 = .ok (.getfield 15, 3) := by decide +kernel
theorem dX1_isGoodCase_4 : decode cX1_isGoodCase 4 = .ok (.aload_n 0, 1) := by decide +kernel
theorem dX1_isGoodCase_5 : decode cX1_isGoodCase 5 = .ok (.getfield 29, 3) := by decide +kernel
theorem dX1_isGoodCase_8 : decode cX1_isGoodCase 8 = .ok (.getfield 147, 3) := by decide +kernel
theorem dX1_isGoodCase_11 : decode cX1_isGoodCase 11 = .ok (.iload_n 1, 1) := by decide +kernel
theorem dX1_isGoodCase_12 : decode cX1_isGoodCase 12 = .ok (.invokevirtual 46, 3) := by decide +kernel
theorem dX1_isGoodCase_15 : decode cX1_isGoodCase 15 = .ok (.invokevirtual 46, 3) := by decide +kernel
theorem dX1_isGoodCase_18 : decode cX1_isGoodCase 18 = .ok (.istore_n 2, 1) := by decide +kernel
theorem dX1_isGoodCase_19 : decode cX1_isGoodCase 19 = .ok (.aload_n 0, 1) := by decide +kernel
theorem dX1_isGoodCase_20 : decode cX1_isGoodCase 20 = .ok (.getfield 21, 3) := by decide +kernel
theorem dX1_isGoodCase_23 : decode cX1_isGoodCase 23 = .ok (.iload_n 2, 1) := by decide +kernel
theorem dX1_isGoodCase_24 : decode cX1_isGoodCase 24 = .ok (.invokevirtual 85, 3) := by decide +kernel
theorem dX1_isGoodCase_27 : decode cX1_isGoodCase 27 = .ok (.bipush 9, 2) := by decide +kernel
theorem dX1_isGoodCase_29 : decode cX1_isGoodCase 29 = .ok (.if_icmp .eq 5, 3) := by decide +kernel
theorem dX1_isGoodCase_32 : decode cX1_isGoodCase 32 = .ok (.iconst 0, 1) := by decide +kernel
theorem dX1_isGoodCase_33 : decode cX1_isGoodCase 33 = .ok (.ireturn, 1) := by decide +kernel
theorem dX1_isGoodCase_34 : decode cX1_isGoodCase 34 = .ok (.iconst 0, 1) := by decide +kernel
theorem dX1_isGoodCase_35 : decode cX1_isGoodCase 35 = .ok (.istore_n 3, 1) := by decide +kernel
theorem dX1_isGoodCase_36 : decode cX1_isGoodCase 36 = .ok (.aload_n 0, 1) := by decide +kernel
theorem dX1_isGoodCase_37 : decode cX1_isGoodCase 37 = .ok (.getfield 29, 3) := by decide +kernel
theorem dX1_isGoodCase_40 : decode cX1_isGoodCase 40 = .ok (.getfield 168, 3) := by decide +kernel
theorem dX1_isGoodCase_43 : decode cX1_isGoodCase 43 = .ok (.iload_n 1, 1) := by decide +kernel
theorem dX1_isGoodCase_44 : decode cX1_isGoodCase 44 = .ok (.invokevirtual 46, 3) := by decide +kernel
theorem dX1_isGoodCase_47 : decode cX1_isGoodCase 47 = .ok (.istore 4, 2) := by decide +kernel
theorem dX1_isGoodCase_49 : decode cX1_isGoodCase 49 = .ok (.iconst 0, 1) := by decide +kernel
theorem dX1_isGoodCase_50 : decode cX1_isGoodCase 50 = .ok (.istore 5, 2) := by decide +kernel
theorem dX1_isGoodCase_52 : decode cX1_isGoodCase 52 = .ok (.iload 5, 2) := by decide +kernel
theorem dX1_isGoodCase_54 : decode cX1_isGoodCase 54 = .ok (.sipush 1600, 3) := by decide +kernel
theorem dX1_isGoodCase_57 : decode cX1_isGoodCase 57 = .ok (.if_icmp .ge 56, 3) := by decide +kernel
theorem dX1_isGoodCase_60 : decode cX1_isGoodCase 60 = .ok (.iload 4, 2) := by decide +kernel
theorem dX1_isGoodCase_62 : decode cX1_isGoodCase 62 = .ok (.ifCond .lt 51, 3) := by decide +kernel
theorem dX1_isGoodCase_65 : decode cX1_isGoodCase 65 = .ok (.aload_n 0, 1) := by decide +kernel
theorem dX1_isGoodCase_66 : decode cX1_isGoodCase 66 = .ok (.getfield 21, 3) := by decide +kernel
theorem dX1_isGoodCase_69 : decode cX1_isGoodCase 69 = .ok (.iload_n 2, 1) := by decide +kernel
theorem dX1_isGoodCase_70 : decode cX1_isGoodCase 70 = .ok (.aload_n 0, 1) := by decide +kernel
theorem dX1_isGoodCase_71 : decode cX1_isGoodCase 71 = .ok (.getfield 29, 3) := by decide +kernel
theorem dX1_isGoodCase_74 : decode cX1_isGoodCase 74 = .ok (.getfield 171, 3) := by decide +kernel
theorem dX1_isGoodCase_77 : decode cX1_isGoodCase 77 = .ok (.iload 4, 2) := by decide +kernel
theorem dX1_isGoodCase_79 : decode cX1_isGoodCase 79 = .ok (.invokevirtual 46, 3) := by decide +kernel
theorem dX1_isGoodCase_82 : decode cX1_isGoodCase 82 = .ok (.invokevirtual 162, 3) := by decide +kernel
theorem dX1_isGoodCase_85 : decode cX1_isGoodCase 85 = .ok (.ifCond .ge 5, 3) := by decide +kernel
theorem dX1_isGoodCase_88 : decode cX1_isGoodCase 88 = .ok (.iconst 0, 1) := by decide +kernel
theorem dX1_isGoodCase_89 : decode cX1_isGoodCase 89 = .ok (.ireturn, 1) := by decide +kernel
theorem dX1_isGoodCase_90 : decode cX1_isGoodCase 90 = .ok (.iinc 3 1, 3) := by decide +kernel
theorem dX1_isGoodCase_93 : decode cX1_isGoodCase 93 = .ok (.aload_n 0, 1) := by decide +kernel
theorem dX1_isGoodCase_94 : decode cX1_isGoodCase 94 = .ok (.getfield 29, 3) := by decide +kernel
theorem dX1_isGoodCase_97 : decode cX1_isGoodCase 97 = .ok (.getfield 174, 3) := by decide +kernel
theorem dX1_isGoodCase_100 : decode cX1_isGoodCase 100 = .ok (.iload 4, 2) := by decide +kernel
theorem dX1_isGoodCase_102 : decode cX1_isGoodCase 102 = .ok (.invokevirtual 46, 3) := by decide +kernel
theorem dX1_isGoodCase_105 : decode cX1_isGoodCase 105 = .ok (.istore 4, 2) := by decide +kernel
theorem dX1_isGoodCase_107 : decode cX1_isGoodCase 107 = .ok (.iinc 5 1, 3) := by decide +kernel
theorem dX1_isGoodCase_110 : decode cX1_isGoodCase 110 = .ok (.goto (-58), 3) := by decide +kernel
theorem dX1_isGoodCase_113 : decode cX1_isGoodCase 113 = .ok (.iload_n 3, 1) := by decide +kernel
theorem dX1_isGoodCase_114 : decode cX1_isGoodCase 114 = .ok (.aload_n 0, 1) := by decide +kernel
theorem dX1_isGoodCase_115 : decode cX1_isGoodCase 115 = .ok (.getfield 21, 3) := by decide +kernel
theorem dX1_isGoodCase_118 : decode cX1_isGoodCase 118 = .ok (.iload_n 2, 1) := by decide +kernel
theorem dX1_isGoodCase_119 : decode cX1_isGoodCase 119 = .ok (.invokevirtual 177, 3) := by decide +kernel
theorem dX1_isGoodCase_122 : decode cX1_isGoodCase 122 = .ok (.if_icmp .ne 7, 3) := by decide +kernel
theorem dX1_isGoodCase_125 : decode cX1_isGoodCase 125 = .ok (.iconst 1, 1) := by decide +kernel
theorem dX1_isGoodCase_126 : decode cX1_isGoodCase 126 = .ok (.goto 4, 3) := by decide +kernel
theorem dX1_isGoodCase_129 : decode cX1_isGoodCase 129 = .ok (.iconst 0, 1) := by decide +kernel
theorem dX1_isGoodCase_130 : decode cX1_isGoodCase 130 = .ok (.ireturn, 1) := by decide +kernel
def bX1_isGoodCase_113 (x2 : Int32) (x3 : Int32) (t : zS) : zR := zbd (mX2_choices x2 t) fun r1339 t1340 => if x3 = r1339 then some (1, t1340) else some (0, t1340)
def bX1_isGoodCase_52 (k52 : Int32 → Int32 → Int32 → Int32 → zS → zR) (x2 : Int32) (x3 : Int32) (x4 : Int32) (x5 : Int32) (t : zS) : zR := if 1600 ≤ x5 then bX1_isGoodCase_113  x2 x3 t else if x4 < 0 then bX1_isGoodCase_113  x2 x3 t else zbd (mX5_get 108 1600 x4 t) fun r1342 t1343 => zbd (mX2_byLabel x2 r1342 t1343) fun r1345 t1346 => if 0 ≤ r1345 then zlet (x3 + 1) fun v1348 => zbd (mX5_get 114 1600 x4 t1346) fun r1349 t1350 => zlet (x5 + 1) fun v1352 => k52 x2 v1348 r1349 v1352 t1350 else some (0, t1346)
def lX1_isGoodCase_52 : Nat → Int32 → Int32 → Int32 → Int32 → zS → zR
  | 0, _, _, _, _, _ => none
  | fu + 1, x2, x3, x4, x5, t => bX1_isGoodCase_52 (lX1_isGoodCase_52  fu) x2 x3 x4 x5 t
def mX1_isGoodCase (x1 : Int32) (t : zS) : zR := zbd (mX5_get 90 1000 x1 t) fun r1353 t1354 => zbd (mX5_get 57 80000 r1353 t1354) fun r1356 t1357 => zbd (mX2_kindOf r1356 t1357) fun r1359 t1360 => if r1359 = 9 then zbd (mX5_get 104 1000 x1 t1360) fun r1362 t1363 => lX1_isGoodCase_52  zFU r1356 0 r1362 0 t1363 else some (0, t1360)
set_option maxHeartbeats 4000000 in
set_option maxRecDepth 20000 in
theorem wbX1_isGoodCase_113 {E : zE} {C : zC} {f : Nat} {ro : Int32 × zS} (hf : 4 ≤ f) (x2 : Int32) (x3 : Int32) (t : zS) (hF : bX1_isGoodCase_113  x2 x3 t = some ro) : zJ E shC C cX1_isGoodCase RX1 6 f (some .boolean) ro t 113 [(0, .ref (za E 6)), (2, .int x2), (3, .int x3)] [] := by
  unfold bX1_isGoodCase_113 at hF
  refine z_iload_n 2 dX1_isGoodCase_113 rfl rfl ?_
  refine z_aload_n 0 dX1_isGoodCase_114 rfl rfl ?_
  refine z_getr fr_RX1_21 dX1_isGoodCase_115 ?_
  refine z_iload_n 1 dX1_isGoodCase_118 rfl rfl ?_
  obtain ⟨r1339, t1340, hc1341, hF⟩ := zbd_at hF
  refine z_callVi (ctX2_choices (E := E) (f := f - 1) (by omega) hc1341) yy_X2_choices yv_X2_choices ob_C_3 lk_RX1_177 (by omega) rfl rfl (Nat.le_of_ble_eq_true rfl) dX1_isGoodCase_119 ?_
  refine z_icmp_ne (tgt := 129) dX1_isGoodCase_122 (by decide) (fun hc => ?_) (fun hc => ?_)
  · have hF := zif_f hc hF
    refine z_iconst (v := 0) dX1_isGoodCase_129 (by decide) ?_
    exact z_zret hF (by decide) dX1_isGoodCase_130
  · have hF := zif_t hc hF
    refine z_iconst (v := 1) dX1_isGoodCase_125 (by decide) ?_
    refine z_goto (tgt := 130) dX1_isGoodCase_126 (by decide) ?_
    exact z_zret hF (by decide) dX1_isGoodCase_130
set_option maxHeartbeats 4000000 in
set_option maxRecDepth 20000 in
theorem wbX1_isGoodCase_52 {E : zE} {C : zC} {f : Nat} {ro : Int32 × zS} (hf : 4 ≤ f) (k52 : Int32 → Int32 → Int32 → Int32 → zS → zR) (hk52 : ∀ (x2 x3 x4 x5 : Int32) (t : zS), k52 x2 x3 x4 x5 t = some ro → zJ E shC C cX1_isGoodCase RX1 6 f (some .boolean) ro t 52 [(0, .ref (za E 6)), (2, .int x2), (3, .int x3), (4, .int x4), (5, .int x5)] []) (x2 : Int32) (x3 : Int32) (x4 : Int32) (x5 : Int32) (t : zS) (hF : bX1_isGoodCase_52 k52 x2 x3 x4 x5 t = some ro) : zJ E shC C cX1_isGoodCase RX1 6 f (some .boolean) ro t 52 [(0, .ref (za E 6)), (2, .int x2), (3, .int x3), (4, .int x4), (5, .int x5)] [] := by
  unfold bX1_isGoodCase_52 at hF
  refine z_iload 4 dX1_isGoodCase_52 rfl ?_
  refine z_sipush (v := 1600) dX1_isGoodCase_54 (by decide) ?_
  refine z_icmp_ge (tgt := 113) dX1_isGoodCase_57 (by decide) (fun hc => ?_) (fun hc => ?_)
  · have hF := zif_t hc hF
    refine z_sub [0, 1, 2] rfl ?_
    exact wbX1_isGoodCase_113 hf  x2 x3 _ hF
  · have hF := zif_f hc hF
    refine z_iload 3 dX1_isGoodCase_60 rfl ?_
    refine z_if_lt (tgt := 113) dX1_isGoodCase_62 (by decide) (fun hc => ?_) (fun hc => ?_)
    · have hF := zif_t hc hF
      refine z_sub [0, 1, 2] rfl ?_
      exact wbX1_isGoodCase_113 hf  x2 x3 _ hF
    · have hF := zif_f hc hF
      refine z_aload_n 0 dX1_isGoodCase_65 rfl rfl ?_
      refine z_getr fr_RX1_21 dX1_isGoodCase_66 ?_
      refine z_iload_n 1 dX1_isGoodCase_69 rfl rfl ?_
      refine z_aload_n 0 dX1_isGoodCase_70 rfl rfl ?_
      refine z_getr fr_RX1_29 dX1_isGoodCase_71 ?_
      refine z_getr fr_RX1_171 dX1_isGoodCase_74 ?_
      refine z_iload 3 dX1_isGoodCase_77 rfl ?_
      obtain ⟨r1342, t1343, hc1344, hF⟩ := zbd_at hF
      refine z_callVi (ctX5_get (E := E) (sh := shC) (f := f - 1) (by omega) (k := 108) (n := 1600) rfl rfl hc1344) yy_X5_get yv_X5_get ob_C_108 lk_RX1_46 (by omega) rfl rfl (Nat.le_of_ble_eq_true rfl) dX1_isGoodCase_79 ?_
      obtain ⟨r1345, t1346, hc1347, hF⟩ := zbd_at hF
      refine z_callVi (ctX2_byLabel (E := E) (f := f - 1) (by omega) hc1347) yy_X2_byLabel yv_X2_byLabel ob_C_3 lk_RX1_162 (by omega) rfl rfl (Nat.le_of_ble_eq_true rfl) dX1_isGoodCase_82 ?_
      refine z_if_ge (tgt := 90) dX1_isGoodCase_85 (by decide) (fun hc => ?_) (fun hc => ?_)
      · have hF := zif_t hc hF
        obtain ⟨v1348, ev1348⟩ : ∃ y : Int32, y = (x3 + 1) := ⟨_, rfl⟩
        have hF := zlet_at ev1348 hF
        refine z_iinc (v := v1348) (lv' := [(3, .int v1348), (0, .ref (za E 6)), (2, .int x2), (4, .int x4), (5, .int x5)]) (k := 2) dX1_isGoodCase_90 rfl (by rw [ev1348]; rfl) (by decide) rfl ?_
        refine z_aload_n 1 dX1_isGoodCase_93 rfl rfl ?_
        refine z_getr fr_RX1_29 dX1_isGoodCase_94 ?_
        refine z_getr fr_RX1_174 dX1_isGoodCase_97 ?_
        refine z_iload 3 dX1_isGoodCase_100 rfl ?_
        obtain ⟨r1349, t1350, hc1351, hF⟩ := zbd_at hF
        refine z_callVi (ctX5_get (E := E) (sh := shC) (f := f - 1) (by omega) (k := 114) (n := 1600) rfl rfl hc1351) yy_X5_get yv_X5_get ob_C_114 lk_RX1_46 (by omega) rfl rfl (Nat.le_of_ble_eq_true rfl) dX1_isGoodCase_102 ?_
        refine z_istore (lv' := [(4, .int r1349), (3, .int v1348), (0, .ref (za E 6)), (2, .int x2), (5, .int x5)]) dX1_isGoodCase_105 (by decide) rfl ?_
        obtain ⟨v1352, ev1352⟩ : ∃ y : Int32, y = (x5 + 1) := ⟨_, rfl⟩
        have hF := zlet_at ev1352 hF
        refine z_iinc (v := v1352) (lv' := [(5, .int v1352), (4, .int r1349), (3, .int v1348), (0, .ref (za E 6)), (2, .int x2)]) (k := 4) dX1_isGoodCase_107 rfl (by rw [ev1352]; rfl) (by decide) rfl ?_
        refine z_goto (tgt := 52) dX1_isGoodCase_110 (by decide) ?_
        refine z_sub [3, 4, 2, 1, 0] rfl ?_
        exact hk52 x2 v1348 r1349 v1352 _ hF
      · have hF := zif_f hc hF
        refine z_iconst (v := 0) dX1_isGoodCase_88 (by decide) ?_
        exact z_zret hF (by decide) dX1_isGoodCase_89
set_option maxHeartbeats 4000000 in
set_option maxRecDepth 20000 in
theorem wlX1_isGoodCase_52 {E : zE} {C : zC} {f : Nat} {ro : Int32 × zS} (hf : 4 ≤ f) (fu : Nat) : ∀ (x2 x3 x4 x5 : Int32) (t : zS), lX1_isGoodCase_52  fu x2 x3 x4 x5 t = some ro → zJ E shC C cX1_isGoodCase RX1 6 f (some .boolean) ro t 52 [(0, .ref (za E 6)), (2, .int x2), (3, .int x3), (4, .int x4), (5, .int x5)] [] := by
  induction fu with
  | zero => intro x2 x3 x4 x5 t hF; cases hF
  | succ fu ih => intro x2 x3 x4 x5 t hF; exact wbX1_isGoodCase_52 hf (lX1_isGoodCase_52  fu) ih x2 x3 x4 x5 t hF
set_option maxHeartbeats 4000000 in
set_option maxRecDepth 20000 in
theorem ctX1_isGoodCase {E : zE} {f : Nat} (hf : 4 ≤ f) {x1 : Int32} {t : zS} {ro : Int32 × zS} (hF : mX1_isGoodCase  x1 t = some ro) : zM E shC f yX1_isGoodCase cX1_isGoodCase 6 (some .boolean) [.ref (za E 6), .int x1] t ro := by
  refine zM_of (by decide) (Nat.le_of_ble_eq_true rfl) (fun C => ?_)
  show zJ E shC C cX1_isGoodCase RX1 6 f (some .boolean) ro t 0 [(0, .ref (za E 6)), (1, .int x1)] []
  unfold mX1_isGoodCase at hF
  refine z_aload_n 0 dX1_isGoodCase_0 rfl rfl ?_
  refine z_getr fr_RX1_15 dX1_isGoodCase_1 ?_
  refine z_aload_n 0 dX1_isGoodCase_4 rfl rfl ?_
  refine z_getr fr_RX1_29 dX1_isGoodCase_5 ?_
  refine z_getr fr_RX1_147 dX1_isGoodCase_8 ?_
  refine z_iload_n 1 dX1_isGoodCase_11 rfl rfl ?_
  obtain ⟨r1353, t1354, hc1355, hF⟩ := zbd_at hF
  refine z_callVi (ctX5_get (E := E) (sh := shC) (f := f - 1) (by omega) (k := 90) (n := 1000) rfl rfl hc1355) yy_X5_get yv_X5_get ob_C_90 lk_RX1_46 (by omega) rfl rfl (Nat.le_of_ble_eq_true rfl) dX1_isGoodCase_12 ?_
  obtain ⟨r1356, t1357, hc1358, hF⟩ := zbd_at hF
  refine z_callVi (ctX5_get (E := E) (sh := shC) (f := f - 1) (by omega) (k := 57) (n := 80000) rfl rfl hc1358) yy_X5_get yv_X5_get ob_C_57 lk_RX1_46 (by omega) rfl rfl (Nat.le_of_ble_eq_true rfl) dX1_isGoodCase_15 ?_
  refine z_istore_n (lv' := [(2, .int r1356), (0, .ref (za E 6)), (1, .int x1)]) dX1_isGoodCase_18 rfl (by decide) rfl ?_
  refine z_aload_n 1 dX1_isGoodCase_19 rfl rfl ?_
  refine z_getr fr_RX1_21 dX1_isGoodCase_20 ?_
  refine z_iload_n 0 dX1_isGoodCase_23 rfl rfl ?_
  obtain ⟨r1359, t1360, hc1361, hF⟩ := zbd_at hF
  refine z_callVi (ctX2_kindOf (E := E) (f := f - 1) (by omega) hc1361) yy_X2_kindOf yv_X2_kindOf ob_C_3 lk_RX1_85 (by omega) rfl rfl (Nat.le_of_ble_eq_true rfl) dX1_isGoodCase_24 ?_
  refine z_bipush (v := 9) dX1_isGoodCase_27 (by decide) ?_
  refine z_icmp_eq (tgt := 34) dX1_isGoodCase_29 (by decide) (fun hc => ?_) (fun hc => ?_)
  · have hF := zif_t hc hF
    refine z_iconst (v := 0) dX1_isGoodCase_34 (by decide) ?_
    refine z_istore_n (lv' := [(3, .int 0), (2, .int r1356), (0, .ref (za E 6)), (1, .int x1)]) dX1_isGoodCase_35 rfl (by decide) rfl ?_
    refine z_aload_n 2 dX1_isGoodCase_36 rfl rfl ?_
    refine z_getr fr_RX1_29 dX1_isGoodCase_37 ?_
    refine z_getr fr_RX1_168 dX1_isGoodCase_40 ?_
    refine z_iload_n 3 dX1_isGoodCase_43 rfl rfl ?_
    obtain ⟨r1362, t1363, hc1364, hF⟩ := zbd_at hF
    refine z_callVi (ctX5_get (E := E) (sh := shC) (f := f - 1) (by omega) (k := 104) (n := 1000) rfl rfl hc1364) yy_X5_get yv_X5_get ob_C_104 lk_RX1_46 (by omega) rfl rfl (Nat.le_of_ble_eq_true rfl) dX1_isGoodCase_44 ?_
    refine z_istore (lv' := [(4, .int r1362), (3, .int 0), (2, .int r1356), (0, .ref (za E 6)), (1, .int x1)]) dX1_isGoodCase_47 (by decide) rfl ?_
    refine z_iconst (v := 0) dX1_isGoodCase_49 (by decide) ?_
    refine z_istore (lv' := [(5, .int 0), (4, .int r1362), (3, .int 0), (2, .int r1356), (0, .ref (za E 6)), (1, .int x1)]) dX1_isGoodCase_50 (by decide) rfl ?_
    refine z_sub [4, 3, 2, 1, 0] rfl ?_
    exact wlX1_isGoodCase_52 hf  zFU r1356 0 r1362 0 _ hF
  · have hF := zif_f hc hF
    refine z_iconst (v := 0) dX1_isGoodCase_32 (by decide) ?_
    exact z_zret hF (by decide) dX1_isGoodCase_33
-- SessionHouse$Checker.goOn(II)Z
theorem dX1_goOn_0 : decode cX1_goOn 0 = .ok (.iload_n 2, 1) := by decide +kernel
theorem dX1_goOn_1 : decode cX1_goOn 1 = .ok (.ifCond .ge 5, 3) := by decide +kernel
theorem dX1_goOn_4 : decode cX1_goOn 4 = .ok (.iconst 0, 1) := by decide +kernel
theorem dX1_goOn_5 : decode cX1_goOn 5 = .ok (.ireturn, 1) := by decide +kernel
theorem dX1_goOn_6 : decode cX1_goOn 6 = .ok (.aload_n 0, 1) := by decide +kernel
theorem dX1_goOn_7 : decode cX1_goOn 7 = .ok (.getfield 29, 3) := by decide +kernel
theorem dX1_goOn_10 : decode cX1_goOn 10 = .ok (.getfield 165, 3) := by decide +kernel
theorem dX1_goOn_13 : decode cX1_goOn 13 = .ok (.iload_n 1, 1) := by decide +kernel
theorem dX1_goOn_14 : decode cX1_goOn 14 = .ok (.aload_n 0, 1) := by decide +kernel
theorem dX1_goOn_15 : decode cX1_goOn 15 = .ok (.aload_n 0, 1) := by decide +kernel
theorem dX1_goOn_16 : decode cX1_goOn 16 = .ok (.getfield 29, 3) := by decide +kernel
theorem dX1_goOn_19 : decode cX1_goOn 19 = .ok (.getfield 147, 3) := by decide +kernel
theorem dX1_goOn_22 : decode cX1_goOn 22 = .ok (.iload_n 1, 1) := by decide +kernel
theorem dX1_goOn_23 : decode cX1_goOn 23 = .ok (.invokevirtual 46, 3) := by decide +kernel
theorem dX1_goOn_26 : decode cX1_goOn 26 = .ok (.iload_n 2, 1) := by decide +kernel
theorem dX1_goOn_27 : decode cX1_goOn 27 = .ok (.invokevirtual 63, 3) := by decide +kernel
theorem dX1_goOn_30 : decode cX1_goOn 30 = .ok (.invokevirtual 88, 3) := by decide +kernel
theorem dX1_goOn_33 : decode cX1_goOn 33 = .ok (.iconst 1, 1) := by decide +kernel
theorem dX1_goOn_34 : decode cX1_goOn 34 = .ok (.ireturn, 1) := by decide +kernel
def mX1_goOn (x1 : Int32) (x2 : Int32) (t : zS) : zR := if 0 ≤ x2 then zbd (mX5_get 90 1000 x1 t) fun r1365 t1366 => zbd (mX1_hold r1365 x2 t1366) fun r1368 t1369 => zbd (mX5_set 106 1000 x1 r1368 t1369) fun r1371 t1372 => some (1, t1372) else some (0, t)
set_option maxHeartbeats 4000000 in
set_option maxRecDepth 20000 in
theorem ctX1_goOn {E : zE} {f : Nat} (hf : 4 ≤ f) {x1 : Int32} {x2 : Int32} {t : zS} {ro : Int32 × zS} (hF : mX1_goOn  x1 x2 t = some ro) : zM E shC f yX1_goOn cX1_goOn 3 (some .boolean) [.ref (za E 6), .int x1, .int x2] t ro := by
  refine zM_of (by decide) (Nat.le_of_ble_eq_true rfl) (fun C => ?_)
  show zJ E shC C cX1_goOn RX1 3 f (some .boolean) ro t 0 [(0, .ref (za E 6)), (1, .int x1), (2, .int x2)] []
  unfold mX1_goOn at hF
  refine z_iload_n 2 dX1_goOn_0 rfl rfl ?_
  refine z_if_ge (tgt := 6) dX1_goOn_1 (by decide) (fun hc => ?_) (fun hc => ?_)
  · have hF := zif_t hc hF
    refine z_aload_n 0 dX1_goOn_6 rfl rfl ?_
    refine z_getr fr_RX1_29 dX1_goOn_7 ?_
    refine z_getr fr_RX1_165 dX1_goOn_10 ?_
    refine z_iload_n 1 dX1_goOn_13 rfl rfl ?_
    refine z_aload_n 0 dX1_goOn_14 rfl rfl ?_
    refine z_aload_n 0 dX1_goOn_15 rfl rfl ?_
    refine z_getr fr_RX1_29 dX1_goOn_16 ?_
    refine z_getr fr_RX1_147 dX1_goOn_19 ?_
    refine z_iload_n 1 dX1_goOn_22 rfl rfl ?_
    obtain ⟨r1365, t1366, hc1367, hF⟩ := zbd_at hF
    refine z_callVi (ctX5_get (E := E) (sh := shC) (f := f - 1) (by omega) (k := 90) (n := 1000) rfl rfl hc1367) yy_X5_get yv_X5_get ob_C_90 lk_RX1_46 (by omega) rfl rfl (Nat.le_of_ble_eq_true rfl) dX1_goOn_23 ?_
    refine z_iload_n 2 dX1_goOn_26 rfl rfl ?_
    obtain ⟨r1368, t1369, hc1370, hF⟩ := zbd_at hF
    refine z_callVi (ctX1_hold (E := E) (f := f - 1) (by omega) hc1370) yy_X1_hold yv_X1_hold ob_C_6 lk_RX1_63 (by omega) rfl rfl (Nat.le_of_ble_eq_true rfl) dX1_goOn_27 ?_
    obtain ⟨r1371, t1372, hc1373, hF⟩ := zbd_at hF
    refine z_callVv (ctX5_set (E := E) (sh := shC) (f := f - 1) (by omega) (k := 106) (n := 1000) rfl rfl hc1373) yy_X5_set yv_X5_set ob_C_106 lk_RX1_88 (by omega) rfl rfl (Nat.le_of_ble_eq_true rfl) dX1_goOn_30 ?_
    refine z_iconst (v := 1) dX1_goOn_33 (by decide) ?_
    exact z_zret hF (by decide) dX1_goOn_34
  · have hF := zif_f hc hF
    refine z_iconst (v := 0) dX1_goOn_4 (by decide) ?_
    exact z_zret hF (by decide) dX1_goOn_5
-- SessionHouse$Checker.isGoodPlain(II)Z
theorem dX1_isGoodPlain_0 : decode cX1_isGoodPlain 0 = .ok (.aload_n 0, 1) := by decide +kernel
theorem dX1_isGoodPlain_1 : decode cX1_isGoodPlain 1 = .ok (.getfield 29, 3) := by decide +kernel
theorem dX1_isGoodPlain_4 : decode cX1_isGoodPlain 4 = .ok (.getfield 147, 3) := by decide +kernel
theorem dX1_isGoodPlain_7 : decode cX1_isGoodPlain 7 = .ok (.iload_n 1, 1) := by decide +kernel
theorem dX1_isGoodPlain_8 : decode cX1_isGoodPlain 8 = .ok (.invokevirtual 46, 3) := by decide +kernel
theorem dX1_isGoodPlain_11 : decode cX1_isGoodPlain 11 = .ok (.istore_n 3, 1) := by decide +kernel
theorem dX1_isGoodPlain_12 : decode cX1_isGoodPlain 12 = .ok (.aload_n 0, 1) := by decide +kernel
theorem dX1_isGoodPlain_13 : decode cX1_isGoodPlain 13 = .ok (.getfield 29, 3) := by decide +kernel
theorem dX1_isGoodPlain_16 : decode cX1_isGoodPlain 16 = .ok (.getfield 150, 3) := by decide +kernel
theorem dX1_isGoodPlain_19 : decode cX1_isGoodPlain 19 = .ok (.iload_n 1, 1) := by decide +kernel
theorem dX1_isGoodPlain_20 : decode cX1_isGoodPlain 20 = .ok (.invokevirtual 46, 3) := by decide +kernel
theorem dX1_isGoodPlain_23 : decode cX1_isGoodPlain 23 = .ok (.istore 4, 2) := by decide +kernel
theorem dX1_isGoodPlain_25 : decode cX1_isGoodPlain 25 = .ok (.aload_n 0, 1) := by decide +kernel
theorem dX1_isGoodPlain_26 : decode cX1_isGoodPlain 26 = .ok (.getfield 15, 3) := by decide +kernel
theorem dX1_isGoodPlain_29 : decode cX1_isGoodPlain 29 = .ok (.iload_n 3, 1) := by decide +kernel
theorem dX1_isGoodPlain_30 : decode cX1_isGoodPlain 30 = .ok (.invokevirtual 46, 3) := by decide +kernel
theorem dX1_isGoodPlain_33 : decode cX1_isGoodPlain 33 = .ok (.istore 5, 2) := by decide +kernel
theorem dX1_isGoodPlain_35 : decode cX1_isGoodPlain 35 = .ok (.aload_n 0, 1) := by decide +kernel
theorem dX1_isGoodPlain_36 : decode cX1_isGoodPlain 36 = .ok (.getfield 21, 3) := by decide +kernel
theorem dX1_isGoodPlain_39 : decode cX1_isGoodPlain 39 = .ok (.iload 5, 2) := by decide +kernel
theorem dX1_isGoodPlain_41 : decode cX1_isGoodPlain 41 = .ok (.invokevirtual 85, 3) := by decide +kernel
theorem dX1_isGoodPlain_44 : decode cX1_isGoodPlain 44 = .ok (.istore 6, 2) := by decide +kernel
theorem dX1_isGoodPlain_46 : decode cX1_isGoodPlain 46 = .ok (.aload_n 0, 1) := by decide +kernel
theorem dX1_isGoodPlain_47 : decode cX1_isGoodPlain 47 = .ok (.getfield 15, 3) := by decide +kernel
theorem dX1_isGoodPlain_50 : decode cX1_isGoodPlain 50 = .ok (.iload 4, 2) := by decide +kernel
theorem dX1_isGoodPlain_52 : decode cX1_isGoodPlain 52 = .ok (.invokevirtual 46, 3) := by decide +kernel
theorem dX1_isGoodPlain_55 : decode cX1_isGoodPlain 55 = .ok (.istore 7, 2) := by decide +kernel
theorem dX1_isGoodPlain_57 : decode cX1_isGoodPlain 57 = .ok (.aload_n 0, 1) := by decide +kernel
theorem dX1_isGoodPlain_58 : decode cX1_isGoodPlain 58 = .ok (.getfield 25, 3) := by decide +kernel
theorem dX1_isGoodPlain_61 : decode cX1_isGoodPlain 61 = .ok (.aload_n 0, 1) := by decide +kernel
theorem dX1_isGoodPlain_62 : decode cX1_isGoodPlain 62 = .ok (.getfield 15, 3) := by decide +kernel
theorem dX1_isGoodPlain_65 : decode cX1_isGoodPlain 65 = .ok (.aload_n 0, 1) := by decide +kernel
theorem dX1_isGoodPlain_66 : decode cX1_isGoodPlain 66 = .ok (.getfield 29, 3) := by decide +kernel
theorem dX1_isGoodPlain_69 : decode cX1_isGoodPlain 69 = .ok (.getfield 125, 3) := by decide +kernel
theorem dX1_isGoodPlain_72 : decode cX1_isGoodPlain 72 = .ok (.iload_n 1, 1) := by decide +kernel
theorem dX1_isGoodPlain_73 : decode cX1_isGoodPlain 73 = .ok (.invokevirtual 46, 3) := by decide +kernel
theorem dX1_isGoodPlain_76 : decode cX1_isGoodPlain 76 = .ok (.aload_n 0, 1) := by decide +kernel
theorem dX1_isGoodPlain_77 : decode cX1_isGoodPlain 77 = .ok (.getfield 29, 3) := by decide +kernel
theorem dX1_isGoodPlain_80 : decode cX1_isGoodPlain 80 = .ok (.getfield 128, 3) := by decide +kernel
theorem dX1_isGoodPlain_83 : decode cX1_isGoodPlain 83 = .ok (.iload_n 1, 1) := by decide +kernel
theorem dX1_isGoodPlain_84 : decode cX1_isGoodPlain 84 = .ok (.invokevirtual 46, 3) := by decide +kernel
theorem dX1_isGoodPlain_87 : decode cX1_isGoodPlain 87 = .ok (.invokevirtual 131, 3) := by decide +kernel
theorem dX1_isGoodPlain_90 : decode cX1_isGoodPlain 90 = .ok (.istore 8, 2) := by decide +kernel
theorem dX1_isGoodPlain_92 : decode cX1_isGoodPlain 92 = .ok (.iload_n 2, 1) := by decide +kernel
theorem dX1_isGoodPlain_93 : decode cX1_isGoodPlain 93 = .ok (.tableswitch 246 2 6 #[35, 69, 103, 169, 214], 35) := by decide +kernel
theorem dX1_isGoodPlain_128 : decode cX1_isGoodPlain 128 = .ok (.iload 6, 2) := by decide +kernel
theorem dX1_isGoodPlain_130 : decode cX1_isGoodPlain 130 = .ok (.iconst 4, 1) := by decide +kernel
theorem dX1_isGoodPlain_131 : decode cX1_isGoodPlain 131 = .ok (.if_icmp .ne 29, 3) := by decide +kernel
theorem dX1_isGoodPlain_134 : decode cX1_isGoodPlain 134 = .ok (.iload 8, 2) := by decide +kernel
theorem dX1_isGoodPlain_136 : decode cX1_isGoodPlain 136 = .ok (.ifCond .eq 24, 3) := by decide +kernel
theorem dX1_isGoodPlain_139 : decode cX1_isGoodPlain 139 = .ok (.aload_n 0, 1) := by decide +kernel
theorem dX1_isGoodPlain_140 : decode cX1_isGoodPlain 140 = .ok (.iload_n 1, 1) := by decide +kernel
theorem dX1_isGoodPlain_141 : decode cX1_isGoodPlain 141 = .ok (.aload_n 0, 1) := by decide +kernel
theorem dX1_isGoodPlain_142 : decode cX1_isGoodPlain 142 = .ok (.getfield 21, 3) := by decide +kernel
theorem dX1_isGoodPlain_145 : decode cX1_isGoodPlain 145 = .ok (.iload 5, 2) := by decide +kernel
theorem dX1_isGoodPlain_147 : decode cX1_isGoodPlain 147 = .ok (.invokevirtual 153, 3) := by decide +kernel
theorem dX1_isGoodPlain_150 : decode cX1_isGoodPlain 150 = .ok (.invokevirtual 156, 3) := by decide +kernel
theorem dX1_isGoodPlain_153 : decode cX1_isGoodPlain 153 = .ok (.ifCond .eq 7, 3) := by decide +kernel
theorem dX1_isGoodPlain_156 : decode cX1_isGoodPlain 156 = .ok (.iconst 1, 1) := by decide +kernel
theorem dX1_isGoodPlain_157 : decode cX1_isGoodPlain 157 = .ok (.goto 4, 3) := by decide +kernel
theorem dX1_isGoodPlain_160 : decode cX1_isGoodPlain 160 = .ok (.iconst 0, 1) := by decide +kernel
theorem dX1_isGoodPlain_161 : decode cX1_isGoodPlain 161 = .ok (.ireturn, 1) := by decide +kernel
theorem dX1_isGoodPlain_162 : decode cX1_isGoodPlain 162 = .ok (.iload 6, 2) := by decide +kernel
theorem dX1_isGoodPlain_164 : decode cX1_isGoodPlain 164 = .ok (.iconst 5, 1) := by decide +kernel
theorem dX1_isGoodPlain_165 : decode cX1_isGoodPlain 165 = .ok (.if_icmp .ne 29, 3) := by decide +kernel
theorem dX1_isGoodPlain_168 : decode cX1_isGoodPlain 168 = .ok (.iload 7, 2) := by decide +kernel
theorem dX1_isGoodPlain_170 : decode cX1_isGoodPlain 170 = .ok (.ifCond .ge 24, 3) := by decide +kernel
theorem dX1_isGoodPlain_173 : decode cX1_isGoodPlain 173 = .ok (.aload_n 0, 1) := by decide +kernel
theorem dX1_isGoodPlain_174 : decode cX1_isGoodPlain 174 = .ok (.iload_n 1, 1) := by decide +kernel
theorem dX1_isGoodPlain_175 : decode cX1_isGoodPlain 175 = .ok (.aload_n 0, 1) := by decide +kernel
theorem dX1_isGoodPlain_176 : decode cX1_isGoodPlain 176 = .ok (.getfield 21, 3) := by decide +kernel
theorem dX1_isGoodPlain_179 : decode cX1_isGoodPlain 179 = .ok (.iload 5, 2) := by decide +kernel
theorem dX1_isGoodPlain_181 : decode cX1_isGoodPlain 181 = .ok (.invokevirtual 153, 3) := by decide +kernel
theorem dX1_isGoodPlain_184 : decode cX1_isGoodPlain 184 = .ok (.invokevirtual 156, 3) := by decide +kernel
theorem dX1_isGoodPlain_187 : decode cX1_isGoodPlain 187 = .ok (.ifCond .eq 7, 3) := by decide +kernel
theorem dX1_isGoodPlain_190 : decode cX1_isGoodPlain 190 = .ok (.iconst 1, 1) := by decide +kernel
theorem dX1_isGoodPlain_191 : decode cX1_isGoodPlain 191 = .ok (.goto 4, 3) := by decide +kernel
theorem dX1_isGoodPlain_194 : decode cX1_isGoodPlain 194 = .ok (.iconst 0, 1) := by decide +kernel
theorem dX1_isGoodPlain_195 : decode cX1_isGoodPlain 195 = .ok (.ireturn, 1) := by decide +kernel
theorem dX1_isGoodPlain_196 : decode cX1_isGoodPlain 196 = .ok (.iload 6, 2) := by decide +kernel
theorem dX1_isGoodPlain_198 : decode cX1_isGoodPlain 198 = .ok (.bipush 6, 2) := by decide +kernel
theorem dX1_isGoodPlain_200 : decode cX1_isGoodPlain 200 = .ok (.if_icmp .ne 35, 3) := by decide +kernel
theorem dX1_isGoodPlain_203 : decode cX1_isGoodPlain 203 = .ok (.iload_n 3, 1) := by decide +kernel
theorem dX1_isGoodPlain_204 : decode cX1_isGoodPlain 204 = .ok (.iload 4, 2) := by decide +kernel
theorem dX1_isGoodPlain_206 : decode cX1_isGoodPlain 206 = .ok (.if_icmp .eq 29, 3) := by decide +kernel
theorem dX1_isGoodPlain_209 : decode cX1_isGoodPlain 209 = .ok (.iload 7, 2) := by decide +kernel
theorem dX1_isGoodPlain_211 : decode cX1_isGoodPlain 211 = .ok (.ifCond .lt 24, 3) := by decide +kernel
theorem dX1_isGoodPlain_214 : decode cX1_isGoodPlain 214 = .ok (.aload_n 0, 1) := by decide +kernel
theorem dX1_isGoodPlain_215 : decode cX1_isGoodPlain 215 = .ok (.getfield 21, 3) := by decide +kernel
theorem dX1_isGoodPlain_218 : decode cX1_isGoodPlain 218 = .ok (.iload 7, 2) := by decide +kernel
theorem dX1_isGoodPlain_220 : decode cX1_isGoodPlain 220 = .ok (.aload_n 0, 1) := by decide +kernel
theorem dX1_isGoodPlain_221 : decode cX1_isGoodPlain 221 = .ok (.getfield 21, 3) := by decide +kernel
theorem dX1_isGoodPlain_224 : decode cX1_isGoodPlain 224 = .ok (.iload 5, 2) := by decide +kernel
theorem dX1_isGoodPlain_226 : decode cX1_isGoodPlain 226 = .ok (.invokevirtual 159, 3) := by decide +kernel
theorem dX1_isGoodPlain_229 : decode cX1_isGoodPlain 229 = .ok (.invokevirtual 92, 3) := by decide +kernel
theorem dX1_isGoodPlain_232 : decode cX1_isGoodPlain 232 = .ok (.ifCond .ne 5, 3) := by decide +kernel
theorem dX1_isGoodPlain_235 : decode cX1_isGoodPlain 235 = .ok (.iconst 0, 1) := by decide +kernel
theorem dX1_isGoodPlain_236 : decode cX1_isGoodPlain 236 = .ok (.ireturn, 1) := by decide +kernel
theorem dX1_isGoodPlain_237 : decode cX1_isGoodPlain 237 = .ok (.aload_n 0, 1) := by decide +kernel
theorem dX1_isGoodPlain_238 : decode cX1_isGoodPlain 238 = .ok (.getfield 15, 3) := by decide +kernel
theorem dX1_isGoodPlain_241 : decode cX1_isGoodPlain 241 = .ok (.iload 4, 2) := by decide +kernel
theorem dX1_isGoodPlain_243 : decode cX1_isGoodPlain 243 = .ok (.iconst (-1), 1) := by decide +kernel
theorem dX1_isGoodPlain_244 : decode cX1_isGoodPlain 244 = .ok (.invokevirtual 88, 3) := by decide +kernel
theorem dX1_isGoodPlain_247 : decode cX1_isGoodPlain 247 = .ok (.aload_n 0, 1) := by decide +kernel
theorem dX1_isGoodPlain_248 : decode cX1_isGoodPlain 248 = .ok (.iload_n 1, 1) := by decide +kernel
theorem dX1_isGoodPlain_249 : decode cX1_isGoodPlain 249 = .ok (.aload_n 0, 1) := by decide +kernel
theorem dX1_isGoodPlain_250 : decode cX1_isGoodPlain 250 = .ok (.getfield 21, 3) := by decide +kernel
theorem dX1_isGoodPlain_253 : decode cX1_isGoodPlain 253 = .ok (.iload 5, 2) := by decide +kernel
theorem dX1_isGoodPlain_255 : decode cX1_isGoodPlain 255 = .ok (.invokevirtual 153, 3) := by decide +kernel
theorem dX1_isGoodPlain_258 : decode cX1_isGoodPlain 258 = .ok (.invokevirtual 156, 3) := by decide +kernel
theorem dX1_isGoodPlain_261 : decode cX1_isGoodPlain 261 = .ok (.ireturn, 1) := by decide +kernel
theorem dX1_isGoodPlain_262 : decode cX1_isGoodPlain 262 = .ok (.iload 6, 2) := by decide +kernel
theorem dX1_isGoodPlain_264 : decode cX1_isGoodPlain 264 = .ok (.bipush 7, 2) := by decide +kernel
theorem dX1_isGoodPlain_266 : decode cX1_isGoodPlain 266 = .ok (.if_icmp .ne 8, 3) := by decide +kernel
theorem dX1_isGoodPlain_269 : decode cX1_isGoodPlain 269 = .ok (.iload 7, 2) := by decide +kernel
theorem dX1_isGoodPlain_271 : decode cX1_isGoodPlain 271 = .ok (.ifCond .lt 5, 3) := by decide +kernel
theorem dX1_isGoodPlain_274 : decode cX1_isGoodPlain 274 = .ok (.iconst 0, 1) := by decide +kernel
theorem dX1_isGoodPlain_275 : decode cX1_isGoodPlain 275 = .ok (.ireturn, 1) := by decide +kernel
theorem dX1_isGoodPlain_276 : decode cX1_isGoodPlain 276 = .ok (.aload_n 0, 1) := by decide +kernel
theorem dX1_isGoodPlain_277 : decode cX1_isGoodPlain 277 = .ok (.iload 4, 2) := by decide +kernel
theorem dX1_isGoodPlain_279 : decode cX1_isGoodPlain 279 = .ok (.aload_n 0, 1) := by decide +kernel
theorem dX1_isGoodPlain_280 : decode cX1_isGoodPlain 280 = .ok (.getfield 21, 3) := by decide +kernel
theorem dX1_isGoodPlain_283 : decode cX1_isGoodPlain 283 = .ok (.iload 5, 2) := by decide +kernel
theorem dX1_isGoodPlain_285 : decode cX1_isGoodPlain 285 = .ok (.invokevirtual 159, 3) := by decide +kernel
theorem dX1_isGoodPlain_288 : decode cX1_isGoodPlain 288 = .ok (.invokevirtual 63, 3) := by decide +kernel
theorem dX1_isGoodPlain_291 : decode cX1_isGoodPlain 291 = .ok (.pop, 1) := by decide +kernel
theorem dX1_isGoodPlain_292 : decode cX1_isGoodPlain 292 = .ok (.aload_n 0, 1) := by decide +kernel
theorem dX1_isGoodPlain_293 : decode cX1_isGoodPlain 293 = .ok (.iload_n 1, 1) := by decide +kernel
theorem dX1_isGoodPlain_294 : decode cX1_isGoodPlain 294 = .ok (.aload_n 0, 1) := by decide +kernel
theorem dX1_isGoodPlain_295 : decode cX1_isGoodPlain 295 = .ok (.getfield 21, 3) := by decide +kernel
theorem dX1_isGoodPlain_298 : decode cX1_isGoodPlain 298 = .ok (.iload 5, 2) := by decide +kernel
theorem dX1_isGoodPlain_300 : decode cX1_isGoodPlain 300 = .ok (.invokevirtual 153, 3) := by decide +kernel
theorem dX1_isGoodPlain_303 : decode cX1_isGoodPlain 303 = .ok (.invokevirtual 156, 3) := by decide +kernel
theorem dX1_isGoodPlain_306 : decode cX1_isGoodPlain 306 = .ok (.ireturn, 1) := by decide +kernel
theorem dX1_isGoodPlain_307 : decode cX1_isGoodPlain 307 = .ok (.iload 6, 2) := by decide +kernel
theorem dX1_isGoodPlain_309 : decode cX1_isGoodPlain 309 = .ok (.bipush 8, 2) := by decide +kernel
theorem dX1_isGoodPlain_311 : decode cX1_isGoodPlain 311 = .ok (.if_icmp .ne 26, 3) := by decide +kernel
theorem dX1_isGoodPlain_314 : decode cX1_isGoodPlain 314 = .ok (.aload_n 0, 1) := by decide +kernel
theorem dX1_isGoodPlain_315 : decode cX1_isGoodPlain 315 = .ok (.iload_n 1, 1) := by decide +kernel
theorem dX1_isGoodPlain_316 : decode cX1_isGoodPlain 316 = .ok (.aload_n 0, 1) := by decide +kernel
theorem dX1_isGoodPlain_317 : decode cX1_isGoodPlain 317 = .ok (.getfield 21, 3) := by decide +kernel
theorem dX1_isGoodPlain_320 : decode cX1_isGoodPlain 320 = .ok (.iload 5, 2) := by decide +kernel
theorem dX1_isGoodPlain_322 : decode cX1_isGoodPlain 322 = .ok (.iload 4, 2) := by decide +kernel
theorem dX1_isGoodPlain_324 : decode cX1_isGoodPlain 324 = .ok (.invokevirtual 162, 3) := by decide +kernel
theorem dX1_isGoodPlain_327 : decode cX1_isGoodPlain 327 = .ok (.invokevirtual 156, 3) := by decide +kernel
theorem dX1_isGoodPlain_330 : decode cX1_isGoodPlain 330 = .ok (.ifCond .eq 7, 3) := by decide +kernel
theorem dX1_isGoodPlain_333 : decode cX1_isGoodPlain 333 = .ok (.iconst 1, 1) := by decide +kernel
theorem dX1_isGoodPlain_334 : decode cX1_isGoodPlain 334 = .ok (.goto 4, 3) := by decide +kernel
theorem dX1_isGoodPlain_337 : decode cX1_isGoodPlain 337 = .ok (.iconst 0, 1) := by decide +kernel
theorem dX1_isGoodPlain_338 : decode cX1_isGoodPlain 338 = .ok (.ireturn, 1) := by decide +kernel
theorem dX1_isGoodPlain_339 : decode cX1_isGoodPlain 339 = .ok (.iload 5, 2) := by decide +kernel
theorem dX1_isGoodPlain_341 : decode cX1_isGoodPlain 341 = .ok (.ifCond .ge 12, 3) := by decide +kernel
theorem dX1_isGoodPlain_344 : decode cX1_isGoodPlain 344 = .ok (.iload 8, 2) := by decide +kernel
theorem dX1_isGoodPlain_346 : decode cX1_isGoodPlain 346 = .ok (.ifCond .eq 7, 3) := by decide +kernel
theorem dX1_isGoodPlain_349 : decode cX1_isGoodPlain 349 = .ok (.iconst 1, 1) := by decide +kernel
theorem dX1_isGoodPlain_350 : decode cX1_isGoodPlain 350 = .ok (.goto 4, 3) := by decide +kernel
theorem dX1_isGoodPlain_353 : decode cX1_isGoodPlain 353 = .ok (.iconst 0, 1) := by decide +kernel
theorem dX1_isGoodPlain_354 : decode cX1_isGoodPlain 354 = .ok (.ireturn, 1) := by decide +kernel
def mX1_isGoodPlain (x1 : Int32) (x2 : Int32) (t : zS) : zR := zbd (mX5_get 90 1000 x1 t) fun r1374 t1375 => zbd (mX5_get 92 1000 x1 t1375) fun r1377 t1378 => zbd (mX5_get 57 80000 r1374 t1378) fun r1380 t1381 => zbd (mX2_kindOf r1380 t1381) fun r1383 t1384 => zbd (mX5_get 57 80000 r1377 t1384) fun r1386 t1387 => zbd (mX5_get 94 1000 x1 t1387) fun r1389 t1390 => zbd (mX5_get 96 1000 x1 t1390) fun r1392 t1393 => zbd (mX3_isWithout r1389 r1392 t1393) fun r1395 t1396 => if x2 = 2 then if r1383 = 4 then if r1395 = 0 then some (0, t1396) else zbd (mX2_behindOf r1380 t1396) fun r1398 t1399 => zbd (mX1_goOn x1 r1398 t1399) fun r1401 t1402 => if r1401 = 0 then some (0, t1402) else some (1, t1402) else some (0, t1396) else if x2 = 3 then if r1383 = 5 then if 0 ≤ r1386 then some (0, t1396) else zbd (mX2_behindOf r1380 t1396) fun r1405 t1406 => zbd (mX1_goOn x1 r1405 t1406) fun r1408 t1409 => if r1408 = 0 then some (0, t1409) else some (1, t1409) else some (0, t1396) else if x2 = 4 then if r1383 = 6 then if r1374 = r1377 then some (0, t1396) else if r1386 < 0 then some (0, t1396) else zbd (mX2_insideOf r1380 t1396) fun r1412 t1413 => zbd (mX2_equal r1386 r1412 t1413) fun r1415 t1416 => if r1415 = 0 then some (0, t1416) else zbd (mX5_set 57 80000 r1377 (-1) t1416) fun r1418 t1419 => zbd (mX2_behindOf r1380 t1419) fun r1421 t1422 => zbd (mX1_goOn x1 r1421 t1422) fun r1424 t1425 => z01 r1424 (some (r1424, t1425)) else some (0, t1396) else if x2 = 5 then if r1383 = 7 then if r1386 < 0 then zbd (mX2_insideOf r1380 t1396) fun r1429 t1430 => zbd (mX1_hold r1377 r1429 t1430) fun r1432 t1433 => zbd (mX2_behindOf r1380 t1433) fun r1435 t1436 => zbd (mX1_goOn x1 r1435 t1436) fun r1438 t1439 => z01 r1438 (some (r1438, t1439)) else some (0, t1396) else some (0, t1396) else if x2 = 6 then if r1383 = 8 then zbd (mX2_byLabel r1380 r1377 t1396) fun r1443 t1444 => zbd (mX1_goOn x1 r1443 t1444) fun r1446 t1447 => if r1446 = 0 then some (0, t1447) else some (1, t1447) else some (0, t1396) else if 0 ≤ r1380 then some (0, t1396) else if r1395 = 0 then some (0, t1396) else some (1, t1396)
set_option maxHeartbeats 4000000 in
set_option maxRecDepth 20000 in
theorem ctX1_isGoodPlain {E : zE} {f : Nat} (hf : 5 ≤ f) {x1 : Int32} {x2 : Int32} {t : zS} {ro : Int32 × zS} (hF : mX1_isGoodPlain  x1 x2 t = some ro) : zM E shC f yX1_isGoodPlain cX1_isGoodPlain 9 (some .boolean) [.ref (za E 6), .int x1, .int x2] t ro := by
  refine zM_of (by decide) (Nat.le_of_ble_eq_true rfl) (fun C => ?_)
  show zJ E shC C cX1_isGoodPlain RX1 9 f (some .boolean) ro t 0 [(0, .ref (za E 6)), (1, .int x1), (2, .int x2)] []
  unfold mX1_isGoodPlain at hF
  refine z_aload_n 0 dX1_isGoodPlain_0 rfl rfl ?_
  refine z_getr fr_RX1_29 dX1_isGoodPlain_1 ?_
  refine z_getr fr_RX1_147 dX1_isGoodPlain_4 ?_
  refine z_iload_n 1 dX1_isGoodPlain_7 rfl rfl ?_
  obtain ⟨r1374, t1375, hc1376, hF⟩ := zbd_at hF
  refine z_callVi (ctX5_get (E := E) (sh := shC) (f := f - 1) (by omega) (k := 90) (n := 1000) rfl rfl hc1376) yy_X5_get yv_X5_get ob_C_90 lk_RX1_46 (by omega) rfl rfl (Nat.le_of_ble_eq_true rfl) dX1_isGoodPlain_8 ?_
  refine z_istore_n (lv' := [(3, .int r1374), (0, .ref (za E 6)), (1, .int x1), (2, .int x2)]) dX1_isGoodPlain_11 rfl (by decide) rfl ?_
  refine z_aload_n 1 dX1_isGoodPlain_12 rfl rfl ?_
  refine z_getr fr_RX1_29 dX1_isGoodPlain_13 ?_
  refine z_getr fr_RX1_150 dX1_isGoodPlain_16 ?_
  refine z_iload_n 2 dX1_isGoodPlain_19 rfl rfl ?_
  obtain ⟨r1377, t1378, hc1379, hF⟩ := zbd_at hF
  refine z_callVi (ctX5_get (E := E) (sh := shC) (f := f - 1) (by omega) (k := 92) (n := 1000) rfl rfl hc1379) yy_X5_get yv_X5_get ob_C_92 lk_RX1_46 (by omega) rfl rfl (Nat.le_of_ble_eq_true rfl) dX1_isGoodPlain_20 ?_
  refine z_istore (lv' := [(4, .int r1377), (3, .int r1374), (0, .ref (za E 6)), (1, .int x1), (2, .int x2)]) dX1_isGoodPlain_23 (by decide) rfl ?_
  refine z_aload_n 2 dX1_isGoodPlain_25 rfl rfl ?_
  refine z_getr fr_RX1_15 dX1_isGoodPlain_26 ?_
  refine z_iload_n 1 dX1_isGoodPlain_29 rfl rfl ?_
  obtain ⟨r1380, t1381, hc1382, hF⟩ := zbd_at hF
  refine z_callVi (ctX5_get (E := E) (sh := shC) (f := f - 1) (by omega) (k := 57) (n := 80000) rfl rfl hc1382) yy_X5_get yv_X5_get ob_C_57 lk_RX1_46 (by omega) rfl rfl (Nat.le_of_ble_eq_true rfl) dX1_isGoodPlain_30 ?_
  refine z_istore (lv' := [(5, .int r1380), (4, .int r1377), (3, .int r1374), (0, .ref (za E 6)), (1, .int x1), (2, .int x2)]) dX1_isGoodPlain_33 (by decide) rfl ?_
  refine z_aload_n 3 dX1_isGoodPlain_35 rfl rfl ?_
  refine z_getr fr_RX1_21 dX1_isGoodPlain_36 ?_
  refine z_iload 0 dX1_isGoodPlain_39 rfl ?_
  obtain ⟨r1383, t1384, hc1385, hF⟩ := zbd_at hF
  refine z_callVi (ctX2_kindOf (E := E) (f := f - 1) (by omega) hc1385) yy_X2_kindOf yv_X2_kindOf ob_C_3 lk_RX1_85 (by omega) rfl rfl (Nat.le_of_ble_eq_true rfl) dX1_isGoodPlain_41 ?_
  refine z_istore (lv' := [(6, .int r1383), (5, .int r1380), (4, .int r1377), (3, .int r1374), (0, .ref (za E 6)), (1, .int x1), (2, .int x2)]) dX1_isGoodPlain_44 (by decide) rfl ?_
  refine z_aload_n 4 dX1_isGoodPlain_46 rfl rfl ?_
  refine z_getr fr_RX1_15 dX1_isGoodPlain_47 ?_
  refine z_iload 2 dX1_isGoodPlain_50 rfl ?_
  obtain ⟨r1386, t1387, hc1388, hF⟩ := zbd_at hF
  refine z_callVi (ctX5_get (E := E) (sh := shC) (f := f - 1) (by omega) (k := 57) (n := 80000) rfl rfl hc1388) yy_X5_get yv_X5_get ob_C_57 lk_RX1_46 (by omega) rfl rfl (Nat.le_of_ble_eq_true rfl) dX1_isGoodPlain_52 ?_
  refine z_istore (lv' := [(7, .int r1386), (6, .int r1383), (5, .int r1380), (4, .int r1377), (3, .int r1374), (0, .ref (za E 6)), (1, .int x1), (2, .int x2)]) dX1_isGoodPlain_55 (by decide) rfl ?_
  refine z_aload_n 5 dX1_isGoodPlain_57 rfl rfl ?_
  refine z_getr fr_RX1_25 dX1_isGoodPlain_58 ?_
  refine z_aload_n 5 dX1_isGoodPlain_61 rfl rfl ?_
  refine z_getr fr_RX1_15 dX1_isGoodPlain_62 ?_
  refine z_aload_n 5 dX1_isGoodPlain_65 rfl rfl ?_
  refine z_getr fr_RX1_29 dX1_isGoodPlain_66 ?_
  refine z_getr fr_RX1_125 dX1_isGoodPlain_69 ?_
  refine z_iload_n 6 dX1_isGoodPlain_72 rfl rfl ?_
  obtain ⟨r1389, t1390, hc1391, hF⟩ := zbd_at hF
  refine z_callVi (ctX5_get (E := E) (sh := shC) (f := f - 1) (by omega) (k := 94) (n := 1000) rfl rfl hc1391) yy_X5_get yv_X5_get ob_C_94 lk_RX1_46 (by omega) rfl rfl (Nat.le_of_ble_eq_true rfl) dX1_isGoodPlain_73 ?_
  refine z_aload_n 5 dX1_isGoodPlain_76 rfl rfl ?_
  refine z_getr fr_RX1_29 dX1_isGoodPlain_77 ?_
  refine z_getr fr_RX1_128 dX1_isGoodPlain_80 ?_
  refine z_iload_n 6 dX1_isGoodPlain_83 rfl rfl ?_
  obtain ⟨r1392, t1393, hc1394, hF⟩ := zbd_at hF
  refine z_callVi (ctX5_get (E := E) (sh := shC) (f := f - 1) (by omega) (k := 96) (n := 1000) rfl rfl hc1394) yy_X5_get yv_X5_get ob_C_96 lk_RX1_46 (by omega) rfl rfl (Nat.le_of_ble_eq_true rfl) dX1_isGoodPlain_84 ?_
  obtain ⟨r1395, t1396, hc1397, hF⟩ := zbd_at hF
  refine z_callVi (ctX3_isWithout (E := E) (f := f - 1) (by omega) hc1397) yy_X3_isWithout yv_X3_isWithout ob_C_51 lk_RX1_131 (by omega) rfl rfl (Nat.le_of_ble_eq_true rfl) dX1_isGoodPlain_87 ?_
  refine z_istore (lv' := [(8, .int r1395), (7, .int r1386), (6, .int r1383), (5, .int r1380), (4, .int r1377), (3, .int r1374), (0, .ref (za E 6)), (1, .int x1), (2, .int x2)]) dX1_isGoodPlain_90 (by decide) rfl ?_
  refine z_iload_n 8 dX1_isGoodPlain_92 rfl rfl ?_
  by_cases hc : x2 = 2
  · have hF := zif_t hc hF
    refine z_tabIn (tgt := 128) dX1_isGoodPlain_93 (by rw [hc]; decide) (by rw [hc]; decide) (by rw [hc]; rfl) (by decide) ?_
    refine z_iload 2 dX1_isGoodPlain_128 rfl ?_
    refine z_iconst (v := 4) dX1_isGoodPlain_130 (by decide) ?_
    refine z_icmp_ne (tgt := 160) dX1_isGoodPlain_131 (by decide) (fun hc => ?_) (fun hc => ?_)
    · have hF := zif_f hc hF
      refine z_iconst (v := 0) dX1_isGoodPlain_160 (by decide) ?_
      exact z_zret hF (by decide) dX1_isGoodPlain_161
    · have hF := zif_t hc hF
      refine z_iload 0 dX1_isGoodPlain_134 rfl ?_
      refine z_if_eq (tgt := 160) dX1_isGoodPlain_136 (by decide) (fun hc => ?_) (fun hc => ?_)
      · have hF := zif_t hc hF
        refine z_iconst (v := 0) dX1_isGoodPlain_160 (by decide) ?_
        exact z_zret hF (by decide) dX1_isGoodPlain_161
      · have hF := zif_f hc hF
        refine z_aload_n 6 dX1_isGoodPlain_139 rfl rfl ?_
        refine z_iload_n 7 dX1_isGoodPlain_140 rfl rfl ?_
        refine z_aload_n 6 dX1_isGoodPlain_141 rfl rfl ?_
        refine z_getr fr_RX1_21 dX1_isGoodPlain_142 ?_
        refine z_iload 3 dX1_isGoodPlain_145 rfl ?_
        obtain ⟨r1398, t1399, hc1400, hF⟩ := zbd_at hF
        refine z_callVi (ctX2_behindOf (E := E) (f := f - 1) (by omega) hc1400) yy_X2_behindOf yv_X2_behindOf ob_C_3 lk_RX1_153 (by omega) rfl rfl (Nat.le_of_ble_eq_true rfl) dX1_isGoodPlain_147 ?_
        obtain ⟨r1401, t1402, hc1403, hF⟩ := zbd_at hF
        refine z_callVi (ctX1_goOn (E := E) (f := f - 1) (by omega) hc1403) yy_X1_goOn yv_X1_goOn ob_C_6 lk_RX1_156 (by omega) rfl rfl (Nat.le_of_ble_eq_true rfl) dX1_isGoodPlain_150 ?_
        refine z_if_eq (tgt := 160) dX1_isGoodPlain_153 (by decide) (fun hc => ?_) (fun hc => ?_)
        · have hF := zif_t hc hF
          refine z_iconst (v := 0) dX1_isGoodPlain_160 (by decide) ?_
          exact z_zret hF (by decide) dX1_isGoodPlain_161
        · have hF := zif_f hc hF
          refine z_iconst (v := 1) dX1_isGoodPlain_156 (by decide) ?_
          refine z_goto (tgt := 161) dX1_isGoodPlain_157 (by decide) ?_
          exact z_zret hF (by decide) dX1_isGoodPlain_161
  have hF := zif_f hc hF
  have hn1404 := hc; clear hc
  by_cases hc : x2 = 3
  · have hF := zif_t hc hF
    refine z_tabIn (tgt := 162) dX1_isGoodPlain_93 (by rw [hc]; decide) (by rw [hc]; decide) (by rw [hc]; rfl) (by decide) ?_
    refine z_iload 2 dX1_isGoodPlain_162 rfl ?_
    refine z_iconst (v := 5) dX1_isGoodPlain_164 (by decide) ?_
    refine z_icmp_ne (tgt := 194) dX1_isGoodPlain_165 (by decide) (fun hc => ?_) (fun hc => ?_)
    · have hF := zif_f hc hF
      refine z_iconst (v := 0) dX1_isGoodPlain_194 (by decide) ?_
      exact z_zret hF (by decide) dX1_isGoodPlain_195
    · have hF := zif_t hc hF
      refine z_iload 1 dX1_isGoodPlain_168 rfl ?_
      refine z_if_ge (tgt := 194) dX1_isGoodPlain_170 (by decide) (fun hc => ?_) (fun hc => ?_)
      · have hF := zif_t hc hF
        refine z_iconst (v := 0) dX1_isGoodPlain_194 (by decide) ?_
        exact z_zret hF (by decide) dX1_isGoodPlain_195
      · have hF := zif_f hc hF
        refine z_aload_n 6 dX1_isGoodPlain_173 rfl rfl ?_
        refine z_iload_n 7 dX1_isGoodPlain_174 rfl rfl ?_
        refine z_aload_n 6 dX1_isGoodPlain_175 rfl rfl ?_
        refine z_getr fr_RX1_21 dX1_isGoodPlain_176 ?_
        refine z_iload 3 dX1_isGoodPlain_179 rfl ?_
        obtain ⟨r1405, t1406, hc1407, hF⟩ := zbd_at hF
        refine z_callVi (ctX2_behindOf (E := E) (f := f - 1) (by omega) hc1407) yy_X2_behindOf yv_X2_behindOf ob_C_3 lk_RX1_153 (by omega) rfl rfl (Nat.le_of_ble_eq_true rfl) dX1_isGoodPlain_181 ?_
        obtain ⟨r1408, t1409, hc1410, hF⟩ := zbd_at hF
        refine z_callVi (ctX1_goOn (E := E) (f := f - 1) (by omega) hc1410) yy_X1_goOn yv_X1_goOn ob_C_6 lk_RX1_156 (by omega) rfl rfl (Nat.le_of_ble_eq_true rfl) dX1_isGoodPlain_184 ?_
        refine z_if_eq (tgt := 194) dX1_isGoodPlain_187 (by decide) (fun hc => ?_) (fun hc => ?_)
        · have hF := zif_t hc hF
          refine z_iconst (v := 0) dX1_isGoodPlain_194 (by decide) ?_
          exact z_zret hF (by decide) dX1_isGoodPlain_195
        · have hF := zif_f hc hF
          refine z_iconst (v := 1) dX1_isGoodPlain_190 (by decide) ?_
          refine z_goto (tgt := 195) dX1_isGoodPlain_191 (by decide) ?_
          exact z_zret hF (by decide) dX1_isGoodPlain_195
  have hF := zif_f hc hF
  have hn1411 := hc; clear hc
  by_cases hc : x2 = 4
  · have hF := zif_t hc hF
    refine z_tabIn (tgt := 196) dX1_isGoodPlain_93 (by rw [hc]; decide) (by rw [hc]; decide) (by rw [hc]; rfl) (by decide) ?_
    refine z_iload 2 dX1_isGoodPlain_196 rfl ?_
    refine z_bipush (v := 6) dX1_isGoodPlain_198 (by decide) ?_
    refine z_icmp_ne (tgt := 235) dX1_isGoodPlain_200 (by decide) (fun hc => ?_) (fun hc => ?_)
    · have hF := zif_f hc hF
      refine z_iconst (v := 0) dX1_isGoodPlain_235 (by decide) ?_
      exact z_zret hF (by decide) dX1_isGoodPlain_236
    · have hF := zif_t hc hF
      refine z_iload_n 5 dX1_isGoodPlain_203 rfl rfl ?_
      refine z_iload 4 dX1_isGoodPlain_204 rfl ?_
      refine z_icmp_eq (tgt := 235) dX1_isGoodPlain_206 (by decide) (fun hc => ?_) (fun hc => ?_)
      · have hF := zif_t hc hF
        refine z_iconst (v := 0) dX1_isGoodPlain_235 (by decide) ?_
        exact z_zret hF (by decide) dX1_isGoodPlain_236
      · have hF := zif_f hc hF
        refine z_iload 1 dX1_isGoodPlain_209 rfl ?_
        refine z_if_lt (tgt := 235) dX1_isGoodPlain_211 (by decide) (fun hc => ?_) (fun hc => ?_)
        · have hF := zif_t hc hF
          refine z_iconst (v := 0) dX1_isGoodPlain_235 (by decide) ?_
          exact z_zret hF (by decide) dX1_isGoodPlain_236
        · have hF := zif_f hc hF
          refine z_aload_n 6 dX1_isGoodPlain_214 rfl rfl ?_
          refine z_getr fr_RX1_21 dX1_isGoodPlain_215 ?_
          refine z_iload 1 dX1_isGoodPlain_218 rfl ?_
          refine z_aload_n 6 dX1_isGoodPlain_220 rfl rfl ?_
          refine z_getr fr_RX1_21 dX1_isGoodPlain_221 ?_
          refine z_iload 3 dX1_isGoodPlain_224 rfl ?_
          obtain ⟨r1412, t1413, hc1414, hF⟩ := zbd_at hF
          refine z_callVi (ctX2_insideOf (E := E) (f := f - 1) (by omega) hc1414) yy_X2_insideOf yv_X2_insideOf ob_C_3 lk_RX1_159 (by omega) rfl rfl (Nat.le_of_ble_eq_true rfl) dX1_isGoodPlain_226 ?_
          obtain ⟨r1415, t1416, hc1417, hF⟩ := zbd_at hF
          refine z_callVi (ctX2_equal (E := E) (f := f - 1) (by omega) hc1417) yy_X2_equal yv_X2_equal ob_C_3 lk_RX1_92 (by omega) rfl rfl (Nat.le_of_ble_eq_true rfl) dX1_isGoodPlain_229 ?_
          refine z_if_ne (tgt := 237) dX1_isGoodPlain_232 (by decide) (fun hc => ?_) (fun hc => ?_)
          · have hF := zif_f hc hF
            refine z_aload_n 6 dX1_isGoodPlain_237 rfl rfl ?_
            refine z_getr fr_RX1_15 dX1_isGoodPlain_238 ?_
            refine z_iload 4 dX1_isGoodPlain_241 rfl ?_
            refine z_iconst (v := (-1)) dX1_isGoodPlain_243 (by decide) ?_
            obtain ⟨r1418, t1419, hc1420, hF⟩ := zbd_at hF
            refine z_callVv (ctX5_set (E := E) (sh := shC) (f := f - 1) (by omega) (k := 57) (n := 80000) rfl rfl hc1420) yy_X5_set yv_X5_set ob_C_57 lk_RX1_88 (by omega) rfl rfl (Nat.le_of_ble_eq_true rfl) dX1_isGoodPlain_244 ?_
            refine z_aload_n 6 dX1_isGoodPlain_247 rfl rfl ?_
            refine z_iload_n 7 dX1_isGoodPlain_248 rfl rfl ?_
            refine z_aload_n 6 dX1_isGoodPlain_249 rfl rfl ?_
            refine z_getr fr_RX1_21 dX1_isGoodPlain_250 ?_
            refine z_iload 3 dX1_isGoodPlain_253 rfl ?_
            obtain ⟨r1421, t1422, hc1423, hF⟩ := zbd_at hF
            refine z_callVi (ctX2_behindOf (E := E) (f := f - 1) (by omega) hc1423) yy_X2_behindOf yv_X2_behindOf ob_C_3 lk_RX1_153 (by omega) rfl rfl (Nat.le_of_ble_eq_true rfl) dX1_isGoodPlain_255 ?_
            obtain ⟨r1424, t1425, hc1426, hF⟩ := zbd_at hF
            refine z_callVi (ctX1_goOn (E := E) (f := f - 1) (by omega) hc1426) yy_X1_goOn yv_X1_goOn ob_C_6 lk_RX1_156 (by omega) rfl rfl (Nat.le_of_ble_eq_true rfl) dX1_isGoodPlain_258 ?_
            obtain ⟨hz1427, hF⟩ := z01_at hF
            exact z_zret hF hz1427 dX1_isGoodPlain_261
          · have hF := zif_t hc hF
            refine z_iconst (v := 0) dX1_isGoodPlain_235 (by decide) ?_
            exact z_zret hF (by decide) dX1_isGoodPlain_236
  have hF := zif_f hc hF
  have hn1428 := hc; clear hc
  by_cases hc : x2 = 5
  · have hF := zif_t hc hF
    refine z_tabIn (tgt := 262) dX1_isGoodPlain_93 (by rw [hc]; decide) (by rw [hc]; decide) (by rw [hc]; rfl) (by decide) ?_
    refine z_iload 2 dX1_isGoodPlain_262 rfl ?_
    refine z_bipush (v := 7) dX1_isGoodPlain_264 (by decide) ?_
    refine z_icmp_ne (tgt := 274) dX1_isGoodPlain_266 (by decide) (fun hc => ?_) (fun hc => ?_)
    · have hF := zif_f hc hF
      refine z_iconst (v := 0) dX1_isGoodPlain_274 (by decide) ?_
      exact z_zret hF (by decide) dX1_isGoodPlain_275
    · have hF := zif_t hc hF
      refine z_iload 1 dX1_isGoodPlain_269 rfl ?_
      refine z_if_lt (tgt := 276) dX1_isGoodPlain_271 (by decide) (fun hc => ?_) (fun hc => ?_)
      · have hF := zif_t hc hF
        refine z_aload_n 6 dX1_isGoodPlain_276 rfl rfl ?_
        refine z_iload 4 dX1_isGoodPlain_277 rfl ?_
        refine z_aload_n 6 dX1_isGoodPlain_279 rfl rfl ?_
        refine z_getr fr_RX1_21 dX1_isGoodPlain_280 ?_
        refine z_iload 3 dX1_isGoodPlain_283 rfl ?_
        obtain ⟨r1429, t1430, hc1431, hF⟩ := zbd_at hF
        refine z_callVi (ctX2_insideOf (E := E) (f := f - 1) (by omega) hc1431) yy_X2_insideOf yv_X2_insideOf ob_C_3 lk_RX1_159 (by omega) rfl rfl (Nat.le_of_ble_eq_true rfl) dX1_isGoodPlain_285 ?_
        obtain ⟨r1432, t1433, hc1434, hF⟩ := zbd_at hF
        refine z_callVi (ctX1_hold (E := E) (f := f - 1) (by omega) hc1434) yy_X1_hold yv_X1_hold ob_C_6 lk_RX1_63 (by omega) rfl rfl (Nat.le_of_ble_eq_true rfl) dX1_isGoodPlain_288 ?_
        refine z_pop dX1_isGoodPlain_291 rfl ?_
        refine z_aload_n 6 dX1_isGoodPlain_292 rfl rfl ?_
        refine z_iload_n 7 dX1_isGoodPlain_293 rfl rfl ?_
        refine z_aload_n 6 dX1_isGoodPlain_294 rfl rfl ?_
        refine z_getr fr_RX1_21 dX1_isGoodPlain_295 ?_
        refine z_iload 3 dX1_isGoodPlain_298 rfl ?_
        obtain ⟨r1435, t1436, hc1437, hF⟩ := zbd_at hF
        refine z_callVi (ctX2_behindOf (E := E) (f := f - 1) (by omega) hc1437) yy_X2_behindOf yv_X2_behindOf ob_C_3 lk_RX1_153 (by omega) rfl rfl (Nat.le_of_ble_eq_true rfl) dX1_isGoodPlain_300 ?_
        obtain ⟨r1438, t1439, hc1440, hF⟩ := zbd_at hF
        refine z_callVi (ctX1_goOn (E := E) (f := f - 1) (by omega) hc1440) yy_X1_goOn yv_X1_goOn ob_C_6 lk_RX1_156 (by omega) rfl rfl (Nat.le_of_ble_eq_true rfl) dX1_isGoodPlain_303 ?_
        obtain ⟨hz1441, hF⟩ := z01_at hF
        exact z_zret hF hz1441 dX1_isGoodPlain_306
      · have hF := zif_f hc hF
        refine z_iconst (v := 0) dX1_isGoodPlain_274 (by decide) ?_
        exact z_zret hF (by decide) dX1_isGoodPlain_275
  have hF := zif_f hc hF
  have hn1442 := hc; clear hc
  by_cases hc : x2 = 6
  · have hF := zif_t hc hF
    refine z_tabIn (tgt := 307) dX1_isGoodPlain_93 (by rw [hc]; decide) (by rw [hc]; decide) (by rw [hc]; rfl) (by decide) ?_
    refine z_iload 2 dX1_isGoodPlain_307 rfl ?_
    refine z_bipush (v := 8) dX1_isGoodPlain_309 (by decide) ?_
    refine z_icmp_ne (tgt := 337) dX1_isGoodPlain_311 (by decide) (fun hc => ?_) (fun hc => ?_)
    · have hF := zif_f hc hF
      refine z_iconst (v := 0) dX1_isGoodPlain_337 (by decide) ?_
      exact z_zret hF (by decide) dX1_isGoodPlain_338
    · have hF := zif_t hc hF
      refine z_aload_n 6 dX1_isGoodPlain_314 rfl rfl ?_
      refine z_iload_n 7 dX1_isGoodPlain_315 rfl rfl ?_
      refine z_aload_n 6 dX1_isGoodPlain_316 rfl rfl ?_
      refine z_getr fr_RX1_21 dX1_isGoodPlain_317 ?_
      refine z_iload 3 dX1_isGoodPlain_320 rfl ?_
      refine z_iload 4 dX1_isGoodPlain_322 rfl ?_
      obtain ⟨r1443, t1444, hc1445, hF⟩ := zbd_at hF
      refine z_callVi (ctX2_byLabel (E := E) (f := f - 1) (by omega) hc1445) yy_X2_byLabel yv_X2_byLabel ob_C_3 lk_RX1_162 (by omega) rfl rfl (Nat.le_of_ble_eq_true rfl) dX1_isGoodPlain_324 ?_
      obtain ⟨r1446, t1447, hc1448, hF⟩ := zbd_at hF
      refine z_callVi (ctX1_goOn (E := E) (f := f - 1) (by omega) hc1448) yy_X1_goOn yv_X1_goOn ob_C_6 lk_RX1_156 (by omega) rfl rfl (Nat.le_of_ble_eq_true rfl) dX1_isGoodPlain_327 ?_
      refine z_if_eq (tgt := 337) dX1_isGoodPlain_330 (by decide) (fun hc => ?_) (fun hc => ?_)
      · have hF := zif_t hc hF
        refine z_iconst (v := 0) dX1_isGoodPlain_337 (by decide) ?_
        exact z_zret hF (by decide) dX1_isGoodPlain_338
      · have hF := zif_f hc hF
        refine z_iconst (v := 1) dX1_isGoodPlain_333 (by decide) ?_
        refine z_goto (tgt := 338) dX1_isGoodPlain_334 (by decide) ?_
        exact z_zret hF (by decide) dX1_isGoodPlain_338
  have hF := zif_f hc hF
  have hn1449 := hc; clear hc
  have hO : (x2).toInt < 2 ∨ 6 < (x2).toInt := by
    have qhn1404 := lv_neT (a := 2) hn1404 (by decide)
    have qhn1411 := lv_neT (a := 3) hn1411 (by decide)
    have qhn1428 := lv_neT (a := 4) hn1428 (by decide)
    have qhn1442 := lv_neT (a := 5) hn1442 (by decide)
    have qhn1449 := lv_neT (a := 6) hn1449 (by decide)
    omega
  refine z_tabOut (tgt := 339) dX1_isGoodPlain_93 hO (by decide) ?_
  refine z_iload 3 dX1_isGoodPlain_339 rfl ?_
  refine z_if_ge (tgt := 353) dX1_isGoodPlain_341 (by decide) (fun hc => ?_) (fun hc => ?_)
  · have hF := zif_t hc hF
    refine z_iconst (v := 0) dX1_isGoodPlain_353 (by decide) ?_
    exact z_zret hF (by decide) dX1_isGoodPlain_354
  · have hF := zif_f hc hF
    refine z_iload 0 dX1_isGoodPlain_344 rfl ?_
    refine z_if_eq (tgt := 353) dX1_isGoodPlain_346 (by decide) (fun hc => ?_) (fun hc => ?_)
    · have hF := zif_t hc hF
      refine z_iconst (v := 0) dX1_isGoodPlain_353 (by decide) ?_
      exact z_zret hF (by decide) dX1_isGoodPlain_354
    · have hF := zif_f hc hF
      refine z_iconst (v := 1) dX1_isGoodPlain_349 (by decide) ?_
      refine z_goto (tgt := 354) dX1_isGoodPlain_350 (by decide) ?_
      exact z_zret hF (by decide) dX1_isGoodPlain_354
-- SessionHouse$Checker.fail(I)V
theorem dX1_fail_0 : decode cX1_fail 0 = .ok (.aload_n 0, 1) := by decide +kernel
theorem dX1_fail_1 : decode cX1_fail 1 = .ok (.aload_n 0, 1) := by decide +kernel
theorem dX1_fail_2 : decode cX1_fail 2 = .ok (.getfield 29, 3) := by decide +kernel
theorem dX1_fail_5 : decode cX1_fail 5 = .ok (.getfield 95, 3) := by decide +kernel
theorem dX1_fail_8 : decode cX1_fail 8 = .ok (.iload_n 1, 1) := by decide +kernel
theorem dX1_fail_9 : decode cX1_fail 9 = .ok (.invokevirtual 46, 3) := by decide +kernel
theorem dX1_fail_12 : decode cX1_fail 12 = .ok (.putfield 37, 3) := by decide +kernel
theorem dX1_fail_15 : decode cX1_fail 15 = .ok (.return_, 1) := by decide +kernel
def mX1_fail (x1 : Int32) (t : zS) : zR := zbd (mX5_get 88 1000 x1 t) fun r1450 t1451 => zpt t1451 6 6 r1450 fun t1453 => some (0, t1453)
set_option maxHeartbeats 4000000 in
set_option maxRecDepth 20000 in
theorem ctX1_fail {E : zE} {f : Nat} (hf : 2 ≤ f) {x1 : Int32} {t : zS} {ro : Int32 × zS} (hF : mX1_fail  x1 t = some ro) : zM E shC f yX1_fail cX1_fail 2 none [.ref (za E 6), .int x1] t ro := by
  refine zM_of (by decide) (Nat.le_of_ble_eq_true rfl) (fun C => ?_)
  show zJ E shC C cX1_fail RX1 2 f none ro t 0 [(0, .ref (za E 6)), (1, .int x1)] []
  unfold mX1_fail at hF
  refine z_aload_n 0 dX1_fail_0 rfl rfl ?_
  refine z_aload_n 0 dX1_fail_1 rfl rfl ?_
  refine z_getr fr_RX1_29 dX1_fail_2 ?_
  refine z_getr fr_RX1_95 dX1_fail_5 ?_
  refine z_iload_n 1 dX1_fail_8 rfl rfl ?_
  obtain ⟨r1450, t1451, hc1452, hF⟩ := zbd_at hF
  refine z_callVi (ctX5_get (E := E) (sh := shC) (f := f - 1) (by omega) (k := 88) (n := 1000) rfl rfl hc1452) yy_X5_get yv_X5_get ob_C_88 lk_RX1_46 (by omega) rfl rfl (Nat.le_of_ble_eq_true rfl) dX1_fail_9 ?_
  refine z_puti fw_RX1_37 dX1_fail_12 (fun t1453 et1453 => ?_)
  have hF := zpt_at hF t1453 et1453
  exact z_vret hF dX1_fail_15
-- SessionHouse$Ints.copy(III)V
theorem dX5_copy_0 : decode cX5_copy 0 = .ok (.iload_n 1, 1) := by decide +kernel
theorem dX5_copy_1 : decode cX5_copy 1 = .ok (.ifCond .lt 47, 3) := by decide +kernel
theorem dX5_copy_4 : decode cX5_copy 4 = .ok (.iload_n 2, 1) := by decide +kernel
theorem dX5_copy_5 : decode cX5_copy 5 = .ok (.ifCond .lt 43, 3) := by decide +kernel
theorem dX5_copy_8 : decode cX5_copy 8 = .ok (.iload_n 3, 1) := by decide +kernel
theorem dX5_copy_9 : decode cX5_copy 9 = .ok (.ifCond .lt 39, 3) := by decide +kernel
theorem dX5_copy_12 : decode cX5_copy 12 = .ok (.iload_n 1, 1) := by decide +kernel
theorem dX5_copy_13 : decode cX5_copy 13 = .ok (.aload_n 0, 1) := by decide +kernel
theorem dX5_copy_14 : decode cX5_copy 14 = .ok (.getfield 13, 3) := by decide +kernel
theorem dX5_copy_17 : decode cX5_copy 17 = .ok (.arraylength, 1) := by decide +kernel
theorem dX5_copy_18 : decode cX5_copy 18 = .ok (.iload_n 3, 1) := by decide +kernel
theorem dX5_copy_19 : decode cX5_copy 19 = .ok (.isub, 1) := by decide +kernel
theorem dX5_copy_20 : decode cX5_copy 20 = .ok (.if_icmp .gt 28, 3) := by decide +kernel
theorem dX5_copy_23 : decode cX5_copy 23 = .ok (.iload_n 2, 1) := by decide +kernel
theorem dX5_copy_24 : decode cX5_copy 24 = .ok (.aload_n 0, 1) := by decide +kernel
theorem dX5_copy_25 : decode cX5_copy 25 = .ok (.getfield 13, 3) := by decide +kernel
theorem dX5_copy_28 : decode cX5_copy 28 = .ok (.arraylength, 1) := by decide +kernel
theorem dX5_copy_29 : decode cX5_copy 29 = .ok (.iload_n 3, 1) := by decide +kernel
theorem dX5_copy_30 : decode cX5_copy 30 = .ok (.isub, 1) := by decide +kernel
theorem dX5_copy_31 : decode cX5_copy 31 = .ok (.if_icmp .gt 17, 3) := by decide +kernel
theorem dX5_copy_34 : decode cX5_copy 34 = .ok (.aload_n 0, 1) := by decide +kernel
theorem dX5_copy_35 : decode cX5_copy 35 = .ok (.getfield 13, 3) := by decide +kernel
theorem dX5_copy_38 : decode cX5_copy 38 = .ok (.iload_n 1, 1) := by decide +kernel
theorem dX5_copy_39 : decode cX5_copy 39 = .ok (.aload_n 0, 1) := by decide +kernel
theorem dX5_copy_40 : decode cX5_copy 40 = .ok (.getfield 13, 3) := by decide +kernel
theorem dX5_copy_43 : decode cX5_copy 43 = .ok (.iload_n 2, 1) := by decide +kernel
theorem dX5_copy_44 : decode cX5_copy 44 = .ok (.iload_n 3, 1) := by decide +kernel
theorem dX5_copy_45 : decode cX5_copy 45 = .ok (.invokestatic 19, 3) := by decide +kernel
theorem dX5_copy_48 : decode cX5_copy 48 = .ok (.return_, 1) := by decide +kernel
def mX5_copy (k n : Nat) (x1 : Int32) (x2 : Int32) (x3 : Int32) (t : zS) : zR := if x1 < 0 then some (0, t) else if x2 < 0 then some (0, t) else if x3 < 0 then some (0, t) else if ((Int32.ofNat n) - x3) < x1 then some (0, t) else if ((Int32.ofNat n) - x3) < x2 then some (0, t) else zac t (k + 1) n x1 x2 x3 fun t1454 => some (0, t1454)
set_option maxHeartbeats 4000000 in
set_option maxRecDepth 20000 in
theorem ctX5_copy {E : zE} {sh : zSh} {f : Nat} (hf : 1 ≤ f) {k n : Nat} (hI : sh[k]? = some (.inr (5, [some (k + 1)]))) (hA : sh[k + 1]? = some (.inl (0, n))) {x1 : Int32} {x2 : Int32} {x3 : Int32} {t : zS} {ro : Int32 × zS} (hF : mX5_copy k n x1 x2 x3 t = some ro) : zM E sh f yX5_copy cX5_copy 4 none [.ref (za E k), .int x1, .int x2, .int x3] t ro := by
  refine zM_of (by decide) (Nat.le_of_ble_eq_true rfl) (fun C => ?_)
  show zJ E sh C cX5_copy RX5 4 f none ro t 0 [(0, .ref (za E k)), (1, .int x1), (2, .int x2), (3, .int x3)] []
  unfold mX5_copy at hF
  refine z_iload_n 1 dX5_copy_0 rfl rfl ?_
  refine z_if_lt (tgt := 48) dX5_copy_1 (by decide) (fun hc => ?_) (fun hc => ?_)
  · have hF := zif_t hc hF
    exact z_vret hF dX5_copy_48
  · have hF := zif_f hc hF
    refine z_iload_n 2 dX5_copy_4 rfl rfl ?_
    refine z_if_lt (tgt := 48) dX5_copy_5 (by decide) (fun hc => ?_) (fun hc => ?_)
    · have hF := zif_t hc hF
      exact z_vret hF dX5_copy_48
    · have hF := zif_f hc hF
      refine z_iload_n 3 dX5_copy_8 rfl rfl ?_
      refine z_if_lt (tgt := 48) dX5_copy_9 (by decide) (fun hc => ?_) (fun hc => ?_)
      · have hF := zif_t hc hF
        exact z_vret hF dX5_copy_48
      · have hF := zif_f hc hF
        refine z_iload_n 1 dX5_copy_12 rfl rfl ?_
        refine z_aload_n 0 dX5_copy_13 rfl rfl ?_
        refine z_getr (zFr_ints hI) dX5_copy_14 ?_
        refine z_alen hA rfl rfl dX5_copy_17 ?_
        refine z_iload_n 3 dX5_copy_18 rfl rfl ?_
        refine z_isub dX5_copy_19 ?_
        refine z_icmp_gt (tgt := 48) dX5_copy_20 (by decide) (fun hc => ?_) (fun hc => ?_)
        · have hF := zif_t hc hF
          exact z_vret hF dX5_copy_48
        · have hF := zif_f hc hF
          refine z_iload_n 2 dX5_copy_23 rfl rfl ?_
          refine z_aload_n 0 dX5_copy_24 rfl rfl ?_
          refine z_getr (zFr_ints hI) dX5_copy_25 ?_
          refine z_alen hA rfl rfl dX5_copy_28 ?_
          refine z_iload_n 3 dX5_copy_29 rfl rfl ?_
          refine z_isub dX5_copy_30 ?_
          refine z_icmp_gt (tgt := 48) dX5_copy_31 (by decide) (fun hc => ?_) (fun hc => ?_)
          · have hF := zif_t hc hF
            exact z_vret hF dX5_copy_48
          · have hF := zif_f hc hF
            refine z_aload_n 0 dX5_copy_34 rfl rfl ?_
            refine z_getr (zFr_ints hI) dX5_copy_35 ?_
            refine z_iload_n 1 dX5_copy_38 rfl rfl ?_
            refine z_aload_n 0 dX5_copy_39 rfl rfl ?_
            refine z_getr (zFr_ints hI) dX5_copy_40 ?_
            refine z_iload_n 2 dX5_copy_43 rfl rfl ?_
            refine z_iload_n 3 dX5_copy_44 rfl rfl ?_
            obtain ⟨hi1455, hF⟩ := zac_at hF
            refine z_acopy (n := n) hA hi1455 lk_RX5_19 ac0 ac1 ac2 (by omega) (Nat.le_of_ble_eq_true rfl) dX5_copy_45 (fun t1454 et1454 => ?_)
            have hF := hF t1454 et1454
            exact z_vret hF dX5_copy_48
-- SessionHouse$Checker.isSame(I)Z
theorem dX1_isSame_0 : decode cX1_isSame 0 = .ok (.iconst 0, 1) := by decide +kernel
theorem dX1_isSame_1 : decode cX1_isSame 1 = .ok (.istore_n 2, 1) := by decide +kernel
theorem dX1_isSame_2 : decode cX1_isSame 2 = .ok (.iload_n 2, 1) := by decide +kernel
theorem dX1_isSame_3 : decode cX1_isSame 3 = .ok (.aload_n 0, 1) := by decide +kernel
theorem dX1_isSame_4 : decode cX1_isSame 4 = .ok (.getfield 50, 3) := by decide +kernel
theorem dX1_isSame_7 : decode cX1_isSame 7 = .ok (.if_icmp .ge 71, 3) := by decide +kernel
theorem dX1_isSame_10 : decode cX1_isSame 10 = .ok (.aload_n 0, 1) := by decide +kernel
theorem dX1_isSame_11 : decode cX1_isSame 11 = .ok (.getfield 15, 3) := by decide +kernel
theorem dX1_isSame_14 : decode cX1_isSame 14 = .ok (.iload_n 2, 1) := by decide +kernel
theorem dX1_isSame_15 : decode cX1_isSame 15 = .ok (.invokevirtual 46, 3) := by decide +kernel
theorem dX1_isSame_18 : decode cX1_isSame 18 = .ok (.istore_n 3, 1) := by decide +kernel
theorem dX1_isSame_19 : decode cX1_isSame 19 = .ok (.aload_n 0, 1) := by decide +kernel
theorem dX1_isSame_20 : decode cX1_isSame 20 = .ok (.getfield 15, 3) := by decide +kernel
theorem dX1_isSame_23 : decode cX1_isSame 23 = .ok (.iload_n 1, 1) := by decide +kernel
theorem dX1_isSame_24 : decode cX1_isSame 24 = .ok (.iload_n 2, 1) := by decide +kernel
theorem dX1_isSame_25 : decode cX1_isSame 25 = .ok (.iadd, 1) := by decide +kernel
theorem dX1_isSame_26 : decode cX1_isSame 26 = .ok (.invokevirtual 46, 3) := by decide +kernel
theorem dX1_isSame_29 : decode cX1_isSame 29 = .ok (.istore 4, 2) := by decide +kernel
theorem dX1_isSame_31 : decode cX1_isSame 31 = .ok (.iload_n 3, 1) := by decide +kernel
theorem dX1_isSame_32 : decode cX1_isSame 32 = .ok (.ifCond .ge 7, 3) := by decide +kernel
theorem dX1_isSame_35 : decode cX1_isSame 35 = .ok (.iconst 1, 1) := by decide +kernel
theorem dX1_isSame_36 : decode cX1_isSame 36 = .ok (.goto 4, 3) := by decide +kernel
theorem dX1_isSame_39 : decode cX1_isSame 39 = .ok (.iconst 0, 1) := by decide +kernel
theorem dX1_isSame_40 : decode cX1_isSame 40 = .ok (.iload 4, 2) := by decide +kernel
theorem dX1_isSame_42 : decode cX1_isSame 42 = .ok (.ifCond .ge 7, 3) := by decide +kernel
theorem dX1_isSame_45 : decode cX1_isSame 45 = .ok (.iconst 1, 1) := by decide +kernel
theorem dX1_isSame_46 : decode cX1_isSame 46 = .ok (.goto 4, 3) := by decide +kernel
theorem dX1_isSame_49 : decode cX1_isSame 49 = .ok (.iconst 0, 1) := by decide +kernel
theorem dX1_isSame_50 : decode cX1_isSame 50 = .ok (.if_icmp .ne 20, 3) := by decide +kernel
theorem dX1_isSame_53 : decode cX1_isSame 53 = .ok (.iload_n 3, 1) := by decide +kernel
theorem dX1_isSame_54 : decode cX1_isSame 54 = .ok (.ifCond .lt 18, 3) := by decide +kernel
theorem dX1_isSame_57 : decode cX1_isSame 57 = .ok (.aload_n 0, 1) := by decide +kernel
theorem dX1_isSame_58 : decode cX1_isSame 58 = .ok (.getfield 21, 3) := by decide +kernel
theorem dX1_isSame_61 : decode cX1_isSame 61 = .ok (.iload_n 3, 1) := by decide +kernel
theorem dX1_isSame_62 : decode cX1_isSame 62 = .ok (.iload 4, 2) := by decide +kernel
theorem dX1_isSame_64 : decode cX1_isSame 64 = .ok (.invokevirtual 92, 3) := by decide +kernel
theorem dX1_isSame_67 : decode cX1_isSame 67 = .ok (.ifCond .ne 5, 3) := by decide +kernel
theorem dX1_isSame_70 : decode cX1_isSame 70 = .ok (.iconst 0, 1) := by decide +kernel
theorem dX1_isSame_71 : decode cX1_isSame 71 = .ok (.ireturn, 1) := by decide +kernel
theorem dX1_isSame_72 : decode cX1_isSame 72 = .ok (.iinc 2 1, 3) := by decide +kernel
theorem dX1_isSame_75 : decode cX1_isSame 75 = .ok (.goto (-73), 3) := by decide +kernel
theorem dX1_isSame_78 : decode cX1_isSame 78 = .ok (.iconst 1, 1) := by decide +kernel
theorem dX1_isSame_79 : decode cX1_isSame 79 = .ok (.ireturn, 1) := by decide +kernel
def bX1_isSame_72 (k2 : Int32 → Int32 → zS → zR) (x1 : Int32) (x2 : Int32) (t : zS) : zR := zlet (x2 + 1) fun v1456 => k2 x1 v1456 t
def bX1_isSame_50 (k2 : Int32 → Int32 → zS → zR) (x1 : Int32) (x2 : Int32) (x3 : Int32) (x4 : Int32) (y0 : Int32) (y1 : Int32) (t : zS) : zR := if y1 = y0 then if x3 < 0 then bX1_isSame_72 k2 x1 x2 t else zbd (mX2_equal x3 x4 t) fun r1457 t1458 => if r1457 = 0 then some (0, t1458) else bX1_isSame_72 k2 x1 x2 t1458 else some (0, t)
def bX1_isSame_40 (k2 : Int32 → Int32 → zS → zR) (x1 : Int32) (x2 : Int32) (x3 : Int32) (x4 : Int32) (y0 : Int32) (t : zS) : zR := if 0 ≤ x4 then bX1_isSame_50 k2 x1 x2 x3 x4 0 y0 t else bX1_isSame_50 k2 x1 x2 x3 x4 1 y0 t
def bX1_isSame_2 (k2 : Int32 → Int32 → zS → zR) (x1 : Int32) (x2 : Int32) (t : zS) : zR := if (t 6 5) ≤ x2 then some (1, t) else zbd (mX5_get 57 80000 x2 t) fun r1460 t1461 => zbd (mX5_get 57 80000 (x1 + x2) t1461) fun r1463 t1464 => if 0 ≤ r1460 then bX1_isSame_40 k2 x1 x2 r1460 r1463 0 t1464 else bX1_isSame_40 k2 x1 x2 r1460 r1463 1 t1464
def lX1_isSame_2 : Nat → Int32 → Int32 → zS → zR
  | 0, _, _, _ => none
  | fu + 1, x1, x2, t => bX1_isSame_2 (lX1_isSame_2  fu) x1 x2 t
def mX1_isSame (x1 : Int32) (t : zS) : zR := lX1_isSame_2  zFU x1 0 t
set_option maxHeartbeats 4000000 in
set_option maxRecDepth 20000 in
theorem wbX1_isSame_72 {E : zE} {C : zC} {f : Nat} {ro : Int32 × zS} (hf : 5 ≤ f) (k2 : Int32 → Int32 → zS → zR) (hk2 : ∀ (x1 x2 : Int32) (t : zS), k2 x1 x2 t = some ro → zJ E shC C cX1_isSame RX1 5 f (some .boolean) ro t 2 [(0, .ref (za E 6)), (1, .int x1), (2, .int x2)] []) (x1 : Int32) (x2 : Int32) (t : zS) (hF : bX1_isSame_72 k2 x1 x2 t = some ro) : zJ E shC C cX1_isSame RX1 5 f (some .boolean) ro t 72 [(0, .ref (za E 6)), (1, .int x1), (2, .int x2)] [] := by
  unfold bX1_isSame_72 at hF
  obtain ⟨v1456, ev1456⟩ : ∃ y : Int32, y = (x2 + 1) := ⟨_, rfl⟩
  have hF := zlet_at ev1456 hF
  refine z_iinc (v := v1456) (lv' := [(2, .int v1456), (0, .ref (za E 6)), (1, .int x1)]) (k := 2) dX1_isSame_72 rfl (by rw [ev1456]; rfl) (by decide) rfl ?_
  refine z_goto (tgt := 2) dX1_isSame_75 (by decide) ?_
  refine z_sub [1, 2, 0] rfl ?_
  exact hk2 x1 v1456 _ hF
set_option maxHeartbeats 4000000 in
set_option maxRecDepth 20000 in
theorem wbX1_isSame_50 {E : zE} {C : zC} {f : Nat} {ro : Int32 × zS} (hf : 5 ≤ f) (k2 : Int32 → Int32 → zS → zR) (hk2 : ∀ (x1 x2 : Int32) (t : zS), k2 x1 x2 t = some ro → zJ E shC C cX1_isSame RX1 5 f (some .boolean) ro t 2 [(0, .ref (za E 6)), (1, .int x1), (2, .int x2)] []) (x1 : Int32) (x2 : Int32) (x3 : Int32) (x4 : Int32) (y0 : Int32) (y1 : Int32) (t : zS) (hF : bX1_isSame_50 k2 x1 x2 x3 x4 y0 y1 t = some ro) : zJ E shC C cX1_isSame RX1 5 f (some .boolean) ro t 50 [(0, .ref (za E 6)), (1, .int x1), (2, .int x2), (3, .int x3), (4, .int x4)] [.int y0, .int y1] := by
  unfold bX1_isSame_50 at hF
  refine z_icmp_ne (tgt := 70) dX1_isSame_50 (by decide) (fun hc => ?_) (fun hc => ?_)
  · have hF := zif_f hc hF
    refine z_iconst (v := 0) dX1_isSame_70 (by decide) ?_
    exact z_zret hF (by decide) dX1_isSame_71
  · have hF := zif_t hc hF
    refine z_iload_n 3 dX1_isSame_53 rfl rfl ?_
    refine z_if_lt (tgt := 72) dX1_isSame_54 (by decide) (fun hc => ?_) (fun hc => ?_)
    · have hF := zif_t hc hF
      refine z_sub [0, 1, 2] rfl ?_
      exact wbX1_isSame_72 hf k2 hk2 x1 x2 _ hF
    · have hF := zif_f hc hF
      refine z_aload_n 0 dX1_isSame_57 rfl rfl ?_
      refine z_getr fr_RX1_21 dX1_isSame_58 ?_
      refine z_iload_n 3 dX1_isSame_61 rfl rfl ?_
      refine z_iload 4 dX1_isSame_62 rfl ?_
      obtain ⟨r1457, t1458, hc1459, hF⟩ := zbd_at hF
      refine z_callVi (ctX2_equal (E := E) (f := f - 1) (by omega) hc1459) yy_X2_equal yv_X2_equal ob_C_3 lk_RX1_92 (by omega) rfl rfl (Nat.le_of_ble_eq_true rfl) dX1_isSame_64 ?_
      refine z_if_ne (tgt := 72) dX1_isSame_67 (by decide) (fun hc => ?_) (fun hc => ?_)
      · have hF := zif_f hc hF
        refine z_sub [0, 1, 2] rfl ?_
        exact wbX1_isSame_72 hf k2 hk2 x1 x2 _ hF
      · have hF := zif_t hc hF
        refine z_iconst (v := 0) dX1_isSame_70 (by decide) ?_
        exact z_zret hF (by decide) dX1_isSame_71
set_option maxHeartbeats 4000000 in
set_option maxRecDepth 20000 in
theorem wbX1_isSame_40 {E : zE} {C : zC} {f : Nat} {ro : Int32 × zS} (hf : 5 ≤ f) (k2 : Int32 → Int32 → zS → zR) (hk2 : ∀ (x1 x2 : Int32) (t : zS), k2 x1 x2 t = some ro → zJ E shC C cX1_isSame RX1 5 f (some .boolean) ro t 2 [(0, .ref (za E 6)), (1, .int x1), (2, .int x2)] []) (x1 : Int32) (x2 : Int32) (x3 : Int32) (x4 : Int32) (y0 : Int32) (t : zS) (hF : bX1_isSame_40 k2 x1 x2 x3 x4 y0 t = some ro) : zJ E shC C cX1_isSame RX1 5 f (some .boolean) ro t 40 [(0, .ref (za E 6)), (1, .int x1), (2, .int x2), (3, .int x3), (4, .int x4)] [.int y0] := by
  unfold bX1_isSame_40 at hF
  refine z_iload 4 dX1_isSame_40 rfl ?_
  refine z_if_ge (tgt := 49) dX1_isSame_42 (by decide) (fun hc => ?_) (fun hc => ?_)
  · have hF := zif_t hc hF
    refine z_iconst (v := 0) dX1_isSame_49 (by decide) ?_
    exact wbX1_isSame_50 hf k2 hk2 x1 x2 x3 x4 0 y0 _ hF
  · have hF := zif_f hc hF
    refine z_iconst (v := 1) dX1_isSame_45 (by decide) ?_
    refine z_goto (tgt := 50) dX1_isSame_46 (by decide) ?_
    exact wbX1_isSame_50 hf k2 hk2 x1 x2 x3 x4 1 y0 _ hF
set_option maxHeartbeats 4000000 in
set_option maxRecDepth 20000 in
theorem wbX1_isSame_2 {E : zE} {C : zC} {f : Nat} {ro : Int32 × zS} (hf : 5 ≤ f) (k2 : Int32 → Int32 → zS → zR) (hk2 : ∀ (x1 x2 : Int32) (t : zS), k2 x1 x2 t = some ro → zJ E shC C cX1_isSame RX1 5 f (some .boolean) ro t 2 [(0, .ref (za E 6)), (1, .int x1), (2, .int x2)] []) (x1 : Int32) (x2 : Int32) (t : zS) (hF : bX1_isSame_2 k2 x1 x2 t = some ro) : zJ E shC C cX1_isSame RX1 5 f (some .boolean) ro t 2 [(0, .ref (za E 6)), (1, .int x1), (2, .int x2)] [] := by
  unfold bX1_isSame_2 at hF
  refine z_iload_n 2 dX1_isSame_2 rfl rfl ?_
  refine z_aload_n 0 dX1_isSame_3 rfl rfl ?_
  refine z_geti fi_RX1_50 dX1_isSame_4 ?_
  refine z_icmp_ge (tgt := 78) dX1_isSame_7 (by decide) (fun hc => ?_) (fun hc => ?_)
  · have hF := zif_t hc hF
    refine z_iconst (v := 1) dX1_isSame_78 (by decide) ?_
    exact z_zret hF (by decide) dX1_isSame_79
  · have hF := zif_f hc hF
    refine z_aload_n 0 dX1_isSame_10 rfl rfl ?_
    refine z_getr fr_RX1_15 dX1_isSame_11 ?_
    refine z_iload_n 2 dX1_isSame_14 rfl rfl ?_
    obtain ⟨r1460, t1461, hc1462, hF⟩ := zbd_at hF
    refine z_callVi (ctX5_get (E := E) (sh := shC) (f := f - 1) (by omega) (k := 57) (n := 80000) rfl rfl hc1462) yy_X5_get yv_X5_get ob_C_57 lk_RX1_46 (by omega) rfl rfl (Nat.le_of_ble_eq_true rfl) dX1_isSame_15 ?_
    refine z_istore_n (lv' := [(3, .int r1460), (0, .ref (za E 6)), (1, .int x1), (2, .int x2)]) dX1_isSame_18 rfl (by decide) rfl ?_
    refine z_aload_n 1 dX1_isSame_19 rfl rfl ?_
    refine z_getr fr_RX1_15 dX1_isSame_20 ?_
    refine z_iload_n 2 dX1_isSame_23 rfl rfl ?_
    refine z_iload_n 3 dX1_isSame_24 rfl rfl ?_
    refine z_iadd dX1_isSame_25 ?_
    obtain ⟨r1463, t1464, hc1465, hF⟩ := zbd_at hF
    refine z_callVi (ctX5_get (E := E) (sh := shC) (f := f - 1) (by omega) (k := 57) (n := 80000) rfl rfl hc1465) yy_X5_get yv_X5_get ob_C_57 lk_RX1_46 (by omega) rfl rfl (Nat.le_of_ble_eq_true rfl) dX1_isSame_26 ?_
    refine z_istore (lv' := [(4, .int r1463), (3, .int r1460), (0, .ref (za E 6)), (1, .int x1), (2, .int x2)]) dX1_isSame_29 (by decide) rfl ?_
    refine z_iload_n 1 dX1_isSame_31 rfl rfl ?_
    refine z_if_ge (tgt := 39) dX1_isSame_32 (by decide) (fun hc => ?_) (fun hc => ?_)
    · have hF := zif_t hc hF
      refine z_iconst (v := 0) dX1_isSame_39 (by decide) ?_
      refine z_sub [2, 3, 4, 1, 0] rfl ?_
      exact wbX1_isSame_40 hf k2 hk2 x1 x2 r1460 r1463 0 _ hF
    · have hF := zif_f hc hF
      refine z_iconst (v := 1) dX1_isSame_35 (by decide) ?_
      refine z_goto (tgt := 40) dX1_isSame_36 (by decide) ?_
      refine z_sub [2, 3, 4, 1, 0] rfl ?_
      exact wbX1_isSame_40 hf k2 hk2 x1 x2 r1460 r1463 1 _ hF
set_option maxHeartbeats 4000000 in
set_option maxRecDepth 20000 in
theorem wlX1_isSame_2 {E : zE} {C : zC} {f : Nat} {ro : Int32 × zS} (hf : 5 ≤ f) (fu : Nat) : ∀ (x1 x2 : Int32) (t : zS), lX1_isSame_2  fu x1 x2 t = some ro → zJ E shC C cX1_isSame RX1 5 f (some .boolean) ro t 2 [(0, .ref (za E 6)), (1, .int x1), (2, .int x2)] [] := by
  induction fu with
  | zero => intro x1 x2 t hF; cases hF
  | succ fu ih => intro x1 x2 t hF; exact wbX1_isSame_2 hf (lX1_isSame_2  fu) ih x1 x2 t hF
set_option maxHeartbeats 4000000 in
set_option maxRecDepth 20000 in
theorem ctX1_isSame {E : zE} {f : Nat} (hf : 5 ≤ f) {x1 : Int32} {t : zS} {ro : Int32 × zS} (hF : mX1_isSame  x1 t = some ro) : zM E shC f yX1_isSame cX1_isSame 5 (some .boolean) [.ref (za E 6), .int x1] t ro := by
  refine zM_of (by decide) (Nat.le_of_ble_eq_true rfl) (fun C => ?_)
  show zJ E shC C cX1_isSame RX1 5 f (some .boolean) ro t 0 [(0, .ref (za E 6)), (1, .int x1)] []
  unfold mX1_isSame at hF
  refine z_iconst (v := 0) dX1_isSame_0 (by decide) ?_
  refine z_istore_n (lv' := [(2, .int 0), (0, .ref (za E 6)), (1, .int x1)]) dX1_isSame_1 rfl (by decide) rfl ?_
  refine z_sub [1, 2, 0] rfl ?_
  exact wlX1_isSame_2 hf  zFU x1 0 _ hF
