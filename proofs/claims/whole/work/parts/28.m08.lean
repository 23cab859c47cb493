-- SessionHouse$House.say(II)Z
theorem dX4_say_0 : decode cX4_say 0 = .ok (.aload_n 0, 1) := by decide +kernel
theorem dX4_say_1 : decode cX4_say 1 = .ok (.getfield 48, 3) := by decide +kernel
theorem dX4_say_4 : decode cX4_say 4 = .ok (.getfield 133, 3) := by decide +kernel
theorem dX4_say_7 : decode cX4_say 7 = .ok (.iload_n 2, 1) := by decide +kernel
theorem dX4_say_8 : decode cX4_say 8 = .ok (.invokevirtual 99, 3) := by decide +kernel
theorem dX4_say_11 : decode cX4_say 11 = .ok (.istore_n 3, 1) := by decide +kernel
theorem dX4_say_12 : decode cX4_say 12 = .ok (.aload_n 0, 1) := by decide +kernel
theorem dX4_say_13 : decode cX4_say 13 = .ok (.getfield 48, 3) := by decide +kernel
theorem dX4_say_16 : decode cX4_say 16 = .ok (.getfield 204, 3) := by decide +kernel
theorem dX4_say_19 : decode cX4_say 19 = .ok (.iload_n 2, 1) := by decide +kernel
theorem dX4_say_20 : decode cX4_say 20 = .ok (.invokevirtual 99, 3) := by decide +kernel
theorem dX4_say_23 : decode cX4_say 23 = .ok (.istore 4, 2) := by decide +kernel
theorem dX4_say_25 : decode cX4_say 25 = .ok (.aload_n 0, 1) := by decide +kernel
theorem dX4_say_26 : decode cX4_say 26 = .ok (.getfield 21, 3) := by decide +kernel
theorem dX4_say_29 : decode cX4_say 29 = .ok (.iload_n 1, 1) := by decide +kernel
theorem dX4_say_30 : decode cX4_say 30 = .ok (.aload_n 0, 1) := by decide +kernel
theorem dX4_say_31 : decode cX4_say 31 = .ok (.getfield 48, 3) := by decide +kernel
theorem dX4_say_34 : decode cX4_say 34 = .ok (.getfield 180, 3) := by decide +kernel
theorem dX4_say_37 : decode cX4_say 37 = .ok (.iload_n 2, 1) := by decide +kernel
theorem dX4_say_38 : decode cX4_say 38 = .ok (.invokevirtual 99, 3) := by decide +kernel
theorem dX4_say_41 : decode cX4_say 41 = .ok (.invokevirtual 189, 3) := by decide +kernel
theorem dX4_say_44 : decode cX4_say 44 = .ok (.iconst 1, 1) := by decide +kernel
theorem dX4_say_45 : decode cX4_say 45 = .ok (.ixor, 1) := by decide +kernel
theorem dX4_say_46 : decode cX4_say 46 = .ok (.istore 5, 2) := by decide +kernel
theorem dX4_say_48 : decode cX4_say 48 = .ok (.aload_n 0, 1) := by decide +kernel
theorem dX4_say_49 : decode cX4_say 49 = .ok (.getfield 12, 3) := by decide +kernel
theorem dX4_say_52 : decode cX4_say 52 = .ok (.iload 5, 2) := by decide +kernel
theorem dX4_say_54 : decode cX4_say 54 = .ok (.invokevirtual 207, 3) := by decide +kernel
theorem dX4_say_57 : decode cX4_say 57 = .ok (.ifCond .eq 5, 3) := by decide +kernel
theorem dX4_say_60 : decode cX4_say 60 = .ok (.iconst 0, 1) := by decide +kernel
theorem dX4_say_61 : decode cX4_say 61 = .ok (.ireturn, 1) := by decide +kernel
theorem dX4_say_62 : decode cX4_say 62 = .ok (.iload_n 3, 1) := by decide +kernel
theorem dX4_say_63 : decode cX4_say 63 = .ok (.bipush 6, 2) := by decide +kernel
theorem dX4_say_65 : decode cX4_say 65 = .ok (.if_icmp .ne 17, 3) := by decide +kernel
theorem dX4_say_68 : decode cX4_say 68 = .ok (.aload_n 0, 1) := by decide +kernel
theorem dX4_say_69 : decode cX4_say 69 = .ok (.getfield 12, 3) := by decide +kernel
theorem dX4_say_72 : decode cX4_say 72 = .ok (.iload 5, 2) := by decide +kernel
theorem dX4_say_74 : decode cX4_say 74 = .ok (.iload 4, 2) := by decide +kernel
theorem dX4_say_76 : decode cX4_say 76 = .ok (.invokevirtual 210, 3) := by decide +kernel
theorem dX4_say_79 : decode cX4_say 79 = .ok (.goto 89, 3) := by decide +kernel
theorem dX4_say_82 : decode cX4_say 82 = .ok (.iload_n 3, 1) := by decide +kernel
theorem dX4_say_83 : decode cX4_say 83 = .ok (.iconst 4, 1) := by decide +kernel
theorem dX4_say_84 : decode cX4_say 84 = .ok (.if_icmp .ne 36, 3) := by decide +kernel
theorem dX4_say_87 : decode cX4_say 87 = .ok (.aload_n 0, 1) := by decide +kernel
theorem dX4_say_88 : decode cX4_say 88 = .ok (.getfield 12, 3) := by decide +kernel
theorem dX4_say_91 : decode cX4_say 91 = .ok (.iload 5, 2) := by decide +kernel
theorem dX4_say_93 : decode cX4_say 93 = .ok (.aload_n 0, 1) := by decide +kernel
theorem dX4_say_94 : decode cX4_say 94 = .ok (.getfield 21, 3) := by decide +kernel
theorem dX4_say_97 : decode cX4_say 97 = .ok (.iload_n 1, 1) := by decide +kernel
theorem dX4_say_98 : decode cX4_say 98 = .ok (.iload 4, 2) := by decide +kernel
theorem dX4_say_100 : decode cX4_say 100 = .ok (.invokevirtual 189, 3) := by decide +kernel
theorem dX4_say_103 : decode cX4_say 103 = .ok (.invokevirtual 210, 3) := by decide +kernel
theorem dX4_say_106 : decode cX4_say 106 = .ok (.aload_n 0, 1) := by decide +kernel
theorem dX4_say_107 : decode cX4_say 107 = .ok (.getfield 21, 3) := by decide +kernel
theorem dX4_say_110 : decode cX4_say 110 = .ok (.iload_n 1, 1) := by decide +kernel
theorem dX4_say_111 : decode cX4_say 111 = .ok (.iload 4, 2) := by decide +kernel
theorem dX4_say_113 : decode cX4_say 113 = .ok (.iconst (-1), 1) := by decide +kernel
theorem dX4_say_114 : decode cX4_say 114 = .ok (.invokevirtual 200, 3) := by decide +kernel
theorem dX4_say_117 : decode cX4_say 117 = .ok (.goto 51, 3) := by decide +kernel
theorem dX4_say_120 : decode cX4_say 120 = .ok (.aload_n 0, 1) := by decide +kernel
theorem dX4_say_121 : decode cX4_say 121 = .ok (.iload_n 1, 1) := by decide +kernel
theorem dX4_say_122 : decode cX4_say 122 = .ok (.aload_n 0, 1) := by decide +kernel
theorem dX4_say_123 : decode cX4_say 123 = .ok (.getfield 48, 3) := by decide +kernel
theorem dX4_say_126 : decode cX4_say 126 = .ok (.getfield 213, 3) := by decide +kernel
theorem dX4_say_129 : decode cX4_say 129 = .ok (.iload_n 2, 1) := by decide +kernel
theorem dX4_say_130 : decode cX4_say 130 = .ok (.invokevirtual 99, 3) := by decide +kernel
theorem dX4_say_133 : decode cX4_say 133 = .ok (.aload_n 0, 1) := by decide +kernel
theorem dX4_say_134 : decode cX4_say 134 = .ok (.getfield 48, 3) := by decide +kernel
theorem dX4_say_137 : decode cX4_say 137 = .ok (.getfield 216, 3) := by decide +kernel
theorem dX4_say_140 : decode cX4_say 140 = .ok (.iload_n 2, 1) := by decide +kernel
theorem dX4_say_141 : decode cX4_say 141 = .ok (.invokevirtual 99, 3) := by decide +kernel
theorem dX4_say_144 : decode cX4_say 144 = .ok (.invokevirtual 219, 3) := by decide +kernel
theorem dX4_say_147 : decode cX4_say 147 = .ok (.ifCond .ne 5, 3) := by decide +kernel
theorem dX4_say_150 : decode cX4_say 150 = .ok (.iconst 0, 1) := by decide +kernel
theorem dX4_say_151 : decode cX4_say 151 = .ok (.ireturn, 1) := by decide +kernel
theorem dX4_say_152 : decode cX4_say 152 = .ok (.aload_n 0, 1) := by decide +kernel
theorem dX4_say_153 : decode cX4_say 153 = .ok (.getfield 12, 3) := by decide +kernel
theorem dX4_say_156 : decode cX4_say 156 = .ok (.iload 5, 2) := by decide +kernel
theorem dX4_say_158 : decode cX4_say 158 = .ok (.aload_n 0, 1) := by decide +kernel
theorem dX4_say_159 : decode cX4_say 159 = .ok (.getfield 44, 3) := by decide +kernel
theorem dX4_say_162 : decode cX4_say 162 = .ok (.getfield 222, 3) := by decide +kernel
theorem dX4_say_165 : decode cX4_say 165 = .ok (.invokevirtual 210, 3) := by decide +kernel
theorem dX4_say_168 : decode cX4_say 168 = .ok (.aload_n 0, 1) := by decide +kernel
theorem dX4_say_169 : decode cX4_say 169 = .ok (.iload_n 1, 1) := by decide +kernel
theorem dX4_say_170 : decode cX4_say 170 = .ok (.iload_n 2, 1) := by decide +kernel
theorem dX4_say_171 : decode cX4_say 171 = .ok (.invokevirtual 225, 3) := by decide +kernel
theorem dX4_say_174 : decode cX4_say 174 = .ok (.ireturn, 1) := by decide +kernel
def bX4_say_168 (x1 : Int32) (x2 : Int32) (t : zS) : zR := zbd (mX4_goOn x1 x2 t) fun r1918 t1919 => z01 r1918 (some (r1918, t1919))
def mX4_say (x1 : Int32) (x2 : Int32) (t : zS) : zR := zbd (mX5_get 86 1000 x2 t) fun r1922 t1923 => zbd (mX5_get 92 1000 x2 t1923) fun r1925 t1926 => zbd (mX5_get 90 1000 x2 t1926) fun r1928 t1929 => zbd (mX8_channel x1 r1928 t1929) fun r1931 t1932 => zlet (r1931 ^^^ 1) fun v1934 => zbd (mX0_isFull v1934 t1932) fun r1935 t1936 => if r1935 = 0 then if r1922 = 6 then zbd (mX0_add v1934 r1925 t1936) fun r1959 t1960 => bX4_say_168  x1 x2 t1960 else if r1922 = 4 then zbd (mX8_channel x1 r1925 t1936) fun r1950 t1951 => zbd (mX0_add v1934 r1950 t1951) fun r1953 t1954 => zbd (mX8_setChannel x1 r1925 (-1) t1954) fun r1956 t1957 => bX4_say_168  x1 x2 t1957 else zbd (mX5_get 94 1000 x2 t1936) fun r1938 t1939 => zbd (mX5_get 96 1000 x2 t1939) fun r1941 t1942 => zbd (mX4_work x1 r1938 r1941 t1942) fun r1944 t1945 => if r1944 = 0 then some (0, t1945) else zbd (mX0_add v1934 (t1945 51 8) t1945) fun r1947 t1948 => bX4_say_168  x1 x2 t1948 else some (0, t1936)
set_option maxHeartbeats 4000000 in
set_option maxRecDepth 20000 in
theorem wbX4_say_168 {E : zE} {C : zC} {f : Nat} {ro : Int32 × zS} (hf : 5 ≤ f) (x1 : Int32) (x2 : Int32) (t : zS) (hF : bX4_say_168  x1 x2 t = some ro) : zJ E shC C cX4_say RX4 6 f (some .boolean) ro t 168 [(0, .ref (za E 7)), (1, .int x1), (2, .int x2)] [] := by
  unfold bX4_say_168 at hF
  refine z_aload_n 0 dX4_say_168 rfl rfl ?_
  refine z_iload_n 1 dX4_say_169 rfl rfl ?_
  refine z_iload_n 2 dX4_say_170 rfl rfl ?_
  obtain ⟨r1918, t1919, hc1920, hF⟩ := zbd_at hF
  refine z_callVi (ctX4_goOn (E := E) (f := f - 1) (by omega) hc1920) yy_X4_goOn yv_X4_goOn ob_C_7 lk_RX4_225 (by omega) rfl rfl (Nat.le_of_ble_eq_true rfl) dX4_say_171 ?_
  obtain ⟨hz1921, hF⟩ := z01_at hF
  exact z_zret hF hz1921 dX4_say_174
set_option maxHeartbeats 4000000 in
set_option maxRecDepth 20000 in
theorem ctX4_say {E : zE} {f : Nat} (hf : 5 ≤ f) {x1 : Int32} {x2 : Int32} {t : zS} {ro : Int32 × zS} (hF : mX4_say  x1 x2 t = some ro) : zM E shC f yX4_say cX4_say 6 (some .boolean) [.ref (za E 7), .int x1, .int x2] t ro := by
  refine zM_of (by decide) (Nat.le_of_ble_eq_true rfl) (fun C => ?_)
  show zJ E shC C cX4_say RX4 6 f (some .boolean) ro t 0 [(0, .ref (za E 7)), (1, .int x1), (2, .int x2)] []
  unfold mX4_say at hF
  refine z_aload_n 0 dX4_say_0 rfl rfl ?_
  refine z_getr fr_RX4_48 dX4_say_1 ?_
  refine z_getr fr_RX4_133 dX4_say_4 ?_
  refine z_iload_n 2 dX4_say_7 rfl rfl ?_
  obtain ⟨r1922, t1923, hc1924, hF⟩ := zbd_at hF
  refine z_callVi (ctX5_get (E := E) (sh := shC) (f := f - 1) (by omega) (k := 86) (n := 1000) rfl rfl hc1924) yy_X5_get yv_X5_get ob_C_86 lk_RX4_99 (by omega) rfl rfl (Nat.le_of_ble_eq_true rfl) dX4_say_8 ?_
  refine z_istore_n (lv' := [(3, .int r1922), (0, .ref (za E 7)), (1, .int x1), (2, .int x2)]) dX4_say_11 rfl (by decide) rfl ?_
  refine z_aload_n 1 dX4_say_12 rfl rfl ?_
  refine z_getr fr_RX4_48 dX4_say_13 ?_
  refine z_getr fr_RX4_204 dX4_say_16 ?_
  refine z_iload_n 3 dX4_say_19 rfl rfl ?_
  obtain ⟨r1925, t1926, hc1927, hF⟩ := zbd_at hF
  refine z_callVi (ctX5_get (E := E) (sh := shC) (f := f - 1) (by omega) (k := 92) (n := 1000) rfl rfl hc1927) yy_X5_get yv_X5_get ob_C_92 lk_RX4_99 (by omega) rfl rfl (Nat.le_of_ble_eq_true rfl) dX4_say_20 ?_
  refine z_istore (lv' := [(4, .int r1925), (3, .int r1922), (0, .ref (za E 7)), (1, .int x1), (2, .int x2)]) dX4_say_23 (by decide) rfl ?_
  refine z_aload_n 2 dX4_say_25 rfl rfl ?_
  refine z_getr fr_RX4_21 dX4_say_26 ?_
  refine z_iload_n 3 dX4_say_29 rfl rfl ?_
  refine z_aload_n 2 dX4_say_30 rfl rfl ?_
  refine z_getr fr_RX4_48 dX4_say_31 ?_
  refine z_getr fr_RX4_180 dX4_say_34 ?_
  refine z_iload_n 4 dX4_say_37 rfl rfl ?_
  obtain ⟨r1928, t1929, hc1930, hF⟩ := zbd_at hF
  refine z_callVi (ctX5_get (E := E) (sh := shC) (f := f - 1) (by omega) (k := 90) (n := 1000) rfl rfl hc1930) yy_X5_get yv_X5_get ob_C_90 lk_RX4_99 (by omega) rfl rfl (Nat.le_of_ble_eq_true rfl) dX4_say_38 ?_
  obtain ⟨r1931, t1932, hc1933, hF⟩ := zbd_at hF
  refine z_callVi (ctX8_channel (E := E) (f := f - 1) (by omega) hc1933) yy_X8_channel yv_X8_channel ob_C_60 lk_RX4_189 (by omega) rfl rfl (Nat.le_of_ble_eq_true rfl) dX4_say_41 ?_
  refine z_iconst (v := 1) dX4_say_44 (by decide) ?_
  refine z_ixor dX4_say_45 ?_
  refine z_topi (fun v1934 ev1934 => ?_)
  have hF := zlet_at ev1934 hF
  refine z_istore (lv' := [(5, .int v1934), (4, .int r1925), (3, .int r1922), (0, .ref (za E 7)), (1, .int x1), (2, .int x2)]) dX4_say_46 (by decide) rfl ?_
  refine z_aload_n 3 dX4_say_48 rfl rfl ?_
  refine z_getr fr_RX4_12 dX4_say_49 ?_
  refine z_iload 0 dX4_say_52 rfl ?_
  obtain ⟨r1935, t1936, hc1937, hF⟩ := zbd_at hF
  refine z_callVi (ctX0_isFull (E := E) (f := f - 1) (by omega) hc1937) yy_X0_isFull yv_X0_isFull ob_C_59 lk_RX4_207 (by omega) rfl rfl (Nat.le_of_ble_eq_true rfl) dX4_say_54 ?_
  refine z_if_eq (tgt := 62) dX4_say_57 (by decide) (fun hc => ?_) (fun hc => ?_)
  · have hF := zif_t hc hF
    refine z_iload_n 2 dX4_say_62 rfl rfl ?_
    refine z_bipush (v := 6) dX4_say_63 (by decide) ?_
    refine z_icmp_ne (tgt := 82) dX4_say_65 (by decide) (fun hc => ?_) (fun hc => ?_)
    · have hF := zif_f hc hF
      refine z_iload_n 2 dX4_say_82 rfl rfl ?_
      refine z_iconst (v := 4) dX4_say_83 (by decide) ?_
      refine z_icmp_ne (tgt := 120) dX4_say_84 (by decide) (fun hc => ?_) (fun hc => ?_)
      · have hF := zif_f hc hF
        refine z_aload_n 3 dX4_say_120 rfl rfl ?_
        refine z_iload_n 4 dX4_say_121 rfl rfl ?_
        refine z_aload_n 3 dX4_say_122 rfl rfl ?_
        refine z_getr fr_RX4_48 dX4_say_123 ?_
        refine z_getr fr_RX4_213 dX4_say_126 ?_
        refine z_iload_n 5 dX4_say_129 rfl rfl ?_
        obtain ⟨r1938, t1939, hc1940, hF⟩ := zbd_at hF
        refine z_callVi (ctX5_get (E := E) (sh := shC) (f := f - 1) (by omega) (k := 94) (n := 1000) rfl rfl hc1940) yy_X5_get yv_X5_get ob_C_94 lk_RX4_99 (by omega) rfl rfl (Nat.le_of_ble_eq_true rfl) dX4_say_130 ?_
        refine z_aload_n 3 dX4_say_133 rfl rfl ?_
        refine z_getr fr_RX4_48 dX4_say_134 ?_
        refine z_getr fr_RX4_216 dX4_say_137 ?_
        refine z_iload_n 5 dX4_say_140 rfl rfl ?_
        obtain ⟨r1941, t1942, hc1943, hF⟩ := zbd_at hF
        refine z_callVi (ctX5_get (E := E) (sh := shC) (f := f - 1) (by omega) (k := 96) (n := 1000) rfl rfl hc1943) yy_X5_get yv_X5_get ob_C_96 lk_RX4_99 (by omega) rfl rfl (Nat.le_of_ble_eq_true rfl) dX4_say_141 ?_
        obtain ⟨r1944, t1945, hc1946, hF⟩ := zbd_at hF
        refine z_callVi (ctX4_work (E := E) (f := f - 1) (by omega) hc1946) yy_X4_work yv_X4_work ob_C_7 lk_RX4_219 (by omega) rfl rfl (Nat.le_of_ble_eq_true rfl) dX4_say_144 ?_
        refine z_if_ne (tgt := 152) dX4_say_147 (by decide) (fun hc => ?_) (fun hc => ?_)
        · have hF := zif_f hc hF
          refine z_aload_n 3 dX4_say_152 rfl rfl ?_
          refine z_getr fr_RX4_12 dX4_say_153 ?_
          refine z_iload 0 dX4_say_156 rfl ?_
          refine z_aload_n 3 dX4_say_158 rfl rfl ?_
          refine z_getr fr_RX4_44 dX4_say_159 ?_
          refine z_geti fi_RX4_222 dX4_say_162 ?_
          obtain ⟨r1947, t1948, hc1949, hF⟩ := zbd_at hF
          refine z_callVv (ctX0_add (E := E) (f := f - 1) (by omega) hc1949) yy_X0_add yv_X0_add ob_C_59 lk_RX4_210 (by omega) rfl rfl (Nat.le_of_ble_eq_true rfl) dX4_say_165 ?_
          refine z_sub [3, 4, 5] rfl ?_
          exact wbX4_say_168 hf  x1 x2 _ hF
        · have hF := zif_t hc hF
          refine z_iconst (v := 0) dX4_say_150 (by decide) ?_
          exact z_zret hF (by decide) dX4_say_151
      · have hF := zif_t hc hF
        refine z_aload_n 3 dX4_say_87 rfl rfl ?_
        refine z_getr fr_RX4_12 dX4_say_88 ?_
        refine z_iload 0 dX4_say_91 rfl ?_
        refine z_aload_n 3 dX4_say_93 rfl rfl ?_
        refine z_getr fr_RX4_21 dX4_say_94 ?_
        refine z_iload_n 4 dX4_say_97 rfl rfl ?_
        refine z_iload 1 dX4_say_98 rfl ?_
        obtain ⟨r1950, t1951, hc1952, hF⟩ := zbd_at hF
        refine z_callVi (ctX8_channel (E := E) (f := f - 1) (by omega) hc1952) yy_X8_channel yv_X8_channel ob_C_60 lk_RX4_189 (by omega) rfl rfl (Nat.le_of_ble_eq_true rfl) dX4_say_100 ?_
        obtain ⟨r1953, t1954, hc1955, hF⟩ := zbd_at hF
        refine z_callVv (ctX0_add (E := E) (f := f - 1) (by omega) hc1955) yy_X0_add yv_X0_add ob_C_59 lk_RX4_210 (by omega) rfl rfl (Nat.le_of_ble_eq_true rfl) dX4_say_103 ?_
        refine z_aload_n 3 dX4_say_106 rfl rfl ?_
        refine z_getr fr_RX4_21 dX4_say_107 ?_
        refine z_iload_n 4 dX4_say_110 rfl rfl ?_
        refine z_iload 1 dX4_say_111 rfl ?_
        refine z_iconst (v := (-1)) dX4_say_113 (by decide) ?_
        obtain ⟨r1956, t1957, hc1958, hF⟩ := zbd_at hF
        refine z_callVv (ctX8_setChannel (E := E) (f := f - 1) (by omega) hc1958) yy_X8_setChannel yv_X8_setChannel ob_C_60 lk_RX4_200 (by omega) rfl rfl (Nat.le_of_ble_eq_true rfl) dX4_say_114 ?_
        refine z_goto (tgt := 168) dX4_say_117 (by decide) ?_
        refine z_sub [3, 4, 5] rfl ?_
        exact wbX4_say_168 hf  x1 x2 _ hF
    · have hF := zif_t hc hF
      refine z_aload_n 3 dX4_say_68 rfl rfl ?_
      refine z_getr fr_RX4_12 dX4_say_69 ?_
      refine z_iload 0 dX4_say_72 rfl ?_
      refine z_iload 1 dX4_say_74 rfl ?_
      obtain ⟨r1959, t1960, hc1961, hF⟩ := zbd_at hF
      refine z_callVv (ctX0_add (E := E) (f := f - 1) (by omega) hc1961) yy_X0_add yv_X0_add ob_C_59 lk_RX4_210 (by omega) rfl rfl (Nat.le_of_ble_eq_true rfl) dX4_say_76 ?_
      refine z_goto (tgt := 168) dX4_say_79 (by decide) ?_
      refine z_sub [3, 4, 5] rfl ?_
      exact wbX4_say_168 hf  x1 x2 _ hF
  · have hF := zif_f hc hF
    refine z_iconst (v := 0) dX4_say_60 (by decide) ?_
    exact z_zret hF (by decide) dX4_say_61
-- SessionHouse$Channels.isEmpty(I)Z
theorem dX0_isEmpty_0 : decode cX0_isEmpty 0 = .ok (.aload_n 0, 1) := by decide +kernel
theorem dX0_isEmpty_1 : decode cX0_isEmpty 1 = .ok (.getfield 23, 3) := by decide +kernel
theorem dX0_isEmpty_4 : decode cX0_isEmpty 4 = .ok (.iload_n 1, 1) := by decide +kernel
theorem dX0_isEmpty_5 : decode cX0_isEmpty 5 = .ok (.invokevirtual 48, 3) := by decide +kernel
theorem dX0_isEmpty_8 : decode cX0_isEmpty 8 = .ok (.ifCond .gt 7, 3) := by decide +kernel
theorem dX0_isEmpty_11 : decode cX0_isEmpty 11 = .ok (.iconst 1, 1) := by decide +kernel
theorem dX0_isEmpty_12 : decode cX0_isEmpty 12 = .ok (.goto 4, 3) := by decide +kernel
theorem dX0_isEmpty_15 : decode cX0_isEmpty 15 = .ok (.iconst 0, 1) := by decide +kernel
theorem dX0_isEmpty_16 : decode cX0_isEmpty 16 = .ok (.ireturn, 1) := by decide +kernel
def mX0_isEmpty (x1 : Int32) (t : zS) : zR := zbd (mX5_get 120 3336 x1 t) fun r1962 t1963 => if 0 < r1962 then some (0, t1963) else some (1, t1963)
set_option maxHeartbeats 4000000 in
set_option maxRecDepth 20000 in
theorem ctX0_isEmpty {E : zE} {f : Nat} (hf : 2 ≤ f) {x1 : Int32} {t : zS} {ro : Int32 × zS} (hF : mX0_isEmpty  x1 t = some ro) : zM E shC f yX0_isEmpty cX0_isEmpty 2 (some .boolean) [.ref (za E 59), .int x1] t ro := by
  refine zM_of (by decide) (Nat.le_of_ble_eq_true rfl) (fun C => ?_)
  show zJ E shC C cX0_isEmpty RX0 2 f (some .boolean) ro t 0 [(0, .ref (za E 59)), (1, .int x1)] []
  unfold mX0_isEmpty at hF
  refine z_aload_n 0 dX0_isEmpty_0 rfl rfl ?_
  refine z_getr fr_RX0_23 dX0_isEmpty_1 ?_
  refine z_iload_n 1 dX0_isEmpty_4 rfl rfl ?_
  obtain ⟨r1962, t1963, hc1964, hF⟩ := zbd_at hF
  refine z_callVi (ctX5_get (E := E) (sh := shC) (f := f - 1) (by omega) (k := 120) (n := 3336) rfl rfl hc1964) yy_X5_get yv_X5_get ob_C_120 lk_RX0_48 (by omega) rfl rfl (Nat.le_of_ble_eq_true rfl) dX0_isEmpty_5 ?_
  refine z_if_gt (tgt := 15) dX0_isEmpty_8 (by decide) (fun hc => ?_) (fun hc => ?_)
  · have hF := zif_t hc hF
    refine z_iconst (v := 0) dX0_isEmpty_15 (by decide) ?_
    exact z_zret hF (by decide) dX0_isEmpty_16
  · have hF := zif_f hc hF
    refine z_iconst (v := 1) dX0_isEmpty_11 (by decide) ?_
    refine z_goto (tgt := 16) dX0_isEmpty_12 (by decide) ?_
    exact z_zret hF (by decide) dX0_isEmpty_16
-- SessionHouse$Channels.remove(I)I
theorem dX0_remove_0 : decode cX0_remove 0 = .ok (.aload_n 0, 1) := by decide +kernel
theorem dX0_remove_1 : decode cX0_remove 1 = .ok (.getfield 20, 3) := by decide +kernel
theorem dX0_remove_4 : decode cX0_remove 4 = .ok (.iload_n 1, 1) := by decide +kernel
theorem dX0_remove_5 : decode cX0_remove 5 = .ok (.invokevirtual 48, 3) := by decide +kernel
theorem dX0_remove_8 : decode cX0_remove 8 = .ok (.istore_n 2, 1) := by decide +kernel
theorem dX0_remove_9 : decode cX0_remove 9 = .ok (.aload_n 0, 1) := by decide +kernel
theorem dX0_remove_10 : decode cX0_remove 10 = .ok (.getfield 20, 3) := by decide +kernel
theorem dX0_remove_13 : decode cX0_remove 13 = .ok (.iload_n 1, 1) := by decide +kernel
theorem dX0_remove_14 : decode cX0_remove 14 = .ok (.iload_n 2, 1) := by decide +kernel
theorem dX0_remove_15 : decode cX0_remove 15 = .ok (.iconst 1, 1) := by decide +kernel
theorem dX0_remove_16 : decode cX0_remove 16 = .ok (.iadd, 1) := by decide +kernel
theorem dX0_remove_17 : decode cX0_remove 17 = .ok (.aload_n 0, 1) := by decide +kernel
theorem dX0_remove_18 : decode cX0_remove 18 = .ok (.getfield 32, 3) := by decide +kernel
theorem dX0_remove_21 : decode cX0_remove 21 = .ok (.if_icmp .lt 7, 3) := by decide +kernel
theorem dX0_remove_24 : decode cX0_remove 24 = .ok (.iconst 0, 1) := by decide +kernel
theorem dX0_remove_25 : decode cX0_remove 25 = .ok (.goto 6, 3) := by decide +kernel
theorem dX0_remove_28 : decode cX0_remove 28 = .ok (.iload_n 2, 1) := by decide +kernel
theorem dX0_remove_29 : decode cX0_remove 29 = .ok (.iconst 1, 1) := by decide +kernel
theorem dX0_remove_30 : decode cX0_remove 30 = .ok (.iadd, 1) := by decide +kernel
theorem dX0_remove_31 : decode cX0_remove 31 = .ok (.invokevirtual 52, 3) := by decide +kernel
theorem dX0_remove_34 : decode cX0_remove 34 = .ok (.aload_n 0, 1) := by decide +kernel
theorem dX0_remove_35 : decode cX0_remove 35 = .ok (.getfield 23, 3) := by decide +kernel
theorem dX0_remove_38 : decode cX0_remove 38 = .ok (.iload_n 1, 1) := by decide +kernel
theorem dX0_remove_39 : decode cX0_remove 39 = .ok (.aload_n 0, 1) := by decide +kernel
theorem dX0_remove_40 : decode cX0_remove 40 = .ok (.getfield 23, 3) := by decide +kernel
theorem dX0_remove_43 : decode cX0_remove 43 = .ok (.iload_n 1, 1) := by decide +kernel
theorem dX0_remove_44 : decode cX0_remove 44 = .ok (.invokevirtual 48, 3) := by decide +kernel
theorem dX0_remove_47 : decode cX0_remove 47 = .ok (.iconst 1, 1) := by decide +kernel
theorem dX0_remove_48 : decode cX0_remove 48 = .ok (.isub, 1) := by decide +kernel
theorem dX0_remove_49 : decode cX0_remove 49 = .ok (.invokevirtual 52, 3) := by decide +kernel
theorem dX0_remove_52 : decode cX0_remove 52 = .ok (.aload_n 0, 1) := by decide +kernel
theorem dX0_remove_53 : decode cX0_remove 53 = .ok (.dup, 1) := by decide +kernel
theorem dX0_remove_54 : decode cX0_remove 54 = .ok (.getfield 45, 3) := by decide +kernel
theorem dX0_remove_57 : decode cX0_remove 57 = .ok (.iconst 1, 1) := by decide +kernel
theorem dX0_remove_58 : decode cX0_remove 58 = .ok (.isub, 1) := by decide +kernel
theorem dX0_remove_59 : decode cX0_remove 59 = .ok (.putfield 45, 3) := by decide +kernel
theorem dX0_remove_62 : decode cX0_remove 62 = .ok (.aload_n 0, 1) := by decide +kernel
theorem dX0_remove_63 : decode cX0_remove 63 = .ok (.getfield 14, 3) := by decide +kernel
theorem dX0_remove_66 : decode cX0_remove 66 = .ok (.iload_n 1, 1) := by decide +kernel
theorem dX0_remove_67 : decode cX0_remove 67 = .ok (.aload_n 0, 1) := by decide +kernel
theorem dX0_remove_68 : decode cX0_remove 68 = .ok (.getfield 32, 3) := by decide +kernel
theorem dX0_remove_71 : decode cX0_remove 71 = .ok (.imul, 1) := by decide +kernel
theorem dX0_remove_72 : decode cX0_remove 72 = .ok (.iload_n 2, 1) := by decide +kernel
theorem dX0_remove_73 : decode cX0_remove 73 = .ok (.iadd, 1) := by decide +kernel
theorem dX0_remove_74 : decode cX0_remove 74 = .ok (.invokevirtual 48, 3) := by decide +kernel
theorem dX0_remove_77 : decode cX0_remove 77 = .ok (.ireturn, 1) := by decide +kernel
def bX0_remove_31 (x1 : Int32) (x2 : Int32) (y0 : Int32) (y1 : Int32) (t : zS) : zR := zbd (mX5_set 118 3336 y1 y0 t) fun r1965 t1966 => zbd (mX5_get 120 3336 x1 t1966) fun r1968 t1969 => zbd (mX5_set 120 3336 x1 (r1968 - 1) t1969) fun r1971 t1972 => zpt t1972 59 9 ((t1972 59 9) - 1) fun t1974 => zbd (mX5_get 116 10000 ((x1 * (t1974 59 7)) + x2) t1974) fun r1975 t1976 => some (r1975, t1976)
def mX0_remove (x1 : Int32) (t : zS) : zR := zbd (mX5_get 118 3336 x1 t) fun r1978 t1979 => if (r1978 + 1) < (t1979 59 7) then bX0_remove_31  x1 r1978 (r1978 + 1) x1 t1979 else bX0_remove_31  x1 r1978 0 x1 t1979
set_option maxHeartbeats 4000000 in
set_option maxRecDepth 20000 in
theorem wbX0_remove_31 {E : zE} {C : zC} {f : Nat} {ro : Int32 × zS} (hf : 2 ≤ f) (x1 : Int32) (x2 : Int32) (y0 : Int32) (y1 : Int32) (t : zS) (hF : bX0_remove_31  x1 x2 y0 y1 t = some ro) : zJ E shC C cX0_remove RX0 3 f (some .int) ro t 31 [(0, .ref (za E 59)), (1, .int x1), (2, .int x2)] [.int y0, .int y1, .ref (za E 118)] := by
  unfold bX0_remove_31 at hF
  obtain ⟨r1965, t1966, hc1967, hF⟩ := zbd_at hF
  refine z_callVv (ctX5_set (E := E) (sh := shC) (f := f - 1) (by omega) (k := 118) (n := 3336) rfl rfl hc1967) yy_X5_set yv_X5_set ob_C_118 lk_RX0_52 (by omega) rfl rfl (Nat.le_of_ble_eq_true rfl) dX0_remove_31 ?_
  refine z_aload_n 0 dX0_remove_34 rfl rfl ?_
  refine z_getr fr_RX0_23 dX0_remove_35 ?_
  refine z_iload_n 1 dX0_remove_38 rfl rfl ?_
  refine z_aload_n 0 dX0_remove_39 rfl rfl ?_
  refine z_getr fr_RX0_23 dX0_remove_40 ?_
  refine z_iload_n 1 dX0_remove_43 rfl rfl ?_
  obtain ⟨r1968, t1969, hc1970, hF⟩ := zbd_at hF
  refine z_callVi (ctX5_get (E := E) (sh := shC) (f := f - 1) (by omega) (k := 120) (n := 3336) rfl rfl hc1970) yy_X5_get yv_X5_get ob_C_120 lk_RX0_48 (by omega) rfl rfl (Nat.le_of_ble_eq_true rfl) dX0_remove_44 ?_
  refine z_iconst (v := 1) dX0_remove_47 (by decide) ?_
  refine z_isub dX0_remove_48 ?_
  obtain ⟨r1971, t1972, hc1973, hF⟩ := zbd_at hF
  refine z_callVv (ctX5_set (E := E) (sh := shC) (f := f - 1) (by omega) (k := 120) (n := 3336) rfl rfl hc1973) yy_X5_set yv_X5_set ob_C_120 lk_RX0_52 (by omega) rfl rfl (Nat.le_of_ble_eq_true rfl) dX0_remove_49 ?_
  refine z_aload_n 0 dX0_remove_52 rfl rfl ?_
  refine z_dup dX0_remove_53 rfl ?_
  refine z_geti fi_RX0_45 dX0_remove_54 ?_
  refine z_iconst (v := 1) dX0_remove_57 (by decide) ?_
  refine z_isub dX0_remove_58 ?_
  refine z_puti fw_RX0_45 dX0_remove_59 (fun t1974 et1974 => ?_)
  have hF := zpt_at hF t1974 et1974
  refine z_aload_n 0 dX0_remove_62 rfl rfl ?_
  refine z_getr fr_RX0_14 dX0_remove_63 ?_
  refine z_iload_n 1 dX0_remove_66 rfl rfl ?_
  refine z_aload_n 0 dX0_remove_67 rfl rfl ?_
  refine z_geti fi_RX0_32 dX0_remove_68 ?_
  refine z_imul dX0_remove_71 ?_
  refine z_iload_n 2 dX0_remove_72 rfl rfl ?_
  refine z_iadd dX0_remove_73 ?_
  obtain ⟨r1975, t1976, hc1977, hF⟩ := zbd_at hF
  refine z_callVi (ctX5_get (E := E) (sh := shC) (f := f - 1) (by omega) (k := 116) (n := 10000) rfl rfl hc1977) yy_X5_get yv_X5_get ob_C_116 lk_RX0_48 (by omega) rfl rfl (Nat.le_of_ble_eq_true rfl) dX0_remove_74 ?_
  exact z_iret hF dX0_remove_77
set_option maxHeartbeats 4000000 in
set_option maxRecDepth 20000 in
theorem ctX0_remove {E : zE} {f : Nat} (hf : 2 ≤ f) {x1 : Int32} {t : zS} {ro : Int32 × zS} (hF : mX0_remove  x1 t = some ro) : zM E shC f yX0_remove cX0_remove 3 (some .int) [.ref (za E 59), .int x1] t ro := by
  refine zM_of (by decide) (Nat.le_of_ble_eq_true rfl) (fun C => ?_)
  show zJ E shC C cX0_remove RX0 3 f (some .int) ro t 0 [(0, .ref (za E 59)), (1, .int x1)] []
  unfold mX0_remove at hF
  refine z_aload_n 0 dX0_remove_0 rfl rfl ?_
  refine z_getr fr_RX0_20 dX0_remove_1 ?_
  refine z_iload_n 1 dX0_remove_4 rfl rfl ?_
  obtain ⟨r1978, t1979, hc1980, hF⟩ := zbd_at hF
  refine z_callVi (ctX5_get (E := E) (sh := shC) (f := f - 1) (by omega) (k := 118) (n := 3336) rfl rfl hc1980) yy_X5_get yv_X5_get ob_C_118 lk_RX0_48 (by omega) rfl rfl (Nat.le_of_ble_eq_true rfl) dX0_remove_5 ?_
  refine z_istore_n (lv' := [(2, .int r1978), (0, .ref (za E 59)), (1, .int x1)]) dX0_remove_8 rfl (by decide) rfl ?_
  refine z_aload_n 1 dX0_remove_9 rfl rfl ?_
  refine z_getr fr_RX0_20 dX0_remove_10 ?_
  refine z_iload_n 2 dX0_remove_13 rfl rfl ?_
  refine z_iload_n 0 dX0_remove_14 rfl rfl ?_
  refine z_iconst (v := 1) dX0_remove_15 (by decide) ?_
  refine z_iadd dX0_remove_16 ?_
  refine z_aload_n 1 dX0_remove_17 rfl rfl ?_
  refine z_geti fi_RX0_32 dX0_remove_18 ?_
  refine z_icmp_lt (tgt := 28) dX0_remove_21 (by decide) (fun hc => ?_) (fun hc => ?_)
  · have hF := zif_t hc hF
    refine z_iload_n 0 dX0_remove_28 rfl rfl ?_
    refine z_iconst (v := 1) dX0_remove_29 (by decide) ?_
    refine z_iadd dX0_remove_30 ?_
    refine z_sub [1, 2, 0] rfl ?_
    exact wbX0_remove_31 hf  x1 r1978 (r1978 + 1) x1 _ hF
  · have hF := zif_f hc hF
    refine z_iconst (v := 0) dX0_remove_24 (by decide) ?_
    refine z_goto (tgt := 31) dX0_remove_25 (by decide) ?_
    refine z_sub [1, 2, 0] rfl ?_
    exact wbX0_remove_31 hf  x1 r1978 0 x1 _ hF
-- SessionHouse$Ring.setNumber(III)V
theorem dX8_setNumber_0 : decode cX8_setNumber 0 = .ok (.aload_n 0, 1) := by decide +kernel
theorem dX8_setNumber_1 : decode cX8_setNumber 1 = .ok (.getfield 41, 3) := by decide +kernel
theorem dX8_setNumber_4 : decode cX8_setNumber 4 = .ok (.aload_n 0, 1) := by decide +kernel
theorem dX8_setNumber_5 : decode cX8_setNumber 5 = .ok (.getfield 26, 3) := by decide +kernel
theorem dX8_setNumber_8 : decode cX8_setNumber 8 = .ok (.iload_n 1, 1) := by decide +kernel
theorem dX8_setNumber_9 : decode cX8_setNumber 9 = .ok (.invokevirtual 72, 3) := by decide +kernel
theorem dX8_setNumber_12 : decode cX8_setNumber 12 = .ok (.iload_n 2, 1) := by decide +kernel
theorem dX8_setNumber_13 : decode cX8_setNumber 13 = .ok (.iadd, 1) := by decide +kernel
theorem dX8_setNumber_14 : decode cX8_setNumber 14 = .ok (.iload_n 3, 1) := by decide +kernel
theorem dX8_setNumber_15 : decode cX8_setNumber 15 = .ok (.invokevirtual 76, 3) := by decide +kernel
theorem dX8_setNumber_18 : decode cX8_setNumber 18 = .ok (.return_, 1) := by decide +kernel
def mX8_setNumber (x1 : Int32) (x2 : Int32) (x3 : Int32) (t : zS) : zR := zbd (mX5_get 132 2501 x1 t) fun r1981 t1982 => zbd (mX5_set 142 24000 (r1981 + x2) x3 t1982) fun r1984 t1985 => some (0, t1985)
set_option maxHeartbeats 4000000 in
set_option maxRecDepth 20000 in
theorem ctX8_setNumber {E : zE} {f : Nat} (hf : 2 ≤ f) {x1 : Int32} {x2 : Int32} {x3 : Int32} {t : zS} {ro : Int32 × zS} (hF : mX8_setNumber  x1 x2 x3 t = some ro) : zM E shC f yX8_setNumber cX8_setNumber 4 none [.ref (za E 60), .int x1, .int x2, .int x3] t ro := by
  refine zM_of (by decide) (Nat.le_of_ble_eq_true rfl) (fun C => ?_)
  show zJ E shC C cX8_setNumber RX8 4 f none ro t 0 [(0, .ref (za E 60)), (1, .int x1), (2, .int x2), (3, .int x3)] []
  unfold mX8_setNumber at hF
  refine z_aload_n 0 dX8_setNumber_0 rfl rfl ?_
  refine z_getr fr_RX8_41 dX8_setNumber_1 ?_
  refine z_aload_n 0 dX8_setNumber_4 rfl rfl ?_
  refine z_getr fr_RX8_26 dX8_setNumber_5 ?_
  refine z_iload_n 1 dX8_setNumber_8 rfl rfl ?_
  obtain ⟨r1981, t1982, hc1983, hF⟩ := zbd_at hF
  refine z_callVi (ctX5_get (E := E) (sh := shC) (f := f - 1) (by omega) (k := 132) (n := 2501) rfl rfl hc1983) yy_X5_get yv_X5_get ob_C_132 lk_RX8_72 (by omega) rfl rfl (Nat.le_of_ble_eq_true rfl) dX8_setNumber_9 ?_
  refine z_iload_n 2 dX8_setNumber_12 rfl rfl ?_
  refine z_iadd dX8_setNumber_13 ?_
  refine z_iload_n 3 dX8_setNumber_14 rfl rfl ?_
  obtain ⟨r1984, t1985, hc1986, hF⟩ := zbd_at hF
  refine z_callVv (ctX5_set (E := E) (sh := shC) (f := f - 1) (by omega) (k := 142) (n := 24000) rfl rfl hc1986) yy_X5_set yv_X5_set ob_C_142 lk_RX8_76 (by omega) rfl rfl (Nat.le_of_ble_eq_true rfl) dX8_setNumber_15 ?_
  exact z_vret hF dX8_setNumber_18
-- SessionHouse$House.hear(II)Z
theorem dX4_hear_0 : decode cX4_hear 0 = .ok (.aload_n 0, 1) := by decide +kernel
theorem dX4_hear_1 : decode cX4_hear 1 = .ok (.getfield 21, 3) := by decide +kernel
theorem dX4_hear_4 : decode cX4_hear 4 = .ok (.iload_n 1, 1) := by decide +kernel
theorem dX4_hear_5 : decode cX4_hear 5 = .ok (.aload_n 0, 1) := by decide +kernel
theorem dX4_hear_6 : decode cX4_hear 6 = .ok (.getfield 48, 3) := by decide +kernel
theorem dX4_hear_9 : decode cX4_hear 9 = .ok (.getfield 180, 3) := by decide +kernel
theorem dX4_hear_12 : decode cX4_hear 12 = .ok (.iload_n 2, 1) := by decide +kernel
theorem dX4_hear_13 : decode cX4_hear 13 = .ok (.invokevirtual 99, 3) := by decide +kernel
theorem dX4_hear_16 : decode cX4_hear 16 = .ok (.invokevirtual 189, 3) := by decide +kernel
theorem dX4_hear_19 : decode cX4_hear 19 = .ok (.istore_n 3, 1) := by decide +kernel
theorem dX4_hear_20 : decode cX4_hear 20 = .ok (.aload_n 0, 1) := by decide +kernel
theorem dX4_hear_21 : decode cX4_hear 21 = .ok (.getfield 12, 3) := by decide +kernel
theorem dX4_hear_24 : decode cX4_hear 24 = .ok (.iload_n 3, 1) := by decide +kernel
theorem dX4_hear_25 : decode cX4_hear 25 = .ok (.invokevirtual 228, 3) := by decide +kernel
theorem dX4_hear_28 : decode cX4_hear 28 = .ok (.ifCond .eq 5, 3) := by decide +kernel
theorem dX4_hear_31 : decode cX4_hear 31 = .ok (.iconst 0, 1) := by decide +kernel
theorem dX4_hear_32 : decode cX4_hear 32 = .ok (.ireturn, 1) := by decide +kernel
theorem dX4_hear_33 : decode cX4_hear 33 = .ok (.aload_n 0, 1) := by decide +kernel
theorem dX4_hear_34 : decode cX4_hear 34 = .ok (.getfield 12, 3) := by decide +kernel
theorem dX4_hear_37 : decode cX4_hear 37 = .ok (.iload_n 3, 1) := by decide +kernel
theorem dX4_hear_38 : decode cX4_hear 38 = .ok (.invokevirtual 231, 3) := by decide +kernel
theorem dX4_hear_41 : decode cX4_hear 41 = .ok (.istore 4, 2) := by decide +kernel
theorem dX4_hear_43 : decode cX4_hear 43 = .ok (.aload_n 0, 1) := by decide +kernel
theorem dX4_hear_44 : decode cX4_hear 44 = .ok (.getfield 48, 3) := by decide +kernel
theorem dX4_hear_47 : decode cX4_hear 47 = .ok (.getfield 133, 3) := by decide +kernel
theorem dX4_hear_50 : decode cX4_hear 50 = .ok (.iload_n 2, 1) := by decide +kernel
theorem dX4_hear_51 : decode cX4_hear 51 = .ok (.invokevirtual 99, 3) := by decide +kernel
theorem dX4_hear_54 : decode cX4_hear 54 = .ok (.iconst 5, 1) := by decide +kernel
theorem dX4_hear_55 : decode cX4_hear 55 = .ok (.if_icmp .ne 27, 3) := by decide +kernel
theorem dX4_hear_58 : decode cX4_hear 58 = .ok (.aload_n 0, 1) := by decide +kernel
theorem dX4_hear_59 : decode cX4_hear 59 = .ok (.getfield 21, 3) := by decide +kernel
theorem dX4_hear_62 : decode cX4_hear 62 = .ok (.iload_n 1, 1) := by decide +kernel
theorem dX4_hear_63 : decode cX4_hear 63 = .ok (.aload_n 0, 1) := by decide +kernel
theorem dX4_hear_64 : decode cX4_hear 64 = .ok (.getfield 48, 3) := by decide +kernel
theorem dX4_hear_67 : decode cX4_hear 67 = .ok (.getfield 204, 3) := by decide +kernel
theorem dX4_hear_70 : decode cX4_hear 70 = .ok (.iload_n 2, 1) := by decide +kernel
theorem dX4_hear_71 : decode cX4_hear 71 = .ok (.invokevirtual 99, 3) := by decide +kernel
theorem dX4_hear_74 : decode cX4_hear 74 = .ok (.iload 4, 2) := by decide +kernel
theorem dX4_hear_76 : decode cX4_hear 76 = .ok (.invokevirtual 200, 3) := by decide +kernel
theorem dX4_hear_79 : decode cX4_hear 79 = .ok (.goto 24, 3) := by decide +kernel
theorem dX4_hear_82 : decode cX4_hear 82 = .ok (.aload_n 0, 1) := by decide +kernel
theorem dX4_hear_83 : decode cX4_hear 83 = .ok (.getfield 21, 3) := by decide +kernel
theorem dX4_hear_86 : decode cX4_hear 86 = .ok (.iload_n 1, 1) := by decide +kernel
theorem dX4_hear_87 : decode cX4_hear 87 = .ok (.aload_n 0, 1) := by decide +kernel
theorem dX4_hear_88 : decode cX4_hear 88 = .ok (.getfield 48, 3) := by decide +kernel
theorem dX4_hear_91 : decode cX4_hear 91 = .ok (.getfield 204, 3) := by decide +kernel
theorem dX4_hear_94 : decode cX4_hear 94 = .ok (.iload_n 2, 1) := by decide +kernel
theorem dX4_hear_95 : decode cX4_hear 95 = .ok (.invokevirtual 99, 3) := by decide +kernel
theorem dX4_hear_98 : decode cX4_hear 98 = .ok (.iload 4, 2) := by decide +kernel
theorem dX4_hear_100 : decode cX4_hear 100 = .ok (.invokevirtual 234, 3) := by decide +kernel
theorem dX4_hear_103 : decode cX4_hear 103 = .ok (.aload_n 0, 1) := by decide +kernel
theorem dX4_hear_104 : decode cX4_hear 104 = .ok (.iload_n 1, 1) := by decide +kernel
theorem dX4_hear_105 : decode cX4_hear 105 = .ok (.iload_n 2, 1) := by decide +kernel
theorem dX4_hear_106 : decode cX4_hear 106 = .ok (.invokevirtual 225, 3) := by decide +kernel
theorem dX4_hear_109 : decode cX4_hear 109 = .ok (.ireturn, 1) := by decide +kernel
def bX4_hear_103 (x1 : Int32) (x2 : Int32) (t : zS) : zR := zbd (mX4_goOn x1 x2 t) fun r1987 t1988 => z01 r1987 (some (r1987, t1988))
def mX4_hear (x1 : Int32) (x2 : Int32) (t : zS) : zR := zbd (mX5_get 90 1000 x2 t) fun r1991 t1992 => zbd (mX8_channel x1 r1991 t1992) fun r1994 t1995 => zbd (mX0_isEmpty r1994 t1995) fun r1997 t1998 => if r1997 = 0 then zbd (mX0_remove r1994 t1998) fun r2000 t2001 => zbd (mX5_get 86 1000 x2 t2001) fun r2003 t2004 => if r2003 = 5 then zbd (mX5_get 92 1000 x2 t2004) fun r2012 t2013 => zbd (mX8_setChannel x1 r2012 r2000 t2013) fun r2015 t2016 => bX4_hear_103  x1 x2 t2016 else zbd (mX5_get 92 1000 x2 t2004) fun r2006 t2007 => zbd (mX8_setNumber x1 r2006 r2000 t2007) fun r2009 t2010 => bX4_hear_103  x1 x2 t2010 else some (0, t1998)
set_option maxHeartbeats 4000000 in
set_option maxRecDepth 20000 in
theorem wbX4_hear_103 {E : zE} {C : zC} {f : Nat} {ro : Int32 × zS} (hf : 5 ≤ f) (x1 : Int32) (x2 : Int32) (t : zS) (hF : bX4_hear_103  x1 x2 t = some ro) : zJ E shC C cX4_hear RX4 5 f (some .boolean) ro t 103 [(0, .ref (za E 7)), (1, .int x1), (2, .int x2)] [] := by
  unfold bX4_hear_103 at hF
  refine z_aload_n 0 dX4_hear_103 rfl rfl ?_
  refine z_iload_n 1 dX4_hear_104 rfl rfl ?_
  refine z_iload_n 2 dX4_hear_105 rfl rfl ?_
  obtain ⟨r1987, t1988, hc1989, hF⟩ := zbd_at hF
  refine z_callVi (ctX4_goOn (E := E) (f := f - 1) (by omega) hc1989) yy_X4_goOn yv_X4_goOn ob_C_7 lk_RX4_225 (by omega) rfl rfl (Nat.le_of_ble_eq_true rfl) dX4_hear_106 ?_
  obtain ⟨hz1990, hF⟩ := z01_at hF
  exact z_zret hF hz1990 dX4_hear_109
set_option maxHeartbeats 4000000 in
set_option maxRecDepth 20000 in
theorem ctX4_hear {E : zE} {f : Nat} (hf : 5 ≤ f) {x1 : Int32} {x2 : Int32} {t : zS} {ro : Int32 × zS} (hF : mX4_hear  x1 x2 t = some ro) : zM E shC f yX4_hear cX4_hear 5 (some .boolean) [.ref (za E 7), .int x1, .int x2] t ro := by
  refine zM_of (by decide) (Nat.le_of_ble_eq_true rfl) (fun C => ?_)
  show zJ E shC C cX4_hear RX4 5 f (some .boolean) ro t 0 [(0, .ref (za E 7)), (1, .int x1), (2, .int x2)] []
  unfold mX4_hear at hF
  refine z_aload_n 0 dX4_hear_0 rfl rfl ?_
  refine z_getr fr_RX4_21 dX4_hear_1 ?_
  refine z_iload_n 1 dX4_hear_4 rfl rfl ?_
  refine z_aload_n 0 dX4_hear_5 rfl rfl ?_
  refine z_getr fr_RX4_48 dX4_hear_6 ?_
  refine z_getr fr_RX4_180 dX4_hear_9 ?_
  refine z_iload_n 2 dX4_hear_12 rfl rfl ?_
  obtain ⟨r1991, t1992, hc1993, hF⟩ := zbd_at hF
  refine z_callVi (ctX5_get (E := E) (sh := shC) (f := f - 1) (by omega) (k := 90) (n := 1000) rfl rfl hc1993) yy_X5_get yv_X5_get ob_C_90 lk_RX4_99 (by omega) rfl rfl (Nat.le_of_ble_eq_true rfl) dX4_hear_13 ?_
  obtain ⟨r1994, t1995, hc1996, hF⟩ := zbd_at hF
  refine z_callVi (ctX8_channel (E := E) (f := f - 1) (by omega) hc1996) yy_X8_channel yv_X8_channel ob_C_60 lk_RX4_189 (by omega) rfl rfl (Nat.le_of_ble_eq_true rfl) dX4_hear_16 ?_
  refine z_istore_n (lv' := [(3, .int r1994), (0, .ref (za E 7)), (1, .int x1), (2, .int x2)]) dX4_hear_19 rfl (by decide) rfl ?_
  refine z_aload_n 1 dX4_hear_20 rfl rfl ?_
  refine z_getr fr_RX4_12 dX4_hear_21 ?_
  refine z_iload_n 0 dX4_hear_24 rfl rfl ?_
  obtain ⟨r1997, t1998, hc1999, hF⟩ := zbd_at hF
  refine z_callVi (ctX0_isEmpty (E := E) (f := f - 1) (by omega) hc1999) yy_X0_isEmpty yv_X0_isEmpty ob_C_59 lk_RX4_228 (by omega) rfl rfl (Nat.le_of_ble_eq_true rfl) dX4_hear_25 ?_
  refine z_if_eq (tgt := 33) dX4_hear_28 (by decide) (fun hc => ?_) (fun hc => ?_)
  · have hF := zif_t hc hF
    refine z_aload_n 1 dX4_hear_33 rfl rfl ?_
    refine z_getr fr_RX4_12 dX4_hear_34 ?_
    refine z_iload_n 0 dX4_hear_37 rfl rfl ?_
    obtain ⟨r2000, t2001, hc2002, hF⟩ := zbd_at hF
    refine z_callVi (ctX0_remove (E := E) (f := f - 1) (by omega) hc2002) yy_X0_remove yv_X0_remove ob_C_59 lk_RX4_231 (by omega) rfl rfl (Nat.le_of_ble_eq_true rfl) dX4_hear_38 ?_
    refine z_istore (lv' := [(4, .int r2000), (3, .int r1994), (0, .ref (za E 7)), (1, .int x1), (2, .int x2)]) dX4_hear_41 (by decide) rfl ?_
    refine z_aload_n 2 dX4_hear_43 rfl rfl ?_
    refine z_getr fr_RX4_48 dX4_hear_44 ?_
    refine z_getr fr_RX4_133 dX4_hear_47 ?_
    refine z_iload_n 4 dX4_hear_50 rfl rfl ?_
    obtain ⟨r2003, t2004, hc2005, hF⟩ := zbd_at hF
    refine z_callVi (ctX5_get (E := E) (sh := shC) (f := f - 1) (by omega) (k := 86) (n := 1000) rfl rfl hc2005) yy_X5_get yv_X5_get ob_C_86 lk_RX4_99 (by omega) rfl rfl (Nat.le_of_ble_eq_true rfl) dX4_hear_51 ?_
    refine z_iconst (v := 5) dX4_hear_54 (by decide) ?_
    refine z_icmp_ne (tgt := 82) dX4_hear_55 (by decide) (fun hc => ?_) (fun hc => ?_)
    · have hF := zif_f hc hF
      refine z_aload_n 2 dX4_hear_82 rfl rfl ?_
      refine z_getr fr_RX4_21 dX4_hear_83 ?_
      refine z_iload_n 3 dX4_hear_86 rfl rfl ?_
      refine z_aload_n 2 dX4_hear_87 rfl rfl ?_
      refine z_getr fr_RX4_48 dX4_hear_88 ?_
      refine z_getr fr_RX4_204 dX4_hear_91 ?_
      refine z_iload_n 4 dX4_hear_94 rfl rfl ?_
      obtain ⟨r2006, t2007, hc2008, hF⟩ := zbd_at hF
      refine z_callVi (ctX5_get (E := E) (sh := shC) (f := f - 1) (by omega) (k := 92) (n := 1000) rfl rfl hc2008) yy_X5_get yv_X5_get ob_C_92 lk_RX4_99 (by omega) rfl rfl (Nat.le_of_ble_eq_true rfl) dX4_hear_95 ?_
      refine z_iload 0 dX4_hear_98 rfl ?_
      obtain ⟨r2009, t2010, hc2011, hF⟩ := zbd_at hF
      refine z_callVv (ctX8_setNumber (E := E) (f := f - 1) (by omega) hc2011) yy_X8_setNumber yv_X8_setNumber ob_C_60 lk_RX4_234 (by omega) rfl rfl (Nat.le_of_ble_eq_true rfl) dX4_hear_100 ?_
      refine z_sub [2, 3, 4] rfl ?_
      exact wbX4_hear_103 hf  x1 x2 _ hF
    · have hF := zif_t hc hF
      refine z_aload_n 2 dX4_hear_58 rfl rfl ?_
      refine z_getr fr_RX4_21 dX4_hear_59 ?_
      refine z_iload_n 3 dX4_hear_62 rfl rfl ?_
      refine z_aload_n 2 dX4_hear_63 rfl rfl ?_
      refine z_getr fr_RX4_48 dX4_hear_64 ?_
      refine z_getr fr_RX4_204 dX4_hear_67 ?_
      refine z_iload_n 4 dX4_hear_70 rfl rfl ?_
      obtain ⟨r2012, t2013, hc2014, hF⟩ := zbd_at hF
      refine z_callVi (ctX5_get (E := E) (sh := shC) (f := f - 1) (by omega) (k := 92) (n := 1000) rfl rfl hc2014) yy_X5_get yv_X5_get ob_C_92 lk_RX4_99 (by omega) rfl rfl (Nat.le_of_ble_eq_true rfl) dX4_hear_71 ?_
      refine z_iload 0 dX4_hear_74 rfl ?_
      obtain ⟨r2015, t2016, hc2017, hF⟩ := zbd_at hF
      refine z_callVv (ctX8_setChannel (E := E) (f := f - 1) (by omega) hc2017) yy_X8_setChannel yv_X8_setChannel ob_C_60 lk_RX4_200 (by omega) rfl rfl (Nat.le_of_ble_eq_true rfl) dX4_hear_76 ?_
      refine z_goto (tgt := 103) dX4_hear_79 (by decide) ?_
      refine z_sub [2, 3, 4] rfl ?_
      exact wbX4_hear_103 hf  x1 x2 _ hF
  · have hF := zif_f hc hF
    refine z_iconst (v := 0) dX4_hear_31 (by decide) ?_
    exact z_zret hF (by decide) dX4_hear_32
-- SessionHouse$Statements.entry(II)I
theorem dX9_entry_0 : decode cX9_entry 0 = .ok (.aload_n 0, 1) := by decide +kernel
theorem dX9_entry_1 : decode cX9_entry 1 = .ok (.getfield 53, 3) := by decide +kernel
theorem dX9_entry_4 : decode cX9_entry 4 = .ok (.iload_n 2, 1) := by decide +kernel
theorem dX9_entry_5 : decode cX9_entry 5 = .ok (.invokevirtual 73, 3) := by decide +kernel
theorem dX9_entry_8 : decode cX9_entry 8 = .ok (.istore_n 3, 1) := by decide +kernel
theorem dX9_entry_9 : decode cX9_entry 9 = .ok (.iload_n 2, 1) := by decide +kernel
theorem dX9_entry_10 : decode cX9_entry 10 = .ok (.ifCond .ge 12, 3) := by decide +kernel
theorem dX9_entry_13 : decode cX9_entry 13 = .ok (.aload_n 0, 1) := by decide +kernel
theorem dX9_entry_14 : decode cX9_entry 14 = .ok (.getfield 41, 3) := by decide +kernel
theorem dX9_entry_17 : decode cX9_entry 17 = .ok (.iload_n 1, 1) := by decide +kernel
theorem dX9_entry_18 : decode cX9_entry 18 = .ok (.invokevirtual 73, 3) := by decide +kernel
theorem dX9_entry_21 : decode cX9_entry 21 = .ok (.ireturn, 1) := by decide +kernel
theorem dX9_entry_22 : decode cX9_entry 22 = .ok (.iload_n 3, 1) := by decide +kernel
theorem dX9_entry_23 : decode cX9_entry 23 = .ok (.ifCond .lt 5, 3) := by decide +kernel
theorem dX9_entry_26 : decode cX9_entry 26 = .ok (.iload_n 3, 1) := by decide +kernel
theorem dX9_entry_27 : decode cX9_entry 27 = .ok (.ireturn, 1) := by decide +kernel
theorem dX9_entry_28 : decode cX9_entry 28 = .ok (.aload_n 0, 1) := by decide +kernel
theorem dX9_entry_29 : decode cX9_entry 29 = .ok (.getfield 14, 3) := by decide +kernel
theorem dX9_entry_32 : decode cX9_entry 32 = .ok (.iload_n 1, 1) := by decide +kernel
theorem dX9_entry_33 : decode cX9_entry 33 = .ok (.invokevirtual 73, 3) := by decide +kernel
theorem dX9_entry_36 : decode cX9_entry 36 = .ok (.bipush 12, 2) := by decide +kernel
theorem dX9_entry_38 : decode cX9_entry 38 = .ok (.if_icmp .ne 7, 3) := by decide +kernel
theorem dX9_entry_41 : decode cX9_entry 41 = .ok (.iload_n 1, 1) := by decide +kernel
theorem dX9_entry_42 : decode cX9_entry 42 = .ok (.goto 11, 3) := by decide +kernel
theorem dX9_entry_45 : decode cX9_entry 45 = .ok (.aload_n 0, 1) := by decide +kernel
theorem dX9_entry_46 : decode cX9_entry 46 = .ok (.getfield 41, 3) := by decide +kernel
theorem dX9_entry_49 : decode cX9_entry 49 = .ok (.iload_n 1, 1) := by decide +kernel
theorem dX9_entry_50 : decode cX9_entry 50 = .ok (.invokevirtual 73, 3) := by decide +kernel
theorem dX9_entry_53 : decode cX9_entry 53 = .ok (.ireturn, 1) := by decide +kernel
def mX9_entry (x1 : Int32) (x2 : Int32) (t : zS) : zR := zbd (mX5_get 110 1600 x2 t) fun r2018 t2019 => if 0 ≤ x2 then if r2018 < 0 then zbd (mX5_get 86 1000 x1 t2019) fun r2021 t2022 => if r2021 = 12 then some (x1, t2022) else zbd (mX5_get 102 1000 x1 t2022) fun r2024 t2025 => some (r2024, t2025) else some (r2018, t2019) else zbd (mX5_get 102 1000 x1 t2019) fun r2027 t2028 => some (r2027, t2028)
set_option maxHeartbeats 4000000 in
set_option maxRecDepth 20000 in
theorem ctX9_entry {E : zE} {f : Nat} (hf : 2 ≤ f) {x1 : Int32} {x2 : Int32} {t : zS} {ro : Int32 × zS} (hF : mX9_entry  x1 x2 t = some ro) : zM E shC f yX9_entry cX9_entry 4 (some .int) [.ref (za E 52), .int x1, .int x2] t ro := by
  refine zM_of (by decide) (Nat.le_of_ble_eq_true rfl) (fun C => ?_)
  show zJ E shC C cX9_entry RX9 4 f (some .int) ro t 0 [(0, .ref (za E 52)), (1, .int x1), (2, .int x2)] []
  unfold mX9_entry at hF
  refine z_aload_n 0 dX9_entry_0 rfl rfl ?_
  refine z_getr fr_RX9_53 dX9_entry_1 ?_
  refine z_iload_n 2 dX9_entry_4 rfl rfl ?_
  obtain ⟨r2018, t2019, hc2020, hF⟩ := zbd_at hF
  refine z_callVi (ctX5_get (E := E) (sh := shC) (f := f - 1) (by omega) (k := 110) (n := 1600) rfl rfl hc2020) yy_X5_get yv_X5_get ob_C_110 lk_RX9_73 (by omega) rfl rfl (Nat.le_of_ble_eq_true rfl) dX9_entry_5 ?_
  refine z_istore_n (lv' := [(3, .int r2018), (0, .ref (za E 52)), (1, .int x1), (2, .int x2)]) dX9_entry_8 rfl (by decide) rfl ?_
  refine z_iload_n 3 dX9_entry_9 rfl rfl ?_
  refine z_if_ge (tgt := 22) dX9_entry_10 (by decide) (fun hc => ?_) (fun hc => ?_)
  · have hF := zif_t hc hF
    refine z_iload_n 0 dX9_entry_22 rfl rfl ?_
    refine z_if_lt (tgt := 28) dX9_entry_23 (by decide) (fun hc => ?_) (fun hc => ?_)
    · have hF := zif_t hc hF
      refine z_aload_n 1 dX9_entry_28 rfl rfl ?_
      refine z_getr fr_RX9_14 dX9_entry_29 ?_
      refine z_iload_n 2 dX9_entry_32 rfl rfl ?_
      obtain ⟨r2021, t2022, hc2023, hF⟩ := zbd_at hF
      refine z_callVi (ctX5_get (E := E) (sh := shC) (f := f - 1) (by omega) (k := 86) (n := 1000) rfl rfl hc2023) yy_X5_get yv_X5_get ob_C_86 lk_RX9_73 (by omega) rfl rfl (Nat.le_of_ble_eq_true rfl) dX9_entry_33 ?_
      refine z_bipush (v := 12) dX9_entry_36 (by decide) ?_
      refine z_icmp_ne (tgt := 45) dX9_entry_38 (by decide) (fun hc => ?_) (fun hc => ?_)
      · have hF := zif_f hc hF
        refine z_aload_n 1 dX9_entry_45 rfl rfl ?_
        refine z_getr fr_RX9_41 dX9_entry_46 ?_
        refine z_iload_n 2 dX9_entry_49 rfl rfl ?_
        obtain ⟨r2024, t2025, hc2026, hF⟩ := zbd_at hF
        refine z_callVi (ctX5_get (E := E) (sh := shC) (f := f - 1) (by omega) (k := 102) (n := 1000) rfl rfl hc2026) yy_X5_get yv_X5_get ob_C_102 lk_RX9_73 (by omega) rfl rfl (Nat.le_of_ble_eq_true rfl) dX9_entry_50 ?_
        exact z_iret hF dX9_entry_53
      · have hF := zif_t hc hF
        refine z_iload_n 2 dX9_entry_41 rfl rfl ?_
        refine z_goto (tgt := 53) dX9_entry_42 (by decide) ?_
        exact z_iret hF dX9_entry_53
    · have hF := zif_f hc hF
      refine z_iload_n 0 dX9_entry_26 rfl rfl ?_
      exact z_iret hF dX9_entry_27
  · have hF := zif_f hc hF
    refine z_aload_n 1 dX9_entry_13 rfl rfl ?_
    refine z_getr fr_RX9_41 dX9_entry_14 ?_
    refine z_iload_n 2 dX9_entry_17 rfl rfl ?_
    obtain ⟨r2027, t2028, hc2029, hF⟩ := zbd_at hF
    refine z_callVi (ctX5_get (E := E) (sh := shC) (f := f - 1) (by omega) (k := 102) (n := 1000) rfl rfl hc2029) yy_X5_get yv_X5_get ob_C_102 lk_RX9_73 (by omega) rfl rfl (Nat.le_of_ble_eq_true rfl) dX9_entry_18 ?_
    exact z_iret hF dX9_entry_21
-- SessionHouse$House.choose(II)Z
theorem dX4_choose_0 : decode cX4_choose 0 = .ok (.aload_n 0, 1) := by decide +kernel
theorem dX4_choose_1 : decode cX4_choose 1 = .ok (.getfield 48, 3) := by decide +kernel
theorem dX4_choose_4 : decode cX4_choose 4 = .ok (.getfield 180, 3) := by decide +kernel
theorem dX4_choose_7 : decode cX4_choose 7 = .ok (.iload_n 2, 1) := by decide +kernel
theorem dX4_choose_8 : decode cX4_choose 8 = .ok (.invokevirtual 99, 3) := by decide +kernel
theorem dX4_choose_11 : decode cX4_choose 11 = .ok (.istore_n 3, 1) := by decide +kernel
theorem dX4_choose_12 : decode cX4_choose 12 = .ok (.aload_n 0, 1) := by decide +kernel
theorem dX4_choose_13 : decode cX4_choose 13 = .ok (.getfield 21, 3) := by decide +kernel
theorem dX4_choose_16 : decode cX4_choose 16 = .ok (.iload_n 1, 1) := by decide +kernel
theorem dX4_choose_17 : decode cX4_choose 17 = .ok (.iload_n 3, 1) := by decide +kernel
theorem dX4_choose_18 : decode cX4_choose 18 = .ok (.invokevirtual 189, 3) := by decide +kernel
theorem dX4_choose_21 : decode cX4_choose 21 = .ok (.istore 4, 2) := by decide +kernel
theorem dX4_choose_23 : decode cX4_choose 23 = .ok (.aload_n 0, 1) := by decide +kernel
theorem dX4_choose_24 : decode cX4_choose 24 = .ok (.getfield 12, 3) := by decide +kernel
theorem dX4_choose_27 : decode cX4_choose 27 = .ok (.iload 4, 2) := by decide +kernel
theorem dX4_choose_29 : decode cX4_choose 29 = .ok (.invokevirtual 228, 3) := by decide +kernel
theorem dX4_choose_32 : decode cX4_choose 32 = .ok (.ifCond .eq 5, 3) := by decide +kernel
theorem dX4_choose_35 : decode cX4_choose 35 = .ok (.iconst 0, 1) := by decide +kernel
theorem dX4_choose_36 : decode cX4_choose 36 = .ok (.ireturn, 1) := by decide +kernel
theorem dX4_choose_37 : decode cX4_choose 37 = .ok (.aload_n 0, 1) := by decide +kernel
theorem dX4_choose_38 : decode cX4_choose 38 = .ok (.getfield 48, 3) := by decide +kernel
theorem dX4_choose_41 : decode cX4_choose 41 = .ok (.iload_n 2, 1) := by decide +kernel
theorem dX4_choose_42 : decode cX4_choose 42 = .ok (.aload_n 0, 1) := by decide +kernel
theorem dX4_choose_43 : decode cX4_choose 43 = .ok (.getfield 12, 3) := by decide +kernel
theorem dX4_choose_46 : decode cX4_choose 46 = .ok (.iload 4, 2) := by decide +kernel
theorem dX4_choose_48 : decode cX4_choose 48 = .ok (.invokevirtual 231, 3) := by decide +kernel
theorem dX4_choose_51 : decode cX4_choose 51 = .ok (.invokevirtual 237, 3) := by decide +kernel
theorem dX4_choose_54 : decode cX4_choose 54 = .ok (.istore 5, 2) := by decide +kernel
theorem dX4_choose_56 : decode cX4_choose 56 = .ok (.aload_n 0, 1) := by decide +kernel
theorem dX4_choose_57 : decode cX4_choose 57 = .ok (.getfield 48, 3) := by decide +kernel
theorem dX4_choose_60 : decode cX4_choose 60 = .ok (.getfield 240, 3) := by decide +kernel
theorem dX4_choose_63 : decode cX4_choose 63 = .ok (.iload 5, 2) := by decide +kernel
theorem dX4_choose_65 : decode cX4_choose 65 = .ok (.invokevirtual 99, 3) := by decide +kernel
theorem dX4_choose_68 : decode cX4_choose 68 = .ok (.iconst 1, 1) := by decide +kernel
theorem dX4_choose_69 : decode cX4_choose 69 = .ok (.if_icmp .ne 9, 3) := by decide +kernel
theorem dX4_choose_72 : decode cX4_choose 72 = .ok (.aload_n 0, 1) := by decide +kernel
theorem dX4_choose_73 : decode cX4_choose 73 = .ok (.iload_n 1, 1) := by decide +kernel
theorem dX4_choose_74 : decode cX4_choose 74 = .ok (.iload_n 3, 1) := by decide +kernel
theorem dX4_choose_75 : decode cX4_choose 75 = .ok (.invokevirtual 183, 3) := by decide +kernel
theorem dX4_choose_78 : decode cX4_choose 78 = .ok (.aload_n 0, 1) := by decide +kernel
theorem dX4_choose_79 : decode cX4_choose 79 = .ok (.getfield 21, 3) := by decide +kernel
theorem dX4_choose_82 : decode cX4_choose 82 = .ok (.getfield 112, 3) := by decide +kernel
theorem dX4_choose_85 : decode cX4_choose 85 = .ok (.iload_n 1, 1) := by decide +kernel
theorem dX4_choose_86 : decode cX4_choose 86 = .ok (.aload_n 0, 1) := by decide +kernel
theorem dX4_choose_87 : decode cX4_choose 87 = .ok (.getfield 48, 3) := by decide +kernel
theorem dX4_choose_90 : decode cX4_choose 90 = .ok (.iload_n 2, 1) := by decide +kernel
theorem dX4_choose_91 : decode cX4_choose 91 = .ok (.iload 5, 2) := by decide +kernel
theorem dX4_choose_93 : decode cX4_choose 93 = .ok (.invokevirtual 243, 3) := by decide +kernel
theorem dX4_choose_96 : decode cX4_choose 96 = .ok (.invokevirtual 62, 3) := by decide +kernel
theorem dX4_choose_99 : decode cX4_choose 99 = .ok (.iconst 1, 1) := by decide +kernel
theorem dX4_choose_100 : decode cX4_choose 100 = .ok (.ireturn, 1) := by decide +kernel
def bX4_choose_78 (x1 : Int32) (x2 : Int32) (x5 : Int32) (t : zS) : zR := zbd (mX9_entry x2 x5 t) fun r2030 t2031 => zbd (mX5_set 128 2501 x1 r2030 t2031) fun r2033 t2034 => some (1, t2034)
def mX4_choose (x1 : Int32) (x2 : Int32) (t : zS) : zR := zbd (mX5_get 90 1000 x2 t) fun r2036 t2037 => zbd (mX8_channel x1 r2036 t2037) fun r2039 t2040 => zbd (mX0_isEmpty r2039 t2040) fun r2042 t2043 => if r2042 = 0 then zbd (mX0_remove r2039 t2043) fun r2045 t2046 => zbd (mX9_findBranch x2 r2045 t2046) fun r2048 t2049 => zbd (mX5_get 112 1600 r2048 t2049) fun r2051 t2052 => if r2051 = 1 then zbd (mX4_close x1 r2036 t2052) fun r2054 t2055 => bX4_choose_78  x1 x2 r2048 t2055 else bX4_choose_78  x1 x2 r2048 t2052 else some (0, t2043)
set_option maxHeartbeats 4000000 in
set_option maxRecDepth 20000 in
theorem wbX4_choose_78 {E : zE} {C : zC} {f : Nat} {ro : Int32 × zS} (hf : 4 ≤ f) (x1 : Int32) (x2 : Int32) (x5 : Int32) (t : zS) (hF : bX4_choose_78  x1 x2 x5 t = some ro) : zJ E shC C cX4_choose RX4 6 f (some .boolean) ro t 78 [(0, .ref (za E 7)), (1, .int x1), (2, .int x2), (5, .int x5)] [] := by
  unfold bX4_choose_78 at hF
  refine z_aload_n 0 dX4_choose_78 rfl rfl ?_
  refine z_getr fr_RX4_21 dX4_choose_79 ?_
  refine z_getr fr_RX4_112 dX4_choose_82 ?_
  refine z_iload_n 1 dX4_choose_85 rfl rfl ?_
  refine z_aload_n 0 dX4_choose_86 rfl rfl ?_
  refine z_getr fr_RX4_48 dX4_choose_87 ?_
  refine z_iload_n 2 dX4_choose_90 rfl rfl ?_
  refine z_iload 3 dX4_choose_91 rfl ?_
  obtain ⟨r2030, t2031, hc2032, hF⟩ := zbd_at hF
  refine z_callVi (ctX9_entry (E := E) (f := f - 1) (by omega) hc2032) yy_X9_entry yv_X9_entry ob_C_52 lk_RX4_243 (by omega) rfl rfl (Nat.le_of_ble_eq_true rfl) dX4_choose_93 ?_
  obtain ⟨r2033, t2034, hc2035, hF⟩ := zbd_at hF
  refine z_callVv (ctX5_set (E := E) (sh := shC) (f := f - 1) (by omega) (k := 128) (n := 2501) rfl rfl hc2035) yy_X5_set yv_X5_set ob_C_128 lk_RX4_62 (by omega) rfl rfl (Nat.le_of_ble_eq_true rfl) dX4_choose_96 ?_
  refine z_iconst (v := 1) dX4_choose_99 (by decide) ?_
  exact z_zret hF (by decide) dX4_choose_100
set_option maxHeartbeats 4000000 in
set_option maxRecDepth 20000 in
theorem ctX4_choose {E : zE} {f : Nat} (hf : 4 ≤ f) {x1 : Int32} {x2 : Int32} {t : zS} {ro : Int32 × zS} (hF : mX4_choose  x1 x2 t = some ro) : zM E shC f yX4_choose cX4_choose 6 (some .boolean) [.ref (za E 7), .int x1, .int x2] t ro := by
  refine zM_of (by decide) (Nat.le_of_ble_eq_true rfl) (fun C => ?_)
  show zJ E shC C cX4_choose RX4 6 f (some .boolean) ro t 0 [(0, .ref (za E 7)), (1, .int x1), (2, .int x2)] []
  unfold mX4_choose at hF
  refine z_aload_n 0 dX4_choose_0 rfl rfl ?_
  refine z_getr fr_RX4_48 dX4_choose_1 ?_
  refine z_getr fr_RX4_180 dX4_choose_4 ?_
  refine z_iload_n 2 dX4_choose_7 rfl rfl ?_
  obtain ⟨r2036, t2037, hc2038, hF⟩ := zbd_at hF
  refine z_callVi (ctX5_get (E := E) (sh := shC) (f := f - 1) (by omega) (k := 90) (n := 1000) rfl rfl hc2038) yy_X5_get yv_X5_get ob_C_90 lk_RX4_99 (by omega) rfl rfl (Nat.le_of_ble_eq_true rfl) dX4_choose_8 ?_
  refine z_istore_n (lv' := [(3, .int r2036), (0, .ref (za E 7)), (1, .int x1), (2, .int x2)]) dX4_choose_11 rfl (by decide) rfl ?_
  refine z_aload_n 1 dX4_choose_12 rfl rfl ?_
  refine z_getr fr_RX4_21 dX4_choose_13 ?_
  refine z_iload_n 2 dX4_choose_16 rfl rfl ?_
  refine z_iload_n 0 dX4_choose_17 rfl rfl ?_
  obtain ⟨r2039, t2040, hc2041, hF⟩ := zbd_at hF
  refine z_callVi (ctX8_channel (E := E) (f := f - 1) (by omega) hc2041) yy_X8_channel yv_X8_channel ob_C_60 lk_RX4_189 (by omega) rfl rfl (Nat.le_of_ble_eq_true rfl) dX4_choose_18 ?_
  refine z_istore (lv' := [(4, .int r2039), (3, .int r2036), (0, .ref (za E 7)), (1, .int x1), (2, .int x2)]) dX4_choose_21 (by decide) rfl ?_
  refine z_aload_n 2 dX4_choose_23 rfl rfl ?_
  refine z_getr fr_RX4_12 dX4_choose_24 ?_
  refine z_iload 0 dX4_choose_27 rfl ?_
  obtain ⟨r2042, t2043, hc2044, hF⟩ := zbd_at hF
  refine z_callVi (ctX0_isEmpty (E := E) (f := f - 1) (by omega) hc2044) yy_X0_isEmpty yv_X0_isEmpty ob_C_59 lk_RX4_228 (by omega) rfl rfl (Nat.le_of_ble_eq_true rfl) dX4_choose_29 ?_
  refine z_if_eq (tgt := 37) dX4_choose_32 (by decide) (fun hc => ?_) (fun hc => ?_)
  · have hF := zif_t hc hF
    refine z_aload_n 2 dX4_choose_37 rfl rfl ?_
    refine z_getr fr_RX4_48 dX4_choose_38 ?_
    refine z_iload_n 4 dX4_choose_41 rfl rfl ?_
    refine z_aload_n 2 dX4_choose_42 rfl rfl ?_
    refine z_getr fr_RX4_12 dX4_choose_43 ?_
    refine z_iload 0 dX4_choose_46 rfl ?_
    obtain ⟨r2045, t2046, hc2047, hF⟩ := zbd_at hF
    refine z_callVi (ctX0_remove (E := E) (f := f - 1) (by omega) hc2047) yy_X0_remove yv_X0_remove ob_C_59 lk_RX4_231 (by omega) rfl rfl (Nat.le_of_ble_eq_true rfl) dX4_choose_48 ?_
    obtain ⟨r2048, t2049, hc2050, hF⟩ := zbd_at hF
    refine z_callVi (ctX9_findBranch (E := E) (f := f - 1) (by omega) hc2050) yy_X9_findBranch yv_X9_findBranch ob_C_52 lk_RX4_237 (by omega) rfl rfl (Nat.le_of_ble_eq_true rfl) dX4_choose_51 ?_
    refine z_istore (lv' := [(5, .int r2048), (4, .int r2039), (3, .int r2036), (0, .ref (za E 7)), (1, .int x1), (2, .int x2)]) dX4_choose_54 (by decide) rfl ?_
    refine z_aload_n 3 dX4_choose_56 rfl rfl ?_
    refine z_getr fr_RX4_48 dX4_choose_57 ?_
    refine z_getr fr_RX4_240 dX4_choose_60 ?_
    refine z_iload 0 dX4_choose_63 rfl ?_
    obtain ⟨r2051, t2052, hc2053, hF⟩ := zbd_at hF
    refine z_callVi (ctX5_get (E := E) (sh := shC) (f := f - 1) (by omega) (k := 112) (n := 1600) rfl rfl hc2053) yy_X5_get yv_X5_get ob_C_112 lk_RX4_99 (by omega) rfl rfl (Nat.le_of_ble_eq_true rfl) dX4_choose_65 ?_
    refine z_iconst (v := 1) dX4_choose_68 (by decide) ?_
    refine z_icmp_ne (tgt := 78) dX4_choose_69 (by decide) (fun hc => ?_) (fun hc => ?_)
    · have hF := zif_f hc hF
      refine z_sub [3, 4, 5, 0] rfl ?_
      exact wbX4_choose_78 hf  x1 x2 r2048 _ hF
    · have hF := zif_t hc hF
      refine z_aload_n 3 dX4_choose_72 rfl rfl ?_
      refine z_iload_n 4 dX4_choose_73 rfl rfl ?_
      refine z_iload_n 2 dX4_choose_74 rfl rfl ?_
      obtain ⟨r2054, t2055, hc2056, hF⟩ := zbd_at hF
      refine z_callVv (ctX4_close (E := E) (f := f - 1) (by omega) hc2056) yy_X4_close yv_X4_close ob_C_7 lk_RX4_183 (by omega) rfl rfl (Nat.le_of_ble_eq_true rfl) dX4_choose_75 ?_
      refine z_sub [3, 4, 5, 0] rfl ?_
      exact wbX4_choose_78 hf  x1 x2 r2048 _ hF
  · have hF := zif_f hc hF
    refine z_iconst (v := 0) dX4_choose_35 (by decide) ?_
    exact z_zret hF (by decide) dX4_choose_36
-- SessionHouse$House.tellAll(IIII)Z
theorem dX4_tellAll_0 : decode cX4_tellAll 0 = .ok (.aload_n 0, 1) := by decide +kernel
theorem dX4_tellAll_1 : decode cX4_tellAll 1 = .ok (.getfield 48, 3) := by decide +kernel
theorem dX4_tellAll_4 : decode cX4_tellAll 4 = .ok (.getfield 213, 3) := by decide +kernel
theorem dX4_tellAll_7 : decode cX4_tellAll 7 = .ok (.iload_n 2, 1) := by decide +kernel
theorem dX4_tellAll_8 : decode cX4_tellAll 8 = .ok (.invokevirtual 99, 3) := by decide +kernel
theorem dX4_tellAll_11 : decode cX4_tellAll 11 = .ok (.istore 5, 2) := by decide +kernel
theorem dX4_tellAll_13 : decode cX4_tellAll 13 = .ok (.iload 5, 2) := by decide +kernel
theorem dX4_tellAll_15 : decode cX4_tellAll 15 = .ok (.istore 6, 2) := by decide +kernel
theorem dX4_tellAll_17 : decode cX4_tellAll 17 = .ok (.iload 6, 2) := by decide +kernel
theorem dX4_tellAll_19 : decode cX4_tellAll 19 = .ok (.aload_n 0, 1) := by decide +kernel
theorem dX4_tellAll_20 : decode cX4_tellAll 20 = .ok (.getfield 48, 3) := by decide +kernel
theorem dX4_tellAll_23 : decode cX4_tellAll 23 = .ok (.getfield 216, 3) := by decide +kernel
theorem dX4_tellAll_26 : decode cX4_tellAll 26 = .ok (.iload_n 2, 1) := by decide +kernel
theorem dX4_tellAll_27 : decode cX4_tellAll 27 = .ok (.invokevirtual 99, 3) := by decide +kernel
theorem dX4_tellAll_30 : decode cX4_tellAll 30 = .ok (.if_icmp .ge 117, 3) := by decide +kernel
theorem dX4_tellAll_33 : decode cX4_tellAll 33 = .ok (.iload 4, 2) := by decide +kernel
theorem dX4_tellAll_35 : decode cX4_tellAll 35 = .ok (.iload 6, 2) := by decide +kernel
theorem dX4_tellAll_37 : decode cX4_tellAll 37 = .ok (.iadd, 1) := by decide +kernel
theorem dX4_tellAll_38 : decode cX4_tellAll 38 = .ok (.iload 5, 2) := by decide +kernel
theorem dX4_tellAll_40 : decode cX4_tellAll 40 = .ok (.isub, 1) := by decide +kernel
theorem dX4_tellAll_41 : decode cX4_tellAll 41 = .ok (.istore 7, 2) := by decide +kernel
theorem dX4_tellAll_43 : decode cX4_tellAll 43 = .ok (.aload_n 0, 1) := by decide +kernel
theorem dX4_tellAll_44 : decode cX4_tellAll 44 = .ok (.getfield 52, 3) := by decide +kernel
theorem dX4_tellAll_47 : decode cX4_tellAll 47 = .ok (.iload_n 3, 1) := by decide +kernel
theorem dX4_tellAll_48 : decode cX4_tellAll 48 = .ok (.iload 7, 2) := by decide +kernel
theorem dX4_tellAll_50 : decode cX4_tellAll 50 = .ok (.invokevirtual 251, 3) := by decide +kernel
theorem dX4_tellAll_53 : decode cX4_tellAll 53 = .ok (.ifCond .lt 35, 3) := by decide +kernel
theorem dX4_tellAll_56 : decode cX4_tellAll 56 = .ok (.aload_n 0, 1) := by decide +kernel
theorem dX4_tellAll_57 : decode cX4_tellAll 57 = .ok (.getfield 30, 3) := by decide +kernel
theorem dX4_tellAll_60 : decode cX4_tellAll 60 = .ok (.iload 7, 2) := by decide +kernel
theorem dX4_tellAll_62 : decode cX4_tellAll 62 = .ok (.aload_n 0, 1) := by decide +kernel
theorem dX4_tellAll_63 : decode cX4_tellAll 63 = .ok (.getfield 21, 3) := by decide +kernel
theorem dX4_tellAll_66 : decode cX4_tellAll 66 = .ok (.iload_n 1, 1) := by decide +kernel
theorem dX4_tellAll_67 : decode cX4_tellAll 67 = .ok (.aload_n 0, 1) := by decide +kernel
theorem dX4_tellAll_68 : decode cX4_tellAll 68 = .ok (.getfield 44, 3) := by decide +kernel
theorem dX4_tellAll_71 : decode cX4_tellAll 71 = .ok (.getfield 254, 3) := by decide +kernel
theorem dX4_tellAll_74 : decode cX4_tellAll 74 = .ok (.iload 6, 2) := by decide +kernel
theorem dX4_tellAll_76 : decode cX4_tellAll 76 = .ok (.invokevirtual 99, 3) := by decide +kernel
theorem dX4_tellAll_79 : decode cX4_tellAll 79 = .ok (.invokevirtual 189, 3) := by decide +kernel
theorem dX4_tellAll_82 : decode cX4_tellAll 82 = .ok (.invokevirtual 62, 3) := by decide +kernel
theorem dX4_tellAll_85 : decode cX4_tellAll 85 = .ok (.goto 56, 3) := by decide +kernel
theorem dX4_tellAll_88 : decode cX4_tellAll 88 = .ok (.aload_n 0, 1) := by decide +kernel
theorem dX4_tellAll_89 : decode cX4_tellAll 89 = .ok (.iload_n 1, 1) := by decide +kernel
theorem dX4_tellAll_90 : decode cX4_tellAll 90 = .ok (.aload_n 0, 1) := by decide +kernel
theorem dX4_tellAll_91 : decode cX4_tellAll 91 = .ok (.getfield 44, 3) := by decide +kernel
theorem dX4_tellAll_94 : decode cX4_tellAll 94 = .ok (.getfield 257, 3) := by decide +kernel
theorem dX4_tellAll_97 : decode cX4_tellAll 97 = .ok (.iload 6, 2) := by decide +kernel
theorem dX4_tellAll_99 : decode cX4_tellAll 99 = .ok (.invokevirtual 99, 3) := by decide +kernel
theorem dX4_tellAll_102 : decode cX4_tellAll 102 = .ok (.aload_n 0, 1) := by decide +kernel
theorem dX4_tellAll_103 : decode cX4_tellAll 103 = .ok (.getfield 44, 3) := by decide +kernel
theorem dX4_tellAll_106 : decode cX4_tellAll 106 = .ok (.getfield 260, 3) := by decide +kernel
theorem dX4_tellAll_109 : decode cX4_tellAll 109 = .ok (.iload 6, 2) := by decide +kernel
theorem dX4_tellAll_111 : decode cX4_tellAll 111 = .ok (.invokevirtual 99, 3) := by decide +kernel
theorem dX4_tellAll_114 : decode cX4_tellAll 114 = .ok (.invokevirtual 219, 3) := by decide +kernel
theorem dX4_tellAll_117 : decode cX4_tellAll 117 = .ok (.ifCond .eq 22, 3) := by decide +kernel
theorem dX4_tellAll_120 : decode cX4_tellAll 120 = .ok (.aload_n 0, 1) := by decide +kernel
theorem dX4_tellAll_121 : decode cX4_tellAll 121 = .ok (.getfield 30, 3) := by decide +kernel
theorem dX4_tellAll_124 : decode cX4_tellAll 124 = .ok (.iload 7, 2) := by decide +kernel
theorem dX4_tellAll_126 : decode cX4_tellAll 126 = .ok (.aload_n 0, 1) := by decide +kernel
theorem dX4_tellAll_127 : decode cX4_tellAll 127 = .ok (.getfield 44, 3) := by decide +kernel
theorem dX4_tellAll_130 : decode cX4_tellAll 130 = .ok (.getfield 222, 3) := by decide +kernel
theorem dX4_tellAll_133 : decode cX4_tellAll 133 = .ok (.invokevirtual 62, 3) := by decide +kernel
theorem dX4_tellAll_136 : decode cX4_tellAll 136 = .ok (.goto 5, 3) := by decide +kernel
theorem dX4_tellAll_139 : decode cX4_tellAll 139 = .ok (.iconst 0, 1) := by decide +kernel
theorem dX4_tellAll_140 : decode cX4_tellAll 140 = .ok (.ireturn, 1) := by decide +kernel
theorem dX4_tellAll_141 : decode cX4_tellAll 141 = .ok (.iinc 6 1, 3) := by decide +kernel
theorem dX4_tellAll_144 : decode cX4_tellAll 144 = .ok (.goto (-127), 3) := by decide +kernel
theorem dX4_tellAll_147 : decode cX4_tellAll 147 = .ok (.iconst 1, 1) := by decide +kernel
theorem dX4_tellAll_148 : decode cX4_tellAll 148 = .ok (.ireturn, 1) := by decide +kernel
def bX4_tellAll_141 (k17 : Int32 → Int32 → Int32 → Int32 → Int32 → Int32 → zS → zR) (x1 : Int32) (x2 : Int32) (x3 : Int32) (x4 : Int32) (x5 : Int32) (x6 : Int32) (t : zS) : zR := zlet (x6 + 1) fun v2057 => k17 x1 x2 x3 x4 x5 v2057 t
def bX4_tellAll_17 (k17 : Int32 → Int32 → Int32 → Int32 → Int32 → Int32 → zS → zR) (x1 : Int32) (x2 : Int32) (x3 : Int32) (x4 : Int32) (x5 : Int32) (x6 : Int32) (t : zS) : zR := zbd (mX5_get 96 1000 x2 t) fun r2058 t2059 => if r2058 ≤ x6 then some (1, t2059) else zlet ((x4 + x6) - x5) fun v2061 => zbd (mX6_form x3 v2061 t2059) fun r2062 t2063 => if r2062 < 0 then zbd (mX5_get 78 1600 x6 t2063) fun r2065 t2066 => zbd (mX5_get 80 1600 x6 t2066) fun r2068 t2069 => zbd (mX4_work x1 r2065 r2068 t2069) fun r2071 t2072 => if r2071 = 0 then some (0, t2072) else zbd (mX5_set 61 1600 v2061 (t2072 51 8) t2072) fun r2074 t2075 => bX4_tellAll_141 k17 x1 x2 x3 x4 x5 x6 t2075 else zbd (mX5_get 82 1600 x6 t2063) fun r2077 t2078 => zbd (mX8_channel x1 r2077 t2078) fun r2080 t2081 => zbd (mX5_set 61 1600 v2061 r2080 t2081) fun r2083 t2084 => bX4_tellAll_141 k17 x1 x2 x3 x4 x5 x6 t2084
def lX4_tellAll_17 : Nat → Int32 → Int32 → Int32 → Int32 → Int32 → Int32 → zS → zR
  | 0, _, _, _, _, _, _, _ => none
  | fu + 1, x1, x2, x3, x4, x5, x6, t => bX4_tellAll_17 (lX4_tellAll_17  fu) x1 x2 x3 x4 x5 x6 t
def mX4_tellAll (x1 : Int32) (x2 : Int32) (x3 : Int32) (x4 : Int32) (t : zS) : zR := zbd (mX5_get 94 1000 x2 t) fun r2086 t2087 => lX4_tellAll_17  zFU x1 x2 x3 x4 r2086 r2086 t2087
set_option maxHeartbeats 4000000 in
set_option maxRecDepth 20000 in
theorem wbX4_tellAll_141 {E : zE} {C : zC} {f : Nat} {ro : Int32 × zS} (hf : 4 ≤ f) (k17 : Int32 → Int32 → Int32 → Int32 → Int32 → Int32 → zS → zR) (hk17 : ∀ (x1 x2 x3 x4 x5 x6 : Int32) (t : zS), k17 x1 x2 x3 x4 x5 x6 t = some ro → zJ E shC C cX4_tellAll RX4 8 f (some .boolean) ro t 17 [(0, .ref (za E 7)), (1, .int x1), (2, .int x2), (3, .int x3), (4, .int x4), (5, .int x5), (6, .int x6)] []) (x1 : Int32) (x2 : Int32) (x3 : Int32) (x4 : Int32) (x5 : Int32) (x6 : Int32) (t : zS) (hF : bX4_tellAll_141 k17 x1 x2 x3 x4 x5 x6 t = some ro) : zJ E shC C cX4_tellAll RX4 8 f (some .boolean) ro t 141 [(0, .ref (za E 7)), (1, .int x1), (2, .int x2), (3, .int x3), (4, .int x4), (5, .int x5), (6, .int x6)] [] := by
  unfold bX4_tellAll_141 at hF
  obtain ⟨v2057, ev2057⟩ : ∃ y : Int32, y = (x6 + 1) := ⟨_, rfl⟩
  have hF := zlet_at ev2057 hF
  refine z_iinc (v := v2057) (lv' := [(6, .int v2057), (0, .ref (za E 7)), (1, .int x1), (2, .int x2), (3, .int x3), (4, .int x4), (5, .int x5)]) (k := 6) dX4_tellAll_141 rfl (by rw [ev2057]; rfl) (by decide) rfl ?_
  refine z_goto (tgt := 17) dX4_tellAll_144 (by decide) ?_
  refine z_sub [1, 2, 3, 4, 5, 6, 0] rfl ?_
  exact hk17 x1 x2 x3 x4 x5 v2057 _ hF
set_option maxHeartbeats 4000000 in
set_option maxRecDepth 20000 in
theorem wbX4_tellAll_17 {E : zE} {C : zC} {f : Nat} {ro : Int32 × zS} (hf : 4 ≤ f) (k17 : Int32 → Int32 → Int32 → Int32 → Int32 → Int32 → zS → zR) (hk17 : ∀ (x1 x2 x3 x4 x5 x6 : Int32) (t : zS), k17 x1 x2 x3 x4 x5 x6 t = some ro → zJ E shC C cX4_tellAll RX4 8 f (some .boolean) ro t 17 [(0, .ref (za E 7)), (1, .int x1), (2, .int x2), (3, .int x3), (4, .int x4), (5, .int x5), (6, .int x6)] []) (x1 : Int32) (x2 : Int32) (x3 : Int32) (x4 : Int32) (x5 : Int32) (x6 : Int32) (t : zS) (hF : bX4_tellAll_17 k17 x1 x2 x3 x4 x5 x6 t = some ro) : zJ E shC C cX4_tellAll RX4 8 f (some .boolean) ro t 17 [(0, .ref (za E 7)), (1, .int x1), (2, .int x2), (3, .int x3), (4, .int x4), (5, .int x5), (6, .int x6)] [] := by
  unfold bX4_tellAll_17 at hF
  refine z_iload 6 dX4_tellAll_17 rfl ?_
  refine z_aload_n 0 dX4_tellAll_19 rfl rfl ?_
  refine z_getr fr_RX4_48 dX4_tellAll_20 ?_
  refine z_getr fr_RX4_216 dX4_tellAll_23 ?_
  refine z_iload_n 2 dX4_tellAll_26 rfl rfl ?_
  obtain ⟨r2058, t2059, hc2060, hF⟩ := zbd_at hF
  refine z_callVi (ctX5_get (E := E) (sh := shC) (f := f - 1) (by omega) (k := 96) (n := 1000) rfl rfl hc2060) yy_X5_get yv_X5_get ob_C_96 lk_RX4_99 (by omega) rfl rfl (Nat.le_of_ble_eq_true rfl) dX4_tellAll_27 ?_
  refine z_icmp_ge (tgt := 147) dX4_tellAll_30 (by decide) (fun hc => ?_) (fun hc => ?_)
  · have hF := zif_t hc hF
    refine z_iconst (v := 1) dX4_tellAll_147 (by decide) ?_
    exact z_zret hF (by decide) dX4_tellAll_148
  · have hF := zif_f hc hF
    refine z_iload 4 dX4_tellAll_33 rfl ?_
    refine z_iload 6 dX4_tellAll_35 rfl ?_
    refine z_iadd dX4_tellAll_37 ?_
    refine z_iload 5 dX4_tellAll_38 rfl ?_
    refine z_isub dX4_tellAll_40 ?_
    refine z_topi (fun v2061 ev2061 => ?_)
    have hF := zlet_at ev2061 hF
    refine z_istore (lv' := [(7, .int v2061), (0, .ref (za E 7)), (1, .int x1), (2, .int x2), (3, .int x3), (4, .int x4), (5, .int x5), (6, .int x6)]) dX4_tellAll_41 (by decide) rfl ?_
    refine z_aload_n 1 dX4_tellAll_43 rfl rfl ?_
    refine z_getr fr_RX4_52 dX4_tellAll_44 ?_
    refine z_iload_n 4 dX4_tellAll_47 rfl rfl ?_
    refine z_iload 0 dX4_tellAll_48 rfl ?_
    obtain ⟨r2062, t2063, hc2064, hF⟩ := zbd_at hF
    refine z_callVi (ctX6_form (E := E) (f := f - 1) (by omega) hc2064) yy_X6_form yv_X6_form ob_C_4 lk_RX4_251 (by omega) rfl rfl (Nat.le_of_ble_eq_true rfl) dX4_tellAll_50 ?_
    refine z_if_lt (tgt := 88) dX4_tellAll_53 (by decide) (fun hc => ?_) (fun hc => ?_)
    · have hF := zif_t hc hF
      refine z_aload_n 1 dX4_tellAll_88 rfl rfl ?_
      refine z_iload_n 2 dX4_tellAll_89 rfl rfl ?_
      refine z_aload_n 1 dX4_tellAll_90 rfl rfl ?_
      refine z_getr fr_RX4_44 dX4_tellAll_91 ?_
      refine z_getr fr_RX4_257 dX4_tellAll_94 ?_
      refine z_iload 7 dX4_tellAll_97 rfl ?_
      obtain ⟨r2065, t2066, hc2067, hF⟩ := zbd_at hF
      refine z_callVi (ctX5_get (E := E) (sh := shC) (f := f - 1) (by omega) (k := 78) (n := 1600) rfl rfl hc2067) yy_X5_get yv_X5_get ob_C_78 lk_RX4_99 (by omega) rfl rfl (Nat.le_of_ble_eq_true rfl) dX4_tellAll_99 ?_
      refine z_aload_n 1 dX4_tellAll_102 rfl rfl ?_
      refine z_getr fr_RX4_44 dX4_tellAll_103 ?_
      refine z_getr fr_RX4_260 dX4_tellAll_106 ?_
      refine z_iload 7 dX4_tellAll_109 rfl ?_
      obtain ⟨r2068, t2069, hc2070, hF⟩ := zbd_at hF
      refine z_callVi (ctX5_get (E := E) (sh := shC) (f := f - 1) (by omega) (k := 80) (n := 1600) rfl rfl hc2070) yy_X5_get yv_X5_get ob_C_80 lk_RX4_99 (by omega) rfl rfl (Nat.le_of_ble_eq_true rfl) dX4_tellAll_111 ?_
      obtain ⟨r2071, t2072, hc2073, hF⟩ := zbd_at hF
      refine z_callVi (ctX4_work (E := E) (f := f - 1) (by omega) hc2073) yy_X4_work yv_X4_work ob_C_7 lk_RX4_219 (by omega) rfl rfl (Nat.le_of_ble_eq_true rfl) dX4_tellAll_114 ?_
      refine z_if_eq (tgt := 139) dX4_tellAll_117 (by decide) (fun hc => ?_) (fun hc => ?_)
      · have hF := zif_t hc hF
        refine z_iconst (v := 0) dX4_tellAll_139 (by decide) ?_
        exact z_zret hF (by decide) dX4_tellAll_140
      · have hF := zif_f hc hF
        refine z_aload_n 1 dX4_tellAll_120 rfl rfl ?_
        refine z_getr fr_RX4_30 dX4_tellAll_121 ?_
        refine z_iload 0 dX4_tellAll_124 rfl ?_
        refine z_aload_n 1 dX4_tellAll_126 rfl rfl ?_
        refine z_getr fr_RX4_44 dX4_tellAll_127 ?_
        refine z_geti fi_RX4_222 dX4_tellAll_130 ?_
        obtain ⟨r2074, t2075, hc2076, hF⟩ := zbd_at hF
        refine z_callVv (ctX5_set (E := E) (sh := shC) (f := f - 1) (by omega) (k := 61) (n := 1600) rfl rfl hc2076) yy_X5_set yv_X5_set ob_C_61 lk_RX4_62 (by omega) rfl rfl (Nat.le_of_ble_eq_true rfl) dX4_tellAll_133 ?_
        refine z_goto (tgt := 141) dX4_tellAll_136 (by decide) ?_
        refine z_sub [1, 2, 3, 4, 5, 6, 7] rfl ?_
        exact wbX4_tellAll_141 hf k17 hk17 x1 x2 x3 x4 x5 x6 _ hF
    · have hF := zif_f hc hF
      refine z_aload_n 1 dX4_tellAll_56 rfl rfl ?_
      refine z_getr fr_RX4_30 dX4_tellAll_57 ?_
      refine z_iload 0 dX4_tellAll_60 rfl ?_
      refine z_aload_n 1 dX4_tellAll_62 rfl rfl ?_
      refine z_getr fr_RX4_21 dX4_tellAll_63 ?_
      refine z_iload_n 2 dX4_tellAll_66 rfl rfl ?_
      refine z_aload_n 1 dX4_tellAll_67 rfl rfl ?_
      refine z_getr fr_RX4_44 dX4_tellAll_68 ?_
      refine z_getr fr_RX4_254 dX4_tellAll_71 ?_
      refine z_iload 7 dX4_tellAll_74 rfl ?_
      obtain ⟨r2077, t2078, hc2079, hF⟩ := zbd_at hF
      refine z_callVi (ctX5_get (E := E) (sh := shC) (f := f - 1) (by omega) (k := 82) (n := 1600) rfl rfl hc2079) yy_X5_get yv_X5_get ob_C_82 lk_RX4_99 (by omega) rfl rfl (Nat.le_of_ble_eq_true rfl) dX4_tellAll_76 ?_
      obtain ⟨r2080, t2081, hc2082, hF⟩ := zbd_at hF
      refine z_callVi (ctX8_channel (E := E) (f := f - 1) (by omega) hc2082) yy_X8_channel yv_X8_channel ob_C_60 lk_RX4_189 (by omega) rfl rfl (Nat.le_of_ble_eq_true rfl) dX4_tellAll_79 ?_
      obtain ⟨r2083, t2084, hc2085, hF⟩ := zbd_at hF
      refine z_callVv (ctX5_set (E := E) (sh := shC) (f := f - 1) (by omega) (k := 61) (n := 1600) rfl rfl hc2085) yy_X5_set yv_X5_set ob_C_61 lk_RX4_62 (by omega) rfl rfl (Nat.le_of_ble_eq_true rfl) dX4_tellAll_82 ?_
      refine z_goto (tgt := 141) dX4_tellAll_85 (by decide) ?_
      refine z_sub [1, 2, 3, 4, 5, 6, 7] rfl ?_
      exact wbX4_tellAll_141 hf k17 hk17 x1 x2 x3 x4 x5 x6 _ hF
set_option maxHeartbeats 4000000 in
set_option maxRecDepth 20000 in
theorem wlX4_tellAll_17 {E : zE} {C : zC} {f : Nat} {ro : Int32 × zS} (hf : 4 ≤ f) (fu : Nat) : ∀ (x1 x2 x3 x4 x5 x6 : Int32) (t : zS), lX4_tellAll_17  fu x1 x2 x3 x4 x5 x6 t = some ro → zJ E shC C cX4_tellAll RX4 8 f (some .boolean) ro t 17 [(0, .ref (za E 7)), (1, .int x1), (2, .int x2), (3, .int x3), (4, .int x4), (5, .int x5), (6, .int x6)] [] := by
  induction fu with
  | zero => intro x1 x2 x3 x4 x5 x6 t hF; cases hF
  | succ fu ih => intro x1 x2 x3 x4 x5 x6 t hF; exact wbX4_tellAll_17 hf (lX4_tellAll_17  fu) ih x1 x2 x3 x4 x5 x6 t hF
set_option maxHeartbeats 4000000 in
set_option maxRecDepth 20000 in
theorem ctX4_tellAll {E : zE} {f : Nat} (hf : 4 ≤ f) {x1 : Int32} {x2 : Int32} {x3 : Int32} {x4 : Int32} {t : zS} {ro : Int32 × zS} (hF : mX4_tellAll  x1 x2 x3 x4 t = some ro) : zM E shC f yX4_tellAll cX4_tellAll 8 (some .boolean) [.ref (za E 7), .int x1, .int x2, .int x3, .int x4] t ro := by
  refine zM_of (by decide) (Nat.le_of_ble_eq_true rfl) (fun C => ?_)
  show zJ E shC C cX4_tellAll RX4 8 f (some .boolean) ro t 0 [(0, .ref (za E 7)), (1, .int x1), (2, .int x2), (3, .int x3), (4, .int x4)] []
  unfold mX4_tellAll at hF
  refine z_aload_n 0 dX4_tellAll_0 rfl rfl ?_
  refine z_getr fr_RX4_48 dX4_tellAll_1 ?_
  refine z_getr fr_RX4_213 dX4_tellAll_4 ?_
  refine z_iload_n 2 dX4_tellAll_7 rfl rfl ?_
  obtain ⟨r2086, t2087, hc2088, hF⟩ := zbd_at hF
  refine z_callVi (ctX5_get (E := E) (sh := shC) (f := f - 1) (by omega) (k := 94) (n := 1000) rfl rfl hc2088) yy_X5_get yv_X5_get ob_C_94 lk_RX4_99 (by omega) rfl rfl (Nat.le_of_ble_eq_true rfl) dX4_tellAll_8 ?_
  refine z_istore (lv' := [(5, .int r2086), (0, .ref (za E 7)), (1, .int x1), (2, .int x2), (3, .int x3), (4, .int x4)]) dX4_tellAll_11 (by decide) rfl ?_
  refine z_iload 0 dX4_tellAll_13 rfl ?_
  refine z_istore (lv' := [(6, .int r2086), (5, .int r2086), (0, .ref (za E 7)), (1, .int x1), (2, .int x2), (3, .int x3), (4, .int x4)]) dX4_tellAll_15 (by decide) rfl ?_
  refine z_sub [2, 3, 4, 5, 6, 1, 0] rfl ?_
  exact wlX4_tellAll_17 hf  zFU x1 x2 x3 x4 r2086 r2086 _ hF
-- SessionHouse$House.claim(I)Z
theorem dX4_claim_0 : decode cX4_claim 0 = .ok (.aload_n 0, 1) := by decide +kernel
theorem dX4_claim_1 : decode cX4_claim 1 = .ok (.getfield 75, 3) := by decide +kernel
theorem dX4_claim_4 : decode cX4_claim 4 = .ok (.iload_n 1, 1) := by decide +kernel
theorem dX4_claim_5 : decode cX4_claim 5 = .ok (.iadd, 1) := by decide +kernel
theorem dX4_claim_6 : decode cX4_claim 6 = .ok (.aload_n 0, 1) := by decide +kernel
theorem dX4_claim_7 : decode cX4_claim 7 = .ok (.getfield 84, 3) := by decide +kernel
theorem dX4_claim_10 : decode cX4_claim 10 = .ok (.if_icmp .le 10, 3) := by decide +kernel
theorem dX4_claim_13 : decode cX4_claim 13 = .ok (.aload_n 0, 1) := by decide +kernel
theorem dX4_claim_14 : decode cX4_claim 14 = .ok (.iconst 4, 1) := by decide +kernel
theorem dX4_claim_15 : decode cX4_claim 15 = .ok (.putfield 40, 3) := by decide +kernel
theorem dX4_claim_18 : decode cX4_claim 18 = .ok (.iconst 0, 1) := by decide +kernel
theorem dX4_claim_19 : decode cX4_claim 19 = .ok (.ireturn, 1) := by decide +kernel
theorem dX4_claim_20 : decode cX4_claim 20 = .ok (.aload_n 0, 1) := by decide +kernel
theorem dX4_claim_21 : decode cX4_claim 21 = .ok (.dup, 1) := by decide +kernel
theorem dX4_claim_22 : decode cX4_claim 22 = .ok (.getfield 75, 3) := by decide +kernel
theorem dX4_claim_25 : decode cX4_claim 25 = .ok (.iload_n 1, 1) := by decide +kernel
theorem dX4_claim_26 : decode cX4_claim 26 = .ok (.iadd, 1) := by decide +kernel
theorem dX4_claim_27 : decode cX4_claim 27 = .ok (.putfield 75, 3) := by decide +kernel
theorem dX4_claim_30 : decode cX4_claim 30 = .ok (.iconst 1, 1) := by decide +kernel
theorem dX4_claim_31 : decode cX4_claim 31 = .ok (.ireturn, 1) := by decide +kernel
def mX4_claim (x1 : Int32) (t : zS) : zR := if ((t 7 14) + x1) ≤ (t 7 15) then zpt t 7 14 ((t 7 14) + x1) fun t2089 => some (1, t2089) else zpt t 7 16 4 fun t2090 => some (0, t2090)
set_option maxHeartbeats 4000000 in
set_option maxRecDepth 20000 in
theorem ctX4_claim {E : zE} {f : Nat} (hf : 1 ≤ f) {x1 : Int32} {t : zS} {ro : Int32 × zS} (hF : mX4_claim  x1 t = some ro) : zM E shC f yX4_claim cX4_claim 2 (some .boolean) [.ref (za E 7), .int x1] t ro := by
  refine zM_of (by decide) (Nat.le_of_ble_eq_true rfl) (fun C => ?_)
  show zJ E shC C cX4_claim RX4 2 f (some .boolean) ro t 0 [(0, .ref (za E 7)), (1, .int x1)] []
  unfold mX4_claim at hF
  refine z_aload_n 0 dX4_claim_0 rfl rfl ?_
  refine z_geti fi_RX4_75 dX4_claim_1 ?_
  refine z_iload_n 1 dX4_claim_4 rfl rfl ?_
  refine z_iadd dX4_claim_5 ?_
  refine z_aload_n 0 dX4_claim_6 rfl rfl ?_
  refine z_geti fi_RX4_84 dX4_claim_7 ?_
  refine z_icmp_le (tgt := 20) dX4_claim_10 (by decide) (fun hc => ?_) (fun hc => ?_)
  · have hF := zif_t hc hF
    refine z_aload_n 0 dX4_claim_20 rfl rfl ?_
    refine z_dup dX4_claim_21 rfl ?_
    refine z_geti fi_RX4_75 dX4_claim_22 ?_
    refine z_iload_n 1 dX4_claim_25 rfl rfl ?_
    refine z_iadd dX4_claim_26 ?_
    refine z_puti fw_RX4_75 dX4_claim_27 (fun t2089 et2089 => ?_)
    have hF := zpt_at hF t2089 et2089
    refine z_iconst (v := 1) dX4_claim_30 (by decide) ?_
    exact z_zret hF (by decide) dX4_claim_31
  · have hF := zif_f hc hF
    refine z_aload_n 0 dX4_claim_13 rfl rfl ?_
    refine z_iconst (v := 4) dX4_claim_14 (by decide) ?_
    refine z_puti fw_RX4_40 dX4_claim_15 (fun t2090 et2090 => ?_)
    have hF := zpt_at hF t2090 et2090
    refine z_iconst (v := 0) dX4_claim_18 (by decide) ?_
    exact z_zret hF (by decide) dX4_claim_19
-- SessionHouse$House.handOver(III)V
theorem dX4_handOver_0 : decode cX4_handOver 0 = .ok (.iload_n 3, 1) := by decide +kernel
theorem dX4_handOver_1 : decode cX4_handOver 1 = .ok (.istore 4, 2) := by decide +kernel
theorem dX4_handOver_3 : decode cX4_handOver 3 = .ok (.iload 4, 2) := by decide +kernel
theorem dX4_handOver_5 : decode cX4_handOver 5 = .ok (.aload_n 0, 1) := by decide +kernel
theorem dX4_handOver_6 : decode cX4_handOver 6 = .ok (.getfield 52, 3) := by decide +kernel
theorem dX4_handOver_9 : decode cX4_handOver 9 = .ok (.getfield 263, 3) := by decide +kernel
theorem dX4_handOver_12 : decode cX4_handOver 12 = .ok (.iload_n 2, 1) := by decide +kernel
theorem dX4_handOver_13 : decode cX4_handOver 13 = .ok (.invokevirtual 99, 3) := by decide +kernel
theorem dX4_handOver_16 : decode cX4_handOver 16 = .ok (.if_icmp .ge 63, 3) := by decide +kernel
theorem dX4_handOver_19 : decode cX4_handOver 19 = .ok (.aload_n 0, 1) := by decide +kernel
theorem dX4_handOver_20 : decode cX4_handOver 20 = .ok (.getfield 52, 3) := by decide +kernel
theorem dX4_handOver_23 : decode cX4_handOver 23 = .ok (.iload_n 2, 1) := by decide +kernel
theorem dX4_handOver_24 : decode cX4_handOver 24 = .ok (.iload 4, 2) := by decide +kernel
theorem dX4_handOver_26 : decode cX4_handOver 26 = .ok (.invokevirtual 251, 3) := by decide +kernel
theorem dX4_handOver_29 : decode cX4_handOver 29 = .ok (.ifCond .lt 25, 3) := by decide +kernel
theorem dX4_handOver_32 : decode cX4_handOver 32 = .ok (.aload_n 0, 1) := by decide +kernel
theorem dX4_handOver_33 : decode cX4_handOver 33 = .ok (.getfield 21, 3) := by decide +kernel
theorem dX4_handOver_36 : decode cX4_handOver 36 = .ok (.iload_n 1, 1) := by decide +kernel
theorem dX4_handOver_37 : decode cX4_handOver 37 = .ok (.iload 4, 2) := by decide +kernel
theorem dX4_handOver_39 : decode cX4_handOver 39 = .ok (.aload_n 0, 1) := by decide +kernel
theorem dX4_handOver_40 : decode cX4_handOver 40 = .ok (.getfield 30, 3) := by decide +kernel
theorem dX4_handOver_43 : decode cX4_handOver 43 = .ok (.iload 4, 2) := by decide +kernel
theorem dX4_handOver_45 : decode cX4_handOver 45 = .ok (.invokevirtual 99, 3) := by decide +kernel
theorem dX4_handOver_48 : decode cX4_handOver 48 = .ok (.invokevirtual 200, 3) := by decide +kernel
theorem dX4_handOver_51 : decode cX4_handOver 51 = .ok (.goto 22, 3) := by decide +kernel
theorem dX4_handOver_54 : decode cX4_handOver 54 = .ok (.aload_n 0, 1) := by decide +kernel
theorem dX4_handOver_55 : decode cX4_handOver 55 = .ok (.getfield 21, 3) := by decide +kernel
theorem dX4_handOver_58 : decode cX4_handOver 58 = .ok (.iload_n 1, 1) := by decide +kernel
theorem dX4_handOver_59 : decode cX4_handOver 59 = .ok (.iload 4, 2) := by decide +kernel
theorem dX4_handOver_61 : decode cX4_handOver 61 = .ok (.aload_n 0, 1) := by decide +kernel
theorem dX4_handOver_62 : decode cX4_handOver 62 = .ok (.getfield 30, 3) := by decide +kernel
theorem dX4_handOver_65 : decode cX4_handOver 65 = .ok (.iload 4, 2) := by decide +kernel
theorem dX4_handOver_67 : decode cX4_handOver 67 = .ok (.invokevirtual 99, 3) := by decide +kernel
theorem dX4_handOver_70 : decode cX4_handOver 70 = .ok (.invokevirtual 234, 3) := by decide +kernel
theorem dX4_handOver_73 : decode cX4_handOver 73 = .ok (.iinc 4 1, 3) := by decide +kernel
theorem dX4_handOver_76 : decode cX4_handOver 76 = .ok (.goto (-73), 3) := by decide +kernel
theorem dX4_handOver_79 : decode cX4_handOver 79 = .ok (.return_, 1) := by decide +kernel
def bX4_handOver_73 (k3 : Int32 → Int32 → Int32 → zS → zR) (x1 : Int32) (x2 : Int32) (x4 : Int32) (t : zS) : zR := zlet (x4 + 1) fun v2091 => k3 x1 x2 v2091 t
def bX4_handOver_3 (k3 : Int32 → Int32 → Int32 → zS → zR) (x1 : Int32) (x2 : Int32) (x4 : Int32) (t : zS) : zR := zbd (mX5_get 36 400 x2 t) fun r2092 t2093 => if r2092 ≤ x4 then some (0, t2093) else zbd (mX6_form x2 x4 t2093) fun r2095 t2096 => if r2095 < 0 then zbd (mX5_get 61 1600 x4 t2096) fun r2098 t2099 => zbd (mX8_setNumber x1 x4 r2098 t2099) fun r2101 t2102 => bX4_handOver_73 k3 x1 x2 x4 t2102 else zbd (mX5_get 61 1600 x4 t2096) fun r2104 t2105 => zbd (mX8_setChannel x1 x4 r2104 t2105) fun r2107 t2108 => bX4_handOver_73 k3 x1 x2 x4 t2108
def lX4_handOver_3 : Nat → Int32 → Int32 → Int32 → zS → zR
  | 0, _, _, _, _ => none
  | fu + 1, x1, x2, x4, t => bX4_handOver_3 (lX4_handOver_3  fu) x1 x2 x4 t
def mX4_handOver (x1 : Int32) (x2 : Int32) (x3 : Int32) (t : zS) : zR := lX4_handOver_3  zFU x1 x2 x3 t
set_option maxHeartbeats 4000000 in
set_option maxRecDepth 20000 in
theorem wbX4_handOver_73 {E : zE} {C : zC} {f : Nat} {ro : Int32 × zS} (hf : 3 ≤ f) (k3 : Int32 → Int32 → Int32 → zS → zR) (hk3 : ∀ (x1 x2 x4 : Int32) (t : zS), k3 x1 x2 x4 t = some ro → zJ E shC C cX4_handOver RX4 5 f none ro t 3 [(0, .ref (za E 7)), (1, .int x1), (2, .int x2), (4, .int x4)] []) (x1 : Int32) (x2 : Int32) (x4 : Int32) (t : zS) (hF : bX4_handOver_73 k3 x1 x2 x4 t = some ro) : zJ E shC C cX4_handOver RX4 5 f none ro t 73 [(0, .ref (za E 7)), (1, .int x1), (2, .int x2), (4, .int x4)] [] := by
  unfold bX4_handOver_73 at hF
  obtain ⟨v2091, ev2091⟩ : ∃ y : Int32, y = (x4 + 1) := ⟨_, rfl⟩
  have hF := zlet_at ev2091 hF
  refine z_iinc (v := v2091) (lv' := [(4, .int v2091), (0, .ref (za E 7)), (1, .int x1), (2, .int x2)]) (k := 3) dX4_handOver_73 rfl (by rw [ev2091]; rfl) (by decide) rfl ?_
  refine z_goto (tgt := 3) dX4_handOver_76 (by decide) ?_
  refine z_sub [1, 2, 3, 0] rfl ?_
  exact hk3 x1 x2 v2091 _ hF
set_option maxHeartbeats 4000000 in
set_option maxRecDepth 20000 in
theorem wbX4_handOver_3 {E : zE} {C : zC} {f : Nat} {ro : Int32 × zS} (hf : 3 ≤ f) (k3 : Int32 → Int32 → Int32 → zS → zR) (hk3 : ∀ (x1 x2 x4 : Int32) (t : zS), k3 x1 x2 x4 t = some ro → zJ E shC C cX4_handOver RX4 5 f none ro t 3 [(0, .ref (za E 7)), (1, .int x1), (2, .int x2), (4, .int x4)] []) (x1 : Int32) (x2 : Int32) (x4 : Int32) (t : zS) (hF : bX4_handOver_3 k3 x1 x2 x4 t = some ro) : zJ E shC C cX4_handOver RX4 5 f none ro t 3 [(0, .ref (za E 7)), (1, .int x1), (2, .int x2), (4, .int x4)] [] := by
  unfold bX4_handOver_3 at hF
  refine z_iload 3 dX4_handOver_3 rfl ?_
  refine z_aload_n 0 dX4_handOver_5 rfl rfl ?_
  refine z_getr fr_RX4_52 dX4_handOver_6 ?_
  refine z_getr fr_RX4_263 dX4_handOver_9 ?_
  refine z_iload_n 2 dX4_handOver_12 rfl rfl ?_
  obtain ⟨r2092, t2093, hc2094, hF⟩ := zbd_at hF
  refine z_callVi (ctX5_get (E := E) (sh := shC) (f := f - 1) (by omega) (k := 36) (n := 400) rfl rfl hc2094) yy_X5_get yv_X5_get ob_C_36 lk_RX4_99 (by omega) rfl rfl (Nat.le_of_ble_eq_true rfl) dX4_handOver_13 ?_
  refine z_icmp_ge (tgt := 79) dX4_handOver_16 (by decide) (fun hc => ?_) (fun hc => ?_)
  · have hF := zif_t hc hF
    exact z_vret hF dX4_handOver_79
  · have hF := zif_f hc hF
    refine z_aload_n 0 dX4_handOver_19 rfl rfl ?_
    refine z_getr fr_RX4_52 dX4_handOver_20 ?_
    refine z_iload_n 2 dX4_handOver_23 rfl rfl ?_
    refine z_iload 3 dX4_handOver_24 rfl ?_
    obtain ⟨r2095, t2096, hc2097, hF⟩ := zbd_at hF
    refine z_callVi (ctX6_form (E := E) (f := f - 1) (by omega) hc2097) yy_X6_form yv_X6_form ob_C_4 lk_RX4_251 (by omega) rfl rfl (Nat.le_of_ble_eq_true rfl) dX4_handOver_26 ?_
    refine z_if_lt (tgt := 54) dX4_handOver_29 (by decide) (fun hc => ?_) (fun hc => ?_)
    · have hF := zif_t hc hF
      refine z_aload_n 0 dX4_handOver_54 rfl rfl ?_
      refine z_getr fr_RX4_21 dX4_handOver_55 ?_
      refine z_iload_n 1 dX4_handOver_58 rfl rfl ?_
      refine z_iload 3 dX4_handOver_59 rfl ?_
      refine z_aload_n 0 dX4_handOver_61 rfl rfl ?_
      refine z_getr fr_RX4_30 dX4_handOver_62 ?_
      refine z_iload 3 dX4_handOver_65 rfl ?_
      obtain ⟨r2098, t2099, hc2100, hF⟩ := zbd_at hF
      refine z_callVi (ctX5_get (E := E) (sh := shC) (f := f - 1) (by omega) (k := 61) (n := 1600) rfl rfl hc2100) yy_X5_get yv_X5_get ob_C_61 lk_RX4_99 (by omega) rfl rfl (Nat.le_of_ble_eq_true rfl) dX4_handOver_67 ?_
      obtain ⟨r2101, t2102, hc2103, hF⟩ := zbd_at hF
      refine z_callVv (ctX8_setNumber (E := E) (f := f - 1) (by omega) hc2103) yy_X8_setNumber yv_X8_setNumber ob_C_60 lk_RX4_234 (by omega) rfl rfl (Nat.le_of_ble_eq_true rfl) dX4_handOver_70 ?_
      exact wbX4_handOver_73 hf k3 hk3 x1 x2 x4 _ hF
    · have hF := zif_f hc hF
      refine z_aload_n 0 dX4_handOver_32 rfl rfl ?_
      refine z_getr fr_RX4_21 dX4_handOver_33 ?_
      refine z_iload_n 1 dX4_handOver_36 rfl rfl ?_
      refine z_iload 3 dX4_handOver_37 rfl ?_
      refine z_aload_n 0 dX4_handOver_39 rfl rfl ?_
      refine z_getr fr_RX4_30 dX4_handOver_40 ?_
      refine z_iload 3 dX4_handOver_43 rfl ?_
      obtain ⟨r2104, t2105, hc2106, hF⟩ := zbd_at hF
      refine z_callVi (ctX5_get (E := E) (sh := shC) (f := f - 1) (by omega) (k := 61) (n := 1600) rfl rfl hc2106) yy_X5_get yv_X5_get ob_C_61 lk_RX4_99 (by omega) rfl rfl (Nat.le_of_ble_eq_true rfl) dX4_handOver_45 ?_
      obtain ⟨r2107, t2108, hc2109, hF⟩ := zbd_at hF
      refine z_callVv (ctX8_setChannel (E := E) (f := f - 1) (by omega) hc2109) yy_X8_setChannel yv_X8_setChannel ob_C_60 lk_RX4_200 (by omega) rfl rfl (Nat.le_of_ble_eq_true rfl) dX4_handOver_48 ?_
      refine z_goto (tgt := 73) dX4_handOver_51 (by decide) ?_
      exact wbX4_handOver_73 hf k3 hk3 x1 x2 x4 _ hF
set_option maxHeartbeats 4000000 in
set_option maxRecDepth 20000 in
theorem wlX4_handOver_3 {E : zE} {C : zC} {f : Nat} {ro : Int32 × zS} (hf : 3 ≤ f) (fu : Nat) : ∀ (x1 x2 x4 : Int32) (t : zS), lX4_handOver_3  fu x1 x2 x4 t = some ro → zJ E shC C cX4_handOver RX4 5 f none ro t 3 [(0, .ref (za E 7)), (1, .int x1), (2, .int x2), (4, .int x4)] [] := by
  induction fu with
  | zero => intro x1 x2 x4 t hF; cases hF
  | succ fu ih => intro x1 x2 x4 t hF; exact wbX4_handOver_3 hf (lX4_handOver_3  fu) ih x1 x2 x4 t hF
set_option maxHeartbeats 4000000 in
set_option maxRecDepth 20000 in
theorem ctX4_handOver {E : zE} {f : Nat} (hf : 3 ≤ f) {x1 : Int32} {x2 : Int32} {x3 : Int32} {t : zS} {ro : Int32 × zS} (hF : mX4_handOver  x1 x2 x3 t = some ro) : zM E shC f yX4_handOver cX4_handOver 5 none [.ref (za E 7), .int x1, .int x2, .int x3] t ro := by
  refine zM_of (by decide) (Nat.le_of_ble_eq_true rfl) (fun C => ?_)
  show zJ E shC C cX4_handOver RX4 5 f none ro t 0 [(0, .ref (za E 7)), (1, .int x1), (2, .int x2), (3, .int x3)] []
  unfold mX4_handOver at hF
  refine z_iload_n 3 dX4_handOver_0 rfl rfl ?_
  refine z_istore (lv' := [(4, .int x3), (0, .ref (za E 7)), (1, .int x1), (2, .int x2), (3, .int x3)]) dX4_handOver_1 (by decide) rfl ?_
  refine z_sub [1, 2, 3, 0] rfl ?_
  exact wlX4_handOver_3 hf  zFU x1 x2 x3 _ hF
-- SessionHouse$House.giveAway(IIII)V
theorem dX4_giveAway_0 : decode cX4_giveAway 0 = .ok (.aload_n 0, 1) := by decide +kernel
theorem dX4_giveAway_1 : decode cX4_giveAway 1 = .ok (.getfield 48, 3) := by decide +kernel
theorem dX4_giveAway_4 : decode cX4_giveAway 4 = .ok (.getfield 213, 3) := by decide +kernel
theorem dX4_giveAway_7 : decode cX4_giveAway 7 = .ok (.iload_n 2, 1) := by decide +kernel
theorem dX4_giveAway_8 : decode cX4_giveAway 8 = .ok (.invokevirtual 99, 3) := by decide +kernel
theorem dX4_giveAway_11 : decode cX4_giveAway 11 = .ok (.istore 5, 2) := by decide +kernel
theorem dX4_giveAway_13 : decode cX4_giveAway 13 = .ok (.iload 5, 2) := by decide +kernel
theorem dX4_giveAway_15 : decode cX4_giveAway 15 = .ok (.istore 6, 2) := by decide +kernel
theorem dX4_giveAway_17 : decode cX4_giveAway 17 = .ok (.iload 6, 2) := by decide +kernel
theorem dX4_giveAway_19 : decode cX4_giveAway 19 = .ok (.aload_n 0, 1) := by decide +kernel
theorem dX4_giveAway_20 : decode cX4_giveAway 20 = .ok (.getfield 48, 3) := by decide +kernel
theorem dX4_giveAway_23 : decode cX4_giveAway 23 = .ok (.getfield 216, 3) := by decide +kernel
theorem dX4_giveAway_26 : decode cX4_giveAway 26 = .ok (.iload_n 2, 1) := by decide +kernel
theorem dX4_giveAway_27 : decode cX4_giveAway 27 = .ok (.invokevirtual 99, 3) := by decide +kernel
theorem dX4_giveAway_30 : decode cX4_giveAway 30 = .ok (.if_icmp .ge 49, 3) := by decide +kernel
theorem dX4_giveAway_33 : decode cX4_giveAway 33 = .ok (.aload_n 0, 1) := by decide +kernel
theorem dX4_giveAway_34 : decode cX4_giveAway 34 = .ok (.getfield 52, 3) := by decide +kernel
theorem dX4_giveAway_37 : decode cX4_giveAway 37 = .ok (.iload_n 3, 1) := by decide +kernel
theorem dX4_giveAway_38 : decode cX4_giveAway 38 = .ok (.iload 4, 2) := by decide +kernel
theorem dX4_giveAway_40 : decode cX4_giveAway 40 = .ok (.iload 6, 2) := by decide +kernel
theorem dX4_giveAway_42 : decode cX4_giveAway 42 = .ok (.iadd, 1) := by decide +kernel
theorem dX4_giveAway_43 : decode cX4_giveAway 43 = .ok (.iload 5, 2) := by decide +kernel
theorem dX4_giveAway_45 : decode cX4_giveAway 45 = .ok (.isub, 1) := by decide +kernel
theorem dX4_giveAway_46 : decode cX4_giveAway 46 = .ok (.invokevirtual 251, 3) := by decide +kernel
theorem dX4_giveAway_49 : decode cX4_giveAway 49 = .ok (.ifCond .lt 24, 3) := by decide +kernel
theorem dX4_giveAway_52 : decode cX4_giveAway 52 = .ok (.aload_n 0, 1) := by decide +kernel
theorem dX4_giveAway_53 : decode cX4_giveAway 53 = .ok (.getfield 21, 3) := by decide +kernel
theorem dX4_giveAway_56 : decode cX4_giveAway 56 = .ok (.iload_n 1, 1) := by decide +kernel
theorem dX4_giveAway_57 : decode cX4_giveAway 57 = .ok (.aload_n 0, 1) := by decide +kernel
theorem dX4_giveAway_58 : decode cX4_giveAway 58 = .ok (.getfield 44, 3) := by decide +kernel
theorem dX4_giveAway_61 : decode cX4_giveAway 61 = .ok (.getfield 254, 3) := by decide +kernel
theorem dX4_giveAway_64 : decode cX4_giveAway 64 = .ok (.iload 6, 2) := by decide +kernel
theorem dX4_giveAway_66 : decode cX4_giveAway 66 = .ok (.invokevirtual 99, 3) := by decide +kernel
theorem dX4_giveAway_69 : decode cX4_giveAway 69 = .ok (.iconst (-1), 1) := by decide +kernel
theorem dX4_giveAway_70 : decode cX4_giveAway 70 = .ok (.invokevirtual 200, 3) := by decide +kernel
theorem dX4_giveAway_73 : decode cX4_giveAway 73 = .ok (.iinc 6 1, 3) := by decide +kernel
theorem dX4_giveAway_76 : decode cX4_giveAway 76 = .ok (.goto (-59), 3) := by decide +kernel
theorem dX4_giveAway_79 : decode cX4_giveAway 79 = .ok (.return_, 1) := by decide +kernel
def bX4_giveAway_73 (k17 : Int32 → Int32 → Int32 → Int32 → Int32 → Int32 → zS → zR) (x1 : Int32) (x2 : Int32) (x3 : Int32) (x4 : Int32) (x5 : Int32) (x6 : Int32) (t : zS) : zR := zlet (x6 + 1) fun v2110 => k17 x1 x2 x3 x4 x5 v2110 t
def bX4_giveAway_17 (k17 : Int32 → Int32 → Int32 → Int32 → Int32 → Int32 → zS → zR) (x1 : Int32) (x2 : Int32) (x3 : Int32) (x4 : Int32) (x5 : Int32) (x6 : Int32) (t : zS) : zR := zbd (mX5_get 96 1000 x2 t) fun r2111 t2112 => if r2111 ≤ x6 then some (0, t2112) else zbd (mX6_form x3 ((x4 + x6) - x5) t2112) fun r2114 t2115 => if r2114 < 0 then bX4_giveAway_73 k17 x1 x2 x3 x4 x5 x6 t2115 else zbd (mX5_get 82 1600 x6 t2115) fun r2117 t2118 => zbd (mX8_setChannel x1 r2117 (-1) t2118) fun r2120 t2121 => bX4_giveAway_73 k17 x1 x2 x3 x4 x5 x6 t2121
def lX4_giveAway_17 : Nat → Int32 → Int32 → Int32 → Int32 → Int32 → Int32 → zS → zR
  | 0, _, _, _, _, _, _, _ => none
  | fu + 1, x1, x2, x3, x4, x5, x6, t => bX4_giveAway_17 (lX4_giveAway_17  fu) x1 x2 x3 x4 x5 x6 t
def mX4_giveAway (x1 : Int32) (x2 : Int32) (x3 : Int32) (x4 : Int32) (t : zS) : zR := zbd (mX5_get 94 1000 x2 t) fun r2123 t2124 => lX4_giveAway_17  zFU x1 x2 x3 x4 r2123 r2123 t2124
set_option maxHeartbeats 4000000 in
set_option maxRecDepth 20000 in
theorem wbX4_giveAway_73 {E : zE} {C : zC} {f : Nat} {ro : Int32 × zS} (hf : 3 ≤ f) (k17 : Int32 → Int32 → Int32 → Int32 → Int32 → Int32 → zS → zR) (hk17 : ∀ (x1 x2 x3 x4 x5 x6 : Int32) (t : zS), k17 x1 x2 x3 x4 x5 x6 t = some ro → zJ E shC C cX4_giveAway RX4 7 f none ro t 17 [(0, .ref (za E 7)), (1, .int x1), (2, .int x2), (3, .int x3), (4, .int x4), (5, .int x5), (6, .int x6)] []) (x1 : Int32) (x2 : Int32) (x3 : Int32) (x4 : Int32) (x5 : Int32) (x6 : Int32) (t : zS) (hF : bX4_giveAway_73 k17 x1 x2 x3 x4 x5 x6 t = some ro) : zJ E shC C cX4_giveAway RX4 7 f none ro t 73 [(0, .ref (za E 7)), (1, .int x1), (2, .int x2), (3, .int x3), (4, .int x4), (5, .int x5), (6, .int x6)] [] := by
  unfold bX4_giveAway_73 at hF
  obtain ⟨v2110, ev2110⟩ : ∃ y : Int32, y = (x6 + 1) := ⟨_, rfl⟩
  have hF := zlet_at ev2110 hF
  refine z_iinc (v := v2110) (lv' := [(6, .int v2110), (0, .ref (za E 7)), (1, .int x1), (2, .int x2), (3, .int x3), (4, .int x4), (5, .int x5)]) (k := 6) dX4_giveAway_73 rfl (by rw [ev2110]; rfl) (by decide) rfl ?_
  refine z_goto (tgt := 17) dX4_giveAway_76 (by decide) ?_
  refine z_sub [1, 2, 3, 4, 5, 6, 0] rfl ?_
  exact hk17 x1 x2 x3 x4 x5 v2110 _ hF
set_option maxHeartbeats 4000000 in
set_option maxRecDepth 20000 in
theorem wbX4_giveAway_17 {E : zE} {C : zC} {f : Nat} {ro : Int32 × zS} (hf : 3 ≤ f) (k17 : Int32 → Int32 → Int32 → Int32 → Int32 → Int32 → zS → zR) (hk17 : ∀ (x1 x2 x3 x4 x5 x6 : Int32) (t : zS), k17 x1 x2 x3 x4 x5 x6 t = some ro → zJ E shC C cX4_giveAway RX4 7 f none ro t 17 [(0, .ref (za E 7)), (1, .int x1), (2, .int x2), (3, .int x3), (4, .int x4), (5, .int x5), (6, .int x6)] []) (x1 : Int32) (x2 : Int32) (x3 : Int32) (x4 : Int32) (x5 : Int32) (x6 : Int32) (t : zS) (hF : bX4_giveAway_17 k17 x1 x2 x3 x4 x5 x6 t = some ro) : zJ E shC C cX4_giveAway RX4 7 f none ro t 17 [(0, .ref (za E 7)), (1, .int x1), (2, .int x2), (3, .int x3), (4, .int x4), (5, .int x5), (6, .int x6)] [] := by
  unfold bX4_giveAway_17 at hF
  refine z_iload 6 dX4_giveAway_17 rfl ?_
  refine z_aload_n 0 dX4_giveAway_19 rfl rfl ?_
  refine z_getr fr_RX4_48 dX4_giveAway_20 ?_
  refine z_getr fr_RX4_216 dX4_giveAway_23 ?_
  refine z_iload_n 2 dX4_giveAway_26 rfl rfl ?_
  obtain ⟨r2111, t2112, hc2113, hF⟩ := zbd_at hF
  refine z_callVi (ctX5_get (E := E) (sh := shC) (f := f - 1) (by omega) (k := 96) (n := 1000) rfl rfl hc2113) yy_X5_get yv_X5_get ob_C_96 lk_RX4_99 (by omega) rfl rfl (Nat.le_of_ble_eq_true rfl) dX4_giveAway_27 ?_
  refine z_icmp_ge (tgt := 79) dX4_giveAway_30 (by decide) (fun hc => ?_) (fun hc => ?_)
  · have hF := zif_t hc hF
    exact z_vret hF dX4_giveAway_79
  · have hF := zif_f hc hF
    refine z_aload_n 0 dX4_giveAway_33 rfl rfl ?_
    refine z_getr fr_RX4_52 dX4_giveAway_34 ?_
    refine z_iload_n 3 dX4_giveAway_37 rfl rfl ?_
    refine z_iload 4 dX4_giveAway_38 rfl ?_
    refine z_iload 6 dX4_giveAway_40 rfl ?_
    refine z_iadd dX4_giveAway_42 ?_
    refine z_iload 5 dX4_giveAway_43 rfl ?_
    refine z_isub dX4_giveAway_45 ?_
    obtain ⟨r2114, t2115, hc2116, hF⟩ := zbd_at hF
    refine z_callVi (ctX6_form (E := E) (f := f - 1) (by omega) hc2116) yy_X6_form yv_X6_form ob_C_4 lk_RX4_251 (by omega) rfl rfl (Nat.le_of_ble_eq_true rfl) dX4_giveAway_46 ?_
    refine z_if_lt (tgt := 73) dX4_giveAway_49 (by decide) (fun hc => ?_) (fun hc => ?_)
    · have hF := zif_t hc hF
      exact wbX4_giveAway_73 hf k17 hk17 x1 x2 x3 x4 x5 x6 _ hF
    · have hF := zif_f hc hF
      refine z_aload_n 0 dX4_giveAway_52 rfl rfl ?_
      refine z_getr fr_RX4_21 dX4_giveAway_53 ?_
      refine z_iload_n 1 dX4_giveAway_56 rfl rfl ?_
      refine z_aload_n 0 dX4_giveAway_57 rfl rfl ?_
      refine z_getr fr_RX4_44 dX4_giveAway_58 ?_
      refine z_getr fr_RX4_254 dX4_giveAway_61 ?_
      refine z_iload 6 dX4_giveAway_64 rfl ?_
      obtain ⟨r2117, t2118, hc2119, hF⟩ := zbd_at hF
      refine z_callVi (ctX5_get (E := E) (sh := shC) (f := f - 1) (by omega) (k := 82) (n := 1600) rfl rfl hc2119) yy_X5_get yv_X5_get ob_C_82 lk_RX4_99 (by omega) rfl rfl (Nat.le_of_ble_eq_true rfl) dX4_giveAway_66 ?_
      refine z_iconst (v := (-1)) dX4_giveAway_69 (by decide) ?_
      obtain ⟨r2120, t2121, hc2122, hF⟩ := zbd_at hF
      refine z_callVv (ctX8_setChannel (E := E) (f := f - 1) (by omega) hc2122) yy_X8_setChannel yv_X8_setChannel ob_C_60 lk_RX4_200 (by omega) rfl rfl (Nat.le_of_ble_eq_true rfl) dX4_giveAway_70 ?_
      exact wbX4_giveAway_73 hf k17 hk17 x1 x2 x3 x4 x5 x6 _ hF
set_option maxHeartbeats 4000000 in
set_option maxRecDepth 20000 in
theorem wlX4_giveAway_17 {E : zE} {C : zC} {f : Nat} {ro : Int32 × zS} (hf : 3 ≤ f) (fu : Nat) : ∀ (x1 x2 x3 x4 x5 x6 : Int32) (t : zS), lX4_giveAway_17  fu x1 x2 x3 x4 x5 x6 t = some ro → zJ E shC C cX4_giveAway RX4 7 f none ro t 17 [(0, .ref (za E 7)), (1, .int x1), (2, .int x2), (3, .int x3), (4, .int x4), (5, .int x5), (6, .int x6)] [] := by
  induction fu with
  | zero => intro x1 x2 x3 x4 x5 x6 t hF; cases hF
  | succ fu ih => intro x1 x2 x3 x4 x5 x6 t hF; exact wbX4_giveAway_17 hf (lX4_giveAway_17  fu) ih x1 x2 x3 x4 x5 x6 t hF
set_option maxHeartbeats 4000000 in
set_option maxRecDepth 20000 in
theorem ctX4_giveAway {E : zE} {f : Nat} (hf : 3 ≤ f) {x1 : Int32} {x2 : Int32} {x3 : Int32} {x4 : Int32} {t : zS} {ro : Int32 × zS} (hF : mX4_giveAway  x1 x2 x3 x4 t = some ro) : zM E shC f yX4_giveAway cX4_giveAway 7 none [.ref (za E 7), .int x1, .int x2, .int x3, .int x4] t ro := by
  refine zM_of (by decide) (Nat.le_of_ble_eq_true rfl) (fun C => ?_)
  show zJ E shC C cX4_giveAway RX4 7 f none ro t 0 [(0, .ref (za E 7)), (1, .int x1), (2, .int x2), (3, .int x3), (4, .int x4)] []
  unfold mX4_giveAway at hF
  refine z_aload_n 0 dX4_giveAway_0 rfl rfl ?_
  refine z_getr fr_RX4_48 dX4_giveAway_1 ?_
  refine z_getr fr_RX4_213 dX4_giveAway_4 ?_
  refine z_iload_n 2 dX4_giveAway_7 rfl rfl ?_
  obtain ⟨r2123, t2124, hc2125, hF⟩ := zbd_at hF
  refine z_callVi (ctX5_get (E := E) (sh := shC) (f := f - 1) (by omega) (k := 94) (n := 1000) rfl rfl hc2125) yy_X5_get yv_X5_get ob_C_94 lk_RX4_99 (by omega) rfl rfl (Nat.le_of_ble_eq_true rfl) dX4_giveAway_8 ?_
  refine z_istore (lv' := [(5, .int r2123), (0, .ref (za E 7)), (1, .int x1), (2, .int x2), (3, .int x3), (4, .int x4)]) dX4_giveAway_11 (by decide) rfl ?_
  refine z_iload 0 dX4_giveAway_13 rfl ?_
  refine z_istore (lv' := [(6, .int r2123), (5, .int r2123), (0, .ref (za E 7)), (1, .int x1), (2, .int x2), (3, .int x3), (4, .int x4)]) dX4_giveAway_15 (by decide) rfl ?_
  refine z_sub [2, 3, 4, 5, 6, 1, 0] rfl ?_
  exact wlX4_giveAway_17 hf  zFU x1 x2 x3 x4 r2123 r2123 _ hF
-- SessionHouse$Channels.make()I
theorem dX0_make_0 : decode cX0_make 0 = .ok (.aload_n 0, 1) := by decide +kernel
theorem dX0_make_1 : decode cX0_make 1 = .ok (.getfield 39, 3) := by decide +kernel
theorem dX0_make_4 : decode cX0_make 4 = .ok (.istore_n 1, 1) := by decide +kernel
theorem dX0_make_5 : decode cX0_make 5 = .ok (.aload_n 0, 1) := by decide +kernel
theorem dX0_make_6 : decode cX0_make 6 = .ok (.getfield 36, 3) := by decide +kernel
theorem dX0_make_9 : decode cX0_make 9 = .ok (.ifCond .le 28, 3) := by decide +kernel
theorem dX0_make_12 : decode cX0_make 12 = .ok (.aload_n 0, 1) := by decide +kernel
theorem dX0_make_13 : decode cX0_make 13 = .ok (.dup, 1) := by decide +kernel
theorem dX0_make_14 : decode cX0_make 14 = .ok (.getfield 36, 3) := by decide +kernel
theorem dX0_make_17 : decode cX0_make 17 = .ok (.iconst 1, 1) := by decide +kernel
theorem dX0_make_18 : decode cX0_make 18 = .ok (.isub, 1) := by decide +kernel
theorem dX0_make_19 : decode cX0_make 19 = .ok (.putfield 36, 3) := by decide +kernel
theorem dX0_make_22 : decode cX0_make 22 = .ok (.aload_n 0, 1) := by decide +kernel
theorem dX0_make_23 : decode cX0_make 23 = .ok (.getfield 29, 3) := by decide +kernel
theorem dX0_make_26 : decode cX0_make 26 = .ok (.aload_n 0, 1) := by decide +kernel
theorem dX0_make_27 : decode cX0_make 27 = .ok (.getfield 36, 3) := by decide +kernel
theorem dX0_make_30 : decode cX0_make 30 = .ok (.invokevirtual 48, 3) := by decide +kernel
theorem dX0_make_33 : decode cX0_make 33 = .ok (.istore_n 1, 1) := by decide +kernel
theorem dX0_make_34 : decode cX0_make 34 = .ok (.goto 13, 3) := by decide +kernel
theorem dX0_make_37 : decode cX0_make 37 = .ok (.aload_n 0, 1) := by decide +kernel
theorem dX0_make_38 : decode cX0_make 38 = .ok (.dup, 1) := by decide +kernel
theorem dX0_make_39 : decode cX0_make 39 = .ok (.getfield 39, 3) := by decide +kernel
theorem dX0_make_42 : decode cX0_make 42 = .ok (.iconst 1, 1) := by decide +kernel
theorem dX0_make_43 : decode cX0_make 43 = .ok (.iadd, 1) := by decide +kernel
theorem dX0_make_44 : decode cX0_make 44 = .ok (.putfield 39, 3) := by decide +kernel
theorem dX0_make_47 : decode cX0_make 47 = .ok (.aload_n 0, 1) := by decide +kernel
theorem dX0_make_48 : decode cX0_make 48 = .ok (.getfield 26, 3) := by decide +kernel
theorem dX0_make_51 : decode cX0_make 51 = .ok (.iload_n 1, 1) := by decide +kernel
theorem dX0_make_52 : decode cX0_make 52 = .ok (.iconst 2, 1) := by decide +kernel
theorem dX0_make_53 : decode cX0_make 53 = .ok (.invokevirtual 52, 3) := by decide +kernel
theorem dX0_make_56 : decode cX0_make 56 = .ok (.iconst 2, 1) := by decide +kernel
theorem dX0_make_57 : decode cX0_make 57 = .ok (.iload_n 1, 1) := by decide +kernel
theorem dX0_make_58 : decode cX0_make 58 = .ok (.imul, 1) := by decide +kernel
theorem dX0_make_59 : decode cX0_make 59 = .ok (.istore_n 2, 1) := by decide +kernel
theorem dX0_make_60 : decode cX0_make 60 = .ok (.iload_n 2, 1) := by decide +kernel
theorem dX0_make_61 : decode cX0_make 61 = .ok (.iconst 2, 1) := by decide +kernel
theorem dX0_make_62 : decode cX0_make 62 = .ok (.iload_n 1, 1) := by decide +kernel
theorem dX0_make_63 : decode cX0_make 63 = .ok (.imul, 1) := by decide +kernel
theorem dX0_make_64 : decode cX0_make 64 = .ok (.iconst 1, 1) := by decide +kernel
theorem dX0_make_65 : decode cX0_make 65 = .ok (.iadd, 1) := by decide +kernel
theorem dX0_make_66 : decode cX0_make 66 = .ok (.if_icmp .gt 27, 3) := by decide +kernel
theorem dX0_make_69 : decode cX0_make 69 = .ok (.aload_n 0, 1) := by decide +kernel
theorem dX0_make_70 : decode cX0_make 70 = .ok (.getfield 20, 3) := by decide +kernel
theorem dX0_make_73 : decode cX0_make 73 = .ok (.iload_n 2, 1) := by decide +kernel
theorem dX0_make_74 : decode cX0_make 74 = .ok (.iconst 0, 1) := by decide +kernel
theorem dX0_make_75 : decode cX0_make 75 = .ok (.invokevirtual 52, 3) := by decide +kernel
theorem dX0_make_78 : decode cX0_make 78 = .ok (.aload_n 0, 1) := by decide +kernel
theorem dX0_make_79 : decode cX0_make 79 = .ok (.getfield 23, 3) := by decide +kernel
theorem dX0_make_82 : decode cX0_make 82 = .ok (.iload_n 2, 1) := by decide +kernel
theorem dX0_make_83 : decode cX0_make 83 = .ok (.iconst 0, 1) := by decide +kernel
theorem dX0_make_84 : decode cX0_make 84 = .ok (.invokevirtual 52, 3) := by decide +kernel
theorem dX0_make_87 : decode cX0_make 87 = .ok (.iinc 2 1, 3) := by decide +kernel
theorem dX0_make_90 : decode cX0_make 90 = .ok (.goto (-30), 3) := by decide +kernel
theorem dX0_make_93 : decode cX0_make 93 = .ok (.aload_n 0, 1) := by decide +kernel
theorem dX0_make_94 : decode cX0_make 94 = .ok (.dup, 1) := by decide +kernel
theorem dX0_make_95 : decode cX0_make 95 = .ok (.getfield 42, 3) := by decide +kernel
theorem dX0_make_98 : decode cX0_make 98 = .ok (.iconst 1, 1) := by decide +kernel
theorem dX0_make_99 : decode cX0_make 99 = .ok (.iadd, 1) := by decide +kernel
theorem dX0_make_100 : decode cX0_make 100 = .ok (.putfield 42, 3) := by decide +kernel
theorem dX0_make_103 : decode cX0_make 103 = .ok (.iconst 2, 1) := by decide +kernel
theorem dX0_make_104 : decode cX0_make 104 = .ok (.iload_n 1, 1) := by decide +kernel
theorem dX0_make_105 : decode cX0_make 105 = .ok (.imul, 1) := by decide +kernel
theorem dX0_make_106 : decode cX0_make 106 = .ok (.ireturn, 1) := by decide +kernel
def bX0_make_60 (k60 : Int32 → Int32 → zS → zR) (x1 : Int32) (x2 : Int32) (t : zS) : zR := if ((2 * x1) + 1) < x2 then zpt t 59 8 ((t 59 8) + 1) fun t2126 => some ((2 * x1), t2126) else zbd (mX5_set 118 3336 x2 0 t) fun r2127 t2128 => zbd (mX5_set 120 3336 x2 0 t2128) fun r2130 t2131 => zlet (x2 + 1) fun v2133 => k60 x1 v2133 t2131
def lX0_make_60 : Nat → Int32 → Int32 → zS → zR
  | 0, _, _, _ => none
  | fu + 1, x1, x2, t => bX0_make_60 (lX0_make_60  fu) x1 x2 t
def bX0_make_47 (x1 : Int32) (t : zS) : zR := zbd (mX5_set 122 1668 x1 2 t) fun r2134 t2135 => zlet (2 * x1) fun v2137 => lX0_make_60  zFU x1 v2137 t2135
def mX0_make (t : zS) : zR := zlet (t 59 6) fun v2138 => if (t 59 5) ≤ 0 then zpt t 59 6 ((t 59 6) + 1) fun t2139 => bX0_make_47  v2138 t2139 else zpt t 59 5 ((t 59 5) - 1) fun t2140 => zbd (mX5_get 124 1668 (t2140 59 5) t2140) fun r2141 t2142 => bX0_make_47  r2141 t2142
set_option maxHeartbeats 4000000 in
set_option maxRecDepth 20000 in
theorem wbX0_make_60 {E : zE} {C : zC} {f : Nat} {ro : Int32 × zS} (hf : 2 ≤ f) (k60 : Int32 → Int32 → zS → zR) (hk60 : ∀ (x1 x2 : Int32) (t : zS), k60 x1 x2 t = some ro → zJ E shC C cX0_make RX0 3 f (some .int) ro t 60 [(0, .ref (za E 59)), (1, .int x1), (2, .int x2)] []) (x1 : Int32) (x2 : Int32) (t : zS) (hF : bX0_make_60 k60 x1 x2 t = some ro) : zJ E shC C cX0_make RX0 3 f (some .int) ro t 60 [(0, .ref (za E 59)), (1, .int x1), (2, .int x2)] [] := by
  unfold bX0_make_60 at hF
  refine z_iload_n 2 dX0_make_60 rfl rfl ?_
  refine z_iconst (v := 2) dX0_make_61 (by decide) ?_
  refine z_iload_n 1 dX0_make_62 rfl rfl ?_
  refine z_imul dX0_make_63 ?_
  refine z_iconst (v := 1) dX0_make_64 (by decide) ?_
  refine z_iadd dX0_make_65 ?_
  refine z_icmp_gt (tgt := 93) dX0_make_66 (by decide) (fun hc => ?_) (fun hc => ?_)
  · have hF := zif_t hc hF
    refine z_aload_n 0 dX0_make_93 rfl rfl ?_
    refine z_dup dX0_make_94 rfl ?_
    refine z_geti fi_RX0_42 dX0_make_95 ?_
    refine z_iconst (v := 1) dX0_make_98 (by decide) ?_
    refine z_iadd dX0_make_99 ?_
    refine z_puti fw_RX0_42 dX0_make_100 (fun t2126 et2126 => ?_)
    have hF := zpt_at hF t2126 et2126
    refine z_iconst (v := 2) dX0_make_103 (by decide) ?_
    refine z_iload_n 1 dX0_make_104 rfl rfl ?_
    refine z_imul dX0_make_105 ?_
    exact z_iret hF dX0_make_106
  · have hF := zif_f hc hF
    refine z_aload_n 0 dX0_make_69 rfl rfl ?_
    refine z_getr fr_RX0_20 dX0_make_70 ?_
    refine z_iload_n 2 dX0_make_73 rfl rfl ?_
    refine z_iconst (v := 0) dX0_make_74 (by decide) ?_
    obtain ⟨r2127, t2128, hc2129, hF⟩ := zbd_at hF
    refine z_callVv (ctX5_set (E := E) (sh := shC) (f := f - 1) (by omega) (k := 118) (n := 3336) rfl rfl hc2129) yy_X5_set yv_X5_set ob_C_118 lk_RX0_52 (by omega) rfl rfl (Nat.le_of_ble_eq_true rfl) dX0_make_75 ?_
    refine z_aload_n 0 dX0_make_78 rfl rfl ?_
    refine z_getr fr_RX0_23 dX0_make_79 ?_
    refine z_iload_n 2 dX0_make_82 rfl rfl ?_
    refine z_iconst (v := 0) dX0_make_83 (by decide) ?_
    obtain ⟨r2130, t2131, hc2132, hF⟩ := zbd_at hF
    refine z_callVv (ctX5_set (E := E) (sh := shC) (f := f - 1) (by omega) (k := 120) (n := 3336) rfl rfl hc2132) yy_X5_set yv_X5_set ob_C_120 lk_RX0_52 (by omega) rfl rfl (Nat.le_of_ble_eq_true rfl) dX0_make_84 ?_
    obtain ⟨v2133, ev2133⟩ : ∃ y : Int32, y = (x2 + 1) := ⟨_, rfl⟩
    have hF := zlet_at ev2133 hF
    refine z_iinc (v := v2133) (lv' := [(2, .int v2133), (0, .ref (za E 59)), (1, .int x1)]) (k := 2) dX0_make_87 rfl (by rw [ev2133]; rfl) (by decide) rfl ?_
    refine z_goto (tgt := 60) dX0_make_90 (by decide) ?_
    refine z_sub [1, 2, 0] rfl ?_
    exact hk60 x1 v2133 _ hF
set_option maxHeartbeats 4000000 in
set_option maxRecDepth 20000 in
theorem wlX0_make_60 {E : zE} {C : zC} {f : Nat} {ro : Int32 × zS} (hf : 2 ≤ f) (fu : Nat) : ∀ (x1 x2 : Int32) (t : zS), lX0_make_60  fu x1 x2 t = some ro → zJ E shC C cX0_make RX0 3 f (some .int) ro t 60 [(0, .ref (za E 59)), (1, .int x1), (2, .int x2)] [] := by
  induction fu with
  | zero => intro x1 x2 t hF; cases hF
  | succ fu ih => intro x1 x2 t hF; exact wbX0_make_60 hf (lX0_make_60  fu) ih x1 x2 t hF
set_option maxHeartbeats 4000000 in
set_option maxRecDepth 20000 in
theorem wbX0_make_47 {E : zE} {C : zC} {f : Nat} {ro : Int32 × zS} (hf : 2 ≤ f) (x1 : Int32) (t : zS) (hF : bX0_make_47  x1 t = some ro) : zJ E shC C cX0_make RX0 3 f (some .int) ro t 47 [(0, .ref (za E 59)), (1, .int x1)] [] := by
  unfold bX0_make_47 at hF
  refine z_aload_n 0 dX0_make_47 rfl rfl ?_
  refine z_getr fr_RX0_26 dX0_make_48 ?_
  refine z_iload_n 1 dX0_make_51 rfl rfl ?_
  refine z_iconst (v := 2) dX0_make_52 (by decide) ?_
  obtain ⟨r2134, t2135, hc2136, hF⟩ := zbd_at hF
  refine z_callVv (ctX5_set (E := E) (sh := shC) (f := f - 1) (by omega) (k := 122) (n := 1668) rfl rfl hc2136) yy_X5_set yv_X5_set ob_C_122 lk_RX0_52 (by omega) rfl rfl (Nat.le_of_ble_eq_true rfl) dX0_make_53 ?_
  refine z_iconst (v := 2) dX0_make_56 (by decide) ?_
  refine z_iload_n 1 dX0_make_57 rfl rfl ?_
  refine z_imul dX0_make_58 ?_
  refine z_topi (fun v2137 ev2137 => ?_)
  have hF := zlet_at ev2137 hF
  refine z_istore_n (lv' := [(2, .int v2137), (0, .ref (za E 59)), (1, .int x1)]) dX0_make_59 rfl (by decide) rfl ?_
  refine z_sub [1, 2, 0] rfl ?_
  exact wlX0_make_60 hf  zFU x1 v2137 _ hF
set_option maxHeartbeats 4000000 in
set_option maxRecDepth 20000 in
theorem ctX0_make {E : zE} {f : Nat} (hf : 2 ≤ f) {t : zS} {ro : Int32 × zS} (hF : mX0_make   t = some ro) : zM E shC f yX0_make cX0_make 3 (some .int) [.ref (za E 59)] t ro := by
  refine zM_of (by decide) (Nat.le_of_ble_eq_true rfl) (fun C => ?_)
  show zJ E shC C cX0_make RX0 3 f (some .int) ro t 0 [(0, .ref (za E 59))] []
  unfold mX0_make at hF
  refine z_aload_n 0 dX0_make_0 rfl rfl ?_
  refine z_geti fi_RX0_39 dX0_make_1 ?_
  refine z_topi (fun v2138 ev2138 => ?_)
  have hF := zlet_at ev2138 hF
  refine z_istore_n (lv' := [(1, .int v2138), (0, .ref (za E 59))]) dX0_make_4 rfl (by decide) rfl ?_
  refine z_aload_n 1 dX0_make_5 rfl rfl ?_
  refine z_geti fi_RX0_36 dX0_make_6 ?_
  refine z_if_le (tgt := 37) dX0_make_9 (by decide) (fun hc => ?_) (fun hc => ?_)
  · have hF := zif_t hc hF
    refine z_aload_n 1 dX0_make_37 rfl rfl ?_
    refine z_dup dX0_make_38 rfl ?_
    refine z_geti fi_RX0_39 dX0_make_39 ?_
    refine z_iconst (v := 1) dX0_make_42 (by decide) ?_
    refine z_iadd dX0_make_43 ?_
    refine z_puti fw_RX0_39 dX0_make_44 (fun t2139 et2139 => ?_)
    have hF := zpt_at hF t2139 et2139
    refine z_sub [1, 0] rfl ?_
    exact wbX0_make_47 hf  v2138 _ hF
  · have hF := zif_f hc hF
    refine z_aload_n 1 dX0_make_12 rfl rfl ?_
    refine z_dup dX0_make_13 rfl ?_
    refine z_geti fi_RX0_36 dX0_make_14 ?_
    refine z_iconst (v := 1) dX0_make_17 (by decide) ?_
    refine z_isub dX0_make_18 ?_
    refine z_puti fw_RX0_36 dX0_make_19 (fun t2140 et2140 => ?_)
    have hF := zpt_at hF t2140 et2140
    refine z_aload_n 1 dX0_make_22 rfl rfl ?_
    refine z_getr fr_RX0_29 dX0_make_23 ?_
    refine z_aload_n 1 dX0_make_26 rfl rfl ?_
    refine z_geti fi_RX0_36 dX0_make_27 ?_
    obtain ⟨r2141, t2142, hc2143, hF⟩ := zbd_at hF
    refine z_callVi (ctX5_get (E := E) (sh := shC) (f := f - 1) (by omega) (k := 124) (n := 1668) rfl rfl hc2143) yy_X5_get yv_X5_get ob_C_124 lk_RX0_48 (by omega) rfl rfl (Nat.le_of_ble_eq_true rfl) dX0_make_30 ?_
    refine z_istore_n (lv' := [(1, .int r2141), (0, .ref (za E 59))]) dX0_make_33 rfl (by decide) rfl ?_
    refine z_goto (tgt := 47) dX0_make_34 (by decide) ?_
    refine z_sub [1, 0] rfl ?_
    exact wbX0_make_47 hf  r2141 _ hF
-- SessionHouse$House.spawn(II)Z
theorem dX4_spawn_0 : decode cX4_spawn 0 = .ok (.aload_n 0, 1) := by decide +kernel
theorem dX4_spawn_1 : decode cX4_spawn 1 = .ok (.getfield 52, 3) := by decide +kernel
theorem dX4_spawn_4 : decode cX4_spawn 4 = .ok (.aload_n 0, 1) := by decide +kernel
theorem dX4_spawn_5 : decode cX4_spawn 5 = .ok (.getfield 48, 3) := by decide +kernel
theorem dX4_spawn_8 : decode cX4_spawn 8 = .ok (.getfield 204, 3) := by decide +kernel
theorem dX4_spawn_11 : decode cX4_spawn 11 = .ok (.iload_n 2, 1) := by decide +kernel
theorem dX4_spawn_12 : decode cX4_spawn 12 = .ok (.invokevirtual 99, 3) := by decide +kernel
theorem dX4_spawn_15 : decode cX4_spawn 15 = .ok (.invokevirtual 87, 3) := by decide +kernel
theorem dX4_spawn_18 : decode cX4_spawn 18 = .ok (.istore_n 3, 1) := by decide +kernel
theorem dX4_spawn_19 : decode cX4_spawn 19 = .ok (.aload_n 0, 1) := by decide +kernel
theorem dX4_spawn_20 : decode cX4_spawn 20 = .ok (.getfield 48, 3) := by decide +kernel
theorem dX4_spawn_23 : decode cX4_spawn 23 = .ok (.getfield 180, 3) := by decide +kernel
theorem dX4_spawn_26 : decode cX4_spawn 26 = .ok (.iload_n 2, 1) := by decide +kernel
theorem dX4_spawn_27 : decode cX4_spawn 27 = .ok (.invokevirtual 99, 3) := by decide +kernel
theorem dX4_spawn_30 : decode cX4_spawn 30 = .ok (.istore 4, 2) := by decide +kernel
theorem dX4_spawn_32 : decode cX4_spawn 32 = .ok (.iload 4, 2) := by decide +kernel
theorem dX4_spawn_34 : decode cX4_spawn 34 = .ok (.ifCond .lt 7, 3) := by decide +kernel
theorem dX4_spawn_37 : decode cX4_spawn 37 = .ok (.iconst 1, 1) := by decide +kernel
theorem dX4_spawn_38 : decode cX4_spawn 38 = .ok (.goto 4, 3) := by decide +kernel
theorem dX4_spawn_41 : decode cX4_spawn 41 = .ok (.iconst 0, 1) := by decide +kernel
theorem dX4_spawn_42 : decode cX4_spawn 42 = .ok (.istore 5, 2) := by decide +kernel
theorem dX4_spawn_44 : decode cX4_spawn 44 = .ok (.iload 4, 2) := by decide +kernel
theorem dX4_spawn_46 : decode cX4_spawn 46 = .ok (.ifCond .lt 21, 3) := by decide +kernel
theorem dX4_spawn_49 : decode cX4_spawn 49 = .ok (.aload_n 0, 1) := by decide +kernel
theorem dX4_spawn_50 : decode cX4_spawn 50 = .ok (.getfield 48, 3) := by decide +kernel
theorem dX4_spawn_53 : decode cX4_spawn 53 = .ok (.getfield 177, 3) := by decide +kernel
theorem dX4_spawn_56 : decode cX4_spawn 56 = .ok (.iload_n 2, 1) := by decide +kernel
theorem dX4_spawn_57 : decode cX4_spawn 57 = .ok (.invokevirtual 99, 3) := by decide +kernel
theorem dX4_spawn_60 : decode cX4_spawn 60 = .ok (.ifCond .ne 7, 3) := by decide +kernel
theorem dX4_spawn_63 : decode cX4_spawn 63 = .ok (.iconst 1, 1) := by decide +kernel
theorem dX4_spawn_64 : decode cX4_spawn 64 = .ok (.goto 4, 3) := by decide +kernel
theorem dX4_spawn_67 : decode cX4_spawn 67 = .ok (.iconst 0, 1) := by decide +kernel
theorem dX4_spawn_68 : decode cX4_spawn 68 = .ok (.istore 6, 2) := by decide +kernel
theorem dX4_spawn_70 : decode cX4_spawn 70 = .ok (.aload_n 0, 1) := by decide +kernel
theorem dX4_spawn_71 : decode cX4_spawn 71 = .ok (.iload_n 1, 1) := by decide +kernel
theorem dX4_spawn_72 : decode cX4_spawn 72 = .ok (.iload_n 2, 1) := by decide +kernel
theorem dX4_spawn_73 : decode cX4_spawn 73 = .ok (.iload_n 3, 1) := by decide +kernel
theorem dX4_spawn_74 : decode cX4_spawn 74 = .ok (.iload 5, 2) := by decide +kernel
theorem dX4_spawn_76 : decode cX4_spawn 76 = .ok (.invokevirtual 266, 3) := by decide +kernel
theorem dX4_spawn_79 : decode cX4_spawn 79 = .ok (.ifCond .eq 32, 3) := by decide +kernel
theorem dX4_spawn_82 : decode cX4_spawn 82 = .ok (.aload_n 0, 1) := by decide +kernel
theorem dX4_spawn_83 : decode cX4_spawn 83 = .ok (.aload_n 0, 1) := by decide +kernel
theorem dX4_spawn_84 : decode cX4_spawn 84 = .ok (.iload_n 3, 1) := by decide +kernel
theorem dX4_spawn_85 : decode cX4_spawn 85 = .ok (.invokevirtual 93, 3) := by decide +kernel
theorem dX4_spawn_88 : decode cX4_spawn 88 = .ok (.iload 6, 2) := by decide +kernel
theorem dX4_spawn_90 : decode cX4_spawn 90 = .ok (.ifCond .eq 13, 3) := by decide +kernel
theorem dX4_spawn_93 : decode cX4_spawn 93 = .ok (.aload_n 0, 1) := by decide +kernel
theorem dX4_spawn_94 : decode cX4_spawn 94 = .ok (.getfield 12, 3) := by decide +kernel
theorem dX4_spawn_97 : decode cX4_spawn 97 = .ok (.invokevirtual 196, 3) := by decide +kernel
theorem dX4_spawn_100 : decode cX4_spawn 100 = .ok (.goto 4, 3) := by decide +kernel
theorem dX4_spawn_103 : decode cX4_spawn 103 = .ok (.iconst 0, 1) := by decide +kernel
theorem dX4_spawn_104 : decode cX4_spawn 104 = .ok (.iadd, 1) := by decide +kernel
theorem dX4_spawn_105 : decode cX4_spawn 105 = .ok (.invokevirtual 270, 3) := by decide +kernel
theorem dX4_spawn_108 : decode cX4_spawn 108 = .ok (.ifCond .ne 5, 3) := by decide +kernel
theorem dX4_spawn_111 : decode cX4_spawn 111 = .ok (.iconst 0, 1) := by decide +kernel
theorem dX4_spawn_112 : decode cX4_spawn 112 = .ok (.ireturn, 1) := by decide +kernel
theorem dX4_spawn_113 : decode cX4_spawn 113 = .ok (.aload_n 0, 1) := by decide +kernel
theorem dX4_spawn_114 : decode cX4_spawn 114 = .ok (.getfield 21, 3) := by decide +kernel
theorem dX4_spawn_117 : decode cX4_spawn 117 = .ok (.iload_n 3, 1) := by decide +kernel
theorem dX4_spawn_118 : decode cX4_spawn 118 = .ok (.aload_n 0, 1) := by decide +kernel
theorem dX4_spawn_119 : decode cX4_spawn 119 = .ok (.getfield 52, 3) := by decide +kernel
theorem dX4_spawn_122 : decode cX4_spawn 122 = .ok (.getfield 96, 3) := by decide +kernel
theorem dX4_spawn_125 : decode cX4_spawn 125 = .ok (.iload_n 3, 1) := by decide +kernel
theorem dX4_spawn_126 : decode cX4_spawn 126 = .ok (.invokevirtual 99, 3) := by decide +kernel
theorem dX4_spawn_129 : decode cX4_spawn 129 = .ok (.aload_n 0, 1) := by decide +kernel
theorem dX4_spawn_130 : decode cX4_spawn 130 = .ok (.getfield 52, 3) := by decide +kernel
theorem dX4_spawn_133 : decode cX4_spawn 133 = .ok (.getfield 102, 3) := by decide +kernel
theorem dX4_spawn_136 : decode cX4_spawn 136 = .ok (.iload_n 3, 1) := by decide +kernel
theorem dX4_spawn_137 : decode cX4_spawn 137 = .ok (.invokevirtual 99, 3) := by decide +kernel
theorem dX4_spawn_140 : decode cX4_spawn 140 = .ok (.invokevirtual 105, 3) := by decide +kernel
theorem dX4_spawn_143 : decode cX4_spawn 143 = .ok (.istore 7, 2) := by decide +kernel
theorem dX4_spawn_145 : decode cX4_spawn 145 = .ok (.aload_n 0, 1) := by decide +kernel
theorem dX4_spawn_146 : decode cX4_spawn 146 = .ok (.iload 7, 2) := by decide +kernel
theorem dX4_spawn_148 : decode cX4_spawn 148 = .ok (.iload_n 3, 1) := by decide +kernel
theorem dX4_spawn_149 : decode cX4_spawn 149 = .ok (.iload 5, 2) := by decide +kernel
theorem dX4_spawn_151 : decode cX4_spawn 151 = .ok (.invokevirtual 273, 3) := by decide +kernel
theorem dX4_spawn_154 : decode cX4_spawn 154 = .ok (.aload_n 0, 1) := by decide +kernel
theorem dX4_spawn_155 : decode cX4_spawn 155 = .ok (.iload_n 1, 1) := by decide +kernel
theorem dX4_spawn_156 : decode cX4_spawn 156 = .ok (.iload_n 2, 1) := by decide +kernel
theorem dX4_spawn_157 : decode cX4_spawn 157 = .ok (.iload_n 3, 1) := by decide +kernel
theorem dX4_spawn_158 : decode cX4_spawn 158 = .ok (.iload 5, 2) := by decide +kernel
theorem dX4_spawn_160 : decode cX4_spawn 160 = .ok (.invokevirtual 276, 3) := by decide +kernel
theorem dX4_spawn_163 : decode cX4_spawn 163 = .ok (.iload 6, 2) := by decide +kernel
theorem dX4_spawn_165 : decode cX4_spawn 165 = .ok (.ifCond .eq 38, 3) := by decide +kernel
theorem dX4_spawn_168 : decode cX4_spawn 168 = .ok (.aload_n 0, 1) := by decide +kernel
theorem dX4_spawn_169 : decode cX4_spawn 169 = .ok (.getfield 12, 3) := by decide +kernel
theorem dX4_spawn_172 : decode cX4_spawn 172 = .ok (.invokevirtual 280, 3) := by decide +kernel
theorem dX4_spawn_175 : decode cX4_spawn 175 = .ok (.istore 8, 2) := by decide +kernel
theorem dX4_spawn_177 : decode cX4_spawn 177 = .ok (.aload_n 0, 1) := by decide +kernel
theorem dX4_spawn_178 : decode cX4_spawn 178 = .ok (.getfield 21, 3) := by decide +kernel
theorem dX4_spawn_181 : decode cX4_spawn 181 = .ok (.iload 7, 2) := by decide +kernel
theorem dX4_spawn_183 : decode cX4_spawn 183 = .ok (.iconst 0, 1) := by decide +kernel
theorem dX4_spawn_184 : decode cX4_spawn 184 = .ok (.iload 8, 2) := by decide +kernel
theorem dX4_spawn_186 : decode cX4_spawn 186 = .ok (.invokevirtual 200, 3) := by decide +kernel
theorem dX4_spawn_189 : decode cX4_spawn 189 = .ok (.aload_n 0, 1) := by decide +kernel
theorem dX4_spawn_190 : decode cX4_spawn 190 = .ok (.getfield 21, 3) := by decide +kernel
theorem dX4_spawn_193 : decode cX4_spawn 193 = .ok (.iload_n 1, 1) := by decide +kernel
theorem dX4_spawn_194 : decode cX4_spawn 194 = .ok (.iload 4, 2) := by decide +kernel
theorem dX4_spawn_196 : decode cX4_spawn 196 = .ok (.iload 8, 2) := by decide +kernel
theorem dX4_spawn_198 : decode cX4_spawn 198 = .ok (.iconst 1, 1) := by decide +kernel
theorem dX4_spawn_199 : decode cX4_spawn 199 = .ok (.ixor, 1) := by decide +kernel
theorem dX4_spawn_200 : decode cX4_spawn 200 = .ok (.invokevirtual 200, 3) := by decide +kernel
theorem dX4_spawn_203 : decode cX4_spawn 203 = .ok (.aload_n 0, 1) := by decide +kernel
theorem dX4_spawn_204 : decode cX4_spawn 204 = .ok (.getfield 21, 3) := by decide +kernel
theorem dX4_spawn_207 : decode cX4_spawn 207 = .ok (.getfield 112, 3) := by decide +kernel
theorem dX4_spawn_210 : decode cX4_spawn 210 = .ok (.iload_n 1, 1) := by decide +kernel
theorem dX4_spawn_211 : decode cX4_spawn 211 = .ok (.aload_n 0, 1) := by decide +kernel
theorem dX4_spawn_212 : decode cX4_spawn 212 = .ok (.getfield 48, 3) := by decide +kernel
theorem dX4_spawn_215 : decode cX4_spawn 215 = .ok (.getfield 186, 3) := by decide +kernel
theorem dX4_spawn_218 : decode cX4_spawn 218 = .ok (.iload_n 2, 1) := by decide +kernel
theorem dX4_spawn_219 : decode cX4_spawn 219 = .ok (.invokevirtual 99, 3) := by decide +kernel
theorem dX4_spawn_222 : decode cX4_spawn 222 = .ok (.invokevirtual 62, 3) := by decide +kernel
theorem dX4_spawn_225 : decode cX4_spawn 225 = .ok (.iconst 1, 1) := by decide +kernel
theorem dX4_spawn_226 : decode cX4_spawn 226 = .ok (.ireturn, 1) := by decide +kernel
def bX4_spawn_203 (x1 : Int32) (x2 : Int32) (t : zS) : zR := zbd (mX5_get 102 1000 x2 t) fun r2144 t2145 => zbd (mX5_set 128 2501 x1 r2144 t2145) fun r2147 t2148 => some (1, t2148)
def bX4_spawn_104 (x1 : Int32) (x2 : Int32) (x3 : Int32) (x4 : Int32) (x5 : Int32) (x6 : Int32) (y0 : Int32) (y1 : Int32) (t : zS) : zR := zbd (mX4_claim (y1 + y0) t) fun r2150 t2151 => if r2150 = 0 then some (0, t2151) else zbd (mX5_get 38 400 x3 t2151) fun r2153 t2154 => zbd (mX5_get 40 400 x3 t2154) fun r2156 t2157 => zbd (mX8_join x3 r2153 r2156 t2157) fun r2159 t2160 => zbd (mX4_handOver r2159 x3 x5 t2160) fun r2162 t2163 => zbd (mX4_giveAway x1 x2 x3 x5 t2163) fun r2165 t2166 => if x6 = 0 then bX4_spawn_203  x1 x2 t2166 else zbd (mX0_make  t2166) fun r2168 t2169 => zbd (mX8_setChannel r2159 0 r2168 t2169) fun r2171 t2172 => zbd (mX8_setChannel x1 x4 (r2168 ^^^ 1) t2172) fun r2174 t2175 => bX4_spawn_203  x1 x2 t2175
def bX4_spawn_68 (x1 : Int32) (x2 : Int32) (x3 : Int32) (x4 : Int32) (x5 : Int32) (y0 : Int32) (t : zS) : zR := zbd (mX4_tellAll x1 x2 x3 x5 t) fun r2177 t2178 => if r2177 = 0 then some (0, t2178) else zbd (mX4_cellsOf x3 t2178) fun r2180 t2181 => if y0 = 0 then bX4_spawn_104  x1 x2 x3 x4 x5 y0 0 r2180 t2181 else zbd (mX0_cellsOfOne  t2181) fun r2183 t2184 => bX4_spawn_104  x1 x2 x3 x4 x5 y0 r2183 r2180 t2184
def bX4_spawn_67 (x1 : Int32) (x2 : Int32) (x3 : Int32) (x4 : Int32) (x5 : Int32) (t : zS) : zR := bX4_spawn_68  x1 x2 x3 x4 x5 0 t
def bX4_spawn_42 (x1 : Int32) (x2 : Int32) (x3 : Int32) (x4 : Int32) (y0 : Int32) (t : zS) : zR := if x4 < 0 then bX4_spawn_67  x1 x2 x3 x4 y0 t else zbd (mX5_get 106 1000 x2 t) fun r2186 t2187 => if r2186 = 0 then bX4_spawn_68  x1 x2 x3 x4 y0 1 t2187 else bX4_spawn_67  x1 x2 x3 x4 y0 t2187
def mX4_spawn (x1 : Int32) (x2 : Int32) (t : zS) : zR := zbd (mX5_get 92 1000 x2 t) fun r2189 t2190 => zbd (mX6_find r2189 t2190) fun r2192 t2193 => zbd (mX5_get 90 1000 x2 t2193) fun r2195 t2196 => if r2195 < 0 then bX4_spawn_42  x1 x2 r2192 r2195 0 t2196 else bX4_spawn_42  x1 x2 r2192 r2195 1 t2196
set_option maxHeartbeats 4000000 in
set_option maxRecDepth 20000 in
theorem wbX4_spawn_203 {E : zE} {C : zC} {f : Nat} {ro : Int32 × zS} (hf : 5 ≤ f) (x1 : Int32) (x2 : Int32) (t : zS) (hF : bX4_spawn_203  x1 x2 t = some ro) : zJ E shC C cX4_spawn RX4 9 f (some .boolean) ro t 203 [(0, .ref (za E 7)), (1, .int x1), (2, .int x2)] [] := by
  unfold bX4_spawn_203 at hF
  refine z_aload_n 0 dX4_spawn_203 rfl rfl ?_
  refine z_getr fr_RX4_21 dX4_spawn_204 ?_
  refine z_getr fr_RX4_112 dX4_spawn_207 ?_
  refine z_iload_n 1 dX4_spawn_210 rfl rfl ?_
  refine z_aload_n 0 dX4_spawn_211 rfl rfl ?_
  refine z_getr fr_RX4_48 dX4_spawn_212 ?_
  refine z_getr fr_RX4_186 dX4_spawn_215 ?_
  refine z_iload_n 2 dX4_spawn_218 rfl rfl ?_
  obtain ⟨r2144, t2145, hc2146, hF⟩ := zbd_at hF
  refine z_callVi (ctX5_get (E := E) (sh := shC) (f := f - 1) (by omega) (k := 102) (n := 1000) rfl rfl hc2146) yy_X5_get yv_X5_get ob_C_102 lk_RX4_99 (by omega) rfl rfl (Nat.le_of_ble_eq_true rfl) dX4_spawn_219 ?_
  obtain ⟨r2147, t2148, hc2149, hF⟩ := zbd_at hF
  refine z_callVv (ctX5_set (E := E) (sh := shC) (f := f - 1) (by omega) (k := 128) (n := 2501) rfl rfl hc2149) yy_X5_set yv_X5_set ob_C_128 lk_RX4_62 (by omega) rfl rfl (Nat.le_of_ble_eq_true rfl) dX4_spawn_222 ?_
  refine z_iconst (v := 1) dX4_spawn_225 (by decide) ?_
  exact z_zret hF (by decide) dX4_spawn_226
set_option maxHeartbeats 4000000 in
set_option maxRecDepth 20000 in
theorem wbX4_spawn_104 {E : zE} {C : zC} {f : Nat} {ro : Int32 × zS} (hf : 5 ≤ f) (x1 : Int32) (x2 : Int32) (x3 : Int32) (x4 : Int32) (x5 : Int32) (x6 : Int32) (y0 : Int32) (y1 : Int32) (t : zS) (hF : bX4_spawn_104  x1 x2 x3 x4 x5 x6 y0 y1 t = some ro) : zJ E shC C cX4_spawn RX4 9 f (some .boolean) ro t 104 [(0, .ref (za E 7)), (1, .int x1), (2, .int x2), (3, .int x3), (4, .int x4), (5, .int x5), (6, .int x6)] [.int y0, .int y1, .ref (za E 7)] := by
  unfold bX4_spawn_104 at hF
  refine z_iadd dX4_spawn_104 ?_
  obtain ⟨r2150, t2151, hc2152, hF⟩ := zbd_at hF
  refine z_callVi (ctX4_claim (E := E) (f := f - 1) (by omega) hc2152) yy_X4_claim yv_X4_claim ob_C_7 lk_RX4_270 (by omega) rfl rfl (Nat.le_of_ble_eq_true rfl) dX4_spawn_105 ?_
  refine z_if_ne (tgt := 113) dX4_spawn_108 (by decide) (fun hc => ?_) (fun hc => ?_)
  · have hF := zif_f hc hF
    refine z_aload_n 0 dX4_spawn_113 rfl rfl ?_
    refine z_getr fr_RX4_21 dX4_spawn_114 ?_
    refine z_iload_n 3 dX4_spawn_117 rfl rfl ?_
    refine z_aload_n 0 dX4_spawn_118 rfl rfl ?_
    refine z_getr fr_RX4_52 dX4_spawn_119 ?_
    refine z_getr fr_RX4_96 dX4_spawn_122 ?_
    refine z_iload_n 3 dX4_spawn_125 rfl rfl ?_
    obtain ⟨r2153, t2154, hc2155, hF⟩ := zbd_at hF
    refine z_callVi (ctX5_get (E := E) (sh := shC) (f := f - 1) (by omega) (k := 38) (n := 400) rfl rfl hc2155) yy_X5_get yv_X5_get ob_C_38 lk_RX4_99 (by omega) rfl rfl (Nat.le_of_ble_eq_true rfl) dX4_spawn_126 ?_
    refine z_aload_n 0 dX4_spawn_129 rfl rfl ?_
    refine z_getr fr_RX4_52 dX4_spawn_130 ?_
    refine z_getr fr_RX4_102 dX4_spawn_133 ?_
    refine z_iload_n 3 dX4_spawn_136 rfl rfl ?_
    obtain ⟨r2156, t2157, hc2158, hF⟩ := zbd_at hF
    refine z_callVi (ctX5_get (E := E) (sh := shC) (f := f - 1) (by omega) (k := 40) (n := 400) rfl rfl hc2158) yy_X5_get yv_X5_get ob_C_40 lk_RX4_99 (by omega) rfl rfl (Nat.le_of_ble_eq_true rfl) dX4_spawn_137 ?_
    obtain ⟨r2159, t2160, hc2161, hF⟩ := zbd_at hF
    refine z_callVi (ctX8_join (E := E) (f := f - 1) (by omega) hc2161) yy_X8_join yv_X8_join ob_C_60 lk_RX4_105 (by omega) rfl rfl (Nat.le_of_ble_eq_true rfl) dX4_spawn_140 ?_
    refine z_istore (lv' := [(7, .int r2159), (0, .ref (za E 7)), (1, .int x1), (2, .int x2), (3, .int x3), (4, .int x4), (5, .int x5), (6, .int x6)]) dX4_spawn_143 (by decide) rfl ?_
    refine z_aload_n 1 dX4_spawn_145 rfl rfl ?_
    refine z_iload 0 dX4_spawn_146 rfl ?_
    refine z_iload_n 4 dX4_spawn_148 rfl rfl ?_
    refine z_iload 6 dX4_spawn_149 rfl ?_
    obtain ⟨r2162, t2163, hc2164, hF⟩ := zbd_at hF
    refine z_callVv (ctX4_handOver (E := E) (f := f - 1) (by omega) hc2164) yy_X4_handOver yv_X4_handOver ob_C_7 lk_RX4_273 (by omega) rfl rfl (Nat.le_of_ble_eq_true rfl) dX4_spawn_151 ?_
    refine z_aload_n 1 dX4_spawn_154 rfl rfl ?_
    refine z_iload_n 2 dX4_spawn_155 rfl rfl ?_
    refine z_iload_n 3 dX4_spawn_156 rfl rfl ?_
    refine z_iload_n 4 dX4_spawn_157 rfl rfl ?_
    refine z_iload 6 dX4_spawn_158 rfl ?_
    obtain ⟨r2165, t2166, hc2167, hF⟩ := zbd_at hF
    refine z_callVv (ctX4_giveAway (E := E) (f := f - 1) (by omega) hc2167) yy_X4_giveAway yv_X4_giveAway ob_C_7 lk_RX4_276 (by omega) rfl rfl (Nat.le_of_ble_eq_true rfl) dX4_spawn_160 ?_
    refine z_iload 7 dX4_spawn_163 rfl ?_
    refine z_if_eq (tgt := 203) dX4_spawn_165 (by decide) (fun hc => ?_) (fun hc => ?_)
    · have hF := zif_t hc hF
      refine z_sub [1, 2, 3] rfl ?_
      exact wbX4_spawn_203 hf  x1 x2 _ hF
    · have hF := zif_f hc hF
      refine z_aload_n 1 dX4_spawn_168 rfl rfl ?_
      refine z_getr fr_RX4_12 dX4_spawn_169 ?_
      obtain ⟨r2168, t2169, hc2170, hF⟩ := zbd_at hF
      refine z_callVi (ctX0_make (E := E) (f := f - 1) (by omega) hc2170) yy_X0_make yv_X0_make ob_C_59 lk_RX4_280 (by omega) rfl rfl (Nat.le_of_ble_eq_true rfl) dX4_spawn_172 ?_
      refine z_istore (lv' := [(8, .int r2168), (7, .int r2159), (0, .ref (za E 7)), (1, .int x1), (2, .int x2), (3, .int x3), (4, .int x4), (5, .int x5), (6, .int x6)]) dX4_spawn_175 (by decide) rfl ?_
      refine z_aload_n 2 dX4_spawn_177 rfl rfl ?_
      refine z_getr fr_RX4_21 dX4_spawn_178 ?_
      refine z_iload 1 dX4_spawn_181 rfl ?_
      refine z_iconst (v := 0) dX4_spawn_183 (by decide) ?_
      refine z_iload 0 dX4_spawn_184 rfl ?_
      obtain ⟨r2171, t2172, hc2173, hF⟩ := zbd_at hF
      refine z_callVv (ctX8_setChannel (E := E) (f := f - 1) (by omega) hc2173) yy_X8_setChannel yv_X8_setChannel ob_C_60 lk_RX4_200 (by omega) rfl rfl (Nat.le_of_ble_eq_true rfl) dX4_spawn_186 ?_
      refine z_aload_n 2 dX4_spawn_189 rfl rfl ?_
      refine z_getr fr_RX4_21 dX4_spawn_190 ?_
      refine z_iload_n 3 dX4_spawn_193 rfl rfl ?_
      refine z_iload 6 dX4_spawn_194 rfl ?_
      refine z_iload 0 dX4_spawn_196 rfl ?_
      refine z_iconst (v := 1) dX4_spawn_198 (by decide) ?_
      refine z_ixor dX4_spawn_199 ?_
      obtain ⟨r2174, t2175, hc2176, hF⟩ := zbd_at hF
      refine z_callVv (ctX8_setChannel (E := E) (f := f - 1) (by omega) hc2176) yy_X8_setChannel yv_X8_setChannel ob_C_60 lk_RX4_200 (by omega) rfl rfl (Nat.le_of_ble_eq_true rfl) dX4_spawn_200 ?_
      refine z_sub [2, 3, 4] rfl ?_
      exact wbX4_spawn_203 hf  x1 x2 _ hF
  · have hF := zif_t hc hF
    refine z_iconst (v := 0) dX4_spawn_111 (by decide) ?_
    exact z_zret hF (by decide) dX4_spawn_112
set_option maxHeartbeats 4000000 in
set_option maxRecDepth 20000 in
theorem wbX4_spawn_68 {E : zE} {C : zC} {f : Nat} {ro : Int32 × zS} (hf : 5 ≤ f) (x1 : Int32) (x2 : Int32) (x3 : Int32) (x4 : Int32) (x5 : Int32) (y0 : Int32) (t : zS) (hF : bX4_spawn_68  x1 x2 x3 x4 x5 y0 t = some ro) : zJ E shC C cX4_spawn RX4 9 f (some .boolean) ro t 68 [(0, .ref (za E 7)), (1, .int x1), (2, .int x2), (3, .int x3), (4, .int x4), (5, .int x5)] [.int y0] := by
  unfold bX4_spawn_68 at hF
  refine z_istore (lv' := [(6, .int y0), (0, .ref (za E 7)), (1, .int x1), (2, .int x2), (3, .int x3), (4, .int x4), (5, .int x5)]) dX4_spawn_68 (by decide) rfl ?_
  refine z_aload_n 1 dX4_spawn_70 rfl rfl ?_
  refine z_iload_n 2 dX4_spawn_71 rfl rfl ?_
  refine z_iload_n 3 dX4_spawn_72 rfl rfl ?_
  refine z_iload_n 4 dX4_spawn_73 rfl rfl ?_
  refine z_iload 6 dX4_spawn_74 rfl ?_
  obtain ⟨r2177, t2178, hc2179, hF⟩ := zbd_at hF
  refine z_callVi (ctX4_tellAll (E := E) (f := f - 1) (by omega) hc2179) yy_X4_tellAll yv_X4_tellAll ob_C_7 lk_RX4_266 (by omega) rfl rfl (Nat.le_of_ble_eq_true rfl) dX4_spawn_76 ?_
  refine z_if_eq (tgt := 111) dX4_spawn_79 (by decide) (fun hc => ?_) (fun hc => ?_)
  · have hF := zif_t hc hF
    refine z_iconst (v := 0) dX4_spawn_111 (by decide) ?_
    exact z_zret hF (by decide) dX4_spawn_112
  · have hF := zif_f hc hF
    refine z_aload_n 1 dX4_spawn_82 rfl rfl ?_
    refine z_aload_n 1 dX4_spawn_83 rfl rfl ?_
    refine z_iload_n 4 dX4_spawn_84 rfl rfl ?_
    obtain ⟨r2180, t2181, hc2182, hF⟩ := zbd_at hF
    refine z_callVi (ctX4_cellsOf (E := E) (f := f - 1) (by omega) hc2182) yy_X4_cellsOf yv_X4_cellsOf ob_C_7 lk_RX4_93 (by omega) rfl rfl (Nat.le_of_ble_eq_true rfl) dX4_spawn_85 ?_
    refine z_iload 0 dX4_spawn_88 rfl ?_
    refine z_if_eq (tgt := 103) dX4_spawn_90 (by decide) (fun hc => ?_) (fun hc => ?_)
    · have hF := zif_t hc hF
      refine z_iconst (v := 0) dX4_spawn_103 (by decide) ?_
      refine z_sub [1, 2, 3, 4, 5, 6, 0] rfl ?_
      exact wbX4_spawn_104 hf  x1 x2 x3 x4 x5 y0 0 r2180 _ hF
    · have hF := zif_f hc hF
      refine z_aload_n 1 dX4_spawn_93 rfl rfl ?_
      refine z_getr fr_RX4_12 dX4_spawn_94 ?_
      obtain ⟨r2183, t2184, hc2185, hF⟩ := zbd_at hF
      refine z_callVi (ctX0_cellsOfOne (E := E) (f := f - 1) (by omega) hc2185) yy_X0_cellsOfOne yv_X0_cellsOfOne ob_C_59 lk_RX4_196 (by omega) rfl rfl (Nat.le_of_ble_eq_true rfl) dX4_spawn_97 ?_
      refine z_goto (tgt := 104) dX4_spawn_100 (by decide) ?_
      refine z_sub [1, 2, 3, 4, 5, 6, 0] rfl ?_
      exact wbX4_spawn_104 hf  x1 x2 x3 x4 x5 y0 r2183 r2180 _ hF
set_option maxHeartbeats 4000000 in
set_option maxRecDepth 20000 in
theorem wbX4_spawn_67 {E : zE} {C : zC} {f : Nat} {ro : Int32 × zS} (hf : 5 ≤ f) (x1 : Int32) (x2 : Int32) (x3 : Int32) (x4 : Int32) (x5 : Int32) (t : zS) (hF : bX4_spawn_67  x1 x2 x3 x4 x5 t = some ro) : zJ E shC C cX4_spawn RX4 9 f (some .boolean) ro t 67 [(0, .ref (za E 7)), (1, .int x1), (2, .int x2), (3, .int x3), (4, .int x4), (5, .int x5)] [] := by
  unfold bX4_spawn_67 at hF
  refine z_iconst (v := 0) dX4_spawn_67 (by decide) ?_
  exact wbX4_spawn_68 hf  x1 x2 x3 x4 x5 0 _ hF
set_option maxHeartbeats 4000000 in
set_option maxRecDepth 20000 in
theorem wbX4_spawn_42 {E : zE} {C : zC} {f : Nat} {ro : Int32 × zS} (hf : 5 ≤ f) (x1 : Int32) (x2 : Int32) (x3 : Int32) (x4 : Int32) (y0 : Int32) (t : zS) (hF : bX4_spawn_42  x1 x2 x3 x4 y0 t = some ro) : zJ E shC C cX4_spawn RX4 9 f (some .boolean) ro t 42 [(0, .ref (za E 7)), (1, .int x1), (2, .int x2), (3, .int x3), (4, .int x4)] [.int y0] := by
  unfold bX4_spawn_42 at hF
  refine z_istore (lv' := [(5, .int y0), (0, .ref (za E 7)), (1, .int x1), (2, .int x2), (3, .int x3), (4, .int x4)]) dX4_spawn_42 (by decide) rfl ?_
  refine z_iload 5 dX4_spawn_44 rfl ?_
  refine z_if_lt (tgt := 67) dX4_spawn_46 (by decide) (fun hc => ?_) (fun hc => ?_)
  · have hF := zif_t hc hF
    refine z_sub [1, 2, 3, 4, 5, 0] rfl ?_
    exact wbX4_spawn_67 hf  x1 x2 x3 x4 y0 _ hF
  · have hF := zif_f hc hF
    refine z_aload_n 1 dX4_spawn_49 rfl rfl ?_
    refine z_getr fr_RX4_48 dX4_spawn_50 ?_
    refine z_getr fr_RX4_177 dX4_spawn_53 ?_
    refine z_iload_n 3 dX4_spawn_56 rfl rfl ?_
    obtain ⟨r2186, t2187, hc2188, hF⟩ := zbd_at hF
    refine z_callVi (ctX5_get (E := E) (sh := shC) (f := f - 1) (by omega) (k := 106) (n := 1000) rfl rfl hc2188) yy_X5_get yv_X5_get ob_C_106 lk_RX4_99 (by omega) rfl rfl (Nat.le_of_ble_eq_true rfl) dX4_spawn_57 ?_
    refine z_if_ne (tgt := 67) dX4_spawn_60 (by decide) (fun hc => ?_) (fun hc => ?_)
    · have hF := zif_f hc hF
      refine z_sub [1, 2, 3, 4, 5, 0] rfl ?_
      exact wbX4_spawn_67 hf  x1 x2 x3 x4 y0 _ hF
    · have hF := zif_t hc hF
      refine z_iconst (v := 1) dX4_spawn_63 (by decide) ?_
      refine z_goto (tgt := 68) dX4_spawn_64 (by decide) ?_
      refine z_sub [1, 2, 3, 4, 5, 0] rfl ?_
      exact wbX4_spawn_68 hf  x1 x2 x3 x4 y0 1 _ hF
set_option maxHeartbeats 4000000 in
set_option maxRecDepth 20000 in
theorem ctX4_spawn {E : zE} {f : Nat} (hf : 5 ≤ f) {x1 : Int32} {x2 : Int32} {t : zS} {ro : Int32 × zS} (hF : mX4_spawn  x1 x2 t = some ro) : zM E shC f yX4_spawn cX4_spawn 9 (some .boolean) [.ref (za E 7), .int x1, .int x2] t ro := by
  refine zM_of (by decide) (Nat.le_of_ble_eq_true rfl) (fun C => ?_)
  show zJ E shC C cX4_spawn RX4 9 f (some .boolean) ro t 0 [(0, .ref (za E 7)), (1, .int x1), (2, .int x2)] []
  unfold mX4_spawn at hF
  refine z_aload_n 0 dX4_spawn_0 rfl rfl ?_
  refine z_getr fr_RX4_52 dX4_spawn_1 ?_
  refine z_aload_n 0 dX4_spawn_4 rfl rfl ?_
  refine z_getr fr_RX4_48 dX4_spawn_5 ?_
  refine z_getr fr_RX4_204 dX4_spawn_8 ?_
  refine z_iload_n 2 dX4_spawn_11 rfl rfl ?_
  obtain ⟨r2189, t2190, hc2191, hF⟩ := zbd_at hF
  refine z_callVi (ctX5_get (E := E) (sh := shC) (f := f - 1) (by omega) (k := 92) (n := 1000) rfl rfl hc2191) yy_X5_get yv_X5_get ob_C_92 lk_RX4_99 (by omega) rfl rfl (Nat.le_of_ble_eq_true rfl) dX4_spawn_12 ?_
  obtain ⟨r2192, t2193, hc2194, hF⟩ := zbd_at hF
  refine z_callVi (ctX6_find (E := E) (f := f - 1) (by omega) hc2194) yy_X6_find yv_X6_find ob_C_4 lk_RX4_87 (by omega) rfl rfl (Nat.le_of_ble_eq_true rfl) dX4_spawn_15 ?_
  refine z_istore_n (lv' := [(3, .int r2192), (0, .ref (za E 7)), (1, .int x1), (2, .int x2)]) dX4_spawn_18 rfl (by decide) rfl ?_
  refine z_aload_n 1 dX4_spawn_19 rfl rfl ?_
  refine z_getr fr_RX4_48 dX4_spawn_20 ?_
  refine z_getr fr_RX4_180 dX4_spawn_23 ?_
  refine z_iload_n 3 dX4_spawn_26 rfl rfl ?_
  obtain ⟨r2195, t2196, hc2197, hF⟩ := zbd_at hF
  refine z_callVi (ctX5_get (E := E) (sh := shC) (f := f - 1) (by omega) (k := 90) (n := 1000) rfl rfl hc2197) yy_X5_get yv_X5_get ob_C_90 lk_RX4_99 (by omega) rfl rfl (Nat.le_of_ble_eq_true rfl) dX4_spawn_27 ?_
  refine z_istore (lv' := [(4, .int r2195), (3, .int r2192), (0, .ref (za E 7)), (1, .int x1), (2, .int x2)]) dX4_spawn_30 (by decide) rfl ?_
  refine z_iload 0 dX4_spawn_32 rfl ?_
  refine z_if_lt (tgt := 41) dX4_spawn_34 (by decide) (fun hc => ?_) (fun hc => ?_)
  · have hF := zif_t hc hF
    refine z_iconst (v := 0) dX4_spawn_41 (by decide) ?_
    refine z_sub [2, 3, 4, 1, 0] rfl ?_
    exact wbX4_spawn_42 hf  x1 x2 r2192 r2195 0 _ hF
  · have hF := zif_f hc hF
    refine z_iconst (v := 1) dX4_spawn_37 (by decide) ?_
    refine z_goto (tgt := 42) dX4_spawn_38 (by decide) ?_
    refine z_sub [2, 3, 4, 1, 0] rfl ?_
    exact wbX4_spawn_42 hf  x1 x2 r2192 r2195 1 _ hF
-- SessionHouse$House.become(II)Z
theorem dX4_become_0 : decode cX4_become 0 = .ok (.aload_n 0, 1) := by decide +kernel
theorem dX4_become_1 : decode cX4_become 1 = .ok (.getfield 52, 3) := by decide +kernel
theorem dX4_become_4 : decode cX4_become 4 = .ok (.aload_n 0, 1) := by decide +kernel
theorem dX4_become_5 : decode cX4_become 5 = .ok (.getfield 48, 3) := by decide +kernel
theorem dX4_become_8 : decode cX4_become 8 = .ok (.getfield 204, 3) := by decide +kernel
theorem dX4_become_11 : decode cX4_become 11 = .ok (.iload_n 2, 1) := by decide +kernel
theorem dX4_become_12 : decode cX4_become 12 = .ok (.invokevirtual 99, 3) := by decide +kernel
theorem dX4_become_15 : decode cX4_become 15 = .ok (.invokevirtual 87, 3) := by decide +kernel
theorem dX4_become_18 : decode cX4_become 18 = .ok (.istore_n 3, 1) := by decide +kernel
theorem dX4_become_19 : decode cX4_become 19 = .ok (.aload_n 0, 1) := by decide +kernel
theorem dX4_become_20 : decode cX4_become 20 = .ok (.iload_n 1, 1) := by decide +kernel
theorem dX4_become_21 : decode cX4_become 21 = .ok (.iload_n 2, 1) := by decide +kernel
theorem dX4_become_22 : decode cX4_become 22 = .ok (.iload_n 3, 1) := by decide +kernel
theorem dX4_become_23 : decode cX4_become 23 = .ok (.iconst 0, 1) := by decide +kernel
theorem dX4_become_24 : decode cX4_become 24 = .ok (.invokevirtual 266, 3) := by decide +kernel
theorem dX4_become_27 : decode cX4_become 27 = .ok (.ifCond .eq 31, 3) := by decide +kernel
theorem dX4_become_30 : decode cX4_become 30 = .ok (.aload_n 0, 1) := by decide +kernel
theorem dX4_become_31 : decode cX4_become 31 = .ok (.aload_n 0, 1) := by decide +kernel
theorem dX4_become_32 : decode cX4_become 32 = .ok (.iload_n 3, 1) := by decide +kernel
theorem dX4_become_33 : decode cX4_become 33 = .ok (.invokevirtual 93, 3) := by decide +kernel
theorem dX4_become_36 : decode cX4_become 36 = .ok (.aload_n 0, 1) := by decide +kernel
theorem dX4_become_37 : decode cX4_become 37 = .ok (.aload_n 0, 1) := by decide +kernel
theorem dX4_become_38 : decode cX4_become 38 = .ok (.getfield 21, 3) := by decide +kernel
theorem dX4_become_41 : decode cX4_become 41 = .ok (.getfield 115, 3) := by decide +kernel
theorem dX4_become_44 : decode cX4_become 44 = .ok (.iload_n 1, 1) := by decide +kernel
theorem dX4_become_45 : decode cX4_become 45 = .ok (.invokevirtual 99, 3) := by decide +kernel
theorem dX4_become_48 : decode cX4_become 48 = .ok (.invokevirtual 93, 3) := by decide +kernel
theorem dX4_become_51 : decode cX4_become 51 = .ok (.isub, 1) := by decide +kernel
theorem dX4_become_52 : decode cX4_become 52 = .ok (.invokevirtual 270, 3) := by decide +kernel
theorem dX4_become_55 : decode cX4_become 55 = .ok (.ifCond .ne 5, 3) := by decide +kernel
theorem dX4_become_58 : decode cX4_become 58 = .ok (.iconst 0, 1) := by decide +kernel
theorem dX4_become_59 : decode cX4_become 59 = .ok (.ireturn, 1) := by decide +kernel
theorem dX4_become_60 : decode cX4_become 60 = .ok (.aload_n 0, 1) := by decide +kernel
theorem dX4_become_61 : decode cX4_become 61 = .ok (.getfield 21, 3) := by decide +kernel
theorem dX4_become_64 : decode cX4_become 64 = .ok (.iload_n 1, 1) := by decide +kernel
theorem dX4_become_65 : decode cX4_become 65 = .ok (.iload_n 3, 1) := by decide +kernel
theorem dX4_become_66 : decode cX4_become 66 = .ok (.aload_n 0, 1) := by decide +kernel
theorem dX4_become_67 : decode cX4_become 67 = .ok (.getfield 52, 3) := by decide +kernel
theorem dX4_become_70 : decode cX4_become 70 = .ok (.getfield 96, 3) := by decide +kernel
theorem dX4_become_73 : decode cX4_become 73 = .ok (.iload_n 3, 1) := by decide +kernel
theorem dX4_become_74 : decode cX4_become 74 = .ok (.invokevirtual 99, 3) := by decide +kernel
theorem dX4_become_77 : decode cX4_become 77 = .ok (.aload_n 0, 1) := by decide +kernel
theorem dX4_become_78 : decode cX4_become 78 = .ok (.getfield 52, 3) := by decide +kernel
theorem dX4_become_81 : decode cX4_become 81 = .ok (.getfield 102, 3) := by decide +kernel
theorem dX4_become_84 : decode cX4_become 84 = .ok (.iload_n 3, 1) := by decide +kernel
theorem dX4_become_85 : decode cX4_become 85 = .ok (.invokevirtual 99, 3) := by decide +kernel
theorem dX4_become_88 : decode cX4_become 88 = .ok (.invokevirtual 283, 3) := by decide +kernel
theorem dX4_become_91 : decode cX4_become 91 = .ok (.aload_n 0, 1) := by decide +kernel
theorem dX4_become_92 : decode cX4_become 92 = .ok (.iload_n 1, 1) := by decide +kernel
theorem dX4_become_93 : decode cX4_become 93 = .ok (.iload_n 3, 1) := by decide +kernel
theorem dX4_become_94 : decode cX4_become 94 = .ok (.iconst 0, 1) := by decide +kernel
theorem dX4_become_95 : decode cX4_become 95 = .ok (.invokevirtual 273, 3) := by decide +kernel
theorem dX4_become_98 : decode cX4_become 98 = .ok (.iconst 1, 1) := by decide +kernel
theorem dX4_become_99 : decode cX4_become 99 = .ok (.ireturn, 1) := by decide +kernel
def mX4_become (x1 : Int32) (x2 : Int32) (t : zS) : zR := zbd (mX5_get 92 1000 x2 t) fun r2198 t2199 => zbd (mX6_find r2198 t2199) fun r2201 t2202 => zbd (mX4_tellAll x1 x2 r2201 0 t2202) fun r2204 t2205 => if r2204 = 0 then some (0, t2205) else zbd (mX4_cellsOf r2201 t2205) fun r2207 t2208 => zbd (mX5_get 126 2501 x1 t2208) fun r2210 t2211 => zbd (mX4_cellsOf r2210 t2211) fun r2213 t2214 => zbd (mX4_claim (r2207 - r2213) t2214) fun r2216 t2217 => if r2216 = 0 then some (0, t2217) else zbd (mX5_get 38 400 r2201 t2217) fun r2219 t2220 => zbd (mX5_get 40 400 r2201 t2220) fun r2222 t2223 => zbd (mX8_become x1 r2201 r2219 r2222 t2223) fun r2225 t2226 => zbd (mX4_handOver x1 r2201 0 t2226) fun r2228 t2229 => some (1, t2229)
set_option maxHeartbeats 4000000 in
set_option maxRecDepth 20000 in
theorem ctX4_become {E : zE} {f : Nat} (hf : 5 ≤ f) {x1 : Int32} {x2 : Int32} {t : zS} {ro : Int32 × zS} (hF : mX4_become  x1 x2 t = some ro) : zM E shC f yX4_become cX4_become 4 (some .boolean) [.ref (za E 7), .int x1, .int x2] t ro := by
  refine zM_of (by decide) (Nat.le_of_ble_eq_true rfl) (fun C => ?_)
  show zJ E shC C cX4_become RX4 4 f (some .boolean) ro t 0 [(0, .ref (za E 7)), (1, .int x1), (2, .int x2)] []
  unfold mX4_become at hF
  refine z_aload_n 0 dX4_become_0 rfl rfl ?_
  refine z_getr fr_RX4_52 dX4_become_1 ?_
  refine z_aload_n 0 dX4_become_4 rfl rfl ?_
  refine z_getr fr_RX4_48 dX4_become_5 ?_
  refine z_getr fr_RX4_204 dX4_become_8 ?_
  refine z_iload_n 2 dX4_become_11 rfl rfl ?_
  obtain ⟨r2198, t2199, hc2200, hF⟩ := zbd_at hF
  refine z_callVi (ctX5_get (E := E) (sh := shC) (f := f - 1) (by omega) (k := 92) (n := 1000) rfl rfl hc2200) yy_X5_get yv_X5_get ob_C_92 lk_RX4_99 (by omega) rfl rfl (Nat.le_of_ble_eq_true rfl) dX4_become_12 ?_
  obtain ⟨r2201, t2202, hc2203, hF⟩ := zbd_at hF
  refine z_callVi (ctX6_find (E := E) (f := f - 1) (by omega) hc2203) yy_X6_find yv_X6_find ob_C_4 lk_RX4_87 (by omega) rfl rfl (Nat.le_of_ble_eq_true rfl) dX4_become_15 ?_
  refine z_istore_n (lv' := [(3, .int r2201), (0, .ref (za E 7)), (1, .int x1), (2, .int x2)]) dX4_become_18 rfl (by decide) rfl ?_
  refine z_aload_n 1 dX4_become_19 rfl rfl ?_
  refine z_iload_n 2 dX4_become_20 rfl rfl ?_
  refine z_iload_n 3 dX4_become_21 rfl rfl ?_
  refine z_iload_n 0 dX4_become_22 rfl rfl ?_
  refine z_iconst (v := 0) dX4_become_23 (by decide) ?_
  obtain ⟨r2204, t2205, hc2206, hF⟩ := zbd_at hF
  refine z_callVi (ctX4_tellAll (E := E) (f := f - 1) (by omega) hc2206) yy_X4_tellAll yv_X4_tellAll ob_C_7 lk_RX4_266 (by omega) rfl rfl (Nat.le_of_ble_eq_true rfl) dX4_become_24 ?_
  refine z_if_eq (tgt := 58) dX4_become_27 (by decide) (fun hc => ?_) (fun hc => ?_)
  · have hF := zif_t hc hF
    refine z_iconst (v := 0) dX4_become_58 (by decide) ?_
    exact z_zret hF (by decide) dX4_become_59
  · have hF := zif_f hc hF
    refine z_aload_n 1 dX4_become_30 rfl rfl ?_
    refine z_aload_n 1 dX4_become_31 rfl rfl ?_
    refine z_iload_n 0 dX4_become_32 rfl rfl ?_
    obtain ⟨r2207, t2208, hc2209, hF⟩ := zbd_at hF
    refine z_callVi (ctX4_cellsOf (E := E) (f := f - 1) (by omega) hc2209) yy_X4_cellsOf yv_X4_cellsOf ob_C_7 lk_RX4_93 (by omega) rfl rfl (Nat.le_of_ble_eq_true rfl) dX4_become_33 ?_
    refine z_aload_n 1 dX4_become_36 rfl rfl ?_
    refine z_aload_n 1 dX4_become_37 rfl rfl ?_
    refine z_getr fr_RX4_21 dX4_become_38 ?_
    refine z_getr fr_RX4_115 dX4_become_41 ?_
    refine z_iload_n 2 dX4_become_44 rfl rfl ?_
    obtain ⟨r2210, t2211, hc2212, hF⟩ := zbd_at hF
    refine z_callVi (ctX5_get (E := E) (sh := shC) (f := f - 1) (by omega) (k := 126) (n := 2501) rfl rfl hc2212) yy_X5_get yv_X5_get ob_C_126 lk_RX4_99 (by omega) rfl rfl (Nat.le_of_ble_eq_true rfl) dX4_become_45 ?_
    obtain ⟨r2213, t2214, hc2215, hF⟩ := zbd_at hF
    refine z_callVi (ctX4_cellsOf (E := E) (f := f - 1) (by omega) hc2215) yy_X4_cellsOf yv_X4_cellsOf ob_C_7 lk_RX4_93 (by omega) rfl rfl (Nat.le_of_ble_eq_true rfl) dX4_become_48 ?_
    refine z_isub dX4_become_51 ?_
    obtain ⟨r2216, t2217, hc2218, hF⟩ := zbd_at hF
    refine z_callVi (ctX4_claim (E := E) (f := f - 1) (by omega) hc2218) yy_X4_claim yv_X4_claim ob_C_7 lk_RX4_270 (by omega) rfl rfl (Nat.le_of_ble_eq_true rfl) dX4_become_52 ?_
    refine z_if_ne (tgt := 60) dX4_become_55 (by decide) (fun hc => ?_) (fun hc => ?_)
    · have hF := zif_f hc hF
      refine z_aload_n 1 dX4_become_60 rfl rfl ?_
      refine z_getr fr_RX4_21 dX4_become_61 ?_
      refine z_iload_n 2 dX4_become_64 rfl rfl ?_
      refine z_iload_n 0 dX4_become_65 rfl rfl ?_
      refine z_aload_n 1 dX4_become_66 rfl rfl ?_
      refine z_getr fr_RX4_52 dX4_become_67 ?_
      refine z_getr fr_RX4_96 dX4_become_70 ?_
      refine z_iload_n 0 dX4_become_73 rfl rfl ?_
      obtain ⟨r2219, t2220, hc2221, hF⟩ := zbd_at hF
      refine z_callVi (ctX5_get (E := E) (sh := shC) (f := f - 1) (by omega) (k := 38) (n := 400) rfl rfl hc2221) yy_X5_get yv_X5_get ob_C_38 lk_RX4_99 (by omega) rfl rfl (Nat.le_of_ble_eq_true rfl) dX4_become_74 ?_
      refine z_aload_n 1 dX4_become_77 rfl rfl ?_
      refine z_getr fr_RX4_52 dX4_become_78 ?_
      refine z_getr fr_RX4_102 dX4_become_81 ?_
      refine z_iload_n 0 dX4_become_84 rfl rfl ?_
      obtain ⟨r2222, t2223, hc2224, hF⟩ := zbd_at hF
      refine z_callVi (ctX5_get (E := E) (sh := shC) (f := f - 1) (by omega) (k := 40) (n := 400) rfl rfl hc2224) yy_X5_get yv_X5_get ob_C_40 lk_RX4_99 (by omega) rfl rfl (Nat.le_of_ble_eq_true rfl) dX4_become_85 ?_
      obtain ⟨r2225, t2226, hc2227, hF⟩ := zbd_at hF
      refine z_callVv (ctX8_become (E := E) (f := f - 1) (by omega) hc2227) yy_X8_become yv_X8_become ob_C_60 lk_RX4_283 (by omega) rfl rfl (Nat.le_of_ble_eq_true rfl) dX4_become_88 ?_
      refine z_aload_n 1 dX4_become_91 rfl rfl ?_
      refine z_iload_n 2 dX4_become_92 rfl rfl ?_
      refine z_iload_n 0 dX4_become_93 rfl rfl ?_
      refine z_iconst (v := 0) dX4_become_94 (by decide) ?_
      obtain ⟨r2228, t2229, hc2230, hF⟩ := zbd_at hF
      refine z_callVv (ctX4_handOver (E := E) (f := f - 1) (by omega) hc2230) yy_X4_handOver yv_X4_handOver ob_C_7 lk_RX4_273 (by omega) rfl rfl (Nat.le_of_ble_eq_true rfl) dX4_become_95 ?_
      refine z_iconst (v := 1) dX4_become_98 (by decide) ?_
      exact z_zret hF (by decide) dX4_become_99
    · have hF := zif_t hc hF
      refine z_iconst (v := 0) dX4_become_58 (by decide) ?_
      exact z_zret hF (by decide) dX4_become_59
