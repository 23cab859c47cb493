set_option maxRecDepth 20000 in
theorem fr_RX11_14 : zFr shC RX11 14 0 0 1 := ⟨11, _, _, rfl, rfl, rfl, by decide, (zGT_in zch3 96 rfl rfl), u_RX11⟩
set_option maxRecDepth 20000 in
theorem fi_RX11_70 : zFi shC RX11 70 0 6 := ⟨11, _, _, rfl, rfl, rfl, by decide, (zGT_in zch3 102 rfl rfl), u_RX11⟩
set_option maxRecDepth 20000 in
theorem yy_X5_set : zY yX5_set cX5_set 3 none 2 := ⟨(zGT_in zch3 138 rfl rfl), (zGT_in zch1 2 rfl rfl), by decide +kernel, by decide +kernel, by decide +kernel, by decide⟩
set_option maxRecDepth 20000 in
theorem yv_X5_set : zYv yX5_set := ⟨(zGT_in zch3 136 rfl rfl), (zGT_in zch3 137 rfl rfl)⟩
set_option maxRecDepth 20000 in
theorem lk_RX11_76 : Cond.methodLink RX11 76 yX5_set ∈ zGT := (zGT_in zch3 135 rfl rfl)
set_option maxRecDepth 20000 in
theorem ob_C_1 : zObj shC 1 RX5 := ⟨5, _, _, rfl, rfl, rfl⟩
set_option maxRecDepth 20000 in
theorem fw_RX11_70 : zFw shC RX11 70 0 6 .int := ⟨11, _, _, tyX11, rfl, rfl, rfl, by decide, (zGT_in zch3 102 rfl rfl), u_RX11, tyX11_ok, nmX11, rfl, by decide +kernel⟩
set_option maxRecDepth 20000 in
theorem yy_X11_append : zY yX11_append cX11_append 3 none 1 := ⟨(zGT_in zch3 134 rfl rfl), (zGT_in zch1 1 rfl rfl), by decide +kernel, by decide +kernel, by decide +kernel, by decide⟩
set_option maxRecDepth 20000 in
theorem yv_X11_append : zYv yX11_append := ⟨(zGT_in zch3 133 rfl rfl), (zGT_in zch0 0 rfl rfl)⟩
set_option maxRecDepth 20000 in
theorem lk_RX11_73 : Cond.methodLink RX11 73 yX11_append ∈ zGT := (zGT_in zch3 131 rfl rfl)
set_option maxRecDepth 20000 in
theorem ob_C_0 : zObj shC 0 RX11 := ⟨11, _, _, rfl, rfl, rfl⟩
set_option maxRecDepth 20000 in
theorem fw_RX8_47 : zFw shC RX8 47 60 10 .int := ⟨8, _, _, tyX8, rfl, rfl, rfl, by decide, (zGT_in zch2 233 rfl rfl), u_RX8, tyX8_ok, nmX8, rfl, by decide +kernel⟩
set_option maxRecDepth 20000 in
theorem fw_RX8_51 : zFw shC RX8 51 60 11 .int := ⟨8, _, _, tyX8, rfl, rfl, rfl, by decide, (zGT_in zch2 234 rfl rfl), u_RX8, tyX8_ok, nmX8, rfl, by decide +kernel⟩
set_option maxRecDepth 20000 in
theorem fw_RX8_54 : zFw shC RX8 54 60 12 .int := ⟨8, _, _, tyX8, rfl, rfl, rfl, by decide, (zGT_in zch2 235 rfl rfl), u_RX8, tyX8_ok, nmX8, rfl, by decide +kernel⟩
set_option maxRecDepth 20000 in
theorem fw_RX8_57 : zFw shC RX8 57 60 13 .int := ⟨8, _, _, tyX8, rfl, rfl, rfl, by decide, (zGT_in zch2 236 rfl rfl), u_RX8, tyX8_ok, nmX8, rfl, by decide +kernel⟩
set_option maxRecDepth 20000 in
theorem fw_RX8_60 : zFw shC RX8 60 60 14 .int := ⟨8, _, _, tyX8, rfl, rfl, rfl, by decide, (zGT_in zch2 237 rfl rfl), u_RX8, tyX8_ok, nmX8, rfl, by decide +kernel⟩
set_option maxRecDepth 20000 in
theorem fw_RX8_63 : zFw shC RX8 63 60 15 .int := ⟨8, _, _, tyX8, rfl, rfl, rfl, by decide, (zGT_in zch2 238 rfl rfl), u_RX8, tyX8_ok, nmX8, rfl, by decide +kernel⟩
set_option maxRecDepth 20000 in
theorem fw_RX8_66 : zFw shC RX8 66 60 16 .int := ⟨8, _, _, tyX8, rfl, rfl, rfl, by decide, (zGT_in zch2 239 rfl rfl), u_RX8, tyX8_ok, nmX8, rfl, by decide +kernel⟩
set_option maxRecDepth 20000 in
theorem fw_RX8_69 : zFw shC RX8 69 60 17 .int := ⟨8, _, _, tyX8, rfl, rfl, rfl, by decide, (zGT_in zch3 1 rfl rfl), u_RX8, tyX8_ok, nmX8, rfl, by decide +kernel⟩
set_option maxRecDepth 20000 in
theorem fw_RX0_32 : zFw shC RX0 32 59 7 .int := ⟨0, _, _, tyX0, rfl, rfl, rfl, by decide, (zGT_in zch2 183 rfl rfl), u_RX0, tyX0_ok, nmX0, rfl, by decide +kernel⟩
set_option maxRecDepth 20000 in
theorem fw_RX0_36 : zFw shC RX0 36 59 5 .int := ⟨0, _, _, tyX0, rfl, rfl, rfl, by decide, (zGT_in zch2 181 rfl rfl), u_RX0, tyX0_ok, nmX0, rfl, by decide +kernel⟩
set_option maxRecDepth 20000 in
theorem fw_RX0_39 : zFw shC RX0 39 59 6 .int := ⟨0, _, _, tyX0, rfl, rfl, rfl, by decide, (zGT_in zch2 182 rfl rfl), u_RX0, tyX0_ok, nmX0, rfl, by decide +kernel⟩
set_option maxRecDepth 20000 in
theorem fw_RX0_42 : zFw shC RX0 42 59 8 .int := ⟨0, _, _, tyX0, rfl, rfl, rfl, by decide, (zGT_in zch2 184 rfl rfl), u_RX0, tyX0_ok, nmX0, rfl, by decide +kernel⟩
set_option maxRecDepth 20000 in
theorem fw_RX0_45 : zFw shC RX0 45 59 9 .int := ⟨0, _, _, tyX0, rfl, rfl, rfl, by decide, (zGT_in zch2 186 rfl rfl), u_RX0, tyX0_ok, nmX0, rfl, by decide +kernel⟩
set_option maxRecDepth 20000 in
theorem fw_RX4_40 : zFw shC RX4 40 7 16 .int := ⟨4, _, _, tyX4, rfl, rfl, rfl, by decide, (zGT_in zch3 59 rfl rfl), u_RX4, tyX4_ok, nmX4, rfl, by decide +kernel⟩
set_option maxRecDepth 20000 in
theorem fw_RX4_66 : zFw shC RX4 66 7 10 .int := ⟨4, _, _, tyX4, rfl, rfl, rfl, by decide, (zGT_in zch3 53 rfl rfl), u_RX4, tyX4_ok, nmX4, rfl, by decide +kernel⟩
set_option maxRecDepth 20000 in
theorem fw_RX4_69 : zFw shC RX4 69 7 11 .int := ⟨4, _, _, tyX4, rfl, rfl, rfl, by decide, (zGT_in zch3 54 rfl rfl), u_RX4, tyX4_ok, nmX4, rfl, by decide +kernel⟩
set_option maxRecDepth 20000 in
theorem fw_RX4_72 : zFw shC RX4 72 7 12 .int := ⟨4, _, _, tyX4, rfl, rfl, rfl, by decide, (zGT_in zch3 55 rfl rfl), u_RX4, tyX4_ok, nmX4, rfl, by decide +kernel⟩
set_option maxRecDepth 20000 in
theorem fw_RX4_75 : zFw shC RX4 75 7 14 .int := ⟨4, _, _, tyX4, rfl, rfl, rfl, by decide, (zGT_in zch3 57 rfl rfl), u_RX4, tyX4_ok, nmX4, rfl, by decide +kernel⟩
set_option maxRecDepth 20000 in
theorem fr_RX4_21 : zFr shC RX4 21 7 4 60 := ⟨4, _, _, rfl, rfl, rfl, by decide, (zGT_in zch3 46 rfl rfl), u_RX4⟩
set_option maxRecDepth 20000 in
theorem yy_X8_forget : zY yX8_forget cX8_forget 1 none 0 := ⟨(zGT_in zch3 154 rfl rfl), (zGT_in zch1 13 rfl rfl), by decide +kernel, by decide +kernel, by decide +kernel, by decide⟩
set_option maxRecDepth 20000 in
theorem yv_X8_forget : zYv yX8_forget := ⟨(zGT_in zch3 152 rfl rfl), (zGT_in zch3 153 rfl rfl)⟩
set_option maxRecDepth 20000 in
theorem lk_RX4_78 : Cond.methodLink RX4 78 yX8_forget ∈ zGT := (zGT_in zch3 151 rfl rfl)
set_option maxRecDepth 20000 in
theorem ob_C_60 : zObj shC 60 RX8 := ⟨8, _, _, rfl, rfl, rfl⟩
set_option maxRecDepth 20000 in
theorem fr_RX4_12 : zFr shC RX4 12 7 3 59 := ⟨4, _, _, rfl, rfl, rfl, by decide, (zGT_in zch3 45 rfl rfl), u_RX4⟩
set_option maxRecDepth 20000 in
theorem yy_X0_forget : zY yX0_forget cX0_forget 2 none 1 := ⟨(zGT_in zch3 158 rfl rfl), (zGT_in zch1 12 rfl rfl), by decide +kernel, by decide +kernel, by decide +kernel, by decide⟩
set_option maxRecDepth 20000 in
theorem yv_X0_forget : zYv yX0_forget := ⟨(zGT_in zch3 156 rfl rfl), (zGT_in zch3 157 rfl rfl)⟩
set_option maxRecDepth 20000 in
theorem lk_RX4_81 : Cond.methodLink RX4 81 yX0_forget ∈ zGT := (zGT_in zch3 155 rfl rfl)
set_option maxRecDepth 20000 in
theorem ob_C_59 : zObj shC 59 RX0 := ⟨0, _, _, rfl, rfl, rfl⟩
set_option maxRecDepth 20000 in
theorem lk_RX5_7 : Cond.methodLink RX5 7 Lib.Math.max.name ∈ zGT := (zGT_in zch1 35 rfl rfl)
set_option maxRecDepth 20000 in
theorem mm1_max : Cond.static Lib.Math.max.name ∈ zGT := (zGT_in zch1 36 rfl rfl)
set_option maxRecDepth 20000 in
theorem mm3_max : Cond.code Lib.Math.max.name Lib.Math.max.code 2 (some .int) ∈ zGT := (zGT_in zch1 37 rfl rfl)
set_option maxRecDepth 20000 in
theorem mm2 : Cond.initialized "java/lang/Math" ∈ zGT := (zGT_in zch1 3 rfl rfl)
set_option maxRecDepth 20000 in
theorem fr_RX2_47 : zFr shC RX2 47 3 10 28 := ⟨2, _, _, rfl, rfl, rfl, by decide, (zGT_in zch1 62 rfl rfl), u_RX2⟩
set_option maxRecDepth 20000 in
theorem lk_RX2_70 : Cond.methodLink RX2 70 yX5_set ∈ zGT := (zGT_in zch3 175 rfl rfl)
set_option maxRecDepth 20000 in
theorem ob_C_28 : zObj shC 28 RX5 := ⟨5, _, _, rfl, rfl, rfl⟩
set_option maxRecDepth 20000 in
theorem fw_RX2_53 : zFw shC RX2 53 3 13 .int := ⟨2, _, _, tyX2, rfl, rfl, rfl, by decide, (zGT_in zch1 65 rfl rfl), u_RX2, tyX2_ok, nmX2, rfl, by decide +kernel⟩
set_option maxRecDepth 20000 in
theorem fw_RX2_57 : zFw shC RX2 57 3 14 .int := ⟨2, _, _, tyX2, rfl, rfl, rfl, by decide, (zGT_in zch1 66 rfl rfl), u_RX2, tyX2_ok, nmX2, rfl, by decide +kernel⟩
set_option maxRecDepth 20000 in
theorem fw_RX2_60 : zFw shC RX2 60 3 15 .int := ⟨2, _, _, tyX2, rfl, rfl, rfl, by decide, (zGT_in zch1 67 rfl rfl), u_RX2, tyX2_ok, nmX2, rfl, by decide +kernel⟩
set_option maxRecDepth 20000 in
theorem fr_RX2_41 : zFr shC RX2 41 3 8 24 := ⟨2, _, _, rfl, rfl, rfl, by decide, (zGT_in zch1 59 rfl rfl), u_RX2⟩
set_option maxRecDepth 20000 in
theorem yy_X5_fill : zY yX5_fill cX5_fill 5 none 3 := ⟨(zGT_in zch3 170 rfl rfl), (zGT_in zch1 2 rfl rfl), by decide +kernel, by decide +kernel, by decide +kernel, by decide⟩
set_option maxRecDepth 20000 in
theorem yv_X5_fill : zYv yX5_fill := ⟨(zGT_in zch3 168 rfl rfl), (zGT_in zch3 169 rfl rfl)⟩
set_option maxRecDepth 20000 in
theorem lk_RX2_63 : Cond.methodLink RX2 63 yX5_fill ∈ zGT := (zGT_in zch3 167 rfl rfl)
set_option maxRecDepth 20000 in
theorem ob_C_24 : zObj shC 24 RX5 := ⟨5, _, _, rfl, rfl, rfl⟩
set_option maxRecDepth 20000 in
theorem yy_X2_forgetEqual : zY yX2_forgetEqual cX2_forgetEqual 2 none 0 := ⟨(zGT_in zch3 174 rfl rfl), (zGT_in zch1 4 rfl rfl), by decide +kernel, by decide +kernel, by decide +kernel, by decide⟩
set_option maxRecDepth 20000 in
theorem yv_X2_forgetEqual : zYv yX2_forgetEqual := ⟨(zGT_in zch3 173 rfl rfl), (zGT_in zch0 1 rfl rfl)⟩
set_option maxRecDepth 20000 in
theorem lk_RX2_67 : Cond.methodLink RX2 67 yX2_forgetEqual ∈ zGT := (zGT_in zch3 171 rfl rfl)
set_option maxRecDepth 20000 in
theorem ob_C_3 : zObj shC 3 RX2 := ⟨2, _, _, rfl, rfl, rfl⟩
set_option maxRecDepth 20000 in
theorem fw_RX3_35 : zFw shC RX3 35 51 6 .int := ⟨3, _, _, tyX3, rfl, rfl, rfl, by decide, (zGT_in zch1 122 rfl rfl), u_RX3, tyX3_ok, nmX3, rfl, by decide +kernel⟩
set_option maxRecDepth 20000 in
theorem fw_RX3_39 : zFw shC RX3 39 51 7 .int := ⟨3, _, _, tyX3, rfl, rfl, rfl, by decide, (zGT_in zch1 124 rfl rfl), u_RX3, tyX3_ok, nmX3, rfl, by decide +kernel⟩
set_option maxRecDepth 20000 in
theorem fw_RX9_62 : zFw shC RX9 62 52 15 .int := ⟨9, _, _, tyX9, rfl, rfl, rfl, by decide, (zGT_in zch1 198 rfl rfl), u_RX9, tyX9_ok, nmX9, rfl, by decide +kernel⟩
set_option maxRecDepth 20000 in
theorem fw_RX9_66 : zFw shC RX9 66 52 16 .int := ⟨9, _, _, tyX9, rfl, rfl, rfl, by decide, (zGT_in zch1 199 rfl rfl), u_RX9, tyX9_ok, nmX9, rfl, by decide +kernel⟩
set_option maxRecDepth 20000 in
theorem fw_RX6_44 : zFw shC RX6 44 4 10 .int := ⟨6, _, _, tyX6, rfl, rfl, rfl, by decide, (zGT_in zch2 21 rfl rfl), u_RX6, tyX6_ok, nmX6, rfl, by decide +kernel⟩
set_option maxRecDepth 20000 in
theorem fw_RX6_48 : zFw shC RX6 48 4 9 .int := ⟨6, _, _, tyX6, rfl, rfl, rfl, by decide, (zGT_in zch2 20 rfl rfl), u_RX6, tyX6_ok, nmX6, rfl, by decide +kernel⟩
set_option maxRecDepth 20000 in
theorem fr_RX6_14 : zFr shC RX6 14 4 0 32 := ⟨6, _, _, rfl, rfl, rfl, by decide, (zGT_in zch2 3 rfl rfl), u_RX6⟩
set_option maxRecDepth 20000 in
theorem lk_RX6_51 : Cond.methodLink RX6 51 yX5_fill ∈ zGT := (zGT_in zch3 188 rfl rfl)
set_option maxRecDepth 20000 in
theorem ob_C_32 : zObj shC 32 RX5 := ⟨5, _, _, rfl, rfl, rfl⟩
set_option maxRecDepth 20000 in
theorem fr_RX6_41 : zFr shC RX6 41 4 8 48 := ⟨6, _, _, rfl, rfl, rfl, by decide, (zGT_in zch2 19 rfl rfl), u_RX6⟩
set_option maxRecDepth 20000 in
theorem ob_C_48 : zObj shC 48 RX5 := ⟨5, _, _, rfl, rfl, rfl⟩
set_option maxRecDepth 20000 in
theorem fr_RX10_20 : zFr shC RX10 20 50 1 68 := ⟨10, _, _, rfl, rfl, rfl, by decide, (zGT_in zch2 62 rfl rfl), u_RX10⟩
set_option maxRecDepth 20000 in
theorem yy_X5_get : zY yX5_get cX5_get 2 (some .int) 1 := ⟨(zGT_in zch4 15 rfl rfl), (zGT_in zch1 2 rfl rfl), by decide +kernel, by decide +kernel, by decide +kernel, by decide⟩
set_option maxRecDepth 20000 in
theorem yv_X5_get : zYv yX5_get := ⟨(zGT_in zch4 13 rfl rfl), (zGT_in zch4 14 rfl rfl)⟩
set_option maxRecDepth 20000 in
theorem lk_RX10_33 : Cond.methodLink RX10 33 yX5_get ∈ zGT := (zGT_in zch4 12 rfl rfl)
set_option maxRecDepth 20000 in
theorem ob_C_68 : zObj shC 68 RX5 := ⟨5, _, _, rfl, rfl, rfl⟩
set_option maxRecDepth 20000 in
theorem fr_RX10_24 : zFr shC RX10 24 50 2 70 := ⟨10, _, _, rfl, rfl, rfl, by decide, (zGT_in zch2 63 rfl rfl), u_RX10⟩
set_option maxRecDepth 20000 in
theorem ob_C_70 : zObj shC 70 RX5 := ⟨5, _, _, rfl, rfl, rfl⟩
set_option maxRecDepth 20000 in
theorem fi_RX10_65 : zFi shC RX10 65 50 6 := ⟨10, _, _, rfl, rfl, rfl, by decide, (zGT_in zch2 67 rfl rfl), u_RX10⟩
set_option maxRecDepth 20000 in
theorem fr_RX10_27 : zFr shC RX10 27 50 3 72 := ⟨10, _, _, rfl, rfl, rfl, by decide, (zGT_in zch2 64 rfl rfl), u_RX10⟩
set_option maxRecDepth 20000 in
theorem ob_C_72 : zObj shC 72 RX5 := ⟨5, _, _, rfl, rfl, rfl⟩
set_option maxRecDepth 20000 in
theorem yy_X10_isSame : zY yX10_isSame cX10_isSame 6 (some .boolean) 2 := ⟨(zGT_in zch4 19 rfl rfl), (zGT_in zch1 9 rfl rfl), by decide +kernel, by decide +kernel, by decide +kernel, by decide⟩
set_option maxRecDepth 20000 in
theorem yv_X10_isSame : zYv yX10_isSame := ⟨(zGT_in zch4 18 rfl rfl), (zGT_in zch0 4 rfl rfl)⟩
set_option maxRecDepth 20000 in
theorem lk_RX10_95 : Cond.methodLink RX10 95 yX10_isSame ∈ zGT := (zGT_in zch4 16 rfl rfl)
set_option maxRecDepth 20000 in
theorem ob_C_50 : zObj shC 50 RX10 := ⟨10, _, _, rfl, rfl, rfl⟩
set_option maxRecDepth 20000 in
theorem fw_RX10_65 : zFw shC RX10 65 50 6 .int := ⟨10, _, _, tyX10, rfl, rfl, rfl, by decide, (zGT_in zch2 67 rfl rfl), u_RX10, tyX10_ok, nmX10, rfl, by decide +kernel⟩
set_option maxRecDepth 20000 in
theorem fi_RX10_62 : zFi shC RX10 62 50 5 := ⟨10, _, _, rfl, rfl, rfl, by decide, (zGT_in zch2 66 rfl rfl), u_RX10⟩
set_option maxRecDepth 20000 in
theorem lk_RX10_68 : Cond.methodLink RX10 68 yX5_set ∈ zGT := (zGT_in zch3 197 rfl rfl)
set_option maxRecDepth 20000 in
theorem fw_RX10_62 : zFw shC RX10 62 50 5 .int := ⟨10, _, _, tyX10, rfl, rfl, rfl, by decide, (zGT_in zch2 66 rfl rfl), u_RX10, tyX10_ok, nmX10, rfl, by decide +kernel⟩
set_option maxRecDepth 20000 in
theorem yy_X10_nameNumber : zY yX10_nameNumber cX10_nameNumber 6 (some .int) 0 := ⟨(zGT_in zch4 11 rfl rfl), (zGT_in zch1 9 rfl rfl), by decide +kernel, by decide +kernel, by decide +kernel, by decide⟩
set_option maxRecDepth 20000 in
theorem yv_X10_nameNumber : zYv yX10_nameNumber := ⟨(zGT_in zch4 10 rfl rfl), (zGT_in zch0 3 rfl rfl)⟩
set_option maxRecDepth 20000 in
theorem lk_RX10_87 : Cond.methodLink RX10 87 yX10_nameNumber ∈ zGT := (zGT_in zch4 8 rfl rfl)
set_option maxRecDepth 20000 in
theorem fw_RX10_58 : zFw shC RX10 58 50 4 .int := ⟨10, _, _, tyX10, rfl, rfl, rfl, by decide, (zGT_in zch2 65 rfl rfl), u_RX10, tyX10_ok, nmX10, rfl, by decide +kernel⟩
set_option maxRecDepth 20000 in
theorem lk_RX10_72 : Cond.methodLink RX10 72 yX5_fill ∈ zGT := (zGT_in zch3 198 rfl rfl)
set_option maxRecDepth 20000 in
theorem fi_RX10_58 : zFi shC RX10 58 50 4 := ⟨10, _, _, rfl, rfl, rfl, by decide, (zGT_in zch2 65 rfl rfl), u_RX10⟩
set_option maxRecDepth 20000 in
theorem fr_RX10_9 : zFr shC RX10 9 50 0 67 := ⟨10, _, _, rfl, rfl, rfl, by decide, (zGT_in zch2 60 rfl rfl), u_RX10⟩
set_option maxRecDepth 20000 in
theorem yy_X10_add : zY yX10_add cX10_add 5 none 3 := ⟨(zGT_in zch4 33 rfl rfl), (zGT_in zch1 9 rfl rfl), by decide +kernel, by decide +kernel, by decide +kernel, by decide⟩
set_option maxRecDepth 20000 in
theorem yv_X10_add : zYv yX10_add := ⟨(zGT_in zch4 32 rfl rfl), (zGT_in zch0 6 rfl rfl)⟩
set_option maxRecDepth 20000 in
theorem lk_RX10_54 : Cond.methodLink RX10 54 yX10_add ∈ zGT := (zGT_in zch4 30 rfl rfl)
set_option maxRecDepth 20000 in
theorem yy_X10_isLetter : zY yX10_isLetter cX10_isLetter 1 (some .boolean) 1 := ⟨(zGT_in zch4 22 rfl rfl), (zGT_in zch1 9 rfl rfl), by decide +kernel, by decide +kernel, by decide +kernel, by decide⟩
set_option maxRecDepth 20000 in
theorem yv_X10_isLetter : Cond.static yX10_isLetter ∈ zGT := (zGT_in zch4 21 rfl rfl)
set_option maxRecDepth 20000 in
theorem lk_RX10_37 : Cond.methodLink RX10 37 yX10_isLetter ∈ zGT := (zGT_in zch4 20 rfl rfl)
set_option maxRecDepth 20000 in
theorem yy_X10_isDigit : zY yX10_isDigit cX10_isDigit 1 (some .boolean) 1 := ⟨(zGT_in zch4 29 rfl rfl), (zGT_in zch1 9 rfl rfl), by decide +kernel, by decide +kernel, by decide +kernel, by decide⟩
set_option maxRecDepth 20000 in
theorem yv_X10_isDigit : Cond.static yX10_isDigit ∈ zGT := (zGT_in zch4 28 rfl rfl)
set_option maxRecDepth 20000 in
theorem lk_RX10_45 : Cond.methodLink RX10 45 yX10_isDigit ∈ zGT := (zGT_in zch4 27 rfl rfl)
set_option maxRecDepth 20000 in
theorem yy_X10_cutSign : zY yX10_cutSign cX10_cutSign 5 (some .int) 3 := ⟨(zGT_in zch4 41 rfl rfl), (zGT_in zch1 9 rfl rfl), by decide +kernel, by decide +kernel, by decide +kernel, by decide⟩
set_option maxRecDepth 20000 in
theorem yv_X10_cutSign : zYv yX10_cutSign := ⟨(zGT_in zch4 40 rfl rfl), (zGT_in zch0 8 rfl rfl)⟩
set_option maxRecDepth 20000 in
theorem lk_RX10_51 : Cond.methodLink RX10 51 yX10_cutSign ∈ zGT := (zGT_in zch4 38 rfl rfl)
set_option maxRecDepth 20000 in
theorem yy_X10_cutNumber : zY yX10_cutNumber cX10_cutNumber 6 (some .int) 3 := ⟨(zGT_in zch4 37 rfl rfl), (zGT_in zch1 9 rfl rfl), by decide +kernel, by decide +kernel, by decide +kernel, by decide⟩
set_option maxRecDepth 20000 in
theorem yv_X10_cutNumber : zYv yX10_cutNumber := ⟨(zGT_in zch4 36 rfl rfl), (zGT_in zch0 7 rfl rfl)⟩
set_option maxRecDepth 20000 in
theorem lk_RX10_48 : Cond.methodLink RX10 48 yX10_cutNumber ∈ zGT := (zGT_in zch4 34 rfl rfl)
set_option maxRecDepth 20000 in
theorem yy_X10_cutName : zY yX10_cutName cX10_cutName 6 (some .int) 3 := ⟨(zGT_in zch4 26 rfl rfl), (zGT_in zch1 9 rfl rfl), by decide +kernel, by decide +kernel, by decide +kernel, by decide⟩
set_option maxRecDepth 20000 in
theorem yv_X10_cutName : zYv yX10_cutName := ⟨(zGT_in zch4 25 rfl rfl), (zGT_in zch0 5 rfl rfl)⟩
set_option maxRecDepth 20000 in
theorem lk_RX10_41 : Cond.methodLink RX10 41 yX10_cutName ∈ zGT := (zGT_in zch4 23 rfl rfl)
set_option maxRecDepth 20000 in
theorem yy_X10_forget : zY yX10_forget cX10_forget 2 none 0 := ⟨(zGT_in zch3 196 rfl rfl), (zGT_in zch1 9 rfl rfl), by decide +kernel, by decide +kernel, by decide +kernel, by decide⟩
set_option maxRecDepth 20000 in
theorem yv_X10_forget : zYv yX10_forget := ⟨(zGT_in zch3 195 rfl rfl), (zGT_in zch0 2 rfl rfl)⟩
set_option maxRecDepth 20000 in
theorem lk_RX10_30 : Cond.methodLink RX10 30 yX10_forget ∈ zGT := (zGT_in zch3 193 rfl rfl)
set_option maxRecDepth 20000 in
theorem fi_RX7_74 : zFi shC RX7 74 5 8 := ⟨7, _, _, rfl, rfl, rfl, by decide, (zGT_in zch2 93 rfl rfl), u_RX7⟩
set_option maxRecDepth 20000 in
theorem fw_RX7_74 : zFw shC RX7 74 5 8 .int := ⟨7, _, _, tyX7, rfl, rfl, rfl, by decide, (zGT_in zch2 93 rfl rfl), u_RX7, tyX7_ok, nmX7, rfl, by decide +kernel⟩
set_option maxRecDepth 20000 in
theorem fi_RX7_68 : zFi shC RX7 68 5 12 := ⟨7, _, _, rfl, rfl, rfl, by decide, (zGT_in zch2 97 rfl rfl), u_RX7⟩
set_option maxRecDepth 20000 in
theorem fr_RX7_12 : zFr shC RX7 12 5 0 50 := ⟨7, _, _, rfl, rfl, rfl, by decide, (zGT_in zch2 85 rfl rfl), u_RX7⟩
set_option maxRecDepth 20000 in
theorem fr_RX7_114 : zFr shC RX7 114 50 0 67 := ⟨10, _, _, rfl, rfl, rfl, by decide, (zGT_in zch2 61 rfl rfl), u_RX10⟩
set_option maxRecDepth 20000 in
theorem fw_RX7_80 : zFw shC RX7 80 5 9 .int := ⟨7, _, _, tyX7, rfl, rfl, rfl, by decide, (zGT_in zch2 94 rfl rfl), u_RX7, tyX7_ok, nmX7, rfl, by decide +kernel⟩
set_option maxRecDepth 20000 in
theorem fw_RX7_118 : zFw shC RX7 118 5 10 .int := ⟨7, _, _, tyX7, rfl, rfl, rfl, by decide, (zGT_in zch2 95 rfl rfl), u_RX7, tyX7_ok, nmX7, rfl, by decide +kernel⟩
set_option maxRecDepth 20000 in
theorem fw_RX7_121 : zFw shC RX7 121 5 11 .int := ⟨7, _, _, tyX7, rfl, rfl, rfl, by decide, (zGT_in zch2 96 rfl rfl), u_RX7, tyX7_ok, nmX7, rfl, by decide +kernel⟩
set_option maxRecDepth 20000 in
theorem lk_RX2_74 : Cond.methodLink RX2 74 yX5_get ∈ zGT := (zGT_in zch4 112 rfl rfl)
set_option maxRecDepth 20000 in
theorem fi_RX7_118 : zFi shC RX7 118 5 10 := ⟨7, _, _, rfl, rfl, rfl, by decide, (zGT_in zch2 95 rfl rfl), u_RX7⟩
set_option maxRecDepth 20000 in
theorem fw_RX7_68 : zFw shC RX7 68 5 12 .int := ⟨7, _, _, tyX7, rfl, rfl, rfl, by decide, (zGT_in zch2 97 rfl rfl), u_RX7, tyX7_ok, nmX7, rfl, by decide +kernel⟩
set_option maxRecDepth 20000 in
theorem fi_RX2_60 : zFi shC RX2 60 3 15 := ⟨2, _, _, rfl, rfl, rfl, by decide, (zGT_in zch1 67 rfl rfl), u_RX2⟩
set_option maxRecDepth 20000 in
theorem fr_RX2_38 : zFr shC RX2 38 3 7 22 := ⟨2, _, _, rfl, rfl, rfl, by decide, (zGT_in zch1 58 rfl rfl), u_RX2⟩
set_option maxRecDepth 20000 in
theorem ob_C_22 : zObj shC 22 RX5 := ⟨5, _, _, rfl, rfl, rfl⟩
set_option maxRecDepth 20000 in
theorem fi_RX7_80 : zFi shC RX7 80 5 9 := ⟨7, _, _, rfl, rfl, rfl, by decide, (zGT_in zch2 94 rfl rfl), u_RX7⟩
set_option maxRecDepth 20000 in
theorem yy_X7_refuse : zY yX7_refuse cX7_refuse 1 none 0 := ⟨(zGT_in zch4 116 rfl rfl), (zGT_in zch1 8 rfl rfl), by decide +kernel, by decide +kernel, by decide +kernel, by decide⟩
set_option maxRecDepth 20000 in
theorem yv_X7_refuse : zYv yX7_refuse := ⟨(zGT_in zch4 115 rfl rfl), (zGT_in zch0 11 rfl rfl)⟩
set_option maxRecDepth 20000 in
theorem lk_RX7_89 : Cond.methodLink RX7 89 yX7_refuse ∈ zGT := (zGT_in zch4 113 rfl rfl)
set_option maxRecDepth 20000 in
theorem ob_C_5 : zObj shC 5 RX7 := ⟨7, _, _, rfl, rfl, rfl⟩
set_option maxRecDepth 20000 in
theorem yy_X7_step : zY yX7_step cX7_step 2 none 0 := ⟨(zGT_in zch4 103 rfl rfl), (zGT_in zch1 8 rfl rfl), by decide +kernel, by decide +kernel, by decide +kernel, by decide⟩
set_option maxRecDepth 20000 in
theorem yv_X7_step : zYv yX7_step := ⟨(zGT_in zch4 102 rfl rfl), (zGT_in zch0 9 rfl rfl)⟩
set_option maxRecDepth 20000 in
theorem lk_RX7_77 : Cond.methodLink RX7 77 yX7_step ∈ zGT := (zGT_in zch4 100 rfl rfl)
set_option maxRecDepth 20000 in
theorem ob_C_12 : zObj shC 12 RX5 := ⟨5, _, _, rfl, rfl, rfl⟩
set_option maxRecDepth 20000 in
theorem fi_RX2_53 : zFi shC RX2 53 3 13 := ⟨2, _, _, rfl, rfl, rfl, by decide, (zGT_in zch1 65 rfl rfl), u_RX2⟩
set_option maxRecDepth 20000 in
theorem fr_RX2_14 : zFr shC RX2 14 3 0 8 := ⟨2, _, _, rfl, rfl, rfl, by decide, (zGT_in zch1 51 rfl rfl), u_RX2⟩
set_option maxRecDepth 20000 in
theorem ob_C_8 : zObj shC 8 RX5 := ⟨5, _, _, rfl, rfl, rfl⟩
set_option maxRecDepth 20000 in
theorem fr_RX2_20 : zFr shC RX2 20 3 1 10 := ⟨2, _, _, rfl, rfl, rfl, by decide, (zGT_in zch1 52 rfl rfl), u_RX2⟩
set_option maxRecDepth 20000 in
theorem ob_C_10 : zObj shC 10 RX5 := ⟨5, _, _, rfl, rfl, rfl⟩
set_option maxRecDepth 20000 in
theorem fr_RX2_23 : zFr shC RX2 23 3 2 12 := ⟨2, _, _, rfl, rfl, rfl, by decide, (zGT_in zch1 53 rfl rfl), u_RX2⟩
set_option maxRecDepth 20000 in
theorem fr_RX7_23 : zFr shC RX7 23 5 5 53 := ⟨7, _, _, rfl, rfl, rfl, by decide, (zGT_in zch2 90 rfl rfl), u_RX7⟩
set_option maxRecDepth 20000 in
theorem fi_RX7_64 : zFi shC RX7 64 5 7 := ⟨7, _, _, rfl, rfl, rfl, by decide, (zGT_in zch2 92 rfl rfl), u_RX7⟩
set_option maxRecDepth 20000 in
theorem lk_RX7_127 : Cond.methodLink RX7 127 yX5_set ∈ zGT := (zGT_in zch4 145 rfl rfl)
set_option maxRecDepth 20000 in
theorem ob_C_53 : zObj shC 53 RX5 := ⟨5, _, _, rfl, rfl, rfl⟩
set_option maxRecDepth 20000 in
theorem fr_RX7_27 : zFr shC RX7 27 5 6 55 := ⟨7, _, _, rfl, rfl, rfl, by decide, (zGT_in zch2 91 rfl rfl), u_RX7⟩
set_option maxRecDepth 20000 in
theorem fi_RX7_121 : zFi shC RX7 121 5 11 := ⟨7, _, _, rfl, rfl, rfl, by decide, (zGT_in zch2 96 rfl rfl), u_RX7⟩
set_option maxRecDepth 20000 in
theorem ob_C_55 : zObj shC 55 RX5 := ⟨5, _, _, rfl, rfl, rfl⟩
set_option maxRecDepth 20000 in
theorem fw_RX7_64 : zFw shC RX7 64 5 7 .int := ⟨7, _, _, tyX7, rfl, rfl, rfl, by decide, (zGT_in zch2 92 rfl rfl), u_RX7, tyX7_ok, nmX7, rfl, by decide +kernel⟩
set_option maxRecDepth 20000 in
theorem yy_X7_mentionName : zY yX7_mentionName cX7_mentionName 2 none 1 := ⟨(zGT_in zch4 144 rfl rfl), (zGT_in zch1 8 rfl rfl), by decide +kernel, by decide +kernel, by decide +kernel, by decide⟩
set_option maxRecDepth 20000 in
theorem yv_X7_mentionName : zYv yX7_mentionName := ⟨(zGT_in zch4 143 rfl rfl), (zGT_in zch0 16 rfl rfl)⟩
set_option maxRecDepth 20000 in
theorem lk_RX7_166 : Cond.methodLink RX7 166 yX7_mentionName ∈ zGT := (zGT_in zch4 141 rfl rfl)
set_option maxRecDepth 20000 in
theorem fr_RX7_30 : zFr shC RX7 30 5 1 3 := ⟨7, _, _, rfl, rfl, rfl, by decide, (zGT_in zch2 86 rfl rfl), u_RX7⟩
set_option maxRecDepth 20000 in
theorem yy_X2_node : zY yX2_node cX2_node 3 (some .int) 2 := ⟨(zGT_in zch4 136 rfl rfl), (zGT_in zch1 4 rfl rfl), by decide +kernel, by decide +kernel, by decide +kernel, by decide⟩
set_option maxRecDepth 20000 in
theorem yv_X2_node : zYv yX2_node := ⟨(zGT_in zch4 134 rfl rfl), (zGT_in zch4 135 rfl rfl)⟩
set_option maxRecDepth 20000 in
theorem lk_RX7_154 : Cond.methodLink RX7 154 yX2_node ∈ zGT := (zGT_in zch4 133 rfl rfl)
set_option maxRecDepth 20000 in
theorem fi_RX7_71 : zFi shC RX7 71 5 13 := ⟨7, _, _, rfl, rfl, rfl, by decide, (zGT_in zch2 98 rfl rfl), u_RX7⟩
set_option maxRecDepth 20000 in
theorem fw_RX7_71 : zFw shC RX7 71 5 13 .int := ⟨7, _, _, tyX7, rfl, rfl, rfl, by decide, (zGT_in zch2 98 rfl rfl), u_RX7, tyX7_ok, nmX7, rfl, by decide +kernel⟩
set_option maxRecDepth 20000 in
theorem fw_RX7_124 : zFw shC RX7 124 5 14 .int := ⟨7, _, _, tyX7, rfl, rfl, rfl, by decide, (zGT_in zch2 99 rfl rfl), u_RX7, tyX7_ok, nmX7, rfl, by decide +kernel⟩
set_option maxRecDepth 20000 in
theorem fr_RX2_26 : zFr shC RX2 26 3 3 14 := ⟨2, _, _, rfl, rfl, rfl, by decide, (zGT_in zch1 54 rfl rfl), u_RX2⟩
set_option maxRecDepth 20000 in
theorem ob_C_14 : zObj shC 14 RX5 := ⟨5, _, _, rfl, rfl, rfl⟩
set_option maxRecDepth 20000 in
theorem fr_RX2_32 : zFr shC RX2 32 3 5 18 := ⟨2, _, _, rfl, rfl, rfl, by decide, (zGT_in zch1 56 rfl rfl), u_RX2⟩
set_option maxRecDepth 20000 in
theorem ob_C_18 : zObj shC 18 RX5 := ⟨5, _, _, rfl, rfl, rfl⟩
set_option maxRecDepth 20000 in
theorem fi_RX2_57 : zFi shC RX2 57 3 14 := ⟨2, _, _, rfl, rfl, rfl, by decide, (zGT_in zch1 66 rfl rfl), u_RX2⟩
set_option maxRecDepth 20000 in
theorem fr_RX2_29 : zFr shC RX2 29 3 4 16 := ⟨2, _, _, rfl, rfl, rfl, by decide, (zGT_in zch1 55 rfl rfl), u_RX2⟩
set_option maxRecDepth 20000 in
theorem ob_C_16 : zObj shC 16 RX5 := ⟨5, _, _, rfl, rfl, rfl⟩
set_option maxRecDepth 20000 in
theorem yy_X2_goesOn : zY yX2_goesOn cX2_goesOn 3 (some .boolean) 1 := ⟨(zGT_in zch4 177 rfl rfl), (zGT_in zch1 4 rfl rfl), by decide +kernel, by decide +kernel, by decide +kernel, by decide⟩
set_option maxRecDepth 20000 in
theorem yv_X2_goesOn : zYv yX2_goesOn := ⟨(zGT_in zch4 175 rfl rfl), (zGT_in zch4 176 rfl rfl)⟩
set_option maxRecDepth 20000 in
theorem lk_RX7_150 : Cond.methodLink RX7 150 yX2_goesOn ∈ zGT := (zGT_in zch4 174 rfl rfl)
set_option maxRecDepth 20000 in
theorem yy_X7_readHead : zY yX7_readHead cX7_readHead 1 (some .int) 0 := ⟨(zGT_in zch4 132 rfl rfl), (zGT_in zch1 8 rfl rfl), by decide +kernel, by decide +kernel, by decide +kernel, by decide⟩
set_option maxRecDepth 20000 in
theorem yv_X7_readHead : zYv yX7_readHead := ⟨(zGT_in zch4 131 rfl rfl), (zGT_in zch0 14 rfl rfl)⟩
set_option maxRecDepth 20000 in
theorem lk_RX7_144 : Cond.methodLink RX7 144 yX7_readHead ∈ zGT := (zGT_in zch4 129 rfl rfl)
set_option maxRecDepth 20000 in
theorem yy_X2_follow : zY yX2_follow cX2_follow 3 none 2 := ⟨(zGT_in zch4 173 rfl rfl), (zGT_in zch1 4 rfl rfl), by decide +kernel, by decide +kernel, by decide +kernel, by decide⟩
set_option maxRecDepth 20000 in
theorem yv_X2_follow : zYv yX2_follow := ⟨(zGT_in zch4 171 rfl rfl), (zGT_in zch4 172 rfl rfl)⟩
set_option maxRecDepth 20000 in
theorem lk_RX7_147 : Cond.methodLink RX7 147 yX2_follow ∈ zGT := (zGT_in zch4 170 rfl rfl)
set_option maxRecDepth 20000 in
theorem yy_X7_readNamed : zY yX7_readNamed cX7_readNamed 3 (some .int) 1 := ⟨(zGT_in zch4 140 rfl rfl), (zGT_in zch1 8 rfl rfl), by decide +kernel, by decide +kernel, by decide +kernel, by decide⟩
set_option maxRecDepth 20000 in
theorem yv_X7_readNamed : zYv yX7_readNamed := ⟨(zGT_in zch4 139 rfl rfl), (zGT_in zch0 15 rfl rfl)⟩
set_option maxRecDepth 20000 in
theorem lk_RX7_157 : Cond.methodLink RX7 157 yX7_readNamed ∈ zGT := (zGT_in zch4 137 rfl rfl)
set_option maxRecDepth 20000 in
theorem yy_X7_readMessage : zY yX7_readMessage cX7_readMessage 3 (some .int) 1 := ⟨(zGT_in zch4 149 rfl rfl), (zGT_in zch1 8 rfl rfl), by decide +kernel, by decide +kernel, by decide +kernel, by decide⟩
set_option maxRecDepth 20000 in
theorem yv_X7_readMessage : zYv yX7_readMessage := ⟨(zGT_in zch4 148 rfl rfl), (zGT_in zch0 17 rfl rfl)⟩
set_option maxRecDepth 20000 in
theorem lk_RX7_160 : Cond.methodLink RX7 160 yX7_readMessage ∈ zGT := (zGT_in zch4 146 rfl rfl)
set_option maxRecDepth 20000 in
theorem yy_X7_readChoice : zY yX7_readChoice cX7_readChoice 6 (some .int) 1 := ⟨(zGT_in zch4 161 rfl rfl), (zGT_in zch1 8 rfl rfl), by decide +kernel, by decide +kernel, by decide +kernel, by decide⟩
set_option maxRecDepth 20000 in
theorem yv_X7_readChoice : zYv yX7_readChoice := ⟨(zGT_in zch4 160 rfl rfl), (zGT_in zch0 20 rfl rfl)⟩
set_option maxRecDepth 20000 in
theorem lk_RX7_163 : Cond.methodLink RX7 163 yX7_readChoice ∈ zGT := (zGT_in zch4 158 rfl rfl)
set_option maxRecDepth 20000 in
theorem yy_X7_enter : zY yX7_enter cX7_enter 2 (some .boolean) 1 := ⟨(zGT_in zch4 153 rfl rfl), (zGT_in zch1 8 rfl rfl), by decide +kernel, by decide +kernel, by decide +kernel, by decide⟩
set_option maxRecDepth 20000 in
theorem yv_X7_enter : zYv yX7_enter := ⟨(zGT_in zch4 152 rfl rfl), (zGT_in zch0 18 rfl rfl)⟩
set_option maxRecDepth 20000 in
theorem lk_RX7_169 : Cond.methodLink RX7 169 yX7_enter ∈ zGT := (zGT_in zch4 150 rfl rfl)
set_option maxRecDepth 20000 in
theorem yy_X7_readForm : zY yX7_readForm cX7_readForm 5 (some .int) 0 := ⟨(zGT_in zch4 128 rfl rfl), (zGT_in zch1 8 rfl rfl), by decide +kernel, by decide +kernel, by decide +kernel, by decide⟩
set_option maxRecDepth 20000 in
theorem yv_X7_readForm : zYv yX7_readForm := ⟨(zGT_in zch4 127 rfl rfl), (zGT_in zch0 13 rfl rfl)⟩
set_option maxRecDepth 20000 in
theorem lk_RX7_138 : Cond.methodLink RX7 138 yX7_readForm ∈ zGT := (zGT_in zch4 125 rfl rfl)
set_option maxRecDepth 20000 in
theorem yy_X7_leave : zY yX7_leave cX7_leave 2 none 1 := ⟨(zGT_in zch4 157 rfl rfl), (zGT_in zch1 8 rfl rfl), by decide +kernel, by decide +kernel, by decide +kernel, by decide⟩
set_option maxRecDepth 20000 in
theorem yv_X7_leave : zYv yX7_leave := ⟨(zGT_in zch4 156 rfl rfl), (zGT_in zch0 19 rfl rfl)⟩
set_option maxRecDepth 20000 in
theorem lk_RX7_172 : Cond.methodLink RX7 172 yX7_leave ∈ zGT := (zGT_in zch4 154 rfl rfl)
set_option maxRecDepth 20000 in
theorem yy_X2_findPart : zY yX2_findPart cX2_findPart 5 (some .int) 2 := ⟨(zGT_in zch4 165 rfl rfl), (zGT_in zch1 4 rfl rfl), by decide +kernel, by decide +kernel, by decide +kernel, by decide⟩
set_option maxRecDepth 20000 in
theorem yv_X2_findPart : zYv yX2_findPart := ⟨(zGT_in zch4 163 rfl rfl), (zGT_in zch4 164 rfl rfl)⟩
set_option maxRecDepth 20000 in
theorem lk_RX7_175 : Cond.methodLink RX7 175 yX2_findPart ∈ zGT := (zGT_in zch4 162 rfl rfl)
set_option maxRecDepth 20000 in
theorem yy_X2_addPart : zY yX2_addPart cX2_addPart 5 (some .int) 4 := ⟨(zGT_in zch4 169 rfl rfl), (zGT_in zch1 4 rfl rfl), by decide +kernel, by decide +kernel, by decide +kernel, by decide⟩
set_option maxRecDepth 20000 in
theorem yv_X2_addPart : zYv yX2_addPart := ⟨(zGT_in zch4 167 rfl rfl), (zGT_in zch4 168 rfl rfl)⟩
set_option maxRecDepth 20000 in
theorem lk_RX7_178 : Cond.methodLink RX7 178 yX2_addPart ∈ zGT := (zGT_in zch4 166 rfl rfl)
set_option maxRecDepth 20000 in
theorem fr_RX2_35 : zFr shC RX2 35 3 6 20 := ⟨2, _, _, rfl, rfl, rfl, by decide, (zGT_in zch1 57 rfl rfl), u_RX2⟩
set_option maxRecDepth 20000 in
theorem ob_C_20 : zObj shC 20 RX5 := ⟨5, _, _, rfl, rfl, rfl⟩
set_option maxRecDepth 20000 in
theorem yy_X2_find : zY yX2_find cX2_find 2 (some .int) 1 := ⟨(zGT_in zch4 111 rfl rfl), (zGT_in zch1 4 rfl rfl), by decide +kernel, by decide +kernel, by decide +kernel, by decide⟩
set_option maxRecDepth 20000 in
theorem yv_X2_find : zYv yX2_find := ⟨(zGT_in zch4 109 rfl rfl), (zGT_in zch4 110 rfl rfl)⟩
set_option maxRecDepth 20000 in
theorem lk_RX7_106 : Cond.methodLink RX7 106 yX2_find ∈ zGT := (zGT_in zch4 108 rfl rfl)
set_option maxRecDepth 20000 in
theorem yy_X2_define : zY yX2_define cX2_define 3 (some .int) 2 := ⟨(zGT_in zch4 120 rfl rfl), (zGT_in zch1 4 rfl rfl), by decide +kernel, by decide +kernel, by decide +kernel, by decide⟩
set_option maxRecDepth 20000 in
theorem yv_X2_define : zYv yX2_define := ⟨(zGT_in zch4 118 rfl rfl), (zGT_in zch4 119 rfl rfl)⟩
set_option maxRecDepth 20000 in
theorem lk_RX7_131 : Cond.methodLink RX7 131 yX2_define ∈ zGT := (zGT_in zch4 117 rfl rfl)
set_option maxRecDepth 20000 in
theorem yy_X7_expect : zY yX7_expect cX7_expect 2 none 1 := ⟨(zGT_in zch4 124 rfl rfl), (zGT_in zch1 8 rfl rfl), by decide +kernel, by decide +kernel, by decide +kernel, by decide⟩
set_option maxRecDepth 20000 in
theorem yv_X7_expect : zYv yX7_expect := ⟨(zGT_in zch4 123 rfl rfl), (zGT_in zch0 12 rfl rfl)⟩
set_option maxRecDepth 20000 in
theorem lk_RX7_135 : Cond.methodLink RX7 135 yX7_expect ∈ zGT := (zGT_in zch4 121 rfl rfl)
set_option maxRecDepth 20000 in
theorem yy_X2_lay : zY yX2_lay cX2_lay 3 none 2 := ⟨(zGT_in zch4 181 rfl rfl), (zGT_in zch1 4 rfl rfl), by decide +kernel, by decide +kernel, by decide +kernel, by decide⟩
set_option maxRecDepth 20000 in
theorem yv_X2_lay : zYv yX2_lay := ⟨(zGT_in zch4 179 rfl rfl), (zGT_in zch4 180 rfl rfl)⟩
set_option maxRecDepth 20000 in
theorem lk_RX7_141 : Cond.methodLink RX7 141 yX2_lay ∈ zGT := (zGT_in zch4 178 rfl rfl)
set_option maxRecDepth 20000 in
theorem lk_RX6_55 : Cond.methodLink RX6 55 yX5_get ∈ zGT := (zGT_in zch4 190 rfl rfl)
set_option maxRecDepth 20000 in
theorem fi_RX6_44 : zFi shC RX6 44 4 10 := ⟨6, _, _, rfl, rfl, rfl, by decide, (zGT_in zch2 21 rfl rfl), u_RX6⟩
set_option maxRecDepth 20000 in
theorem lk_RX6_59 : Cond.methodLink RX6 59 yX5_set ∈ zGT := (zGT_in zch4 195 rfl rfl)
set_option maxRecDepth 20000 in
theorem fr_RX6_20 : zFr shC RX6 20 4 1 34 := ⟨6, _, _, rfl, rfl, rfl, by decide, (zGT_in zch2 4 rfl rfl), u_RX6⟩
set_option maxRecDepth 20000 in
theorem fi_RX6_48 : zFi shC RX6 48 4 9 := ⟨6, _, _, rfl, rfl, rfl, by decide, (zGT_in zch2 20 rfl rfl), u_RX6⟩
set_option maxRecDepth 20000 in
theorem ob_C_34 : zObj shC 34 RX5 := ⟨5, _, _, rfl, rfl, rfl⟩
set_option maxRecDepth 20000 in
theorem fr_RX6_23 : zFr shC RX6 23 4 2 36 := ⟨6, _, _, rfl, rfl, rfl, by decide, (zGT_in zch2 5 rfl rfl), u_RX6⟩
set_option maxRecDepth 20000 in
theorem ob_C_36 : zObj shC 36 RX5 := ⟨5, _, _, rfl, rfl, rfl⟩
set_option maxRecDepth 20000 in
theorem fr_RX6_26 : zFr shC RX6 26 4 3 38 := ⟨6, _, _, rfl, rfl, rfl, by decide, (zGT_in zch2 9 rfl rfl), u_RX6⟩
set_option maxRecDepth 20000 in
theorem ob_C_38 : zObj shC 38 RX5 := ⟨5, _, _, rfl, rfl, rfl⟩
set_option maxRecDepth 20000 in
theorem fr_RX6_38 : zFr shC RX6 38 4 7 46 := ⟨6, _, _, rfl, rfl, rfl, by decide, (zGT_in zch2 18 rfl rfl), u_RX6⟩
set_option maxRecDepth 20000 in
theorem ob_C_46 : zObj shC 46 RX5 := ⟨5, _, _, rfl, rfl, rfl⟩
set_option maxRecDepth 20000 in
theorem ob_C_44 : zObj shC 44 RX5 := ⟨5, _, _, rfl, rfl, rfl⟩
set_option maxRecDepth 20000 in
theorem fr_RX6_35 : zFr shC RX6 35 4 6 44 := ⟨6, _, _, rfl, rfl, rfl, by decide, (zGT_in zch2 17 rfl rfl), u_RX6⟩
set_option maxRecDepth 20000 in
theorem fr_RX7_42 : zFr shC RX7 42 5 4 4 := ⟨7, _, _, rfl, rfl, rfl, by decide, (zGT_in zch2 89 rfl rfl), u_RX7⟩
set_option maxRecDepth 20000 in
theorem yy_X6_addParameter : zY yX6_addParameter cX6_addParameter 2 none 1 := ⟨(zGT_in zch4 211 rfl rfl), (zGT_in zch1 7 rfl rfl), by decide +kernel, by decide +kernel, by decide +kernel, by decide⟩
set_option maxRecDepth 20000 in
theorem yv_X6_addParameter : zYv yX6_addParameter := ⟨(zGT_in zch4 209 rfl rfl), (zGT_in zch4 210 rfl rfl)⟩
set_option maxRecDepth 20000 in
theorem lk_RX7_200 : Cond.methodLink RX7 200 yX6_addParameter ∈ zGT := (zGT_in zch4 208 rfl rfl)
set_option maxRecDepth 20000 in
theorem ob_C_4 : zObj shC 4 RX6 := ⟨6, _, _, rfl, rfl, rfl⟩
set_option maxRecDepth 20000 in
theorem yy_X6_hasSlot : zY yX6_hasSlot cX6_hasSlot 2 (some .boolean) 1 := ⟨(zGT_in zch4 203 rfl rfl), (zGT_in zch1 7 rfl rfl), by decide +kernel, by decide +kernel, by decide +kernel, by decide⟩
set_option maxRecDepth 20000 in
theorem yv_X6_hasSlot : zYv yX6_hasSlot := ⟨(zGT_in zch4 201 rfl rfl), (zGT_in zch4 202 rfl rfl)⟩
set_option maxRecDepth 20000 in
theorem lk_RX7_194 : Cond.methodLink RX7 194 yX6_hasSlot ∈ zGT := (zGT_in zch4 200 rfl rfl)
set_option maxRecDepth 20000 in
theorem yy_X6_slotFor : zY yX6_slotFor cX6_slotFor 3 (some .int) 1 := ⟨(zGT_in zch4 207 rfl rfl), (zGT_in zch1 7 rfl rfl), by decide +kernel, by decide +kernel, by decide +kernel, by decide⟩
set_option maxRecDepth 20000 in
theorem yv_X6_slotFor : zYv yX6_slotFor := ⟨(zGT_in zch4 205 rfl rfl), (zGT_in zch4 206 rfl rfl)⟩
set_option maxRecDepth 20000 in
theorem lk_RX7_197 : Cond.methodLink RX7 197 yX6_slotFor ∈ zGT := (zGT_in zch4 204 rfl rfl)
set_option maxRecDepth 20000 in
theorem fr_RX9_14 : zFr shC RX9 14 52 0 86 := ⟨9, _, _, rfl, rfl, rfl, by decide, (zGT_in zch1 155 rfl rfl), u_RX9⟩
set_option maxRecDepth 20000 in
theorem fi_RX9_62 : zFi shC RX9 62 52 15 := ⟨9, _, _, rfl, rfl, rfl, by decide, (zGT_in zch1 198 rfl rfl), u_RX9⟩
set_option maxRecDepth 20000 in
theorem lk_RX9_69 : Cond.methodLink RX9 69 yX5_set ∈ zGT := (zGT_in zch4 224 rfl rfl)
set_option maxRecDepth 20000 in
theorem ob_C_86 : zObj shC 86 RX5 := ⟨5, _, _, rfl, rfl, rfl⟩
set_option maxRecDepth 20000 in
theorem fr_RX9_20 : zFr shC RX9 20 52 1 88 := ⟨9, _, _, rfl, rfl, rfl, by decide, (zGT_in zch1 158 rfl rfl), u_RX9⟩
set_option maxRecDepth 20000 in
theorem ob_C_88 : zObj shC 88 RX5 := ⟨5, _, _, rfl, rfl, rfl⟩
set_option maxRecDepth 20000 in
theorem fr_RX9_23 : zFr shC RX9 23 52 2 90 := ⟨9, _, _, rfl, rfl, rfl, by decide, (zGT_in zch1 160 rfl rfl), u_RX9⟩
set_option maxRecDepth 20000 in
theorem ob_C_90 : zObj shC 90 RX5 := ⟨5, _, _, rfl, rfl, rfl⟩
set_option maxRecDepth 20000 in
theorem fr_RX9_26 : zFr shC RX9 26 52 3 92 := ⟨9, _, _, rfl, rfl, rfl, by decide, (zGT_in zch1 164 rfl rfl), u_RX9⟩
set_option maxRecDepth 20000 in
theorem ob_C_92 : zObj shC 92 RX5 := ⟨5, _, _, rfl, rfl, rfl⟩
set_option maxRecDepth 20000 in
theorem fr_RX9_29 : zFr shC RX9 29 52 4 94 := ⟨9, _, _, rfl, rfl, rfl, by decide, (zGT_in zch1 168 rfl rfl), u_RX9⟩
set_option maxRecDepth 20000 in
theorem ob_C_94 : zObj shC 94 RX5 := ⟨5, _, _, rfl, rfl, rfl⟩
set_option maxRecDepth 20000 in
theorem fr_RX9_32 : zFr shC RX9 32 52 5 96 := ⟨9, _, _, rfl, rfl, rfl, by decide, (zGT_in zch1 172 rfl rfl), u_RX9⟩
set_option maxRecDepth 20000 in
theorem ob_C_96 : zObj shC 96 RX5 := ⟨5, _, _, rfl, rfl, rfl⟩
set_option maxRecDepth 20000 in
theorem fr_RX9_35 : zFr shC RX9 35 52 6 98 := ⟨9, _, _, rfl, rfl, rfl, by decide, (zGT_in zch1 176 rfl rfl), u_RX9⟩
set_option maxRecDepth 20000 in
theorem ob_C_98 : zObj shC 98 RX5 := ⟨5, _, _, rfl, rfl, rfl⟩
set_option maxRecDepth 20000 in
theorem fr_RX9_38 : zFr shC RX9 38 52 7 100 := ⟨9, _, _, rfl, rfl, rfl, by decide, (zGT_in zch1 179 rfl rfl), u_RX9⟩
set_option maxRecDepth 20000 in
theorem ob_C_100 : zObj shC 100 RX5 := ⟨5, _, _, rfl, rfl, rfl⟩
set_option maxRecDepth 20000 in
theorem fr_RX9_44 : zFr shC RX9 44 52 9 104 := ⟨9, _, _, rfl, rfl, rfl, by decide, (zGT_in zch1 182 rfl rfl), u_RX9⟩
set_option maxRecDepth 20000 in
theorem ob_C_104 : zObj shC 104 RX5 := ⟨5, _, _, rfl, rfl, rfl⟩
set_option maxRecDepth 20000 in
theorem fr_RX9_47 : zFr shC RX9 47 52 10 106 := ⟨9, _, _, rfl, rfl, rfl, by decide, (zGT_in zch1 185 rfl rfl), u_RX9⟩
set_option maxRecDepth 20000 in
theorem ob_C_106 : zObj shC 106 RX5 := ⟨5, _, _, rfl, rfl, rfl⟩
set_option maxRecDepth 20000 in
theorem fr_RX7_38 : zFr shC RX7 38 5 3 52 := ⟨7, _, _, rfl, rfl, rfl, by decide, (zGT_in zch2 88 rfl rfl), u_RX7⟩
set_option maxRecDepth 20000 in
theorem fr_RX7_235 : zFr shC RX7 235 52 2 90 := ⟨9, _, _, rfl, rfl, rfl, by decide, (zGT_in zch1 163 rfl rfl), u_RX9⟩
set_option maxRecDepth 20000 in
theorem fr_RX3_14 : zFr shC RX3 14 51 0 74 := ⟨3, _, _, rfl, rfl, rfl, by decide, (zGT_in zch1 110 rfl rfl), u_RX3⟩
set_option maxRecDepth 20000 in
theorem fi_RX3_35 : zFi shC RX3 35 51 6 := ⟨3, _, _, rfl, rfl, rfl, by decide, (zGT_in zch1 122 rfl rfl), u_RX3⟩
set_option maxRecDepth 20000 in
theorem lk_RX3_42 : Cond.methodLink RX3 42 yX5_set ∈ zGT := (zGT_in zch5 17 rfl rfl)
set_option maxRecDepth 20000 in
theorem ob_C_74 : zObj shC 74 RX5 := ⟨5, _, _, rfl, rfl, rfl⟩
set_option maxRecDepth 20000 in
theorem fr_RX3_20 : zFr shC RX3 20 51 1 76 := ⟨3, _, _, rfl, rfl, rfl, by decide, (zGT_in zch1 111 rfl rfl), u_RX3⟩
set_option maxRecDepth 20000 in
theorem ob_C_76 : zObj shC 76 RX5 := ⟨5, _, _, rfl, rfl, rfl⟩
set_option maxRecDepth 20000 in
theorem yy_X7_readSum : zY yX7_readSum cX7_readSum 3 none 0 := ⟨(zGT_in zch5 4 rfl rfl), (zGT_in zch1 8 rfl rfl), by decide +kernel, by decide +kernel, by decide +kernel, by decide⟩
set_option maxRecDepth 20000 in
theorem yv_X7_readSum : zYv yX7_readSum := ⟨(zGT_in zch5 3 rfl rfl), (zGT_in zch0 28 rfl rfl)⟩
set_option maxRecDepth 20000 in
theorem lk_RX7_265 : Cond.methodLink RX7 265 yX7_readSum ∈ zGT := (zGT_in zch5 1 rfl rfl)
set_option maxRecDepth 20000 in
theorem fr_RX7_34 : zFr shC RX7 34 5 2 51 := ⟨7, _, _, rfl, rfl, rfl, by decide, (zGT_in zch2 87 rfl rfl), u_RX7⟩
set_option maxRecDepth 20000 in
theorem yy_X3_add : zY yX3_add cX3_add 3 none 2 := ⟨(zGT_in zch5 16 rfl rfl), (zGT_in zch1 5 rfl rfl), by decide +kernel, by decide +kernel, by decide +kernel, by decide⟩
set_option maxRecDepth 20000 in
theorem yv_X3_add : zYv yX3_add := ⟨(zGT_in zch5 14 rfl rfl), (zGT_in zch5 15 rfl rfl)⟩
set_option maxRecDepth 20000 in
theorem lk_RX7_268 : Cond.methodLink RX7 268 yX3_add ∈ zGT := (zGT_in zch5 13 rfl rfl)
set_option maxRecDepth 20000 in
theorem ob_C_51 : zObj shC 51 RX3 := ⟨3, _, _, rfl, rfl, rfl⟩
set_option maxRecDepth 20000 in
theorem yy_X7_readProduct : zY yX7_readProduct cX7_readProduct 3 none 0 := ⟨(zGT_in zch5 8 rfl rfl), (zGT_in zch1 8 rfl rfl), by decide +kernel, by decide +kernel, by decide +kernel, by decide⟩
set_option maxRecDepth 20000 in
theorem yv_X7_readProduct : zYv yX7_readProduct := ⟨(zGT_in zch5 7 rfl rfl), (zGT_in zch0 29 rfl rfl)⟩
set_option maxRecDepth 20000 in
theorem lk_RX7_270 : Cond.methodLink RX7 270 yX7_readProduct ∈ zGT := (zGT_in zch5 5 rfl rfl)
set_option maxRecDepth 20000 in
theorem yy_X7_readAtom : zY yX7_readAtom cX7_readAtom 1 none 0 := ⟨(zGT_in zch5 12 rfl rfl), (zGT_in zch1 8 rfl rfl), by decide +kernel, by decide +kernel, by decide +kernel, by decide⟩
set_option maxRecDepth 20000 in
theorem yv_X7_readAtom : zYv yX7_readAtom := ⟨(zGT_in zch5 11 rfl rfl), (zGT_in zch0 30 rfl rfl)⟩
set_option maxRecDepth 20000 in
theorem lk_RX7_273 : Cond.methodLink RX7 273 yX7_readAtom ∈ zGT := (zGT_in zch5 9 rfl rfl)
set_option maxRecDepth 20000 in
theorem yy_X7_readExpression : zY yX7_readExpression cX7_readExpression 2 none 0 := ⟨(zGT_in zch5 0 rfl rfl), (zGT_in zch1 8 rfl rfl), by decide +kernel, by decide +kernel, by decide +kernel, by decide⟩
set_option maxRecDepth 20000 in
theorem yv_X7_readExpression : zYv yX7_readExpression := ⟨(zGT_in zch4 239 rfl rfl), (zGT_in zch0 27 rfl rfl)⟩
set_option maxRecDepth 20000 in
theorem lk_RX7_247 : Cond.methodLink RX7 247 yX7_readExpression ∈ zGT := (zGT_in zch4 237 rfl rfl)
set_option maxRecDepth 20000 in
theorem ob_C_82 : zObj shC 82 RX5 := ⟨5, _, _, rfl, rfl, rfl⟩
set_option maxRecDepth 20000 in
theorem fi_RX3_39 : zFi shC RX3 39 51 7 := ⟨3, _, _, rfl, rfl, rfl, by decide, (zGT_in zch1 124 rfl rfl), u_RX3⟩
set_option maxRecDepth 20000 in
theorem fr_RX3_23 : zFr shC RX3 23 51 2 78 := ⟨3, _, _, rfl, rfl, rfl, by decide, (zGT_in zch1 112 rfl rfl), u_RX3⟩
set_option maxRecDepth 20000 in
theorem ob_C_78 : zObj shC 78 RX5 := ⟨5, _, _, rfl, rfl, rfl⟩
set_option maxRecDepth 20000 in
theorem fr_RX3_26 : zFr shC RX3 26 51 3 80 := ⟨3, _, _, rfl, rfl, rfl, by decide, (zGT_in zch1 115 rfl rfl), u_RX3⟩
set_option maxRecDepth 20000 in
theorem ob_C_80 : zObj shC 80 RX5 := ⟨5, _, _, rfl, rfl, rfl⟩
set_option maxRecDepth 20000 in
theorem fr_RX3_29 : zFr shC RX3 29 51 4 82 := ⟨3, _, _, rfl, rfl, rfl, by decide, (zGT_in zch1 118 rfl rfl), u_RX3⟩
set_option maxRecDepth 20000 in
theorem lk_RX3_46 : Cond.methodLink RX3 46 yX5_get ∈ zGT := (zGT_in zch5 22 rfl rfl)
set_option maxRecDepth 20000 in
theorem fr_RX7_250 : zFr shC RX7 250 52 5 96 := ⟨9, _, _, rfl, rfl, rfl, by decide, (zGT_in zch1 175 rfl rfl), u_RX9⟩
set_option maxRecDepth 20000 in
theorem fi_RX7_259 : zFi shC RX7 259 51 7 := ⟨3, _, _, rfl, rfl, rfl, by decide, (zGT_in zch1 125 rfl rfl), u_RX3⟩
set_option maxRecDepth 20000 in
theorem yy_X3_addArgument : zY yX3_addArgument cX3_addArgument 3 none 2 := ⟨(zGT_in zch5 21 rfl rfl), (zGT_in zch1 5 rfl rfl), by decide +kernel, by decide +kernel, by decide +kernel, by decide⟩
set_option maxRecDepth 20000 in
theorem yv_X3_addArgument : zYv yX3_addArgument := ⟨(zGT_in zch5 19 rfl rfl), (zGT_in zch5 20 rfl rfl)⟩
set_option maxRecDepth 20000 in
theorem lk_RX7_262 : Cond.methodLink RX7 262 yX3_addArgument ∈ zGT := (zGT_in zch5 18 rfl rfl)
set_option maxRecDepth 20000 in
theorem fi_RX7_244 : zFi shC RX7 244 51 6 := ⟨3, _, _, rfl, rfl, rfl, by decide, (zGT_in zch1 123 rfl rfl), u_RX3⟩
set_option maxRecDepth 20000 in
theorem fr_RX7_238 : zFr shC RX7 238 52 3 92 := ⟨9, _, _, rfl, rfl, rfl, by decide, (zGT_in zch1 167 rfl rfl), u_RX9⟩
set_option maxRecDepth 20000 in
theorem fr_RX7_241 : zFr shC RX7 241 52 4 94 := ⟨9, _, _, rfl, rfl, rfl, by decide, (zGT_in zch1 171 rfl rfl), u_RX9⟩
set_option maxRecDepth 20000 in
theorem yy_X10_kindAt : zY yX10_kindAt cX10_kindAt 2 (some .int) 1 := ⟨(zGT_in zch4 232 rfl rfl), (zGT_in zch1 9 rfl rfl), by decide +kernel, by decide +kernel, by decide +kernel, by decide⟩
set_option maxRecDepth 20000 in
theorem yv_X10_kindAt : zYv yX10_kindAt := ⟨(zGT_in zch4 230 rfl rfl), (zGT_in zch4 231 rfl rfl)⟩
set_option maxRecDepth 20000 in
theorem lk_RX7_256 : Cond.methodLink RX7 256 yX10_kindAt ∈ zGT := (zGT_in zch4 229 rfl rfl)
set_option maxRecDepth 20000 in
theorem yy_X7_readSlot : zY yX7_readSlot cX7_readSlot 2 none 1 := ⟨(zGT_in zch4 236 rfl rfl), (zGT_in zch1 8 rfl rfl), by decide +kernel, by decide +kernel, by decide +kernel, by decide⟩
set_option maxRecDepth 20000 in
theorem yv_X7_readSlot : zYv yX7_readSlot := ⟨(zGT_in zch4 235 rfl rfl), (zGT_in zch0 26 rfl rfl)⟩
set_option maxRecDepth 20000 in
theorem lk_RX7_216 : Cond.methodLink RX7 216 yX7_readSlot ∈ zGT := (zGT_in zch4 233 rfl rfl)
set_option maxRecDepth 20000 in
theorem fr_RX9_50 : zFr shC RX9 50 52 11 108 := ⟨9, _, _, rfl, rfl, rfl, by decide, (zGT_in zch1 188 rfl rfl), u_RX9⟩
set_option maxRecDepth 20000 in
theorem lk_RX9_73 : Cond.methodLink RX9 73 yX5_get ∈ zGT := (zGT_in zch5 31 rfl rfl)
set_option maxRecDepth 20000 in
theorem ob_C_108 : zObj shC 108 RX5 := ⟨5, _, _, rfl, rfl, rfl⟩
set_option maxRecDepth 20000 in
theorem fr_RX9_59 : zFr shC RX9 59 52 14 114 := ⟨9, _, _, rfl, rfl, rfl, by decide, (zGT_in zch1 195 rfl rfl), u_RX9⟩
set_option maxRecDepth 20000 in
theorem ob_C_114 : zObj shC 114 RX5 := ⟨5, _, _, rfl, rfl, rfl⟩
set_option maxRecDepth 20000 in
theorem fi_RX9_66 : zFi shC RX9 66 52 16 := ⟨9, _, _, rfl, rfl, rfl, by decide, (zGT_in zch1 199 rfl rfl), u_RX9⟩
set_option maxRecDepth 20000 in
theorem fr_RX9_53 : zFr shC RX9 53 52 12 110 := ⟨9, _, _, rfl, rfl, rfl, by decide, (zGT_in zch1 190 rfl rfl), u_RX9⟩
set_option maxRecDepth 20000 in
theorem ob_C_110 : zObj shC 110 RX5 := ⟨5, _, _, rfl, rfl, rfl⟩
set_option maxRecDepth 20000 in
theorem fr_RX9_56 : zFr shC RX9 56 52 13 112 := ⟨9, _, _, rfl, rfl, rfl, by decide, (zGT_in zch1 192 rfl rfl), u_RX9⟩
set_option maxRecDepth 20000 in
theorem ob_C_112 : zObj shC 112 RX5 := ⟨5, _, _, rfl, rfl, rfl⟩
set_option maxRecDepth 20000 in
theorem yy_X7_readSecond : zY yX7_readSecond cX7_readSecond 3 none 2 := ⟨(zGT_in zch5 47 rfl rfl), (zGT_in zch1 8 rfl rfl), by decide +kernel, by decide +kernel, by decide +kernel, by decide⟩
set_option maxRecDepth 20000 in
theorem yv_X7_readSecond : zYv yX7_readSecond := ⟨(zGT_in zch5 46 rfl rfl), (zGT_in zch0 34 rfl rfl)⟩
set_option maxRecDepth 20000 in
theorem lk_RX7_231 : Cond.methodLink RX7 231 yX7_readSecond ∈ zGT := (zGT_in zch5 44 rfl rfl)
set_option maxRecDepth 20000 in
theorem yy_X7_readStatement : zY yX7_readStatement cX7_readStatement 5 (some .int) 1 := ⟨(zGT_in zch4 219 rfl rfl), (zGT_in zch1 8 rfl rfl), by decide +kernel, by decide +kernel, by decide +kernel, by decide⟩
set_option maxRecDepth 20000 in
theorem yv_X7_readStatement : zYv yX7_readStatement := ⟨(zGT_in zch4 218 rfl rfl), (zGT_in zch0 24 rfl rfl)⟩
set_option maxRecDepth 20000 in
theorem lk_RX7_203 : Cond.methodLink RX7 203 yX7_readStatement ∈ zGT := (zGT_in zch4 216 rfl rfl)
set_option maxRecDepth 20000 in
theorem fr_RX7_206 : zFr shC RX7 206 52 6 98 := ⟨9, _, _, rfl, rfl, rfl, by decide, (zGT_in zch1 178 rfl rfl), u_RX9⟩
set_option maxRecDepth 20000 in
theorem yy_X7_readFormula : zY yX7_readFormula cX7_readFormula 2 none 1 := ⟨(zGT_in zch5 39 rfl rfl), (zGT_in zch1 8 rfl rfl), by decide +kernel, by decide +kernel, by decide +kernel, by decide⟩
set_option maxRecDepth 20000 in
theorem yv_X7_readFormula : zYv yX7_readFormula := ⟨(zGT_in zch5 38 rfl rfl), (zGT_in zch0 32 rfl rfl)⟩
set_option maxRecDepth 20000 in
theorem lk_RX7_222 : Cond.methodLink RX7 222 yX7_readFormula ∈ zGT := (zGT_in zch5 36 rfl rfl)
set_option maxRecDepth 20000 in
theorem yy_X7_readCases : zY yX7_readCases cX7_readCases 5 none 1 := ⟨(zGT_in zch5 26 rfl rfl), (zGT_in zch1 8 rfl rfl), by decide +kernel, by decide +kernel, by decide +kernel, by decide⟩
set_option maxRecDepth 20000 in
theorem yv_X7_readCases : zYv yX7_readCases := ⟨(zGT_in zch5 25 rfl rfl), (zGT_in zch0 31 rfl rfl)⟩
set_option maxRecDepth 20000 in
theorem lk_RX7_219 : Cond.methodLink RX7 219 yX7_readCases ∈ zGT := (zGT_in zch5 23 rfl rfl)
set_option maxRecDepth 20000 in
theorem yy_X7_readCall : zY yX7_readCall cX7_readCall 7 none 2 := ⟨(zGT_in zch4 228 rfl rfl), (zGT_in zch1 8 rfl rfl), by decide +kernel, by decide +kernel, by decide +kernel, by decide⟩
set_option maxRecDepth 20000 in
theorem yv_X7_readCall : zYv yX7_readCall := ⟨(zGT_in zch4 227 rfl rfl), (zGT_in zch0 25 rfl rfl)⟩
set_option maxRecDepth 20000 in
theorem lk_RX7_213 : Cond.methodLink RX7 213 yX7_readCall ∈ zGT := (zGT_in zch4 225 rfl rfl)
set_option maxRecDepth 20000 in
theorem yy_X7_readBlock : zY yX7_readBlock cX7_readBlock 6 (some .int) 1 := ⟨(zGT_in zch4 215 rfl rfl), (zGT_in zch1 8 rfl rfl), by decide +kernel, by decide +kernel, by decide +kernel, by decide⟩
set_option maxRecDepth 20000 in
theorem yv_X7_readBlock : zYv yX7_readBlock := ⟨(zGT_in zch4 214 rfl rfl), (zGT_in zch0 23 rfl rfl)⟩
set_option maxRecDepth 20000 in
theorem lk_RX7_188 : Cond.methodLink RX7 188 yX7_readBlock ∈ zGT := (zGT_in zch4 212 rfl rfl)
set_option maxRecDepth 20000 in
theorem yy_X9_addBranch : zY yX9_addBranch cX9_addBranch 5 (some .int) 4 := ⟨(zGT_in zch5 35 rfl rfl), (zGT_in zch1 6 rfl rfl), by decide +kernel, by decide +kernel, by decide +kernel, by decide⟩
set_option maxRecDepth 20000 in
theorem yv_X9_addBranch : zYv yX9_addBranch := ⟨(zGT_in zch5 33 rfl rfl), (zGT_in zch5 34 rfl rfl)⟩
set_option maxRecDepth 20000 in
theorem lk_RX7_225 : Cond.methodLink RX7 225 yX9_addBranch ∈ zGT := (zGT_in zch5 32 rfl rfl)
set_option maxRecDepth 20000 in
theorem ob_C_52 : zObj shC 52 RX9 := ⟨9, _, _, rfl, rfl, rfl⟩
set_option maxRecDepth 20000 in
theorem yy_X7_readNames : zY yX7_readNames cX7_readNames 3 none 2 := ⟨(zGT_in zch5 43 rfl rfl), (zGT_in zch1 8 rfl rfl), by decide +kernel, by decide +kernel, by decide +kernel, by decide⟩
set_option maxRecDepth 20000 in
theorem yv_X7_readNames : zYv yX7_readNames := ⟨(zGT_in zch5 42 rfl rfl), (zGT_in zch0 33 rfl rfl)⟩
set_option maxRecDepth 20000 in
theorem lk_RX7_228 : Cond.methodLink RX7 228 yX7_readNames ∈ zGT := (zGT_in zch5 40 rfl rfl)
set_option maxRecDepth 20000 in
theorem yy_X9_add : zY yX9_add cX9_add 4 (some .int) 3 := ⟨(zGT_in zch4 223 rfl rfl), (zGT_in zch1 6 rfl rfl), by decide +kernel, by decide +kernel, by decide +kernel, by decide⟩
set_option maxRecDepth 20000 in
theorem yv_X9_add : zYv yX9_add := ⟨(zGT_in zch4 221 rfl rfl), (zGT_in zch4 222 rfl rfl)⟩
set_option maxRecDepth 20000 in
theorem lk_RX7_209 : Cond.methodLink RX7 209 yX9_add ∈ zGT := (zGT_in zch4 220 rfl rfl)
set_option maxRecDepth 20000 in
theorem yy_X9_findBranch : zY yX9_findBranch cX9_findBranch 5 (some .int) 2 := ⟨(zGT_in zch5 30 rfl rfl), (zGT_in zch1 6 rfl rfl), by decide +kernel, by decide +kernel, by decide +kernel, by decide⟩
set_option maxRecDepth 20000 in
theorem yv_X9_findBranch : zYv yX9_findBranch := ⟨(zGT_in zch5 28 rfl rfl), (zGT_in zch5 29 rfl rfl)⟩
set_option maxRecDepth 20000 in
theorem lk_RX7_253 : Cond.methodLink RX7 253 yX9_findBranch ∈ zGT := (zGT_in zch5 27 rfl rfl)
set_option maxRecDepth 20000 in
theorem fr_RX6_29 : zFr shC RX6 29 4 4 40 := ⟨6, _, _, rfl, rfl, rfl, by decide, (zGT_in zch2 12 rfl rfl), u_RX6⟩
set_option maxRecDepth 20000 in
theorem ob_C_40 : zObj shC 40 RX5 := ⟨5, _, _, rfl, rfl, rfl⟩
set_option maxRecDepth 20000 in
theorem fr_RX6_32 : zFr shC RX6 32 4 5 42 := ⟨6, _, _, rfl, rfl, rfl, by decide, (zGT_in zch2 15 rfl rfl), u_RX6⟩
set_option maxRecDepth 20000 in
theorem ob_C_42 : zObj shC 42 RX5 := ⟨5, _, _, rfl, rfl, rfl⟩
set_option maxRecDepth 20000 in
theorem yy_X6_find : zY yX6_find cX6_find 2 (some .int) 1 := ⟨(zGT_in zch4 189 rfl rfl), (zGT_in zch1 7 rfl rfl), by decide +kernel, by decide +kernel, by decide +kernel, by decide⟩
set_option maxRecDepth 20000 in
theorem yv_X6_find : zYv yX6_find := ⟨(zGT_in zch4 187 rfl rfl), (zGT_in zch4 188 rfl rfl)⟩
set_option maxRecDepth 20000 in
theorem lk_RX7_103 : Cond.methodLink RX7 103 yX6_find ∈ zGT := (zGT_in zch4 186 rfl rfl)
set_option maxRecDepth 20000 in
theorem yy_X6_begin : zY yX6_begin cX6_begin 2 none 1 := ⟨(zGT_in zch4 194 rfl rfl), (zGT_in zch1 7 rfl rfl), by decide +kernel, by decide +kernel, by decide +kernel, by decide⟩
set_option maxRecDepth 20000 in
theorem yv_X6_begin : zYv yX6_begin := ⟨(zGT_in zch4 192 rfl rfl), (zGT_in zch4 193 rfl rfl)⟩
set_option maxRecDepth 20000 in
theorem lk_RX7_182 : Cond.methodLink RX7 182 yX6_begin ∈ zGT := (zGT_in zch4 191 rfl rfl)
set_option maxRecDepth 20000 in
theorem yy_X7_readParameters : zY yX7_readParameters cX7_readParameters 3 none 0 := ⟨(zGT_in zch4 199 rfl rfl), (zGT_in zch1 8 rfl rfl), by decide +kernel, by decide +kernel, by decide +kernel, by decide⟩
set_option maxRecDepth 20000 in
theorem yv_X7_readParameters : zYv yX7_readParameters := ⟨(zGT_in zch4 198 rfl rfl), (zGT_in zch0 22 rfl rfl)⟩
set_option maxRecDepth 20000 in
theorem lk_RX7_185 : Cond.methodLink RX7 185 yX7_readParameters ∈ zGT := (zGT_in zch4 196 rfl rfl)
set_option maxRecDepth 20000 in
theorem fi_RX7_124 : zFi shC RX7 124 5 14 := ⟨7, _, _, rfl, rfl, rfl, by decide, (zGT_in zch2 99 rfl rfl), u_RX7⟩
set_option maxRecDepth 20000 in
theorem yy_X6_close : zY yX6_close cX6_close 3 none 2 := ⟨(zGT_in zch5 51 rfl rfl), (zGT_in zch1 7 rfl rfl), by decide +kernel, by decide +kernel, by decide +kernel, by decide⟩
set_option maxRecDepth 20000 in
theorem yv_X6_close : zYv yX6_close := ⟨(zGT_in zch5 49 rfl rfl), (zGT_in zch5 50 rfl rfl)⟩
set_option maxRecDepth 20000 in
theorem lk_RX7_191 : Cond.methodLink RX7 191 yX6_close ∈ zGT := (zGT_in zch5 48 rfl rfl)
set_option maxRecDepth 20000 in
theorem yy_X2_isName : zY yX2_isName cX2_isName 2 (some .boolean) 1 := ⟨(zGT_in zch5 64 rfl rfl), (zGT_in zch1 4 rfl rfl), by decide +kernel, by decide +kernel, by decide +kernel, by decide⟩
set_option maxRecDepth 20000 in
theorem yv_X2_isName : zYv yX2_isName := ⟨(zGT_in zch5 63 rfl rfl), (zGT_in zch0 36 rfl rfl)⟩
set_option maxRecDepth 20000 in
theorem lk_RX2_78 : Cond.methodLink RX2 78 yX2_isName ∈ zGT := (zGT_in zch5 61 rfl rfl)
set_option maxRecDepth 20000 in
theorem lk_RX7_100 : Cond.methodLink RX7 100 yX5_get ∈ zGT := (zGT_in zch5 56 rfl rfl)
set_option maxRecDepth 20000 in
theorem yy_X2_loopPlace : zY yX2_loopPlace cX2_loopPlace 4 (some .int) 0 := ⟨(zGT_in zch5 60 rfl rfl), (zGT_in zch1 4 rfl rfl), by decide +kernel, by decide +kernel, by decide +kernel, by decide⟩
set_option maxRecDepth 20000 in
theorem yv_X2_loopPlace : zYv yX2_loopPlace := ⟨(zGT_in zch5 58 rfl rfl), (zGT_in zch5 59 rfl rfl)⟩
set_option maxRecDepth 20000 in
theorem lk_RX7_107 : Cond.methodLink RX7 107 yX2_loopPlace ∈ zGT := (zGT_in zch5 57 rfl rfl)
set_option maxRecDepth 20000 in
theorem fr_RX7_111 : zFr shC RX7 111 4 2 36 := ⟨6, _, _, rfl, rfl, rfl, by decide, (zGT_in zch2 7 rfl rfl), u_RX6⟩
set_option maxRecDepth 20000 in
theorem fr_RX2_44 : zFr shC RX2 44 3 9 26 := ⟨2, _, _, rfl, rfl, rfl, by decide, (zGT_in zch1 60 rfl rfl), u_RX2⟩
set_option maxRecDepth 20000 in
theorem ob_C_26 : zObj shC 26 RX5 := ⟨5, _, _, rfl, rfl, rfl⟩
set_option maxRecDepth 20000 in
theorem ob_C_102 : zObj shC 102 RX5 := ⟨5, _, _, rfl, rfl, rfl⟩
set_option maxRecDepth 20000 in
theorem fr_RX9_41 : zFr shC RX9 41 52 8 102 := ⟨9, _, _, rfl, rfl, rfl, by decide, (zGT_in zch1 180 rfl rfl), u_RX9⟩
set_option maxRecDepth 20000 in
theorem yy_X7_readProc : zY yX7_readProc cX7_readProc 2 none 0 := ⟨(zGT_in zch4 185 rfl rfl), (zGT_in zch1 8 rfl rfl), by decide +kernel, by decide +kernel, by decide +kernel, by decide⟩
set_option maxRecDepth 20000 in
theorem yv_X7_readProc : zYv yX7_readProc := ⟨(zGT_in zch4 184 rfl rfl), (zGT_in zch0 21 rfl rfl)⟩
set_option maxRecDepth 20000 in
theorem lk_RX7_86 : Cond.methodLink RX7 86 yX7_readProc ∈ zGT := (zGT_in zch4 182 rfl rfl)
set_option maxRecDepth 20000 in
theorem yy_X7_readDefinition : zY yX7_readDefinition cX7_readDefinition 2 none 0 := ⟨(zGT_in zch4 107 rfl rfl), (zGT_in zch1 8 rfl rfl), by decide +kernel, by decide +kernel, by decide +kernel, by decide⟩
set_option maxRecDepth 20000 in
theorem yv_X7_readDefinition : zYv yX7_readDefinition := ⟨(zGT_in zch4 106 rfl rfl), (zGT_in zch0 10 rfl rfl)⟩
set_option maxRecDepth 20000 in
theorem lk_RX7_83 : Cond.methodLink RX7 83 yX7_readDefinition ∈ zGT := (zGT_in zch4 104 rfl rfl)
set_option maxRecDepth 20000 in
theorem yy_X2_settle : zY yX2_settle cX2_settle 5 none 0 := ⟨(zGT_in zch5 68 rfl rfl), (zGT_in zch1 4 rfl rfl), by decide +kernel, by decide +kernel, by decide +kernel, by decide⟩
set_option maxRecDepth 20000 in
theorem yv_X2_settle : zYv yX2_settle := ⟨(zGT_in zch5 66 rfl rfl), (zGT_in zch5 67 rfl rfl)⟩
set_option maxRecDepth 20000 in
theorem lk_RX7_96 : Cond.methodLink RX7 96 yX2_settle ∈ zGT := (zGT_in zch5 65 rfl rfl)
set_option maxRecDepth 20000 in
theorem yy_X9_settle : zY yX9_settle cX9_settle 3 none 0 := ⟨(zGT_in zch5 72 rfl rfl), (zGT_in zch1 6 rfl rfl), by decide +kernel, by decide +kernel, by decide +kernel, by decide⟩
set_option maxRecDepth 20000 in
theorem yv_X9_settle : zYv yX9_settle := ⟨(zGT_in zch5 70 rfl rfl), (zGT_in zch5 71 rfl rfl)⟩
set_option maxRecDepth 20000 in
theorem lk_RX7_99 : Cond.methodLink RX7 99 yX9_settle ∈ zGT := (zGT_in zch5 69 rfl rfl)
set_option maxRecDepth 20000 in
theorem yy_X7_lackingPlace : zY yX7_lackingPlace cX7_lackingPlace 5 (some .int) 1 := ⟨(zGT_in zch5 55 rfl rfl), (zGT_in zch1 8 rfl rfl), by decide +kernel, by decide +kernel, by decide +kernel, by decide⟩
set_option maxRecDepth 20000 in
theorem yv_X7_lackingPlace : zYv yX7_lackingPlace := ⟨(zGT_in zch5 54 rfl rfl), (zGT_in zch0 35 rfl rfl)⟩
set_option maxRecDepth 20000 in
theorem lk_RX7_92 : Cond.methodLink RX7 92 yX7_lackingPlace ∈ zGT := (zGT_in zch5 52 rfl rfl)
set_option maxRecDepth 20000 in
theorem yy_X2_forget : zY yX2_forget cX2_forget 1 none 0 := ⟨(zGT_in zch3 166 rfl rfl), (zGT_in zch1 4 rfl rfl), by decide +kernel, by decide +kernel, by decide +kernel, by decide⟩
set_option maxRecDepth 20000 in
theorem yv_X2_forget : zYv yX2_forget := ⟨(zGT_in zch3 164 rfl rfl), (zGT_in zch3 165 rfl rfl)⟩
set_option maxRecDepth 20000 in
theorem lk_RX7_46 : Cond.methodLink RX7 46 yX2_forget ∈ zGT := (zGT_in zch3 163 rfl rfl)
set_option maxRecDepth 20000 in
theorem yy_X3_forget : zY yX3_forget cX3_forget 1 none 0 := ⟨(zGT_in zch3 179 rfl rfl), (zGT_in zch1 5 rfl rfl), by decide +kernel, by decide +kernel, by decide +kernel, by decide⟩
set_option maxRecDepth 20000 in
theorem yv_X3_forget : zYv yX3_forget := ⟨(zGT_in zch3 177 rfl rfl), (zGT_in zch3 178 rfl rfl)⟩
set_option maxRecDepth 20000 in
theorem lk_RX7_51 : Cond.methodLink RX7 51 yX3_forget ∈ zGT := (zGT_in zch3 176 rfl rfl)
set_option maxRecDepth 20000 in
theorem yy_X9_forget : zY yX9_forget cX9_forget 1 none 0 := ⟨(zGT_in zch3 183 rfl rfl), (zGT_in zch1 6 rfl rfl), by decide +kernel, by decide +kernel, by decide +kernel, by decide⟩
set_option maxRecDepth 20000 in
theorem yv_X9_forget : zYv yX9_forget := ⟨(zGT_in zch3 181 rfl rfl), (zGT_in zch3 182 rfl rfl)⟩
set_option maxRecDepth 20000 in
theorem lk_RX7_54 : Cond.methodLink RX7 54 yX9_forget ∈ zGT := (zGT_in zch3 180 rfl rfl)
set_option maxRecDepth 20000 in
theorem yy_X6_forget : zY yX6_forget cX6_forget 1 none 0 := ⟨(zGT_in zch3 187 rfl rfl), (zGT_in zch1 7 rfl rfl), by decide +kernel, by decide +kernel, by decide +kernel, by decide⟩
set_option maxRecDepth 20000 in
theorem yv_X6_forget : zYv yX6_forget := ⟨(zGT_in zch3 185 rfl rfl), (zGT_in zch3 186 rfl rfl)⟩
set_option maxRecDepth 20000 in
theorem lk_RX7_57 : Cond.methodLink RX7 57 yX6_forget ∈ zGT := (zGT_in zch3 184 rfl rfl)
set_option maxRecDepth 20000 in
theorem yy_X10_cut : zY yX10_cut cX10_cut 6 none 2 := ⟨(zGT_in zch3 192 rfl rfl), (zGT_in zch1 9 rfl rfl), by decide +kernel, by decide +kernel, by decide +kernel, by decide⟩
set_option maxRecDepth 20000 in
theorem yv_X10_cut : zYv yX10_cut := ⟨(zGT_in zch3 190 rfl rfl), (zGT_in zch3 191 rfl rfl)⟩
set_option maxRecDepth 20000 in
theorem lk_RX7_60 : Cond.methodLink RX7 60 yX10_cut ∈ zGT := (zGT_in zch3 189 rfl rfl)
set_option maxRecDepth 20000 in
theorem lk_RX1_88 : Cond.methodLink RX1 88 yX5_set ∈ zGT := (zGT_in zch5 95 rfl rfl)
set_option maxRecDepth 20000 in
theorem ob_C_57 : zObj shC 57 RX5 := ⟨5, _, _, rfl, rfl, rfl⟩
set_option maxRecDepth 20000 in
theorem fr_RX1_15 : zFr shC RX1 15 6 4 57 := ⟨1, _, _, rfl, rfl, rfl, by decide, (zGT_in zch2 144 rfl rfl), u_RX1⟩
set_option maxRecDepth 20000 in
theorem fr_RX1_21 : zFr shC RX1 21 6 0 3 := ⟨1, _, _, rfl, rfl, rfl, by decide, (zGT_in zch2 140 rfl rfl), u_RX1⟩
set_option maxRecDepth 20000 in
theorem yy_X2_settled : zY yX2_settled cX2_settled 4 (some .int) 1 := ⟨(zGT_in zch5 90 rfl rfl), (zGT_in zch1 4 rfl rfl), by decide +kernel, by decide +kernel, by decide +kernel, by decide⟩
set_option maxRecDepth 20000 in
theorem yv_X2_settled : zYv yX2_settled := ⟨(zGT_in zch5 88 rfl rfl), (zGT_in zch5 89 rfl rfl)⟩
set_option maxRecDepth 20000 in
theorem lk_RX1_80 : Cond.methodLink RX1 80 yX2_settled ∈ zGT := (zGT_in zch5 87 rfl rfl)
set_option maxRecDepth 20000 in
theorem yy_X2_kindOf : zY yX2_kindOf cX2_kindOf 3 (some .int) 1 := ⟨(zGT_in zch5 94 rfl rfl), (zGT_in zch1 4 rfl rfl), by decide +kernel, by decide +kernel, by decide +kernel, by decide⟩
set_option maxRecDepth 20000 in
theorem yv_X2_kindOf : zYv yX2_kindOf := ⟨(zGT_in zch5 92 rfl rfl), (zGT_in zch5 93 rfl rfl)⟩
set_option maxRecDepth 20000 in
theorem lk_RX1_85 : Cond.methodLink RX1 85 yX2_kindOf ∈ zGT := (zGT_in zch5 91 rfl rfl)
set_option maxRecDepth 20000 in
theorem fr_RX1_33 : zFr shC RX1 33 6 3 4 := ⟨1, _, _, rfl, rfl, rfl, by decide, (zGT_in zch2 143 rfl rfl), u_RX1⟩
set_option maxRecDepth 20000 in
theorem fr_RX1_29 : zFr shC RX1 29 6 2 52 := ⟨1, _, _, rfl, rfl, rfl, by decide, (zGT_in zch2 142 rfl rfl), u_RX1⟩
set_option maxRecDepth 20000 in
theorem fr_RX1_150 : zFr shC RX1 150 52 3 92 := ⟨9, _, _, rfl, rfl, rfl, by decide, (zGT_in zch1 165 rfl rfl), u_RX9⟩
set_option maxRecDepth 20000 in
theorem lk_RX1_46 : Cond.methodLink RX1 46 yX5_get ∈ zGT := (zGT_in zch5 77 rfl rfl)
set_option maxRecDepth 20000 in
theorem lk_RX1_180 : Cond.methodLink RX1 180 yX6_find ∈ zGT := (zGT_in zch5 108 rfl rfl)
set_option maxRecDepth 20000 in
theorem fr_RX1_128 : zFr shC RX1 128 52 5 96 := ⟨9, _, _, rfl, rfl, rfl, by decide, (zGT_in zch1 173 rfl rfl), u_RX9⟩
set_option maxRecDepth 20000 in
theorem fr_RX1_125 : zFr shC RX1 125 52 4 94 := ⟨9, _, _, rfl, rfl, rfl, by decide, (zGT_in zch1 169 rfl rfl), u_RX9⟩
set_option maxRecDepth 20000 in
theorem fr_RX1_147 : zFr shC RX1 147 52 2 90 := ⟨9, _, _, rfl, rfl, rfl, by decide, (zGT_in zch1 161 rfl rfl), u_RX9⟩
set_option maxRecDepth 20000 in
theorem fr_RX1_56 : zFr shC RX1 56 4 2 36 := ⟨6, _, _, rfl, rfl, rfl, by decide, (zGT_in zch2 6 rfl rfl), u_RX6⟩
set_option maxRecDepth 20000 in
theorem yy_X6_form : zY yX6_form cX6_form 3 (some .int) 2 := ⟨(zGT_in zch5 82 rfl rfl), (zGT_in zch1 7 rfl rfl), by decide +kernel, by decide +kernel, by decide +kernel, by decide⟩
set_option maxRecDepth 20000 in
theorem yv_X6_form : zYv yX6_form := ⟨(zGT_in zch5 80 rfl rfl), (zGT_in zch5 81 rfl rfl)⟩
set_option maxRecDepth 20000 in
theorem lk_RX1_59 : Cond.methodLink RX1 59 yX6_form ∈ zGT := (zGT_in zch5 79 rfl rfl)
set_option maxRecDepth 20000 in
theorem fr_RX2_50 : zFr shC RX2 50 3 11 30 := ⟨2, _, _, rfl, rfl, rfl, by decide, (zGT_in zch1 63 rfl rfl), u_RX2⟩
set_option maxRecDepth 20000 in
theorem fi_RX2_86 : zFi shC RX2 86 3 12 := ⟨2, _, _, rfl, rfl, rfl, by decide, (zGT_in zch1 64 rfl rfl), u_RX2⟩
set_option maxRecDepth 20000 in
theorem ob_C_30 : zObj shC 30 RX5 := ⟨5, _, _, rfl, rfl, rfl⟩
set_option maxRecDepth 20000 in
theorem fw_RX2_86 : zFw shC RX2 86 3 12 .int := ⟨2, _, _, tyX2, rfl, rfl, rfl, by decide, (zGT_in zch1 64 rfl rfl), u_RX2, tyX2_ok, nmX2, rfl, by decide +kernel⟩
set_option maxRecDepth 20000 in
theorem lk_RX2_82 : Cond.methodLink RX2 82 yX2_findPart ∈ zGT := (zGT_in zch5 139 rfl rfl)
set_option maxRecDepth 20000 in
theorem yy_X2_pairUp : zY yX2_pairUp cX2_pairUp 3 none 2 := ⟨(zGT_in zch5 124 rfl rfl), (zGT_in zch1 4 rfl rfl), by decide +kernel, by decide +kernel, by decide +kernel, by decide⟩
set_option maxRecDepth 20000 in
theorem yv_X2_pairUp : zYv yX2_pairUp := ⟨(zGT_in zch5 123 rfl rfl), (zGT_in zch0 42 rfl rfl)⟩
set_option maxRecDepth 20000 in
theorem lk_RX2_89 : Cond.methodLink RX2 89 yX2_pairUp ∈ zGT := (zGT_in zch5 121 rfl rfl)
set_option maxRecDepth 20000 in
theorem yy_X2_choices : zY yX2_choices cX2_choices 2 (some .int) 1 := ⟨(zGT_in zch5 138 rfl rfl), (zGT_in zch1 4 rfl rfl), by decide +kernel, by decide +kernel, by decide +kernel, by decide⟩
set_option maxRecDepth 20000 in
theorem yv_X2_choices : zYv yX2_choices := ⟨(zGT_in zch5 136 rfl rfl), (zGT_in zch5 137 rfl rfl)⟩
set_option maxRecDepth 20000 in
theorem lk_RX2_114 : Cond.methodLink RX2 114 yX2_choices ∈ zGT := (zGT_in zch5 135 rfl rfl)
set_option maxRecDepth 20000 in
theorem yy_X2_behindOf : zY yX2_behindOf cX2_behindOf 2 (some .int) 1 := ⟨(zGT_in zch5 151 rfl rfl), (zGT_in zch1 4 rfl rfl), by decide +kernel, by decide +kernel, by decide +kernel, by decide⟩
set_option maxRecDepth 20000 in
theorem yv_X2_behindOf : zYv yX2_behindOf := ⟨(zGT_in zch5 149 rfl rfl), (zGT_in zch5 150 rfl rfl)⟩
set_option maxRecDepth 20000 in
theorem lk_RX2_111 : Cond.methodLink RX2 111 yX2_behindOf ∈ zGT := (zGT_in zch5 148 rfl rfl)
set_option maxRecDepth 20000 in
theorem yy_X2_insideOf : zY yX2_insideOf cX2_insideOf 2 (some .int) 1 := ⟨(zGT_in zch5 147 rfl rfl), (zGT_in zch1 4 rfl rfl), by decide +kernel, by decide +kernel, by decide +kernel, by decide⟩
set_option maxRecDepth 20000 in
theorem yv_X2_insideOf : zYv yX2_insideOf := ⟨(zGT_in zch5 145 rfl rfl), (zGT_in zch5 146 rfl rfl)⟩
set_option maxRecDepth 20000 in
theorem lk_RX2_108 : Cond.methodLink RX2 108 yX2_insideOf ∈ zGT := (zGT_in zch5 144 rfl rfl)
set_option maxRecDepth 20000 in
theorem lk_RX2_98 : Cond.methodLink RX2 98 yX2_kindOf ∈ zGT := (zGT_in zch5 130 rfl rfl)
set_option maxRecDepth 20000 in
theorem lk_RX2_92 : Cond.methodLink RX2 92 yX2_settled ∈ zGT := (zGT_in zch5 125 rfl rfl)
set_option maxRecDepth 20000 in
theorem yy_X2_highest : zY yX2_highest cX2_highest 4 (some .int) 1 := ⟨(zGT_in zch5 129 rfl rfl), (zGT_in zch1 4 rfl rfl), by decide +kernel, by decide +kernel, by decide +kernel, by decide⟩
set_option maxRecDepth 20000 in
theorem yv_X2_highest : zYv yX2_highest := ⟨(zGT_in zch5 128 rfl rfl), (zGT_in zch0 43 rfl rfl)⟩
set_option maxRecDepth 20000 in
theorem lk_RX2_95 : Cond.methodLink RX2 95 yX2_highest ∈ zGT := (zGT_in zch5 126 rfl rfl)
set_option maxRecDepth 20000 in
theorem yy_X2_goOnAlike : zY yX2_goOnAlike cX2_goOnAlike 4 (some .boolean) 2 := ⟨(zGT_in zch5 143 rfl rfl), (zGT_in zch1 4 rfl rfl), by decide +kernel, by decide +kernel, by decide +kernel, by decide⟩
set_option maxRecDepth 20000 in
theorem yv_X2_goOnAlike : zYv yX2_goOnAlike := ⟨(zGT_in zch5 142 rfl rfl), (zGT_in zch0 45 rfl rfl)⟩
set_option maxRecDepth 20000 in
theorem lk_RX2_105 : Cond.methodLink RX2 105 yX2_goOnAlike ∈ zGT := (zGT_in zch5 140 rfl rfl)
set_option maxRecDepth 20000 in
theorem yy_X2_chooseAlike : zY yX2_chooseAlike cX2_chooseAlike 6 (some .boolean) 2 := ⟨(zGT_in zch5 134 rfl rfl), (zGT_in zch1 4 rfl rfl), by decide +kernel, by decide +kernel, by decide +kernel, by decide⟩
set_option maxRecDepth 20000 in
theorem yv_X2_chooseAlike : zYv yX2_chooseAlike := ⟨(zGT_in zch5 133 rfl rfl), (zGT_in zch0 44 rfl rfl)⟩
set_option maxRecDepth 20000 in
theorem lk_RX2_101 : Cond.methodLink RX2 101 yX2_chooseAlike ∈ zGT := (zGT_in zch5 131 rfl rfl)
set_option maxRecDepth 20000 in
theorem fr_RX1_25 : zFr shC RX1 25 6 1 51 := ⟨1, _, _, rfl, rfl, rfl, by decide, (zGT_in zch2 141 rfl rfl), u_RX1⟩
set_option maxRecDepth 20000 in
theorem fr_RX1_183 : zFr shC RX1 183 51 4 82 := ⟨3, _, _, rfl, rfl, rfl, by decide, (zGT_in zch1 119 rfl rfl), u_RX3⟩
set_option maxRecDepth 20000 in
theorem yy_X2_equal : zY yX2_equal cX2_equal 6 (some .boolean) 2 := ⟨(zGT_in zch5 120 rfl rfl), (zGT_in zch1 4 rfl rfl), by decide +kernel, by decide +kernel, by decide +kernel, by decide⟩
set_option maxRecDepth 20000 in
theorem yv_X2_equal : zYv yX2_equal := ⟨(zGT_in zch5 118 rfl rfl), (zGT_in zch5 119 rfl rfl)⟩
set_option maxRecDepth 20000 in
theorem lk_RX1_92 : Cond.methodLink RX1 92 yX2_equal ∈ zGT := (zGT_in zch5 117 rfl rfl)
set_option maxRecDepth 20000 in
theorem fr_RX1_186 : zFr shC RX1 186 51 2 78 := ⟨3, _, _, rfl, rfl, rfl, by decide, (zGT_in zch1 113 rfl rfl), u_RX3⟩
set_option maxRecDepth 20000 in
theorem fr_RX1_189 : zFr shC RX1 189 51 3 80 := ⟨3, _, _, rfl, rfl, rfl, by decide, (zGT_in zch1 116 rfl rfl), u_RX3⟩
set_option maxRecDepth 20000 in
theorem yy_X3_isWithout : zY yX3_isWithout cX3_isWithout 5 (some .boolean) 3 := ⟨(zGT_in zch5 116 rfl rfl), (zGT_in zch1 5 rfl rfl), by decide +kernel, by decide +kernel, by decide +kernel, by decide⟩
set_option maxRecDepth 20000 in
theorem yv_X3_isWithout : zYv yX3_isWithout := ⟨(zGT_in zch5 114 rfl rfl), (zGT_in zch5 115 rfl rfl)⟩
set_option maxRecDepth 20000 in
theorem lk_RX1_131 : Cond.methodLink RX1 131 yX3_isWithout ∈ zGT := (zGT_in zch5 113 rfl rfl)
set_option maxRecDepth 20000 in
theorem fr_RX1_165 : zFr shC RX1 165 52 10 106 := ⟨9, _, _, rfl, rfl, rfl, by decide, (zGT_in zch1 187 rfl rfl), u_RX9⟩
set_option maxRecDepth 20000 in
theorem yy_X1_hold : zY yX1_hold cX1_hold 5 (some .int) 2 := ⟨(zGT_in zch5 86 rfl rfl), (zGT_in zch1 10 rfl rfl), by decide +kernel, by decide +kernel, by decide +kernel, by decide⟩
set_option maxRecDepth 20000 in
theorem yv_X1_hold : zYv yX1_hold := ⟨(zGT_in zch5 85 rfl rfl), (zGT_in zch0 37 rfl rfl)⟩
set_option maxRecDepth 20000 in
theorem lk_RX1_63 : Cond.methodLink RX1 63 yX1_hold ∈ zGT := (zGT_in zch5 83 rfl rfl)
set_option maxRecDepth 20000 in
theorem ob_C_6 : zObj shC 6 RX1 := ⟨1, _, _, rfl, rfl, rfl⟩
set_option maxRecDepth 20000 in
theorem fi_RX1_50 : zFi shC RX1 50 6 5 := ⟨1, _, _, rfl, rfl, rfl, by decide, (zGT_in zch2 145 rfl rfl), u_RX1⟩
set_option maxRecDepth 20000 in
theorem lk_RX1_177 : Cond.methodLink RX1 177 yX2_choices ∈ zGT := (zGT_in zch5 168 rfl rfl)
set_option maxRecDepth 20000 in
theorem fr_RX1_171 : zFr shC RX1 171 52 11 108 := ⟨9, _, _, rfl, rfl, rfl, by decide, (zGT_in zch1 189 rfl rfl), u_RX9⟩
set_option maxRecDepth 20000 in
theorem yy_X2_byLabel : zY yX2_byLabel cX2_byLabel 4 (some .int) 2 := ⟨(zGT_in zch5 167 rfl rfl), (zGT_in zch1 4 rfl rfl), by decide +kernel, by decide +kernel, by decide +kernel, by decide⟩
set_option maxRecDepth 20000 in
theorem yv_X2_byLabel : zYv yX2_byLabel := ⟨(zGT_in zch5 165 rfl rfl), (zGT_in zch5 166 rfl rfl)⟩
set_option maxRecDepth 20000 in
theorem lk_RX1_162 : Cond.methodLink RX1 162 yX2_byLabel ∈ zGT := (zGT_in zch5 164 rfl rfl)
set_option maxRecDepth 20000 in
theorem fr_RX1_174 : zFr shC RX1 174 52 14 114 := ⟨9, _, _, rfl, rfl, rfl, by decide, (zGT_in zch1 196 rfl rfl), u_RX9⟩
set_option maxRecDepth 20000 in
theorem fr_RX1_168 : zFr shC RX1 168 52 9 104 := ⟨9, _, _, rfl, rfl, rfl, by decide, (zGT_in zch1 183 rfl rfl), u_RX9⟩
set_option maxRecDepth 20000 in
theorem lk_RX1_153 : Cond.methodLink RX1 153 yX2_behindOf ∈ zGT := (zGT_in zch5 173 rfl rfl)
set_option maxRecDepth 20000 in
theorem yy_X1_goOn : zY yX1_goOn cX1_goOn 3 (some .boolean) 2 := ⟨(zGT_in zch5 177 rfl rfl), (zGT_in zch1 10 rfl rfl), by decide +kernel, by decide +kernel, by decide +kernel, by decide⟩
set_option maxRecDepth 20000 in
theorem yv_X1_goOn : zYv yX1_goOn := ⟨(zGT_in zch5 176 rfl rfl), (zGT_in zch0 50 rfl rfl)⟩
set_option maxRecDepth 20000 in
theorem lk_RX1_156 : Cond.methodLink RX1 156 yX1_goOn ∈ zGT := (zGT_in zch5 174 rfl rfl)
set_option maxRecDepth 20000 in
theorem lk_RX1_159 : Cond.methodLink RX1 159 yX2_insideOf ∈ zGT := (zGT_in zch5 178 rfl rfl)
set_option maxRecDepth 20000 in
theorem fr_RX1_95 : zFr shC RX1 95 52 1 88 := ⟨9, _, _, rfl, rfl, rfl, by decide, (zGT_in zch1 159 rfl rfl), u_RX9⟩
set_option maxRecDepth 20000 in
theorem fw_RX1_37 : zFw shC RX1 37 6 6 .int := ⟨1, _, _, tyX1, rfl, rfl, rfl, by decide, (zGT_in zch2 146 rfl rfl), u_RX1, tyX1_ok, nmX1, rfl, by decide +kernel⟩
set_option maxRecDepth 20000 in
theorem lk_RX5_19 : Cond.methodLink RX5 19 arraycopyName ∈ zGT := (zGT_in zch5 191 rfl rfl)
set_option maxRecDepth 20000 in
theorem ac0 : Cond.native arraycopyName ∈ zGT := (zGT_in zch5 193 rfl rfl)
set_option maxRecDepth 20000 in
theorem ac1 : Cond.static arraycopyName ∈ zGT := (zGT_in zch5 192 rfl rfl)
set_option maxRecDepth 20000 in
theorem ac2 : Cond.initialized "java/lang/System" ∈ zGT := (zGT_in zch1 20 rfl rfl)
set_option maxRecDepth 20000 in
theorem fi_RX1_37 : zFi shC RX1 37 6 6 := ⟨1, _, _, rfl, rfl, rfl, by decide, (zGT_in zch2 146 rfl rfl), u_RX1⟩
set_option maxRecDepth 20000 in
theorem yy_X1_checkStatement : zY yX1_checkStatement cX1_checkStatement 5 (some .boolean) 2 := ⟨(zGT_in zch5 103 rfl rfl), (zGT_in zch1 10 rfl rfl), by decide +kernel, by decide +kernel, by decide +kernel, by decide⟩
set_option maxRecDepth 20000 in
theorem yv_X1_checkStatement : zYv yX1_checkStatement := ⟨(zGT_in zch5 102 rfl rfl), (zGT_in zch0 39 rfl rfl)⟩
set_option maxRecDepth 20000 in
theorem lk_RX1_100 : Cond.methodLink RX1 100 yX1_checkStatement ∈ zGT := (zGT_in zch5 100 rfl rfl)
set_option maxRecDepth 20000 in
theorem fr_RX1_103 : zFr shC RX1 103 52 6 98 := ⟨9, _, _, rfl, rfl, rfl, by decide, (zGT_in zch1 177 rfl rfl), u_RX9⟩
set_option maxRecDepth 20000 in
theorem yy_X1_fail : zY yX1_fail cX1_fail 2 none 1 := ⟨(zGT_in zch5 182 rfl rfl), (zGT_in zch1 10 rfl rfl), by decide +kernel, by decide +kernel, by decide +kernel, by decide⟩
set_option maxRecDepth 20000 in
theorem yv_X1_fail : zYv yX1_fail := ⟨(zGT_in zch5 181 rfl rfl), (zGT_in zch0 51 rfl rfl)⟩
set_option maxRecDepth 20000 in
theorem lk_RX1_106 : Cond.methodLink RX1 106 yX1_fail ∈ zGT := (zGT_in zch5 179 rfl rfl)
set_option maxRecDepth 20000 in
theorem yy_X1_checkBranches : zY yX1_checkBranches cX1_checkBranches 12 (some .boolean) 3 := ⟨(zGT_in zch5 186 rfl rfl), (zGT_in zch1 10 rfl rfl), by decide +kernel, by decide +kernel, by decide +kernel, by decide⟩
set_option maxRecDepth 20000 in
theorem yv_X1_checkBranches : zYv yX1_checkBranches := ⟨(zGT_in zch5 185 rfl rfl), (zGT_in zch0 52 rfl rfl)⟩
set_option maxRecDepth 20000 in
theorem lk_RX1_140 : Cond.methodLink RX1 140 yX1_checkBranches ∈ zGT := (zGT_in zch5 183 rfl rfl)
set_option maxRecDepth 20000 in
theorem yy_X1_checkRound : zY yX1_checkRound cX1_checkRound 5 none 2 := ⟨(zGT_in zch5 201 rfl rfl), (zGT_in zch1 10 rfl rfl), by decide +kernel, by decide +kernel, by decide +kernel, by decide⟩
set_option maxRecDepth 20000 in
theorem yv_X1_checkRound : zYv yX1_checkRound := ⟨(zGT_in zch5 200 rfl rfl), (zGT_in zch0 54 rfl rfl)⟩
set_option maxRecDepth 20000 in
theorem lk_RX1_144 : Cond.methodLink RX1 144 yX1_checkRound ∈ zGT := (zGT_in zch5 198 rfl rfl)
set_option maxRecDepth 20000 in
theorem yy_X1_fitsParameters : zY yX1_fitsParameters cX1_fitsParameters 4 (some .boolean) 1 := ⟨(zGT_in zch5 107 rfl rfl), (zGT_in zch1 10 rfl rfl), by decide +kernel, by decide +kernel, by decide +kernel, by decide⟩
set_option maxRecDepth 20000 in
theorem yv_X1_fitsParameters : zYv yX1_fitsParameters := ⟨(zGT_in zch5 106 rfl rfl), (zGT_in zch0 40 rfl rfl)⟩
set_option maxRecDepth 20000 in
theorem lk_RX1_112 : Cond.methodLink RX1 112 yX1_fitsParameters ∈ zGT := (zGT_in zch5 104 rfl rfl)
set_option maxRecDepth 20000 in
theorem yy_X1_givesArguments : zY yX1_givesArguments cX1_givesArguments 7 (some .boolean) 1 := ⟨(zGT_in zch5 112 rfl rfl), (zGT_in zch1 10 rfl rfl), by decide +kernel, by decide +kernel, by decide +kernel, by decide⟩
set_option maxRecDepth 20000 in
theorem yv_X1_givesArguments : zYv yX1_givesArguments := ⟨(zGT_in zch5 111 rfl rfl), (zGT_in zch0 41 rfl rfl)⟩
set_option maxRecDepth 20000 in
theorem lk_RX1_116 : Cond.methodLink RX1 116 yX1_givesArguments ∈ zGT := (zGT_in zch5 109 rfl rfl)
set_option maxRecDepth 20000 in
theorem yy_X1_opensChannel : zY yX1_opensChannel cX1_opensChannel 4 (some .boolean) 1 := ⟨(zGT_in zch5 155 rfl rfl), (zGT_in zch1 10 rfl rfl), by decide +kernel, by decide +kernel, by decide +kernel, by decide⟩
set_option maxRecDepth 20000 in
theorem yv_X1_opensChannel : zYv yX1_opensChannel := ⟨(zGT_in zch5 154 rfl rfl), (zGT_in zch0 46 rfl rfl)⟩
set_option maxRecDepth 20000 in
theorem lk_RX1_119 : Cond.methodLink RX1 119 yX1_opensChannel ∈ zGT := (zGT_in zch5 152 rfl rfl)
set_option maxRecDepth 20000 in
theorem yy_X1_hasChannels : zY yX1_hasChannels cX1_hasChannels 2 (some .boolean) 0 := ⟨(zGT_in zch5 159 rfl rfl), (zGT_in zch1 10 rfl rfl), by decide +kernel, by decide +kernel, by decide +kernel, by decide⟩
set_option maxRecDepth 20000 in
theorem yv_X1_hasChannels : zYv yX1_hasChannels := ⟨(zGT_in zch5 158 rfl rfl), (zGT_in zch0 47 rfl rfl)⟩
set_option maxRecDepth 20000 in
theorem lk_RX1_73 : Cond.methodLink RX1 73 yX1_hasChannels ∈ zGT := (zGT_in zch5 156 rfl rfl)
set_option maxRecDepth 20000 in
theorem fr_RX1_109 : zFr shC RX1 109 52 0 86 := ⟨9, _, _, rfl, rfl, rfl, by decide, (zGT_in zch1 157 rfl rfl), u_RX9⟩
set_option maxRecDepth 20000 in
theorem yy_X1_isGoodPlain : zY yX1_isGoodPlain cX1_isGoodPlain 9 (some .boolean) 2 := ⟨(zGT_in zch5 172 rfl rfl), (zGT_in zch1 10 rfl rfl), by decide +kernel, by decide +kernel, by decide +kernel, by decide⟩
set_option maxRecDepth 20000 in
theorem yv_X1_isGoodPlain : zYv yX1_isGoodPlain := ⟨(zGT_in zch5 171 rfl rfl), (zGT_in zch0 49 rfl rfl)⟩
set_option maxRecDepth 20000 in
theorem lk_RX1_137 : Cond.methodLink RX1 137 yX1_isGoodPlain ∈ zGT := (zGT_in zch5 169 rfl rfl)
set_option maxRecDepth 20000 in
theorem yy_X1_isGoodCase : zY yX1_isGoodCase cX1_isGoodCase 6 (some .boolean) 1 := ⟨(zGT_in zch5 163 rfl rfl), (zGT_in zch1 10 rfl rfl), by decide +kernel, by decide +kernel, by decide +kernel, by decide⟩
set_option maxRecDepth 20000 in
theorem yv_X1_isGoodCase : zYv yX1_isGoodCase := ⟨(zGT_in zch5 162 rfl rfl), (zGT_in zch0 48 rfl rfl)⟩
set_option maxRecDepth 20000 in
theorem lk_RX1_122 : Cond.methodLink RX1 122 yX1_isGoodCase ∈ zGT := (zGT_in zch5 160 rfl rfl)
set_option maxRecDepth 20000 in
theorem yy_X1_isSame : zY yX1_isSame cX1_isSame 5 (some .boolean) 1 := ⟨(zGT_in zch5 197 rfl rfl), (zGT_in zch1 10 rfl rfl), by decide +kernel, by decide +kernel, by decide +kernel, by decide⟩
set_option maxRecDepth 20000 in
theorem yv_X1_isSame : zYv yX1_isSame := ⟨(zGT_in zch5 196 rfl rfl), (zGT_in zch0 53 rfl rfl)⟩
set_option maxRecDepth 20000 in
theorem lk_RX1_201 : Cond.methodLink RX1 201 yX1_isSame ∈ zGT := (zGT_in zch5 194 rfl rfl)
set_option maxRecDepth 20000 in
theorem fr_RX1_198 : zFr shC RX1 198 52 12 110 := ⟨9, _, _, rfl, rfl, rfl, by decide, (zGT_in zch1 191 rfl rfl), u_RX9⟩
set_option maxRecDepth 20000 in
theorem yy_X1_checkBlock : zY yX1_checkBlock cX1_checkBlock 7 (some .boolean) 2 := ⟨(zGT_in zch5 99 rfl rfl), (zGT_in zch1 10 rfl rfl), by decide +kernel, by decide +kernel, by decide +kernel, by decide⟩
set_option maxRecDepth 20000 in
theorem yv_X1_checkBlock : zYv yX1_checkBlock := ⟨(zGT_in zch5 98 rfl rfl), (zGT_in zch0 38 rfl rfl)⟩
set_option maxRecDepth 20000 in
theorem lk_RX1_69 : Cond.methodLink RX1 69 yX1_checkBlock ∈ zGT := (zGT_in zch5 96 rfl rfl)
set_option maxRecDepth 20000 in
theorem yy_X5_copy : zY yX5_copy cX5_copy 4 none 3 := ⟨(zGT_in zch5 190 rfl rfl), (zGT_in zch1 2 rfl rfl), by decide +kernel, by decide +kernel, by decide +kernel, by decide⟩
set_option maxRecDepth 20000 in
theorem yv_X5_copy : zYv yX5_copy := ⟨(zGT_in zch5 188 rfl rfl), (zGT_in zch5 189 rfl rfl)⟩
set_option maxRecDepth 20000 in
theorem lk_RX1_192 : Cond.methodLink RX1 192 yX5_copy ∈ zGT := (zGT_in zch5 187 rfl rfl)
set_option maxRecDepth 20000 in
theorem fr_RX1_195 : zFr shC RX1 195 52 13 112 := ⟨9, _, _, rfl, rfl, rfl, by decide, (zGT_in zch1 194 rfl rfl), u_RX9⟩
set_option maxRecDepth 20000 in
theorem fr_RX1_66 : zFr shC RX1 66 4 4 40 := ⟨6, _, _, rfl, rfl, rfl, by decide, (zGT_in zch2 13 rfl rfl), u_RX6⟩
set_option maxRecDepth 20000 in
theorem fr_RX1_77 : zFr shC RX1 77 4 5 42 := ⟨6, _, _, rfl, rfl, rfl, by decide, (zGT_in zch2 16 rfl rfl), u_RX6⟩
set_option maxRecDepth 20000 in
theorem fr_RX1_41 : zFr shC RX1 41 4 3 38 := ⟨6, _, _, rfl, rfl, rfl, by decide, (zGT_in zch2 10 rfl rfl), u_RX6⟩
set_option maxRecDepth 20000 in
theorem fw_RX1_50 : zFw shC RX1 50 6 5 .int := ⟨1, _, _, tyX1, rfl, rfl, rfl, by decide, (zGT_in zch2 145 rfl rfl), u_RX1, tyX1_ok, nmX1, rfl, by decide +kernel⟩
set_option maxRecDepth 20000 in
theorem lk_RX1_52 : Cond.methodLink RX1 52 yX5_fill ∈ zGT := (zGT_in zch5 78 rfl rfl)
set_option maxRecDepth 20000 in
theorem fr_RX11_66 : zFr shC RX11 66 0 2 4 := ⟨11, _, _, rfl, rfl, rfl, by decide, (zGT_in zch3 98 rfl rfl), u_RX11⟩
set_option maxRecDepth 20000 in
theorem fi_RX11_91 : zFi shC RX11 91 4 10 := ⟨6, _, _, rfl, rfl, rfl, by decide, (zGT_in zch2 22 rfl rfl), u_RX6⟩
set_option maxRecDepth 20000 in
theorem fw_RX11_80 : zFw shC RX11 80 0 9 .boolean := ⟨11, _, _, tyX11, rfl, rfl, rfl, by decide, (zGT_in zch3 105 rfl rfl), u_RX11, tyX11_ok, nmX11, rfl, by decide +kernel⟩
set_option maxRecDepth 20000 in
theorem fr_RX11_49 : zFr shC RX11 49 0 4 6 := ⟨11, _, _, rfl, rfl, rfl, by decide, (zGT_in zch3 100 rfl rfl), u_RX11⟩
set_option maxRecDepth 20000 in
theorem yy_X1_check : zY yX1_check cX1_check 3 (some .int) 1 := ⟨(zGT_in zch5 76 rfl rfl), (zGT_in zch1 10 rfl rfl), by decide +kernel, by decide +kernel, by decide +kernel, by decide⟩
set_option maxRecDepth 20000 in
theorem yv_X1_check : zYv yX1_check := ⟨(zGT_in zch5 74 rfl rfl), (zGT_in zch5 75 rfl rfl)⟩
set_option maxRecDepth 20000 in
theorem lk_RX11_94 : Cond.methodLink RX11 94 yX1_check ∈ zGT := (zGT_in zch5 73 rfl rfl)
set_option maxRecDepth 20000 in
theorem fr_RX11_58 : zFr shC RX11 58 0 5 7 := ⟨11, _, _, rfl, rfl, rfl, by decide, (zGT_in zch3 101 rfl rfl), u_RX11⟩
set_option maxRecDepth 20000 in
theorem yy_X4_forget : zY yX4_forget cX4_forget 1 none 0 := ⟨(zGT_in zch3 150 rfl rfl), (zGT_in zch1 11 rfl rfl), by decide +kernel, by decide +kernel, by decide +kernel, by decide⟩
set_option maxRecDepth 20000 in
theorem yv_X4_forget : zYv yX4_forget := ⟨(zGT_in zch3 148 rfl rfl), (zGT_in zch3 149 rfl rfl)⟩
set_option maxRecDepth 20000 in
theorem lk_RX11_84 : Cond.methodLink RX11 84 yX4_forget ∈ zGT := (zGT_in zch3 147 rfl rfl)
set_option maxRecDepth 20000 in
theorem ob_C_7 : zObj shC 7 RX4 := ⟨4, _, _, rfl, rfl, rfl⟩
set_option maxRecDepth 20000 in
theorem fr_RX11_42 : zFr shC RX11 42 0 3 5 := ⟨11, _, _, rfl, rfl, rfl, by decide, (zGT_in zch3 99 rfl rfl), u_RX11⟩
set_option maxRecDepth 20000 in
theorem yy_X7_readAll : zY yX7_readAll cX7_readAll 4 (some .int) 2 := ⟨(zGT_in zch3 162 rfl rfl), (zGT_in zch1 8 rfl rfl), by decide +kernel, by decide +kernel, by decide +kernel, by decide⟩
set_option maxRecDepth 20000 in
theorem yv_X7_readAll : zYv yX7_readAll := ⟨(zGT_in zch3 160 rfl rfl), (zGT_in zch3 161 rfl rfl)⟩
set_option maxRecDepth 20000 in
theorem lk_RX11_87 : Cond.methodLink RX11 87 yX7_readAll ∈ zGT := (zGT_in zch3 159 rfl rfl)
set_option maxRecDepth 20000 in
theorem fw_RX11_18 : zFw shC RX11 18 0 7 .int := ⟨11, _, _, tyX11, rfl, rfl, rfl, by decide, (zGT_in zch3 103 rfl rfl), u_RX11, tyX11_ok, nmX11, rfl, by decide +kernel⟩
set_option maxRecDepth 20000 in
theorem fw_RX11_22 : zFw shC RX11 22 0 8 .int := ⟨11, _, _, tyX11, rfl, rfl, rfl, by decide, (zGT_in zch3 104 rfl rfl), u_RX11, tyX11_ok, nmX11, rfl, by decide +kernel⟩
set_option maxRecDepth 20000 in
theorem lk_RX4_62 : Cond.methodLink RX4 62 yX5_set ∈ zGT := (zGT_in zch5 215 rfl rfl)
set_option maxRecDepth 20000 in
theorem ob_C_63 : zObj shC 63 RX5 := ⟨5, _, _, rfl, rfl, rfl⟩
set_option maxRecDepth 20000 in
theorem fi_RX4_59 : zFi shC RX4 59 7 9 := ⟨4, _, _, rfl, rfl, rfl, by decide, (zGT_in zch3 51 rfl rfl), u_RX4⟩
set_option maxRecDepth 20000 in
theorem fw_RX4_59 : zFw shC RX4 59 7 9 .int := ⟨4, _, _, tyX4, rfl, rfl, rfl, by decide, (zGT_in zch3 51 rfl rfl), u_RX4, tyX4_ok, nmX4, rfl, by decide +kernel⟩
set_option maxRecDepth 20000 in
theorem fi_RX4_56 : zFi shC RX4 56 7 8 := ⟨4, _, _, rfl, rfl, rfl, by decide, (zGT_in zch3 50 rfl rfl), u_RX4⟩
set_option maxRecDepth 20000 in
theorem fr_RX4_34 : zFr shC RX4 34 7 6 63 := ⟨4, _, _, rfl, rfl, rfl, by decide, (zGT_in zch3 48 rfl rfl), u_RX4⟩
set_option maxRecDepth 20000 in
theorem fi_RX11_98 : zFi shC RX11 98 7 9 := ⟨4, _, _, rfl, rfl, rfl, by decide, (zGT_in zch3 52 rfl rfl), u_RX4⟩
set_option maxRecDepth 20000 in
theorem yy_X4_addInput : zY yX4_addInput cX4_addInput 3 none 1 := ⟨(zGT_in zch5 214 rfl rfl), (zGT_in zch1 11 rfl rfl), by decide +kernel, by decide +kernel, by decide +kernel, by decide⟩
set_option maxRecDepth 20000 in
theorem yv_X4_addInput : zYv yX4_addInput := ⟨(zGT_in zch5 212 rfl rfl), (zGT_in zch5 213 rfl rfl)⟩
set_option maxRecDepth 20000 in
theorem lk_RX11_101 : Cond.methodLink RX11 101 yX4_addInput ∈ zGT := (zGT_in zch5 211 rfl rfl)
set_option maxRecDepth 20000 in
theorem fr_RX4_52 : zFr shC RX4 52 7 2 4 := ⟨4, _, _, rfl, rfl, rfl, by decide, (zGT_in zch3 44 rfl rfl), u_RX4⟩
set_option maxRecDepth 20000 in
theorem fr_RX4_96 : zFr shC RX4 96 4 3 38 := ⟨6, _, _, rfl, rfl, rfl, by decide, (zGT_in zch2 11 rfl rfl), u_RX6⟩
set_option maxRecDepth 20000 in
theorem lk_RX4_99 : Cond.methodLink RX4 99 yX5_get ∈ zGT := (zGT_in zch5 230 rfl rfl)
set_option maxRecDepth 20000 in
theorem fr_RX8_29 : zFr shC RX8 29 60 4 134 := ⟨8, _, _, rfl, rfl, rfl, by decide, (zGT_in zch2 225 rfl rfl), u_RX8⟩
set_option maxRecDepth 20000 in
theorem lk_RX8_72 : Cond.methodLink RX8 72 yX5_get ∈ zGT := (zGT_in zch5 235 rfl rfl)
set_option maxRecDepth 20000 in
theorem ob_C_134 : zObj shC 134 RX5 := ⟨5, _, _, rfl, rfl, rfl⟩
set_option maxRecDepth 20000 in
theorem fr_RX8_41 : zFr shC RX8 41 60 8 142 := ⟨8, _, _, rfl, rfl, rfl, by decide, (zGT_in zch2 230 rfl rfl), u_RX8⟩
set_option maxRecDepth 20000 in
theorem fr_RX8_26 : zFr shC RX8 26 60 3 132 := ⟨8, _, _, rfl, rfl, rfl, by decide, (zGT_in zch2 223 rfl rfl), u_RX8⟩
set_option maxRecDepth 20000 in
theorem ob_C_132 : zObj shC 132 RX5 := ⟨5, _, _, rfl, rfl, rfl⟩
set_option maxRecDepth 20000 in
theorem fi_RX8_60 : zFi shC RX8 60 60 14 := ⟨8, _, _, rfl, rfl, rfl, by decide, (zGT_in zch2 237 rfl rfl), u_RX8⟩
set_option maxRecDepth 20000 in
theorem fi_RX8_63 : zFi shC RX8 63 60 15 := ⟨8, _, _, rfl, rfl, rfl, by decide, (zGT_in zch2 238 rfl rfl), u_RX8⟩
set_option maxRecDepth 20000 in
theorem lk_RX8_91 : Cond.methodLink RX8 91 yX5_copy ∈ zGT := (zGT_in zch6 5 rfl rfl)
set_option maxRecDepth 20000 in
theorem ob_C_142 : zObj shC 142 RX5 := ⟨5, _, _, rfl, rfl, rfl⟩
set_option maxRecDepth 20000 in
theorem fr_RX8_44 : zFr shC RX8 44 60 9 144 := ⟨8, _, _, rfl, rfl, rfl, by decide, (zGT_in zch2 232 rfl rfl), u_RX8⟩
set_option maxRecDepth 20000 in
theorem ob_C_144 : zObj shC 144 RX5 := ⟨5, _, _, rfl, rfl, rfl⟩
set_option maxRecDepth 20000 in
theorem lk_RX8_76 : Cond.methodLink RX8 76 yX5_set ∈ zGT := (zGT_in zch5 236 rfl rfl)
set_option maxRecDepth 20000 in
theorem fr_RX8_32 : zFr shC RX8 32 60 5 136 := ⟨8, _, _, rfl, rfl, rfl, by decide, (zGT_in zch2 227 rfl rfl), u_RX8⟩
set_option maxRecDepth 20000 in
theorem ob_C_136 : zObj shC 136 RX5 := ⟨5, _, _, rfl, rfl, rfl⟩
set_option maxRecDepth 20000 in
theorem fi_RX8_47 : zFi shC RX8 47 60 10 := ⟨8, _, _, rfl, rfl, rfl, by decide, (zGT_in zch2 233 rfl rfl), u_RX8⟩
set_option maxRecDepth 20000 in
theorem lk_RX8_87 : Cond.methodLink RX8 87 yX5_fill ∈ zGT := (zGT_in zch6 6 rfl rfl)
set_option maxRecDepth 20000 in
theorem fr_RX8_14 : zFr shC RX8 14 60 0 126 := ⟨8, _, _, rfl, rfl, rfl, by decide, (zGT_in zch2 217 rfl rfl), u_RX8⟩
set_option maxRecDepth 20000 in
theorem ob_C_126 : zObj shC 126 RX5 := ⟨5, _, _, rfl, rfl, rfl⟩
set_option maxRecDepth 20000 in
theorem fr_RX8_20 : zFr shC RX8 20 60 1 128 := ⟨8, _, _, rfl, rfl, rfl, by decide, (zGT_in zch2 219 rfl rfl), u_RX8⟩
set_option maxRecDepth 20000 in
theorem ob_C_128 : zObj shC 128 RX5 := ⟨5, _, _, rfl, rfl, rfl⟩
set_option maxRecDepth 20000 in
theorem yy_X8_move : zY yX8_move cX8_move 4 none 0 := ⟨(zGT_in zch6 4 rfl rfl), (zGT_in zch1 13 rfl rfl), by decide +kernel, by decide +kernel, by decide +kernel, by decide⟩
set_option maxRecDepth 20000 in
theorem yv_X8_move : zYv yX8_move := ⟨(zGT_in zch6 3 rfl rfl), (zGT_in zch0 56 rfl rfl)⟩
set_option maxRecDepth 20000 in
theorem lk_RX8_84 : Cond.methodLink RX8 84 yX8_move ∈ zGT := (zGT_in zch6 1 rfl rfl)
set_option maxRecDepth 20000 in
theorem fi_RX8_66 : zFi shC RX8 66 60 16 := ⟨8, _, _, rfl, rfl, rfl, by decide, (zGT_in zch2 239 rfl rfl), u_RX8⟩
set_option maxRecDepth 20000 in
theorem fi_RX8_69 : zFi shC RX8 69 60 17 := ⟨8, _, _, rfl, rfl, rfl, by decide, (zGT_in zch3 1 rfl rfl), u_RX8⟩
set_option maxRecDepth 20000 in
theorem fr_RX8_23 : zFr shC RX8 23 60 2 130 := ⟨8, _, _, rfl, rfl, rfl, by decide, (zGT_in zch2 221 rfl rfl), u_RX8⟩
set_option maxRecDepth 20000 in
theorem ob_C_130 : zObj shC 130 RX5 := ⟨5, _, _, rfl, rfl, rfl⟩
set_option maxRecDepth 20000 in
theorem yy_X8_become : zY yX8_become cX8_become 5 none 4 := ⟨(zGT_in zch6 0 rfl rfl), (zGT_in zch1 13 rfl rfl), by decide +kernel, by decide +kernel, by decide +kernel, by decide⟩
set_option maxRecDepth 20000 in
theorem yv_X8_become : zYv yX8_become := ⟨(zGT_in zch5 238 rfl rfl), (zGT_in zch5 239 rfl rfl)⟩
set_option maxRecDepth 20000 in
theorem lk_RX8_80 : Cond.methodLink RX8 80 yX8_become ∈ zGT := (zGT_in zch5 237 rfl rfl)
set_option maxRecDepth 20000 in
theorem fr_RX8_35 : zFr shC RX8 35 60 6 138 := ⟨8, _, _, rfl, rfl, rfl, by decide, (zGT_in zch2 228 rfl rfl), u_RX8⟩
set_option maxRecDepth 20000 in
theorem fi_RX8_51 : zFi shC RX8 51 60 11 := ⟨8, _, _, rfl, rfl, rfl, by decide, (zGT_in zch2 234 rfl rfl), u_RX8⟩
set_option maxRecDepth 20000 in
theorem ob_C_138 : zObj shC 138 RX5 := ⟨5, _, _, rfl, rfl, rfl⟩
set_option maxRecDepth 20000 in
theorem fi_RX8_57 : zFi shC RX8 57 60 13 := ⟨8, _, _, rfl, rfl, rfl, by decide, (zGT_in zch2 236 rfl rfl), u_RX8⟩
set_option maxRecDepth 20000 in
theorem fi_RX8_54 : zFi shC RX8 54 60 12 := ⟨8, _, _, rfl, rfl, rfl, by decide, (zGT_in zch2 235 rfl rfl), u_RX8⟩
set_option maxRecDepth 20000 in
theorem fr_RX8_38 : zFr shC RX8 38 60 7 140 := ⟨8, _, _, rfl, rfl, rfl, by decide, (zGT_in zch2 229 rfl rfl), u_RX8⟩
set_option maxRecDepth 20000 in
theorem ob_C_140 : zObj shC 140 RX5 := ⟨5, _, _, rfl, rfl, rfl⟩
set_option maxRecDepth 20000 in
theorem lk_RX4_83 : Cond.methodLink RX4 83 yX4_forget ∈ zGT := (zGT_in zch5 224 rfl rfl)
set_option maxRecDepth 20000 in
theorem fw_RX4_84 : zFw shC RX4 84 7 15 .int := ⟨4, _, _, tyX4, rfl, rfl, rfl, by decide, (zGT_in zch3 58 rfl rfl), u_RX4, tyX4_ok, nmX4, rfl, by decide +kernel⟩
set_option maxRecDepth 20000 in
theorem lk_RX4_87 : Cond.methodLink RX4 87 yX6_find ∈ zGT := (zGT_in zch5 225 rfl rfl)
set_option maxRecDepth 20000 in
theorem yy_X4_cellsOf : zY yX4_cellsOf cX4_cellsOf 2 (some .int) 1 := ⟨(zGT_in zch5 229 rfl rfl), (zGT_in zch1 11 rfl rfl), by decide +kernel, by decide +kernel, by decide +kernel, by decide⟩
set_option maxRecDepth 20000 in
theorem yv_X4_cellsOf : zYv yX4_cellsOf := ⟨(zGT_in zch5 228 rfl rfl), (zGT_in zch0 55 rfl rfl)⟩
set_option maxRecDepth 20000 in
theorem lk_RX4_93 : Cond.methodLink RX4 93 yX4_cellsOf ∈ zGT := (zGT_in zch5 226 rfl rfl)
set_option maxRecDepth 20000 in
theorem fi_RX4_84 : zFi shC RX4 84 7 15 := ⟨4, _, _, rfl, rfl, rfl, by decide, (zGT_in zch3 58 rfl rfl), u_RX4⟩
set_option maxRecDepth 20000 in
theorem fr_RX4_102 : zFr shC RX4 102 4 4 40 := ⟨6, _, _, rfl, rfl, rfl, by decide, (zGT_in zch2 14 rfl rfl), u_RX6⟩
set_option maxRecDepth 20000 in
theorem yy_X8_join : zY yX8_join cX8_join 5 (some .int) 3 := ⟨(zGT_in zch5 234 rfl rfl), (zGT_in zch1 13 rfl rfl), by decide +kernel, by decide +kernel, by decide +kernel, by decide⟩
set_option maxRecDepth 20000 in
theorem yv_X8_join : zYv yX8_join := ⟨(zGT_in zch5 232 rfl rfl), (zGT_in zch5 233 rfl rfl)⟩
set_option maxRecDepth 20000 in
theorem lk_RX4_105 : Cond.methodLink RX4 105 yX8_join ∈ zGT := (zGT_in zch5 231 rfl rfl)
set_option maxRecDepth 20000 in
theorem fw_RX4_109 : zFw shC RX4 109 7 13 .int := ⟨4, _, _, tyX4, rfl, rfl, rfl, by decide, (zGT_in zch3 56 rfl rfl), u_RX4, tyX4_ok, nmX4, rfl, by decide +kernel⟩
set_option maxRecDepth 20000 in
theorem fi_RX4_40 : zFi shC RX4 40 7 16 := ⟨4, _, _, rfl, rfl, rfl, by decide, (zGT_in zch3 59 rfl rfl), u_RX4⟩
set_option maxRecDepth 20000 in
theorem fi_RX11_80 : zFi shC RX11 80 0 9 := ⟨11, _, _, rfl, rfl, rfl, by decide, (zGT_in zch3 105 rfl rfl), u_RX11⟩
set_option maxRecDepth 20000 in
theorem fi_RX11_18 : zFi shC RX11 18 0 7 := ⟨11, _, _, rfl, rfl, rfl, by decide, (zGT_in zch3 103 rfl rfl), u_RX11⟩
set_option maxRecDepth 20000 in
theorem fi_RX11_22 : zFi shC RX11 22 0 8 := ⟨11, _, _, rfl, rfl, rfl, by decide, (zGT_in zch3 104 rfl rfl), u_RX11⟩
set_option maxRecDepth 20000 in
theorem yy_X4_begin : zY yX4_begin cX4_begin 4 (some .int) 2 := ⟨(zGT_in zch5 223 rfl rfl), (zGT_in zch1 11 rfl rfl), by decide +kernel, by decide +kernel, by decide +kernel, by decide⟩
set_option maxRecDepth 20000 in
theorem yv_X4_begin : zYv yX4_begin := ⟨(zGT_in zch5 221 rfl rfl), (zGT_in zch5 222 rfl rfl)⟩
set_option maxRecDepth 20000 in
theorem lk_RX11_104 : Cond.methodLink RX11 104 yX4_begin ∈ zGT := (zGT_in zch5 220 rfl rfl)
set_option maxRecDepth 20000 in
theorem fr_RX0_23 : zFr shC RX0 23 59 2 120 := ⟨0, _, _, rfl, rfl, rfl, by decide, (zGT_in zch2 178 rfl rfl), u_RX0⟩
set_option maxRecDepth 20000 in
theorem lk_RX0_48 : Cond.methodLink RX0 48 yX5_get ∈ zGT := (zGT_in zch6 35 rfl rfl)
set_option maxRecDepth 20000 in
theorem ob_C_120 : zObj shC 120 RX5 := ⟨5, _, _, rfl, rfl, rfl⟩
set_option maxRecDepth 20000 in
theorem fi_RX0_32 : zFi shC RX0 32 59 7 := ⟨0, _, _, rfl, rfl, rfl, by decide, (zGT_in zch2 183 rfl rfl), u_RX0⟩
set_option maxRecDepth 20000 in
theorem lk_RX0_52 : Cond.methodLink RX0 52 yX5_set ∈ zGT := (zGT_in zch6 40 rfl rfl)
set_option maxRecDepth 20000 in
theorem ob_C_116 : zObj shC 116 RX5 := ⟨5, _, _, rfl, rfl, rfl⟩
set_option maxRecDepth 20000 in
theorem fi_RX0_45 : zFi shC RX0 45 59 9 := ⟨0, _, _, rfl, rfl, rfl, by decide, (zGT_in zch2 186 rfl rfl), u_RX0⟩
set_option maxRecDepth 20000 in
theorem fr_RX0_20 : zFr shC RX0 20 59 1 118 := ⟨0, _, _, rfl, rfl, rfl, by decide, (zGT_in zch2 177 rfl rfl), u_RX0⟩
set_option maxRecDepth 20000 in
theorem ob_C_118 : zObj shC 118 RX5 := ⟨5, _, _, rfl, rfl, rfl⟩
set_option maxRecDepth 20000 in
theorem fr_RX0_14 : zFr shC RX0 14 59 0 116 := ⟨0, _, _, rfl, rfl, rfl, by decide, (zGT_in zch2 176 rfl rfl), u_RX0⟩
set_option maxRecDepth 20000 in
theorem ob_C_84 : zObj shC 84 RX5 := ⟨5, _, _, rfl, rfl, rfl⟩
set_option maxRecDepth 20000 in
theorem fr_RX3_32 : zFr shC RX3 32 51 5 84 := ⟨3, _, _, rfl, rfl, rfl, by decide, (zGT_in zch1 121 rfl rfl), u_RX3⟩
set_option maxRecDepth 20000 in
theorem yy_X3_join : zY yX3_join cX3_join 3 (some .int) 3 := ⟨(zGT_in zch6 55 rfl rfl), (zGT_in zch1 5 rfl rfl), by decide +kernel, by decide +kernel, by decide +kernel, by decide⟩
set_option maxRecDepth 20000 in
theorem yv_X3_join : Cond.static yX3_join ∈ zGT := (zGT_in zch6 54 rfl rfl)
set_option maxRecDepth 20000 in
theorem lk_RX3_50 : Cond.methodLink RX3 50 yX3_join ∈ zGT := (zGT_in zch6 53 rfl rfl)
set_option maxRecDepth 20000 in
theorem fw_RX3_54 : zFw shC RX3 54 51 8 .int := ⟨3, _, _, tyX3, rfl, rfl, rfl, by decide, (zGT_in zch1 126 rfl rfl), u_RX3, tyX3_ok, nmX3, rfl, by decide +kernel⟩
set_option maxRecDepth 20000 in
theorem fr_RX4_44 : zFr shC RX4 44 7 0 51 := ⟨4, _, _, rfl, rfl, rfl, by decide, (zGT_in zch3 42 rfl rfl), u_RX4⟩
set_option maxRecDepth 20000 in
theorem fr_RX4_165 : zFr shC RX4 165 60 8 142 := ⟨8, _, _, rfl, rfl, rfl, by decide, (zGT_in zch2 231 rfl rfl), u_RX8⟩
set_option maxRecDepth 20000 in
theorem fr_RX4_168 : zFr shC RX4 168 60 3 132 := ⟨8, _, _, rfl, rfl, rfl, by decide, (zGT_in zch2 224 rfl rfl), u_RX8⟩
set_option maxRecDepth 20000 in
theorem yy_X3_work : zY yX3_work cX3_work 9 (some .boolean) 4 := ⟨(zGT_in zch6 52 rfl rfl), (zGT_in zch1 5 rfl rfl), by decide +kernel, by decide +kernel, by decide +kernel, by decide⟩
set_option maxRecDepth 20000 in
theorem yv_X3_work : zYv yX3_work := ⟨(zGT_in zch6 50 rfl rfl), (zGT_in zch6 51 rfl rfl)⟩
set_option maxRecDepth 20000 in
theorem lk_RX4_171 : Cond.methodLink RX4 171 yX3_work ∈ zGT := (zGT_in zch6 49 rfl rfl)
set_option maxRecDepth 20000 in
theorem fr_RX0_26 : zFr shC RX0 26 59 3 122 := ⟨0, _, _, rfl, rfl, rfl, by decide, (zGT_in zch2 179 rfl rfl), u_RX0⟩
set_option maxRecDepth 20000 in
theorem ob_C_122 : zObj shC 122 RX5 := ⟨5, _, _, rfl, rfl, rfl⟩
set_option maxRecDepth 20000 in
theorem fr_RX0_29 : zFr shC RX0 29 59 4 124 := ⟨0, _, _, rfl, rfl, rfl, by decide, (zGT_in zch2 180 rfl rfl), u_RX0⟩
set_option maxRecDepth 20000 in
theorem fi_RX0_36 : zFi shC RX0 36 59 5 := ⟨0, _, _, rfl, rfl, rfl, by decide, (zGT_in zch2 181 rfl rfl), u_RX0⟩
set_option maxRecDepth 20000 in
theorem ob_C_124 : zObj shC 124 RX5 := ⟨5, _, _, rfl, rfl, rfl⟩
set_option maxRecDepth 20000 in
theorem fi_RX0_42 : zFi shC RX0 42 59 8 := ⟨0, _, _, rfl, rfl, rfl, by decide, (zGT_in zch2 184 rfl rfl), u_RX0⟩
set_option maxRecDepth 20000 in
theorem yy_X8_setChannel : zY yX8_setChannel cX8_setChannel 4 none 3 := ⟨(zGT_in zch6 44 rfl rfl), (zGT_in zch1 13 rfl rfl), by decide +kernel, by decide +kernel, by decide +kernel, by decide⟩
set_option maxRecDepth 20000 in
theorem yv_X8_setChannel : zYv yX8_setChannel := ⟨(zGT_in zch6 42 rfl rfl), (zGT_in zch6 43 rfl rfl)⟩
set_option maxRecDepth 20000 in
theorem lk_RX4_200 : Cond.methodLink RX4 200 yX8_setChannel ∈ zGT := (zGT_in zch6 41 rfl rfl)
set_option maxRecDepth 20000 in
theorem yy_X8_channel : zY yX8_channel cX8_channel 3 (some .int) 2 := ⟨(zGT_in zch6 30 rfl rfl), (zGT_in zch1 13 rfl rfl), by decide +kernel, by decide +kernel, by decide +kernel, by decide⟩
set_option maxRecDepth 20000 in
theorem yv_X8_channel : zYv yX8_channel := ⟨(zGT_in zch6 28 rfl rfl), (zGT_in zch6 29 rfl rfl)⟩
set_option maxRecDepth 20000 in
theorem lk_RX4_189 : Cond.methodLink RX4 189 yX8_channel ∈ zGT := (zGT_in zch6 27 rfl rfl)
set_option maxRecDepth 20000 in
theorem yy_X0_close : zY yX0_close cX0_close 3 (some .boolean) 1 := ⟨(zGT_in zch6 67 rfl rfl), (zGT_in zch1 12 rfl rfl), by decide +kernel, by decide +kernel, by decide +kernel, by decide⟩
set_option maxRecDepth 20000 in
theorem yv_X0_close : zYv yX0_close := ⟨(zGT_in zch6 65 rfl rfl), (zGT_in zch6 66 rfl rfl)⟩
set_option maxRecDepth 20000 in
theorem lk_RX4_193 : Cond.methodLink RX4 193 yX0_close ∈ zGT := (zGT_in zch6 64 rfl rfl)
set_option maxRecDepth 20000 in
theorem fi_RX4_75 : zFi shC RX4 75 7 14 := ⟨4, _, _, rfl, rfl, rfl, by decide, (zGT_in zch3 57 rfl rfl), u_RX4⟩
set_option maxRecDepth 20000 in
theorem yy_X0_cellsOfOne : zY yX0_cellsOfOne cX0_cellsOfOne 1 (some .int) 0 := ⟨(zGT_in zch6 71 rfl rfl), (zGT_in zch1 12 rfl rfl), by decide +kernel, by decide +kernel, by decide +kernel, by decide⟩
set_option maxRecDepth 20000 in
theorem yv_X0_cellsOfOne : zYv yX0_cellsOfOne := ⟨(zGT_in zch6 69 rfl rfl), (zGT_in zch6 70 rfl rfl)⟩
set_option maxRecDepth 20000 in
theorem lk_RX4_196 : Cond.methodLink RX4 196 yX0_cellsOfOne ∈ zGT := (zGT_in zch6 68 rfl rfl)
set_option maxRecDepth 20000 in
theorem fr_RX4_112 : zFr shC RX4 112 60 1 128 := ⟨8, _, _, rfl, rfl, rfl, by decide, (zGT_in zch2 220 rfl rfl), u_RX8⟩
set_option maxRecDepth 20000 in
theorem fr_RX4_48 : zFr shC RX4 48 7 1 52 := ⟨4, _, _, rfl, rfl, rfl, by decide, (zGT_in zch3 43 rfl rfl), u_RX4⟩
set_option maxRecDepth 20000 in
theorem fr_RX4_186 : zFr shC RX4 186 52 8 102 := ⟨9, _, _, rfl, rfl, rfl, by decide, (zGT_in zch1 181 rfl rfl), u_RX9⟩
set_option maxRecDepth 20000 in
theorem fr_RX4_177 : zFr shC RX4 177 52 10 106 := ⟨9, _, _, rfl, rfl, rfl, by decide, (zGT_in zch1 186 rfl rfl), u_RX9⟩
set_option maxRecDepth 20000 in
theorem fr_RX4_180 : zFr shC RX4 180 52 2 90 := ⟨9, _, _, rfl, rfl, rfl, by decide, (zGT_in zch1 162 rfl rfl), u_RX9⟩
set_option maxRecDepth 20000 in
theorem yy_X4_close : zY yX4_close cX4_close 3 none 2 := ⟨(zGT_in zch6 63 rfl rfl), (zGT_in zch1 11 rfl rfl), by decide +kernel, by decide +kernel, by decide +kernel, by decide⟩
set_option maxRecDepth 20000 in
theorem yv_X4_close : zYv yX4_close := ⟨(zGT_in zch6 62 rfl rfl), (zGT_in zch0 61 rfl rfl)⟩
set_option maxRecDepth 20000 in
theorem lk_RX4_183 : Cond.methodLink RX4 183 yX4_close ∈ zGT := (zGT_in zch6 60 rfl rfl)
set_option maxRecDepth 20000 in
theorem yy_X4_goOn : zY yX4_goOn cX4_goOn 3 (some .boolean) 2 := ⟨(zGT_in zch6 59 rfl rfl), (zGT_in zch1 11 rfl rfl), by decide +kernel, by decide +kernel, by decide +kernel, by decide⟩
set_option maxRecDepth 20000 in
theorem yv_X4_goOn : zYv yX4_goOn := ⟨(zGT_in zch6 58 rfl rfl), (zGT_in zch0 60 rfl rfl)⟩
set_option maxRecDepth 20000 in
theorem lk_RX4_225 : Cond.methodLink RX4 225 yX4_goOn ∈ zGT := (zGT_in zch6 56 rfl rfl)
set_option maxRecDepth 20000 in
theorem fr_RX4_133 : zFr shC RX4 133 52 0 86 := ⟨9, _, _, rfl, rfl, rfl, by decide, (zGT_in zch1 156 rfl rfl), u_RX9⟩
set_option maxRecDepth 20000 in
theorem fr_RX4_204 : zFr shC RX4 204 52 3 92 := ⟨9, _, _, rfl, rfl, rfl, by decide, (zGT_in zch1 166 rfl rfl), u_RX9⟩
set_option maxRecDepth 20000 in
theorem yy_X0_isFull : zY yX0_isFull cX0_isFull 2 (some .boolean) 1 := ⟨(zGT_in zch6 34 rfl rfl), (zGT_in zch1 12 rfl rfl), by decide +kernel, by decide +kernel, by decide +kernel, by decide⟩
set_option maxRecDepth 20000 in
theorem yv_X0_isFull : zYv yX0_isFull := ⟨(zGT_in zch6 32 rfl rfl), (zGT_in zch6 33 rfl rfl)⟩
set_option maxRecDepth 20000 in
theorem lk_RX4_207 : Cond.methodLink RX4 207 yX0_isFull ∈ zGT := (zGT_in zch6 31 rfl rfl)
set_option maxRecDepth 20000 in
theorem fr_RX4_213 : zFr shC RX4 213 52 4 94 := ⟨9, _, _, rfl, rfl, rfl, by decide, (zGT_in zch1 170 rfl rfl), u_RX9⟩
set_option maxRecDepth 20000 in
theorem fr_RX4_216 : zFr shC RX4 216 52 5 96 := ⟨9, _, _, rfl, rfl, rfl, by decide, (zGT_in zch1 174 rfl rfl), u_RX9⟩
set_option maxRecDepth 20000 in
theorem yy_X4_work : zY yX4_work cX4_work 4 (some .boolean) 3 := ⟨(zGT_in zch6 48 rfl rfl), (zGT_in zch1 11 rfl rfl), by decide +kernel, by decide +kernel, by decide +kernel, by decide⟩
set_option maxRecDepth 20000 in
theorem yv_X4_work : zYv yX4_work := ⟨(zGT_in zch6 47 rfl rfl), (zGT_in zch0 59 rfl rfl)⟩
set_option maxRecDepth 20000 in
theorem lk_RX4_219 : Cond.methodLink RX4 219 yX4_work ∈ zGT := (zGT_in zch6 45 rfl rfl)
set_option maxRecDepth 20000 in
theorem fi_RX4_222 : zFi shC RX4 222 51 8 := ⟨3, _, _, rfl, rfl, rfl, by decide, (zGT_in zch1 127 rfl rfl), u_RX3⟩
set_option maxRecDepth 20000 in
theorem yy_X0_add : zY yX0_add cX0_add 4 none 2 := ⟨(zGT_in zch6 39 rfl rfl), (zGT_in zch1 12 rfl rfl), by decide +kernel, by decide +kernel, by decide +kernel, by decide⟩
set_option maxRecDepth 20000 in
theorem yv_X0_add : zYv yX0_add := ⟨(zGT_in zch6 37 rfl rfl), (zGT_in zch6 38 rfl rfl)⟩
set_option maxRecDepth 20000 in
theorem lk_RX4_210 : Cond.methodLink RX4 210 yX0_add ∈ zGT := (zGT_in zch6 36 rfl rfl)
set_option maxRecDepth 20000 in
theorem yy_X0_isEmpty : zY yX0_isEmpty cX0_isEmpty 2 (some .boolean) 1 := ⟨(zGT_in zch6 79 rfl rfl), (zGT_in zch1 12 rfl rfl), by decide +kernel, by decide +kernel, by decide +kernel, by decide⟩
set_option maxRecDepth 20000 in
theorem yv_X0_isEmpty : zYv yX0_isEmpty := ⟨(zGT_in zch6 77 rfl rfl), (zGT_in zch6 78 rfl rfl)⟩
set_option maxRecDepth 20000 in
theorem lk_RX4_228 : Cond.methodLink RX4 228 yX0_isEmpty ∈ zGT := (zGT_in zch6 76 rfl rfl)
set_option maxRecDepth 20000 in
theorem yy_X0_remove : zY yX0_remove cX0_remove 3 (some .int) 1 := ⟨(zGT_in zch6 83 rfl rfl), (zGT_in zch1 12 rfl rfl), by decide +kernel, by decide +kernel, by decide +kernel, by decide⟩
set_option maxRecDepth 20000 in
theorem yv_X0_remove : zYv yX0_remove := ⟨(zGT_in zch6 81 rfl rfl), (zGT_in zch6 82 rfl rfl)⟩
set_option maxRecDepth 20000 in
theorem lk_RX4_231 : Cond.methodLink RX4 231 yX0_remove ∈ zGT := (zGT_in zch6 80 rfl rfl)
set_option maxRecDepth 20000 in
theorem yy_X8_setNumber : zY yX8_setNumber cX8_setNumber 4 none 3 := ⟨(zGT_in zch6 87 rfl rfl), (zGT_in zch1 13 rfl rfl), by decide +kernel, by decide +kernel, by decide +kernel, by decide⟩
set_option maxRecDepth 20000 in
theorem yv_X8_setNumber : zYv yX8_setNumber := ⟨(zGT_in zch6 85 rfl rfl), (zGT_in zch6 86 rfl rfl)⟩
set_option maxRecDepth 20000 in
theorem lk_RX4_234 : Cond.methodLink RX4 234 yX8_setNumber ∈ zGT := (zGT_in zch6 84 rfl rfl)
set_option maxRecDepth 20000 in
theorem yy_X9_entry : zY yX9_entry cX9_entry 4 (some .int) 2 := ⟨(zGT_in zch6 96 rfl rfl), (zGT_in zch1 6 rfl rfl), by decide +kernel, by decide +kernel, by decide +kernel, by decide⟩
set_option maxRecDepth 20000 in
theorem yv_X9_entry : zYv yX9_entry := ⟨(zGT_in zch6 94 rfl rfl), (zGT_in zch6 95 rfl rfl)⟩
set_option maxRecDepth 20000 in
theorem lk_RX4_243 : Cond.methodLink RX4 243 yX9_entry ∈ zGT := (zGT_in zch6 93 rfl rfl)
set_option maxRecDepth 20000 in
theorem lk_RX4_237 : Cond.methodLink RX4 237 yX9_findBranch ∈ zGT := (zGT_in zch6 92 rfl rfl)
set_option maxRecDepth 20000 in
theorem fr_RX4_240 : zFr shC RX4 240 52 13 112 := ⟨9, _, _, rfl, rfl, rfl, by decide, (zGT_in zch1 193 rfl rfl), u_RX9⟩
set_option maxRecDepth 20000 in
theorem lk_RX4_251 : Cond.methodLink RX4 251 yX6_form ∈ zGT := (zGT_in zch6 105 rfl rfl)
set_option maxRecDepth 20000 in
theorem fr_RX4_257 : zFr shC RX4 257 51 2 78 := ⟨3, _, _, rfl, rfl, rfl, by decide, (zGT_in zch1 114 rfl rfl), u_RX3⟩
set_option maxRecDepth 20000 in
theorem fr_RX4_260 : zFr shC RX4 260 51 3 80 := ⟨3, _, _, rfl, rfl, rfl, by decide, (zGT_in zch1 117 rfl rfl), u_RX3⟩
set_option maxRecDepth 20000 in
theorem fr_RX4_30 : zFr shC RX4 30 7 5 61 := ⟨4, _, _, rfl, rfl, rfl, by decide, (zGT_in zch3 47 rfl rfl), u_RX4⟩
set_option maxRecDepth 20000 in
theorem ob_C_61 : zObj shC 61 RX5 := ⟨5, _, _, rfl, rfl, rfl⟩
set_option maxRecDepth 20000 in
theorem fr_RX4_254 : zFr shC RX4 254 51 4 82 := ⟨3, _, _, rfl, rfl, rfl, by decide, (zGT_in zch1 120 rfl rfl), u_RX3⟩
set_option maxRecDepth 20000 in
theorem fr_RX4_263 : zFr shC RX4 263 4 2 36 := ⟨6, _, _, rfl, rfl, rfl, by decide, (zGT_in zch2 8 rfl rfl), u_RX6⟩
set_option maxRecDepth 20000 in
theorem fi_RX0_39 : zFi shC RX0 39 59 6 := ⟨0, _, _, rfl, rfl, rfl, by decide, (zGT_in zch2 182 rfl rfl), u_RX0⟩
set_option maxRecDepth 20000 in
theorem yy_X4_claim : zY yX4_claim cX4_claim 2 (some .boolean) 1 := ⟨(zGT_in zch6 109 rfl rfl), (zGT_in zch1 11 rfl rfl), by decide +kernel, by decide +kernel, by decide +kernel, by decide⟩
set_option maxRecDepth 20000 in
theorem yv_X4_claim : zYv yX4_claim := ⟨(zGT_in zch6 108 rfl rfl), (zGT_in zch0 66 rfl rfl)⟩
set_option maxRecDepth 20000 in
theorem lk_RX4_270 : Cond.methodLink RX4 270 yX4_claim ∈ zGT := (zGT_in zch6 106 rfl rfl)
set_option maxRecDepth 20000 in
theorem yy_X4_handOver : zY yX4_handOver cX4_handOver 5 none 3 := ⟨(zGT_in zch6 113 rfl rfl), (zGT_in zch1 11 rfl rfl), by decide +kernel, by decide +kernel, by decide +kernel, by decide⟩
set_option maxRecDepth 20000 in
theorem yv_X4_handOver : zYv yX4_handOver := ⟨(zGT_in zch6 112 rfl rfl), (zGT_in zch0 67 rfl rfl)⟩
set_option maxRecDepth 20000 in
theorem lk_RX4_273 : Cond.methodLink RX4 273 yX4_handOver ∈ zGT := (zGT_in zch6 110 rfl rfl)
set_option maxRecDepth 20000 in
theorem yy_X4_giveAway : zY yX4_giveAway cX4_giveAway 7 none 4 := ⟨(zGT_in zch6 117 rfl rfl), (zGT_in zch1 11 rfl rfl), by decide +kernel, by decide +kernel, by decide +kernel, by decide⟩
set_option maxRecDepth 20000 in
theorem yv_X4_giveAway : zYv yX4_giveAway := ⟨(zGT_in zch6 116 rfl rfl), (zGT_in zch0 68 rfl rfl)⟩
set_option maxRecDepth 20000 in
theorem lk_RX4_276 : Cond.methodLink RX4 276 yX4_giveAway ∈ zGT := (zGT_in zch6 114 rfl rfl)
set_option maxRecDepth 20000 in
theorem yy_X0_make : zY yX0_make cX0_make 3 (some .int) 0 := ⟨(zGT_in zch6 121 rfl rfl), (zGT_in zch1 12 rfl rfl), by decide +kernel, by decide +kernel, by decide +kernel, by decide⟩
set_option maxRecDepth 20000 in
theorem yv_X0_make : zYv yX0_make := ⟨(zGT_in zch6 119 rfl rfl), (zGT_in zch6 120 rfl rfl)⟩
set_option maxRecDepth 20000 in
theorem lk_RX4_280 : Cond.methodLink RX4 280 yX0_make ∈ zGT := (zGT_in zch6 118 rfl rfl)
set_option maxRecDepth 20000 in
theorem yy_X4_tellAll : zY yX4_tellAll cX4_tellAll 8 (some .boolean) 4 := ⟨(zGT_in zch6 104 rfl rfl), (zGT_in zch1 11 rfl rfl), by decide +kernel, by decide +kernel, by decide +kernel, by decide⟩
set_option maxRecDepth 20000 in
theorem yv_X4_tellAll : zYv yX4_tellAll := ⟨(zGT_in zch6 103 rfl rfl), (zGT_in zch0 65 rfl rfl)⟩
set_option maxRecDepth 20000 in
theorem lk_RX4_266 : Cond.methodLink RX4 266 yX4_tellAll ∈ zGT := (zGT_in zch6 101 rfl rfl)
set_option maxRecDepth 20000 in
theorem fr_RX4_115 : zFr shC RX4 115 60 0 126 := ⟨8, _, _, rfl, rfl, rfl, by decide, (zGT_in zch2 218 rfl rfl), u_RX8⟩
set_option maxRecDepth 20000 in
theorem lk_RX4_283 : Cond.methodLink RX4 283 yX8_become ∈ zGT := (zGT_in zch6 126 rfl rfl)
set_option maxRecDepth 20000 in
theorem fr_RX4_246 : zFr shC RX4 246 52 9 104 := ⟨9, _, _, rfl, rfl, rfl, by decide, (zGT_in zch1 184 rfl rfl), u_RX9⟩
set_option maxRecDepth 20000 in
theorem fr_RX4_248 : zFr shC RX4 248 52 14 114 := ⟨9, _, _, rfl, rfl, rfl, by decide, (zGT_in zch1 197 rfl rfl), u_RX9⟩
set_option maxRecDepth 20000 in
theorem fr_RX4_37 : zFr shC RX4 37 7 7 65 := ⟨4, _, _, rfl, rfl, rfl, by decide, (zGT_in zch3 49 rfl rfl), u_RX4⟩
set_option maxRecDepth 20000 in
theorem fi_RX4_66 : zFi shC RX4 66 7 10 := ⟨4, _, _, rfl, rfl, rfl, by decide, (zGT_in zch3 53 rfl rfl), u_RX4⟩
set_option maxRecDepth 20000 in
theorem ob_C_65 : zObj shC 65 RX5 := ⟨5, _, _, rfl, rfl, rfl⟩
set_option maxRecDepth 20000 in
theorem fw_RX4_56 : zFw shC RX4 56 7 8 .int := ⟨4, _, _, tyX4, rfl, rfl, rfl, by decide, (zGT_in zch3 50 rfl rfl), u_RX4, tyX4_ok, nmX4, rfl, by decide +kernel⟩
set_option maxRecDepth 20000 in
theorem yy_X4_say : zY yX4_say cX4_say 6 (some .boolean) 2 := ⟨(zGT_in zch6 26 rfl rfl), (zGT_in zch1 11 rfl rfl), by decide +kernel, by decide +kernel, by decide +kernel, by decide⟩
set_option maxRecDepth 20000 in
theorem yv_X4_say : zYv yX4_say := ⟨(zGT_in zch6 25 rfl rfl), (zGT_in zch0 58 rfl rfl)⟩
set_option maxRecDepth 20000 in
theorem lk_RX4_138 : Cond.methodLink RX4 138 yX4_say ∈ zGT := (zGT_in zch6 23 rfl rfl)
set_option maxRecDepth 20000 in
theorem yy_X4_hear : zY yX4_hear cX4_hear 5 (some .boolean) 2 := ⟨(zGT_in zch6 75 rfl rfl), (zGT_in zch1 11 rfl rfl), by decide +kernel, by decide +kernel, by decide +kernel, by decide⟩
set_option maxRecDepth 20000 in
theorem yv_X4_hear : zYv yX4_hear := ⟨(zGT_in zch6 74 rfl rfl), (zGT_in zch0 62 rfl rfl)⟩
set_option maxRecDepth 20000 in
theorem lk_RX4_141 : Cond.methodLink RX4 141 yX4_hear ∈ zGT := (zGT_in zch6 72 rfl rfl)
set_option maxRecDepth 20000 in
theorem yy_X4_choose : zY yX4_choose cX4_choose 6 (some .boolean) 2 := ⟨(zGT_in zch6 91 rfl rfl), (zGT_in zch1 11 rfl rfl), by decide +kernel, by decide +kernel, by decide +kernel, by decide⟩
set_option maxRecDepth 20000 in
theorem yv_X4_choose : zYv yX4_choose := ⟨(zGT_in zch6 90 rfl rfl), (zGT_in zch0 63 rfl rfl)⟩
set_option maxRecDepth 20000 in
theorem lk_RX4_144 : Cond.methodLink RX4 144 yX4_choose ∈ zGT := (zGT_in zch6 88 rfl rfl)
set_option maxRecDepth 20000 in
theorem yy_X4_spawn : zY yX4_spawn cX4_spawn 9 (some .boolean) 2 := ⟨(zGT_in zch6 100 rfl rfl), (zGT_in zch1 11 rfl rfl), by decide +kernel, by decide +kernel, by decide +kernel, by decide⟩
set_option maxRecDepth 20000 in
theorem yv_X4_spawn : zYv yX4_spawn := ⟨(zGT_in zch6 99 rfl rfl), (zGT_in zch0 64 rfl rfl)⟩
set_option maxRecDepth 20000 in
theorem lk_RX4_147 : Cond.methodLink RX4 147 yX4_spawn ∈ zGT := (zGT_in zch6 97 rfl rfl)
set_option maxRecDepth 20000 in
theorem yy_X4_become : zY yX4_become cX4_become 4 (some .boolean) 2 := ⟨(zGT_in zch6 125 rfl rfl), (zGT_in zch1 11 rfl rfl), by decide +kernel, by decide +kernel, by decide +kernel, by decide⟩
set_option maxRecDepth 20000 in
theorem yv_X4_become : zYv yX4_become := ⟨(zGT_in zch6 124 rfl rfl), (zGT_in zch0 69 rfl rfl)⟩
set_option maxRecDepth 20000 in
theorem lk_RX4_150 : Cond.methodLink RX4 150 yX4_become ∈ zGT := (zGT_in zch6 122 rfl rfl)
set_option maxRecDepth 20000 in
theorem yy_X4_branch : zY yX4_branch cX4_branch 4 (some .boolean) 2 := ⟨(zGT_in zch6 130 rfl rfl), (zGT_in zch1 11 rfl rfl), by decide +kernel, by decide +kernel, by decide +kernel, by decide⟩
set_option maxRecDepth 20000 in
theorem yv_X4_branch : zYv yX4_branch := ⟨(zGT_in zch6 129 rfl rfl), (zGT_in zch0 70 rfl rfl)⟩
set_option maxRecDepth 20000 in
theorem lk_RX4_153 : Cond.methodLink RX4 153 yX4_branch ∈ zGT := (zGT_in zch6 127 rfl rfl)
set_option maxRecDepth 20000 in
theorem yy_X4_assign : zY yX4_assign cX4_assign 3 (some .boolean) 2 := ⟨(zGT_in zch6 142 rfl rfl), (zGT_in zch1 11 rfl rfl), by decide +kernel, by decide +kernel, by decide +kernel, by decide⟩
set_option maxRecDepth 20000 in
theorem yv_X4_assign : zYv yX4_assign := ⟨(zGT_in zch6 141 rfl rfl), (zGT_in zch0 73 rfl rfl)⟩
set_option maxRecDepth 20000 in
theorem lk_RX4_162 : Cond.methodLink RX4 162 yX4_assign ∈ zGT := (zGT_in zch6 139 rfl rfl)
set_option maxRecDepth 20000 in
theorem yy_X4_show : zY yX4_show cX4_show 3 (some .boolean) 2 := ⟨(zGT_in zch6 134 rfl rfl), (zGT_in zch1 11 rfl rfl), by decide +kernel, by decide +kernel, by decide +kernel, by decide⟩
set_option maxRecDepth 20000 in
theorem yv_X4_show : zYv yX4_show := ⟨(zGT_in zch6 133 rfl rfl), (zGT_in zch0 71 rfl rfl)⟩
set_option maxRecDepth 20000 in
theorem lk_RX4_156 : Cond.methodLink RX4 156 yX4_show ∈ zGT := (zGT_in zch6 131 rfl rfl)
set_option maxRecDepth 20000 in
theorem yy_X4_fetch : zY yX4_fetch cX4_fetch 3 (some .boolean) 2 := ⟨(zGT_in zch6 138 rfl rfl), (zGT_in zch1 11 rfl rfl), by decide +kernel, by decide +kernel, by decide +kernel, by decide⟩
set_option maxRecDepth 20000 in
theorem yv_X4_fetch : zYv yX4_fetch := ⟨(zGT_in zch6 137 rfl rfl), (zGT_in zch0 72 rfl rfl)⟩
set_option maxRecDepth 20000 in
theorem lk_RX4_159 : Cond.methodLink RX4 159 yX4_fetch ∈ zGT := (zGT_in zch6 135 rfl rfl)
set_option maxRecDepth 20000 in
theorem yy_X8_nextOf : zY yX8_nextOf cX8_nextOf 2 (some .int) 1 := ⟨(zGT_in zch6 146 rfl rfl), (zGT_in zch1 13 rfl rfl), by decide +kernel, by decide +kernel, by decide +kernel, by decide⟩
set_option maxRecDepth 20000 in
theorem yv_X8_nextOf : zYv yX8_nextOf := ⟨(zGT_in zch6 144 rfl rfl), (zGT_in zch6 145 rfl rfl)⟩
set_option maxRecDepth 20000 in
theorem lk_RX4_130 : Cond.methodLink RX4 130 yX8_nextOf ∈ zGT := (zGT_in zch6 143 rfl rfl)
set_option maxRecDepth 20000 in
theorem fi_RX4_109 : zFi shC RX4 109 7 13 := ⟨4, _, _, rfl, rfl, rfl, by decide, (zGT_in zch3 56 rfl rfl), u_RX4⟩
set_option maxRecDepth 20000 in
theorem fi_RX4_69 : zFi shC RX4 69 7 11 := ⟨4, _, _, rfl, rfl, rfl, by decide, (zGT_in zch3 54 rfl rfl), u_RX4⟩
set_option maxRecDepth 20000 in
theorem yy_X4_act : zY yX4_act cX4_act 3 (some .boolean) 2 := ⟨(zGT_in zch6 22 rfl rfl), (zGT_in zch1 11 rfl rfl), by decide +kernel, by decide +kernel, by decide +kernel, by decide⟩
set_option maxRecDepth 20000 in
theorem yv_X4_act : zYv yX4_act := ⟨(zGT_in zch6 21 rfl rfl), (zGT_in zch0 57 rfl rfl)⟩
set_option maxRecDepth 20000 in
theorem lk_RX4_124 : Cond.methodLink RX4 124 yX4_act ∈ zGT := (zGT_in zch6 19 rfl rfl)
set_option maxRecDepth 20000 in
theorem fi_RX4_72 : zFi shC RX4 72 7 12 := ⟨4, _, _, rfl, rfl, rfl, by decide, (zGT_in zch3 55 rfl rfl), u_RX4⟩
set_option maxRecDepth 20000 in
theorem fr_RX4_128 : zFr shC RX4 128 60 2 130 := ⟨8, _, _, rfl, rfl, rfl, by decide, (zGT_in zch2 222 rfl rfl), u_RX8⟩
set_option maxRecDepth 20000 in
theorem yy_X8_leave : zY yX8_leave cX8_leave 4 none 1 := ⟨(zGT_in zch6 18 rfl rfl), (zGT_in zch1 13 rfl rfl), by decide +kernel, by decide +kernel, by decide +kernel, by decide⟩
set_option maxRecDepth 20000 in
theorem yv_X8_leave : zYv yX8_leave := ⟨(zGT_in zch6 16 rfl rfl), (zGT_in zch6 17 rfl rfl)⟩
set_option maxRecDepth 20000 in
theorem lk_RX4_118 : Cond.methodLink RX4 118 yX8_leave ∈ zGT := (zGT_in zch6 15 rfl rfl)
set_option maxRecDepth 20000 in
theorem fi_RX4_121 : zFi shC RX4 121 60 16 := ⟨8, _, _, rfl, rfl, rfl, by decide, (zGT_in zch3 0 rfl rfl), u_RX8⟩
set_option maxRecDepth 20000 in
theorem fi_RX11_108 : zFi shC RX11 108 7 16 := ⟨4, _, _, rfl, rfl, rfl, by decide, (zGT_in zch3 60 rfl rfl), u_RX4⟩
set_option maxRecDepth 20000 in
theorem yy_X4_visit : zY yX4_visit cX4_visit 3 none 0 := ⟨(zGT_in zch6 14 rfl rfl), (zGT_in zch1 11 rfl rfl), by decide +kernel, by decide +kernel, by decide +kernel, by decide⟩
set_option maxRecDepth 20000 in
theorem yv_X4_visit : zYv yX4_visit := ⟨(zGT_in zch6 12 rfl rfl), (zGT_in zch6 13 rfl rfl)⟩
set_option maxRecDepth 20000 in
theorem lk_RX11_111 : Cond.methodLink RX11 111 yX4_visit ∈ zGT := (zGT_in zch6 11 rfl rfl)
set_option maxRecDepth 20000 in
theorem yy_X4_outputAt : zY yX4_outputAt cX4_outputAt 2 (some .int) 1 := ⟨(zGT_in zch6 154 rfl rfl), (zGT_in zch1 11 rfl rfl), by decide +kernel, by decide +kernel, by decide +kernel, by decide⟩
set_option maxRecDepth 20000 in
theorem yv_X4_outputAt : zYv yX4_outputAt := ⟨(zGT_in zch6 152 rfl rfl), (zGT_in zch6 153 rfl rfl)⟩
set_option maxRecDepth 20000 in
theorem lk_RX11_114 : Cond.methodLink RX11 114 yX4_outputAt ∈ zGT := (zGT_in zch6 151 rfl rfl)
set_option maxRecDepth 20000 in
theorem fi_RX4_285 : zFi shC RX4 285 60 17 := ⟨8, _, _, rfl, rfl, rfl, by decide, (zGT_in zch3 2 rfl rfl), u_RX8⟩
set_option maxRecDepth 20000 in
theorem fi_RX4_288 : zFi shC RX4 288 59 8 := ⟨0, _, _, rfl, rfl, rfl, by decide, (zGT_in zch2 185 rfl rfl), u_RX0⟩
set_option maxRecDepth 20000 in
theorem fi_RX4_289 : zFi shC RX4 289 59 9 := ⟨0, _, _, rfl, rfl, rfl, by decide, (zGT_in zch2 187 rfl rfl), u_RX0⟩
set_option maxRecDepth 20000 in
theorem yy_X4_tally : zY yX4_tally cX4_tally 2 (some .int) 1 := ⟨(zGT_in zch6 162 rfl rfl), (zGT_in zch1 11 rfl rfl), by decide +kernel, by decide +kernel, by decide +kernel, by decide⟩
set_option maxRecDepth 20000 in
theorem yv_X4_tally : zYv yX4_tally := ⟨(zGT_in zch6 160 rfl rfl), (zGT_in zch6 161 rfl rfl)⟩
set_option maxRecDepth 20000 in
theorem lk_RX11_117 : Cond.methodLink RX11 117 yX4_tally ∈ zGT := (zGT_in zch6 159 rfl rfl)
set_option maxRecDepth 20000 in
theorem lk_RX8_94 : Cond.methodLink RX8 94 yX8_channel ∈ zGT := (zGT_in zch6 179 rfl rfl)
set_option maxRecDepth 20000 in
theorem yy_X8_pick : zY yX8_pick cX8_pick 4 (some .int) 1 := ⟨(zGT_in zch6 174 rfl rfl), (zGT_in zch1 13 rfl rfl), by decide +kernel, by decide +kernel, by decide +kernel, by decide⟩
set_option maxRecDepth 20000 in
theorem yv_X8_pick : zYv yX8_pick := ⟨(zGT_in zch6 172 rfl rfl), (zGT_in zch6 173 rfl rfl)⟩
set_option maxRecDepth 20000 in
theorem lk_RX4_292 : Cond.methodLink RX4 292 yX8_pick ∈ zGT := (zGT_in zch6 171 rfl rfl)
set_option maxRecDepth 20000 in
theorem yy_X8_channels : zY yX8_channels cX8_channels 4 (some .int) 1 := ⟨(zGT_in zch6 178 rfl rfl), (zGT_in zch1 13 rfl rfl), by decide +kernel, by decide +kernel, by decide +kernel, by decide⟩
set_option maxRecDepth 20000 in
theorem yv_X8_channels : zYv yX8_channels := ⟨(zGT_in zch6 176 rfl rfl), (zGT_in zch6 177 rfl rfl)⟩
set_option maxRecDepth 20000 in
theorem lk_RX4_295 : Cond.methodLink RX4 295 yX8_channels ∈ zGT := (zGT_in zch6 175 rfl rfl)
set_option maxRecDepth 20000 in
theorem fr_RX4_297 : zFr shC RX4 297 60 4 134 := ⟨8, _, _, rfl, rfl, rfl, by decide, (zGT_in zch2 226 rfl rfl), u_RX8⟩
set_option maxRecDepth 20000 in
theorem yy_X4_tell : zY yX4_tell cX4_tell 5 (some .int) 3 := ⟨(zGT_in zch6 170 rfl rfl), (zGT_in zch1 11 rfl rfl), by decide +kernel, by decide +kernel, by decide +kernel, by decide⟩
set_option maxRecDepth 20000 in
theorem yv_X4_tell : zYv yX4_tell := ⟨(zGT_in zch6 168 rfl rfl), (zGT_in zch6 169 rfl rfl)⟩
set_option maxRecDepth 20000 in
theorem lk_RX11_120 : Cond.methodLink RX11 120 yX4_tell ∈ zGT := (zGT_in zch6 167 rfl rfl)
set_option maxRecDepth 20000 in
theorem fr_RX11_62 : zFr shC RX11 62 0 1 3 := ⟨11, _, _, rfl, rfl, rfl, by decide, (zGT_in zch3 97 rfl rfl), u_RX11⟩
set_option maxRecDepth 20000 in
theorem fr_RX11_125 : zFr shC RX11 125 3 9 26 := ⟨2, _, _, rfl, rfl, rfl, by decide, (zGT_in zch1 61 rfl rfl), u_RX2⟩
set_option maxRecDepth 20000 in
theorem lk_RX11_128 : Cond.methodLink RX11 128 yX5_get ∈ zGT := (zGT_in zch6 184 rfl rfl)
set_option maxRecDepth 20000 in
theorem lk_RX11_131 : Cond.methodLink RX11 131 yX2_equal ∈ zGT := (zGT_in zch6 185 rfl rfl)
set_option maxRecDepth 20000 in
theorem fi_RX11_124 : zFi shC RX11 124 3 15 := ⟨2, _, _, rfl, rfl, rfl, by decide, (zGT_in zch1 68 rfl rfl), u_RX2⟩
set_option maxRecDepth 20000 in
theorem kc_RX12_205 : Cond.constantLong RX12 205 48 ∈ zGT := (zGT_in zch8 70 rfl rfl)
set_option maxRecDepth 20000 in
theorem kc_RX12_207 : Cond.constantLong RX12 207 57 ∈ zGT := (zGT_in zch8 71 rfl rfl)
set_option maxRecDepth 20000 in
theorem yy_X12_isIn : zY yX12_isIn cX12_isIn 6 (some .boolean) 3 := ⟨(zGT_in zch8 64 rfl rfl), (zGT_in zch1 14 rfl rfl), by decide +kernel, by decide +kernel, by decide +kernel, by decide⟩
set_option maxRecDepth 20000 in
theorem yv_X12_isIn : Cond.static yX12_isIn ∈ zGT := (zGT_in zch8 63 rfl rfl)
set_option maxRecDepth 20000 in
theorem lk_RX12_209 : Cond.methodLink RX12 209 yX12_isIn ∈ zGT := (zGT_in zch8 62 rfl rfl)
set_option maxRecDepth 20000 in
theorem kc_RX12_213 : Cond.constantLong RX12 213 97 ∈ zGT := (zGT_in zch8 60 rfl rfl)
set_option maxRecDepth 20000 in
theorem kc_RX12_215 : Cond.constantLong RX12 215 122 ∈ zGT := (zGT_in zch8 61 rfl rfl)
set_option maxRecDepth 20000 in
theorem kc_RX12_217 : Cond.constantLong RX12 217 65 ∈ zGT := (zGT_in zch8 65 rfl rfl)
set_option maxRecDepth 20000 in
theorem kc_RX12_219 : Cond.constantLong RX12 219 90 ∈ zGT := (zGT_in zch8 66 rfl rfl)
set_option maxRecDepth 20000 in
theorem fi_RX12_221 : zFi shM RX12 221 0 3 := ⟨12, _, _, rfl, rfl, rfl, by decide, (zGT_in zch6 196 rfl rfl), u_RX12⟩
set_option maxRecDepth 20000 in
theorem fr_RX12_13 : zFr shM RX12 13 0 2 2 := ⟨12, _, _, rfl, rfl, rfl, by decide, (zGT_in zch6 195 rfl rfl), u_RX12⟩
set_option maxRecDepth 20000 in
theorem fi_RX12_224 : zFi shM RX12 224 0 7 := ⟨12, _, _, rfl, rfl, rfl, by decide, (zGT_in zch6 200 rfl rfl), u_RX12⟩
set_option maxRecDepth 20000 in
theorem fi_RX12_227 : zFi shM RX12 227 0 6 := ⟨12, _, _, rfl, rfl, rfl, by decide, (zGT_in zch6 199 rfl rfl), u_RX12⟩
set_option maxRecDepth 20000 in
theorem yy_X12_isText : zY yX12_isText cX12_isText 9 (some .boolean) 6 := ⟨(zGT_in zch8 79 rfl rfl), (zGT_in zch1 14 rfl rfl), by decide +kernel, by decide +kernel, by decide +kernel, by decide⟩
set_option maxRecDepth 20000 in
theorem yv_X12_isText : zYv yX12_isText := ⟨(zGT_in zch8 78 rfl rfl), (zGT_in zch0 77 rfl rfl)⟩
set_option maxRecDepth 20000 in
theorem lk_RX12_230 : Cond.methodLink RX12 230 yX12_isText ∈ zGT := (zGT_in zch8 76 rfl rfl)
set_option maxRecDepth 20000 in
theorem ob_M_0 : zObj shM 0 RX12 := ⟨12, _, _, rfl, rfl, rfl⟩
set_option maxRecDepth 20000 in
theorem fr_RX12_16 : zFr shM RX12 16 0 12 3 := ⟨12, _, _, rfl, rfl, rfl, by decide, (zGT_in zch6 205 rfl rfl), u_RX12⟩
set_option maxRecDepth 20000 in
theorem fi_RX12_234 : zFi shM RX12 234 0 11 := ⟨12, _, _, rfl, rfl, rfl, by decide, (zGT_in zch6 204 rfl rfl), u_RX12⟩
set_option maxRecDepth 20000 in
theorem fr_RX12_19 : zFr shM RX12 19 0 13 4 := ⟨12, _, _, rfl, rfl, rfl, by decide, (zGT_in zch6 206 rfl rfl), u_RX12⟩
set_option maxRecDepth 20000 in
theorem fw_RX12_234 : zFw shM RX12 234 0 11 .int := ⟨12, _, _, tyX12, rfl, rfl, rfl, by decide, (zGT_in zch6 204 rfl rfl), u_RX12, tyX12_ok, nmX12, rfl, by decide +kernel⟩
set_option maxRecDepth 20000 in
theorem fi_RX12_237 : zFi shM RX12 237 0 4 := ⟨12, _, _, rfl, rfl, rfl, by decide, (zGT_in zch6 197 rfl rfl), u_RX12⟩
set_option maxRecDepth 20000 in
theorem fw_RX12_237 : zFw shM RX12 237 0 4 .int := ⟨12, _, _, tyX12, rfl, rfl, rfl, by decide, (zGT_in zch6 197 rfl rfl), u_RX12, tyX12_ok, nmX12, rfl, by decide +kernel⟩
set_option maxRecDepth 20000 in
theorem fw_RX12_224 : zFw shM RX12 224 0 7 .int := ⟨12, _, _, tyX12, rfl, rfl, rfl, by decide, (zGT_in zch6 200 rfl rfl), u_RX12, tyX12_ok, nmX12, rfl, by decide +kernel⟩
set_option maxRecDepth 20000 in
theorem fw_RX12_247 : zFw shM RX12 247 0 5 .int := ⟨12, _, _, tyX12, rfl, rfl, rfl, by decide, (zGT_in zch6 198 rfl rfl), u_RX12, tyX12_ok, nmX12, rfl, by decide +kernel⟩
set_option maxRecDepth 20000 in
theorem fi_RX12_247 : zFi shM RX12 247 0 5 := ⟨12, _, _, rfl, rfl, rfl, by decide, (zGT_in zch6 198 rfl rfl), u_RX12⟩
set_option maxRecDepth 20000 in
theorem yy_X12_nameOf : zY yX12_nameOf cX12_nameOf 4 (some .int) 0 := ⟨(zGT_in zch8 83 rfl rfl), (zGT_in zch1 14 rfl rfl), by decide +kernel, by decide +kernel, by decide +kernel, by decide⟩
set_option maxRecDepth 20000 in
theorem yv_X12_nameOf : zYv yX12_nameOf := ⟨(zGT_in zch8 82 rfl rfl), (zGT_in zch0 78 rfl rfl)⟩
set_option maxRecDepth 20000 in
theorem lk_RX12_261 : Cond.methodLink RX12 261 yX12_nameOf ∈ zGT := (zGT_in zch8 80 rfl rfl)
set_option maxRecDepth 20000 in
theorem fw_RX12_240 : zFw shM RX12 240 0 8 .int := ⟨12, _, _, tyX12, rfl, rfl, rfl, by decide, (zGT_in zch6 201 rfl rfl), u_RX12, tyX12_ok, nmX12, rfl, by decide +kernel⟩
set_option maxRecDepth 20000 in
theorem yy_X12_keyOf : zY yX12_keyOf cX12_keyOf 1 (some .int) 0 := ⟨(zGT_in zch8 75 rfl rfl), (zGT_in zch1 14 rfl rfl), by decide +kernel, by decide +kernel, by decide +kernel, by decide⟩
set_option maxRecDepth 20000 in
theorem yv_X12_keyOf : zYv yX12_keyOf := ⟨(zGT_in zch8 74 rfl rfl), (zGT_in zch0 76 rfl rfl)⟩
set_option maxRecDepth 20000 in
theorem lk_RX12_257 : Cond.methodLink RX12 257 yX12_keyOf ∈ zGT := (zGT_in zch8 72 rfl rfl)
set_option maxRecDepth 20000 in
theorem fi_RX12_240 : zFi shM RX12 240 0 8 := ⟨12, _, _, rfl, rfl, rfl, by decide, (zGT_in zch6 201 rfl rfl), u_RX12⟩
set_option maxRecDepth 20000 in
theorem yy_X12_isLetter : zY yX12_isLetter cX12_isLetter 1 (some .boolean) 1 := ⟨(zGT_in zch8 59 rfl rfl), (zGT_in zch1 14 rfl rfl), by decide +kernel, by decide +kernel, by decide +kernel, by decide⟩
set_option maxRecDepth 20000 in
theorem yv_X12_isLetter : Cond.static yX12_isLetter ∈ zGT := (zGT_in zch8 58 rfl rfl)
set_option maxRecDepth 20000 in
theorem lk_RX12_250 : Cond.methodLink RX12 250 yX12_isLetter ∈ zGT := (zGT_in zch8 57 rfl rfl)
set_option maxRecDepth 20000 in
theorem yy_X12_isDigit : zY yX12_isDigit cX12_isDigit 1 (some .boolean) 1 := ⟨(zGT_in zch8 69 rfl rfl), (zGT_in zch1 14 rfl rfl), by decide +kernel, by decide +kernel, by decide +kernel, by decide⟩
set_option maxRecDepth 20000 in
theorem yv_X12_isDigit : Cond.static yX12_isDigit ∈ zGT := (zGT_in zch8 68 rfl rfl)
set_option maxRecDepth 20000 in
theorem lk_RX12_254 : Cond.methodLink RX12 254 yX12_isDigit ∈ zGT := (zGT_in zch8 67 rfl rfl)
set_option maxRecDepth 20000 in
theorem yy_X12_isSignByte : zY yX12_isSignByte cX12_isSignByte 1 (some .boolean) 1 := ⟨(zGT_in zch8 86 rfl rfl), (zGT_in zch1 14 rfl rfl), by decide +kernel, by decide +kernel, by decide +kernel, by decide⟩
set_option maxRecDepth 20000 in
theorem yv_X12_isSignByte : Cond.static yX12_isSignByte ∈ zGT := (zGT_in zch8 85 rfl rfl)
set_option maxRecDepth 20000 in
theorem lk_RX12_264 : Cond.methodLink RX12 264 yX12_isSignByte ∈ zGT := (zGT_in zch8 84 rfl rfl)
set_option maxRecDepth 20000 in
theorem fw_RX12_227 : zFw shM RX12 227 0 6 .int := ⟨12, _, _, tyX12, rfl, rfl, rfl, by decide, (zGT_in zch6 199 rfl rfl), u_RX12, tyX12_ok, nmX12, rfl, by decide +kernel⟩
set_option maxRecDepth 20000 in
theorem yy_X12_byteAt : zY yX12_byteAt cX12_byteAt 2 (some .int) 1 := ⟨(zGT_in zch8 56 rfl rfl), (zGT_in zch1 14 rfl rfl), by decide +kernel, by decide +kernel, by decide +kernel, by decide⟩
set_option maxRecDepth 20000 in
theorem yv_X12_byteAt : zYv yX12_byteAt := ⟨(zGT_in zch8 55 rfl rfl), (zGT_in zch0 75 rfl rfl)⟩
set_option maxRecDepth 20000 in
theorem lk_RX12_243 : Cond.methodLink RX12 243 yX12_byteAt ∈ zGT := (zGT_in zch8 53 rfl rfl)
set_option maxRecDepth 20000 in
theorem fi_RX12_267 : zFi shM RX12 267 0 9 := ⟨12, _, _, rfl, rfl, rfl, by decide, (zGT_in zch6 202 rfl rfl), u_RX12⟩
set_option maxRecDepth 20000 in
theorem fw_RX12_267 : zFw shM RX12 267 0 9 .int := ⟨12, _, _, tyX12, rfl, rfl, rfl, by decide, (zGT_in zch6 202 rfl rfl), u_RX12, tyX12_ok, nmX12, rfl, by decide +kernel⟩
set_option maxRecDepth 20000 in
theorem yy_X12_fails : zY yX12_fails cX12_fails 2 (some .int) 1 := ⟨(zGT_in zch8 102 rfl rfl), (zGT_in zch1 14 rfl rfl), by decide +kernel, by decide +kernel, by decide +kernel, by decide⟩
set_option maxRecDepth 20000 in
theorem yv_X12_fails : zYv yX12_fails := ⟨(zGT_in zch8 101 rfl rfl), (zGT_in zch0 82 rfl rfl)⟩
set_option maxRecDepth 20000 in
theorem lk_RX12_270 : Cond.methodLink RX12 270 yX12_fails ∈ zGT := (zGT_in zch8 99 rfl rfl)
set_option maxRecDepth 20000 in
theorem yy_X12_next : zY yX12_next cX12_next 3 none 0 := ⟨(zGT_in zch8 52 rfl rfl), (zGT_in zch1 14 rfl rfl), by decide +kernel, by decide +kernel, by decide +kernel, by decide⟩
set_option maxRecDepth 20000 in
theorem yv_X12_next : zYv yX12_next := ⟨(zGT_in zch8 51 rfl rfl), (zGT_in zch0 74 rfl rfl)⟩
set_option maxRecDepth 20000 in
theorem lk_RX12_273 : Cond.methodLink RX12 273 yX12_next ∈ zGT := (zGT_in zch8 49 rfl rfl)
set_option maxRecDepth 20000 in
theorem fi_RX12_276 : zFi shM RX12 276 0 10 := ⟨12, _, _, rfl, rfl, rfl, by decide, (zGT_in zch6 203 rfl rfl), u_RX12⟩
set_option maxRecDepth 20000 in
theorem fw_RX12_276 : zFw shM RX12 276 0 10 .int := ⟨12, _, _, tyX12, rfl, rfl, rfl, by decide, (zGT_in zch6 203 rfl rfl), u_RX12, tyX12_ok, nmX12, rfl, by decide +kernel⟩
set_option maxRecDepth 20000 in
theorem yy_X12_isSign : zY yX12_isSign cX12_isSign 2 (some .boolean) 1 := ⟨(zGT_in zch8 106 rfl rfl), (zGT_in zch1 14 rfl rfl), by decide +kernel, by decide +kernel, by decide +kernel, by decide⟩
set_option maxRecDepth 20000 in
theorem yv_X12_isSign : zYv yX12_isSign := ⟨(zGT_in zch8 105 rfl rfl), (zGT_in zch0 83 rfl rfl)⟩
set_option maxRecDepth 20000 in
theorem lk_RX12_279 : Cond.methodLink RX12 279 yX12_isSign ∈ zGT := (zGT_in zch8 103 rfl rfl)
set_option maxRecDepth 20000 in
theorem yy_X12_passes : zY yX12_passes cX12_passes 3 (some .boolean) 1 := ⟨(zGT_in zch8 110 rfl rfl), (zGT_in zch1 14 rfl rfl), by decide +kernel, by decide +kernel, by decide +kernel, by decide⟩
set_option maxRecDepth 20000 in
theorem yv_X12_passes : zYv yX12_passes := ⟨(zGT_in zch8 109 rfl rfl), (zGT_in zch0 84 rfl rfl)⟩
set_option maxRecDepth 20000 in
theorem lk_RX12_282 : Cond.methodLink RX12 282 yX12_passes ∈ zGT := (zGT_in zch8 107 rfl rfl)
set_option maxRecDepth 20000 in
theorem fr_RX12_22 : zFr shM RX12 22 0 15 5 := ⟨12, _, _, rfl, rfl, rfl, by decide, (zGT_in zch6 208 rfl rfl), u_RX12⟩
set_option maxRecDepth 20000 in
theorem fi_RX12_286 : zFi shM RX12 286 0 14 := ⟨12, _, _, rfl, rfl, rfl, by decide, (zGT_in zch6 207 rfl rfl), u_RX12⟩
set_option maxRecDepth 20000 in
theorem fr_RX12_25 : zFr shM RX12 25 0 16 6 := ⟨12, _, _, rfl, rfl, rfl, by decide, (zGT_in zch6 209 rfl rfl), u_RX12⟩
set_option maxRecDepth 20000 in
theorem fr_RX12_28 : zFr shM RX12 28 0 17 7 := ⟨12, _, _, rfl, rfl, rfl, by decide, (zGT_in zch6 210 rfl rfl), u_RX12⟩
set_option maxRecDepth 20000 in
theorem fr_RX12_31 : zFr shM RX12 31 0 18 8 := ⟨12, _, _, rfl, rfl, rfl, by decide, (zGT_in zch6 211 rfl rfl), u_RX12⟩
set_option maxRecDepth 20000 in
theorem fw_RX12_286 : zFw shM RX12 286 0 14 .int := ⟨12, _, _, tyX12, rfl, rfl, rfl, by decide, (zGT_in zch6 207 rfl rfl), u_RX12, tyX12_ok, nmX12, rfl, by decide +kernel⟩
set_option maxRecDepth 20000 in
theorem fr_RX12_112 : zFr shM RX12 112 0 53 35 := ⟨12, _, _, rfl, rfl, rfl, by decide, (zGT_in zch7 6 rfl rfl), u_RX12⟩
set_option maxRecDepth 20000 in
theorem fi_RX12_289 : zFi shM RX12 289 0 52 := ⟨12, _, _, rfl, rfl, rfl, by decide, (zGT_in zch7 5 rfl rfl), u_RX12⟩
set_option maxRecDepth 20000 in
theorem fr_RX12_115 : zFr shM RX12 115 0 54 36 := ⟨12, _, _, rfl, rfl, rfl, by decide, (zGT_in zch7 7 rfl rfl), u_RX12⟩
set_option maxRecDepth 20000 in
theorem fr_RX12_118 : zFr shM RX12 118 0 55 37 := ⟨12, _, _, rfl, rfl, rfl, by decide, (zGT_in zch7 8 rfl rfl), u_RX12⟩
set_option maxRecDepth 20000 in
theorem fr_RX12_122 : zFr shM RX12 122 0 56 38 := ⟨12, _, _, rfl, rfl, rfl, by decide, (zGT_in zch7 9 rfl rfl), u_RX12⟩
set_option maxRecDepth 20000 in
theorem fw_RX12_289 : zFw shM RX12 289 0 52 .int := ⟨12, _, _, tyX12, rfl, rfl, rfl, by decide, (zGT_in zch7 5 rfl rfl), u_RX12, tyX12_ok, nmX12, rfl, by decide +kernel⟩
set_option maxRecDepth 20000 in
theorem yy_X12_node : zY yX12_node cX12_node 4 (some .int) 3 := ⟨(zGT_in zch8 118 rfl rfl), (zGT_in zch1 14 rfl rfl), by decide +kernel, by decide +kernel, by decide +kernel, by decide⟩
set_option maxRecDepth 20000 in
theorem yv_X12_node : zYv yX12_node := ⟨(zGT_in zch8 117 rfl rfl), (zGT_in zch0 86 rfl rfl)⟩
set_option maxRecDepth 20000 in
theorem lk_RX12_295 : Cond.methodLink RX12 295 yX12_node ∈ zGT := (zGT_in zch8 115 rfl rfl)
set_option maxRecDepth 20000 in
theorem yy_X12_opens : zY yX12_opens cX12_opens 3 (some .boolean) 1 := ⟨(zGT_in zch8 122 rfl rfl), (zGT_in zch1 14 rfl rfl), by decide +kernel, by decide +kernel, by decide +kernel, by decide⟩
set_option maxRecDepth 20000 in
theorem yv_X12_opens : zYv yX12_opens := ⟨(zGT_in zch8 121 rfl rfl), (zGT_in zch0 87 rfl rfl)⟩
set_option maxRecDepth 20000 in
theorem lk_RX12_299 : Cond.methodLink RX12 299 yX12_opens ∈ zGT := (zGT_in zch8 119 rfl rfl)
set_option maxRecDepth 20000 in
theorem yy_X12_type : zY yX12_type cX12_type 7 (some .int) 0 := ⟨(zGT_in zch8 114 rfl rfl), (zGT_in zch1 14 rfl rfl), by decide +kernel, by decide +kernel, by decide +kernel, by decide⟩
set_option maxRecDepth 20000 in
theorem yv_X12_type : zYv yX12_type := ⟨(zGT_in zch8 113 rfl rfl), (zGT_in zch0 85 rfl rfl)⟩
set_option maxRecDepth 20000 in
theorem lk_RX12_302 : Cond.methodLink RX12 302 yX12_type ∈ zGT := (zGT_in zch8 111 rfl rfl)
set_option maxRecDepth 20000 in
theorem yy_X12_closes : zY yX12_closes cX12_closes 2 none 1 := ⟨(zGT_in zch8 126 rfl rfl), (zGT_in zch1 14 rfl rfl), by decide +kernel, by decide +kernel, by decide +kernel, by decide⟩
set_option maxRecDepth 20000 in
theorem yv_X12_closes : zYv yX12_closes := ⟨(zGT_in zch8 125 rfl rfl), (zGT_in zch0 88 rfl rfl)⟩
set_option maxRecDepth 20000 in
theorem lk_RX12_305 : Cond.methodLink RX12 305 yX12_closes ∈ zGT := (zGT_in zch8 123 rfl rfl)
set_option maxRecDepth 20000 in
theorem yy_X12_ask : zY yX12_ask cX12_ask 3 none 2 := ⟨(zGT_in zch8 130 rfl rfl), (zGT_in zch1 14 rfl rfl), by decide +kernel, by decide +kernel, by decide +kernel, by decide⟩
set_option maxRecDepth 20000 in
theorem yv_X12_ask : zYv yX12_ask := ⟨(zGT_in zch8 129 rfl rfl), (zGT_in zch0 89 rfl rfl)⟩
set_option maxRecDepth 20000 in
theorem lk_RX12_309 : Cond.methodLink RX12 309 yX12_ask ∈ zGT := (zGT_in zch8 127 rfl rfl)
set_option maxRecDepth 20000 in
theorem yy_X12_choices : zY yX12_choices cX12_choices 5 (some .int) 0 := ⟨(zGT_in zch8 134 rfl rfl), (zGT_in zch1 14 rfl rfl), by decide +kernel, by decide +kernel, by decide +kernel, by decide⟩
set_option maxRecDepth 20000 in
theorem yv_X12_choices : zYv yX12_choices := ⟨(zGT_in zch8 133 rfl rfl), (zGT_in zch0 90 rfl rfl)⟩
set_option maxRecDepth 20000 in
theorem lk_RX12_313 : Cond.methodLink RX12 313 yX12_choices ∈ zGT := (zGT_in zch8 131 rfl rfl)
set_option maxRecDepth 20000 in
theorem yy_X12_isKey : zY yX12_isKey cX12_isKey 2 (some .boolean) 1 := ⟨(zGT_in zch8 90 rfl rfl), (zGT_in zch1 14 rfl rfl), by decide +kernel, by decide +kernel, by decide +kernel, by decide⟩
set_option maxRecDepth 20000 in
theorem yv_X12_isKey : zYv yX12_isKey := ⟨(zGT_in zch8 89 rfl rfl), (zGT_in zch0 79 rfl rfl)⟩
set_option maxRecDepth 20000 in
theorem lk_RX12_292 : Cond.methodLink RX12 292 yX12_isKey ∈ zGT := (zGT_in zch8 87 rfl rfl)
set_option maxRecDepth 20000 in
theorem fi_RX12_316 : zFi shM RX12 316 0 59 := ⟨12, _, _, rfl, rfl, rfl, by decide, (zGT_in zch7 12 rfl rfl), u_RX12⟩
set_option maxRecDepth 20000 in
theorem fr_RX12_125 : zFr shM RX12 125 0 58 39 := ⟨12, _, _, rfl, rfl, rfl, by decide, (zGT_in zch7 11 rfl rfl), u_RX12⟩
set_option maxRecDepth 20000 in
theorem fw_RX12_316 : zFw shM RX12 316 0 59 .int := ⟨12, _, _, tyX12, rfl, rfl, rfl, by decide, (zGT_in zch7 12 rfl rfl), u_RX12, tyX12_ok, nmX12, rfl, by decide +kernel⟩
set_option maxRecDepth 20000 in
theorem fr_RX12_34 : zFr shM RX12 34 0 20 9 := ⟨12, _, _, rfl, rfl, rfl, by decide, (zGT_in zch6 213 rfl rfl), u_RX12⟩
set_option maxRecDepth 20000 in
theorem fi_RX12_319 : zFi shM RX12 319 0 19 := ⟨12, _, _, rfl, rfl, rfl, by decide, (zGT_in zch6 212 rfl rfl), u_RX12⟩
set_option maxRecDepth 20000 in
theorem fr_RX12_37 : zFr shM RX12 37 0 21 10 := ⟨12, _, _, rfl, rfl, rfl, by decide, (zGT_in zch6 214 rfl rfl), u_RX12⟩
set_option maxRecDepth 20000 in
theorem fw_RX12_319 : zFw shM RX12 319 0 19 .int := ⟨12, _, _, tyX12, rfl, rfl, rfl, by decide, (zGT_in zch6 212 rfl rfl), u_RX12, tyX12_ok, nmX12, rfl, by decide +kernel⟩
set_option maxRecDepth 20000 in
theorem fr_RX12_100 : zFr shM RX12 100 0 48 31 := ⟨12, _, _, rfl, rfl, rfl, by decide, (zGT_in zch7 1 rfl rfl), u_RX12⟩
set_option maxRecDepth 20000 in
theorem fi_RX12_322 : zFi shM RX12 322 0 60 := ⟨12, _, _, rfl, rfl, rfl, by decide, (zGT_in zch7 13 rfl rfl), u_RX12⟩
set_option maxRecDepth 20000 in
theorem fr_RX12_106 : zFr shM RX12 106 0 50 33 := ⟨12, _, _, rfl, rfl, rfl, by decide, (zGT_in zch7 3 rfl rfl), u_RX12⟩
set_option maxRecDepth 20000 in
theorem yy_X12_ownOf : zY yX12_ownOf cX12_ownOf 3 (some .int) 1 := ⟨(zGT_in zch8 146 rfl rfl), (zGT_in zch1 14 rfl rfl), by decide +kernel, by decide +kernel, by decide +kernel, by decide⟩
set_option maxRecDepth 20000 in
theorem yv_X12_ownOf : zYv yX12_ownOf := ⟨(zGT_in zch8 145 rfl rfl), (zGT_in zch0 93 rfl rfl)⟩
set_option maxRecDepth 20000 in
theorem lk_RX12_325 : Cond.methodLink RX12 325 yX12_ownOf ∈ zGT := (zGT_in zch8 143 rfl rfl)
set_option maxRecDepth 20000 in
theorem fi_RX12_343 : zFi shM RX12 343 0 26 := ⟨12, _, _, rfl, rfl, rfl, by decide, (zGT_in zch6 219 rfl rfl), u_RX12⟩
set_option maxRecDepth 20000 in
theorem fr_RX12_49 : zFr shM RX12 49 0 27 14 := ⟨12, _, _, rfl, rfl, rfl, by decide, (zGT_in zch6 220 rfl rfl), u_RX12⟩
set_option maxRecDepth 20000 in
theorem fr_RX12_52 : zFr shM RX12 52 0 28 15 := ⟨12, _, _, rfl, rfl, rfl, by decide, (zGT_in zch6 221 rfl rfl), u_RX12⟩
set_option maxRecDepth 20000 in
theorem fr_RX12_55 : zFr shM RX12 55 0 29 16 := ⟨12, _, _, rfl, rfl, rfl, by decide, (zGT_in zch6 222 rfl rfl), u_RX12⟩
set_option maxRecDepth 20000 in
theorem fr_RX12_58 : zFr shM RX12 58 0 30 17 := ⟨12, _, _, rfl, rfl, rfl, by decide, (zGT_in zch6 223 rfl rfl), u_RX12⟩
set_option maxRecDepth 20000 in
theorem fr_RX12_61 : zFr shM RX12 61 0 31 18 := ⟨12, _, _, rfl, rfl, rfl, by decide, (zGT_in zch6 224 rfl rfl), u_RX12⟩
set_option maxRecDepth 20000 in
theorem fr_RX12_64 : zFr shM RX12 64 0 32 19 := ⟨12, _, _, rfl, rfl, rfl, by decide, (zGT_in zch6 225 rfl rfl), u_RX12⟩
set_option maxRecDepth 20000 in
theorem fr_RX12_67 : zFr shM RX12 67 0 33 20 := ⟨12, _, _, rfl, rfl, rfl, by decide, (zGT_in zch6 226 rfl rfl), u_RX12⟩
set_option maxRecDepth 20000 in
theorem fw_RX12_343 : zFw shM RX12 343 0 26 .int := ⟨12, _, _, tyX12, rfl, rfl, rfl, by decide, (zGT_in zch6 219 rfl rfl), u_RX12, tyX12_ok, nmX12, rfl, by decide +kernel⟩
set_option maxRecDepth 20000 in
theorem fr_RX12_88 : zFr shM RX12 88 0 43 27 := ⟨12, _, _, rfl, rfl, rfl, by decide, (zGT_in zch6 236 rfl rfl), u_RX12⟩
set_option maxRecDepth 20000 in
theorem fi_RX12_370 : zFi shM RX12 370 0 42 := ⟨12, _, _, rfl, rfl, rfl, by decide, (zGT_in zch6 235 rfl rfl), u_RX12⟩
set_option maxRecDepth 20000 in
theorem fw_RX12_370 : zFw shM RX12 370 0 42 .int := ⟨12, _, _, tyX12, rfl, rfl, rfl, by decide, (zGT_in zch6 235 rfl rfl), u_RX12, tyX12_ok, nmX12, rfl, by decide +kernel⟩
set_option maxRecDepth 20000 in
theorem yy_X12_sum : zY yX12_sum cX12_sum 2 none 0 := ⟨(zGT_in zch8 178 rfl rfl), (zGT_in zch1 14 rfl rfl), by decide +kernel, by decide +kernel, by decide +kernel, by decide⟩
set_option maxRecDepth 20000 in
theorem yv_X12_sum : zYv yX12_sum := ⟨(zGT_in zch8 177 rfl rfl), (zGT_in zch0 101 rfl rfl)⟩
set_option maxRecDepth 20000 in
theorem lk_RX12_379 : Cond.methodLink RX12 379 yX12_sum ∈ zGT := (zGT_in zch8 175 rfl rfl)
set_option maxRecDepth 20000 in
theorem yy_X12_put : zY yX12_put cX12_put 2 none 1 := ⟨(zGT_in zch8 190 rfl rfl), (zGT_in zch1 14 rfl rfl), by decide +kernel, by decide +kernel, by decide +kernel, by decide⟩
set_option maxRecDepth 20000 in
theorem yv_X12_put : zYv yX12_put := ⟨(zGT_in zch8 189 rfl rfl), (zGT_in zch0 104 rfl rfl)⟩
set_option maxRecDepth 20000 in
theorem lk_RX12_376 : Cond.methodLink RX12 376 yX12_put ∈ zGT := (zGT_in zch8 187 rfl rfl)
set_option maxRecDepth 20000 in
theorem yy_X12_product : zY yX12_product cX12_product 2 none 0 := ⟨(zGT_in zch8 182 rfl rfl), (zGT_in zch1 14 rfl rfl), by decide +kernel, by decide +kernel, by decide +kernel, by decide⟩
set_option maxRecDepth 20000 in
theorem yv_X12_product : zYv yX12_product := ⟨(zGT_in zch8 181 rfl rfl), (zGT_in zch0 102 rfl rfl)⟩
set_option maxRecDepth 20000 in
theorem lk_RX12_382 : Cond.methodLink RX12 382 yX12_product ∈ zGT := (zGT_in zch8 179 rfl rfl)
set_option maxRecDepth 20000 in
theorem yy_X12_atom : zY yX12_atom cX12_atom 2 none 0 := ⟨(zGT_in zch8 186 rfl rfl), (zGT_in zch1 14 rfl rfl), by decide +kernel, by decide +kernel, by decide +kernel, by decide⟩
set_option maxRecDepth 20000 in
theorem yv_X12_atom : zYv yX12_atom := ⟨(zGT_in zch8 185 rfl rfl), (zGT_in zch0 103 rfl rfl)⟩
set_option maxRecDepth 20000 in
theorem lk_RX12_385 : Cond.methodLink RX12 385 yX12_atom ∈ zGT := (zGT_in zch8 183 rfl rfl)
set_option maxRecDepth 20000 in
theorem yy_X12_compared : zY yX12_compared cX12_compared 2 none 0 := ⟨(zGT_in zch8 174 rfl rfl), (zGT_in zch1 14 rfl rfl), by decide +kernel, by decide +kernel, by decide +kernel, by decide⟩
set_option maxRecDepth 20000 in
theorem yv_X12_compared : zYv yX12_compared := ⟨(zGT_in zch8 173 rfl rfl), (zGT_in zch0 100 rfl rfl)⟩
set_option maxRecDepth 20000 in
theorem lk_RX12_373 : Cond.methodLink RX12 373 yX12_compared ∈ zGT := (zGT_in zch8 171 rfl rfl)
set_option maxRecDepth 20000 in
theorem fi_RX12_364 : zFi shM RX12 364 0 39 := ⟨12, _, _, rfl, rfl, rfl, by decide, (zGT_in zch6 232 rfl rfl), u_RX12⟩
set_option maxRecDepth 20000 in
theorem fw_RX12_364 : zFw shM RX12 364 0 39 .int := ⟨12, _, _, tyX12, rfl, rfl, rfl, by decide, (zGT_in zch6 232 rfl rfl), u_RX12, tyX12_ok, nmX12, rfl, by decide +kernel⟩
set_option maxRecDepth 20000 in
theorem yy_X12_told : zY yX12_told cX12_told 2 (some .int) 0 := ⟨(zGT_in zch8 170 rfl rfl), (zGT_in zch1 14 rfl rfl), by decide +kernel, by decide +kernel, by decide +kernel, by decide⟩
set_option maxRecDepth 20000 in
theorem yv_X12_told : zYv yX12_told := ⟨(zGT_in zch8 169 rfl rfl), (zGT_in zch0 99 rfl rfl)⟩
set_option maxRecDepth 20000 in
theorem lk_RX12_361 : Cond.methodLink RX12 361 yX12_told ∈ zGT := (zGT_in zch8 167 rfl rfl)
set_option maxRecDepth 20000 in
theorem fr_RX12_82 : zFr shM RX12 82 0 40 25 := ⟨12, _, _, rfl, rfl, rfl, by decide, (zGT_in zch6 233 rfl rfl), u_RX12⟩
set_option maxRecDepth 20000 in
theorem fr_RX12_85 : zFr shM RX12 85 0 41 26 := ⟨12, _, _, rfl, rfl, rfl, by decide, (zGT_in zch6 234 rfl rfl), u_RX12⟩
set_option maxRecDepth 20000 in
theorem yy_X12_called : zY yX12_called cX12_called 8 none 1 := ⟨(zGT_in zch8 166 rfl rfl), (zGT_in zch1 14 rfl rfl), by decide +kernel, by decide +kernel, by decide +kernel, by decide⟩
set_option maxRecDepth 20000 in
theorem yv_X12_called : zYv yX12_called := ⟨(zGT_in zch8 165 rfl rfl), (zGT_in zch0 98 rfl rfl)⟩
set_option maxRecDepth 20000 in
theorem lk_RX12_358 : Cond.methodLink RX12 358 yX12_called ∈ zGT := (zGT_in zch8 163 rfl rfl)
set_option maxRecDepth 20000 in
theorem yy_X12_own : zY yX12_own cX12_own 2 (some .int) 0 := ⟨(zGT_in zch8 142 rfl rfl), (zGT_in zch1 14 rfl rfl), by decide +kernel, by decide +kernel, by decide +kernel, by decide⟩
set_option maxRecDepth 20000 in
theorem yv_X12_own : zYv yX12_own := ⟨(zGT_in zch8 141 rfl rfl), (zGT_in zch0 92 rfl rfl)⟩
set_option maxRecDepth 20000 in
theorem lk_RX12_331 : Cond.methodLink RX12 331 yX12_own ∈ zGT := (zGT_in zch8 139 rfl rfl)
set_option maxRecDepth 20000 in
theorem fw_RX12_340 : zFw shM RX12 340 0 61 .int := ⟨12, _, _, tyX12, rfl, rfl, rfl, by decide, (zGT_in zch7 14 rfl rfl), u_RX12, tyX12_ok, nmX12, rfl, by decide +kernel⟩
set_option maxRecDepth 20000 in
theorem fr_RX12_70 : zFr shM RX12 70 0 34 21 := ⟨12, _, _, rfl, rfl, rfl, by decide, (zGT_in zch6 227 rfl rfl), u_RX12⟩
set_option maxRecDepth 20000 in
theorem yy_X12_statement : zY yX12_statement cX12_statement 2 (some .int) 0 := ⟨(zGT_in zch8 154 rfl rfl), (zGT_in zch1 14 rfl rfl), by decide +kernel, by decide +kernel, by decide +kernel, by decide⟩
set_option maxRecDepth 20000 in
theorem yv_X12_statement : zYv yX12_statement := ⟨(zGT_in zch8 153 rfl rfl), (zGT_in zch0 95 rfl rfl)⟩
set_option maxRecDepth 20000 in
theorem lk_RX12_337 : Cond.methodLink RX12 337 yX12_statement ∈ zGT := (zGT_in zch8 151 rfl rfl)
set_option maxRecDepth 20000 in
theorem fr_RX12_73 : zFr shM RX12 73 0 35 22 := ⟨12, _, _, rfl, rfl, rfl, by decide, (zGT_in zch6 228 rfl rfl), u_RX12⟩
set_option maxRecDepth 20000 in
theorem yy_X12_begun : zY yX12_begun cX12_begun 3 (some .int) 1 := ⟨(zGT_in zch8 158 rfl rfl), (zGT_in zch1 14 rfl rfl), by decide +kernel, by decide +kernel, by decide +kernel, by decide⟩
set_option maxRecDepth 20000 in
theorem yv_X12_begun : zYv yX12_begun := ⟨(zGT_in zch8 157 rfl rfl), (zGT_in zch0 96 rfl rfl)⟩
set_option maxRecDepth 20000 in
theorem lk_RX12_346 : Cond.methodLink RX12 346 yX12_begun ∈ zGT := (zGT_in zch8 155 rfl rfl)
set_option maxRecDepth 20000 in
theorem yy_X12_simple : zY yX12_simple cX12_simple 4 (some .int) 1 := ⟨(zGT_in zch8 162 rfl rfl), (zGT_in zch1 14 rfl rfl), by decide +kernel, by decide +kernel, by decide +kernel, by decide⟩
set_option maxRecDepth 20000 in
theorem yv_X12_simple : zYv yX12_simple := ⟨(zGT_in zch8 161 rfl rfl), (zGT_in zch0 97 rfl rfl)⟩
set_option maxRecDepth 20000 in
theorem lk_RX12_349 : Cond.methodLink RX12 349 yX12_simple ∈ zGT := (zGT_in zch8 159 rfl rfl)
set_option maxRecDepth 20000 in
theorem yy_X12_choose : zY yX12_choose cX12_choose 5 (some .int) 1 := ⟨(zGT_in zch8 194 rfl rfl), (zGT_in zch1 14 rfl rfl), by decide +kernel, by decide +kernel, by decide +kernel, by decide⟩
set_option maxRecDepth 20000 in
theorem yv_X12_choose : zYv yX12_choose := ⟨(zGT_in zch8 193 rfl rfl), (zGT_in zch0 105 rfl rfl)⟩
set_option maxRecDepth 20000 in
theorem lk_RX12_352 : Cond.methodLink RX12 352 yX12_choose ∈ zGT := (zGT_in zch8 191 rfl rfl)
set_option maxRecDepth 20000 in
theorem yy_X12_whether : zY yX12_whether cX12_whether 2 (some .int) 1 := ⟨(zGT_in zch8 198 rfl rfl), (zGT_in zch1 14 rfl rfl), by decide +kernel, by decide +kernel, by decide +kernel, by decide⟩
set_option maxRecDepth 20000 in
theorem yv_X12_whether : zYv yX12_whether := ⟨(zGT_in zch8 197 rfl rfl), (zGT_in zch0 106 rfl rfl)⟩
set_option maxRecDepth 20000 in
theorem lk_RX12_355 : Cond.methodLink RX12 355 yX12_whether ∈ zGT := (zGT_in zch8 195 rfl rfl)
set_option maxRecDepth 20000 in
theorem yy_X12_block : zY yX12_block cX12_block 5 (some .int) 1 := ⟨(zGT_in zch8 150 rfl rfl), (zGT_in zch1 14 rfl rfl), by decide +kernel, by decide +kernel, by decide +kernel, by decide⟩
set_option maxRecDepth 20000 in
theorem yv_X12_block : zYv yX12_block := ⟨(zGT_in zch8 149 rfl rfl), (zGT_in zch0 94 rfl rfl)⟩
set_option maxRecDepth 20000 in
theorem lk_RX12_334 : Cond.methodLink RX12 334 yX12_block ∈ zGT := (zGT_in zch8 147 rfl rfl)
set_option maxRecDepth 20000 in
theorem fr_RX12_76 : zFr shM RX12 76 0 37 23 := ⟨12, _, _, rfl, rfl, rfl, by decide, (zGT_in zch6 230 rfl rfl), u_RX12⟩
set_option maxRecDepth 20000 in
theorem fi_RX12_367 : zFi shM RX12 367 0 36 := ⟨12, _, _, rfl, rfl, rfl, by decide, (zGT_in zch6 229 rfl rfl), u_RX12⟩
set_option maxRecDepth 20000 in
theorem fr_RX12_79 : zFr shM RX12 79 0 38 24 := ⟨12, _, _, rfl, rfl, rfl, by decide, (zGT_in zch6 231 rfl rfl), u_RX12⟩
set_option maxRecDepth 20000 in
theorem fw_RX12_367 : zFw shM RX12 367 0 36 .int := ⟨12, _, _, tyX12, rfl, rfl, rfl, by decide, (zGT_in zch6 229 rfl rfl), u_RX12, tyX12_ok, nmX12, rfl, by decide +kernel⟩
set_option maxRecDepth 20000 in
theorem fr_RX12_103 : zFr shM RX12 103 0 49 32 := ⟨12, _, _, rfl, rfl, rfl, by decide, (zGT_in zch7 2 rfl rfl), u_RX12⟩
set_option maxRecDepth 20000 in
theorem fr_RX12_94 : zFr shM RX12 94 0 46 29 := ⟨12, _, _, rfl, rfl, rfl, by decide, (zGT_in zch6 239 rfl rfl), u_RX12⟩
set_option maxRecDepth 20000 in
theorem fr_RX12_109 : zFr shM RX12 109 0 51 34 := ⟨12, _, _, rfl, rfl, rfl, by decide, (zGT_in zch7 4 rfl rfl), u_RX12⟩
set_option maxRecDepth 20000 in
theorem fi_RX12_328 : zFi shM RX12 328 0 44 := ⟨12, _, _, rfl, rfl, rfl, by decide, (zGT_in zch6 237 rfl rfl), u_RX12⟩
set_option maxRecDepth 20000 in
theorem fw_RX12_322 : zFw shM RX12 322 0 60 .int := ⟨12, _, _, tyX12, rfl, rfl, rfl, by decide, (zGT_in zch7 13 rfl rfl), u_RX12, tyX12_ok, nmX12, rfl, by decide +kernel⟩
set_option maxRecDepth 20000 in
theorem fr_RX12_91 : zFr shM RX12 91 0 45 28 := ⟨12, _, _, rfl, rfl, rfl, by decide, (zGT_in zch6 238 rfl rfl), u_RX12⟩
set_option maxRecDepth 20000 in
theorem fw_RX12_328 : zFw shM RX12 328 0 44 .int := ⟨12, _, _, tyX12, rfl, rfl, rfl, by decide, (zGT_in zch6 237 rfl rfl), u_RX12, tyX12_ok, nmX12, rfl, by decide +kernel⟩
set_option maxRecDepth 20000 in
theorem fi_RX12_388 : zFi shM RX12 388 0 22 := ⟨12, _, _, rfl, rfl, rfl, by decide, (zGT_in zch6 215 rfl rfl), u_RX12⟩
set_option maxRecDepth 20000 in
theorem fr_RX12_40 : zFr shM RX12 40 0 23 11 := ⟨12, _, _, rfl, rfl, rfl, by decide, (zGT_in zch6 216 rfl rfl), u_RX12⟩
set_option maxRecDepth 20000 in
theorem yy_X12_typeOfId : zY yX12_typeOfId cX12_typeOfId 3 (some .int) 1 := ⟨(zGT_in zch8 98 rfl rfl), (zGT_in zch1 14 rfl rfl), by decide +kernel, by decide +kernel, by decide +kernel, by decide⟩
set_option maxRecDepth 20000 in
theorem yv_X12_typeOfId : zYv yX12_typeOfId := ⟨(zGT_in zch8 97 rfl rfl), (zGT_in zch0 81 rfl rfl)⟩
set_option maxRecDepth 20000 in
theorem lk_RX12_391 : Cond.methodLink RX12 391 yX12_typeOfId ∈ zGT := (zGT_in zch8 95 rfl rfl)
set_option maxRecDepth 20000 in
theorem fr_RX12_43 : zFr shM RX12 43 0 24 12 := ⟨12, _, _, rfl, rfl, rfl, by decide, (zGT_in zch6 217 rfl rfl), u_RX12⟩
set_option maxRecDepth 20000 in
theorem fw_RX12_388 : zFw shM RX12 388 0 22 .int := ⟨12, _, _, tyX12, rfl, rfl, rfl, by decide, (zGT_in zch6 215 rfl rfl), u_RX12, tyX12_ok, nmX12, rfl, by decide +kernel⟩
set_option maxRecDepth 20000 in
theorem fr_RX12_46 : zFr shM RX12 46 0 25 13 := ⟨12, _, _, rfl, rfl, rfl, by decide, (zGT_in zch6 218 rfl rfl), u_RX12⟩
set_option maxRecDepth 20000 in
theorem yy_X12_procOfId : zY yX12_procOfId cX12_procOfId 3 (some .int) 1 := ⟨(zGT_in zch8 206 rfl rfl), (zGT_in zch1 14 rfl rfl), by decide +kernel, by decide +kernel, by decide +kernel, by decide⟩
set_option maxRecDepth 20000 in
theorem yv_X12_procOfId : zYv yX12_procOfId := ⟨(zGT_in zch8 205 rfl rfl), (zGT_in zch0 108 rfl rfl)⟩
set_option maxRecDepth 20000 in
theorem lk_RX12_394 : Cond.methodLink RX12 394 yX12_procOfId ∈ zGT := (zGT_in zch8 203 rfl rfl)
set_option maxRecDepth 20000 in
theorem fr_RX12_135 : zFr shM RX12 135 0 66 42 := ⟨12, _, _, rfl, rfl, rfl, by decide, (zGT_in zch7 19 rfl rfl), u_RX12⟩
set_option maxRecDepth 20000 in
theorem yy_X12_isOf : zY yX12_isOf cX12_isOf 3 (some .int) 1 := ⟨(zGT_in zch8 230 rfl rfl), (zGT_in zch1 14 rfl rfl), by decide +kernel, by decide +kernel, by decide +kernel, by decide⟩
set_option maxRecDepth 20000 in
theorem yv_X12_isOf : zYv yX12_isOf := ⟨(zGT_in zch8 229 rfl rfl), (zGT_in zch0 114 rfl rfl)⟩
set_option maxRecDepth 20000 in
theorem lk_RX12_445 : Cond.methodLink RX12 445 yX12_isOf ∈ zGT := (zGT_in zch8 227 rfl rfl)
set_option maxRecDepth 20000 in
theorem yy_X12_channel : zY yX12_channel cX12_channel 3 (some .int) 2 := ⟨(zGT_in zch9 2 rfl rfl), (zGT_in zch1 14 rfl rfl), by decide +kernel, by decide +kernel, by decide +kernel, by decide⟩
set_option maxRecDepth 20000 in
theorem yv_X12_channel : zYv yX12_channel := ⟨(zGT_in zch9 1 rfl rfl), (zGT_in zch0 117 rfl rfl)⟩
set_option maxRecDepth 20000 in
theorem lk_RX12_484 : Cond.methodLink RX12 484 yX12_channel ∈ zGT := (zGT_in zch8 239 rfl rfl)
set_option maxRecDepth 20000 in
theorem yy_X12_plain : zY yX12_plain cX12_plain 4 (some .int) 1 := ⟨(zGT_in zch8 222 rfl rfl), (zGT_in zch1 14 rfl rfl), by decide +kernel, by decide +kernel, by decide +kernel, by decide⟩
set_option maxRecDepth 20000 in
theorem yv_X12_plain : zYv yX12_plain := ⟨(zGT_in zch8 221 rfl rfl), (zGT_in zch0 112 rfl rfl)⟩
set_option maxRecDepth 20000 in
theorem lk_RX12_432 : Cond.methodLink RX12 432 yX12_plain ∈ zGT := (zGT_in zch8 219 rfl rfl)
set_option maxRecDepth 20000 in
theorem fr_RX12_131 : zFr shM RX12 131 0 64 41 := ⟨12, _, _, rfl, rfl, rfl, by decide, (zGT_in zch7 17 rfl rfl), u_RX12⟩
set_option maxRecDepth 20000 in
theorem fi_RX12_435 : zFi shM RX12 435 0 65 := ⟨12, _, _, rfl, rfl, rfl, by decide, (zGT_in zch7 18 rfl rfl), u_RX12⟩
set_option maxRecDepth 20000 in
theorem fw_RX12_435 : zFw shM RX12 435 0 65 .int := ⟨12, _, _, tyX12, rfl, rfl, rfl, by decide, (zGT_in zch7 18 rfl rfl), u_RX12, tyX12_ok, nmX12, rfl, by decide +kernel⟩
set_option maxRecDepth 20000 in
theorem fr_RX12_128 : zFr shM RX12 128 0 63 40 := ⟨12, _, _, rfl, rfl, rfl, by decide, (zGT_in zch7 16 rfl rfl), u_RX12⟩
set_option maxRecDepth 20000 in
theorem yy_X12_byLabel : zY yX12_byLabel cX12_byLabel 5 (some .int) 2 := ⟨(zGT_in zch9 34 rfl rfl), (zGT_in zch1 14 rfl rfl), by decide +kernel, by decide +kernel, by decide +kernel, by decide⟩
set_option maxRecDepth 20000 in
theorem yv_X12_byLabel : zYv yX12_byLabel := ⟨(zGT_in zch9 33 rfl rfl), (zGT_in zch0 125 rfl rfl)⟩
set_option maxRecDepth 20000 in
theorem lk_RX12_448 : Cond.methodLink RX12 448 yX12_byLabel ∈ zGT := (zGT_in zch9 31 rfl rfl)
set_option maxRecDepth 20000 in
theorem yy_X12_pair : zY yX12_pair cX12_pair 3 none 2 := ⟨(zGT_in zch9 26 rfl rfl), (zGT_in zch1 14 rfl rfl), by decide +kernel, by decide +kernel, by decide +kernel, by decide⟩
set_option maxRecDepth 20000 in
theorem yv_X12_pair : zYv yX12_pair := ⟨(zGT_in zch9 25 rfl rfl), (zGT_in zch0 123 rfl rfl)⟩
set_option maxRecDepth 20000 in
theorem lk_RX12_438 : Cond.methodLink RX12 438 yX12_pair ∈ zGT := (zGT_in zch9 23 rfl rfl)
set_option maxRecDepth 20000 in
theorem yy_X12_thenOf : zY yX12_thenOf cX12_thenOf 2 (some .int) 1 := ⟨(zGT_in zch9 14 rfl rfl), (zGT_in zch1 14 rfl rfl), by decide +kernel, by decide +kernel, by decide +kernel, by decide⟩
set_option maxRecDepth 20000 in
theorem yv_X12_thenOf : zYv yX12_thenOf := ⟨(zGT_in zch9 13 rfl rfl), (zGT_in zch0 120 rfl rfl)⟩
set_option maxRecDepth 20000 in
theorem lk_RX12_455 : Cond.methodLink RX12 455 yX12_thenOf ∈ zGT := (zGT_in zch9 11 rfl rfl)
set_option maxRecDepth 20000 in
theorem yy_X12_givenOf : zY yX12_givenOf cX12_givenOf 2 (some .int) 1 := ⟨(zGT_in zch9 18 rfl rfl), (zGT_in zch1 14 rfl rfl), by decide +kernel, by decide +kernel, by decide +kernel, by decide⟩
set_option maxRecDepth 20000 in
theorem yv_X12_givenOf : zYv yX12_givenOf := ⟨(zGT_in zch9 17 rfl rfl), (zGT_in zch0 121 rfl rfl)⟩
set_option maxRecDepth 20000 in
theorem lk_RX12_452 : Cond.methodLink RX12 452 yX12_givenOf ∈ zGT := (zGT_in zch9 15 rfl rfl)
set_option maxRecDepth 20000 in
theorem yy_X12_root : zY yX12_root cX12_root 3 (some .int) 1 := ⟨(zGT_in zch9 30 rfl rfl), (zGT_in zch1 14 rfl rfl), by decide +kernel, by decide +kernel, by decide +kernel, by decide⟩
set_option maxRecDepth 20000 in
theorem yv_X12_root : zYv yX12_root := ⟨(zGT_in zch9 29 rfl rfl), (zGT_in zch0 124 rfl rfl)⟩
set_option maxRecDepth 20000 in
theorem lk_RX12_442 : Cond.methodLink RX12 442 yX12_root ∈ zGT := (zGT_in zch9 27 rfl rfl)
set_option maxRecDepth 20000 in
theorem fi_RX12_423 : zFi shM RX12 423 0 67 := ⟨12, _, _, rfl, rfl, rfl, by decide, (zGT_in zch7 20 rfl rfl), u_RX12⟩
set_option maxRecDepth 20000 in
theorem fw_RX12_423 : zFw shM RX12 423 0 67 .int := ⟨12, _, _, tyX12, rfl, rfl, rfl, by decide, (zGT_in zch7 20 rfl rfl), u_RX12, tyX12_ok, nmX12, rfl, by decide +kernel⟩
set_option maxRecDepth 20000 in
theorem fi_RX12_464 : zFi shM RX12 464 0 70 := ⟨12, _, _, rfl, rfl, rfl, by decide, (zGT_in zch7 23 rfl rfl), u_RX12⟩
set_option maxRecDepth 20000 in
theorem fi_RX12_461 : zFi shM RX12 461 0 68 := ⟨12, _, _, rfl, rfl, rfl, by decide, (zGT_in zch7 21 rfl rfl), u_RX12⟩
set_option maxRecDepth 20000 in
theorem yy_X12_ownMany : zY yX12_ownMany cX12_ownMany 2 (some .int) 1 := ⟨(zGT_in zch8 218 rfl rfl), (zGT_in zch1 14 rfl rfl), by decide +kernel, by decide +kernel, by decide +kernel, by decide⟩
set_option maxRecDepth 20000 in
theorem yv_X12_ownMany : zYv yX12_ownMany := ⟨(zGT_in zch8 217 rfl rfl), (zGT_in zch0 111 rfl rfl)⟩
set_option maxRecDepth 20000 in
theorem lk_RX12_458 : Cond.methodLink RX12 458 yX12_ownMany ∈ zGT := (zGT_in zch8 215 rfl rfl)
set_option maxRecDepth 20000 in
theorem fw_RX12_464 : zFw shM RX12 464 0 70 .int := ⟨12, _, _, tyX12, rfl, rfl, rfl, by decide, (zGT_in zch7 23 rfl rfl), u_RX12, tyX12_ok, nmX12, rfl, by decide +kernel⟩
set_option maxRecDepth 20000 in
theorem fr_RX12_138 : zFr shM RX12 138 0 69 43 := ⟨12, _, _, rfl, rfl, rfl, by decide, (zGT_in zch7 22 rfl rfl), u_RX12⟩
set_option maxRecDepth 20000 in
theorem yy_X12_areEqual : zY yX12_areEqual cX12_areEqual 10 (some .boolean) 2 := ⟨(zGT_in zch9 22 rfl rfl), (zGT_in zch1 14 rfl rfl), by decide +kernel, by decide +kernel, by decide +kernel, by decide⟩
set_option maxRecDepth 20000 in
theorem yv_X12_areEqual : zYv yX12_areEqual := ⟨(zGT_in zch9 21 rfl rfl), (zGT_in zch0 122 rfl rfl)⟩
set_option maxRecDepth 20000 in
theorem lk_RX12_494 : Cond.methodLink RX12 494 yX12_areEqual ∈ zGT := (zGT_in zch9 19 rfl rfl)
set_option maxRecDepth 20000 in
theorem yy_X12_hasAny : zY yX12_hasAny cX12_hasAny 4 (some .boolean) 1 := ⟨(zGT_in zch9 86 rfl rfl), (zGT_in zch1 14 rfl rfl), by decide +kernel, by decide +kernel, by decide +kernel, by decide⟩
set_option maxRecDepth 20000 in
theorem yv_X12_hasAny : zYv yX12_hasAny := ⟨(zGT_in zch9 85 rfl rfl), (zGT_in zch0 138 rfl rfl)⟩
set_option maxRecDepth 20000 in
theorem lk_RX12_475 : Cond.methodLink RX12 475 yX12_hasAny ∈ zGT := (zGT_in zch9 83 rfl rfl)
set_option maxRecDepth 20000 in
theorem yy_X12_setChannel : zY yX12_setChannel cX12_setChannel 4 none 3 := ⟨(zGT_in zch8 226 rfl rfl), (zGT_in zch1 14 rfl rfl), by decide +kernel, by decide +kernel, by decide +kernel, by decide⟩
set_option maxRecDepth 20000 in
theorem yv_X12_setChannel : zYv yX12_setChannel := ⟨(zGT_in zch8 225 rfl rfl), (zGT_in zch0 113 rfl rfl)⟩
set_option maxRecDepth 20000 in
theorem lk_RX12_467 : Cond.methodLink RX12 467 yX12_setChannel ∈ zGT := (zGT_in zch8 223 rfl rfl)
set_option maxRecDepth 20000 in
theorem yy_X12_areNumbers : zY yX12_areNumbers cX12_areNumbers 5 (some .boolean) 2 := ⟨(zGT_in zch9 6 rfl rfl), (zGT_in zch1 14 rfl rfl), by decide +kernel, by decide +kernel, by decide +kernel, by decide⟩
set_option maxRecDepth 20000 in
theorem yv_X12_areNumbers : zYv yX12_areNumbers := ⟨(zGT_in zch9 5 rfl rfl), (zGT_in zch0 118 rfl rfl)⟩
set_option maxRecDepth 20000 in
theorem lk_RX12_487 : Cond.methodLink RX12 487 yX12_areNumbers ∈ zGT := (zGT_in zch9 3 rfl rfl)
set_option maxRecDepth 20000 in
theorem yy_X12_checkOne : zY yX12_checkOne cX12_checkOne 7 (some .boolean) 2 := ⟨(zGT_in zch8 238 rfl rfl), (zGT_in zch1 14 rfl rfl), by decide +kernel, by decide +kernel, by decide +kernel, by decide⟩
set_option maxRecDepth 20000 in
theorem yv_X12_checkOne : zYv yX12_checkOne := ⟨(zGT_in zch8 237 rfl rfl), (zGT_in zch0 116 rfl rfl)⟩
set_option maxRecDepth 20000 in
theorem lk_RX12_481 : Cond.methodLink RX12 481 yX12_checkOne ∈ zGT := (zGT_in zch8 235 rfl rfl)
set_option maxRecDepth 20000 in
theorem yy_X12_isBad : zY yX12_isBad cX12_isBad 2 none 1 := ⟨(zGT_in zch9 42 rfl rfl), (zGT_in zch1 14 rfl rfl), by decide +kernel, by decide +kernel, by decide +kernel, by decide⟩
set_option maxRecDepth 20000 in
theorem yv_X12_isBad : zYv yX12_isBad := ⟨(zGT_in zch9 41 rfl rfl), (zGT_in zch0 127 rfl rfl)⟩
set_option maxRecDepth 20000 in
theorem lk_RX12_478 : Cond.methodLink RX12 478 yX12_isBad ∈ zGT := (zGT_in zch9 39 rfl rfl)
set_option maxRecDepth 20000 in
theorem yy_X12_isOne : zY yX12_isOne cX12_isOne 4 (some .boolean) 3 := ⟨(zGT_in zch9 10 rfl rfl), (zGT_in zch1 14 rfl rfl), by decide +kernel, by decide +kernel, by decide +kernel, by decide⟩
set_option maxRecDepth 20000 in
theorem yv_X12_isOne : zYv yX12_isOne := ⟨(zGT_in zch9 9 rfl rfl), (zGT_in zch0 119 rfl rfl)⟩
set_option maxRecDepth 20000 in
theorem lk_RX12_490 : Cond.methodLink RX12 490 yX12_isOne ∈ zGT := (zGT_in zch9 7 rfl rfl)
set_option maxRecDepth 20000 in
theorem yy_X12_checkCase : zY yX12_checkCase cX12_checkCase 10 (some .boolean) 2 := ⟨(zGT_in zch9 38 rfl rfl), (zGT_in zch1 14 rfl rfl), by decide +kernel, by decide +kernel, by decide +kernel, by decide⟩
set_option maxRecDepth 20000 in
theorem yv_X12_checkCase : zYv yX12_checkCase := ⟨(zGT_in zch9 37 rfl rfl), (zGT_in zch0 126 rfl rfl)⟩
set_option maxRecDepth 20000 in
theorem lk_RX12_497 : Cond.methodLink RX12 497 yX12_checkCase ∈ zGT := (zGT_in zch9 35 rfl rfl)
set_option maxRecDepth 20000 in
theorem yy_X12_checkCall : zY yX12_checkCall cX12_checkCall 10 (some .boolean) 2 := ⟨(zGT_in zch9 82 rfl rfl), (zGT_in zch1 14 rfl rfl), by decide +kernel, by decide +kernel, by decide +kernel, by decide⟩
set_option maxRecDepth 20000 in
theorem yv_X12_checkCall : zYv yX12_checkCall := ⟨(zGT_in zch9 81 rfl rfl), (zGT_in zch0 137 rfl rfl)⟩
set_option maxRecDepth 20000 in
theorem lk_RX12_506 : Cond.methodLink RX12 506 yX12_checkCall ∈ zGT := (zGT_in zch9 79 rfl rfl)
set_option maxRecDepth 20000 in
theorem yy_X12_checkIf : zY yX12_checkIf cX12_checkIf 7 (some .boolean) 2 := ⟨(zGT_in zch9 66 rfl rfl), (zGT_in zch1 14 rfl rfl), by decide +kernel, by decide +kernel, by decide +kernel, by decide⟩
set_option maxRecDepth 20000 in
theorem yv_X12_checkIf : zYv yX12_checkIf := ⟨(zGT_in zch9 65 rfl rfl), (zGT_in zch0 133 rfl rfl)⟩
set_option maxRecDepth 20000 in
theorem lk_RX12_500 : Cond.methodLink RX12 500 yX12_checkIf ∈ zGT := (zGT_in zch9 63 rfl rfl)
set_option maxRecDepth 20000 in
theorem yy_X12_checkWhile : zY yX12_checkWhile cX12_checkWhile 4 none 2 := ⟨(zGT_in zch9 74 rfl rfl), (zGT_in zch1 14 rfl rfl), by decide +kernel, by decide +kernel, by decide +kernel, by decide⟩
set_option maxRecDepth 20000 in
theorem yv_X12_checkWhile : zYv yX12_checkWhile := ⟨(zGT_in zch9 73 rfl rfl), (zGT_in zch0 135 rfl rfl)⟩
set_option maxRecDepth 20000 in
theorem lk_RX12_503 : Cond.methodLink RX12 503 yX12_checkWhile ∈ zGT := (zGT_in zch9 71 rfl rfl)
set_option maxRecDepth 20000 in
theorem yy_X12_backAll : zY yX12_backAll cX12_backAll 4 none 2 := ⟨(zGT_in zch9 62 rfl rfl), (zGT_in zch1 14 rfl rfl), by decide +kernel, by decide +kernel, by decide +kernel, by decide⟩
set_option maxRecDepth 20000 in
theorem yv_X12_backAll : zYv yX12_backAll := ⟨(zGT_in zch9 61 rfl rfl), (zGT_in zch0 132 rfl rfl)⟩
set_option maxRecDepth 20000 in
theorem lk_RX12_524 : Cond.methodLink RX12 524 yX12_backAll ∈ zGT := (zGT_in zch9 59 rfl rfl)
set_option maxRecDepth 20000 in
theorem yy_X12_copyUp : zY yX12_copyUp cX12_copyUp 4 none 2 := ⟨(zGT_in zch9 70 rfl rfl), (zGT_in zch1 14 rfl rfl), by decide +kernel, by decide +kernel, by decide +kernel, by decide⟩
set_option maxRecDepth 20000 in
theorem yv_X12_copyUp : zYv yX12_copyUp := ⟨(zGT_in zch9 69 rfl rfl), (zGT_in zch0 134 rfl rfl)⟩
set_option maxRecDepth 20000 in
theorem lk_RX12_521 : Cond.methodLink RX12 521 yX12_copyUp ∈ zGT := (zGT_in zch9 67 rfl rfl)
set_option maxRecDepth 20000 in
theorem yy_X12_copyDown : zY yX12_copyDown cX12_copyDown 3 none 1 := ⟨(zGT_in zch9 50 rfl rfl), (zGT_in zch1 14 rfl rfl), by decide +kernel, by decide +kernel, by decide +kernel, by decide⟩
set_option maxRecDepth 20000 in
theorem yv_X12_copyDown : zYv yX12_copyDown := ⟨(zGT_in zch9 49 rfl rfl), (zGT_in zch0 129 rfl rfl)⟩
set_option maxRecDepth 20000 in
theorem lk_RX12_509 : Cond.methodLink RX12 509 yX12_copyDown ∈ zGT := (zGT_in zch9 47 rfl rfl)
set_option maxRecDepth 20000 in
theorem yy_X12_checkBlock : zY yX12_checkBlock cX12_checkBlock 5 (some .boolean) 2 := ⟨(zGT_in zch8 234 rfl rfl), (zGT_in zch1 14 rfl rfl), by decide +kernel, by decide +kernel, by decide +kernel, by decide⟩
set_option maxRecDepth 20000 in
theorem yv_X12_checkBlock : zYv yX12_checkBlock := ⟨(zGT_in zch8 233 rfl rfl), (zGT_in zch0 115 rfl rfl)⟩
set_option maxRecDepth 20000 in
theorem lk_RX12_471 : Cond.methodLink RX12 471 yX12_checkBlock ∈ zGT := (zGT_in zch8 231 rfl rfl)
set_option maxRecDepth 20000 in
theorem yy_X12_isKept : zY yX12_isKept cX12_isKept 7 (some .boolean) 2 := ⟨(zGT_in zch9 54 rfl rfl), (zGT_in zch1 14 rfl rfl), by decide +kernel, by decide +kernel, by decide +kernel, by decide⟩
set_option maxRecDepth 20000 in
theorem yv_X12_isKept : zYv yX12_isKept := ⟨(zGT_in zch9 53 rfl rfl), (zGT_in zch0 130 rfl rfl)⟩
set_option maxRecDepth 20000 in
theorem lk_RX12_518 : Cond.methodLink RX12 518 yX12_isKept ∈ zGT := (zGT_in zch9 51 rfl rfl)
set_option maxRecDepth 20000 in
theorem yy_X12_keptFrom : zY yX12_keptFrom cX12_keptFrom 2 (some .int) 0 := ⟨(zGT_in zch9 46 rfl rfl), (zGT_in zch1 14 rfl rfl), by decide +kernel, by decide +kernel, by decide +kernel, by decide⟩
set_option maxRecDepth 20000 in
theorem yv_X12_keptFrom : zYv yX12_keptFrom := ⟨(zGT_in zch9 45 rfl rfl), (zGT_in zch0 128 rfl rfl)⟩
set_option maxRecDepth 20000 in
theorem lk_RX12_512 : Cond.methodLink RX12 512 yX12_keptFrom ∈ zGT := (zGT_in zch9 43 rfl rfl)
set_option maxRecDepth 20000 in
theorem yy_X12_keepAll : zY yX12_keepAll cX12_keepAll 4 none 2 := ⟨(zGT_in zch9 58 rfl rfl), (zGT_in zch1 14 rfl rfl), by decide +kernel, by decide +kernel, by decide +kernel, by decide⟩
set_option maxRecDepth 20000 in
theorem yv_X12_keepAll : zYv yX12_keepAll := ⟨(zGT_in zch9 57 rfl rfl), (zGT_in zch0 131 rfl rfl)⟩
set_option maxRecDepth 20000 in
theorem lk_RX12_515 : Cond.methodLink RX12 515 yX12_keepAll ∈ zGT := (zGT_in zch9 55 rfl rfl)
set_option maxRecDepth 20000 in
theorem yy_X12_areSame : zY yX12_areSame cX12_areSame 7 (some .boolean) 2 := ⟨(zGT_in zch9 78 rfl rfl), (zGT_in zch1 14 rfl rfl), by decide +kernel, by decide +kernel, by decide +kernel, by decide⟩
set_option maxRecDepth 20000 in
theorem yv_X12_areSame : zYv yX12_areSame := ⟨(zGT_in zch9 77 rfl rfl), (zGT_in zch0 136 rfl rfl)⟩
set_option maxRecDepth 20000 in
theorem lk_RX12_527 : Cond.methodLink RX12 527 yX12_areSame ∈ zGT := (zGT_in zch9 75 rfl rfl)
set_option maxRecDepth 20000 in
theorem fr_RX12_97 : zFr shM RX12 97 0 47 30 := ⟨12, _, _, rfl, rfl, rfl, by decide, (zGT_in zch7 0 rfl rfl), u_RX12⟩
set_option maxRecDepth 20000 in
theorem fw_RX12_461 : zFw shM RX12 461 0 68 .int := ⟨12, _, _, tyX12, rfl, rfl, rfl, by decide, (zGT_in zch7 21 rfl rfl), u_RX12, tyX12_ok, nmX12, rfl, by decide +kernel⟩
set_option maxRecDepth 20000 in
theorem yy_X12_setAfter : zY yX12_setAfter cX12_setAfter 3 none 0 := ⟨(zGT_in zch9 90 rfl rfl), (zGT_in zch1 14 rfl rfl), by decide +kernel, by decide +kernel, by decide +kernel, by decide⟩
set_option maxRecDepth 20000 in
theorem yv_X12_setAfter : zYv yX12_setAfter := ⟨(zGT_in zch9 89 rfl rfl), (zGT_in zch0 139 rfl rfl)⟩
set_option maxRecDepth 20000 in
theorem lk_RX12_429 : Cond.methodLink RX12 429 yX12_setAfter ∈ zGT := (zGT_in zch9 87 rfl rfl)
set_option maxRecDepth 20000 in
theorem fw_RX12_400 : zFw shM RX12 400 0 57 .boolean := ⟨12, _, _, tyX12, rfl, rfl, rfl, by decide, (zGT_in zch7 10 rfl rfl), u_RX12, tyX12_ok, nmX12, rfl, by decide +kernel⟩
set_option maxRecDepth 20000 in
theorem yy_X12_check : zY yX12_check cX12_check 5 none 1 := ⟨(zGT_in zch8 214 rfl rfl), (zGT_in zch1 14 rfl rfl), by decide +kernel, by decide +kernel, by decide +kernel, by decide⟩
set_option maxRecDepth 20000 in
theorem yv_X12_check : zYv yX12_check := ⟨(zGT_in zch8 213 rfl rfl), (zGT_in zch0 110 rfl rfl)⟩
set_option maxRecDepth 20000 in
theorem lk_RX12_426 : Cond.methodLink RX12 426 yX12_check ∈ zGT := (zGT_in zch8 211 rfl rfl)
set_option maxRecDepth 20000 in
theorem fw_RX12_420 : zFw shM RX12 420 0 62 .int := ⟨12, _, _, tyX12, rfl, rfl, rfl, by decide, (zGT_in zch7 15 rfl rfl), u_RX12, tyX12_ok, nmX12, rfl, by decide +kernel⟩
set_option maxRecDepth 20000 in
theorem fi_RX12_420 : zFi shM RX12 420 0 62 := ⟨12, _, _, rfl, rfl, rfl, by decide, (zGT_in zch7 15 rfl rfl), u_RX12⟩
set_option maxRecDepth 20000 in
theorem yy_X12_idOf : zY yX12_idOf cX12_idOf 7 (some .int) 4 := ⟨(zGT_in zch8 210 rfl rfl), (zGT_in zch1 14 rfl rfl), by decide +kernel, by decide +kernel, by decide +kernel, by decide⟩
set_option maxRecDepth 20000 in
theorem yv_X12_idOf : zYv yX12_idOf := ⟨(zGT_in zch8 209 rfl rfl), (zGT_in zch0 109 rfl rfl)⟩
set_option maxRecDepth 20000 in
theorem lk_RX12_416 : Cond.methodLink RX12 416 yX12_idOf ∈ zGT := (zGT_in zch8 207 rfl rfl)
set_option maxRecDepth 20000 in
theorem yy_X12_lookUp : zY yX12_lookUp cX12_lookUp 5 none 0 := ⟨(zGT_in zch8 202 rfl rfl), (zGT_in zch1 14 rfl rfl), by decide +kernel, by decide +kernel, by decide +kernel, by decide⟩
set_option maxRecDepth 20000 in
theorem yv_X12_lookUp : zYv yX12_lookUp := ⟨(zGT_in zch8 201 rfl rfl), (zGT_in zch0 107 rfl rfl)⟩
set_option maxRecDepth 20000 in
theorem lk_RX12_413 : Cond.methodLink RX12 413 yX12_lookUp ∈ zGT := (zGT_in zch8 199 rfl rfl)
set_option maxRecDepth 20000 in
theorem yy_X12_proc : zY yX12_proc cX12_proc 6 none 0 := ⟨(zGT_in zch8 138 rfl rfl), (zGT_in zch1 14 rfl rfl), by decide +kernel, by decide +kernel, by decide +kernel, by decide⟩
set_option maxRecDepth 20000 in
theorem yv_X12_proc : zYv yX12_proc := ⟨(zGT_in zch8 137 rfl rfl), (zGT_in zch0 91 rfl rfl)⟩
set_option maxRecDepth 20000 in
theorem lk_RX12_410 : Cond.methodLink RX12 410 yX12_proc ∈ zGT := (zGT_in zch8 135 rfl rfl)
set_option maxRecDepth 20000 in
theorem fi_RX12_340 : zFi shM RX12 340 0 61 := ⟨12, _, _, rfl, rfl, rfl, by decide, (zGT_in zch7 14 rfl rfl), u_RX12⟩
set_option maxRecDepth 20000 in
theorem yy_X12_namedType : zY yX12_namedType cX12_namedType 3 none 0 := ⟨(zGT_in zch8 94 rfl rfl), (zGT_in zch1 14 rfl rfl), by decide +kernel, by decide +kernel, by decide +kernel, by decide⟩
set_option maxRecDepth 20000 in
theorem yv_X12_namedType : zYv yX12_namedType := ⟨(zGT_in zch8 93 rfl rfl), (zGT_in zch0 80 rfl rfl)⟩
set_option maxRecDepth 20000 in
theorem lk_RX12_407 : Cond.methodLink RX12 407 yX12_namedType ∈ zGT := (zGT_in zch8 91 rfl rfl)
set_option maxRecDepth 20000 in
theorem fi_RX12_397 : zFi shM RX12 397 0 1 := ⟨12, _, _, rfl, rfl, rfl, by decide, (zGT_in zch6 194 rfl rfl), u_RX12⟩
set_option maxRecDepth 20000 in
theorem fw_RX12_397 : zFw shM RX12 397 0 1 .int := ⟨12, _, _, tyX12, rfl, rfl, rfl, by decide, (zGT_in zch6 194 rfl rfl), u_RX12, tyX12_ok, nmX12, rfl, by decide +kernel⟩
set_option maxRecDepth 20000 in
theorem fw_RX12_404 : zFw shM RX12 404 0 71 .boolean := ⟨12, _, _, tyX12, rfl, rfl, rfl, by decide, (zGT_in zch7 24 rfl rfl), u_RX12, tyX12_ok, nmX12, rfl, by decide +kernel⟩
set_option maxRecDepth 20000 in
theorem fr_RX12_7 : zFr shM RX12 7 0 0 1 := ⟨12, _, _, rfl, rfl, rfl, by decide, (zGT_in zch6 193 rfl rfl), u_RX12⟩
set_option maxRecDepth 20000 in
theorem fw_RX12_221 : zFw shM RX12 221 0 3 .int := ⟨12, _, _, tyX12, rfl, rfl, rfl, by decide, (zGT_in zch6 196 rfl rfl), u_RX12, tyX12_ok, nmX12, rfl, by decide +kernel⟩
set_option maxRecDepth 20000 in
theorem fi_RX12_141 : zFi shM RX12 141 0 73 := ⟨12, _, _, rfl, rfl, rfl, by decide, (zGT_in zch7 26 rfl rfl), u_RX12⟩
set_option maxRecDepth 20000 in
theorem fr_RX12_160 : zFr shM RX12 160 0 87 46 := ⟨12, _, _, rfl, rfl, rfl, by decide, (zGT_in zch7 40 rfl rfl), u_RX12⟩
set_option maxRecDepth 20000 in
theorem fw_RX12_533 : zFw shM RX12 533 0 94 .int := ⟨12, _, _, tyX12, rfl, rfl, rfl, by decide, (zGT_in zch7 47 rfl rfl), u_RX12, tyX12_ok, nmX12, rfl, by decide +kernel⟩
set_option maxRecDepth 20000 in
theorem fr_RX12_175 : zFr shM RX12 175 0 93 51 := ⟨12, _, _, rfl, rfl, rfl, by decide, (zGT_in zch7 46 rfl rfl), u_RX12⟩
set_option maxRecDepth 20000 in
theorem fr_RX12_178 : zFr shM RX12 178 0 95 52 := ⟨12, _, _, rfl, rfl, rfl, by decide, (zGT_in zch7 48 rfl rfl), u_RX12⟩
set_option maxRecDepth 20000 in
theorem fr_RX12_181 : zFr shM RX12 181 0 96 53 := ⟨12, _, _, rfl, rfl, rfl, by decide, (zGT_in zch7 49 rfl rfl), u_RX12⟩
set_option maxRecDepth 20000 in
theorem fi_RX12_530 : zFi shM RX12 530 0 85 := ⟨12, _, _, rfl, rfl, rfl, by decide, (zGT_in zch7 38 rfl rfl), u_RX12⟩
set_option maxRecDepth 20000 in
theorem fr_RX12_166 : zFr shM RX12 166 0 90 48 := ⟨12, _, _, rfl, rfl, rfl, by decide, (zGT_in zch7 43 rfl rfl), u_RX12⟩
set_option maxRecDepth 20000 in
theorem fi_RX12_533 : zFi shM RX12 533 0 94 := ⟨12, _, _, rfl, rfl, rfl, by decide, (zGT_in zch7 47 rfl rfl), u_RX12⟩
set_option maxRecDepth 20000 in
theorem yy_X12_close : zY yX12_close cX12_close 6 none 0 := ⟨(zGT_in zch9 129 rfl rfl), (zGT_in zch1 14 rfl rfl), by decide +kernel, by decide +kernel, by decide +kernel, by decide⟩
set_option maxRecDepth 20000 in
theorem yv_X12_close : zYv yX12_close := ⟨(zGT_in zch9 128 rfl rfl), (zGT_in zch0 143 rfl rfl)⟩
set_option maxRecDepth 20000 in
theorem lk_RX12_536 : Cond.methodLink RX12 536 yX12_close ∈ zGT := (zGT_in zch9 126 rfl rfl)
set_option maxRecDepth 20000 in
theorem fr_RX12_169 : zFr shM RX12 169 0 91 49 := ⟨12, _, _, rfl, rfl, rfl, by decide, (zGT_in zch7 44 rfl rfl), u_RX12⟩
set_option maxRecDepth 20000 in
theorem fr_RX12_172 : zFr shM RX12 172 0 92 50 := ⟨12, _, _, rfl, rfl, rfl, by decide, (zGT_in zch7 45 rfl rfl), u_RX12⟩
set_option maxRecDepth 20000 in
theorem yy_X12_rooms : zY yX12_rooms cX12_rooms 5 (some .int) 1 := ⟨(zGT_in zch9 125 rfl rfl), (zGT_in zch1 14 rfl rfl), by decide +kernel, by decide +kernel, by decide +kernel, by decide⟩
set_option maxRecDepth 20000 in
theorem yv_X12_rooms : zYv yX12_rooms := ⟨(zGT_in zch9 124 rfl rfl), (zGT_in zch0 142 rfl rfl)⟩
set_option maxRecDepth 20000 in
theorem lk_RX12_545 : Cond.methodLink RX12 545 yX12_rooms ∈ zGT := (zGT_in zch9 122 rfl rfl)
set_option maxRecDepth 20000 in
theorem fw_RX12_530 : zFw shM RX12 530 0 85 .int := ⟨12, _, _, tyX12, rfl, rfl, rfl, by decide, (zGT_in zch7 38 rfl rfl), u_RX12, tyX12_ok, nmX12, rfl, by decide +kernel⟩
set_option maxRecDepth 20000 in
theorem fi_RX12_548 : zFi shM RX12 548 0 79 := ⟨12, _, _, rfl, rfl, rfl, by decide, (zGT_in zch7 32 rfl rfl), u_RX12⟩
set_option maxRecDepth 20000 in
theorem fw_RX12_548 : zFw shM RX12 548 0 79 .int := ⟨12, _, _, tyX12, rfl, rfl, rfl, by decide, (zGT_in zch7 32 rfl rfl), u_RX12, tyX12_ok, nmX12, rfl, by decide +kernel⟩
set_option maxRecDepth 20000 in
theorem fi_RX12_551 : zFi shM RX12 551 0 80 := ⟨12, _, _, rfl, rfl, rfl, by decide, (zGT_in zch7 33 rfl rfl), u_RX12⟩
set_option maxRecDepth 20000 in
theorem yy_X12_processCells : zY yX12_processCells cX12_processCells 2 (some .int) 1 := ⟨(zGT_in zch9 117 rfl rfl), (zGT_in zch1 14 rfl rfl), by decide +kernel, by decide +kernel, by decide +kernel, by decide⟩
set_option maxRecDepth 20000 in
theorem yv_X12_processCells : zYv yX12_processCells := ⟨(zGT_in zch9 116 rfl rfl), (zGT_in zch0 140 rfl rfl)⟩
set_option maxRecDepth 20000 in
theorem lk_RX12_554 : Cond.methodLink RX12 554 yX12_processCells ∈ zGT := (zGT_in zch9 114 rfl rfl)
set_option maxRecDepth 20000 in
theorem fw_RX12_551 : zFw shM RX12 551 0 80 .int := ⟨12, _, _, tyX12, rfl, rfl, rfl, by decide, (zGT_in zch7 33 rfl rfl), u_RX12, tyX12_ok, nmX12, rfl, by decide +kernel⟩
set_option maxRecDepth 20000 in
theorem fi_RX12_539 : zFi shM RX12 539 0 88 := ⟨12, _, _, rfl, rfl, rfl, by decide, (zGT_in zch7 41 rfl rfl), u_RX12⟩
set_option maxRecDepth 20000 in
theorem fi_RX12_542 : zFi shM RX12 542 0 105 := ⟨12, _, _, rfl, rfl, rfl, by decide, (zGT_in zch7 58 rfl rfl), u_RX12⟩
set_option maxRecDepth 20000 in
theorem fw_RX12_542 : zFw shM RX12 542 0 105 .int := ⟨12, _, _, tyX12, rfl, rfl, rfl, by decide, (zGT_in zch7 58 rfl rfl), u_RX12, tyX12_ok, nmX12, rfl, by decide +kernel⟩
set_option maxRecDepth 20000 in
theorem fr_RX12_163 : zFr shM RX12 163 0 89 47 := ⟨12, _, _, rfl, rfl, rfl, by decide, (zGT_in zch7 42 rfl rfl), u_RX12⟩
set_option maxRecDepth 20000 in
theorem fw_RX12_539 : zFw shM RX12 539 0 88 .int := ⟨12, _, _, tyX12, rfl, rfl, rfl, by decide, (zGT_in zch7 41 rfl rfl), u_RX12, tyX12_ok, nmX12, rfl, by decide +kernel⟩
set_option maxRecDepth 20000 in
theorem fr_RX12_187 : zFr shM RX12 187 0 102 55 := ⟨12, _, _, rfl, rfl, rfl, by decide, (zGT_in zch7 55 rfl rfl), u_RX12⟩
set_option maxRecDepth 20000 in
theorem fr_RX12_190 : zFr shM RX12 190 0 103 56 := ⟨12, _, _, rfl, rfl, rfl, by decide, (zGT_in zch7 56 rfl rfl), u_RX12⟩
set_option maxRecDepth 20000 in
theorem fi_RX12_563 : zFi shM RX12 563 0 100 := ⟨12, _, _, rfl, rfl, rfl, by decide, (zGT_in zch7 53 rfl rfl), u_RX12⟩
set_option maxRecDepth 20000 in
theorem fw_RX12_563 : zFw shM RX12 563 0 100 .int := ⟨12, _, _, tyX12, rfl, rfl, rfl, by decide, (zGT_in zch7 53 rfl rfl), u_RX12, tyX12_ok, nmX12, rfl, by decide +kernel⟩
set_option maxRecDepth 20000 in
theorem yy_X12_channelCells : zY yX12_channelCells cX12_channelCells 1 (some .int) 0 := ⟨(zGT_in zch9 166 rfl rfl), (zGT_in zch1 14 rfl rfl), by decide +kernel, by decide +kernel, by decide +kernel, by decide⟩
set_option maxRecDepth 20000 in
theorem yv_X12_channelCells : zYv yX12_channelCells := ⟨(zGT_in zch9 165 rfl rfl), (zGT_in zch0 151 rfl rfl)⟩
set_option maxRecDepth 20000 in
theorem lk_RX12_566 : Cond.methodLink RX12 566 yX12_channelCells ∈ zGT := (zGT_in zch9 163 rfl rfl)
set_option maxRecDepth 20000 in
theorem fi_RX12_557 : zFi shM RX12 557 0 98 := ⟨12, _, _, rfl, rfl, rfl, by decide, (zGT_in zch7 51 rfl rfl), u_RX12⟩
set_option maxRecDepth 20000 in
theorem fi_RX12_560 : zFi shM RX12 560 0 97 := ⟨12, _, _, rfl, rfl, rfl, by decide, (zGT_in zch7 50 rfl rfl), u_RX12⟩
set_option maxRecDepth 20000 in
theorem fw_RX12_560 : zFw shM RX12 560 0 97 .int := ⟨12, _, _, tyX12, rfl, rfl, rfl, by decide, (zGT_in zch7 50 rfl rfl), u_RX12, tyX12_ok, nmX12, rfl, by decide +kernel⟩
set_option maxRecDepth 20000 in
theorem fr_RX12_184 : zFr shM RX12 184 0 99 54 := ⟨12, _, _, rfl, rfl, rfl, by decide, (zGT_in zch7 52 rfl rfl), u_RX12⟩
set_option maxRecDepth 20000 in
theorem fw_RX12_557 : zFw shM RX12 557 0 98 .int := ⟨12, _, _, tyX12, rfl, rfl, rfl, by decide, (zGT_in zch7 51 rfl rfl), u_RX12, tyX12_ok, nmX12, rfl, by decide +kernel⟩
set_option maxRecDepth 20000 in
theorem fw_RX12_569 : zFw shM RX12 569 0 107 .boolean := ⟨12, _, _, tyX12, rfl, rfl, rfl, by decide, (zGT_in zch7 60 rfl rfl), u_RX12, tyX12_ok, nmX12, rfl, by decide +kernel⟩
set_option maxRecDepth 20000 in
theorem fi_RX12_569 : zFi shM RX12 569 0 107 := ⟨12, _, _, rfl, rfl, rfl, by decide, (zGT_in zch7 60 rfl rfl), u_RX12⟩
set_option maxRecDepth 20000 in
theorem fr_RX12_196 : zFr shM RX12 196 0 106 58 := ⟨12, _, _, rfl, rfl, rfl, by decide, (zGT_in zch7 59 rfl rfl), u_RX12⟩
set_option maxRecDepth 20000 in
theorem yy_X12_worked : zY yX12_worked cX12_worked 4 (some .int) 3 := ⟨(zGT_in zch9 150 rfl rfl), (zGT_in zch1 14 rfl rfl), by decide +kernel, by decide +kernel, by decide +kernel, by decide⟩
set_option maxRecDepth 20000 in
theorem yv_X12_worked : zYv yX12_worked := ⟨(zGT_in zch9 149 rfl rfl), (zGT_in zch0 147 rfl rfl)⟩
set_option maxRecDepth 20000 in
theorem lk_RX12_572 : Cond.methodLink RX12 572 yX12_worked ∈ zGT := (zGT_in zch9 147 rfl rfl)
set_option maxRecDepth 20000 in
theorem fr_RX12_193 : zFr shM RX12 193 0 104 57 := ⟨12, _, _, rfl, rfl, rfl, by decide, (zGT_in zch7 57 rfl rfl), u_RX12⟩
set_option maxRecDepth 20000 in
theorem fi_RX12_575 : zFi shM RX12 575 0 101 := ⟨12, _, _, rfl, rfl, rfl, by decide, (zGT_in zch7 54 rfl rfl), u_RX12⟩
set_option maxRecDepth 20000 in
theorem fw_RX12_575 : zFw shM RX12 575 0 101 .int := ⟨12, _, _, tyX12, rfl, rfl, rfl, by decide, (zGT_in zch7 54 rfl rfl), u_RX12, tyX12_ok, nmX12, rfl, by decide +kernel⟩
set_option maxRecDepth 20000 in
theorem fw_RX12_607 : zFw shM RX12 607 0 72 .int := ⟨12, _, _, tyX12, rfl, rfl, rfl, by decide, (zGT_in zch7 25 rfl rfl), u_RX12, tyX12_ok, nmX12, rfl, by decide +kernel⟩
set_option maxRecDepth 20000 in
theorem yy_X12_newChannel : zY yX12_newChannel cX12_newChannel 3 (some .int) 1 := ⟨(zGT_in zch9 178 rfl rfl), (zGT_in zch1 14 rfl rfl), by decide +kernel, by decide +kernel, by decide +kernel, by decide⟩
set_option maxRecDepth 20000 in
theorem yv_X12_newChannel : zYv yX12_newChannel := ⟨(zGT_in zch9 177 rfl rfl), (zGT_in zch0 154 rfl rfl)⟩
set_option maxRecDepth 20000 in
theorem lk_RX12_604 : Cond.methodLink RX12 604 yX12_newChannel ∈ zGT := (zGT_in zch9 175 rfl rfl)
set_option maxRecDepth 20000 in
theorem fr_RX12_199 : zFr shM RX12 199 0 108 59 := ⟨12, _, _, rfl, rfl, rfl, by decide, (zGT_in zch7 61 rfl rfl), u_RX12⟩
set_option maxRecDepth 20000 in
theorem fr_RX12_202 : zFr shM RX12 202 0 109 60 := ⟨12, _, _, rfl, rfl, rfl, by decide, (zGT_in zch7 62 rfl rfl), u_RX12⟩
set_option maxRecDepth 20000 in
theorem yy_X12_newProcess : zY yX12_newProcess cX12_newProcess 3 (some .int) 1 := ⟨(zGT_in zch9 121 rfl rfl), (zGT_in zch1 14 rfl rfl), by decide +kernel, by decide +kernel, by decide +kernel, by decide⟩
set_option maxRecDepth 20000 in
theorem yv_X12_newProcess : zYv yX12_newProcess := ⟨(zGT_in zch9 120 rfl rfl), (zGT_in zch0 141 rfl rfl)⟩
set_option maxRecDepth 20000 in
theorem lk_RX12_601 : Cond.methodLink RX12 601 yX12_newProcess ∈ zGT := (zGT_in zch9 118 rfl rfl)
set_option maxRecDepth 20000 in
theorem fi_RX12_145 : zFi shM RX12 145 0 74 := ⟨12, _, _, rfl, rfl, rfl, by decide, (zGT_in zch7 27 rfl rfl), u_RX12⟩
set_option maxRecDepth 20000 in
theorem yy_X12_ends : zY yX12_ends cX12_ends 2 (some .boolean) 1 := ⟨(zGT_in zch9 154 rfl rfl), (zGT_in zch1 14 rfl rfl), by decide +kernel, by decide +kernel, by decide +kernel, by decide⟩
set_option maxRecDepth 20000 in
theorem yv_X12_ends : zYv yX12_ends := ⟨(zGT_in zch9 153 rfl rfl), (zGT_in zch0 148 rfl rfl)⟩
set_option maxRecDepth 20000 in
theorem lk_RX12_581 : Cond.methodLink RX12 581 yX12_ends ∈ zGT := (zGT_in zch9 151 rfl rfl)
set_option maxRecDepth 20000 in
theorem yy_X12_worth : zY yX12_worth cX12_worth 6 (some .int) 2 := ⟨(zGT_in zch9 146 rfl rfl), (zGT_in zch1 14 rfl rfl), by decide +kernel, by decide +kernel, by decide +kernel, by decide⟩
set_option maxRecDepth 20000 in
theorem yv_X12_worth : zYv yX12_worth := ⟨(zGT_in zch9 145 rfl rfl), (zGT_in zch0 146 rfl rfl)⟩
set_option maxRecDepth 20000 in
theorem lk_RX12_578 : Cond.methodLink RX12 578 yX12_worth ∈ zGT := (zGT_in zch9 143 rfl rfl)
set_option maxRecDepth 20000 in
theorem fi_RX12_586 : zFi shM RX12 586 0 83 := ⟨12, _, _, rfl, rfl, rfl, by decide, (zGT_in zch7 36 rfl rfl), u_RX12⟩
set_option maxRecDepth 20000 in
theorem fr_RX12_157 : zFr shM RX12 157 0 84 45 := ⟨12, _, _, rfl, rfl, rfl, by decide, (zGT_in zch7 37 rfl rfl), u_RX12⟩
set_option maxRecDepth 20000 in
theorem fi_RX12_583 : zFi shM RX12 583 0 81 := ⟨12, _, _, rfl, rfl, rfl, by decide, (zGT_in zch7 34 rfl rfl), u_RX12⟩
set_option maxRecDepth 20000 in
theorem fw_RX12_583 : zFw shM RX12 583 0 81 .int := ⟨12, _, _, tyX12, rfl, rfl, rfl, by decide, (zGT_in zch7 34 rfl rfl), u_RX12, tyX12_ok, nmX12, rfl, by decide +kernel⟩
set_option maxRecDepth 20000 in
theorem yy_X12_goesOn : zY yX12_goesOn cX12_goesOn 5 none 3 := ⟨(zGT_in zch9 162 rfl rfl), (zGT_in zch1 14 rfl rfl), by decide +kernel, by decide +kernel, by decide +kernel, by decide⟩
set_option maxRecDepth 20000 in
theorem yv_X12_goesOn : zYv yX12_goesOn := ⟨(zGT_in zch9 161 rfl rfl), (zGT_in zch0 150 rfl rfl)⟩
set_option maxRecDepth 20000 in
theorem lk_RX12_592 : Cond.methodLink RX12 592 yX12_goesOn ∈ zGT := (zGT_in zch9 159 rfl rfl)
set_option maxRecDepth 20000 in
theorem yy_X12_gives : zY yX12_gives cX12_gives 4 none 2 := ⟨(zGT_in zch9 158 rfl rfl), (zGT_in zch1 14 rfl rfl), by decide +kernel, by decide +kernel, by decide +kernel, by decide⟩
set_option maxRecDepth 20000 in
theorem yv_X12_gives : zYv yX12_gives := ⟨(zGT_in zch9 157 rfl rfl), (zGT_in zch0 149 rfl rfl)⟩
set_option maxRecDepth 20000 in
theorem lk_RX12_589 : Cond.methodLink RX12 589 yX12_gives ∈ zGT := (zGT_in zch9 155 rfl rfl)
set_option maxRecDepth 20000 in
theorem yy_X12_takes : zY yX12_takes cX12_takes 4 (some .int) 1 := ⟨(zGT_in zch9 170 rfl rfl), (zGT_in zch1 14 rfl rfl), by decide +kernel, by decide +kernel, by decide +kernel, by decide⟩
set_option maxRecDepth 20000 in
theorem yv_X12_takes : zYv yX12_takes := ⟨(zGT_in zch9 169 rfl rfl), (zGT_in zch0 152 rfl rfl)⟩
set_option maxRecDepth 20000 in
theorem lk_RX12_595 : Cond.methodLink RX12 595 yX12_takes ∈ zGT := (zGT_in zch9 167 rfl rfl)
set_option maxRecDepth 20000 in
theorem yy_X12_calls : zY yX12_calls cX12_calls 13 (some .boolean) 2 := ⟨(zGT_in zch9 174 rfl rfl), (zGT_in zch1 14 rfl rfl), by decide +kernel, by decide +kernel, by decide +kernel, by decide⟩
set_option maxRecDepth 20000 in
theorem yv_X12_calls : zYv yX12_calls := ⟨(zGT_in zch9 173 rfl rfl), (zGT_in zch0 153 rfl rfl)⟩
set_option maxRecDepth 20000 in
theorem lk_RX12_598 : Cond.methodLink RX12 598 yX12_calls ∈ zGT := (zGT_in zch9 171 rfl rfl)
set_option maxRecDepth 20000 in
theorem fr_RX12_154 : zFr shM RX12 154 0 82 44 := ⟨12, _, _, rfl, rfl, rfl, by decide, (zGT_in zch7 35 rfl rfl), u_RX12⟩
set_option maxRecDepth 20000 in
theorem fw_RX12_586 : zFw shM RX12 586 0 83 .int := ⟨12, _, _, tyX12, rfl, rfl, rfl, by decide, (zGT_in zch7 36 rfl rfl), u_RX12, tyX12_ok, nmX12, rfl, by decide +kernel⟩
set_option maxRecDepth 20000 in
theorem fi_RX12_610 : zFi shM RX12 610 0 86 := ⟨12, _, _, rfl, rfl, rfl, by decide, (zGT_in zch7 39 rfl rfl), u_RX12⟩
set_option maxRecDepth 20000 in
theorem fw_RX12_610 : zFw shM RX12 610 0 86 .int := ⟨12, _, _, tyX12, rfl, rfl, rfl, by decide, (zGT_in zch7 39 rfl rfl), u_RX12, tyX12_ok, nmX12, rfl, by decide +kernel⟩
set_option maxRecDepth 20000 in
theorem fi_RX12_607 : zFi shM RX12 607 0 72 := ⟨12, _, _, rfl, rfl, rfl, by decide, (zGT_in zch7 25 rfl rfl), u_RX12⟩
set_option maxRecDepth 20000 in
theorem fi_RX12_613 : zFi shM RX12 613 0 77 := ⟨12, _, _, rfl, rfl, rfl, by decide, (zGT_in zch7 30 rfl rfl), u_RX12⟩
set_option maxRecDepth 20000 in
theorem fw_RX12_613 : zFw shM RX12 613 0 77 .int := ⟨12, _, _, tyX12, rfl, rfl, rfl, by decide, (zGT_in zch7 30 rfl rfl), u_RX12, tyX12_ok, nmX12, rfl, by decide +kernel⟩
set_option maxRecDepth 20000 in
theorem yy_X12_act : zY yX12_act cX12_act 9 (some .boolean) 2 := ⟨(zGT_in zch9 142 rfl rfl), (zGT_in zch1 14 rfl rfl), by decide +kernel, by decide +kernel, by decide +kernel, by decide⟩
set_option maxRecDepth 20000 in
theorem yv_X12_act : zYv yX12_act := ⟨(zGT_in zch9 141 rfl rfl), (zGT_in zch0 145 rfl rfl)⟩
set_option maxRecDepth 20000 in
theorem lk_RX12_616 : Cond.methodLink RX12 616 yX12_act ∈ zGT := (zGT_in zch9 139 rfl rfl)
set_option maxRecDepth 20000 in
theorem fi_RX12_619 : zFi shM RX12 619 0 78 := ⟨12, _, _, rfl, rfl, rfl, by decide, (zGT_in zch7 31 rfl rfl), u_RX12⟩
set_option maxRecDepth 20000 in
theorem fw_RX12_619 : zFw shM RX12 619 0 78 .int := ⟨12, _, _, tyX12, rfl, rfl, rfl, by decide, (zGT_in zch7 31 rfl rfl), u_RX12, tyX12_ok, nmX12, rfl, by decide +kernel⟩
set_option maxRecDepth 20000 in
theorem kc_RX12_622 : Cond.constantLong RX12 622 8 ∈ zGT := (zGT_in zch9 103 rfl rfl)
set_option maxRecDepth 20000 in
theorem kc_RX12_624 : Cond.constantLong RX12 624 10 ∈ zGT := (zGT_in zch9 104 rfl rfl)
set_option maxRecDepth 20000 in
theorem kc_RX12_626 : Cond.constantLong RX12 626 10000 ∈ zGT := (zGT_in zch9 105 rfl rfl)
set_option maxRecDepth 20000 in
theorem fw_RX12_148 : zFw shM RX12 148 0 75 .int := ⟨12, _, _, tyX12, rfl, rfl, rfl, by decide, (zGT_in zch7 28 rfl rfl), u_RX12, tyX12_ok, nmX12, rfl, by decide +kernel⟩
set_option maxRecDepth 20000 in
theorem fw_RX12_151 : zFw shM RX12 151 0 76 .int := ⟨12, _, _, tyX12, rfl, rfl, rfl, by decide, (zGT_in zch7 29 rfl rfl), u_RX12, tyX12_ok, nmX12, rfl, by decide +kernel⟩
set_option maxRecDepth 20000 in
theorem fi_RX12_400 : zFi shM RX12 400 0 57 := ⟨12, _, _, rfl, rfl, rfl, by decide, (zGT_in zch7 10 rfl rfl), u_RX12⟩
set_option maxRecDepth 20000 in
theorem fi_RX12_148 : zFi shM RX12 148 0 75 := ⟨12, _, _, rfl, rfl, rfl, by decide, (zGT_in zch7 28 rfl rfl), u_RX12⟩
set_option maxRecDepth 20000 in
theorem fw_RX12_141 : zFw shM RX12 141 0 73 .int := ⟨12, _, _, tyX12, rfl, rfl, rfl, by decide, (zGT_in zch7 26 rfl rfl), u_RX12, tyX12_ok, nmX12, rfl, by decide +kernel⟩
set_option maxRecDepth 20000 in
theorem fi_RX12_151 : zFi shM RX12 151 0 76 := ⟨12, _, _, rfl, rfl, rfl, by decide, (zGT_in zch7 29 rfl rfl), u_RX12⟩
set_option maxRecDepth 20000 in
theorem fw_RX12_145 : zFw shM RX12 145 0 74 .int := ⟨12, _, _, tyX12, rfl, rfl, rfl, by decide, (zGT_in zch7 27 rfl rfl), u_RX12, tyX12_ok, nmX12, rfl, by decide +kernel⟩
set_option maxRecDepth 20000 in
theorem yy_X12_visit : zY yX12_visit cX12_visit 4 none 0 := ⟨(zGT_in zch9 138 rfl rfl), (zGT_in zch1 14 rfl rfl), by decide +kernel, by decide +kernel, by decide +kernel, by decide⟩
set_option maxRecDepth 20000 in
theorem yv_X12_visit : zYv yX12_visit := ⟨(zGT_in zch9 137 rfl rfl), (zGT_in zch0 144 rfl rfl)⟩
set_option maxRecDepth 20000 in
theorem lk_RX12_630 : Cond.methodLink RX12 630 yX12_visit ∈ zGT := (zGT_in zch9 135 rfl rfl)
set_option maxRecDepth 20000 in
theorem fi_RX12_404 : zFi shM RX12 404 0 71 := ⟨12, _, _, rfl, rfl, rfl, by decide, (zGT_in zch7 24 rfl rfl), u_RX12⟩
set_option maxRecDepth 20000 in
theorem kc_RX12_628 : Cond.constantLong RX12 628 20000 ∈ zGT := (zGT_in zch9 134 rfl rfl)
set_option maxRecDepth 20000 in
theorem lk_RX12_633 : Cond.methodLink RX12 633 Lib.Math.min.name ∈ zGT := (zGT_in zch9 183 rfl rfl)
set_option maxRecDepth 20000 in
theorem mm1_min : Cond.static Lib.Math.min.name ∈ zGT := (zGT_in zch4 60 rfl rfl)
set_option maxRecDepth 20000 in
theorem mm3_min : Cond.code Lib.Math.min.name Lib.Math.min.code 2 (some .int) ∈ zGT := (zGT_in zch4 61 rfl rfl)
set_option maxRecDepth 20000 in
theorem kc_RX12_638 : Cond.constantLong RX12 638 7 ∈ zGT := (zGT_in zch9 188 rfl rfl)
