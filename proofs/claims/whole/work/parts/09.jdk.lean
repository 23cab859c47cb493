set_option maxRecDepth 20000 in
theorem yy_J0_coder_7d493 : zY yJ0_coder_7d493 cJ0_coder_7d493 1 (some .byte) 0 := ⟨(zGT_in zch3 207 rfl rfl), (zGT_in zch1 15 rfl rfl), by decide +kernel, by decide +kernel, by decide +kernel, by decide⟩
set_option maxRecDepth 20000 in
theorem yv_J0_coder_7d493 : zYv yJ0_coder_7d493 := ⟨(zGT_in zch3 205 rfl rfl), (zGT_in zch3 206 rfl rfl)⟩
theorem dJ0_coder_7d493_0 : decode cJ0_coder_7d493 0 = .ok (.getstatic 38, 3) := by decide +kernel
theorem dJ0_coder_7d493_3 : decode cJ0_coder_7d493 3 = .ok (.ifCond .eq 10, 3) := by decide +kernel
theorem dJ0_coder_7d493_6 : decode cJ0_coder_7d493 6 = .ok (.aload_n 0, 1) := by decide +kernel
theorem dJ0_coder_7d493_7 : decode cJ0_coder_7d493 7 = .ok (.getfield 15, 3) := by decide +kernel
theorem dJ0_coder_7d493_10 : decode cJ0_coder_7d493 10 = .ok (.goto 4, 3) := by decide +kernel
theorem dJ0_coder_7d493_13 : decode cJ0_coder_7d493 13 = .ok (.iconst 1, 1) := by decide +kernel
theorem dJ0_coder_7d493_14 : decode cJ0_coder_7d493 14 = .ok (.ireturn, 1) := by decide +kernel
set_option maxRecDepth 20000 in
theorem yy_J0_isLatin1_aae02 : zY yJ0_isLatin1_aae02 cJ0_isLatin1_aae02 1 (some .boolean) 0 := ⟨(zGT_in zch3 217 rfl rfl), (zGT_in zch1 15 rfl rfl), by decide +kernel, by decide +kernel, by decide +kernel, by decide⟩
set_option maxRecDepth 20000 in
theorem yv_J0_isLatin1_aae02 : zYv yJ0_isLatin1_aae02 := ⟨(zGT_in zch3 215 rfl rfl), (zGT_in zch3 216 rfl rfl)⟩
theorem dJ0_isLatin1_aae02_0 : decode cJ0_isLatin1_aae02 0 = .ok (.getstatic 38, 3) := by decide +kernel
theorem dJ0_isLatin1_aae02_3 : decode cJ0_isLatin1_aae02 3 = .ok (.ifCond .eq 14, 3) := by decide +kernel
theorem dJ0_isLatin1_aae02_6 : decode cJ0_isLatin1_aae02 6 = .ok (.aload_n 0, 1) := by decide +kernel
theorem dJ0_isLatin1_aae02_7 : decode cJ0_isLatin1_aae02 7 = .ok (.getfield 15, 3) := by decide +kernel
theorem dJ0_isLatin1_aae02_10 : decode cJ0_isLatin1_aae02 10 = .ok (.ifCond .ne 7, 3) := by decide +kernel
theorem dJ0_isLatin1_aae02_13 : decode cJ0_isLatin1_aae02 13 = .ok (.iconst 1, 1) := by decide +kernel
theorem dJ0_isLatin1_aae02_14 : decode cJ0_isLatin1_aae02 14 = .ok (.goto 4, 3) := by decide +kernel
theorem dJ0_isLatin1_aae02_17 : decode cJ0_isLatin1_aae02 17 = .ok (.iconst 0, 1) := by decide +kernel
theorem dJ0_isLatin1_aae02_18 : decode cJ0_isLatin1_aae02 18 = .ok (.ireturn, 1) := by decide +kernel
set_option maxRecDepth 20000 in
theorem yy_J0_length_8abf5 : zY yJ0_length_8abf5 cJ0_length_8abf5 1 (some .int) 0 := ⟨(zGT_in zch3 203 rfl rfl), (zGT_in zch1 15 rfl rfl), by decide +kernel, by decide +kernel, by decide +kernel, by decide⟩
set_option maxRecDepth 20000 in
theorem yv_J0_length_8abf5 : zYv yJ0_length_8abf5 := ⟨(zGT_in zch3 201 rfl rfl), (zGT_in zch3 202 rfl rfl)⟩
theorem dJ0_length_8abf5_0 : decode cJ0_length_8abf5 0 = .ok (.aload_n 0, 1) := by decide +kernel
theorem dJ0_length_8abf5_1 : decode cJ0_length_8abf5 1 = .ok (.getfield 9, 3) := by decide +kernel
theorem dJ0_length_8abf5_4 : decode cJ0_length_8abf5 4 = .ok (.arraylength, 1) := by decide +kernel
theorem dJ0_length_8abf5_5 : decode cJ0_length_8abf5 5 = .ok (.aload_n 0, 1) := by decide +kernel
theorem dJ0_length_8abf5_6 : decode cJ0_length_8abf5 6 = .ok (.invokevirtual 335, 3) := by decide +kernel
theorem dJ0_length_8abf5_9 : decode cJ0_length_8abf5 9 = .ok (.ishr, 1) := by decide +kernel
theorem dJ0_length_8abf5_10 : decode cJ0_length_8abf5 10 = .ok (.ireturn, 1) := by decide +kernel
set_option maxRecDepth 20000 in
theorem yy_J3_checkIndex_8e157 : zY yJ3_checkIndex_8e157 cJ3_checkIndex_8e157 3 (some .int) 3 := ⟨(zGT_in zch3 228 rfl rfl), (zGT_in zch1 17 rfl rfl), by decide +kernel, by decide +kernel, by decide +kernel, by decide⟩
set_option maxRecDepth 20000 in
theorem yv_J3_checkIndex_8e157 : Cond.static yJ3_checkIndex_8e157 ∈ zGT := (zGT_in zch3 227 rfl rfl)
theorem dJ3_checkIndex_8e157_0 : decode cJ3_checkIndex_8e157 0 = .ok (.iload_n 0, 1) := by decide +kernel
theorem dJ3_checkIndex_8e157_1 : decode cJ3_checkIndex_8e157 1 = .ok (.ifCond .lt 8, 3) := by decide +kernel
theorem dJ3_checkIndex_8e157_4 : decode cJ3_checkIndex_8e157 4 = .ok (.iload_n 0, 1) := by decide +kernel
theorem dJ3_checkIndex_8e157_5 : decode cJ3_checkIndex_8e157 5 = .ok (.iload_n 1, 1) := by decide +kernel
theorem dJ3_checkIndex_8e157_6 : decode cJ3_checkIndex_8e157 6 = .ok (.if_icmp .lt 10, 3) := by decide +kernel
theorem dJ3_checkIndex_8e157_9 : decode cJ3_checkIndex_8e157 9 = .ok (.aload_n 2, 1) := by decide +kernel
theorem dJ3_checkIndex_8e157_10 : decode cJ3_checkIndex_8e157 10 = .ok (.iload_n 0, 1) := by decide +kernel
theorem dJ3_checkIndex_8e157_11 : decode cJ3_checkIndex_8e157 11 = .ok (.iload_n 1, 1) := by decide +kernel
theorem dJ3_checkIndex_8e157_12 : decode cJ3_checkIndex_8e157 12 = .ok (.invokestatic 95, 3) := by decide +kernel
theorem dJ3_checkIndex_8e157_15 : decode cJ3_checkIndex_8e157 15 = .ok (.athrow, 1) := by decide +kernel
theorem dJ3_checkIndex_8e157_16 : decode cJ3_checkIndex_8e157 16 = .ok (.iload_n 0, 1) := by decide +kernel
theorem dJ3_checkIndex_8e157_17 : decode cJ3_checkIndex_8e157 17 = .ok (.ireturn, 1) := by decide +kernel
set_option maxRecDepth 20000 in
theorem yy_J0_checkIndex_df160 : zY yJ0_checkIndex_df160 cJ0_checkIndex_df160 2 none 2 := ⟨(zGT_in zch3 223 rfl rfl), (zGT_in zch1 15 rfl rfl), by decide +kernel, by decide +kernel, by decide +kernel, by decide⟩
set_option maxRecDepth 20000 in
theorem yv_J0_checkIndex_df160 : Cond.static yJ0_checkIndex_df160 ∈ zGT := (zGT_in zch3 222 rfl rfl)
theorem dJ0_checkIndex_df160_0 : decode cJ0_checkIndex_df160 0 = .ok (.iload_n 0, 1) := by decide +kernel
theorem dJ0_checkIndex_df160_1 : decode cJ0_checkIndex_df160 1 = .ok (.iload_n 1, 1) := by decide +kernel
theorem dJ0_checkIndex_df160_2 : decode cJ0_checkIndex_df160 2 = .ok (.getstatic 1053, 3) := by decide +kernel
theorem dJ0_checkIndex_df160_5 : decode cJ0_checkIndex_df160 5 = .ok (.invokestatic 1059, 3) := by decide +kernel
theorem dJ0_checkIndex_df160_8 : decode cJ0_checkIndex_df160 8 = .ok (.pop, 1) := by decide +kernel
theorem dJ0_checkIndex_df160_9 : decode cJ0_checkIndex_df160 9 = .ok (.return_, 1) := by decide +kernel
set_option maxRecDepth 20000 in
theorem yy_J1_charAt_3b067 : zY yJ1_charAt_3b067 cJ1_charAt_3b067 2 (some .char) 2 := ⟨(zGT_in zch3 220 rfl rfl), (zGT_in zch1 16 rfl rfl), by decide +kernel, by decide +kernel, by decide +kernel, by decide⟩
set_option maxRecDepth 20000 in
theorem yv_J1_charAt_3b067 : Cond.static yJ1_charAt_3b067 ∈ zGT := (zGT_in zch3 219 rfl rfl)
theorem dJ1_charAt_3b067_0 : decode cJ1_charAt_3b067 0 = .ok (.iload_n 1, 1) := by decide +kernel
theorem dJ1_charAt_3b067_1 : decode cJ1_charAt_3b067 1 = .ok (.aload_n 0, 1) := by decide +kernel
theorem dJ1_charAt_3b067_2 : decode cJ1_charAt_3b067 2 = .ok (.arraylength, 1) := by decide +kernel
theorem dJ1_charAt_3b067_3 : decode cJ1_charAt_3b067 3 = .ok (.invokestatic 9, 3) := by decide +kernel
theorem dJ1_charAt_3b067_6 : decode cJ1_charAt_3b067 6 = .ok (.aload_n 0, 1) := by decide +kernel
theorem dJ1_charAt_3b067_7 : decode cJ1_charAt_3b067 7 = .ok (.iload_n 1, 1) := by decide +kernel
theorem dJ1_charAt_3b067_8 : decode cJ1_charAt_3b067 8 = .ok (.baload, 1) := by decide +kernel
theorem dJ1_charAt_3b067_9 : decode cJ1_charAt_3b067 9 = .ok (.sipush 255, 3) := by decide +kernel
theorem dJ1_charAt_3b067_12 : decode cJ1_charAt_3b067 12 = .ok (.iand, 1) := by decide +kernel
theorem dJ1_charAt_3b067_13 : decode cJ1_charAt_3b067 13 = .ok (.i2c, 1) := by decide +kernel
theorem dJ1_charAt_3b067_14 : decode cJ1_charAt_3b067 14 = .ok (.ireturn, 1) := by decide +kernel
set_option maxRecDepth 20000 in
theorem yy_J0_charAt_5068e : zY yJ0_charAt_5068e cJ0_charAt_5068e 2 (some .char) 1 := ⟨(zGT_in zch3 213 rfl rfl), (zGT_in zch1 15 rfl rfl), by decide +kernel, by decide +kernel, by decide +kernel, by decide⟩
set_option maxRecDepth 20000 in
theorem yv_J0_charAt_5068e : zYv yJ0_charAt_5068e := ⟨(zGT_in zch3 211 rfl rfl), (zGT_in zch3 212 rfl rfl)⟩
theorem dJ0_charAt_5068e_0 : decode cJ0_charAt_5068e 0 = .ok (.aload_n 0, 1) := by decide +kernel
theorem dJ0_charAt_5068e_1 : decode cJ0_charAt_5068e 1 = .ok (.invokevirtual 492, 3) := by decide +kernel
theorem dJ0_charAt_5068e_4 : decode cJ0_charAt_5068e 4 = .ok (.ifCond .eq 12, 3) := by decide +kernel
theorem dJ0_charAt_5068e_7 : decode cJ0_charAt_5068e 7 = .ok (.aload_n 0, 1) := by decide +kernel
theorem dJ0_charAt_5068e_8 : decode cJ0_charAt_5068e 8 = .ok (.getfield 9, 3) := by decide +kernel
theorem dJ0_charAt_5068e_11 : decode cJ0_charAt_5068e 11 = .ok (.iload_n 1, 1) := by decide +kernel
theorem dJ0_charAt_5068e_12 : decode cJ0_charAt_5068e 12 = .ok (.invokestatic 495, 3) := by decide +kernel
theorem dJ0_charAt_5068e_15 : decode cJ0_charAt_5068e 15 = .ok (.ireturn, 1) := by decide +kernel
theorem dJ0_charAt_5068e_16 : decode cJ0_charAt_5068e 16 = .ok (.aload_n 0, 1) := by decide +kernel
theorem dJ0_charAt_5068e_17 : decode cJ0_charAt_5068e 17 = .ok (.getfield 9, 3) := by decide +kernel
theorem dJ0_charAt_5068e_20 : decode cJ0_charAt_5068e 20 = .ok (.iload_n 1, 1) := by decide +kernel
theorem dJ0_charAt_5068e_21 : decode cJ0_charAt_5068e 21 = .ok (.invokestatic 498, 3) := by decide +kernel
theorem dJ0_charAt_5068e_24 : decode cJ0_charAt_5068e 24 = .ok (.ireturn, 1) := by decide +kernel
set_option maxRecDepth 20000 in
theorem yy_J1_canEncode_9a6ad : zY yJ1_canEncode_9a6ad cJ1_canEncode_9a6ad 1 (some .boolean) 1 := ⟨(zGT_in zch4 57 rfl rfl), (zGT_in zch1 16 rfl rfl), by decide +kernel, by decide +kernel, by decide +kernel, by decide⟩
set_option maxRecDepth 20000 in
theorem yv_J1_canEncode_9a6ad : Cond.static yJ1_canEncode_9a6ad ∈ zGT := (zGT_in zch4 56 rfl rfl)
theorem dJ1_canEncode_9a6ad_0 : decode cJ1_canEncode_9a6ad 0 = .ok (.iload_n 0, 1) := by decide +kernel
theorem dJ1_canEncode_9a6ad_1 : decode cJ1_canEncode_9a6ad 1 = .ok (.ifCond .lt 14, 3) := by decide +kernel
theorem dJ1_canEncode_9a6ad_4 : decode cJ1_canEncode_9a6ad 4 = .ok (.iload_n 0, 1) := by decide +kernel
theorem dJ1_canEncode_9a6ad_5 : decode cJ1_canEncode_9a6ad 5 = .ok (.sipush 255, 3) := by decide +kernel
theorem dJ1_canEncode_9a6ad_8 : decode cJ1_canEncode_9a6ad 8 = .ok (.if_icmp .gt 7, 3) := by decide +kernel
theorem dJ1_canEncode_9a6ad_11 : decode cJ1_canEncode_9a6ad 11 = .ok (.iconst 1, 1) := by decide +kernel
theorem dJ1_canEncode_9a6ad_12 : decode cJ1_canEncode_9a6ad 12 = .ok (.goto 4, 3) := by decide +kernel
theorem dJ1_canEncode_9a6ad_15 : decode cJ1_canEncode_9a6ad 15 = .ok (.iconst 0, 1) := by decide +kernel
theorem dJ1_canEncode_9a6ad_16 : decode cJ1_canEncode_9a6ad 16 = .ok (.ireturn, 1) := by decide +kernel
set_option maxRecDepth 20000 in
theorem yy_J1_indexOfChar_4cfef : zY yJ1_indexOfChar_4cfef cJ1_indexOfChar_4cfef 6 (some .int) 4 := ⟨(zGT_in zch4 64 rfl rfl), (zGT_in zch1 16 rfl rfl), by decide +kernel, by decide +kernel, by decide +kernel, by decide⟩
set_option maxRecDepth 20000 in
theorem yv_J1_indexOfChar_4cfef : Cond.static yJ1_indexOfChar_4cfef ∈ zGT := (zGT_in zch4 63 rfl rfl)
theorem dJ1_indexOfChar_4cfef_0 : decode cJ1_indexOfChar_4cfef 0 = .ok (.iload_n 1, 1) := by decide +kernel
theorem dJ1_indexOfChar_4cfef_1 : decode cJ1_indexOfChar_4cfef 1 = .ok (.i2b, 1) := by decide +kernel
theorem dJ1_indexOfChar_4cfef_2 : decode cJ1_indexOfChar_4cfef 2 = .ok (.istore 4, 2) := by decide +kernel
theorem dJ1_indexOfChar_4cfef_4 : decode cJ1_indexOfChar_4cfef 4 = .ok (.iload_n 2, 1) := by decide +kernel
theorem dJ1_indexOfChar_4cfef_5 : decode cJ1_indexOfChar_4cfef 5 = .ok (.istore 5, 2) := by decide +kernel
theorem dJ1_indexOfChar_4cfef_7 : decode cJ1_indexOfChar_4cfef 7 = .ok (.iload 5, 2) := by decide +kernel
theorem dJ1_indexOfChar_4cfef_9 : decode cJ1_indexOfChar_4cfef 9 = .ok (.iload_n 3, 1) := by decide +kernel
theorem dJ1_indexOfChar_4cfef_10 : decode cJ1_indexOfChar_4cfef 10 = .ok (.if_icmp .ge 21, 3) := by decide +kernel
theorem dJ1_indexOfChar_4cfef_13 : decode cJ1_indexOfChar_4cfef 13 = .ok (.aload_n 0, 1) := by decide +kernel
theorem dJ1_indexOfChar_4cfef_14 : decode cJ1_indexOfChar_4cfef 14 = .ok (.iload 5, 2) := by decide +kernel
theorem dJ1_indexOfChar_4cfef_16 : decode cJ1_indexOfChar_4cfef 16 = .ok (.baload, 1) := by decide +kernel
theorem dJ1_indexOfChar_4cfef_17 : decode cJ1_indexOfChar_4cfef 17 = .ok (.iload 4, 2) := by decide +kernel
theorem dJ1_indexOfChar_4cfef_19 : decode cJ1_indexOfChar_4cfef 19 = .ok (.if_icmp .ne 6, 3) := by decide +kernel
theorem dJ1_indexOfChar_4cfef_22 : decode cJ1_indexOfChar_4cfef 22 = .ok (.iload 5, 2) := by decide +kernel
theorem dJ1_indexOfChar_4cfef_24 : decode cJ1_indexOfChar_4cfef 24 = .ok (.ireturn, 1) := by decide +kernel
theorem dJ1_indexOfChar_4cfef_25 : decode cJ1_indexOfChar_4cfef 25 = .ok (.iinc 5 1, 3) := by decide +kernel
theorem dJ1_indexOfChar_4cfef_28 : decode cJ1_indexOfChar_4cfef 28 = .ok (.goto (-21), 3) := by decide +kernel
theorem dJ1_indexOfChar_4cfef_31 : decode cJ1_indexOfChar_4cfef 31 = .ok (.iconst (-1), 1) := by decide +kernel
theorem dJ1_indexOfChar_4cfef_32 : decode cJ1_indexOfChar_4cfef 32 = .ok (.ireturn, 1) := by decide +kernel
set_option maxRecDepth 20000 in
theorem yy_J1_indexOf_4cfef : zY yJ1_indexOf_4cfef cJ1_indexOf_4cfef 4 (some .int) 4 := ⟨(zGT_in zch4 54 rfl rfl), (zGT_in zch1 16 rfl rfl), by decide +kernel, by decide +kernel, by decide +kernel, by decide⟩
set_option maxRecDepth 20000 in
theorem yv_J1_indexOf_4cfef : Cond.static yJ1_indexOf_4cfef ∈ zGT := (zGT_in zch4 53 rfl rfl)
theorem dJ1_indexOf_4cfef_0 : decode cJ1_indexOf_4cfef 0 = .ok (.iload_n 1, 1) := by decide +kernel
theorem dJ1_indexOf_4cfef_1 : decode cJ1_indexOf_4cfef 1 = .ok (.invokestatic 88, 3) := by decide +kernel
theorem dJ1_indexOf_4cfef_4 : decode cJ1_indexOf_4cfef 4 = .ok (.ifCond .ne 5, 3) := by decide +kernel
theorem dJ1_indexOf_4cfef_7 : decode cJ1_indexOf_4cfef 7 = .ok (.iconst (-1), 1) := by decide +kernel
theorem dJ1_indexOf_4cfef_8 : decode cJ1_indexOf_4cfef 8 = .ok (.ireturn, 1) := by decide +kernel
theorem dJ1_indexOf_4cfef_9 : decode cJ1_indexOf_4cfef 9 = .ok (.iload_n 2, 1) := by decide +kernel
theorem dJ1_indexOf_4cfef_10 : decode cJ1_indexOf_4cfef 10 = .ok (.iconst 0, 1) := by decide +kernel
theorem dJ1_indexOf_4cfef_11 : decode cJ1_indexOf_4cfef 11 = .ok (.invokestatic 92, 3) := by decide +kernel
theorem dJ1_indexOf_4cfef_14 : decode cJ1_indexOf_4cfef 14 = .ok (.istore_n 2, 1) := by decide +kernel
theorem dJ1_indexOf_4cfef_15 : decode cJ1_indexOf_4cfef 15 = .ok (.iload_n 3, 1) := by decide +kernel
theorem dJ1_indexOf_4cfef_16 : decode cJ1_indexOf_4cfef 16 = .ok (.aload_n 0, 1) := by decide +kernel
theorem dJ1_indexOf_4cfef_17 : decode cJ1_indexOf_4cfef 17 = .ok (.arraylength, 1) := by decide +kernel
theorem dJ1_indexOf_4cfef_18 : decode cJ1_indexOf_4cfef 18 = .ok (.invokestatic 38, 3) := by decide +kernel
theorem dJ1_indexOf_4cfef_21 : decode cJ1_indexOf_4cfef 21 = .ok (.istore_n 3, 1) := by decide +kernel
theorem dJ1_indexOf_4cfef_22 : decode cJ1_indexOf_4cfef 22 = .ok (.iload_n 2, 1) := by decide +kernel
theorem dJ1_indexOf_4cfef_23 : decode cJ1_indexOf_4cfef 23 = .ok (.iload_n 3, 1) := by decide +kernel
theorem dJ1_indexOf_4cfef_24 : decode cJ1_indexOf_4cfef 24 = .ok (.if_icmp .lt 5, 3) := by decide +kernel
theorem dJ1_indexOf_4cfef_27 : decode cJ1_indexOf_4cfef 27 = .ok (.iconst (-1), 1) := by decide +kernel
theorem dJ1_indexOf_4cfef_28 : decode cJ1_indexOf_4cfef 28 = .ok (.ireturn, 1) := by decide +kernel
theorem dJ1_indexOf_4cfef_29 : decode cJ1_indexOf_4cfef 29 = .ok (.aload_n 0, 1) := by decide +kernel
theorem dJ1_indexOf_4cfef_30 : decode cJ1_indexOf_4cfef 30 = .ok (.iload_n 1, 1) := by decide +kernel
theorem dJ1_indexOf_4cfef_31 : decode cJ1_indexOf_4cfef 31 = .ok (.iload_n 2, 1) := by decide +kernel
theorem dJ1_indexOf_4cfef_32 : decode cJ1_indexOf_4cfef 32 = .ok (.iload_n 3, 1) := by decide +kernel
theorem dJ1_indexOf_4cfef_33 : decode cJ1_indexOf_4cfef 33 = .ok (.invokestatic 95, 3) := by decide +kernel
theorem dJ1_indexOf_4cfef_36 : decode cJ1_indexOf_4cfef 36 = .ok (.ireturn, 1) := by decide +kernel
set_option maxRecDepth 20000 in
theorem yy_J0_indexOf_7cf53 : zY yJ0_indexOf_7cf53 cJ0_indexOf_7cf53 3 (some .int) 2 := ⟨(zGT_in zch4 50 rfl rfl), (zGT_in zch1 15 rfl rfl), by decide +kernel, by decide +kernel, by decide +kernel, by decide⟩
set_option maxRecDepth 20000 in
theorem yv_J0_indexOf_7cf53 : zYv yJ0_indexOf_7cf53 := ⟨(zGT_in zch4 48 rfl rfl), (zGT_in zch4 49 rfl rfl)⟩
theorem dJ0_indexOf_7cf53_0 : decode cJ0_indexOf_7cf53 0 = .ok (.aload_n 0, 1) := by decide +kernel
theorem dJ0_indexOf_7cf53_1 : decode cJ0_indexOf_7cf53 1 = .ok (.invokevirtual 492, 3) := by decide +kernel
theorem dJ0_indexOf_7cf53_4 : decode cJ0_indexOf_7cf53 4 = .ok (.ifCond .eq 19, 3) := by decide +kernel
theorem dJ0_indexOf_7cf53_7 : decode cJ0_indexOf_7cf53 7 = .ok (.aload_n 0, 1) := by decide +kernel
theorem dJ0_indexOf_7cf53_8 : decode cJ0_indexOf_7cf53 8 = .ok (.getfield 9, 3) := by decide +kernel
theorem dJ0_indexOf_7cf53_11 : decode cJ0_indexOf_7cf53 11 = .ok (.iload_n 1, 1) := by decide +kernel
theorem dJ0_indexOf_7cf53_12 : decode cJ0_indexOf_7cf53 12 = .ok (.iload_n 2, 1) := by decide +kernel
theorem dJ0_indexOf_7cf53_13 : decode cJ0_indexOf_7cf53 13 = .ok (.aload_n 0, 1) := by decide +kernel
theorem dJ0_indexOf_7cf53_14 : decode cJ0_indexOf_7cf53 14 = .ok (.invokevirtual 505, 3) := by decide +kernel
theorem dJ0_indexOf_7cf53_17 : decode cJ0_indexOf_7cf53 17 = .ok (.invokestatic 637, 3) := by decide +kernel
theorem dJ0_indexOf_7cf53_20 : decode cJ0_indexOf_7cf53 20 = .ok (.goto 16, 3) := by decide +kernel
theorem dJ0_indexOf_7cf53_23 : decode cJ0_indexOf_7cf53 23 = .ok (.aload_n 0, 1) := by decide +kernel
theorem dJ0_indexOf_7cf53_24 : decode cJ0_indexOf_7cf53 24 = .ok (.getfield 9, 3) := by decide +kernel
theorem dJ0_indexOf_7cf53_27 : decode cJ0_indexOf_7cf53 27 = .ok (.iload_n 1, 1) := by decide +kernel
theorem dJ0_indexOf_7cf53_28 : decode cJ0_indexOf_7cf53 28 = .ok (.iload_n 2, 1) := by decide +kernel
theorem dJ0_indexOf_7cf53_29 : decode cJ0_indexOf_7cf53 29 = .ok (.aload_n 0, 1) := by decide +kernel
theorem dJ0_indexOf_7cf53_30 : decode cJ0_indexOf_7cf53 30 = .ok (.invokevirtual 505, 3) := by decide +kernel
theorem dJ0_indexOf_7cf53_33 : decode cJ0_indexOf_7cf53 33 = .ok (.invokestatic 640, 3) := by decide +kernel
theorem dJ0_indexOf_7cf53_36 : decode cJ0_indexOf_7cf53 36 = .ok (.ireturn, 1) := by decide +kernel
set_option maxRecDepth 20000 in
theorem yy_J0_indexOf_0f7a4 : zY yJ0_indexOf_0f7a4 cJ0_indexOf_0f7a4 2 (some .int) 1 := ⟨(zGT_in zch4 46 rfl rfl), (zGT_in zch1 15 rfl rfl), by decide +kernel, by decide +kernel, by decide +kernel, by decide⟩
set_option maxRecDepth 20000 in
theorem yv_J0_indexOf_0f7a4 : zYv yJ0_indexOf_0f7a4 := ⟨(zGT_in zch4 44 rfl rfl), (zGT_in zch4 45 rfl rfl)⟩
theorem dJ0_indexOf_0f7a4_0 : decode cJ0_indexOf_0f7a4 0 = .ok (.aload_n 0, 1) := by decide +kernel
theorem dJ0_indexOf_0f7a4_1 : decode cJ0_indexOf_0f7a4 1 = .ok (.iload_n 1, 1) := by decide +kernel
theorem dJ0_indexOf_0f7a4_2 : decode cJ0_indexOf_0f7a4 2 = .ok (.iconst 0, 1) := by decide +kernel
theorem dJ0_indexOf_0f7a4_3 : decode cJ0_indexOf_0f7a4 3 = .ok (.invokevirtual 633, 3) := by decide +kernel
theorem dJ0_indexOf_0f7a4_6 : decode cJ0_indexOf_0f7a4 6 = .ok (.ireturn, 1) := by decide +kernel
set_option maxRecDepth 20000 in
theorem lk_X10_77 : Cond.methodLink RX10 77 yJ0_length_8abf5 ∈ zGT := (zGT_in zch3 200 rfl rfl)
set_option maxRecDepth 20000 in
theorem lk_X10_83 : Cond.methodLink RX10 83 yJ0_charAt_5068e ∈ zGT := (zGT_in zch3 210 rfl rfl)
set_option maxRecDepth 20000 in
theorem lk_X10_92 : Cond.methodLink RX10 92 yJ0_indexOf_0f7a4 ∈ zGT := (zGT_in zch4 43 rfl rfl)
set_option maxRecDepth 20000 in
theorem lk_J0_335 : Cond.methodLink RJ0 335 yJ0_coder_7d493 ∈ zGT := (zGT_in zch3 204 rfl rfl)
set_option maxRecDepth 20000 in
theorem lk_J0_492 : Cond.methodLink RJ0 492 yJ0_isLatin1_aae02 ∈ zGT := (zGT_in zch3 214 rfl rfl)
set_option maxRecDepth 20000 in
theorem lk_J0_495 : Cond.methodLink RJ0 495 yJ1_charAt_3b067 ∈ zGT := (zGT_in zch3 218 rfl rfl)
set_option maxRecDepth 20000 in
theorem lk_J1_9 : Cond.methodLink RJ1 9 yJ0_checkIndex_df160 ∈ zGT := (zGT_in zch3 221 rfl rfl)
set_option maxRecDepth 20000 in
theorem lk_J0_1059 : Cond.methodLink RJ0 1059 yJ3_checkIndex_8e157 ∈ zGT := (zGT_in zch3 226 rfl rfl)
set_option maxRecDepth 20000 in
theorem lk_J0_633 : Cond.methodLink RJ0 633 yJ0_indexOf_7cf53 ∈ zGT := (zGT_in zch4 47 rfl rfl)
set_option maxRecDepth 20000 in
theorem lk_J0_505 : Cond.methodLink RJ0 505 yJ0_length_8abf5 ∈ zGT := (zGT_in zch4 51 rfl rfl)
set_option maxRecDepth 20000 in
theorem lk_J0_637 : Cond.methodLink RJ0 637 yJ1_indexOf_4cfef ∈ zGT := (zGT_in zch4 52 rfl rfl)
set_option maxRecDepth 20000 in
theorem lk_J1_88 : Cond.methodLink RJ1 88 yJ1_canEncode_9a6ad ∈ zGT := (zGT_in zch4 55 rfl rfl)
set_option maxRecDepth 20000 in
theorem lk_J1_92 : Cond.methodLink RJ1 92 Lib.Math.max.name ∈ zGT := (zGT_in zch4 58 rfl rfl)
set_option maxRecDepth 20000 in
theorem lk_J1_38 : Cond.methodLink RJ1 38 Lib.Math.min.name ∈ zGT := (zGT_in zch4 59 rfl rfl)
set_option maxRecDepth 20000 in
theorem lk_J1_95 : Cond.methodLink RJ1 95 yJ1_indexOfChar_4cfef ∈ zGT := (zGT_in zch4 62 rfl rfl)
set_option maxRecDepth 20000 in
theorem fl_J0_38 : Cond.fieldLink RJ0 38 "java/lang/String" "COMPACT_STRINGS" "Z" ∈ zGT := (zGT_in zch3 208 rfl rfl)
set_option maxRecDepth 20000 in
theorem fl_J0_15 : Cond.fieldLink RJ0 15 "java/lang/String" "coder" "B" ∈ zGT := (zGT_in zch9 198 rfl rfl)
set_option maxRecDepth 20000 in
theorem fl_J0_9 : Cond.fieldLink RJ0 9 "java/lang/String" "value" "[B" ∈ zGT := (zGT_in zch9 197 rfl rfl)
set_option maxRecDepth 20000 in
theorem fl_J0_1053 : Cond.fieldLink RJ0 1053 "jdk/internal/util/Preconditions" "SIOOBE_FORMATTER" "Ljava/util/function/BiFunction;" ∈ zGT := (zGT_in zch3 224 rfl rfl)

section ZJDK
variable {E : zE} {sh : zSh} {f : Nat} {t : zS}
theorem ctJ0_coder {w : Nat} (hw : w < 2) : zM E sh f yJ0_coder_7d493 cJ0_coder_7d493 1 (some .byte) [.ref (zsk E w)] t (0, t) := by
  refine zM_of (by decide) (Nat.le_of_ble_eq_true rfl) (fun C => ?_)
  show zJ E sh C cJ0_coder_7d493 RJ0 1 f (some .byte) (0, t) t 0 [(0, .ref (zsk E w))] []
  refine z_gets fl_J0_38 dJ0_coder_7d493_0 ?_
  refine z_if_eq (tgt := 13) dJ0_coder_7d493_3 (by decide) (fun h => absurd h (by decide)) (fun _ => ?_)
  refine z_aload_n 0 dJ0_coder_7d493_6 rfl rfl ?_
  refine z_scod hw fl_J0_15 dJ0_coder_7d493_7 ?_
  refine z_goto (tgt := 14) dJ0_coder_7d493_10 (by decide) ?_
  exact z_nret rfl rfl dJ0_coder_7d493_14
theorem ctJ0_isLatin1 {w : Nat} (hw : w < 2) : zM E sh f yJ0_isLatin1_aae02 cJ0_isLatin1_aae02 1 (some .boolean) [.ref (zsk E w)] t (1, t) := by
  refine zM_of (by decide) (Nat.le_of_ble_eq_true rfl) (fun C => ?_)
  show zJ E sh C cJ0_isLatin1_aae02 RJ0 1 f (some .boolean) (1, t) t 0 [(0, .ref (zsk E w))] []
  refine z_gets fl_J0_38 dJ0_isLatin1_aae02_0 ?_
  refine z_if_eq (tgt := 17) dJ0_isLatin1_aae02_3 (by decide) (fun h => absurd h (by decide)) (fun _ => ?_)
  refine z_aload_n 0 dJ0_isLatin1_aae02_6 rfl rfl ?_
  refine z_scod hw fl_J0_15 dJ0_isLatin1_aae02_7 ?_
  refine z_if_ne (tgt := 17) dJ0_isLatin1_aae02_10 (by decide) (fun h => absurd rfl h) (fun _ => ?_)
  refine z_iconst (v := 1) dJ0_isLatin1_aae02_13 (by decide) ?_
  refine z_goto (tgt := 18) dJ0_isLatin1_aae02_14 (by decide) ?_
  exact z_nret rfl rfl dJ0_isLatin1_aae02_18
theorem ctJ0_length {w : Nat} (hw : w < 2) (hf : 1 ≤ f) : zM E sh f yJ0_length_8abf5 cJ0_length_8abf5 1 (some .int) [.ref (zsk E w)] t (Int32.ofNat (zsb w).length, t) := by
  refine zM_of (by decide) (Nat.le_of_ble_eq_true rfl) (fun C => ?_)
  show zJ E sh C cJ0_length_8abf5 RJ0 1 f (some .int) (Int32.ofNat (zsb w).length, t) t 0 [(0, .ref (zsk E w))] []
  refine z_aload_n 0 dJ0_length_8abf5_0 rfl rfl ?_
  refine z_sval hw fl_J0_9 dJ0_length_8abf5_1 ?_
  refine z_slenA hw rfl dJ0_length_8abf5_4 ?_
  refine z_aload_n 0 dJ0_length_8abf5_5 rfl rfl ?_
  refine z_callVs hw rfl (ctJ0_coder (f := f - 1) hw) yy_J0_coder_7d493 yv_J0_coder_7d493 lk_J0_335 (by omega) rfl rfl (Nat.le_of_ble_eq_true rfl) dJ0_length_8abf5_6 ?_
  refine z_ishr dJ0_length_8abf5_9 ?_
  refine z_iret ?_ dJ0_length_8abf5_10
  rcases (show w = 0 ∨ w = 1 by omega) with rfl | rfl <;> rfl
theorem ctJ3_checkIndex {i n : Int32} {v : Value} (hv : v = .null ∨ ∃ q, v = .ref q) (h0 : 0 ≤ i) (h1 : i < n) : zM E sh f yJ3_checkIndex_8e157 cJ3_checkIndex_8e157 3 (some .int) [.int i, .int n, v] t (i, t) := by
  have key : ∀ (v : Value) (lv : List (Nat × Value)), lv_args 0 [.int i, .int n, v] = lv → lv[0]? = some (0, .int i) → lv[1]? = some (1, .int n) → (lg_sl [.int i, .int n, v]).length ≤ 3 → zM E sh f yJ3_checkIndex_8e157 cJ3_checkIndex_8e157 3 (some .int) [.int i, .int n, v] t (i, t) := by
    intro v lv e1 e2 e3 e4
    refine zM_of (by decide) e4 (fun C => ?_)
    rw [e1]
    show zJ E sh C cJ3_checkIndex_8e157 RJ3 3 f (some .int) (i, t) t 0 lv []
    refine z_iload_n 0 dJ3_checkIndex_8e157_0 rfl e2 ?_
    refine z_if_lt (tgt := 9) dJ3_checkIndex_8e157_1 (by decide) (fun h => absurd h (Int32.not_lt.mpr h0)) (fun _ => ?_)
    refine z_iload_n 0 dJ3_checkIndex_8e157_4 rfl e2 ?_
    refine z_iload_n 1 dJ3_checkIndex_8e157_5 rfl e3 ?_
    refine z_icmp_lt (tgt := 16) dJ3_checkIndex_8e157_6 (by decide) (fun _ => ?_) (fun h => absurd h1 h)
    refine z_iload_n 0 dJ3_checkIndex_8e157_16 rfl e2 ?_
    exact z_iret rfl dJ3_checkIndex_8e157_17
  rcases hv with rfl | ⟨q, rfl⟩
  · exact key .null _ rfl rfl rfl (Nat.le_of_ble_eq_true rfl)
  · exact key (.ref q) _ rfl rfl rfl (Nat.le_of_ble_eq_true rfl)
theorem ctJ0_checkIndex {i n : Int32} (hf : 1 ≤ f) (h0 : 0 ≤ i) (h1 : i < n) : zM E sh f yJ0_checkIndex_df160 cJ0_checkIndex_df160 2 none [.int i, .int n] t (0, t) := by
  refine zM_of (by decide) (Nat.le_of_ble_eq_true rfl) (fun C => ?_)
  show zJ E sh C cJ0_checkIndex_df160 RJ0 2 f none (0, t) t 0 [(0, .int i), (1, .int n)] []
  refine z_iload_n 0 dJ0_checkIndex_df160_0 rfl rfl ?_
  refine z_iload_n 1 dJ0_checkIndex_df160_1 rfl rfl ?_
  refine z_getq fl_J0_1053 dJ0_checkIndex_df160_2 (fun v hv => ?_)
  refine z_callSi (ctJ3_checkIndex (f := f - 1) hv h0 h1) yy_J3_checkIndex_8e157 yv_J3_checkIndex_8e157 lk_J0_1059 (by omega) rfl rfl (Nat.le_of_ble_eq_true rfl) dJ0_checkIndex_df160_5 ?_
  refine z_pop dJ0_checkIndex_df160_8 rfl ?_
  exact z_vret rfl dJ0_checkIndex_df160_9
theorem zin_lt {i : Int32} {n : Nat} (h : zin i n) (hn : n < 2147483648) : i < Int32.ofNat n := by
  have h2 : i.toNatClampNeg < n := h.2
  have h1 : (0 : Int32) ≤ i := h.1
  rw [Int32.lt_iff_toInt_lt, Int32.toInt_ofNat_of_lt (by omega)]
  have h3 : i.toNatClampNeg = i.toInt.toNat := rfl
  omega
theorem zsb_len {w : Nat} : (zsb w).length < 2147483648 := by
  unfold zsb
  by_cases h : w = 0 <;> simp [h]
theorem zsb_ok {w : Nat} (hw : w < 2) (k : Nat) : (((zsb w).getD k 0 &&& 255).toUInt32 % 65536).toInt32 = (zsb w).getD k 0 ∧ narrow .char (.int ((zsb w).getD k 0)) = .int ((zsb w).getD k 0) := by
  have h0 : ∀ b ∈ (0 : Int32) :: zsb 0, ((b &&& 255).toUInt32 % 65536).toInt32 = b ∧ narrow .char (.int b) = .int b := by decide +kernel
  have h1 : ∀ b ∈ (0 : Int32) :: zsb 1, ((b &&& 255).toUInt32 % 65536).toInt32 = b ∧ narrow .char (.int b) = .int b := by decide +kernel
  have hm : (zsb w).getD k 0 ∈ (0 : Int32) :: zsb w := by
    rw [List.getD_eq_getElem?_getD]
    cases h : (zsb w)[k]? with
    | none => exact List.mem_cons_self
    | some x => exact List.mem_cons_of_mem _ (List.mem_of_getElem? h)
  rcases (show w = 0 ∨ w = 1 by omega) with rfl | rfl
  · exact h0 _ hm
  · exact h1 _ hm
theorem ctJ1_charAt {w : Nat} (hw : w < 2) {i : Int32} (hf : 2 ≤ f) (hi : zin i (zsb w).length) : zM E sh f yJ1_charAt_3b067 cJ1_charAt_3b067 2 (some .char) [.ref (zsv E w), .int i] t ((zsb w).getD i.toNatClampNeg 0, t) := by
  refine zM_of (by decide) (Nat.le_of_ble_eq_true rfl) (fun C => ?_)
  show zJ E sh C cJ1_charAt_3b067 RJ1 2 f (some .char) ((zsb w).getD i.toNatClampNeg 0, t) t 0 [(0, .ref (zsv E w)), (1, .int i)] []
  refine z_iload_n 1 dJ1_charAt_3b067_0 rfl rfl ?_
  refine z_aload_n 0 dJ1_charAt_3b067_1 rfl rfl ?_
  refine z_slenA hw rfl dJ1_charAt_3b067_2 ?_
  refine z_callSv (ctJ0_checkIndex (f := f - 1) (by omega) hi.1 (zin_lt hi zsb_len)) yy_J0_checkIndex_df160 yv_J0_checkIndex_df160 lk_J1_9 (by omega) rfl rfl (Nat.le_of_ble_eq_true rfl) dJ1_charAt_3b067_3 ?_
  refine z_aload_n 0 dJ1_charAt_3b067_6 rfl rfl ?_
  refine z_iload_n 1 dJ1_charAt_3b067_7 rfl rfl ?_
  refine z_sld hw hi dJ1_charAt_3b067_8 ?_
  refine z_sipush (v := 255) dJ1_charAt_3b067_9 (by decide) ?_
  refine z_iand dJ1_charAt_3b067_12 ?_
  refine z_i2c dJ1_charAt_3b067_13 (zsb_ok hw _).1 ?_
  exact z_nret rfl (zsb_ok hw _).2 dJ1_charAt_3b067_14
theorem ctJ0_charAt {w : Nat} (hw : w < 2) {i : Int32} (hf : 3 ≤ f) (hi : zin i (zsb w).length) : zM E sh f yJ0_charAt_5068e cJ0_charAt_5068e 2 (some .char) [.ref (zsk E w), .int i] t ((zsb w).getD i.toNatClampNeg 0, t) := by
  refine zM_of (by decide) (Nat.le_of_ble_eq_true rfl) (fun C => ?_)
  show zJ E sh C cJ0_charAt_5068e RJ0 2 f (some .char) ((zsb w).getD i.toNatClampNeg 0, t) t 0 [(0, .ref (zsk E w)), (1, .int i)] []
  refine z_aload_n 0 dJ0_charAt_5068e_0 rfl rfl ?_
  refine z_callVs hw rfl (ctJ0_isLatin1 (f := f - 1) hw) yy_J0_isLatin1_aae02 yv_J0_isLatin1_aae02 lk_J0_492 (by omega) rfl rfl (Nat.le_of_ble_eq_true rfl) dJ0_charAt_5068e_1 ?_
  refine z_if_eq (tgt := 16) dJ0_charAt_5068e_4 (by decide) (fun h => absurd h (by decide)) (fun _ => ?_)
  refine z_aload_n 0 dJ0_charAt_5068e_7 rfl rfl ?_
  refine z_sval hw fl_J0_9 dJ0_charAt_5068e_8 ?_
  refine z_iload_n 1 dJ0_charAt_5068e_11 rfl rfl ?_
  refine z_callSi (ctJ1_charAt (f := f - 1) hw (by omega) hi) yy_J1_charAt_3b067 yv_J1_charAt_3b067 lk_J0_495 (by omega) rfl rfl (Nat.le_of_ble_eq_true rfl) dJ0_charAt_5068e_12 ?_
  exact z_nret rfl (zsb_ok hw _).2 dJ0_charAt_5068e_15
def zcan (x : Int32) : Int32 := if x < 0 then 0 else if 255 < x then 0 else 1
theorem ctJ1_canEncode {x : Int32} : zM E sh f yJ1_canEncode_9a6ad cJ1_canEncode_9a6ad 1 (some .boolean) [.int x] t (zcan x, t) := by
  refine zM_of (by decide) (Nat.le_of_ble_eq_true rfl) (fun C => ?_)
  show zJ E sh C cJ1_canEncode_9a6ad RJ1 1 f (some .boolean) (zcan x, t) t 0 [(0, .int x)] []
  refine z_iload_n 0 dJ1_canEncode_9a6ad_0 rfl rfl ?_
  refine z_if_lt (tgt := 15) dJ1_canEncode_9a6ad_1 (by decide) (fun h => ?_) (fun h => ?_)
  · refine z_iconst (v := 0) dJ1_canEncode_9a6ad_15 (by decide) ?_
    exact z_zret (by rw [zcan, if_pos h]) (Or.inl rfl) dJ1_canEncode_9a6ad_16
  · refine z_iload_n 0 dJ1_canEncode_9a6ad_4 rfl rfl ?_
    refine z_sipush (v := 255) dJ1_canEncode_9a6ad_5 (by decide) ?_
    refine z_icmp_gt (tgt := 15) dJ1_canEncode_9a6ad_8 (by decide) (fun h2 => ?_) (fun h2 => ?_)
    · refine z_iconst (v := 0) dJ1_canEncode_9a6ad_15 (by decide) ?_
      exact z_zret (by rw [zcan, if_neg h, if_pos h2]) (Or.inl rfl) dJ1_canEncode_9a6ad_16
    · refine z_iconst (v := 1) dJ1_canEncode_9a6ad_11 (by decide) ?_
      refine z_goto (tgt := 16) dJ1_canEncode_9a6ad_12 (by decide) ?_
      exact z_zret (by rw [zcan, if_neg h, if_neg h2]) (Or.inr rfl) dJ1_canEncode_9a6ad_16
theorem zofn {k : Nat} (h : k < 2147483648) : (0 : Int32) ≤ Int32.ofNat k ∧ (Int32.ofNat k).toNatClampNeg = k := by
  have h1 : (Int32.ofNat k).toInt = (k : Int) := Int32.toInt_ofNat_of_lt (by omega)
  have h3 : (Int32.ofNat k).toNatClampNeg = (Int32.ofNat k).toInt.toNat := rfl
  refine ⟨?_, ?_⟩
  · rw [Int32.le_iff_toInt_le, h1]
    show (0 : Int) ≤ (k : Int)
    omega
  · rw [h3, h1]; omega
theorem zofn_of {x : Int32} (h : 0 ≤ x) : x = Int32.ofNat x.toNatClampNeg := by
  have h3 : x.toNatClampNeg = x.toInt.toNat := rfl
  have h4 : x.toInt < 2147483648 := Int32.toInt_lt x
  have h5 : (0 : Int) ≤ x.toInt := by
    have := Int32.le_iff_toInt_le.mp h
    exact this
  apply Int32.toInt_inj.mp
  rw [Int32.toInt_ofNat_of_lt (by omega)]
  omega
theorem ctJ1_ixLoop {C : zC} {w : Nat} (hw : w < 2) {c r : Int32} (l : List Int32) : ∀ (k : Nat) (i : Int32), i = Int32.ofNat k → k ≤ (zsb w).length → (zsb w).drop k = l → zsixF c l k = r → zJ E sh C cJ1_indexOfChar_4cfef RJ1 6 f (some .int) (r, t) t 7 [(5, .int i), (4, .int c), (0, .ref (zsv E w)), (3, .int (Int32.ofNat (zsb w).length))] [] := by
  induction l with
  | nil =>
    intro k i hi hk0 hl hr
    have hk : (zsb w).length ≤ k := List.drop_eq_nil_iff.mp hl
    refine z_iload 0 dJ1_indexOfChar_4cfef_7 rfl ?_
    refine z_iload_n 3 dJ1_indexOfChar_4cfef_9 rfl rfl ?_
    refine z_icmp_ge (tgt := 31) dJ1_indexOfChar_4cfef_10 (by decide) (fun _ => ?_) (fun hn => ?_)
    · refine z_iconst (v := -1) dJ1_indexOfChar_4cfef_31 (by decide) ?_
      exact z_iret (by rw [← hr]; rfl) dJ1_indexOfChar_4cfef_32
    · exact absurd (by rw [hi, Nat.le_antisymm hk hk0]; exact Int32.le_refl _) hn
  | cons b l ih =>
    intro k i hi hk0 hl hr
    have hb : (zsb w)[k]? = some b := by
      have := congrArg List.head? hl
      rw [List.head?_drop] at this
      exact this
    have hkl : k < (zsb w).length := (List.getElem?_eq_some_iff.mp hb).1
    have hlen := zsb_len (w := w)
    obtain ⟨p1, p2⟩ := zofn (k := k) (by omega)
    have hin : zin i (zsb w).length := by rw [hi]; exact ⟨p1, by rw [p2]; exact hkl⟩
    have hv : (zsb w).getD i.toNatClampNeg 0 = b := by rw [hi, p2, List.getD_eq_getElem?_getD, hb]; rfl
    refine z_iload 0 dJ1_indexOfChar_4cfef_7 rfl ?_
    refine z_iload_n 3 dJ1_indexOfChar_4cfef_9 rfl rfl ?_
    refine z_icmp_ge (tgt := 31) dJ1_indexOfChar_4cfef_10 (by decide) (fun hge => absurd (zin_lt hin hlen) (Int32.not_lt.mpr hge)) (fun hn => ?_)
    refine z_aload_n 2 dJ1_indexOfChar_4cfef_13 rfl rfl ?_
    refine z_iload 0 dJ1_indexOfChar_4cfef_14 rfl ?_
    refine z_sld hw hin dJ1_indexOfChar_4cfef_16 ?_
    rw [hv]
    refine z_iload 1 dJ1_indexOfChar_4cfef_17 rfl ?_
    refine z_icmp_ne (tgt := 25) dJ1_indexOfChar_4cfef_19 (by decide) (fun hne => ?_) (fun heq => ?_)
    · rw [zsixF, if_neg hne] at hr
      refine z_iinc (v := i + 1) (lv' := [(5, .int (i + 1)), (4, .int c), (0, .ref (zsv E w)), (3, .int (Int32.ofNat (zsb w).length))]) (k := 0) dJ1_indexOfChar_4cfef_25 rfl rfl (by decide) rfl ?_
      refine z_goto (tgt := 7) dJ1_indexOfChar_4cfef_28 (by decide) ?_
      refine ih (k + 1) (i + 1) ?_ hkl ?_ hr
      · rw [hi]; exact (nI_1 k)
      · rw [← List.drop_drop, hl]; rfl
    · rw [zsixF, if_pos heq] at hr
      refine z_iload 0 dJ1_indexOfChar_4cfef_22 rfl ?_
      exact z_iret (by rw [← hr, hi]) dJ1_indexOfChar_4cfef_24
theorem ctJ1_indexOfChar {w : Nat} (hw : w < 2) {x : Int32} : zM E sh f yJ1_indexOfChar_4cfef cJ1_indexOfChar_4cfef 6 (some .int) [.ref (zsv E w), .int x, .int 0, .int (Int32.ofNat (zsb w).length)] t (zsixF x.toInt8.toInt32 (zsb w) 0, t) := by
  refine zM_of (by decide) (Nat.le_of_ble_eq_true rfl) (fun C => ?_)
  show zJ E sh C cJ1_indexOfChar_4cfef RJ1 6 f (some .int) (zsixF x.toInt8.toInt32 (zsb w) 0, t) t 0 [(0, .ref (zsv E w)), (1, .int x), (2, .int 0), (3, .int (Int32.ofNat (zsb w).length))] []
  refine z_iload_n 1 dJ1_indexOfChar_4cfef_0 rfl rfl ?_
  refine z_i2b dJ1_indexOfChar_4cfef_1 rfl ?_
  refine z_istore (lv' := [(4, .int x.toInt8.toInt32), (0, .ref (zsv E w)), (1, .int x), (2, .int 0), (3, .int (Int32.ofNat (zsb w).length))]) dJ1_indexOfChar_4cfef_2 (by decide) rfl ?_
  refine z_iload_n 3 dJ1_indexOfChar_4cfef_4 rfl rfl ?_
  refine z_istore (lv' := [(5, .int 0), (4, .int x.toInt8.toInt32), (0, .ref (zsv E w)), (1, .int x), (2, .int 0), (3, .int (Int32.ofNat (zsb w).length))]) dJ1_indexOfChar_4cfef_5 (by decide) rfl ?_
  refine z_sub [0, 1, 2, 5] rfl ?_
  exact ctJ1_ixLoop hw (zsb w) 0 0 rfl (Nat.zero_le _) rfl rfl
theorem zsixF_congr {c x : Int32} : ∀ (l : List Int32) (k : Nat), (∀ b ∈ l, b = c ↔ b = x) → zsixF c l k = zsixF x l k := by
  intro l
  induction l with
  | nil => intro k _; rfl
  | cons b l ih =>
    intro k h
    rw [zsixF, zsixF, ih (k + 1) (fun b hb => h b (List.mem_cons_of_mem _ hb))]
    by_cases q : b = c
    · rw [if_pos q, if_pos ((h b List.mem_cons_self).mp q)]
    · rw [if_neg q, if_neg (fun e => q ((h b List.mem_cons_self).mpr e))]
theorem zsixF_none {x : Int32} : ∀ (l : List Int32) (k : Nat), (∀ b ∈ l, ¬ b = x) → zsixF x l k = -1 := by
  intro l
  induction l with
  | nil => intro k _; rfl
  | cons b l ih =>
    intro k h
    rw [zsixF, if_neg (h b List.mem_cons_self)]
    exact ih (k + 1) (fun b hb => h b (List.mem_cons_of_mem _ hb))
theorem zsb_rng {w : Nat} (hw : w < 2) : ∀ b ∈ zsb w, 0 ≤ b ∧ b ≤ 127 := by
  have h0 : ∀ b ∈ zsb 0, 0 ≤ b ∧ b ≤ 127 := by decide +kernel
  have h1 : ∀ b ∈ zsb 1, 0 ≤ b ∧ b ≤ 127 := by decide +kernel
  rcases (show w = 0 ∨ w = 1 by omega) with rfl | rfl
  · exact h0
  · exact h1
theorem zsix_can0 {w : Nat} (hw : w < 2) {x : Int32} (h : zcan x = 0) : zsix w x = -1 := by
  apply zsixF_none
  intro b hb e
  obtain ⟨r1, r2⟩ := zsb_rng hw b hb
  subst e
  unfold zcan at h
  rw [if_neg (Int32.not_lt.mpr r1)] at h
  by_cases q : (255 : Int32) < b
  · have : (255 : Int32) < 127 := Int32.lt_of_lt_of_le q r2
    exact absurd this (by decide)
  · rw [if_neg q] at h
    exact absurd h (by decide)
theorem zsix_can1 {w : Nat} (hw : w < 2) {x : Int32} (h : ¬ zcan x = 0) : zsixF x.toInt8.toInt32 (zsb w) 0 = zsix w x := by
  unfold zcan at h
  by_cases q : x < 0
  · rw [if_pos q] at h; exact absurd rfl h
  rw [if_neg q] at h
  by_cases q2 : (255 : Int32) < x
  · rw [if_pos q2] at h; exact absurd rfl h
  have hx0 : 0 ≤ x := Int32.not_lt.mp q
  have hx1 : x ≤ 255 := Int32.not_lt.mp q2
  have e := zofn_of hx0
  have hn : x.toNatClampNeg < 256 := by
    have h3 : x.toNatClampNeg = x.toInt.toNat := rfl
    have := Int32.le_iff_toInt_le.mp hx1
    have h255 : (255 : Int32).toInt = 255 := by decide
    omega
  have k0 : ∀ n, n < 256 → ∀ b ∈ zsb 0, b = (Int32.ofNat n).toInt8.toInt32 ↔ b = Int32.ofNat n := by decide +kernel
  have k1 : ∀ n, n < 256 → ∀ b ∈ zsb 1, b = (Int32.ofNat n).toInt8.toInt32 ↔ b = Int32.ofNat n := by decide +kernel
  apply zsixF_congr
  rw [e]
  rcases (show w = 0 ∨ w = 1 by omega) with rfl | rfl
  · exact k0 _ hn
  · exact k1 _ hn
theorem ctJ1_indexOf {w : Nat} (hw : w < 2) {x : Int32} (hf : 1 ≤ f) : zM E sh f yJ1_indexOf_4cfef cJ1_indexOf_4cfef 4 (some .int) [.ref (zsv E w), .int x, .int 0, .int (Int32.ofNat (zsb w).length)] t (zsix w x, t) := by
  refine zM_of (by decide) (Nat.le_of_ble_eq_true rfl) (fun C => ?_)
  show zJ E sh C cJ1_indexOf_4cfef RJ1 4 f (some .int) (zsix w x, t) t 0 [(0, .ref (zsv E w)), (1, .int x), (2, .int 0), (3, .int (Int32.ofNat (zsb w).length))] []
  refine z_iload_n 1 dJ1_indexOf_4cfef_0 rfl rfl ?_
  refine z_callSi (ctJ1_canEncode (f := f - 1)) yy_J1_canEncode_9a6ad yv_J1_canEncode_9a6ad lk_J1_88 (by omega) rfl rfl (Nat.le_of_ble_eq_true rfl) dJ1_indexOf_4cfef_1 ?_
  refine z_if_ne (tgt := 9) dJ1_indexOf_4cfef_4 (by decide) (fun hc => ?_) (fun hc => ?_)
  · refine z_iload_n 2 dJ1_indexOf_4cfef_9 rfl rfl ?_
    refine z_iconst (v := 0) dJ1_indexOf_4cfef_10 (by decide) ?_
    refine z_max lk_J1_92 mm1_max mm2 mm3_max hf (Nat.le_of_ble_eq_true rfl) dJ1_indexOf_4cfef_11 ?_
    rw [if_neg (by decide)]
    refine z_istore_n (lv' := [(2, .int 0), (0, .ref (zsv E w)), (1, .int x), (3, .int (Int32.ofNat (zsb w).length))]) dJ1_indexOf_4cfef_14 rfl (by decide) rfl ?_
    refine z_iload_n 3 dJ1_indexOf_4cfef_15 rfl rfl ?_
    refine z_aload_n 1 dJ1_indexOf_4cfef_16 rfl rfl ?_
    refine z_slenA hw rfl dJ1_indexOf_4cfef_17 ?_
    refine z_min lk_J1_38 mm1_min mm2 mm3_min hf (Nat.le_of_ble_eq_true rfl) dJ1_indexOf_4cfef_18 ?_
    rw [if_neg (Int32.lt_irrefl)]
    refine z_istore_n (lv' := [(3, .int (Int32.ofNat (zsb w).length)), (2, .int 0), (0, .ref (zsv E w)), (1, .int x)]) dJ1_indexOf_4cfef_21 rfl (by decide) rfl ?_
    refine z_iload_n 1 dJ1_indexOf_4cfef_22 rfl rfl ?_
    refine z_iload_n 0 dJ1_indexOf_4cfef_23 rfl rfl ?_
    refine z_icmp_lt (tgt := 29) dJ1_indexOf_4cfef_24 (by decide) (fun _ => ?_) (fun h => ?_)
    · refine z_aload_n 2 dJ1_indexOf_4cfef_29 rfl rfl ?_
      refine z_iload_n 3 dJ1_indexOf_4cfef_30 rfl rfl ?_
      refine z_iload_n 1 dJ1_indexOf_4cfef_31 rfl rfl ?_
      refine z_iload_n 0 dJ1_indexOf_4cfef_32 rfl rfl ?_
      refine z_callSi (ctJ1_indexOfChar (f := f - 1) hw) yy_J1_indexOfChar_4cfef yv_J1_indexOfChar_4cfef lk_J1_95 (by omega) rfl rfl (Nat.le_of_ble_eq_true rfl) dJ1_indexOf_4cfef_33 ?_
      exact z_iret (by rw [zsix_can1 hw hc]) dJ1_indexOf_4cfef_36
    · exfalso
      apply h
      rcases (show w = 0 ∨ w = 1 by omega) with rfl | rfl <;> decide
  · refine z_iconst (v := -1) dJ1_indexOf_4cfef_7 (by decide) ?_
    exact z_iret (by rw [zsix_can0 hw hc]) dJ1_indexOf_4cfef_8
theorem ctJ0_indexOf2 {w : Nat} (hw : w < 2) {x : Int32} (hf : 2 ≤ f) : zM E sh f yJ0_indexOf_7cf53 cJ0_indexOf_7cf53 3 (some .int) [.ref (zsk E w), .int x, .int 0] t (zsix w x, t) := by
  refine zM_of (by decide) (Nat.le_of_ble_eq_true rfl) (fun C => ?_)
  show zJ E sh C cJ0_indexOf_7cf53 RJ0 3 f (some .int) (zsix w x, t) t 0 [(0, .ref (zsk E w)), (1, .int x), (2, .int 0)] []
  refine z_aload_n 0 dJ0_indexOf_7cf53_0 rfl rfl ?_
  refine z_callVs hw rfl (ctJ0_isLatin1 (f := f - 1) hw) yy_J0_isLatin1_aae02 yv_J0_isLatin1_aae02 lk_J0_492 (by omega) rfl rfl (Nat.le_of_ble_eq_true rfl) dJ0_indexOf_7cf53_1 ?_
  refine z_if_eq (tgt := 23) dJ0_indexOf_7cf53_4 (by decide) (fun h => absurd h (by decide)) (fun _ => ?_)
  refine z_aload_n 0 dJ0_indexOf_7cf53_7 rfl rfl ?_
  refine z_sval hw fl_J0_9 dJ0_indexOf_7cf53_8 ?_
  refine z_iload_n 1 dJ0_indexOf_7cf53_11 rfl rfl ?_
  refine z_iload_n 2 dJ0_indexOf_7cf53_12 rfl rfl ?_
  refine z_aload_n 0 dJ0_indexOf_7cf53_13 rfl rfl ?_
  refine z_callVs hw rfl (ctJ0_length (f := f - 1) hw (by omega)) yy_J0_length_8abf5 yv_J0_length_8abf5 lk_J0_505 (by omega) rfl rfl (Nat.le_of_ble_eq_true rfl) dJ0_indexOf_7cf53_14 ?_
  refine z_callSi (ctJ1_indexOf (f := f - 1) hw (by omega)) yy_J1_indexOf_4cfef yv_J1_indexOf_4cfef lk_J0_637 (by omega) rfl rfl (Nat.le_of_ble_eq_true rfl) dJ0_indexOf_7cf53_17 ?_
  refine z_goto (tgt := 36) dJ0_indexOf_7cf53_20 (by decide) ?_
  exact z_iret rfl dJ0_indexOf_7cf53_36
theorem ctJ0_indexOf {w : Nat} (hw : w < 2) {x : Int32} (hf : 3 ≤ f) : zM E sh f yJ0_indexOf_0f7a4 cJ0_indexOf_0f7a4 2 (some .int) [.ref (zsk E w), .int x] t (zsix w x, t) := by
  refine zM_of (by decide) (Nat.le_of_ble_eq_true rfl) (fun C => ?_)
  show zJ E sh C cJ0_indexOf_0f7a4 RJ0 2 f (some .int) (zsix w x, t) t 0 [(0, .ref (zsk E w)), (1, .int x)] []
  refine z_aload_n 0 dJ0_indexOf_0f7a4_0 rfl rfl ?_
  refine z_iload_n 1 dJ0_indexOf_0f7a4_1 rfl rfl ?_
  refine z_iconst (v := 0) dJ0_indexOf_0f7a4_2 (by decide) ?_
  refine z_callVs hw rfl (ctJ0_indexOf2 (f := f - 1) hw (by omega)) yy_J0_indexOf_7cf53 yv_J0_indexOf_7cf53 lk_J0_633 (by omega) rfl rfl (Nat.le_of_ble_eq_true rfl) dJ0_indexOf_0f7a4_3 ?_
  exact z_iret rfl dJ0_indexOf_0f7a4_6
end ZJDK
