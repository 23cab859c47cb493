-- SessionHouseModel.checkCall(II)Z
theorem dX12_checkCall_0 : decode cX12_checkCall 0 = .ok (.aload_n 0, 1) := by decide +kernel
theorem dX12_checkCall_1 : decode cX12_checkCall 1 = .ok (.getfield 58, 3) := by decide +kernel
theorem dX12_checkCall_4 : decode cX12_checkCall 4 = .ok (.iload_n 1, 1) := by decide +kernel
theorem dX12_checkCall_5 : decode cX12_checkCall 5 = .ok (.iaload, 1) := by decide +kernel
theorem dX12_checkCall_6 : decode cX12_checkCall 6 = .ok (.istore_n 3, 1) := by decide +kernel
theorem dX12_checkCall_7 : decode cX12_checkCall 7 = .ok (.aload_n 0, 1) := by decide +kernel
theorem dX12_checkCall_8 : decode cX12_checkCall 8 = .ok (.getfield 49, 3) := by decide +kernel
theorem dX12_checkCall_11 : decode cX12_checkCall 11 = .ok (.iload_n 1, 1) := by decide +kernel
theorem dX12_checkCall_12 : decode cX12_checkCall 12 = .ok (.iaload, 1) := by decide +kernel
theorem dX12_checkCall_13 : decode cX12_checkCall 13 = .ok (.bipush 8, 2) := by decide +kernel
theorem dX12_checkCall_15 : decode cX12_checkCall 15 = .ok (.if_icmp .ne 7, 3) := by decide +kernel
theorem dX12_checkCall_18 : decode cX12_checkCall 18 = .ok (.iconst 1, 1) := by decide +kernel
theorem dX12_checkCall_19 : decode cX12_checkCall 19 = .ok (.goto 4, 3) := by decide +kernel
theorem dX12_checkCall_22 : decode cX12_checkCall 22 = .ok (.iconst 0, 1) := by decide +kernel
theorem dX12_checkCall_23 : decode cX12_checkCall 23 = .ok (.istore 4, 2) := by decide +kernel
theorem dX12_checkCall_25 : decode cX12_checkCall 25 = .ok (.iload 4, 2) := by decide +kernel
theorem dX12_checkCall_27 : decode cX12_checkCall 27 = .ok (.ifCond .eq 7, 3) := by decide +kernel
theorem dX12_checkCall_30 : decode cX12_checkCall 30 = .ok (.iconst 1, 1) := by decide +kernel
theorem dX12_checkCall_31 : decode cX12_checkCall 31 = .ok (.goto 4, 3) := by decide +kernel
theorem dX12_checkCall_34 : decode cX12_checkCall 34 = .ok (.iconst 0, 1) := by decide +kernel
theorem dX12_checkCall_35 : decode cX12_checkCall 35 = .ok (.istore 5, 2) := by decide +kernel
theorem dX12_checkCall_37 : decode cX12_checkCall 37 = .ok (.aload_n 0, 1) := by decide +kernel
theorem dX12_checkCall_38 : decode cX12_checkCall 38 = .ok (.getfield 103, 3) := by decide +kernel
theorem dX12_checkCall_41 : decode cX12_checkCall 41 = .ok (.iload_n 3, 1) := by decide +kernel
theorem dX12_checkCall_42 : decode cX12_checkCall 42 = .ok (.iaload, 1) := by decide +kernel
theorem dX12_checkCall_43 : decode cX12_checkCall 43 = .ok (.aload_n 0, 1) := by decide +kernel
theorem dX12_checkCall_44 : decode cX12_checkCall 44 = .ok (.getfield 67, 3) := by decide +kernel
theorem dX12_checkCall_47 : decode cX12_checkCall 47 = .ok (.iload_n 1, 1) := by decide +kernel
theorem dX12_checkCall_48 : decode cX12_checkCall 48 = .ok (.iaload, 1) := by decide +kernel
theorem dX12_checkCall_49 : decode cX12_checkCall 49 = .ok (.iload 5, 2) := by decide +kernel
theorem dX12_checkCall_51 : decode cX12_checkCall 51 = .ok (.iadd, 1) := by decide +kernel
theorem dX12_checkCall_52 : decode cX12_checkCall 52 = .ok (.if_icmp .ne 22, 3) := by decide +kernel
theorem dX12_checkCall_55 : decode cX12_checkCall 55 = .ok (.iload 4, 2) := by decide +kernel
theorem dX12_checkCall_57 : decode cX12_checkCall 57 = .ok (.ifCond .eq 19, 3) := by decide +kernel
theorem dX12_checkCall_60 : decode cX12_checkCall 60 = .ok (.aload_n 0, 1) := by decide +kernel
theorem dX12_checkCall_61 : decode cX12_checkCall 61 = .ok (.getfield 109, 3) := by decide +kernel
theorem dX12_checkCall_64 : decode cX12_checkCall 64 = .ok (.aload_n 0, 1) := by decide +kernel
theorem dX12_checkCall_65 : decode cX12_checkCall 65 = .ok (.getfield 100, 3) := by decide +kernel
theorem dX12_checkCall_68 : decode cX12_checkCall 68 = .ok (.iload_n 3, 1) := by decide +kernel
theorem dX12_checkCall_69 : decode cX12_checkCall 69 = .ok (.iaload, 1) := by decide +kernel
theorem dX12_checkCall_70 : decode cX12_checkCall 70 = .ok (.iaload, 1) := by decide +kernel
theorem dX12_checkCall_71 : decode cX12_checkCall 71 = .ok (.ifCond .ge 5, 3) := by decide +kernel
theorem dX12_checkCall_74 : decode cX12_checkCall 74 = .ok (.iconst 0, 1) := by decide +kernel
theorem dX12_checkCall_75 : decode cX12_checkCall 75 = .ok (.ireturn, 1) := by decide +kernel
theorem dX12_checkCall_76 : decode cX12_checkCall 76 = .ok (.iconst 0, 1) := by decide +kernel
theorem dX12_checkCall_77 : decode cX12_checkCall 77 = .ok (.istore 6, 2) := by decide +kernel
theorem dX12_checkCall_79 : decode cX12_checkCall 79 = .ok (.iload 6, 2) := by decide +kernel
theorem dX12_checkCall_81 : decode cX12_checkCall 81 = .ok (.aload_n 0, 1) := by decide +kernel
theorem dX12_checkCall_82 : decode cX12_checkCall 82 = .ok (.getfield 67, 3) := by decide +kernel
theorem dX12_checkCall_85 : decode cX12_checkCall 85 = .ok (.iload_n 1, 1) := by decide +kernel
theorem dX12_checkCall_86 : decode cX12_checkCall 86 = .ok (.iaload, 1) := by decide +kernel
theorem dX12_checkCall_87 : decode cX12_checkCall 87 = .ok (.if_icmp .ge 119, 3) := by decide +kernel
theorem dX12_checkCall_90 : decode cX12_checkCall 90 = .ok (.aload_n 0, 1) := by decide +kernel
theorem dX12_checkCall_91 : decode cX12_checkCall 91 = .ok (.getfield 109, 3) := by decide +kernel
theorem dX12_checkCall_94 : decode cX12_checkCall 94 = .ok (.aload_n 0, 1) := by decide +kernel
theorem dX12_checkCall_95 : decode cX12_checkCall 95 = .ok (.getfield 100, 3) := by decide +kernel
theorem dX12_checkCall_98 : decode cX12_checkCall 98 = .ok (.iload_n 3, 1) := by decide +kernel
theorem dX12_checkCall_99 : decode cX12_checkCall 99 = .ok (.iaload, 1) := by decide +kernel
theorem dX12_checkCall_100 : decode cX12_checkCall 100 = .ok (.iload 5, 2) := by decide +kernel
theorem dX12_checkCall_102 : decode cX12_checkCall 102 = .ok (.iadd, 1) := by decide +kernel
theorem dX12_checkCall_103 : decode cX12_checkCall 103 = .ok (.iload 6, 2) := by decide +kernel
theorem dX12_checkCall_105 : decode cX12_checkCall 105 = .ok (.iadd, 1) := by decide +kernel
theorem dX12_checkCall_106 : decode cX12_checkCall 106 = .ok (.iaload, 1) := by decide +kernel
theorem dX12_checkCall_107 : decode cX12_checkCall 107 = .ok (.istore 7, 2) := by decide +kernel
theorem dX12_checkCall_109 : decode cX12_checkCall 109 = .ok (.aload_n 0, 1) := by decide +kernel
theorem dX12_checkCall_110 : decode cX12_checkCall 110 = .ok (.getfield 64, 3) := by decide +kernel
theorem dX12_checkCall_113 : decode cX12_checkCall 113 = .ok (.iload_n 1, 1) := by decide +kernel
theorem dX12_checkCall_114 : decode cX12_checkCall 114 = .ok (.iaload, 1) := by decide +kernel
theorem dX12_checkCall_115 : decode cX12_checkCall 115 = .ok (.iload 6, 2) := by decide +kernel
theorem dX12_checkCall_117 : decode cX12_checkCall 117 = .ok (.iadd, 1) := by decide +kernel
theorem dX12_checkCall_118 : decode cX12_checkCall 118 = .ok (.istore 8, 2) := by decide +kernel
theorem dX12_checkCall_120 : decode cX12_checkCall 120 = .ok (.iload 7, 2) := by decide +kernel
theorem dX12_checkCall_122 : decode cX12_checkCall 122 = .ok (.ifCond .ge 20, 3) := by decide +kernel
theorem dX12_checkCall_125 : decode cX12_checkCall 125 = .ok (.aload_n 0, 1) := by decide +kernel
theorem dX12_checkCall_126 : decode cX12_checkCall 126 = .ok (.aload_n 0, 1) := by decide +kernel
theorem dX12_checkCall_127 : decode cX12_checkCall 127 = .ok (.getfield 82, 3) := by decide +kernel
theorem dX12_checkCall_130 : decode cX12_checkCall 130 = .ok (.iload 8, 2) := by decide +kernel
theorem dX12_checkCall_132 : decode cX12_checkCall 132 = .ok (.iaload, 1) := by decide +kernel
theorem dX12_checkCall_133 : decode cX12_checkCall 133 = .ok (.iload_n 2, 1) := by decide +kernel
theorem dX12_checkCall_134 : decode cX12_checkCall 134 = .ok (.invokevirtual 487, 3) := by decide +kernel
theorem dX12_checkCall_137 : decode cX12_checkCall 137 = .ok (.ifCond .ne 63, 3) := by decide +kernel
theorem dX12_checkCall_140 : decode cX12_checkCall 140 = .ok (.iconst 0, 1) := by decide +kernel
theorem dX12_checkCall_141 : decode cX12_checkCall 141 = .ok (.ireturn, 1) := by decide +kernel
theorem dX12_checkCall_142 : decode cX12_checkCall 142 = .ok (.aload_n 0, 1) := by decide +kernel
theorem dX12_checkCall_143 : decode cX12_checkCall 143 = .ok (.getfield 85, 3) := by decide +kernel
theorem dX12_checkCall_146 : decode cX12_checkCall 146 = .ok (.iload 8, 2) := by decide +kernel
theorem dX12_checkCall_148 : decode cX12_checkCall 148 = .ok (.iaload, 1) := by decide +kernel
theorem dX12_checkCall_149 : decode cX12_checkCall 149 = .ok (.istore 9, 2) := by decide +kernel
theorem dX12_checkCall_151 : decode cX12_checkCall 151 = .ok (.iload 9, 2) := by decide +kernel
theorem dX12_checkCall_153 : decode cX12_checkCall 153 = .ok (.ifCond .lt 31, 3) := by decide +kernel
theorem dX12_checkCall_156 : decode cX12_checkCall 156 = .ok (.aload_n 0, 1) := by decide +kernel
theorem dX12_checkCall_157 : decode cX12_checkCall 157 = .ok (.iload_n 2, 1) := by decide +kernel
theorem dX12_checkCall_158 : decode cX12_checkCall 158 = .ok (.iload 9, 2) := by decide +kernel
theorem dX12_checkCall_160 : decode cX12_checkCall 160 = .ok (.invokevirtual 484, 3) := by decide +kernel
theorem dX12_checkCall_163 : decode cX12_checkCall 163 = .ok (.ifCond .lt 21, 3) := by decide +kernel
theorem dX12_checkCall_166 : decode cX12_checkCall 166 = .ok (.aload_n 0, 1) := by decide +kernel
theorem dX12_checkCall_167 : decode cX12_checkCall 167 = .ok (.aload_n 0, 1) := by decide +kernel
theorem dX12_checkCall_168 : decode cX12_checkCall 168 = .ok (.iload_n 2, 1) := by decide +kernel
theorem dX12_checkCall_169 : decode cX12_checkCall 169 = .ok (.iload 9, 2) := by decide +kernel
theorem dX12_checkCall_171 : decode cX12_checkCall 171 = .ok (.invokevirtual 484, 3) := by decide +kernel
theorem dX12_checkCall_174 : decode cX12_checkCall 174 = .ok (.iconst 2, 1) := by decide +kernel
theorem dX12_checkCall_175 : decode cX12_checkCall 175 = .ok (.iload 7, 2) := by decide +kernel
theorem dX12_checkCall_177 : decode cX12_checkCall 177 = .ok (.imul, 1) := by decide +kernel
theorem dX12_checkCall_178 : decode cX12_checkCall 178 = .ok (.invokevirtual 494, 3) := by decide +kernel
theorem dX12_checkCall_181 : decode cX12_checkCall 181 = .ok (.ifCond .ne 5, 3) := by decide +kernel
theorem dX12_checkCall_184 : decode cX12_checkCall 184 = .ok (.iconst 0, 1) := by decide +kernel
theorem dX12_checkCall_185 : decode cX12_checkCall 185 = .ok (.ireturn, 1) := by decide +kernel
theorem dX12_checkCall_186 : decode cX12_checkCall 186 = .ok (.aload_n 0, 1) := by decide +kernel
theorem dX12_checkCall_187 : decode cX12_checkCall 187 = .ok (.getfield 135, 3) := by decide +kernel
theorem dX12_checkCall_190 : decode cX12_checkCall 190 = .ok (.sipush 1500, 3) := by decide +kernel
theorem dX12_checkCall_193 : decode cX12_checkCall 193 = .ok (.iload_n 2, 1) := by decide +kernel
theorem dX12_checkCall_194 : decode cX12_checkCall 194 = .ok (.imul, 1) := by decide +kernel
theorem dX12_checkCall_195 : decode cX12_checkCall 195 = .ok (.iload 9, 2) := by decide +kernel
theorem dX12_checkCall_197 : decode cX12_checkCall 197 = .ok (.iadd, 1) := by decide +kernel
theorem dX12_checkCall_198 : decode cX12_checkCall 198 = .ok (.iconst (-1), 1) := by decide +kernel
theorem dX12_checkCall_199 : decode cX12_checkCall 199 = .ok (.iastore, 1) := by decide +kernel
theorem dX12_checkCall_200 : decode cX12_checkCall 200 = .ok (.iinc 6 1, 3) := by decide +kernel
theorem dX12_checkCall_203 : decode cX12_checkCall 203 = .ok (.goto (-124), 3) := by decide +kernel
theorem dX12_checkCall_206 : decode cX12_checkCall 206 = .ok (.iload 4, 2) := by decide +kernel
theorem dX12_checkCall_208 : decode cX12_checkCall 208 = .ok (.ifCond .eq 49, 3) := by decide +kernel
theorem dX12_checkCall_211 : decode cX12_checkCall 211 = .ok (.aload_n 0, 1) := by decide +kernel
theorem dX12_checkCall_212 : decode cX12_checkCall 212 = .ok (.iload_n 2, 1) := by decide +kernel
theorem dX12_checkCall_213 : decode cX12_checkCall 213 = .ok (.aload_n 0, 1) := by decide +kernel
theorem dX12_checkCall_214 : decode cX12_checkCall 214 = .ok (.getfield 55, 3) := by decide +kernel
theorem dX12_checkCall_217 : decode cX12_checkCall 217 = .ok (.iload_n 1, 1) := by decide +kernel
theorem dX12_checkCall_218 : decode cX12_checkCall 218 = .ok (.iaload, 1) := by decide +kernel
theorem dX12_checkCall_219 : decode cX12_checkCall 219 = .ok (.invokevirtual 484, 3) := by decide +kernel
theorem dX12_checkCall_222 : decode cX12_checkCall 222 = .ok (.ifCond .lt 5, 3) := by decide +kernel
theorem dX12_checkCall_225 : decode cX12_checkCall 225 = .ok (.iconst 0, 1) := by decide +kernel
theorem dX12_checkCall_226 : decode cX12_checkCall 226 = .ok (.ireturn, 1) := by decide +kernel
theorem dX12_checkCall_227 : decode cX12_checkCall 227 = .ok (.aload_n 0, 1) := by decide +kernel
theorem dX12_checkCall_228 : decode cX12_checkCall 228 = .ok (.iload_n 2, 1) := by decide +kernel
theorem dX12_checkCall_229 : decode cX12_checkCall 229 = .ok (.aload_n 0, 1) := by decide +kernel
theorem dX12_checkCall_230 : decode cX12_checkCall 230 = .ok (.getfield 55, 3) := by decide +kernel
theorem dX12_checkCall_233 : decode cX12_checkCall 233 = .ok (.iload_n 1, 1) := by decide +kernel
theorem dX12_checkCall_234 : decode cX12_checkCall 234 = .ok (.iaload, 1) := by decide +kernel
theorem dX12_checkCall_235 : decode cX12_checkCall 235 = .ok (.aload_n 0, 1) := by decide +kernel
theorem dX12_checkCall_236 : decode cX12_checkCall 236 = .ok (.iconst 2, 1) := by decide +kernel
theorem dX12_checkCall_237 : decode cX12_checkCall 237 = .ok (.aload_n 0, 1) := by decide +kernel
theorem dX12_checkCall_238 : decode cX12_checkCall 238 = .ok (.getfield 109, 3) := by decide +kernel
theorem dX12_checkCall_241 : decode cX12_checkCall 241 = .ok (.aload_n 0, 1) := by decide +kernel
theorem dX12_checkCall_242 : decode cX12_checkCall 242 = .ok (.getfield 100, 3) := by decide +kernel
theorem dX12_checkCall_245 : decode cX12_checkCall 245 = .ok (.iload_n 3, 1) := by decide +kernel
theorem dX12_checkCall_246 : decode cX12_checkCall 246 = .ok (.iaload, 1) := by decide +kernel
theorem dX12_checkCall_247 : decode cX12_checkCall 247 = .ok (.iaload, 1) := by decide +kernel
theorem dX12_checkCall_248 : decode cX12_checkCall 248 = .ok (.imul, 1) := by decide +kernel
theorem dX12_checkCall_249 : decode cX12_checkCall 249 = .ok (.iconst 1, 1) := by decide +kernel
theorem dX12_checkCall_250 : decode cX12_checkCall 250 = .ok (.iadd, 1) := by decide +kernel
theorem dX12_checkCall_251 : decode cX12_checkCall 251 = .ok (.invokevirtual 432, 3) := by decide +kernel
theorem dX12_checkCall_254 : decode cX12_checkCall 254 = .ok (.invokevirtual 467, 3) := by decide +kernel
theorem dX12_checkCall_257 : decode cX12_checkCall 257 = .ok (.aload_n 0, 1) := by decide +kernel
theorem dX12_checkCall_258 : decode cX12_checkCall 258 = .ok (.getfield 49, 3) := by decide +kernel
theorem dX12_checkCall_261 : decode cX12_checkCall 261 = .ok (.iload_n 1, 1) := by decide +kernel
theorem dX12_checkCall_262 : decode cX12_checkCall 262 = .ok (.iaload, 1) := by decide +kernel
theorem dX12_checkCall_263 : decode cX12_checkCall 263 = .ok (.bipush 9, 2) := by decide +kernel
theorem dX12_checkCall_265 : decode cX12_checkCall 265 = .ok (.if_icmp .ne 20, 3) := by decide +kernel
theorem dX12_checkCall_268 : decode cX12_checkCall 268 = .ok (.aload_n 0, 1) := by decide +kernel
theorem dX12_checkCall_269 : decode cX12_checkCall 269 = .ok (.iload_n 2, 1) := by decide +kernel
theorem dX12_checkCall_270 : decode cX12_checkCall 270 = .ok (.invokevirtual 475, 3) := by decide +kernel
theorem dX12_checkCall_273 : decode cX12_checkCall 273 = .ok (.ifCond .ne 16, 3) := by decide +kernel
theorem dX12_checkCall_276 : decode cX12_checkCall 276 = .ok (.aload_n 0, 1) := by decide +kernel
theorem dX12_checkCall_277 : decode cX12_checkCall 277 = .ok (.getfield 73, 3) := by decide +kernel
theorem dX12_checkCall_280 : decode cX12_checkCall 280 = .ok (.iload_n 1, 1) := by decide +kernel
theorem dX12_checkCall_281 : decode cX12_checkCall 281 = .ok (.iaload, 1) := by decide +kernel
theorem dX12_checkCall_282 : decode cX12_checkCall 282 = .ok (.ifCond .ge 7, 3) := by decide +kernel
theorem dX12_checkCall_285 : decode cX12_checkCall 285 = .ok (.iconst 1, 1) := by decide +kernel
theorem dX12_checkCall_286 : decode cX12_checkCall 286 = .ok (.goto 4, 3) := by decide +kernel
theorem dX12_checkCall_289 : decode cX12_checkCall 289 = .ok (.iconst 0, 1) := by decide +kernel
theorem dX12_checkCall_290 : decode cX12_checkCall 290 = .ok (.ireturn, 1) := by decide +kernel
def bX12_checkCall_200 (k79 : Int32 → Int32 → Int32 → Int32 → Int32 → Int32 → zS → zR) (x1 : Int32) (x2 : Int32) (x3 : Int32) (x4 : Int32) (x5 : Int32) (x6 : Int32) (t : zS) : zR := zlet (x6 + 1) fun v3770 => k79 x1 x2 x3 x4 x5 v3770 t
def bX12_checkCall_285 (t : zS) : zR := some (1, t)
def bX12_checkCall_257 (x1 : Int32) (x2 : Int32) (t : zS) : zR := zrd t 14 1600 x1 fun v3771 => if v3771 = 9 then zbd (mX12_hasAny x2 t) fun r3773 t3774 => if r3773 = 0 then zrd t3774 22 1600 x1 fun v3776 => if 0 ≤ v3776 then some (0, t3774) else bX12_checkCall_285   t3774 else some (0, t3774) else bX12_checkCall_285   t
def bX12_checkCall_79 (k79 : Int32 → Int32 → Int32 → Int32 → Int32 → Int32 → zS → zR) (x1 : Int32) (x2 : Int32) (x3 : Int32) (x4 : Int32) (x5 : Int32) (x6 : Int32) (t : zS) : zR := zrd t 20 1600 x1 fun v3778 => if v3778 ≤ x6 then if x4 = 0 then bX12_checkCall_257  x1 x2 t else zrd t 16 1600 x1 fun v3780 => zbd (mX12_channel x2 v3780 t) fun r3782 t3783 => if r3782 < 0 then zrd t3783 16 1600 x1 fun v3785 => zrd t3783 31 301 x3 fun v3787 => zrd t3783 34 3000 v3787 fun v3789 => zbd (mX12_plain ((2 * v3789) + 1) t3783) fun r3791 t3792 => zbd (mX12_setChannel x2 v3785 r3791 t3792) fun r3794 t3795 => bX12_checkCall_257  x1 x2 t3795 else some (0, t3783) else zrd t 31 301 x3 fun v3797 => zrd t 34 3000 ((v3797 + x5) + x6) fun v3799 => zrd t 19 1600 x1 fun v3801 => zlet (v3801 + x6) fun v3803 => if 0 ≤ v3799 then zrd t 26 1600 v3803 fun v3804 => if v3804 < 0 then some (0, t) else zbd (mX12_channel x2 v3804 t) fun r3806 t3807 => if r3806 < 0 then some (0, t3807) else zbd (mX12_channel x2 v3804 t3807) fun r3809 t3810 => zbd (mX12_areEqual r3809 (2 * v3799) t3810) fun r3812 t3813 => if r3812 = 0 then some (0, t3813) else zwr t3813 42 66000 ((1500 * x2) + v3804) (-1) fun t3816 => bX12_checkCall_200 k79 x1 x2 x3 x4 x5 x6 t3816 else zrd t 25 1600 v3803 fun v3817 => zbd (mX12_areNumbers v3817 x2 t) fun r3819 t3820 => if r3819 = 0 then some (0, t3820) else bX12_checkCall_200 k79 x1 x2 x3 x4 x5 x6 t3820
def lX12_checkCall_79 : Nat → Int32 → Int32 → Int32 → Int32 → Int32 → Int32 → zS → zR
  | 0, _, _, _, _, _, _, _ => none
  | fu + 1, x1, x2, x3, x4, x5, x6, t => bX12_checkCall_79 (lX12_checkCall_79  fu) x1 x2 x3 x4 x5 x6 t
def bX12_checkCall_76 (x1 : Int32) (x2 : Int32) (x3 : Int32) (x4 : Int32) (x5 : Int32) (t : zS) : zR := lX12_checkCall_79  zFU x1 x2 x3 x4 x5 0 t
def bX12_checkCall_35 (x1 : Int32) (x2 : Int32) (x3 : Int32) (x4 : Int32) (y0 : Int32) (t : zS) : zR := zrd t 32 300 x3 fun v3822 => zrd t 20 1600 x1 fun v3824 => if v3822 = (v3824 + y0) then if x4 = 0 then bX12_checkCall_76  x1 x2 x3 x4 y0 t else zrd t 31 301 x3 fun v3826 => zrd t 34 3000 v3826 fun v3828 => if 0 ≤ v3828 then bX12_checkCall_76  x1 x2 x3 x4 y0 t else some (0, t) else some (0, t)
def bX12_checkCall_23 (x1 : Int32) (x2 : Int32) (x3 : Int32) (y0 : Int32) (t : zS) : zR := if y0 = 0 then bX12_checkCall_35  x1 x2 x3 y0 0 t else bX12_checkCall_35  x1 x2 x3 y0 1 t
def mX12_checkCall (x1 : Int32) (x2 : Int32) (t : zS) : zR := zrd t 17 1600 x1 fun v3830 => zrd t 14 1600 x1 fun v3832 => if v3832 = 8 then bX12_checkCall_23  x1 x2 v3830 1 t else bX12_checkCall_23  x1 x2 v3830 0 t
set_option maxHeartbeats 4000000 in
set_option maxRecDepth 20000 in
theorem wbX12_checkCall_200 {E : zE} {C : zC} {f : Nat} {ro : Int32 × zS} (hf : 4 ≤ f) (k79 : Int32 → Int32 → Int32 → Int32 → Int32 → Int32 → zS → zR) (hk79 : ∀ (x1 x2 x3 x4 x5 x6 : Int32) (t : zS), k79 x1 x2 x3 x4 x5 x6 t = some ro → zJ E shM C cX12_checkCall RX12 10 f (some .boolean) ro t 79 [(0, .ref (za E 0)), (1, .int x1), (2, .int x2), (3, .int x3), (4, .int x4), (5, .int x5), (6, .int x6)] []) (x1 : Int32) (x2 : Int32) (x3 : Int32) (x4 : Int32) (x5 : Int32) (x6 : Int32) (t : zS) (hF : bX12_checkCall_200 k79 x1 x2 x3 x4 x5 x6 t = some ro) : zJ E shM C cX12_checkCall RX12 10 f (some .boolean) ro t 200 [(0, .ref (za E 0)), (1, .int x1), (2, .int x2), (3, .int x3), (4, .int x4), (5, .int x5), (6, .int x6)] [] := by
  unfold bX12_checkCall_200 at hF
  obtain ⟨v3770, ev3770⟩ : ∃ y : Int32, y = (x6 + 1) := ⟨_, rfl⟩
  have hF := zlet_at ev3770 hF
  refine z_iinc (v := v3770) (lv' := [(6, .int v3770), (0, .ref (za E 0)), (1, .int x1), (2, .int x2), (3, .int x3), (4, .int x4), (5, .int x5)]) (k := 6) dX12_checkCall_200 rfl (by rw [ev3770]; rfl) (by decide) rfl ?_
  refine z_goto (tgt := 79) dX12_checkCall_203 (by decide) ?_
  refine z_sub [1, 2, 3, 4, 5, 6, 0] rfl ?_
  exact hk79 x1 x2 x3 x4 x5 v3770 _ hF
set_option maxHeartbeats 4000000 in
set_option maxRecDepth 20000 in
theorem wbX12_checkCall_285 {E : zE} {C : zC} {f : Nat} {ro : Int32 × zS} (hf : 4 ≤ f) (t : zS) (hF : bX12_checkCall_285   t = some ro) : zJ E shM C cX12_checkCall RX12 10 f (some .boolean) ro t 285 [] [] := by
  unfold bX12_checkCall_285 at hF
  refine z_iconst (v := 1) dX12_checkCall_285 (by decide) ?_
  refine z_goto (tgt := 290) dX12_checkCall_286 (by decide) ?_
  exact z_zret hF (by decide) dX12_checkCall_290
set_option maxHeartbeats 4000000 in
set_option maxRecDepth 20000 in
theorem wbX12_checkCall_257 {E : zE} {C : zC} {f : Nat} {ro : Int32 × zS} (hf : 4 ≤ f) (x1 : Int32) (x2 : Int32) (t : zS) (hF : bX12_checkCall_257  x1 x2 t = some ro) : zJ E shM C cX12_checkCall RX12 10 f (some .boolean) ro t 257 [(0, .ref (za E 0)), (1, .int x1), (2, .int x2)] [] := by
  unfold bX12_checkCall_257 at hF
  refine z_aload_n 0 dX12_checkCall_257 rfl rfl ?_
  refine z_getr fr_RX12_49 dX12_checkCall_258 ?_
  refine z_iload_n 1 dX12_checkCall_261 rfl rfl ?_
  obtain ⟨hi3772, hF⟩ := zrd_at hF
  refine z_iald (n := 1600) rfl hi3772 dX12_checkCall_262 ?_
  generalize t 14 (Int32.toNatClampNeg x1) = v3771 at hF ⊢
  refine z_bipush (v := 9) dX12_checkCall_263 (by decide) ?_
  refine z_icmp_ne (tgt := 285) dX12_checkCall_265 (by decide) (fun hc => ?_) (fun hc => ?_)
  · have hF := zif_f hc hF
    refine z_sub [] rfl ?_
    exact wbX12_checkCall_285 hf   _ hF
  · have hF := zif_t hc hF
    refine z_aload_n 0 dX12_checkCall_268 rfl rfl ?_
    refine z_iload_n 2 dX12_checkCall_269 rfl rfl ?_
    obtain ⟨r3773, t3774, hc3775, hF⟩ := zbd_at hF
    refine z_callVi (ctX12_hasAny (E := E) (f := f - 1) (by omega) hc3775) yy_X12_hasAny yv_X12_hasAny ob_M_0 lk_RX12_475 (by omega) rfl rfl (Nat.le_of_ble_eq_true rfl) dX12_checkCall_270 ?_
    refine z_if_ne (tgt := 289) dX12_checkCall_273 (by decide) (fun hc => ?_) (fun hc => ?_)
    · have hF := zif_f hc hF
      refine z_iconst (v := 0) dX12_checkCall_289 (by decide) ?_
      exact z_zret hF (by decide) dX12_checkCall_290
    · have hF := zif_t hc hF
      refine z_aload_n 0 dX12_checkCall_276 rfl rfl ?_
      refine z_getr fr_RX12_73 dX12_checkCall_277 ?_
      refine z_iload_n 1 dX12_checkCall_280 rfl rfl ?_
      obtain ⟨hi3777, hF⟩ := zrd_at hF
      refine z_iald (n := 1600) rfl hi3777 dX12_checkCall_281 ?_
      generalize t3774 22 (Int32.toNatClampNeg x1) = v3776 at hF ⊢
      refine z_if_ge (tgt := 289) dX12_checkCall_282 (by decide) (fun hc => ?_) (fun hc => ?_)
      · have hF := zif_t hc hF
        refine z_iconst (v := 0) dX12_checkCall_289 (by decide) ?_
        exact z_zret hF (by decide) dX12_checkCall_290
      · have hF := zif_f hc hF
        refine z_sub [] rfl ?_
        exact wbX12_checkCall_285 hf   _ hF
set_option maxHeartbeats 4000000 in
set_option maxRecDepth 20000 in
theorem wbX12_checkCall_79 {E : zE} {C : zC} {f : Nat} {ro : Int32 × zS} (hf : 4 ≤ f) (k79 : Int32 → Int32 → Int32 → Int32 → Int32 → Int32 → zS → zR) (hk79 : ∀ (x1 x2 x3 x4 x5 x6 : Int32) (t : zS), k79 x1 x2 x3 x4 x5 x6 t = some ro → zJ E shM C cX12_checkCall RX12 10 f (some .boolean) ro t 79 [(0, .ref (za E 0)), (1, .int x1), (2, .int x2), (3, .int x3), (4, .int x4), (5, .int x5), (6, .int x6)] []) (x1 : Int32) (x2 : Int32) (x3 : Int32) (x4 : Int32) (x5 : Int32) (x6 : Int32) (t : zS) (hF : bX12_checkCall_79 k79 x1 x2 x3 x4 x5 x6 t = some ro) : zJ E shM C cX12_checkCall RX12 10 f (some .boolean) ro t 79 [(0, .ref (za E 0)), (1, .int x1), (2, .int x2), (3, .int x3), (4, .int x4), (5, .int x5), (6, .int x6)] [] := by
  unfold bX12_checkCall_79 at hF
  refine z_iload 6 dX12_checkCall_79 rfl ?_
  refine z_aload_n 0 dX12_checkCall_81 rfl rfl ?_
  refine z_getr fr_RX12_67 dX12_checkCall_82 ?_
  refine z_iload_n 1 dX12_checkCall_85 rfl rfl ?_
  obtain ⟨hi3779, hF⟩ := zrd_at hF
  refine z_iald (n := 1600) rfl hi3779 dX12_checkCall_86 ?_
  generalize t 20 (Int32.toNatClampNeg x1) = v3778 at hF ⊢
  refine z_icmp_ge (tgt := 206) dX12_checkCall_87 (by decide) (fun hc => ?_) (fun hc => ?_)
  · have hF := zif_t hc hF
    refine z_iload 4 dX12_checkCall_206 rfl ?_
    refine z_if_eq (tgt := 257) dX12_checkCall_208 (by decide) (fun hc => ?_) (fun hc => ?_)
    · have hF := zif_t hc hF
      refine z_sub [0, 1, 2] rfl ?_
      exact wbX12_checkCall_257 hf  x1 x2 _ hF
    · have hF := zif_f hc hF
      refine z_aload_n 0 dX12_checkCall_211 rfl rfl ?_
      refine z_iload_n 2 dX12_checkCall_212 rfl rfl ?_
      refine z_aload_n 0 dX12_checkCall_213 rfl rfl ?_
      refine z_getr fr_RX12_55 dX12_checkCall_214 ?_
      refine z_iload_n 1 dX12_checkCall_217 rfl rfl ?_
      obtain ⟨hi3781, hF⟩ := zrd_at hF
      refine z_iald (n := 1600) rfl hi3781 dX12_checkCall_218 ?_
      generalize t 16 (Int32.toNatClampNeg x1) = v3780 at hF ⊢
      obtain ⟨r3782, t3783, hc3784, hF⟩ := zbd_at hF
      refine z_callVi (ctX12_channel (E := E) (f := f - 1) (by omega) hc3784) yy_X12_channel yv_X12_channel ob_M_0 lk_RX12_484 (by omega) rfl rfl (Nat.le_of_ble_eq_true rfl) dX12_checkCall_219 ?_
      refine z_if_lt (tgt := 227) dX12_checkCall_222 (by decide) (fun hc => ?_) (fun hc => ?_)
      · have hF := zif_t hc hF
        refine z_aload_n 0 dX12_checkCall_227 rfl rfl ?_
        refine z_iload_n 2 dX12_checkCall_228 rfl rfl ?_
        refine z_aload_n 0 dX12_checkCall_229 rfl rfl ?_
        refine z_getr fr_RX12_55 dX12_checkCall_230 ?_
        refine z_iload_n 1 dX12_checkCall_233 rfl rfl ?_
        obtain ⟨hi3786, hF⟩ := zrd_at hF
        refine z_iald (n := 1600) rfl hi3786 dX12_checkCall_234 ?_
        generalize t3783 16 (Int32.toNatClampNeg x1) = v3785 at hF ⊢
        refine z_aload_n 0 dX12_checkCall_235 rfl rfl ?_
        refine z_iconst (v := 2) dX12_checkCall_236 (by decide) ?_
        refine z_aload_n 0 dX12_checkCall_237 rfl rfl ?_
        refine z_getr fr_RX12_109 dX12_checkCall_238 ?_
        refine z_aload_n 0 dX12_checkCall_241 rfl rfl ?_
        refine z_getr fr_RX12_100 dX12_checkCall_242 ?_
        refine z_iload_n 3 dX12_checkCall_245 rfl rfl ?_
        obtain ⟨hi3788, hF⟩ := zrd_at hF
        refine z_iald (n := 301) rfl hi3788 dX12_checkCall_246 ?_
        generalize t3783 31 (Int32.toNatClampNeg x3) = v3787 at hF ⊢
        obtain ⟨hi3790, hF⟩ := zrd_at hF
        refine z_iald (n := 3000) rfl hi3790 dX12_checkCall_247 ?_
        generalize t3783 34 (Int32.toNatClampNeg v3787) = v3789 at hF ⊢
        refine z_imul dX12_checkCall_248 ?_
        refine z_iconst (v := 1) dX12_checkCall_249 (by decide) ?_
        refine z_iadd dX12_checkCall_250 ?_
        obtain ⟨r3791, t3792, hc3793, hF⟩ := zbd_at hF
        refine z_callVi (ctX12_plain (E := E) (f := f - 1) (by omega) hc3793) yy_X12_plain yv_X12_plain ob_M_0 lk_RX12_432 (by omega) rfl rfl (Nat.le_of_ble_eq_true rfl) dX12_checkCall_251 ?_
        obtain ⟨r3794, t3795, hc3796, hF⟩ := zbd_at hF
        refine z_callVv (ctX12_setChannel (E := E) (f := f - 1) (by omega) hc3796) yy_X12_setChannel yv_X12_setChannel ob_M_0 lk_RX12_467 (by omega) rfl rfl (Nat.le_of_ble_eq_true rfl) dX12_checkCall_254 ?_
        refine z_sub [0, 1, 2] rfl ?_
        exact wbX12_checkCall_257 hf  x1 x2 _ hF
      · have hF := zif_f hc hF
        refine z_iconst (v := 0) dX12_checkCall_225 (by decide) ?_
        exact z_zret hF (by decide) dX12_checkCall_226
  · have hF := zif_f hc hF
    refine z_aload_n 0 dX12_checkCall_90 rfl rfl ?_
    refine z_getr fr_RX12_109 dX12_checkCall_91 ?_
    refine z_aload_n 0 dX12_checkCall_94 rfl rfl ?_
    refine z_getr fr_RX12_100 dX12_checkCall_95 ?_
    refine z_iload_n 3 dX12_checkCall_98 rfl rfl ?_
    obtain ⟨hi3798, hF⟩ := zrd_at hF
    refine z_iald (n := 301) rfl hi3798 dX12_checkCall_99 ?_
    generalize t 31 (Int32.toNatClampNeg x3) = v3797 at hF ⊢
    refine z_iload 5 dX12_checkCall_100 rfl ?_
    refine z_iadd dX12_checkCall_102 ?_
    refine z_iload 6 dX12_checkCall_103 rfl ?_
    refine z_iadd dX12_checkCall_105 ?_
    obtain ⟨hi3800, hF⟩ := zrd_at hF
    refine z_iald (n := 3000) rfl hi3800 dX12_checkCall_106 ?_
    generalize t 34 (Int32.toNatClampNeg ((v3797 + x5) + x6)) = v3799 at hF ⊢
    refine z_istore (lv' := [(7, .int v3799), (0, .ref (za E 0)), (1, .int x1), (2, .int x2), (3, .int x3), (4, .int x4), (5, .int x5), (6, .int x6)]) dX12_checkCall_107 (by decide) rfl ?_
    refine z_aload_n 1 dX12_checkCall_109 rfl rfl ?_
    refine z_getr fr_RX12_64 dX12_checkCall_110 ?_
    refine z_iload_n 2 dX12_checkCall_113 rfl rfl ?_
    obtain ⟨hi3802, hF⟩ := zrd_at hF
    refine z_iald (n := 1600) rfl hi3802 dX12_checkCall_114 ?_
    generalize t 19 (Int32.toNatClampNeg x1) = v3801 at hF ⊢
    refine z_iload 7 dX12_checkCall_115 rfl ?_
    refine z_iadd dX12_checkCall_117 ?_
    refine z_topi (fun v3803 ev3803 => ?_)
    have hF := zlet_at ev3803 hF
    refine z_istore (lv' := [(8, .int v3803), (7, .int v3799), (0, .ref (za E 0)), (1, .int x1), (2, .int x2), (3, .int x3), (4, .int x4), (5, .int x5), (6, .int x6)]) dX12_checkCall_118 (by decide) rfl ?_
    refine z_iload 1 dX12_checkCall_120 rfl ?_
    refine z_if_ge (tgt := 142) dX12_checkCall_122 (by decide) (fun hc => ?_) (fun hc => ?_)
    · have hF := zif_t hc hF
      refine z_aload_n 2 dX12_checkCall_142 rfl rfl ?_
      refine z_getr fr_RX12_85 dX12_checkCall_143 ?_
      refine z_iload 0 dX12_checkCall_146 rfl ?_
      obtain ⟨hi3805, hF⟩ := zrd_at hF
      refine z_iald (n := 1600) rfl hi3805 dX12_checkCall_148 ?_
      generalize t 26 (Int32.toNatClampNeg v3803) = v3804 at hF ⊢
      refine z_istore (lv' := [(9, .int v3804), (8, .int v3803), (7, .int v3799), (0, .ref (za E 0)), (1, .int x1), (2, .int x2), (3, .int x3), (4, .int x4), (5, .int x5), (6, .int x6)]) dX12_checkCall_149 (by decide) rfl ?_
      refine z_iload 0 dX12_checkCall_151 rfl ?_
      refine z_if_lt (tgt := 184) dX12_checkCall_153 (by decide) (fun hc => ?_) (fun hc => ?_)
      · have hF := zif_t hc hF
        refine z_iconst (v := 0) dX12_checkCall_184 (by decide) ?_
        exact z_zret hF (by decide) dX12_checkCall_185
      · have hF := zif_f hc hF
        refine z_aload_n 3 dX12_checkCall_156 rfl rfl ?_
        refine z_iload_n 5 dX12_checkCall_157 rfl rfl ?_
        refine z_iload 0 dX12_checkCall_158 rfl ?_
        obtain ⟨r3806, t3807, hc3808, hF⟩ := zbd_at hF
        refine z_callVi (ctX12_channel (E := E) (f := f - 1) (by omega) hc3808) yy_X12_channel yv_X12_channel ob_M_0 lk_RX12_484 (by omega) rfl rfl (Nat.le_of_ble_eq_true rfl) dX12_checkCall_160 ?_
        refine z_if_lt (tgt := 184) dX12_checkCall_163 (by decide) (fun hc => ?_) (fun hc => ?_)
        · have hF := zif_t hc hF
          refine z_iconst (v := 0) dX12_checkCall_184 (by decide) ?_
          exact z_zret hF (by decide) dX12_checkCall_185
        · have hF := zif_f hc hF
          refine z_aload_n 3 dX12_checkCall_166 rfl rfl ?_
          refine z_aload_n 3 dX12_checkCall_167 rfl rfl ?_
          refine z_iload_n 5 dX12_checkCall_168 rfl rfl ?_
          refine z_iload 0 dX12_checkCall_169 rfl ?_
          obtain ⟨r3809, t3810, hc3811, hF⟩ := zbd_at hF
          refine z_callVi (ctX12_channel (E := E) (f := f - 1) (by omega) hc3811) yy_X12_channel yv_X12_channel ob_M_0 lk_RX12_484 (by omega) rfl rfl (Nat.le_of_ble_eq_true rfl) dX12_checkCall_171 ?_
          refine z_iconst (v := 2) dX12_checkCall_174 (by decide) ?_
          refine z_iload 2 dX12_checkCall_175 rfl ?_
          refine z_imul dX12_checkCall_177 ?_
          obtain ⟨r3812, t3813, hc3814, hF⟩ := zbd_at hF
          refine z_callVi (ctX12_areEqual (E := E) (f := f - 1) (by omega) hc3814) yy_X12_areEqual yv_X12_areEqual ob_M_0 lk_RX12_494 (by omega) rfl rfl (Nat.le_of_ble_eq_true rfl) dX12_checkCall_178 ?_
          refine z_if_ne (tgt := 186) dX12_checkCall_181 (by decide) (fun hc => ?_) (fun hc => ?_)
          · have hF := zif_f hc hF
            refine z_aload_n 3 dX12_checkCall_186 rfl rfl ?_
            refine z_getr fr_RX12_135 dX12_checkCall_187 ?_
            refine z_sipush (v := 1500) dX12_checkCall_190 (by decide) ?_
            refine z_iload_n 5 dX12_checkCall_193 rfl rfl ?_
            refine z_imul dX12_checkCall_194 ?_
            refine z_iload 0 dX12_checkCall_195 rfl ?_
            refine z_iadd dX12_checkCall_197 ?_
            refine z_iconst (v := (-1)) dX12_checkCall_198 (by decide) ?_
            obtain ⟨hi3815, hF⟩ := zwr_at hF
            refine z_iast (n := 66000) rfl hi3815 dX12_checkCall_199 (fun t3816 et3816 => ?_)
            have hF := hF t3816 et3816
            refine z_sub [3, 4, 5, 6, 7, 8, 9] rfl ?_
            exact wbX12_checkCall_200 hf k79 hk79 x1 x2 x3 x4 x5 x6 _ hF
          · have hF := zif_t hc hF
            refine z_iconst (v := 0) dX12_checkCall_184 (by decide) ?_
            exact z_zret hF (by decide) dX12_checkCall_185
    · have hF := zif_f hc hF
      refine z_aload_n 2 dX12_checkCall_125 rfl rfl ?_
      refine z_aload_n 2 dX12_checkCall_126 rfl rfl ?_
      refine z_getr fr_RX12_82 dX12_checkCall_127 ?_
      refine z_iload 0 dX12_checkCall_130 rfl ?_
      obtain ⟨hi3818, hF⟩ := zrd_at hF
      refine z_iald (n := 1600) rfl hi3818 dX12_checkCall_132 ?_
      generalize t 25 (Int32.toNatClampNeg v3803) = v3817 at hF ⊢
      refine z_iload_n 4 dX12_checkCall_133 rfl rfl ?_
      obtain ⟨r3819, t3820, hc3821, hF⟩ := zbd_at hF
      refine z_callVi (ctX12_areNumbers (E := E) (f := f - 1) (by omega) hc3821) yy_X12_areNumbers yv_X12_areNumbers ob_M_0 lk_RX12_487 (by omega) rfl rfl (Nat.le_of_ble_eq_true rfl) dX12_checkCall_134 ?_
      refine z_if_ne (tgt := 200) dX12_checkCall_137 (by decide) (fun hc => ?_) (fun hc => ?_)
      · have hF := zif_f hc hF
        refine z_sub [2, 3, 4, 5, 6, 7, 8] rfl ?_
        exact wbX12_checkCall_200 hf k79 hk79 x1 x2 x3 x4 x5 x6 _ hF
      · have hF := zif_t hc hF
        refine z_iconst (v := 0) dX12_checkCall_140 (by decide) ?_
        exact z_zret hF (by decide) dX12_checkCall_141
set_option maxHeartbeats 4000000 in
set_option maxRecDepth 20000 in
theorem wlX12_checkCall_79 {E : zE} {C : zC} {f : Nat} {ro : Int32 × zS} (hf : 4 ≤ f) (fu : Nat) : ∀ (x1 x2 x3 x4 x5 x6 : Int32) (t : zS), lX12_checkCall_79  fu x1 x2 x3 x4 x5 x6 t = some ro → zJ E shM C cX12_checkCall RX12 10 f (some .boolean) ro t 79 [(0, .ref (za E 0)), (1, .int x1), (2, .int x2), (3, .int x3), (4, .int x4), (5, .int x5), (6, .int x6)] [] := by
  induction fu with
  | zero => intro x1 x2 x3 x4 x5 x6 t hF; cases hF
  | succ fu ih => intro x1 x2 x3 x4 x5 x6 t hF; exact wbX12_checkCall_79 hf (lX12_checkCall_79  fu) ih x1 x2 x3 x4 x5 x6 t hF
set_option maxHeartbeats 4000000 in
set_option maxRecDepth 20000 in
theorem wbX12_checkCall_76 {E : zE} {C : zC} {f : Nat} {ro : Int32 × zS} (hf : 4 ≤ f) (x1 : Int32) (x2 : Int32) (x3 : Int32) (x4 : Int32) (x5 : Int32) (t : zS) (hF : bX12_checkCall_76  x1 x2 x3 x4 x5 t = some ro) : zJ E shM C cX12_checkCall RX12 10 f (some .boolean) ro t 76 [(0, .ref (za E 0)), (1, .int x1), (2, .int x2), (3, .int x3), (4, .int x4), (5, .int x5)] [] := by
  unfold bX12_checkCall_76 at hF
  refine z_iconst (v := 0) dX12_checkCall_76 (by decide) ?_
  refine z_istore (lv' := [(6, .int 0), (0, .ref (za E 0)), (1, .int x1), (2, .int x2), (3, .int x3), (4, .int x4), (5, .int x5)]) dX12_checkCall_77 (by decide) rfl ?_
  refine z_sub [1, 2, 3, 4, 5, 6, 0] rfl ?_
  exact wlX12_checkCall_79 hf  zFU x1 x2 x3 x4 x5 0 _ hF
set_option maxHeartbeats 4000000 in
set_option maxRecDepth 20000 in
theorem wbX12_checkCall_35 {E : zE} {C : zC} {f : Nat} {ro : Int32 × zS} (hf : 4 ≤ f) (x1 : Int32) (x2 : Int32) (x3 : Int32) (x4 : Int32) (y0 : Int32) (t : zS) (hF : bX12_checkCall_35  x1 x2 x3 x4 y0 t = some ro) : zJ E shM C cX12_checkCall RX12 10 f (some .boolean) ro t 35 [(0, .ref (za E 0)), (1, .int x1), (2, .int x2), (3, .int x3), (4, .int x4)] [.int y0] := by
  unfold bX12_checkCall_35 at hF
  refine z_istore (lv' := [(5, .int y0), (0, .ref (za E 0)), (1, .int x1), (2, .int x2), (3, .int x3), (4, .int x4)]) dX12_checkCall_35 (by decide) rfl ?_
  refine z_aload_n 1 dX12_checkCall_37 rfl rfl ?_
  refine z_getr fr_RX12_103 dX12_checkCall_38 ?_
  refine z_iload_n 4 dX12_checkCall_41 rfl rfl ?_
  obtain ⟨hi3823, hF⟩ := zrd_at hF
  refine z_iald (n := 300) rfl hi3823 dX12_checkCall_42 ?_
  generalize t 32 (Int32.toNatClampNeg x3) = v3822 at hF ⊢
  refine z_aload_n 1 dX12_checkCall_43 rfl rfl ?_
  refine z_getr fr_RX12_67 dX12_checkCall_44 ?_
  refine z_iload_n 2 dX12_checkCall_47 rfl rfl ?_
  obtain ⟨hi3825, hF⟩ := zrd_at hF
  refine z_iald (n := 1600) rfl hi3825 dX12_checkCall_48 ?_
  generalize t 20 (Int32.toNatClampNeg x1) = v3824 at hF ⊢
  refine z_iload 0 dX12_checkCall_49 rfl ?_
  refine z_iadd dX12_checkCall_51 ?_
  refine z_icmp_ne (tgt := 74) dX12_checkCall_52 (by decide) (fun hc => ?_) (fun hc => ?_)
  · have hF := zif_f hc hF
    refine z_iconst (v := 0) dX12_checkCall_74 (by decide) ?_
    exact z_zret hF (by decide) dX12_checkCall_75
  · have hF := zif_t hc hF
    refine z_iload 5 dX12_checkCall_55 rfl ?_
    refine z_if_eq (tgt := 76) dX12_checkCall_57 (by decide) (fun hc => ?_) (fun hc => ?_)
    · have hF := zif_t hc hF
      refine z_sub [1, 2, 3, 4, 5, 0] rfl ?_
      exact wbX12_checkCall_76 hf  x1 x2 x3 x4 y0 _ hF
    · have hF := zif_f hc hF
      refine z_aload_n 1 dX12_checkCall_60 rfl rfl ?_
      refine z_getr fr_RX12_109 dX12_checkCall_61 ?_
      refine z_aload_n 1 dX12_checkCall_64 rfl rfl ?_
      refine z_getr fr_RX12_100 dX12_checkCall_65 ?_
      refine z_iload_n 4 dX12_checkCall_68 rfl rfl ?_
      obtain ⟨hi3827, hF⟩ := zrd_at hF
      refine z_iald (n := 301) rfl hi3827 dX12_checkCall_69 ?_
      generalize t 31 (Int32.toNatClampNeg x3) = v3826 at hF ⊢
      obtain ⟨hi3829, hF⟩ := zrd_at hF
      refine z_iald (n := 3000) rfl hi3829 dX12_checkCall_70 ?_
      generalize t 34 (Int32.toNatClampNeg v3826) = v3828 at hF ⊢
      refine z_if_ge (tgt := 76) dX12_checkCall_71 (by decide) (fun hc => ?_) (fun hc => ?_)
      · have hF := zif_t hc hF
        refine z_sub [1, 2, 3, 4, 5, 0] rfl ?_
        exact wbX12_checkCall_76 hf  x1 x2 x3 x4 y0 _ hF
      · have hF := zif_f hc hF
        refine z_iconst (v := 0) dX12_checkCall_74 (by decide) ?_
        exact z_zret hF (by decide) dX12_checkCall_75
set_option maxHeartbeats 4000000 in
set_option maxRecDepth 20000 in
theorem wbX12_checkCall_23 {E : zE} {C : zC} {f : Nat} {ro : Int32 × zS} (hf : 4 ≤ f) (x1 : Int32) (x2 : Int32) (x3 : Int32) (y0 : Int32) (t : zS) (hF : bX12_checkCall_23  x1 x2 x3 y0 t = some ro) : zJ E shM C cX12_checkCall RX12 10 f (some .boolean) ro t 23 [(0, .ref (za E 0)), (1, .int x1), (2, .int x2), (3, .int x3)] [.int y0] := by
  unfold bX12_checkCall_23 at hF
  refine z_istore (lv' := [(4, .int y0), (0, .ref (za E 0)), (1, .int x1), (2, .int x2), (3, .int x3)]) dX12_checkCall_23 (by decide) rfl ?_
  refine z_iload 0 dX12_checkCall_25 rfl ?_
  refine z_if_eq (tgt := 34) dX12_checkCall_27 (by decide) (fun hc => ?_) (fun hc => ?_)
  · have hF := zif_t hc hF
    refine z_iconst (v := 0) dX12_checkCall_34 (by decide) ?_
    refine z_sub [1, 2, 3, 4, 0] rfl ?_
    exact wbX12_checkCall_35 hf  x1 x2 x3 y0 0 _ hF
  · have hF := zif_f hc hF
    refine z_iconst (v := 1) dX12_checkCall_30 (by decide) ?_
    refine z_goto (tgt := 35) dX12_checkCall_31 (by decide) ?_
    refine z_sub [1, 2, 3, 4, 0] rfl ?_
    exact wbX12_checkCall_35 hf  x1 x2 x3 y0 1 _ hF
set_option maxHeartbeats 4000000 in
set_option maxRecDepth 20000 in
theorem ctX12_checkCall {E : zE} {f : Nat} (hf : 4 ≤ f) {x1 : Int32} {x2 : Int32} {t : zS} {ro : Int32 × zS} (hF : mX12_checkCall  x1 x2 t = some ro) : zM E shM f yX12_checkCall cX12_checkCall 10 (some .boolean) [.ref (za E 0), .int x1, .int x2] t ro := by
  refine zM_of (by decide) (Nat.le_of_ble_eq_true rfl) (fun C => ?_)
  show zJ E shM C cX12_checkCall RX12 10 f (some .boolean) ro t 0 [(0, .ref (za E 0)), (1, .int x1), (2, .int x2)] []
  unfold mX12_checkCall at hF
  refine z_aload_n 0 dX12_checkCall_0 rfl rfl ?_
  refine z_getr fr_RX12_58 dX12_checkCall_1 ?_
  refine z_iload_n 1 dX12_checkCall_4 rfl rfl ?_
  obtain ⟨hi3831, hF⟩ := zrd_at hF
  refine z_iald (n := 1600) rfl hi3831 dX12_checkCall_5 ?_
  generalize t 17 (Int32.toNatClampNeg x1) = v3830 at hF ⊢
  refine z_istore_n (lv' := [(3, .int v3830), (0, .ref (za E 0)), (1, .int x1), (2, .int x2)]) dX12_checkCall_6 rfl (by decide) rfl ?_
  refine z_aload_n 1 dX12_checkCall_7 rfl rfl ?_
  refine z_getr fr_RX12_49 dX12_checkCall_8 ?_
  refine z_iload_n 2 dX12_checkCall_11 rfl rfl ?_
  obtain ⟨hi3833, hF⟩ := zrd_at hF
  refine z_iald (n := 1600) rfl hi3833 dX12_checkCall_12 ?_
  generalize t 14 (Int32.toNatClampNeg x1) = v3832 at hF ⊢
  refine z_bipush (v := 8) dX12_checkCall_13 (by decide) ?_
  refine z_icmp_ne (tgt := 22) dX12_checkCall_15 (by decide) (fun hc => ?_) (fun hc => ?_)
  · have hF := zif_f hc hF
    refine z_iconst (v := 0) dX12_checkCall_22 (by decide) ?_
    refine z_sub [1, 2, 3, 0] rfl ?_
    exact wbX12_checkCall_23 hf  x1 x2 v3830 0 _ hF
  · have hF := zif_t hc hF
    refine z_iconst (v := 1) dX12_checkCall_18 (by decide) ?_
    refine z_goto (tgt := 23) dX12_checkCall_19 (by decide) ?_
    refine z_sub [1, 2, 3, 0] rfl ?_
    exact wbX12_checkCall_23 hf  x1 x2 v3830 1 _ hF
