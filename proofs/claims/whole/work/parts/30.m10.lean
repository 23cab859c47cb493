-- SessionHouseModel.isText(IIIIII)Z
theorem dX12_isText_0 : decode cX12_isText 0 = .ok (.iload 4, 2) := by decide +kernel
theorem dX12_isText_2 : decode cX12_isText 2 = .ok (.ifCond .ne 15, 3) := by decide +kernel
theorem dX12_isText_5 : decode cX12_isText 5 = .ok (.iload_n 3, 1) := by decide +kernel
theorem dX12_isText_6 : decode cX12_isText 6 = .ok (.ifCond .ne 7, 3) := by decide +kernel
theorem dX12_isText_9 : decode cX12_isText 9 = .ok (.iconst 2, 1) := by decide +kernel
theorem dX12_isText_10 : decode cX12_isText 10 = .ok (.goto 27, 3) := by decide +kernel
theorem dX12_isText_13 : decode cX12_isText 13 = .ok (.iconst 3, 1) := by decide +kernel
theorem dX12_isText_14 : decode cX12_isText 14 = .ok (.goto 23, 3) := by decide +kernel
theorem dX12_isText_17 : decode cX12_isText 17 = .ok (.iload 5, 2) := by decide +kernel
theorem dX12_isText_19 : decode cX12_isText 19 = .ok (.ifCond .ne 7, 3) := by decide +kernel
theorem dX12_isText_22 : decode cX12_isText 22 = .ok (.iconst 4, 1) := by decide +kernel
theorem dX12_isText_23 : decode cX12_isText 23 = .ok (.goto 14, 3) := by decide +kernel
theorem dX12_isText_26 : decode cX12_isText 26 = .ok (.iload 6, 2) := by decide +kernel
theorem dX12_isText_28 : decode cX12_isText 28 = .ok (.ifCond .ne 7, 3) := by decide +kernel
theorem dX12_isText_31 : decode cX12_isText 31 = .ok (.iconst 5, 1) := by decide +kernel
theorem dX12_isText_32 : decode cX12_isText 32 = .ok (.goto 5, 3) := by decide +kernel
theorem dX12_isText_35 : decode cX12_isText 35 = .ok (.bipush 6, 2) := by decide +kernel
theorem dX12_isText_37 : decode cX12_isText 37 = .ok (.istore 7, 2) := by decide +kernel
theorem dX12_isText_39 : decode cX12_isText 39 = .ok (.aload_n 0, 1) := by decide +kernel
theorem dX12_isText_40 : decode cX12_isText 40 = .ok (.getfield 224, 3) := by decide +kernel
theorem dX12_isText_43 : decode cX12_isText 43 = .ok (.iload 7, 2) := by decide +kernel
theorem dX12_isText_45 : decode cX12_isText 45 = .ok (.if_icmp .eq 5, 3) := by decide +kernel
theorem dX12_isText_48 : decode cX12_isText 48 = .ok (.iconst 0, 1) := by decide +kernel
theorem dX12_isText_49 : decode cX12_isText 49 = .ok (.ireturn, 1) := by decide +kernel
theorem dX12_isText_50 : decode cX12_isText 50 = .ok (.aload_n 0, 1) := by decide +kernel
theorem dX12_isText_51 : decode cX12_isText 51 = .ok (.getfield 227, 3) := by decide +kernel
theorem dX12_isText_54 : decode cX12_isText 54 = .ok (.istore 8, 2) := by decide +kernel
theorem dX12_isText_56 : decode cX12_isText 56 = .ok (.aload_n 0, 1) := by decide +kernel
theorem dX12_isText_57 : decode cX12_isText 57 = .ok (.getfield 13, 3) := by decide +kernel
theorem dX12_isText_60 : decode cX12_isText 60 = .ok (.iload 8, 2) := by decide +kernel
theorem dX12_isText_62 : decode cX12_isText 62 = .ok (.iaload, 1) := by decide +kernel
theorem dX12_isText_63 : decode cX12_isText 63 = .ok (.iload_n 1, 1) := by decide +kernel
theorem dX12_isText_64 : decode cX12_isText 64 = .ok (.if_icmp .ne 100, 3) := by decide +kernel
theorem dX12_isText_67 : decode cX12_isText 67 = .ok (.aload_n 0, 1) := by decide +kernel
theorem dX12_isText_68 : decode cX12_isText 68 = .ok (.getfield 13, 3) := by decide +kernel
theorem dX12_isText_71 : decode cX12_isText 71 = .ok (.iload 8, 2) := by decide +kernel
theorem dX12_isText_73 : decode cX12_isText 73 = .ok (.iconst 1, 1) := by decide +kernel
theorem dX12_isText_74 : decode cX12_isText 74 = .ok (.iadd, 1) := by decide +kernel
theorem dX12_isText_75 : decode cX12_isText 75 = .ok (.iaload, 1) := by decide +kernel
theorem dX12_isText_76 : decode cX12_isText 76 = .ok (.iload_n 2, 1) := by decide +kernel
theorem dX12_isText_77 : decode cX12_isText 77 = .ok (.if_icmp .ne 87, 3) := by decide +kernel
theorem dX12_isText_80 : decode cX12_isText 80 = .ok (.iload 7, 2) := by decide +kernel
theorem dX12_isText_82 : decode cX12_isText 82 = .ok (.iconst 3, 1) := by decide +kernel
theorem dX12_isText_83 : decode cX12_isText 83 = .ok (.if_icmp .lt 16, 3) := by decide +kernel
theorem dX12_isText_86 : decode cX12_isText 86 = .ok (.aload_n 0, 1) := by decide +kernel
theorem dX12_isText_87 : decode cX12_isText 87 = .ok (.getfield 13, 3) := by decide +kernel
theorem dX12_isText_90 : decode cX12_isText 90 = .ok (.iload 8, 2) := by decide +kernel
theorem dX12_isText_92 : decode cX12_isText 92 = .ok (.iconst 2, 1) := by decide +kernel
theorem dX12_isText_93 : decode cX12_isText 93 = .ok (.iadd, 1) := by decide +kernel
theorem dX12_isText_94 : decode cX12_isText 94 = .ok (.iaload, 1) := by decide +kernel
theorem dX12_isText_95 : decode cX12_isText 95 = .ok (.iload_n 3, 1) := by decide +kernel
theorem dX12_isText_96 : decode cX12_isText 96 = .ok (.if_icmp .ne 68, 3) := by decide +kernel
theorem dX12_isText_99 : decode cX12_isText 99 = .ok (.iload 7, 2) := by decide +kernel
theorem dX12_isText_101 : decode cX12_isText 101 = .ok (.iconst 4, 1) := by decide +kernel
theorem dX12_isText_102 : decode cX12_isText 102 = .ok (.if_icmp .lt 17, 3) := by decide +kernel
theorem dX12_isText_105 : decode cX12_isText 105 = .ok (.aload_n 0, 1) := by decide +kernel
theorem dX12_isText_106 : decode cX12_isText 106 = .ok (.getfield 13, 3) := by decide +kernel
theorem dX12_isText_109 : decode cX12_isText 109 = .ok (.iload 8, 2) := by decide +kernel
theorem dX12_isText_111 : decode cX12_isText 111 = .ok (.iconst 3, 1) := by decide +kernel
theorem dX12_isText_112 : decode cX12_isText 112 = .ok (.iadd, 1) := by decide +kernel
theorem dX12_isText_113 : decode cX12_isText 113 = .ok (.iaload, 1) := by decide +kernel
theorem dX12_isText_114 : decode cX12_isText 114 = .ok (.iload 4, 2) := by decide +kernel
theorem dX12_isText_116 : decode cX12_isText 116 = .ok (.if_icmp .ne 48, 3) := by decide +kernel
theorem dX12_isText_119 : decode cX12_isText 119 = .ok (.iload 7, 2) := by decide +kernel
theorem dX12_isText_121 : decode cX12_isText 121 = .ok (.iconst 5, 1) := by decide +kernel
theorem dX12_isText_122 : decode cX12_isText 122 = .ok (.if_icmp .lt 17, 3) := by decide +kernel
theorem dX12_isText_125 : decode cX12_isText 125 = .ok (.aload_n 0, 1) := by decide +kernel
theorem dX12_isText_126 : decode cX12_isText 126 = .ok (.getfield 13, 3) := by decide +kernel
theorem dX12_isText_129 : decode cX12_isText 129 = .ok (.iload 8, 2) := by decide +kernel
theorem dX12_isText_131 : decode cX12_isText 131 = .ok (.iconst 4, 1) := by decide +kernel
theorem dX12_isText_132 : decode cX12_isText 132 = .ok (.iadd, 1) := by decide +kernel
theorem dX12_isText_133 : decode cX12_isText 133 = .ok (.iaload, 1) := by decide +kernel
theorem dX12_isText_134 : decode cX12_isText 134 = .ok (.iload 5, 2) := by decide +kernel
theorem dX12_isText_136 : decode cX12_isText 136 = .ok (.if_icmp .ne 28, 3) := by decide +kernel
theorem dX12_isText_139 : decode cX12_isText 139 = .ok (.iload 7, 2) := by decide +kernel
theorem dX12_isText_141 : decode cX12_isText 141 = .ok (.bipush 6, 2) := by decide +kernel
theorem dX12_isText_143 : decode cX12_isText 143 = .ok (.if_icmp .lt 17, 3) := by decide +kernel
theorem dX12_isText_146 : decode cX12_isText 146 = .ok (.aload_n 0, 1) := by decide +kernel
theorem dX12_isText_147 : decode cX12_isText 147 = .ok (.getfield 13, 3) := by decide +kernel
theorem dX12_isText_150 : decode cX12_isText 150 = .ok (.iload 8, 2) := by decide +kernel
theorem dX12_isText_152 : decode cX12_isText 152 = .ok (.iconst 5, 1) := by decide +kernel
theorem dX12_isText_153 : decode cX12_isText 153 = .ok (.iadd, 1) := by decide +kernel
theorem dX12_isText_154 : decode cX12_isText 154 = .ok (.iaload, 1) := by decide +kernel
theorem dX12_isText_155 : decode cX12_isText 155 = .ok (.iload 6, 2) := by decide +kernel
theorem dX12_isText_157 : decode cX12_isText 157 = .ok (.if_icmp .ne 7, 3) := by decide +kernel
theorem dX12_isText_160 : decode cX12_isText 160 = .ok (.iconst 1, 1) := by decide +kernel
theorem dX12_isText_161 : decode cX12_isText 161 = .ok (.goto 4, 3) := by decide +kernel
theorem dX12_isText_164 : decode cX12_isText 164 = .ok (.iconst 0, 1) := by decide +kernel
theorem dX12_isText_165 : decode cX12_isText 165 = .ok (.ireturn, 1) := by decide +kernel
def bX12_isText_160 (t : zS) : zR := some (1, t)
def bX12_isText_139 (x6 : Int32) (x7 : Int32) (x8 : Int32) (t : zS) : zR := if x7 < 6 then bX12_isText_160   t else zrd t 2 3000 (x8 + 5) fun v2496 => if v2496 = x6 then bX12_isText_160   t else some (0, t)
def bX12_isText_119 (x5 : Int32) (x6 : Int32) (x7 : Int32) (x8 : Int32) (t : zS) : zR := if x7 < 5 then bX12_isText_139  x6 x7 x8 t else zrd t 2 3000 (x8 + 4) fun v2498 => if v2498 = x5 then bX12_isText_139  x6 x7 x8 t else some (0, t)
def bX12_isText_99 (x4 : Int32) (x5 : Int32) (x6 : Int32) (x7 : Int32) (x8 : Int32) (t : zS) : zR := if x7 < 4 then bX12_isText_119  x5 x6 x7 x8 t else zrd t 2 3000 (x8 + 3) fun v2500 => if v2500 = x4 then bX12_isText_119  x5 x6 x7 x8 t else some (0, t)
def bX12_isText_37 (x1 : Int32) (x2 : Int32) (x3 : Int32) (x4 : Int32) (x5 : Int32) (x6 : Int32) (y0 : Int32) (t : zS) : zR := if (t 0 7) = y0 then zlet (t 0 6) fun v2502 => zrd t 2 3000 v2502 fun v2503 => if v2503 = x1 then zrd t 2 3000 (v2502 + 1) fun v2505 => if v2505 = x2 then if y0 < 3 then bX12_isText_99  x4 x5 x6 y0 v2502 t else zrd t 2 3000 (v2502 + 2) fun v2507 => if v2507 = x3 then bX12_isText_99  x4 x5 x6 y0 v2502 t else some (0, t) else some (0, t) else some (0, t) else some (0, t)
def mX12_isText (x1 : Int32) (x2 : Int32) (x3 : Int32) (x4 : Int32) (x5 : Int32) (x6 : Int32) (t : zS) : zR := if x4 = 0 then if x3 = 0 then bX12_isText_37  x1 x2 x3 x4 x5 x6 2 t else bX12_isText_37  x1 x2 x3 x4 x5 x6 3 t else if x5 = 0 then bX12_isText_37  x1 x2 x3 x4 x5 x6 4 t else if x6 = 0 then bX12_isText_37  x1 x2 x3 x4 x5 x6 5 t else bX12_isText_37  x1 x2 x3 x4 x5 x6 6 t
set_option maxHeartbeats 4000000 in
set_option maxRecDepth 20000 in
theorem wbX12_isText_160 {E : zE} {C : zC} {f : Nat} {ro : Int32 × zS} (hf : 1 ≤ f) (t : zS) (hF : bX12_isText_160   t = some ro) : zJ E shM C cX12_isText RX12 9 f (some .boolean) ro t 160 [] [] := by
  unfold bX12_isText_160 at hF
  refine z_iconst (v := 1) dX12_isText_160 (by decide) ?_
  refine z_goto (tgt := 165) dX12_isText_161 (by decide) ?_
  exact z_zret hF (by decide) dX12_isText_165
set_option maxHeartbeats 4000000 in
set_option maxRecDepth 20000 in
theorem wbX12_isText_139 {E : zE} {C : zC} {f : Nat} {ro : Int32 × zS} (hf : 1 ≤ f) (x6 : Int32) (x7 : Int32) (x8 : Int32) (t : zS) (hF : bX12_isText_139  x6 x7 x8 t = some ro) : zJ E shM C cX12_isText RX12 9 f (some .boolean) ro t 139 [(0, .ref (za E 0)), (6, .int x6), (7, .int x7), (8, .int x8)] [] := by
  unfold bX12_isText_139 at hF
  refine z_iload 2 dX12_isText_139 rfl ?_
  refine z_bipush (v := 6) dX12_isText_141 (by decide) ?_
  refine z_icmp_lt (tgt := 160) dX12_isText_143 (by decide) (fun hc => ?_) (fun hc => ?_)
  · have hF := zif_t hc hF
    refine z_sub [] rfl ?_
    exact wbX12_isText_160 hf   _ hF
  · have hF := zif_f hc hF
    refine z_aload_n 0 dX12_isText_146 rfl rfl ?_
    refine z_getr fr_RX12_13 dX12_isText_147 ?_
    refine z_iload 3 dX12_isText_150 rfl ?_
    refine z_iconst (v := 5) dX12_isText_152 (by decide) ?_
    refine z_iadd dX12_isText_153 ?_
    obtain ⟨hi2497, hF⟩ := zrd_at hF
    refine z_iald (n := 3000) rfl hi2497 dX12_isText_154 ?_
    generalize t 2 (Int32.toNatClampNeg (x8 + 5)) = v2496 at hF ⊢
    refine z_iload 1 dX12_isText_155 rfl ?_
    refine z_icmp_ne (tgt := 164) dX12_isText_157 (by decide) (fun hc => ?_) (fun hc => ?_)
    · have hF := zif_f hc hF
      refine z_iconst (v := 0) dX12_isText_164 (by decide) ?_
      exact z_zret hF (by decide) dX12_isText_165
    · have hF := zif_t hc hF
      refine z_sub [] rfl ?_
      exact wbX12_isText_160 hf   _ hF
set_option maxHeartbeats 4000000 in
set_option maxRecDepth 20000 in
theorem wbX12_isText_119 {E : zE} {C : zC} {f : Nat} {ro : Int32 × zS} (hf : 1 ≤ f) (x5 : Int32) (x6 : Int32) (x7 : Int32) (x8 : Int32) (t : zS) (hF : bX12_isText_119  x5 x6 x7 x8 t = some ro) : zJ E shM C cX12_isText RX12 9 f (some .boolean) ro t 119 [(0, .ref (za E 0)), (5, .int x5), (6, .int x6), (7, .int x7), (8, .int x8)] [] := by
  unfold bX12_isText_119 at hF
  refine z_iload 3 dX12_isText_119 rfl ?_
  refine z_iconst (v := 5) dX12_isText_121 (by decide) ?_
  refine z_icmp_lt (tgt := 139) dX12_isText_122 (by decide) (fun hc => ?_) (fun hc => ?_)
  · have hF := zif_t hc hF
    refine z_sub [0, 2, 3, 4] rfl ?_
    exact wbX12_isText_139 hf  x6 x7 x8 _ hF
  · have hF := zif_f hc hF
    refine z_aload_n 0 dX12_isText_125 rfl rfl ?_
    refine z_getr fr_RX12_13 dX12_isText_126 ?_
    refine z_iload 4 dX12_isText_129 rfl ?_
    refine z_iconst (v := 4) dX12_isText_131 (by decide) ?_
    refine z_iadd dX12_isText_132 ?_
    obtain ⟨hi2499, hF⟩ := zrd_at hF
    refine z_iald (n := 3000) rfl hi2499 dX12_isText_133 ?_
    generalize t 2 (Int32.toNatClampNeg (x8 + 4)) = v2498 at hF ⊢
    refine z_iload 1 dX12_isText_134 rfl ?_
    refine z_icmp_ne (tgt := 164) dX12_isText_136 (by decide) (fun hc => ?_) (fun hc => ?_)
    · have hF := zif_f hc hF
      refine z_iconst (v := 0) dX12_isText_164 (by decide) ?_
      exact z_zret hF (by decide) dX12_isText_165
    · have hF := zif_t hc hF
      refine z_sub [0, 2, 3, 4] rfl ?_
      exact wbX12_isText_139 hf  x6 x7 x8 _ hF
set_option maxHeartbeats 4000000 in
set_option maxRecDepth 20000 in
theorem wbX12_isText_99 {E : zE} {C : zC} {f : Nat} {ro : Int32 × zS} (hf : 1 ≤ f) (x4 : Int32) (x5 : Int32) (x6 : Int32) (x7 : Int32) (x8 : Int32) (t : zS) (hF : bX12_isText_99  x4 x5 x6 x7 x8 t = some ro) : zJ E shM C cX12_isText RX12 9 f (some .boolean) ro t 99 [(0, .ref (za E 0)), (4, .int x4), (5, .int x5), (6, .int x6), (7, .int x7), (8, .int x8)] [] := by
  unfold bX12_isText_99 at hF
  refine z_iload 4 dX12_isText_99 rfl ?_
  refine z_iconst (v := 4) dX12_isText_101 (by decide) ?_
  refine z_icmp_lt (tgt := 119) dX12_isText_102 (by decide) (fun hc => ?_) (fun hc => ?_)
  · have hF := zif_t hc hF
    refine z_sub [0, 2, 3, 4, 5] rfl ?_
    exact wbX12_isText_119 hf  x5 x6 x7 x8 _ hF
  · have hF := zif_f hc hF
    refine z_aload_n 0 dX12_isText_105 rfl rfl ?_
    refine z_getr fr_RX12_13 dX12_isText_106 ?_
    refine z_iload 5 dX12_isText_109 rfl ?_
    refine z_iconst (v := 3) dX12_isText_111 (by decide) ?_
    refine z_iadd dX12_isText_112 ?_
    obtain ⟨hi2501, hF⟩ := zrd_at hF
    refine z_iald (n := 3000) rfl hi2501 dX12_isText_113 ?_
    generalize t 2 (Int32.toNatClampNeg (x8 + 3)) = v2500 at hF ⊢
    refine z_iload 1 dX12_isText_114 rfl ?_
    refine z_icmp_ne (tgt := 164) dX12_isText_116 (by decide) (fun hc => ?_) (fun hc => ?_)
    · have hF := zif_f hc hF
      refine z_iconst (v := 0) dX12_isText_164 (by decide) ?_
      exact z_zret hF (by decide) dX12_isText_165
    · have hF := zif_t hc hF
      refine z_sub [0, 2, 3, 4, 5] rfl ?_
      exact wbX12_isText_119 hf  x5 x6 x7 x8 _ hF
set_option maxHeartbeats 4000000 in
set_option maxRecDepth 20000 in
theorem wbX12_isText_37 {E : zE} {C : zC} {f : Nat} {ro : Int32 × zS} (hf : 1 ≤ f) (x1 : Int32) (x2 : Int32) (x3 : Int32) (x4 : Int32) (x5 : Int32) (x6 : Int32) (y0 : Int32) (t : zS) (hF : bX12_isText_37  x1 x2 x3 x4 x5 x6 y0 t = some ro) : zJ E shM C cX12_isText RX12 9 f (some .boolean) ro t 37 [(0, .ref (za E 0)), (1, .int x1), (2, .int x2), (3, .int x3), (4, .int x4), (5, .int x5), (6, .int x6)] [.int y0] := by
  unfold bX12_isText_37 at hF
  refine z_istore (lv' := [(7, .int y0), (0, .ref (za E 0)), (1, .int x1), (2, .int x2), (3, .int x3), (4, .int x4), (5, .int x5), (6, .int x6)]) dX12_isText_37 (by decide) rfl ?_
  refine z_aload_n 1 dX12_isText_39 rfl rfl ?_
  refine z_geti fi_RX12_224 dX12_isText_40 ?_
  refine z_iload 0 dX12_isText_43 rfl ?_
  refine z_icmp_eq (tgt := 50) dX12_isText_45 (by decide) (fun hc => ?_) (fun hc => ?_)
  · have hF := zif_t hc hF
    refine z_aload_n 1 dX12_isText_50 rfl rfl ?_
    refine z_geti fi_RX12_227 dX12_isText_51 ?_
    refine z_topi (fun v2502 ev2502 => ?_)
    have hF := zlet_at ev2502 hF
    refine z_istore (lv' := [(8, .int v2502), (7, .int y0), (0, .ref (za E 0)), (1, .int x1), (2, .int x2), (3, .int x3), (4, .int x4), (5, .int x5), (6, .int x6)]) dX12_isText_54 (by decide) rfl ?_
    refine z_aload_n 2 dX12_isText_56 rfl rfl ?_
    refine z_getr fr_RX12_13 dX12_isText_57 ?_
    refine z_iload 0 dX12_isText_60 rfl ?_
    obtain ⟨hi2504, hF⟩ := zrd_at hF
    refine z_iald (n := 3000) rfl hi2504 dX12_isText_62 ?_
    generalize t 2 (Int32.toNatClampNeg v2502) = v2503 at hF ⊢
    refine z_iload_n 3 dX12_isText_63 rfl rfl ?_
    refine z_icmp_ne (tgt := 164) dX12_isText_64 (by decide) (fun hc => ?_) (fun hc => ?_)
    · have hF := zif_f hc hF
      refine z_iconst (v := 0) dX12_isText_164 (by decide) ?_
      exact z_zret hF (by decide) dX12_isText_165
    · have hF := zif_t hc hF
      refine z_aload_n 2 dX12_isText_67 rfl rfl ?_
      refine z_getr fr_RX12_13 dX12_isText_68 ?_
      refine z_iload 0 dX12_isText_71 rfl ?_
      refine z_iconst (v := 1) dX12_isText_73 (by decide) ?_
      refine z_iadd dX12_isText_74 ?_
      obtain ⟨hi2506, hF⟩ := zrd_at hF
      refine z_iald (n := 3000) rfl hi2506 dX12_isText_75 ?_
      generalize t 2 (Int32.toNatClampNeg (v2502 + 1)) = v2505 at hF ⊢
      refine z_iload_n 4 dX12_isText_76 rfl rfl ?_
      refine z_icmp_ne (tgt := 164) dX12_isText_77 (by decide) (fun hc => ?_) (fun hc => ?_)
      · have hF := zif_f hc hF
        refine z_iconst (v := 0) dX12_isText_164 (by decide) ?_
        exact z_zret hF (by decide) dX12_isText_165
      · have hF := zif_t hc hF
        refine z_iload 1 dX12_isText_80 rfl ?_
        refine z_iconst (v := 3) dX12_isText_82 (by decide) ?_
        refine z_icmp_lt (tgt := 99) dX12_isText_83 (by decide) (fun hc => ?_) (fun hc => ?_)
        · have hF := zif_t hc hF
          refine z_sub [2, 6, 7, 8, 1, 0] rfl ?_
          exact wbX12_isText_99 hf  x4 x5 x6 y0 v2502 _ hF
        · have hF := zif_f hc hF
          refine z_aload_n 2 dX12_isText_86 rfl rfl ?_
          refine z_getr fr_RX12_13 dX12_isText_87 ?_
          refine z_iload 0 dX12_isText_90 rfl ?_
          refine z_iconst (v := 2) dX12_isText_92 (by decide) ?_
          refine z_iadd dX12_isText_93 ?_
          obtain ⟨hi2508, hF⟩ := zrd_at hF
          refine z_iald (n := 3000) rfl hi2508 dX12_isText_94 ?_
          generalize t 2 (Int32.toNatClampNeg (v2502 + 2)) = v2507 at hF ⊢
          refine z_iload_n 5 dX12_isText_95 rfl rfl ?_
          refine z_icmp_ne (tgt := 164) dX12_isText_96 (by decide) (fun hc => ?_) (fun hc => ?_)
          · have hF := zif_f hc hF
            refine z_iconst (v := 0) dX12_isText_164 (by decide) ?_
            exact z_zret hF (by decide) dX12_isText_165
          · have hF := zif_t hc hF
            refine z_sub [2, 6, 7, 8, 1, 0] rfl ?_
            exact wbX12_isText_99 hf  x4 x5 x6 y0 v2502 _ hF
  · have hF := zif_f hc hF
    refine z_iconst (v := 0) dX12_isText_48 (by decide) ?_
    exact z_zret hF (by decide) dX12_isText_49
set_option maxHeartbeats 4000000 in
set_option maxRecDepth 20000 in
theorem ctX12_isText {E : zE} {f : Nat} (hf : 1 ≤ f) {x1 : Int32} {x2 : Int32} {x3 : Int32} {x4 : Int32} {x5 : Int32} {x6 : Int32} {t : zS} {ro : Int32 × zS} (hF : mX12_isText  x1 x2 x3 x4 x5 x6 t = some ro) : zM E shM f yX12_isText cX12_isText 9 (some .boolean) [.ref (za E 0), .int x1, .int x2, .int x3, .int x4, .int x5, .int x6] t ro := by
  refine zM_of (by decide) (Nat.le_of_ble_eq_true rfl) (fun C => ?_)
  show zJ E shM C cX12_isText RX12 9 f (some .boolean) ro t 0 [(0, .ref (za E 0)), (1, .int x1), (2, .int x2), (3, .int x3), (4, .int x4), (5, .int x5), (6, .int x6)] []
  unfold mX12_isText at hF
  refine z_iload 4 dX12_isText_0 rfl ?_
  refine z_if_ne (tgt := 17) dX12_isText_2 (by decide) (fun hc => ?_) (fun hc => ?_)
  · have hF := zif_f hc hF
    refine z_iload 5 dX12_isText_17 rfl ?_
    refine z_if_ne (tgt := 26) dX12_isText_19 (by decide) (fun hc => ?_) (fun hc => ?_)
    · have hF := zif_f hc hF
      refine z_iload 6 dX12_isText_26 rfl ?_
      refine z_if_ne (tgt := 35) dX12_isText_28 (by decide) (fun hc => ?_) (fun hc => ?_)
      · have hF := zif_f hc hF
        refine z_bipush (v := 6) dX12_isText_35 (by decide) ?_
        exact wbX12_isText_37 hf  x1 x2 x3 x4 x5 x6 6 _ hF
      · have hF := zif_t hc hF
        refine z_iconst (v := 5) dX12_isText_31 (by decide) ?_
        refine z_goto (tgt := 37) dX12_isText_32 (by decide) ?_
        exact wbX12_isText_37 hf  x1 x2 x3 x4 x5 x6 5 _ hF
    · have hF := zif_t hc hF
      refine z_iconst (v := 4) dX12_isText_22 (by decide) ?_
      refine z_goto (tgt := 37) dX12_isText_23 (by decide) ?_
      exact wbX12_isText_37 hf  x1 x2 x3 x4 x5 x6 4 _ hF
  · have hF := zif_t hc hF
    refine z_iload_n 3 dX12_isText_5 rfl rfl ?_
    refine z_if_ne (tgt := 13) dX12_isText_6 (by decide) (fun hc => ?_) (fun hc => ?_)
    · have hF := zif_f hc hF
      refine z_iconst (v := 3) dX12_isText_13 (by decide) ?_
      refine z_goto (tgt := 37) dX12_isText_14 (by decide) ?_
      exact wbX12_isText_37 hf  x1 x2 x3 x4 x5 x6 3 _ hF
    · have hF := zif_t hc hF
      refine z_iconst (v := 2) dX12_isText_9 (by decide) ?_
      refine z_goto (tgt := 37) dX12_isText_10 (by decide) ?_
      exact wbX12_isText_37 hf  x1 x2 x3 x4 x5 x6 2 _ hF
-- SessionHouseModel.keyOf()I
theorem dX12_keyOf_0 : decode cX12_keyOf 0 = .ok (.aload_n 0, 1) := by decide +kernel
theorem dX12_keyOf_1 : decode cX12_keyOf 1 = .ok (.bipush 116, 2) := by decide +kernel
theorem dX12_keyOf_3 : decode cX12_keyOf 3 = .ok (.bipush 121, 2) := by decide +kernel
theorem dX12_keyOf_5 : decode cX12_keyOf 5 = .ok (.bipush 112, 2) := by decide +kernel
theorem dX12_keyOf_7 : decode cX12_keyOf 7 = .ok (.bipush 101, 2) := by decide +kernel
theorem dX12_keyOf_9 : decode cX12_keyOf 9 = .ok (.iconst 0, 1) := by decide +kernel
theorem dX12_keyOf_10 : decode cX12_keyOf 10 = .ok (.iconst 0, 1) := by decide +kernel
theorem dX12_keyOf_11 : decode cX12_keyOf 11 = .ok (.invokevirtual 230, 3) := by decide +kernel
theorem dX12_keyOf_14 : decode cX12_keyOf 14 = .ok (.ifCond .eq 5, 3) := by decide +kernel
theorem dX12_keyOf_17 : decode cX12_keyOf 17 = .ok (.iconst 1, 1) := by decide +kernel
theorem dX12_keyOf_18 : decode cX12_keyOf 18 = .ok (.ireturn, 1) := by decide +kernel
theorem dX12_keyOf_19 : decode cX12_keyOf 19 = .ok (.aload_n 0, 1) := by decide +kernel
theorem dX12_keyOf_20 : decode cX12_keyOf 20 = .ok (.bipush 112, 2) := by decide +kernel
theorem dX12_keyOf_22 : decode cX12_keyOf 22 = .ok (.bipush 114, 2) := by decide +kernel
theorem dX12_keyOf_24 : decode cX12_keyOf 24 = .ok (.bipush 111, 2) := by decide +kernel
theorem dX12_keyOf_26 : decode cX12_keyOf 26 = .ok (.bipush 99, 2) := by decide +kernel
theorem dX12_keyOf_28 : decode cX12_keyOf 28 = .ok (.iconst 0, 1) := by decide +kernel
theorem dX12_keyOf_29 : decode cX12_keyOf 29 = .ok (.iconst 0, 1) := by decide +kernel
theorem dX12_keyOf_30 : decode cX12_keyOf 30 = .ok (.invokevirtual 230, 3) := by decide +kernel
theorem dX12_keyOf_33 : decode cX12_keyOf 33 = .ok (.ifCond .eq 5, 3) := by decide +kernel
theorem dX12_keyOf_36 : decode cX12_keyOf 36 = .ok (.iconst 2, 1) := by decide +kernel
theorem dX12_keyOf_37 : decode cX12_keyOf 37 = .ok (.ireturn, 1) := by decide +kernel
theorem dX12_keyOf_38 : decode cX12_keyOf 38 = .ok (.aload_n 0, 1) := by decide +kernel
theorem dX12_keyOf_39 : decode cX12_keyOf 39 = .ok (.bipush 115, 2) := by decide +kernel
theorem dX12_keyOf_41 : decode cX12_keyOf 41 = .ok (.bipush 101, 2) := by decide +kernel
theorem dX12_keyOf_43 : decode cX12_keyOf 43 = .ok (.bipush 110, 2) := by decide +kernel
theorem dX12_keyOf_45 : decode cX12_keyOf 45 = .ok (.bipush 100, 2) := by decide +kernel
theorem dX12_keyOf_47 : decode cX12_keyOf 47 = .ok (.iconst 0, 1) := by decide +kernel
theorem dX12_keyOf_48 : decode cX12_keyOf 48 = .ok (.iconst 0, 1) := by decide +kernel
theorem dX12_keyOf_49 : decode cX12_keyOf 49 = .ok (.invokevirtual 230, 3) := by decide +kernel
theorem dX12_keyOf_52 : decode cX12_keyOf 52 = .ok (.ifCond .eq 5, 3) := by decide +kernel
theorem dX12_keyOf_55 : decode cX12_keyOf 55 = .ok (.iconst 3, 1) := by decide +kernel
theorem dX12_keyOf_56 : decode cX12_keyOf 56 = .ok (.ireturn, 1) := by decide +kernel
theorem dX12_keyOf_57 : decode cX12_keyOf 57 = .ok (.aload_n 0, 1) := by decide +kernel
theorem dX12_keyOf_58 : decode cX12_keyOf 58 = .ok (.bipush 114, 2) := by decide +kernel
theorem dX12_keyOf_60 : decode cX12_keyOf 60 = .ok (.bipush 101, 2) := by decide +kernel
theorem dX12_keyOf_62 : decode cX12_keyOf 62 = .ok (.bipush 99, 2) := by decide +kernel
theorem dX12_keyOf_64 : decode cX12_keyOf 64 = .ok (.bipush 118, 2) := by decide +kernel
theorem dX12_keyOf_66 : decode cX12_keyOf 66 = .ok (.iconst 0, 1) := by decide +kernel
theorem dX12_keyOf_67 : decode cX12_keyOf 67 = .ok (.iconst 0, 1) := by decide +kernel
theorem dX12_keyOf_68 : decode cX12_keyOf 68 = .ok (.invokevirtual 230, 3) := by decide +kernel
theorem dX12_keyOf_71 : decode cX12_keyOf 71 = .ok (.ifCond .eq 5, 3) := by decide +kernel
theorem dX12_keyOf_74 : decode cX12_keyOf 74 = .ok (.iconst 4, 1) := by decide +kernel
theorem dX12_keyOf_75 : decode cX12_keyOf 75 = .ok (.ireturn, 1) := by decide +kernel
theorem dX12_keyOf_76 : decode cX12_keyOf 76 = .ok (.aload_n 0, 1) := by decide +kernel
theorem dX12_keyOf_77 : decode cX12_keyOf 77 = .ok (.bipush 112, 2) := by decide +kernel
theorem dX12_keyOf_79 : decode cX12_keyOf 79 = .ok (.bipush 97, 2) := by decide +kernel
theorem dX12_keyOf_81 : decode cX12_keyOf 81 = .ok (.bipush 115, 2) := by decide +kernel
theorem dX12_keyOf_83 : decode cX12_keyOf 83 = .ok (.bipush 115, 2) := by decide +kernel
theorem dX12_keyOf_85 : decode cX12_keyOf 85 = .ok (.iconst 0, 1) := by decide +kernel
theorem dX12_keyOf_86 : decode cX12_keyOf 86 = .ok (.iconst 0, 1) := by decide +kernel
theorem dX12_keyOf_87 : decode cX12_keyOf 87 = .ok (.invokevirtual 230, 3) := by decide +kernel
theorem dX12_keyOf_90 : decode cX12_keyOf 90 = .ok (.ifCond .eq 5, 3) := by decide +kernel
theorem dX12_keyOf_93 : decode cX12_keyOf 93 = .ok (.iconst 5, 1) := by decide +kernel
theorem dX12_keyOf_94 : decode cX12_keyOf 94 = .ok (.ireturn, 1) := by decide +kernel
theorem dX12_keyOf_95 : decode cX12_keyOf 95 = .ok (.aload_n 0, 1) := by decide +kernel
theorem dX12_keyOf_96 : decode cX12_keyOf 96 = .ok (.bipush 116, 2) := by decide +kernel
theorem dX12_keyOf_98 : decode cX12_keyOf 98 = .ok (.bipush 97, 2) := by decide +kernel
theorem dX12_keyOf_100 : decode cX12_keyOf 100 = .ok (.bipush 107, 2) := by decide +kernel
theorem dX12_keyOf_102 : decode cX12_keyOf 102 = .ok (.bipush 101, 2) := by decide +kernel
theorem dX12_keyOf_104 : decode cX12_keyOf 104 = .ok (.iconst 0, 1) := by decide +kernel
theorem dX12_keyOf_105 : decode cX12_keyOf 105 = .ok (.iconst 0, 1) := by decide +kernel
theorem dX12_keyOf_106 : decode cX12_keyOf 106 = .ok (.invokevirtual 230, 3) := by decide +kernel
theorem dX12_keyOf_109 : decode cX12_keyOf 109 = .ok (.ifCond .eq 6, 3) := by decide +kernel
theorem dX12_keyOf_112 : decode cX12_keyOf 112 = .ok (.bipush 6, 2) := by decide +kernel
theorem dX12_keyOf_114 : decode cX12_keyOf 114 = .ok (.ireturn, 1) := by decide +kernel
theorem dX12_keyOf_115 : decode cX12_keyOf 115 = .ok (.aload_n 0, 1) := by decide +kernel
theorem dX12_keyOf_116 : decode cX12_keyOf 116 = .ok (.bipush 112, 2) := by decide +kernel
theorem dX12_keyOf_118 : decode cX12_keyOf 118 = .ok (.bipush 105, 2) := by decide +kernel
theorem dX12_keyOf_120 : decode cX12_keyOf 120 = .ok (.bipush 99, 2) := by decide +kernel
theorem dX12_keyOf_122 : decode cX12_keyOf 122 = .ok (.bipush 107, 2) := by decide +kernel
theorem dX12_keyOf_124 : decode cX12_keyOf 124 = .ok (.iconst 0, 1) := by decide +kernel
theorem dX12_keyOf_125 : decode cX12_keyOf 125 = .ok (.iconst 0, 1) := by decide +kernel
theorem dX12_keyOf_126 : decode cX12_keyOf 126 = .ok (.invokevirtual 230, 3) := by decide +kernel
theorem dX12_keyOf_129 : decode cX12_keyOf 129 = .ok (.ifCond .eq 6, 3) := by decide +kernel
theorem dX12_keyOf_132 : decode cX12_keyOf 132 = .ok (.bipush 7, 2) := by decide +kernel
theorem dX12_keyOf_134 : decode cX12_keyOf 134 = .ok (.ireturn, 1) := by decide +kernel
theorem dX12_keyOf_135 : decode cX12_keyOf 135 = .ok (.aload_n 0, 1) := by decide +kernel
theorem dX12_keyOf_136 : decode cX12_keyOf 136 = .ok (.bipush 99, 2) := by decide +kernel
theorem dX12_keyOf_138 : decode cX12_keyOf 138 = .ok (.bipush 97, 2) := by decide +kernel
theorem dX12_keyOf_140 : decode cX12_keyOf 140 = .ok (.bipush 115, 2) := by decide +kernel
theorem dX12_keyOf_142 : decode cX12_keyOf 142 = .ok (.bipush 101, 2) := by decide +kernel
theorem dX12_keyOf_144 : decode cX12_keyOf 144 = .ok (.iconst 0, 1) := by decide +kernel
theorem dX12_keyOf_145 : decode cX12_keyOf 145 = .ok (.iconst 0, 1) := by decide +kernel
theorem dX12_keyOf_146 : decode cX12_keyOf 146 = .ok (.invokevirtual 230, 3) := by decide +kernel
theorem dX12_keyOf_149 : decode cX12_keyOf 149 = .ok (.ifCond .eq 6, 3) := by decide +kernel
theorem dX12_keyOf_152 : decode cX12_keyOf 152 = .ok (.bipush 8, 2) := by decide +kernel
theorem dX12_keyOf_154 : decode cX12_keyOf 154 = .ok (.ireturn, 1) := by decide +kernel
theorem dX12_keyOf_155 : decode cX12_keyOf 155 = .ok (.aload_n 0, 1) := by decide +kernel
theorem dX12_keyOf_156 : decode cX12_keyOf 156 = .ok (.bipush 115, 2) := by decide +kernel
theorem dX12_keyOf_158 : decode cX12_keyOf 158 = .ok (.bipush 112, 2) := by decide +kernel
theorem dX12_keyOf_160 : decode cX12_keyOf 160 = .ok (.bipush 97, 2) := by decide +kernel
theorem dX12_keyOf_162 : decode cX12_keyOf 162 = .ok (.bipush 119, 2) := by decide +kernel
theorem dX12_keyOf_164 : decode cX12_keyOf 164 = .ok (.bipush 110, 2) := by decide +kernel
theorem dX12_keyOf_166 : decode cX12_keyOf 166 = .ok (.iconst 0, 1) := by decide +kernel
theorem dX12_keyOf_167 : decode cX12_keyOf 167 = .ok (.invokevirtual 230, 3) := by decide +kernel
theorem dX12_keyOf_170 : decode cX12_keyOf 170 = .ok (.ifCond .eq 6, 3) := by decide +kernel
theorem dX12_keyOf_173 : decode cX12_keyOf 173 = .ok (.bipush 9, 2) := by decide +kernel
theorem dX12_keyOf_175 : decode cX12_keyOf 175 = .ok (.ireturn, 1) := by decide +kernel
theorem dX12_keyOf_176 : decode cX12_keyOf 176 = .ok (.aload_n 0, 1) := by decide +kernel
theorem dX12_keyOf_177 : decode cX12_keyOf 177 = .ok (.bipush 98, 2) := by decide +kernel
theorem dX12_keyOf_179 : decode cX12_keyOf 179 = .ok (.bipush 101, 2) := by decide +kernel
theorem dX12_keyOf_181 : decode cX12_keyOf 181 = .ok (.bipush 99, 2) := by decide +kernel
theorem dX12_keyOf_183 : decode cX12_keyOf 183 = .ok (.bipush 111, 2) := by decide +kernel
theorem dX12_keyOf_185 : decode cX12_keyOf 185 = .ok (.bipush 109, 2) := by decide +kernel
theorem dX12_keyOf_187 : decode cX12_keyOf 187 = .ok (.bipush 101, 2) := by decide +kernel
theorem dX12_keyOf_189 : decode cX12_keyOf 189 = .ok (.invokevirtual 230, 3) := by decide +kernel
theorem dX12_keyOf_192 : decode cX12_keyOf 192 = .ok (.ifCond .eq 6, 3) := by decide +kernel
theorem dX12_keyOf_195 : decode cX12_keyOf 195 = .ok (.bipush 10, 2) := by decide +kernel
theorem dX12_keyOf_197 : decode cX12_keyOf 197 = .ok (.ireturn, 1) := by decide +kernel
theorem dX12_keyOf_198 : decode cX12_keyOf 198 = .ok (.aload_n 0, 1) := by decide +kernel
theorem dX12_keyOf_199 : decode cX12_keyOf 199 = .ok (.bipush 105, 2) := by decide +kernel
theorem dX12_keyOf_201 : decode cX12_keyOf 201 = .ok (.bipush 102, 2) := by decide +kernel
theorem dX12_keyOf_203 : decode cX12_keyOf 203 = .ok (.iconst 0, 1) := by decide +kernel
theorem dX12_keyOf_204 : decode cX12_keyOf 204 = .ok (.iconst 0, 1) := by decide +kernel
theorem dX12_keyOf_205 : decode cX12_keyOf 205 = .ok (.iconst 0, 1) := by decide +kernel
theorem dX12_keyOf_206 : decode cX12_keyOf 206 = .ok (.iconst 0, 1) := by decide +kernel
theorem dX12_keyOf_207 : decode cX12_keyOf 207 = .ok (.invokevirtual 230, 3) := by decide +kernel
theorem dX12_keyOf_210 : decode cX12_keyOf 210 = .ok (.ifCond .eq 6, 3) := by decide +kernel
theorem dX12_keyOf_213 : decode cX12_keyOf 213 = .ok (.bipush 11, 2) := by decide +kernel
theorem dX12_keyOf_215 : decode cX12_keyOf 215 = .ok (.ireturn, 1) := by decide +kernel
theorem dX12_keyOf_216 : decode cX12_keyOf 216 = .ok (.aload_n 0, 1) := by decide +kernel
theorem dX12_keyOf_217 : decode cX12_keyOf 217 = .ok (.bipush 101, 2) := by decide +kernel
theorem dX12_keyOf_219 : decode cX12_keyOf 219 = .ok (.bipush 108, 2) := by decide +kernel
theorem dX12_keyOf_221 : decode cX12_keyOf 221 = .ok (.bipush 115, 2) := by decide +kernel
theorem dX12_keyOf_223 : decode cX12_keyOf 223 = .ok (.bipush 101, 2) := by decide +kernel
theorem dX12_keyOf_225 : decode cX12_keyOf 225 = .ok (.iconst 0, 1) := by decide +kernel
theorem dX12_keyOf_226 : decode cX12_keyOf 226 = .ok (.iconst 0, 1) := by decide +kernel
theorem dX12_keyOf_227 : decode cX12_keyOf 227 = .ok (.invokevirtual 230, 3) := by decide +kernel
theorem dX12_keyOf_230 : decode cX12_keyOf 230 = .ok (.ifCond .eq 6, 3) := by decide +kernel
theorem dX12_keyOf_233 : decode cX12_keyOf 233 = .ok (.bipush 12, 2) := by decide +kernel
theorem dX12_keyOf_235 : decode cX12_keyOf 235 = .ok (.ireturn, 1) := by decide +kernel
theorem dX12_keyOf_236 : decode cX12_keyOf 236 = .ok (.aload_n 0, 1) := by decide +kernel
theorem dX12_keyOf_237 : decode cX12_keyOf 237 = .ok (.bipush 119, 2) := by decide +kernel
theorem dX12_keyOf_239 : decode cX12_keyOf 239 = .ok (.bipush 104, 2) := by decide +kernel
theorem dX12_keyOf_241 : decode cX12_keyOf 241 = .ok (.bipush 105, 2) := by decide +kernel
theorem dX12_keyOf_243 : decode cX12_keyOf 243 = .ok (.bipush 108, 2) := by decide +kernel
theorem dX12_keyOf_245 : decode cX12_keyOf 245 = .ok (.bipush 101, 2) := by decide +kernel
theorem dX12_keyOf_247 : decode cX12_keyOf 247 = .ok (.iconst 0, 1) := by decide +kernel
theorem dX12_keyOf_248 : decode cX12_keyOf 248 = .ok (.invokevirtual 230, 3) := by decide +kernel
theorem dX12_keyOf_251 : decode cX12_keyOf 251 = .ok (.ifCond .eq 6, 3) := by decide +kernel
theorem dX12_keyOf_254 : decode cX12_keyOf 254 = .ok (.bipush 13, 2) := by decide +kernel
theorem dX12_keyOf_256 : decode cX12_keyOf 256 = .ok (.ireturn, 1) := by decide +kernel
theorem dX12_keyOf_257 : decode cX12_keyOf 257 = .ok (.aload_n 0, 1) := by decide +kernel
theorem dX12_keyOf_258 : decode cX12_keyOf 258 = .ok (.bipush 112, 2) := by decide +kernel
theorem dX12_keyOf_260 : decode cX12_keyOf 260 = .ok (.bipush 117, 2) := by decide +kernel
theorem dX12_keyOf_262 : decode cX12_keyOf 262 = .ok (.bipush 116, 2) := by decide +kernel
theorem dX12_keyOf_264 : decode cX12_keyOf 264 = .ok (.iconst 0, 1) := by decide +kernel
theorem dX12_keyOf_265 : decode cX12_keyOf 265 = .ok (.iconst 0, 1) := by decide +kernel
theorem dX12_keyOf_266 : decode cX12_keyOf 266 = .ok (.iconst 0, 1) := by decide +kernel
theorem dX12_keyOf_267 : decode cX12_keyOf 267 = .ok (.invokevirtual 230, 3) := by decide +kernel
theorem dX12_keyOf_270 : decode cX12_keyOf 270 = .ok (.ifCond .eq 6, 3) := by decide +kernel
theorem dX12_keyOf_273 : decode cX12_keyOf 273 = .ok (.bipush 14, 2) := by decide +kernel
theorem dX12_keyOf_275 : decode cX12_keyOf 275 = .ok (.ireturn, 1) := by decide +kernel
theorem dX12_keyOf_276 : decode cX12_keyOf 276 = .ok (.aload_n 0, 1) := by decide +kernel
theorem dX12_keyOf_277 : decode cX12_keyOf 277 = .ok (.bipush 103, 2) := by decide +kernel
theorem dX12_keyOf_279 : decode cX12_keyOf 279 = .ok (.bipush 101, 2) := by decide +kernel
theorem dX12_keyOf_281 : decode cX12_keyOf 281 = .ok (.bipush 116, 2) := by decide +kernel
theorem dX12_keyOf_283 : decode cX12_keyOf 283 = .ok (.iconst 0, 1) := by decide +kernel
theorem dX12_keyOf_284 : decode cX12_keyOf 284 = .ok (.iconst 0, 1) := by decide +kernel
theorem dX12_keyOf_285 : decode cX12_keyOf 285 = .ok (.iconst 0, 1) := by decide +kernel
theorem dX12_keyOf_286 : decode cX12_keyOf 286 = .ok (.invokevirtual 230, 3) := by decide +kernel
theorem dX12_keyOf_289 : decode cX12_keyOf 289 = .ok (.ifCond .eq 6, 3) := by decide +kernel
theorem dX12_keyOf_292 : decode cX12_keyOf 292 = .ok (.bipush 15, 2) := by decide +kernel
theorem dX12_keyOf_294 : decode cX12_keyOf 294 = .ok (.ireturn, 1) := by decide +kernel
theorem dX12_keyOf_295 : decode cX12_keyOf 295 = .ok (.aload_n 0, 1) := by decide +kernel
theorem dX12_keyOf_296 : decode cX12_keyOf 296 = .ok (.bipush 105, 2) := by decide +kernel
theorem dX12_keyOf_298 : decode cX12_keyOf 298 = .ok (.bipush 110, 2) := by decide +kernel
theorem dX12_keyOf_300 : decode cX12_keyOf 300 = .ok (.bipush 116, 2) := by decide +kernel
theorem dX12_keyOf_302 : decode cX12_keyOf 302 = .ok (.iconst 0, 1) := by decide +kernel
theorem dX12_keyOf_303 : decode cX12_keyOf 303 = .ok (.iconst 0, 1) := by decide +kernel
theorem dX12_keyOf_304 : decode cX12_keyOf 304 = .ok (.iconst 0, 1) := by decide +kernel
theorem dX12_keyOf_305 : decode cX12_keyOf 305 = .ok (.invokevirtual 230, 3) := by decide +kernel
theorem dX12_keyOf_308 : decode cX12_keyOf 308 = .ok (.ifCond .eq 6, 3) := by decide +kernel
theorem dX12_keyOf_311 : decode cX12_keyOf 311 = .ok (.bipush 16, 2) := by decide +kernel
theorem dX12_keyOf_313 : decode cX12_keyOf 313 = .ok (.ireturn, 1) := by decide +kernel
theorem dX12_keyOf_314 : decode cX12_keyOf 314 = .ok (.aload_n 0, 1) := by decide +kernel
theorem dX12_keyOf_315 : decode cX12_keyOf 315 = .ok (.bipush 101, 2) := by decide +kernel
theorem dX12_keyOf_317 : decode cX12_keyOf 317 = .ok (.bipush 110, 2) := by decide +kernel
theorem dX12_keyOf_319 : decode cX12_keyOf 319 = .ok (.bipush 100, 2) := by decide +kernel
theorem dX12_keyOf_321 : decode cX12_keyOf 321 = .ok (.iconst 0, 1) := by decide +kernel
theorem dX12_keyOf_322 : decode cX12_keyOf 322 = .ok (.iconst 0, 1) := by decide +kernel
theorem dX12_keyOf_323 : decode cX12_keyOf 323 = .ok (.iconst 0, 1) := by decide +kernel
theorem dX12_keyOf_324 : decode cX12_keyOf 324 = .ok (.invokevirtual 230, 3) := by decide +kernel
theorem dX12_keyOf_327 : decode cX12_keyOf 327 = .ok (.ifCond .eq 8, 3) := by decide +kernel
theorem dX12_keyOf_330 : decode cX12_keyOf 330 = .ok (.bipush 17, 2) := by decide +kernel
theorem dX12_keyOf_332 : decode cX12_keyOf 332 = .ok (.goto 4, 3) := by decide +kernel
theorem dX12_keyOf_335 : decode cX12_keyOf 335 = .ok (.iconst 0, 1) := by decide +kernel
theorem dX12_keyOf_336 : decode cX12_keyOf 336 = .ok (.ireturn, 1) := by decide +kernel
def mX12_keyOf (t : zS) : zR := zbd (mX12_isText 116 121 112 101 0 0 t) fun r2509 t2510 => if r2509 = 0 then zbd (mX12_isText 112 114 111 99 0 0 t2510) fun r2512 t2513 => if r2512 = 0 then zbd (mX12_isText 115 101 110 100 0 0 t2513) fun r2515 t2516 => if r2515 = 0 then zbd (mX12_isText 114 101 99 118 0 0 t2516) fun r2518 t2519 => if r2518 = 0 then zbd (mX12_isText 112 97 115 115 0 0 t2519) fun r2521 t2522 => if r2521 = 0 then zbd (mX12_isText 116 97 107 101 0 0 t2522) fun r2524 t2525 => if r2524 = 0 then zbd (mX12_isText 112 105 99 107 0 0 t2525) fun r2527 t2528 => if r2527 = 0 then zbd (mX12_isText 99 97 115 101 0 0 t2528) fun r2530 t2531 => if r2530 = 0 then zbd (mX12_isText 115 112 97 119 110 0 t2531) fun r2533 t2534 => if r2533 = 0 then zbd (mX12_isText 98 101 99 111 109 101 t2534) fun r2536 t2537 => if r2536 = 0 then zbd (mX12_isText 105 102 0 0 0 0 t2537) fun r2539 t2540 => if r2539 = 0 then zbd (mX12_isText 101 108 115 101 0 0 t2540) fun r2542 t2543 => if r2542 = 0 then zbd (mX12_isText 119 104 105 108 101 0 t2543) fun r2545 t2546 => if r2545 = 0 then zbd (mX12_isText 112 117 116 0 0 0 t2546) fun r2548 t2549 => if r2548 = 0 then zbd (mX12_isText 103 101 116 0 0 0 t2549) fun r2551 t2552 => if r2551 = 0 then zbd (mX12_isText 105 110 116 0 0 0 t2552) fun r2554 t2555 => if r2554 = 0 then zbd (mX12_isText 101 110 100 0 0 0 t2555) fun r2557 t2558 => if r2557 = 0 then some (0, t2558) else some (17, t2558) else some (16, t2555) else some (15, t2552) else some (14, t2549) else some (13, t2546) else some (12, t2543) else some (11, t2540) else some (10, t2537) else some (9, t2534) else some (8, t2531) else some (7, t2528) else some (6, t2525) else some (5, t2522) else some (4, t2519) else some (3, t2516) else some (2, t2513) else some (1, t2510)
set_option maxHeartbeats 4000000 in
set_option maxRecDepth 20000 in
theorem ctX12_keyOf {E : zE} {f : Nat} (hf : 2 ≤ f) {t : zS} {ro : Int32 × zS} (hF : mX12_keyOf   t = some ro) : zM E shM f yX12_keyOf cX12_keyOf 1 (some .int) [.ref (za E 0)] t ro := by
  refine zM_of (by decide) (Nat.le_of_ble_eq_true rfl) (fun C => ?_)
  show zJ E shM C cX12_keyOf RX12 1 f (some .int) ro t 0 [(0, .ref (za E 0))] []
  unfold mX12_keyOf at hF
  refine z_aload_n 0 dX12_keyOf_0 rfl rfl ?_
  refine z_bipush (v := 116) dX12_keyOf_1 (by decide) ?_
  refine z_bipush (v := 121) dX12_keyOf_3 (by decide) ?_
  refine z_bipush (v := 112) dX12_keyOf_5 (by decide) ?_
  refine z_bipush (v := 101) dX12_keyOf_7 (by decide) ?_
  refine z_iconst (v := 0) dX12_keyOf_9 (by decide) ?_
  refine z_iconst (v := 0) dX12_keyOf_10 (by decide) ?_
  obtain ⟨r2509, t2510, hc2511, hF⟩ := zbd_at hF
  refine z_callVi (ctX12_isText (E := E) (f := f - 1) (by omega) hc2511) yy_X12_isText yv_X12_isText ob_M_0 lk_RX12_230 (by omega) rfl rfl (Nat.le_of_ble_eq_true rfl) dX12_keyOf_11 ?_
  refine z_if_eq (tgt := 19) dX12_keyOf_14 (by decide) (fun hc => ?_) (fun hc => ?_)
  · have hF := zif_t hc hF
    refine z_aload_n 0 dX12_keyOf_19 rfl rfl ?_
    refine z_bipush (v := 112) dX12_keyOf_20 (by decide) ?_
    refine z_bipush (v := 114) dX12_keyOf_22 (by decide) ?_
    refine z_bipush (v := 111) dX12_keyOf_24 (by decide) ?_
    refine z_bipush (v := 99) dX12_keyOf_26 (by decide) ?_
    refine z_iconst (v := 0) dX12_keyOf_28 (by decide) ?_
    refine z_iconst (v := 0) dX12_keyOf_29 (by decide) ?_
    obtain ⟨r2512, t2513, hc2514, hF⟩ := zbd_at hF
    refine z_callVi (ctX12_isText (E := E) (f := f - 1) (by omega) hc2514) yy_X12_isText yv_X12_isText ob_M_0 lk_RX12_230 (by omega) rfl rfl (Nat.le_of_ble_eq_true rfl) dX12_keyOf_30 ?_
    refine z_if_eq (tgt := 38) dX12_keyOf_33 (by decide) (fun hc => ?_) (fun hc => ?_)
    · have hF := zif_t hc hF
      refine z_aload_n 0 dX12_keyOf_38 rfl rfl ?_
      refine z_bipush (v := 115) dX12_keyOf_39 (by decide) ?_
      refine z_bipush (v := 101) dX12_keyOf_41 (by decide) ?_
      refine z_bipush (v := 110) dX12_keyOf_43 (by decide) ?_
      refine z_bipush (v := 100) dX12_keyOf_45 (by decide) ?_
      refine z_iconst (v := 0) dX12_keyOf_47 (by decide) ?_
      refine z_iconst (v := 0) dX12_keyOf_48 (by decide) ?_
      obtain ⟨r2515, t2516, hc2517, hF⟩ := zbd_at hF
      refine z_callVi (ctX12_isText (E := E) (f := f - 1) (by omega) hc2517) yy_X12_isText yv_X12_isText ob_M_0 lk_RX12_230 (by omega) rfl rfl (Nat.le_of_ble_eq_true rfl) dX12_keyOf_49 ?_
      refine z_if_eq (tgt := 57) dX12_keyOf_52 (by decide) (fun hc => ?_) (fun hc => ?_)
      · have hF := zif_t hc hF
        refine z_aload_n 0 dX12_keyOf_57 rfl rfl ?_
        refine z_bipush (v := 114) dX12_keyOf_58 (by decide) ?_
        refine z_bipush (v := 101) dX12_keyOf_60 (by decide) ?_
        refine z_bipush (v := 99) dX12_keyOf_62 (by decide) ?_
        refine z_bipush (v := 118) dX12_keyOf_64 (by decide) ?_
        refine z_iconst (v := 0) dX12_keyOf_66 (by decide) ?_
        refine z_iconst (v := 0) dX12_keyOf_67 (by decide) ?_
        obtain ⟨r2518, t2519, hc2520, hF⟩ := zbd_at hF
        refine z_callVi (ctX12_isText (E := E) (f := f - 1) (by omega) hc2520) yy_X12_isText yv_X12_isText ob_M_0 lk_RX12_230 (by omega) rfl rfl (Nat.le_of_ble_eq_true rfl) dX12_keyOf_68 ?_
        refine z_if_eq (tgt := 76) dX12_keyOf_71 (by decide) (fun hc => ?_) (fun hc => ?_)
        · have hF := zif_t hc hF
          refine z_aload_n 0 dX12_keyOf_76 rfl rfl ?_
          refine z_bipush (v := 112) dX12_keyOf_77 (by decide) ?_
          refine z_bipush (v := 97) dX12_keyOf_79 (by decide) ?_
          refine z_bipush (v := 115) dX12_keyOf_81 (by decide) ?_
          refine z_bipush (v := 115) dX12_keyOf_83 (by decide) ?_
          refine z_iconst (v := 0) dX12_keyOf_85 (by decide) ?_
          refine z_iconst (v := 0) dX12_keyOf_86 (by decide) ?_
          obtain ⟨r2521, t2522, hc2523, hF⟩ := zbd_at hF
          refine z_callVi (ctX12_isText (E := E) (f := f - 1) (by omega) hc2523) yy_X12_isText yv_X12_isText ob_M_0 lk_RX12_230 (by omega) rfl rfl (Nat.le_of_ble_eq_true rfl) dX12_keyOf_87 ?_
          refine z_if_eq (tgt := 95) dX12_keyOf_90 (by decide) (fun hc => ?_) (fun hc => ?_)
          · have hF := zif_t hc hF
            refine z_aload_n 0 dX12_keyOf_95 rfl rfl ?_
            refine z_bipush (v := 116) dX12_keyOf_96 (by decide) ?_
            refine z_bipush (v := 97) dX12_keyOf_98 (by decide) ?_
            refine z_bipush (v := 107) dX12_keyOf_100 (by decide) ?_
            refine z_bipush (v := 101) dX12_keyOf_102 (by decide) ?_
            refine z_iconst (v := 0) dX12_keyOf_104 (by decide) ?_
            refine z_iconst (v := 0) dX12_keyOf_105 (by decide) ?_
            obtain ⟨r2524, t2525, hc2526, hF⟩ := zbd_at hF
            refine z_callVi (ctX12_isText (E := E) (f := f - 1) (by omega) hc2526) yy_X12_isText yv_X12_isText ob_M_0 lk_RX12_230 (by omega) rfl rfl (Nat.le_of_ble_eq_true rfl) dX12_keyOf_106 ?_
            refine z_if_eq (tgt := 115) dX12_keyOf_109 (by decide) (fun hc => ?_) (fun hc => ?_)
            · have hF := zif_t hc hF
              refine z_aload_n 0 dX12_keyOf_115 rfl rfl ?_
              refine z_bipush (v := 112) dX12_keyOf_116 (by decide) ?_
              refine z_bipush (v := 105) dX12_keyOf_118 (by decide) ?_
              refine z_bipush (v := 99) dX12_keyOf_120 (by decide) ?_
              refine z_bipush (v := 107) dX12_keyOf_122 (by decide) ?_
              refine z_iconst (v := 0) dX12_keyOf_124 (by decide) ?_
              refine z_iconst (v := 0) dX12_keyOf_125 (by decide) ?_
              obtain ⟨r2527, t2528, hc2529, hF⟩ := zbd_at hF
              refine z_callVi (ctX12_isText (E := E) (f := f - 1) (by omega) hc2529) yy_X12_isText yv_X12_isText ob_M_0 lk_RX12_230 (by omega) rfl rfl (Nat.le_of_ble_eq_true rfl) dX12_keyOf_126 ?_
              refine z_if_eq (tgt := 135) dX12_keyOf_129 (by decide) (fun hc => ?_) (fun hc => ?_)
              · have hF := zif_t hc hF
                refine z_aload_n 0 dX12_keyOf_135 rfl rfl ?_
                refine z_bipush (v := 99) dX12_keyOf_136 (by decide) ?_
                refine z_bipush (v := 97) dX12_keyOf_138 (by decide) ?_
                refine z_bipush (v := 115) dX12_keyOf_140 (by decide) ?_
                refine z_bipush (v := 101) dX12_keyOf_142 (by decide) ?_
                refine z_iconst (v := 0) dX12_keyOf_144 (by decide) ?_
                refine z_iconst (v := 0) dX12_keyOf_145 (by decide) ?_
                obtain ⟨r2530, t2531, hc2532, hF⟩ := zbd_at hF
                refine z_callVi (ctX12_isText (E := E) (f := f - 1) (by omega) hc2532) yy_X12_isText yv_X12_isText ob_M_0 lk_RX12_230 (by omega) rfl rfl (Nat.le_of_ble_eq_true rfl) dX12_keyOf_146 ?_
                refine z_if_eq (tgt := 155) dX12_keyOf_149 (by decide) (fun hc => ?_) (fun hc => ?_)
                · have hF := zif_t hc hF
                  refine z_aload_n 0 dX12_keyOf_155 rfl rfl ?_
                  refine z_bipush (v := 115) dX12_keyOf_156 (by decide) ?_
                  refine z_bipush (v := 112) dX12_keyOf_158 (by decide) ?_
                  refine z_bipush (v := 97) dX12_keyOf_160 (by decide) ?_
                  refine z_bipush (v := 119) dX12_keyOf_162 (by decide) ?_
                  refine z_bipush (v := 110) dX12_keyOf_164 (by decide) ?_
                  refine z_iconst (v := 0) dX12_keyOf_166 (by decide) ?_
                  obtain ⟨r2533, t2534, hc2535, hF⟩ := zbd_at hF
                  refine z_callVi (ctX12_isText (E := E) (f := f - 1) (by omega) hc2535) yy_X12_isText yv_X12_isText ob_M_0 lk_RX12_230 (by omega) rfl rfl (Nat.le_of_ble_eq_true rfl) dX12_keyOf_167 ?_
                  refine z_if_eq (tgt := 176) dX12_keyOf_170 (by decide) (fun hc => ?_) (fun hc => ?_)
                  · have hF := zif_t hc hF
                    refine z_aload_n 0 dX12_keyOf_176 rfl rfl ?_
                    refine z_bipush (v := 98) dX12_keyOf_177 (by decide) ?_
                    refine z_bipush (v := 101) dX12_keyOf_179 (by decide) ?_
                    refine z_bipush (v := 99) dX12_keyOf_181 (by decide) ?_
                    refine z_bipush (v := 111) dX12_keyOf_183 (by decide) ?_
                    refine z_bipush (v := 109) dX12_keyOf_185 (by decide) ?_
                    refine z_bipush (v := 101) dX12_keyOf_187 (by decide) ?_
                    obtain ⟨r2536, t2537, hc2538, hF⟩ := zbd_at hF
                    refine z_callVi (ctX12_isText (E := E) (f := f - 1) (by omega) hc2538) yy_X12_isText yv_X12_isText ob_M_0 lk_RX12_230 (by omega) rfl rfl (Nat.le_of_ble_eq_true rfl) dX12_keyOf_189 ?_
                    refine z_if_eq (tgt := 198) dX12_keyOf_192 (by decide) (fun hc => ?_) (fun hc => ?_)
                    · have hF := zif_t hc hF
                      refine z_aload_n 0 dX12_keyOf_198 rfl rfl ?_
                      refine z_bipush (v := 105) dX12_keyOf_199 (by decide) ?_
                      refine z_bipush (v := 102) dX12_keyOf_201 (by decide) ?_
                      refine z_iconst (v := 0) dX12_keyOf_203 (by decide) ?_
                      refine z_iconst (v := 0) dX12_keyOf_204 (by decide) ?_
                      refine z_iconst (v := 0) dX12_keyOf_205 (by decide) ?_
                      refine z_iconst (v := 0) dX12_keyOf_206 (by decide) ?_
                      obtain ⟨r2539, t2540, hc2541, hF⟩ := zbd_at hF
                      refine z_callVi (ctX12_isText (E := E) (f := f - 1) (by omega) hc2541) yy_X12_isText yv_X12_isText ob_M_0 lk_RX12_230 (by omega) rfl rfl (Nat.le_of_ble_eq_true rfl) dX12_keyOf_207 ?_
                      refine z_if_eq (tgt := 216) dX12_keyOf_210 (by decide) (fun hc => ?_) (fun hc => ?_)
                      · have hF := zif_t hc hF
                        refine z_aload_n 0 dX12_keyOf_216 rfl rfl ?_
                        refine z_bipush (v := 101) dX12_keyOf_217 (by decide) ?_
                        refine z_bipush (v := 108) dX12_keyOf_219 (by decide) ?_
                        refine z_bipush (v := 115) dX12_keyOf_221 (by decide) ?_
                        refine z_bipush (v := 101) dX12_keyOf_223 (by decide) ?_
                        refine z_iconst (v := 0) dX12_keyOf_225 (by decide) ?_
                        refine z_iconst (v := 0) dX12_keyOf_226 (by decide) ?_
                        obtain ⟨r2542, t2543, hc2544, hF⟩ := zbd_at hF
                        refine z_callVi (ctX12_isText (E := E) (f := f - 1) (by omega) hc2544) yy_X12_isText yv_X12_isText ob_M_0 lk_RX12_230 (by omega) rfl rfl (Nat.le_of_ble_eq_true rfl) dX12_keyOf_227 ?_
                        refine z_if_eq (tgt := 236) dX12_keyOf_230 (by decide) (fun hc => ?_) (fun hc => ?_)
                        · have hF := zif_t hc hF
                          refine z_aload_n 0 dX12_keyOf_236 rfl rfl ?_
                          refine z_bipush (v := 119) dX12_keyOf_237 (by decide) ?_
                          refine z_bipush (v := 104) dX12_keyOf_239 (by decide) ?_
                          refine z_bipush (v := 105) dX12_keyOf_241 (by decide) ?_
                          refine z_bipush (v := 108) dX12_keyOf_243 (by decide) ?_
                          refine z_bipush (v := 101) dX12_keyOf_245 (by decide) ?_
                          refine z_iconst (v := 0) dX12_keyOf_247 (by decide) ?_
                          obtain ⟨r2545, t2546, hc2547, hF⟩ := zbd_at hF
                          refine z_callVi (ctX12_isText (E := E) (f := f - 1) (by omega) hc2547) yy_X12_isText yv_X12_isText ob_M_0 lk_RX12_230 (by omega) rfl rfl (Nat.le_of_ble_eq_true rfl) dX12_keyOf_248 ?_
                          refine z_if_eq (tgt := 257) dX12_keyOf_251 (by decide) (fun hc => ?_) (fun hc => ?_)
                          · have hF := zif_t hc hF
                            refine z_aload_n 0 dX12_keyOf_257 rfl rfl ?_
                            refine z_bipush (v := 112) dX12_keyOf_258 (by decide) ?_
                            refine z_bipush (v := 117) dX12_keyOf_260 (by decide) ?_
                            refine z_bipush (v := 116) dX12_keyOf_262 (by decide) ?_
                            refine z_iconst (v := 0) dX12_keyOf_264 (by decide) ?_
                            refine z_iconst (v := 0) dX12_keyOf_265 (by decide) ?_
                            refine z_iconst (v := 0) dX12_keyOf_266 (by decide) ?_
                            obtain ⟨r2548, t2549, hc2550, hF⟩ := zbd_at hF
                            refine z_callVi (ctX12_isText (E := E) (f := f - 1) (by omega) hc2550) yy_X12_isText yv_X12_isText ob_M_0 lk_RX12_230 (by omega) rfl rfl (Nat.le_of_ble_eq_true rfl) dX12_keyOf_267 ?_
                            refine z_if_eq (tgt := 276) dX12_keyOf_270 (by decide) (fun hc => ?_) (fun hc => ?_)
                            · have hF := zif_t hc hF
                              refine z_aload_n 0 dX12_keyOf_276 rfl rfl ?_
                              refine z_bipush (v := 103) dX12_keyOf_277 (by decide) ?_
                              refine z_bipush (v := 101) dX12_keyOf_279 (by decide) ?_
                              refine z_bipush (v := 116) dX12_keyOf_281 (by decide) ?_
                              refine z_iconst (v := 0) dX12_keyOf_283 (by decide) ?_
                              refine z_iconst (v := 0) dX12_keyOf_284 (by decide) ?_
                              refine z_iconst (v := 0) dX12_keyOf_285 (by decide) ?_
                              obtain ⟨r2551, t2552, hc2553, hF⟩ := zbd_at hF
                              refine z_callVi (ctX12_isText (E := E) (f := f - 1) (by omega) hc2553) yy_X12_isText yv_X12_isText ob_M_0 lk_RX12_230 (by omega) rfl rfl (Nat.le_of_ble_eq_true rfl) dX12_keyOf_286 ?_
                              refine z_if_eq (tgt := 295) dX12_keyOf_289 (by decide) (fun hc => ?_) (fun hc => ?_)
                              · have hF := zif_t hc hF
                                refine z_aload_n 0 dX12_keyOf_295 rfl rfl ?_
                                refine z_bipush (v := 105) dX12_keyOf_296 (by decide) ?_
                                refine z_bipush (v := 110) dX12_keyOf_298 (by decide) ?_
                                refine z_bipush (v := 116) dX12_keyOf_300 (by decide) ?_
                                refine z_iconst (v := 0) dX12_keyOf_302 (by decide) ?_
                                refine z_iconst (v := 0) dX12_keyOf_303 (by decide) ?_
                                refine z_iconst (v := 0) dX12_keyOf_304 (by decide) ?_
                                obtain ⟨r2554, t2555, hc2556, hF⟩ := zbd_at hF
                                refine z_callVi (ctX12_isText (E := E) (f := f - 1) (by omega) hc2556) yy_X12_isText yv_X12_isText ob_M_0 lk_RX12_230 (by omega) rfl rfl (Nat.le_of_ble_eq_true rfl) dX12_keyOf_305 ?_
                                refine z_if_eq (tgt := 314) dX12_keyOf_308 (by decide) (fun hc => ?_) (fun hc => ?_)
                                · have hF := zif_t hc hF
                                  refine z_aload_n 0 dX12_keyOf_314 rfl rfl ?_
                                  refine z_bipush (v := 101) dX12_keyOf_315 (by decide) ?_
                                  refine z_bipush (v := 110) dX12_keyOf_317 (by decide) ?_
                                  refine z_bipush (v := 100) dX12_keyOf_319 (by decide) ?_
                                  refine z_iconst (v := 0) dX12_keyOf_321 (by decide) ?_
                                  refine z_iconst (v := 0) dX12_keyOf_322 (by decide) ?_
                                  refine z_iconst (v := 0) dX12_keyOf_323 (by decide) ?_
                                  obtain ⟨r2557, t2558, hc2559, hF⟩ := zbd_at hF
                                  refine z_callVi (ctX12_isText (E := E) (f := f - 1) (by omega) hc2559) yy_X12_isText yv_X12_isText ob_M_0 lk_RX12_230 (by omega) rfl rfl (Nat.le_of_ble_eq_true rfl) dX12_keyOf_324 ?_
                                  refine z_if_eq (tgt := 335) dX12_keyOf_327 (by decide) (fun hc => ?_) (fun hc => ?_)
                                  · have hF := zif_t hc hF
                                    refine z_iconst (v := 0) dX12_keyOf_335 (by decide) ?_
                                    exact z_iret hF dX12_keyOf_336
                                  · have hF := zif_f hc hF
                                    refine z_bipush (v := 17) dX12_keyOf_330 (by decide) ?_
                                    refine z_goto (tgt := 336) dX12_keyOf_332 (by decide) ?_
                                    exact z_iret hF dX12_keyOf_336
                                · have hF := zif_f hc hF
                                  refine z_bipush (v := 16) dX12_keyOf_311 (by decide) ?_
                                  exact z_iret hF dX12_keyOf_313
                              · have hF := zif_f hc hF
                                refine z_bipush (v := 15) dX12_keyOf_292 (by decide) ?_
                                exact z_iret hF dX12_keyOf_294
                            · have hF := zif_f hc hF
                              refine z_bipush (v := 14) dX12_keyOf_273 (by decide) ?_
                              exact z_iret hF dX12_keyOf_275
                          · have hF := zif_f hc hF
                            refine z_bipush (v := 13) dX12_keyOf_254 (by decide) ?_
                            exact z_iret hF dX12_keyOf_256
                        · have hF := zif_f hc hF
                          refine z_bipush (v := 12) dX12_keyOf_233 (by decide) ?_
                          exact z_iret hF dX12_keyOf_235
                      · have hF := zif_f hc hF
                        refine z_bipush (v := 11) dX12_keyOf_213 (by decide) ?_
                        exact z_iret hF dX12_keyOf_215
                    · have hF := zif_f hc hF
                      refine z_bipush (v := 10) dX12_keyOf_195 (by decide) ?_
                      exact z_iret hF dX12_keyOf_197
                  · have hF := zif_f hc hF
                    refine z_bipush (v := 9) dX12_keyOf_173 (by decide) ?_
                    exact z_iret hF dX12_keyOf_175
                · have hF := zif_f hc hF
                  refine z_bipush (v := 8) dX12_keyOf_152 (by decide) ?_
                  exact z_iret hF dX12_keyOf_154
              · have hF := zif_f hc hF
                refine z_bipush (v := 7) dX12_keyOf_132 (by decide) ?_
                exact z_iret hF dX12_keyOf_134
            · have hF := zif_f hc hF
              refine z_bipush (v := 6) dX12_keyOf_112 (by decide) ?_
              exact z_iret hF dX12_keyOf_114
          · have hF := zif_f hc hF
            refine z_iconst (v := 5) dX12_keyOf_93 (by decide) ?_
            exact z_iret hF dX12_keyOf_94
        · have hF := zif_f hc hF
          refine z_iconst (v := 4) dX12_keyOf_74 (by decide) ?_
          exact z_iret hF dX12_keyOf_75
      · have hF := zif_f hc hF
        refine z_iconst (v := 3) dX12_keyOf_55 (by decide) ?_
        exact z_iret hF dX12_keyOf_56
    · have hF := zif_f hc hF
      refine z_iconst (v := 2) dX12_keyOf_36 (by decide) ?_
      exact z_iret hF dX12_keyOf_37
  · have hF := zif_f hc hF
    refine z_iconst (v := 1) dX12_keyOf_17 (by decide) ?_
    exact z_iret hF dX12_keyOf_18
-- SessionHouseModel.nameOf()I
theorem dX12_nameOf_0 : decode cX12_nameOf 0 = .ok (.iconst 0, 1) := by decide +kernel
theorem dX12_nameOf_1 : decode cX12_nameOf 1 = .ok (.istore_n 1, 1) := by decide +kernel
theorem dX12_nameOf_2 : decode cX12_nameOf 2 = .ok (.iload_n 1, 1) := by decide +kernel
theorem dX12_nameOf_3 : decode cX12_nameOf 3 = .ok (.aload_n 0, 1) := by decide +kernel
theorem dX12_nameOf_4 : decode cX12_nameOf 4 = .ok (.getfield 234, 3) := by decide +kernel
theorem dX12_nameOf_7 : decode cX12_nameOf 7 = .ok (.if_icmp .ge 87, 3) := by decide +kernel
theorem dX12_nameOf_10 : decode cX12_nameOf 10 = .ok (.aload_n 0, 1) := by decide +kernel
theorem dX12_nameOf_11 : decode cX12_nameOf 11 = .ok (.getfield 19, 3) := by decide +kernel
theorem dX12_nameOf_14 : decode cX12_nameOf 14 = .ok (.iload_n 1, 1) := by decide +kernel
theorem dX12_nameOf_15 : decode cX12_nameOf 15 = .ok (.iaload, 1) := by decide +kernel
theorem dX12_nameOf_16 : decode cX12_nameOf 16 = .ok (.aload_n 0, 1) := by decide +kernel
theorem dX12_nameOf_17 : decode cX12_nameOf 17 = .ok (.getfield 224, 3) := by decide +kernel
theorem dX12_nameOf_20 : decode cX12_nameOf 20 = .ok (.if_icmp .ne 7, 3) := by decide +kernel
theorem dX12_nameOf_23 : decode cX12_nameOf 23 = .ok (.iconst 1, 1) := by decide +kernel
theorem dX12_nameOf_24 : decode cX12_nameOf 24 = .ok (.goto 4, 3) := by decide +kernel
theorem dX12_nameOf_27 : decode cX12_nameOf 27 = .ok (.iconst 0, 1) := by decide +kernel
theorem dX12_nameOf_28 : decode cX12_nameOf 28 = .ok (.istore_n 2, 1) := by decide +kernel
theorem dX12_nameOf_29 : decode cX12_nameOf 29 = .ok (.iconst 0, 1) := by decide +kernel
theorem dX12_nameOf_30 : decode cX12_nameOf 30 = .ok (.istore_n 3, 1) := by decide +kernel
theorem dX12_nameOf_31 : decode cX12_nameOf 31 = .ok (.iload_n 3, 1) := by decide +kernel
theorem dX12_nameOf_32 : decode cX12_nameOf 32 = .ok (.aload_n 0, 1) := by decide +kernel
theorem dX12_nameOf_33 : decode cX12_nameOf 33 = .ok (.getfield 224, 3) := by decide +kernel
theorem dX12_nameOf_36 : decode cX12_nameOf 36 = .ok (.if_icmp .ge 46, 3) := by decide +kernel
theorem dX12_nameOf_39 : decode cX12_nameOf 39 = .ok (.iload_n 2, 1) := by decide +kernel
theorem dX12_nameOf_40 : decode cX12_nameOf 40 = .ok (.ifCond .eq 42, 3) := by decide +kernel
theorem dX12_nameOf_43 : decode cX12_nameOf 43 = .ok (.aload_n 0, 1) := by decide +kernel
theorem dX12_nameOf_44 : decode cX12_nameOf 44 = .ok (.getfield 13, 3) := by decide +kernel
theorem dX12_nameOf_47 : decode cX12_nameOf 47 = .ok (.aload_n 0, 1) := by decide +kernel
theorem dX12_nameOf_48 : decode cX12_nameOf 48 = .ok (.getfield 16, 3) := by decide +kernel
theorem dX12_nameOf_51 : decode cX12_nameOf 51 = .ok (.iload_n 1, 1) := by decide +kernel
theorem dX12_nameOf_52 : decode cX12_nameOf 52 = .ok (.iaload, 1) := by decide +kernel
theorem dX12_nameOf_53 : decode cX12_nameOf 53 = .ok (.iload_n 3, 1) := by decide +kernel
theorem dX12_nameOf_54 : decode cX12_nameOf 54 = .ok (.iadd, 1) := by decide +kernel
theorem dX12_nameOf_55 : decode cX12_nameOf 55 = .ok (.iaload, 1) := by decide +kernel
theorem dX12_nameOf_56 : decode cX12_nameOf 56 = .ok (.aload_n 0, 1) := by decide +kernel
theorem dX12_nameOf_57 : decode cX12_nameOf 57 = .ok (.getfield 13, 3) := by decide +kernel
theorem dX12_nameOf_60 : decode cX12_nameOf 60 = .ok (.aload_n 0, 1) := by decide +kernel
theorem dX12_nameOf_61 : decode cX12_nameOf 61 = .ok (.getfield 227, 3) := by decide +kernel
theorem dX12_nameOf_64 : decode cX12_nameOf 64 = .ok (.iload_n 3, 1) := by decide +kernel
theorem dX12_nameOf_65 : decode cX12_nameOf 65 = .ok (.iadd, 1) := by decide +kernel
theorem dX12_nameOf_66 : decode cX12_nameOf 66 = .ok (.iaload, 1) := by decide +kernel
theorem dX12_nameOf_67 : decode cX12_nameOf 67 = .ok (.if_icmp .ne 7, 3) := by decide +kernel
theorem dX12_nameOf_70 : decode cX12_nameOf 70 = .ok (.iconst 1, 1) := by decide +kernel
theorem dX12_nameOf_71 : decode cX12_nameOf 71 = .ok (.goto 4, 3) := by decide +kernel
theorem dX12_nameOf_74 : decode cX12_nameOf 74 = .ok (.iconst 0, 1) := by decide +kernel
theorem dX12_nameOf_75 : decode cX12_nameOf 75 = .ok (.istore_n 2, 1) := by decide +kernel
theorem dX12_nameOf_76 : decode cX12_nameOf 76 = .ok (.iinc 3 1, 3) := by decide +kernel
theorem dX12_nameOf_79 : decode cX12_nameOf 79 = .ok (.goto (-48), 3) := by decide +kernel
theorem dX12_nameOf_82 : decode cX12_nameOf 82 = .ok (.iload_n 2, 1) := by decide +kernel
theorem dX12_nameOf_83 : decode cX12_nameOf 83 = .ok (.ifCond .eq 5, 3) := by decide +kernel
theorem dX12_nameOf_86 : decode cX12_nameOf 86 = .ok (.iload_n 1, 1) := by decide +kernel
theorem dX12_nameOf_87 : decode cX12_nameOf 87 = .ok (.ireturn, 1) := by decide +kernel
theorem dX12_nameOf_88 : decode cX12_nameOf 88 = .ok (.iinc 1 1, 3) := by decide +kernel
theorem dX12_nameOf_91 : decode cX12_nameOf 91 = .ok (.goto (-89), 3) := by decide +kernel
theorem dX12_nameOf_94 : decode cX12_nameOf 94 = .ok (.aload_n 0, 1) := by decide +kernel
theorem dX12_nameOf_95 : decode cX12_nameOf 95 = .ok (.getfield 16, 3) := by decide +kernel
theorem dX12_nameOf_98 : decode cX12_nameOf 98 = .ok (.aload_n 0, 1) := by decide +kernel
theorem dX12_nameOf_99 : decode cX12_nameOf 99 = .ok (.getfield 234, 3) := by decide +kernel
theorem dX12_nameOf_102 : decode cX12_nameOf 102 = .ok (.aload_n 0, 1) := by decide +kernel
theorem dX12_nameOf_103 : decode cX12_nameOf 103 = .ok (.getfield 227, 3) := by decide +kernel
theorem dX12_nameOf_106 : decode cX12_nameOf 106 = .ok (.iastore, 1) := by decide +kernel
theorem dX12_nameOf_107 : decode cX12_nameOf 107 = .ok (.aload_n 0, 1) := by decide +kernel
theorem dX12_nameOf_108 : decode cX12_nameOf 108 = .ok (.getfield 19, 3) := by decide +kernel
theorem dX12_nameOf_111 : decode cX12_nameOf 111 = .ok (.aload_n 0, 1) := by decide +kernel
theorem dX12_nameOf_112 : decode cX12_nameOf 112 = .ok (.getfield 234, 3) := by decide +kernel
theorem dX12_nameOf_115 : decode cX12_nameOf 115 = .ok (.aload_n 0, 1) := by decide +kernel
theorem dX12_nameOf_116 : decode cX12_nameOf 116 = .ok (.getfield 224, 3) := by decide +kernel
theorem dX12_nameOf_119 : decode cX12_nameOf 119 = .ok (.iastore, 1) := by decide +kernel
theorem dX12_nameOf_120 : decode cX12_nameOf 120 = .ok (.aload_n 0, 1) := by decide +kernel
theorem dX12_nameOf_121 : decode cX12_nameOf 121 = .ok (.dup, 1) := by decide +kernel
theorem dX12_nameOf_122 : decode cX12_nameOf 122 = .ok (.getfield 234, 3) := by decide +kernel
theorem dX12_nameOf_125 : decode cX12_nameOf 125 = .ok (.iconst 1, 1) := by decide +kernel
theorem dX12_nameOf_126 : decode cX12_nameOf 126 = .ok (.iadd, 1) := by decide +kernel
theorem dX12_nameOf_127 : decode cX12_nameOf 127 = .ok (.putfield 234, 3) := by decide +kernel
theorem dX12_nameOf_130 : decode cX12_nameOf 130 = .ok (.aload_n 0, 1) := by decide +kernel
theorem dX12_nameOf_131 : decode cX12_nameOf 131 = .ok (.getfield 234, 3) := by decide +kernel
theorem dX12_nameOf_134 : decode cX12_nameOf 134 = .ok (.iconst 1, 1) := by decide +kernel
theorem dX12_nameOf_135 : decode cX12_nameOf 135 = .ok (.isub, 1) := by decide +kernel
theorem dX12_nameOf_136 : decode cX12_nameOf 136 = .ok (.ireturn, 1) := by decide +kernel
def bX12_nameOf_75 (k2 : Int32 → zS → zR) (k31 : Int32 → Int32 → Int32 → zS → zR) (x1 : Int32) (x3 : Int32) (y0 : Int32) (t : zS) : zR := zlet (x3 + 1) fun v2560 => k31 x1 y0 v2560 t
def bX12_nameOf_82 (k2 : Int32 → zS → zR) (x1 : Int32) (x2 : Int32) (t : zS) : zR := if x2 = 0 then zlet (x1 + 1) fun v2561 => k2 v2561 t else some (x1, t)
def bX12_nameOf_31 (k2 : Int32 → zS → zR) (k31 : Int32 → Int32 → Int32 → zS → zR) (x1 : Int32) (x2 : Int32) (x3 : Int32) (t : zS) : zR := if (t 0 7) ≤ x3 then bX12_nameOf_82 k2 x1 x2 t else if x2 = 0 then bX12_nameOf_82 k2 x1 x2 t else zrd t 3 1600 x1 fun v2562 => zrd t 2 3000 (v2562 + x3) fun v2564 => zrd t 2 3000 ((t 0 6) + x3) fun v2566 => if v2564 = v2566 then bX12_nameOf_75 k2 k31 x1 x3 1 t else bX12_nameOf_75 k2 k31 x1 x3 0 t
def lX12_nameOf_31 (k2 : Int32 → zS → zR) : Nat → Int32 → Int32 → Int32 → zS → zR
  | 0, _, _, _, _ => none
  | fu + 1, x1, x2, x3, t => bX12_nameOf_31 k2 (lX12_nameOf_31 k2 fu) x1 x2 x3 t
def bX12_nameOf_28 (k2 : Int32 → zS → zR) (x1 : Int32) (y0 : Int32) (t : zS) : zR := lX12_nameOf_31 k2 zFU x1 y0 0 t
def bX12_nameOf_2 (k2 : Int32 → zS → zR) (x1 : Int32) (t : zS) : zR := if (t 0 11) ≤ x1 then zwr t 3 1600 (t 0 11) (t 0 6) fun t2569 => zwr t2569 4 1600 (t2569 0 11) (t2569 0 7) fun t2571 => zpt t2571 0 11 ((t2571 0 11) + 1) fun t2572 => some (((t2572 0 11) - 1), t2572) else zrd t 4 1600 x1 fun v2573 => if v2573 = (t 0 7) then bX12_nameOf_28 k2 x1 1 t else bX12_nameOf_28 k2 x1 0 t
def lX12_nameOf_2 : Nat → Int32 → zS → zR
  | 0, _, _ => none
  | fu + 1, x1, t => bX12_nameOf_2 (lX12_nameOf_2  fu) x1 t
def mX12_nameOf (t : zS) : zR := lX12_nameOf_2  zFU 0 t
set_option maxHeartbeats 4000000 in
set_option maxRecDepth 20000 in
theorem wbX12_nameOf_75 {E : zE} {C : zC} {f : Nat} {ro : Int32 × zS} (hf : 1 ≤ f) (k2 : Int32 → zS → zR) (hk2 : ∀ (x1 : Int32) (t : zS), k2 x1 t = some ro → zJ E shM C cX12_nameOf RX12 4 f (some .int) ro t 2 [(0, .ref (za E 0)), (1, .int x1)] []) (k31 : Int32 → Int32 → Int32 → zS → zR) (hk31 : ∀ (x1 x2 x3 : Int32) (t : zS), k31 x1 x2 x3 t = some ro → zJ E shM C cX12_nameOf RX12 4 f (some .int) ro t 31 [(0, .ref (za E 0)), (1, .int x1), (2, .int x2), (3, .int x3)] []) (x1 : Int32) (x3 : Int32) (y0 : Int32) (t : zS) (hF : bX12_nameOf_75 k2 k31 x1 x3 y0 t = some ro) : zJ E shM C cX12_nameOf RX12 4 f (some .int) ro t 75 [(0, .ref (za E 0)), (1, .int x1), (3, .int x3)] [.int y0] := by
  unfold bX12_nameOf_75 at hF
  refine z_istore_n (lv' := [(2, .int y0), (0, .ref (za E 0)), (1, .int x1), (3, .int x3)]) dX12_nameOf_75 rfl (by decide) rfl ?_
  obtain ⟨v2560, ev2560⟩ : ∃ y : Int32, y = (x3 + 1) := ⟨_, rfl⟩
  have hF := zlet_at ev2560 hF
  refine z_iinc (v := v2560) (lv' := [(3, .int v2560), (2, .int y0), (0, .ref (za E 0)), (1, .int x1)]) (k := 3) dX12_nameOf_76 rfl (by rw [ev2560]; rfl) (by decide) rfl ?_
  refine z_goto (tgt := 31) dX12_nameOf_79 (by decide) ?_
  refine z_sub [2, 3, 1, 0] rfl ?_
  exact hk31 x1 y0 v2560 _ hF
set_option maxHeartbeats 4000000 in
set_option maxRecDepth 20000 in
theorem wbX12_nameOf_82 {E : zE} {C : zC} {f : Nat} {ro : Int32 × zS} (hf : 1 ≤ f) (k2 : Int32 → zS → zR) (hk2 : ∀ (x1 : Int32) (t : zS), k2 x1 t = some ro → zJ E shM C cX12_nameOf RX12 4 f (some .int) ro t 2 [(0, .ref (za E 0)), (1, .int x1)] []) (x1 : Int32) (x2 : Int32) (t : zS) (hF : bX12_nameOf_82 k2 x1 x2 t = some ro) : zJ E shM C cX12_nameOf RX12 4 f (some .int) ro t 82 [(0, .ref (za E 0)), (1, .int x1), (2, .int x2)] [] := by
  unfold bX12_nameOf_82 at hF
  refine z_iload_n 2 dX12_nameOf_82 rfl rfl ?_
  refine z_if_eq (tgt := 88) dX12_nameOf_83 (by decide) (fun hc => ?_) (fun hc => ?_)
  · have hF := zif_t hc hF
    obtain ⟨v2561, ev2561⟩ : ∃ y : Int32, y = (x1 + 1) := ⟨_, rfl⟩
    have hF := zlet_at ev2561 hF
    refine z_iinc (v := v2561) (lv' := [(1, .int v2561), (0, .ref (za E 0)), (2, .int x2)]) (k := 1) dX12_nameOf_88 rfl (by rw [ev2561]; rfl) (by decide) rfl ?_
    refine z_goto (tgt := 2) dX12_nameOf_91 (by decide) ?_
    refine z_sub [1, 0] rfl ?_
    exact hk2 v2561 _ hF
  · have hF := zif_f hc hF
    refine z_iload_n 1 dX12_nameOf_86 rfl rfl ?_
    exact z_iret hF dX12_nameOf_87
set_option maxHeartbeats 4000000 in
set_option maxRecDepth 20000 in
theorem wbX12_nameOf_31 {E : zE} {C : zC} {f : Nat} {ro : Int32 × zS} (hf : 1 ≤ f) (k2 : Int32 → zS → zR) (hk2 : ∀ (x1 : Int32) (t : zS), k2 x1 t = some ro → zJ E shM C cX12_nameOf RX12 4 f (some .int) ro t 2 [(0, .ref (za E 0)), (1, .int x1)] []) (k31 : Int32 → Int32 → Int32 → zS → zR) (hk31 : ∀ (x1 x2 x3 : Int32) (t : zS), k31 x1 x2 x3 t = some ro → zJ E shM C cX12_nameOf RX12 4 f (some .int) ro t 31 [(0, .ref (za E 0)), (1, .int x1), (2, .int x2), (3, .int x3)] []) (x1 : Int32) (x2 : Int32) (x3 : Int32) (t : zS) (hF : bX12_nameOf_31 k2 k31 x1 x2 x3 t = some ro) : zJ E shM C cX12_nameOf RX12 4 f (some .int) ro t 31 [(0, .ref (za E 0)), (1, .int x1), (2, .int x2), (3, .int x3)] [] := by
  unfold bX12_nameOf_31 at hF
  refine z_iload_n 3 dX12_nameOf_31 rfl rfl ?_
  refine z_aload_n 0 dX12_nameOf_32 rfl rfl ?_
  refine z_geti fi_RX12_224 dX12_nameOf_33 ?_
  refine z_icmp_ge (tgt := 82) dX12_nameOf_36 (by decide) (fun hc => ?_) (fun hc => ?_)
  · have hF := zif_t hc hF
    refine z_sub [0, 1, 2] rfl ?_
    exact wbX12_nameOf_82 hf k2 hk2 x1 x2 _ hF
  · have hF := zif_f hc hF
    refine z_iload_n 2 dX12_nameOf_39 rfl rfl ?_
    refine z_if_eq (tgt := 82) dX12_nameOf_40 (by decide) (fun hc => ?_) (fun hc => ?_)
    · have hF := zif_t hc hF
      refine z_sub [0, 1, 2] rfl ?_
      exact wbX12_nameOf_82 hf k2 hk2 x1 x2 _ hF
    · have hF := zif_f hc hF
      refine z_aload_n 0 dX12_nameOf_43 rfl rfl ?_
      refine z_getr fr_RX12_13 dX12_nameOf_44 ?_
      refine z_aload_n 0 dX12_nameOf_47 rfl rfl ?_
      refine z_getr fr_RX12_16 dX12_nameOf_48 ?_
      refine z_iload_n 1 dX12_nameOf_51 rfl rfl ?_
      obtain ⟨hi2563, hF⟩ := zrd_at hF
      refine z_iald (n := 1600) rfl hi2563 dX12_nameOf_52 ?_
      generalize t 3 (Int32.toNatClampNeg x1) = v2562 at hF ⊢
      refine z_iload_n 3 dX12_nameOf_53 rfl rfl ?_
      refine z_iadd dX12_nameOf_54 ?_
      obtain ⟨hi2565, hF⟩ := zrd_at hF
      refine z_iald (n := 3000) rfl hi2565 dX12_nameOf_55 ?_
      generalize t 2 (Int32.toNatClampNeg (v2562 + x3)) = v2564 at hF ⊢
      refine z_aload_n 0 dX12_nameOf_56 rfl rfl ?_
      refine z_getr fr_RX12_13 dX12_nameOf_57 ?_
      refine z_aload_n 0 dX12_nameOf_60 rfl rfl ?_
      refine z_geti fi_RX12_227 dX12_nameOf_61 ?_
      refine z_iload_n 3 dX12_nameOf_64 rfl rfl ?_
      refine z_iadd dX12_nameOf_65 ?_
      obtain ⟨hi2567, hF⟩ := zrd_at hF
      refine z_iald (n := 3000) rfl hi2567 dX12_nameOf_66 ?_
      generalize t 2 (Int32.toNatClampNeg ((t 0 6) + x3)) = v2566 at hF ⊢
      refine z_icmp_ne (tgt := 74) dX12_nameOf_67 (by decide) (fun hc => ?_) (fun hc => ?_)
      · have hF := zif_f hc hF
        refine z_iconst (v := 0) dX12_nameOf_74 (by decide) ?_
        refine z_sub [0, 1, 3] rfl ?_
        exact wbX12_nameOf_75 hf k2 hk2 k31 hk31 x1 x3 0 _ hF
      · have hF := zif_t hc hF
        refine z_iconst (v := 1) dX12_nameOf_70 (by decide) ?_
        refine z_goto (tgt := 75) dX12_nameOf_71 (by decide) ?_
        refine z_sub [0, 1, 3] rfl ?_
        exact wbX12_nameOf_75 hf k2 hk2 k31 hk31 x1 x3 1 _ hF
set_option maxHeartbeats 4000000 in
set_option maxRecDepth 20000 in
theorem wlX12_nameOf_31 {E : zE} {C : zC} {f : Nat} {ro : Int32 × zS} (hf : 1 ≤ f) (k2 : Int32 → zS → zR) (hk2 : ∀ (x1 : Int32) (t : zS), k2 x1 t = some ro → zJ E shM C cX12_nameOf RX12 4 f (some .int) ro t 2 [(0, .ref (za E 0)), (1, .int x1)] []) (fu : Nat) : ∀ (x1 x2 x3 : Int32) (t : zS), lX12_nameOf_31 k2 fu x1 x2 x3 t = some ro → zJ E shM C cX12_nameOf RX12 4 f (some .int) ro t 31 [(0, .ref (za E 0)), (1, .int x1), (2, .int x2), (3, .int x3)] [] := by
  induction fu with
  | zero => intro x1 x2 x3 t hF; cases hF
  | succ fu ih => intro x1 x2 x3 t hF; exact wbX12_nameOf_31 hf k2 hk2 (lX12_nameOf_31 k2 fu) ih x1 x2 x3 t hF
set_option maxHeartbeats 4000000 in
set_option maxRecDepth 20000 in
theorem wbX12_nameOf_28 {E : zE} {C : zC} {f : Nat} {ro : Int32 × zS} (hf : 1 ≤ f) (k2 : Int32 → zS → zR) (hk2 : ∀ (x1 : Int32) (t : zS), k2 x1 t = some ro → zJ E shM C cX12_nameOf RX12 4 f (some .int) ro t 2 [(0, .ref (za E 0)), (1, .int x1)] []) (x1 : Int32) (y0 : Int32) (t : zS) (hF : bX12_nameOf_28 k2 x1 y0 t = some ro) : zJ E shM C cX12_nameOf RX12 4 f (some .int) ro t 28 [(0, .ref (za E 0)), (1, .int x1)] [.int y0] := by
  unfold bX12_nameOf_28 at hF
  refine z_istore_n (lv' := [(2, .int y0), (0, .ref (za E 0)), (1, .int x1)]) dX12_nameOf_28 rfl (by decide) rfl ?_
  refine z_iconst (v := 0) dX12_nameOf_29 (by decide) ?_
  refine z_istore_n (lv' := [(3, .int 0), (2, .int y0), (0, .ref (za E 0)), (1, .int x1)]) dX12_nameOf_30 rfl (by decide) rfl ?_
  refine z_sub [2, 3, 1, 0] rfl ?_
  exact wlX12_nameOf_31 hf k2 hk2 zFU x1 y0 0 _ hF
set_option maxHeartbeats 4000000 in
set_option maxRecDepth 20000 in
theorem wbX12_nameOf_2 {E : zE} {C : zC} {f : Nat} {ro : Int32 × zS} (hf : 1 ≤ f) (k2 : Int32 → zS → zR) (hk2 : ∀ (x1 : Int32) (t : zS), k2 x1 t = some ro → zJ E shM C cX12_nameOf RX12 4 f (some .int) ro t 2 [(0, .ref (za E 0)), (1, .int x1)] []) (x1 : Int32) (t : zS) (hF : bX12_nameOf_2 k2 x1 t = some ro) : zJ E shM C cX12_nameOf RX12 4 f (some .int) ro t 2 [(0, .ref (za E 0)), (1, .int x1)] [] := by
  unfold bX12_nameOf_2 at hF
  refine z_iload_n 1 dX12_nameOf_2 rfl rfl ?_
  refine z_aload_n 0 dX12_nameOf_3 rfl rfl ?_
  refine z_geti fi_RX12_234 dX12_nameOf_4 ?_
  refine z_icmp_ge (tgt := 94) dX12_nameOf_7 (by decide) (fun hc => ?_) (fun hc => ?_)
  · have hF := zif_t hc hF
    refine z_aload_n 0 dX12_nameOf_94 rfl rfl ?_
    refine z_getr fr_RX12_16 dX12_nameOf_95 ?_
    refine z_aload_n 0 dX12_nameOf_98 rfl rfl ?_
    refine z_geti fi_RX12_234 dX12_nameOf_99 ?_
    refine z_aload_n 0 dX12_nameOf_102 rfl rfl ?_
    refine z_geti fi_RX12_227 dX12_nameOf_103 ?_
    obtain ⟨hi2568, hF⟩ := zwr_at hF
    refine z_iast (n := 1600) rfl hi2568 dX12_nameOf_106 (fun t2569 et2569 => ?_)
    have hF := hF t2569 et2569
    refine z_aload_n 0 dX12_nameOf_107 rfl rfl ?_
    refine z_getr fr_RX12_19 dX12_nameOf_108 ?_
    refine z_aload_n 0 dX12_nameOf_111 rfl rfl ?_
    refine z_geti fi_RX12_234 dX12_nameOf_112 ?_
    refine z_aload_n 0 dX12_nameOf_115 rfl rfl ?_
    refine z_geti fi_RX12_224 dX12_nameOf_116 ?_
    obtain ⟨hi2570, hF⟩ := zwr_at hF
    refine z_iast (n := 1600) rfl hi2570 dX12_nameOf_119 (fun t2571 et2571 => ?_)
    have hF := hF t2571 et2571
    refine z_aload_n 0 dX12_nameOf_120 rfl rfl ?_
    refine z_dup dX12_nameOf_121 rfl ?_
    refine z_geti fi_RX12_234 dX12_nameOf_122 ?_
    refine z_iconst (v := 1) dX12_nameOf_125 (by decide) ?_
    refine z_iadd dX12_nameOf_126 ?_
    refine z_puti fw_RX12_234 dX12_nameOf_127 (fun t2572 et2572 => ?_)
    have hF := zpt_at hF t2572 et2572
    refine z_aload_n 0 dX12_nameOf_130 rfl rfl ?_
    refine z_geti fi_RX12_234 dX12_nameOf_131 ?_
    refine z_iconst (v := 1) dX12_nameOf_134 (by decide) ?_
    refine z_isub dX12_nameOf_135 ?_
    exact z_iret hF dX12_nameOf_136
  · have hF := zif_f hc hF
    refine z_aload_n 0 dX12_nameOf_10 rfl rfl ?_
    refine z_getr fr_RX12_19 dX12_nameOf_11 ?_
    refine z_iload_n 1 dX12_nameOf_14 rfl rfl ?_
    obtain ⟨hi2574, hF⟩ := zrd_at hF
    refine z_iald (n := 1600) rfl hi2574 dX12_nameOf_15 ?_
    generalize t 4 (Int32.toNatClampNeg x1) = v2573 at hF ⊢
    refine z_aload_n 0 dX12_nameOf_16 rfl rfl ?_
    refine z_geti fi_RX12_224 dX12_nameOf_17 ?_
    refine z_icmp_ne (tgt := 27) dX12_nameOf_20 (by decide) (fun hc => ?_) (fun hc => ?_)
    · have hF := zif_f hc hF
      refine z_iconst (v := 0) dX12_nameOf_27 (by decide) ?_
      exact wbX12_nameOf_28 hf k2 hk2 x1 0 _ hF
    · have hF := zif_t hc hF
      refine z_iconst (v := 1) dX12_nameOf_23 (by decide) ?_
      refine z_goto (tgt := 28) dX12_nameOf_24 (by decide) ?_
      exact wbX12_nameOf_28 hf k2 hk2 x1 1 _ hF
set_option maxHeartbeats 4000000 in
set_option maxRecDepth 20000 in
theorem wlX12_nameOf_2 {E : zE} {C : zC} {f : Nat} {ro : Int32 × zS} (hf : 1 ≤ f) (fu : Nat) : ∀ (x1 : Int32) (t : zS), lX12_nameOf_2  fu x1 t = some ro → zJ E shM C cX12_nameOf RX12 4 f (some .int) ro t 2 [(0, .ref (za E 0)), (1, .int x1)] [] := by
  induction fu with
  | zero => intro x1 t hF; cases hF
  | succ fu ih => intro x1 t hF; exact wbX12_nameOf_2 hf (lX12_nameOf_2  fu) ih x1 t hF
set_option maxHeartbeats 4000000 in
set_option maxRecDepth 20000 in
theorem ctX12_nameOf {E : zE} {f : Nat} (hf : 1 ≤ f) {t : zS} {ro : Int32 × zS} (hF : mX12_nameOf   t = some ro) : zM E shM f yX12_nameOf cX12_nameOf 4 (some .int) [.ref (za E 0)] t ro := by
  refine zM_of (by decide) (Nat.le_of_ble_eq_true rfl) (fun C => ?_)
  show zJ E shM C cX12_nameOf RX12 4 f (some .int) ro t 0 [(0, .ref (za E 0))] []
  unfold mX12_nameOf at hF
  refine z_iconst (v := 0) dX12_nameOf_0 (by decide) ?_
  refine z_istore_n (lv' := [(1, .int 0), (0, .ref (za E 0))]) dX12_nameOf_1 rfl (by decide) rfl ?_
  refine z_sub [1, 0] rfl ?_
  exact wlX12_nameOf_2 hf  zFU 0 _ hF
-- SessionHouseModel.isSignByte(I)Z
theorem dX12_isSignByte_0 : decode cX12_isSignByte 0 = .ok (.iload_n 0, 1) := by decide +kernel
theorem dX12_isSignByte_1 : decode cX12_isSignByte 1 = .ok (.bipush 59, 2) := by decide +kernel
theorem dX12_isSignByte_3 : decode cX12_isSignByte 3 = .ok (.if_icmp .eq 105, 3) := by decide +kernel
theorem dX12_isSignByte_6 : decode cX12_isSignByte 6 = .ok (.iload_n 0, 1) := by decide +kernel
theorem dX12_isSignByte_7 : decode cX12_isSignByte 7 = .ok (.bipush 61, 2) := by decide +kernel
theorem dX12_isSignByte_9 : decode cX12_isSignByte 9 = .ok (.if_icmp .eq 99, 3) := by decide +kernel
theorem dX12_isSignByte_12 : decode cX12_isSignByte 12 = .ok (.iload_n 0, 1) := by decide +kernel
theorem dX12_isSignByte_13 : decode cX12_isSignByte 13 = .ok (.bipush 40, 2) := by decide +kernel
theorem dX12_isSignByte_15 : decode cX12_isSignByte 15 = .ok (.if_icmp .eq 93, 3) := by decide +kernel
theorem dX12_isSignByte_18 : decode cX12_isSignByte 18 = .ok (.iload_n 0, 1) := by decide +kernel
theorem dX12_isSignByte_19 : decode cX12_isSignByte 19 = .ok (.bipush 41, 2) := by decide +kernel
theorem dX12_isSignByte_21 : decode cX12_isSignByte 21 = .ok (.if_icmp .eq 87, 3) := by decide +kernel
theorem dX12_isSignByte_24 : decode cX12_isSignByte 24 = .ok (.iload_n 0, 1) := by decide +kernel
theorem dX12_isSignByte_25 : decode cX12_isSignByte 25 = .ok (.bipush 123, 2) := by decide +kernel
theorem dX12_isSignByte_27 : decode cX12_isSignByte 27 = .ok (.if_icmp .eq 81, 3) := by decide +kernel
theorem dX12_isSignByte_30 : decode cX12_isSignByte 30 = .ok (.iload_n 0, 1) := by decide +kernel
theorem dX12_isSignByte_31 : decode cX12_isSignByte 31 = .ok (.bipush 125, 2) := by decide +kernel
theorem dX12_isSignByte_33 : decode cX12_isSignByte 33 = .ok (.if_icmp .eq 75, 3) := by decide +kernel
theorem dX12_isSignByte_36 : decode cX12_isSignByte 36 = .ok (.iload_n 0, 1) := by decide +kernel
theorem dX12_isSignByte_37 : decode cX12_isSignByte 37 = .ok (.bipush 44, 2) := by decide +kernel
theorem dX12_isSignByte_39 : decode cX12_isSignByte 39 = .ok (.if_icmp .eq 69, 3) := by decide +kernel
theorem dX12_isSignByte_42 : decode cX12_isSignByte 42 = .ok (.iload_n 0, 1) := by decide +kernel
theorem dX12_isSignByte_43 : decode cX12_isSignByte 43 = .ok (.bipush 58, 2) := by decide +kernel
theorem dX12_isSignByte_45 : decode cX12_isSignByte 45 = .ok (.if_icmp .eq 63, 3) := by decide +kernel
theorem dX12_isSignByte_48 : decode cX12_isSignByte 48 = .ok (.iload_n 0, 1) := by decide +kernel
theorem dX12_isSignByte_49 : decode cX12_isSignByte 49 = .ok (.bipush 33, 2) := by decide +kernel
theorem dX12_isSignByte_51 : decode cX12_isSignByte 51 = .ok (.if_icmp .eq 57, 3) := by decide +kernel
theorem dX12_isSignByte_54 : decode cX12_isSignByte 54 = .ok (.iload_n 0, 1) := by decide +kernel
theorem dX12_isSignByte_55 : decode cX12_isSignByte 55 = .ok (.bipush 63, 2) := by decide +kernel
theorem dX12_isSignByte_57 : decode cX12_isSignByte 57 = .ok (.if_icmp .eq 51, 3) := by decide +kernel
theorem dX12_isSignByte_60 : decode cX12_isSignByte 60 = .ok (.iload_n 0, 1) := by decide +kernel
theorem dX12_isSignByte_61 : decode cX12_isSignByte 61 = .ok (.bipush 43, 2) := by decide +kernel
theorem dX12_isSignByte_63 : decode cX12_isSignByte 63 = .ok (.if_icmp .eq 45, 3) := by decide +kernel
theorem dX12_isSignByte_66 : decode cX12_isSignByte 66 = .ok (.iload_n 0, 1) := by decide +kernel
theorem dX12_isSignByte_67 : decode cX12_isSignByte 67 = .ok (.bipush 38, 2) := by decide +kernel
theorem dX12_isSignByte_69 : decode cX12_isSignByte 69 = .ok (.if_icmp .eq 39, 3) := by decide +kernel
theorem dX12_isSignByte_72 : decode cX12_isSignByte 72 = .ok (.iload_n 0, 1) := by decide +kernel
theorem dX12_isSignByte_73 : decode cX12_isSignByte 73 = .ok (.bipush 126, 2) := by decide +kernel
theorem dX12_isSignByte_75 : decode cX12_isSignByte 75 = .ok (.if_icmp .eq 33, 3) := by decide +kernel
theorem dX12_isSignByte_78 : decode cX12_isSignByte 78 = .ok (.iload_n 0, 1) := by decide +kernel
theorem dX12_isSignByte_79 : decode cX12_isSignByte 79 = .ok (.bipush 45, 2) := by decide +kernel
theorem dX12_isSignByte_81 : decode cX12_isSignByte 81 = .ok (.if_icmp .eq 27, 3) := by decide +kernel
theorem dX12_isSignByte_84 : decode cX12_isSignByte 84 = .ok (.iload_n 0, 1) := by decide +kernel
theorem dX12_isSignByte_85 : decode cX12_isSignByte 85 = .ok (.bipush 42, 2) := by decide +kernel
theorem dX12_isSignByte_87 : decode cX12_isSignByte 87 = .ok (.if_icmp .eq 21, 3) := by decide +kernel
theorem dX12_isSignByte_90 : decode cX12_isSignByte 90 = .ok (.iload_n 0, 1) := by decide +kernel
theorem dX12_isSignByte_91 : decode cX12_isSignByte 91 = .ok (.bipush 47, 2) := by decide +kernel
theorem dX12_isSignByte_93 : decode cX12_isSignByte 93 = .ok (.if_icmp .eq 15, 3) := by decide +kernel
theorem dX12_isSignByte_96 : decode cX12_isSignByte 96 = .ok (.iload_n 0, 1) := by decide +kernel
theorem dX12_isSignByte_97 : decode cX12_isSignByte 97 = .ok (.bipush 37, 2) := by decide +kernel
theorem dX12_isSignByte_99 : decode cX12_isSignByte 99 = .ok (.if_icmp .eq 9, 3) := by decide +kernel
theorem dX12_isSignByte_102 : decode cX12_isSignByte 102 = .ok (.iload_n 0, 1) := by decide +kernel
theorem dX12_isSignByte_103 : decode cX12_isSignByte 103 = .ok (.bipush 60, 2) := by decide +kernel
theorem dX12_isSignByte_105 : decode cX12_isSignByte 105 = .ok (.if_icmp .ne 7, 3) := by decide +kernel
theorem dX12_isSignByte_108 : decode cX12_isSignByte 108 = .ok (.iconst 1, 1) := by decide +kernel
theorem dX12_isSignByte_109 : decode cX12_isSignByte 109 = .ok (.goto 4, 3) := by decide +kernel
theorem dX12_isSignByte_112 : decode cX12_isSignByte 112 = .ok (.iconst 0, 1) := by decide +kernel
theorem dX12_isSignByte_113 : decode cX12_isSignByte 113 = .ok (.ireturn, 1) := by decide +kernel
def bX12_isSignByte_108 (t : zS) : zR := some (1, t)
def mX12_isSignByte (x0 : Int32) (t : zS) : zR := if x0 = 59 then bX12_isSignByte_108   t else if x0 = 61 then bX12_isSignByte_108   t else if x0 = 40 then bX12_isSignByte_108   t else if x0 = 41 then bX12_isSignByte_108   t else if x0 = 123 then bX12_isSignByte_108   t else if x0 = 125 then bX12_isSignByte_108   t else if x0 = 44 then bX12_isSignByte_108   t else if x0 = 58 then bX12_isSignByte_108   t else if x0 = 33 then bX12_isSignByte_108   t else if x0 = 63 then bX12_isSignByte_108   t else if x0 = 43 then bX12_isSignByte_108   t else if x0 = 38 then bX12_isSignByte_108   t else if x0 = 126 then bX12_isSignByte_108   t else if x0 = 45 then bX12_isSignByte_108   t else if x0 = 42 then bX12_isSignByte_108   t else if x0 = 47 then bX12_isSignByte_108   t else if x0 = 37 then bX12_isSignByte_108   t else if x0 = 60 then bX12_isSignByte_108   t else some (0, t)
set_option maxHeartbeats 4000000 in
set_option maxRecDepth 20000 in
theorem wbX12_isSignByte_108 {E : zE} {C : zC} {f : Nat} {ro : Int32 × zS} (hf : 1 ≤ f) (t : zS) (hF : bX12_isSignByte_108   t = some ro) : zJ E shM C cX12_isSignByte RX12 1 f (some .boolean) ro t 108 [] [] := by
  unfold bX12_isSignByte_108 at hF
  refine z_iconst (v := 1) dX12_isSignByte_108 (by decide) ?_
  refine z_goto (tgt := 113) dX12_isSignByte_109 (by decide) ?_
  exact z_zret hF (by decide) dX12_isSignByte_113
set_option maxHeartbeats 4000000 in
set_option maxRecDepth 20000 in
theorem ctX12_isSignByte {E : zE} {f : Nat} (hf : 1 ≤ f) {x0 : Int32} {t : zS} {ro : Int32 × zS} (hF : mX12_isSignByte  x0 t = some ro) : zM E shM f yX12_isSignByte cX12_isSignByte 1 (some .boolean) [.int x0] t ro := by
  refine zM_of (by decide) (Nat.le_of_ble_eq_true rfl) (fun C => ?_)
  show zJ E shM C cX12_isSignByte RX12 1 f (some .boolean) ro t 0 [(0, .int x0)] []
  unfold mX12_isSignByte at hF
  refine z_iload_n 0 dX12_isSignByte_0 rfl rfl ?_
  refine z_bipush (v := 59) dX12_isSignByte_1 (by decide) ?_
  refine z_icmp_eq (tgt := 108) dX12_isSignByte_3 (by decide) (fun hc => ?_) (fun hc => ?_)
  · have hF := zif_t hc hF
    refine z_sub [] rfl ?_
    exact wbX12_isSignByte_108 hf   _ hF
  · have hF := zif_f hc hF
    refine z_iload_n 0 dX12_isSignByte_6 rfl rfl ?_
    refine z_bipush (v := 61) dX12_isSignByte_7 (by decide) ?_
    refine z_icmp_eq (tgt := 108) dX12_isSignByte_9 (by decide) (fun hc => ?_) (fun hc => ?_)
    · have hF := zif_t hc hF
      refine z_sub [] rfl ?_
      exact wbX12_isSignByte_108 hf   _ hF
    · have hF := zif_f hc hF
      refine z_iload_n 0 dX12_isSignByte_12 rfl rfl ?_
      refine z_bipush (v := 40) dX12_isSignByte_13 (by decide) ?_
      refine z_icmp_eq (tgt := 108) dX12_isSignByte_15 (by decide) (fun hc => ?_) (fun hc => ?_)
      · have hF := zif_t hc hF
        refine z_sub [] rfl ?_
        exact wbX12_isSignByte_108 hf   _ hF
      · have hF := zif_f hc hF
        refine z_iload_n 0 dX12_isSignByte_18 rfl rfl ?_
        refine z_bipush (v := 41) dX12_isSignByte_19 (by decide) ?_
        refine z_icmp_eq (tgt := 108) dX12_isSignByte_21 (by decide) (fun hc => ?_) (fun hc => ?_)
        · have hF := zif_t hc hF
          refine z_sub [] rfl ?_
          exact wbX12_isSignByte_108 hf   _ hF
        · have hF := zif_f hc hF
          refine z_iload_n 0 dX12_isSignByte_24 rfl rfl ?_
          refine z_bipush (v := 123) dX12_isSignByte_25 (by decide) ?_
          refine z_icmp_eq (tgt := 108) dX12_isSignByte_27 (by decide) (fun hc => ?_) (fun hc => ?_)
          · have hF := zif_t hc hF
            refine z_sub [] rfl ?_
            exact wbX12_isSignByte_108 hf   _ hF
          · have hF := zif_f hc hF
            refine z_iload_n 0 dX12_isSignByte_30 rfl rfl ?_
            refine z_bipush (v := 125) dX12_isSignByte_31 (by decide) ?_
            refine z_icmp_eq (tgt := 108) dX12_isSignByte_33 (by decide) (fun hc => ?_) (fun hc => ?_)
            · have hF := zif_t hc hF
              refine z_sub [] rfl ?_
              exact wbX12_isSignByte_108 hf   _ hF
            · have hF := zif_f hc hF
              refine z_iload_n 0 dX12_isSignByte_36 rfl rfl ?_
              refine z_bipush (v := 44) dX12_isSignByte_37 (by decide) ?_
              refine z_icmp_eq (tgt := 108) dX12_isSignByte_39 (by decide) (fun hc => ?_) (fun hc => ?_)
              · have hF := zif_t hc hF
                refine z_sub [] rfl ?_
                exact wbX12_isSignByte_108 hf   _ hF
              · have hF := zif_f hc hF
                refine z_iload_n 0 dX12_isSignByte_42 rfl rfl ?_
                refine z_bipush (v := 58) dX12_isSignByte_43 (by decide) ?_
                refine z_icmp_eq (tgt := 108) dX12_isSignByte_45 (by decide) (fun hc => ?_) (fun hc => ?_)
                · have hF := zif_t hc hF
                  refine z_sub [] rfl ?_
                  exact wbX12_isSignByte_108 hf   _ hF
                · have hF := zif_f hc hF
                  refine z_iload_n 0 dX12_isSignByte_48 rfl rfl ?_
                  refine z_bipush (v := 33) dX12_isSignByte_49 (by decide) ?_
                  refine z_icmp_eq (tgt := 108) dX12_isSignByte_51 (by decide) (fun hc => ?_) (fun hc => ?_)
                  · have hF := zif_t hc hF
                    refine z_sub [] rfl ?_
                    exact wbX12_isSignByte_108 hf   _ hF
                  · have hF := zif_f hc hF
                    refine z_iload_n 0 dX12_isSignByte_54 rfl rfl ?_
                    refine z_bipush (v := 63) dX12_isSignByte_55 (by decide) ?_
                    refine z_icmp_eq (tgt := 108) dX12_isSignByte_57 (by decide) (fun hc => ?_) (fun hc => ?_)
                    · have hF := zif_t hc hF
                      refine z_sub [] rfl ?_
                      exact wbX12_isSignByte_108 hf   _ hF
                    · have hF := zif_f hc hF
                      refine z_iload_n 0 dX12_isSignByte_60 rfl rfl ?_
                      refine z_bipush (v := 43) dX12_isSignByte_61 (by decide) ?_
                      refine z_icmp_eq (tgt := 108) dX12_isSignByte_63 (by decide) (fun hc => ?_) (fun hc => ?_)
                      · have hF := zif_t hc hF
                        refine z_sub [] rfl ?_
                        exact wbX12_isSignByte_108 hf   _ hF
                      · have hF := zif_f hc hF
                        refine z_iload_n 0 dX12_isSignByte_66 rfl rfl ?_
                        refine z_bipush (v := 38) dX12_isSignByte_67 (by decide) ?_
                        refine z_icmp_eq (tgt := 108) dX12_isSignByte_69 (by decide) (fun hc => ?_) (fun hc => ?_)
                        · have hF := zif_t hc hF
                          refine z_sub [] rfl ?_
                          exact wbX12_isSignByte_108 hf   _ hF
                        · have hF := zif_f hc hF
                          refine z_iload_n 0 dX12_isSignByte_72 rfl rfl ?_
                          refine z_bipush (v := 126) dX12_isSignByte_73 (by decide) ?_
                          refine z_icmp_eq (tgt := 108) dX12_isSignByte_75 (by decide) (fun hc => ?_) (fun hc => ?_)
                          · have hF := zif_t hc hF
                            refine z_sub [] rfl ?_
                            exact wbX12_isSignByte_108 hf   _ hF
                          · have hF := zif_f hc hF
                            refine z_iload_n 0 dX12_isSignByte_78 rfl rfl ?_
                            refine z_bipush (v := 45) dX12_isSignByte_79 (by decide) ?_
                            refine z_icmp_eq (tgt := 108) dX12_isSignByte_81 (by decide) (fun hc => ?_) (fun hc => ?_)
                            · have hF := zif_t hc hF
                              refine z_sub [] rfl ?_
                              exact wbX12_isSignByte_108 hf   _ hF
                            · have hF := zif_f hc hF
                              refine z_iload_n 0 dX12_isSignByte_84 rfl rfl ?_
                              refine z_bipush (v := 42) dX12_isSignByte_85 (by decide) ?_
                              refine z_icmp_eq (tgt := 108) dX12_isSignByte_87 (by decide) (fun hc => ?_) (fun hc => ?_)
                              · have hF := zif_t hc hF
                                refine z_sub [] rfl ?_
                                exact wbX12_isSignByte_108 hf   _ hF
                              · have hF := zif_f hc hF
                                refine z_iload_n 0 dX12_isSignByte_90 rfl rfl ?_
                                refine z_bipush (v := 47) dX12_isSignByte_91 (by decide) ?_
                                refine z_icmp_eq (tgt := 108) dX12_isSignByte_93 (by decide) (fun hc => ?_) (fun hc => ?_)
                                · have hF := zif_t hc hF
                                  refine z_sub [] rfl ?_
                                  exact wbX12_isSignByte_108 hf   _ hF
                                · have hF := zif_f hc hF
                                  refine z_iload_n 0 dX12_isSignByte_96 rfl rfl ?_
                                  refine z_bipush (v := 37) dX12_isSignByte_97 (by decide) ?_
                                  refine z_icmp_eq (tgt := 108) dX12_isSignByte_99 (by decide) (fun hc => ?_) (fun hc => ?_)
                                  · have hF := zif_t hc hF
                                    refine z_sub [] rfl ?_
                                    exact wbX12_isSignByte_108 hf   _ hF
                                  · have hF := zif_f hc hF
                                    refine z_iload_n 0 dX12_isSignByte_102 rfl rfl ?_
                                    refine z_bipush (v := 60) dX12_isSignByte_103 (by decide) ?_
                                    refine z_icmp_ne (tgt := 112) dX12_isSignByte_105 (by decide) (fun hc => ?_) (fun hc => ?_)
                                    · have hF := zif_f hc hF
                                      refine z_iconst (v := 0) dX12_isSignByte_112 (by decide) ?_
                                      exact z_zret hF (by decide) dX12_isSignByte_113
                                    · have hF := zif_t hc hF
                                      refine z_sub [] rfl ?_
                                      exact wbX12_isSignByte_108 hf   _ hF
-- SessionHouseModel.next()V
theorem dX12_next_0 : decode cX12_next 0 = .ok (.aload_n 0, 1) := by decide +kernel
theorem dX12_next_1 : decode cX12_next 1 = .ok (.getfield 237, 3) := by decide +kernel
theorem dX12_next_4 : decode cX12_next 4 = .ok (.aload_n 0, 1) := by decide +kernel
theorem dX12_next_5 : decode cX12_next 5 = .ok (.getfield 221, 3) := by decide +kernel
theorem dX12_next_8 : decode cX12_next 8 = .ok (.if_icmp .ge 44, 3) := by decide +kernel
theorem dX12_next_11 : decode cX12_next 11 = .ok (.aload_n 0, 1) := by decide +kernel
theorem dX12_next_12 : decode cX12_next 12 = .ok (.getfield 13, 3) := by decide +kernel
theorem dX12_next_15 : decode cX12_next 15 = .ok (.aload_n 0, 1) := by decide +kernel
theorem dX12_next_16 : decode cX12_next 16 = .ok (.getfield 237, 3) := by decide +kernel
theorem dX12_next_19 : decode cX12_next 19 = .ok (.iaload, 1) := by decide +kernel
theorem dX12_next_20 : decode cX12_next 20 = .ok (.bipush 32, 2) := by decide +kernel
theorem dX12_next_22 : decode cX12_next 22 = .ok (.if_icmp .eq 17, 3) := by decide +kernel
theorem dX12_next_25 : decode cX12_next 25 = .ok (.aload_n 0, 1) := by decide +kernel
theorem dX12_next_26 : decode cX12_next 26 = .ok (.getfield 13, 3) := by decide +kernel
theorem dX12_next_29 : decode cX12_next 29 = .ok (.aload_n 0, 1) := by decide +kernel
theorem dX12_next_30 : decode cX12_next 30 = .ok (.getfield 237, 3) := by decide +kernel
theorem dX12_next_33 : decode cX12_next 33 = .ok (.iaload, 1) := by decide +kernel
theorem dX12_next_34 : decode cX12_next 34 = .ok (.bipush 10, 2) := by decide +kernel
theorem dX12_next_36 : decode cX12_next 36 = .ok (.if_icmp .ne 16, 3) := by decide +kernel
theorem dX12_next_39 : decode cX12_next 39 = .ok (.aload_n 0, 1) := by decide +kernel
theorem dX12_next_40 : decode cX12_next 40 = .ok (.dup, 1) := by decide +kernel
theorem dX12_next_41 : decode cX12_next 41 = .ok (.getfield 237, 3) := by decide +kernel
theorem dX12_next_44 : decode cX12_next 44 = .ok (.iconst 1, 1) := by decide +kernel
theorem dX12_next_45 : decode cX12_next 45 = .ok (.iadd, 1) := by decide +kernel
theorem dX12_next_46 : decode cX12_next 46 = .ok (.putfield 237, 3) := by decide +kernel
theorem dX12_next_49 : decode cX12_next 49 = .ok (.goto (-49), 3) := by decide +kernel
theorem dX12_next_52 : decode cX12_next 52 = .ok (.aload_n 0, 1) := by decide +kernel
theorem dX12_next_53 : decode cX12_next 53 = .ok (.aload_n 0, 1) := by decide +kernel
theorem dX12_next_54 : decode cX12_next 54 = .ok (.getfield 237, 3) := by decide +kernel
theorem dX12_next_57 : decode cX12_next 57 = .ok (.putfield 227, 3) := by decide +kernel
theorem dX12_next_60 : decode cX12_next 60 = .ok (.aload_n 0, 1) := by decide +kernel
theorem dX12_next_61 : decode cX12_next 61 = .ok (.iconst 0, 1) := by decide +kernel
theorem dX12_next_62 : decode cX12_next 62 = .ok (.putfield 224, 3) := by decide +kernel
theorem dX12_next_65 : decode cX12_next 65 = .ok (.aload_n 0, 1) := by decide +kernel
theorem dX12_next_66 : decode cX12_next 66 = .ok (.iconst 0, 1) := by decide +kernel
theorem dX12_next_67 : decode cX12_next 67 = .ok (.putfield 240, 3) := by decide +kernel
theorem dX12_next_70 : decode cX12_next 70 = .ok (.aload_n 0, 1) := by decide +kernel
theorem dX12_next_71 : decode cX12_next 71 = .ok (.aload_n 0, 1) := by decide +kernel
theorem dX12_next_72 : decode cX12_next 72 = .ok (.getfield 237, 3) := by decide +kernel
theorem dX12_next_75 : decode cX12_next 75 = .ok (.invokevirtual 243, 3) := by decide +kernel
theorem dX12_next_78 : decode cX12_next 78 = .ok (.istore_n 1, 1) := by decide +kernel
theorem dX12_next_79 : decode cX12_next 79 = .ok (.aload_n 0, 1) := by decide +kernel
theorem dX12_next_80 : decode cX12_next 80 = .ok (.getfield 237, 3) := by decide +kernel
theorem dX12_next_83 : decode cX12_next 83 = .ok (.aload_n 0, 1) := by decide +kernel
theorem dX12_next_84 : decode cX12_next 84 = .ok (.getfield 221, 3) := by decide +kernel
theorem dX12_next_87 : decode cX12_next 87 = .ok (.if_icmp .ne 11, 3) := by decide +kernel
theorem dX12_next_90 : decode cX12_next 90 = .ok (.aload_n 0, 1) := by decide +kernel
theorem dX12_next_91 : decode cX12_next 91 = .ok (.iconst 0, 1) := by decide +kernel
theorem dX12_next_92 : decode cX12_next 92 = .ok (.putfield 247, 3) := by decide +kernel
theorem dX12_next_95 : decode cX12_next 95 = .ok (.goto 319, 3) := by decide +kernel
theorem dX12_next_98 : decode cX12_next 98 = .ok (.iload_n 1, 1) := by decide +kernel
theorem dX12_next_99 : decode cX12_next 99 = .ok (.invokestatic 250, 3) := by decide +kernel
theorem dX12_next_102 : decode cX12_next 102 = .ok (.ifCond .eq 115, 3) := by decide +kernel
theorem dX12_next_105 : decode cX12_next 105 = .ok (.aload_n 0, 1) := by decide +kernel
theorem dX12_next_106 : decode cX12_next 106 = .ok (.getfield 227, 3) := by decide +kernel
theorem dX12_next_109 : decode cX12_next 109 = .ok (.aload_n 0, 1) := by decide +kernel
theorem dX12_next_110 : decode cX12_next 110 = .ok (.getfield 224, 3) := by decide +kernel
theorem dX12_next_113 : decode cX12_next 113 = .ok (.iadd, 1) := by decide +kernel
theorem dX12_next_114 : decode cX12_next 114 = .ok (.aload_n 0, 1) := by decide +kernel
theorem dX12_next_115 : decode cX12_next 115 = .ok (.getfield 221, 3) := by decide +kernel
theorem dX12_next_118 : decode cX12_next 118 = .ok (.if_icmp .ge 56, 3) := by decide +kernel
theorem dX12_next_121 : decode cX12_next 121 = .ok (.aload_n 0, 1) := by decide +kernel
theorem dX12_next_122 : decode cX12_next 122 = .ok (.getfield 13, 3) := by decide +kernel
theorem dX12_next_125 : decode cX12_next 125 = .ok (.aload_n 0, 1) := by decide +kernel
theorem dX12_next_126 : decode cX12_next 126 = .ok (.getfield 227, 3) := by decide +kernel
theorem dX12_next_129 : decode cX12_next 129 = .ok (.aload_n 0, 1) := by decide +kernel
theorem dX12_next_130 : decode cX12_next 130 = .ok (.getfield 224, 3) := by decide +kernel
theorem dX12_next_133 : decode cX12_next 133 = .ok (.iadd, 1) := by decide +kernel
theorem dX12_next_134 : decode cX12_next 134 = .ok (.iaload, 1) := by decide +kernel
theorem dX12_next_135 : decode cX12_next 135 = .ok (.invokestatic 250, 3) := by decide +kernel
theorem dX12_next_138 : decode cX12_next 138 = .ok (.ifCond .ne 23, 3) := by decide +kernel
theorem dX12_next_141 : decode cX12_next 141 = .ok (.aload_n 0, 1) := by decide +kernel
theorem dX12_next_142 : decode cX12_next 142 = .ok (.getfield 13, 3) := by decide +kernel
theorem dX12_next_145 : decode cX12_next 145 = .ok (.aload_n 0, 1) := by decide +kernel
theorem dX12_next_146 : decode cX12_next 146 = .ok (.getfield 227, 3) := by decide +kernel
theorem dX12_next_149 : decode cX12_next 149 = .ok (.aload_n 0, 1) := by decide +kernel
theorem dX12_next_150 : decode cX12_next 150 = .ok (.getfield 224, 3) := by decide +kernel
theorem dX12_next_153 : decode cX12_next 153 = .ok (.iadd, 1) := by decide +kernel
theorem dX12_next_154 : decode cX12_next 154 = .ok (.iaload, 1) := by decide +kernel
theorem dX12_next_155 : decode cX12_next 155 = .ok (.invokestatic 254, 3) := by decide +kernel
theorem dX12_next_158 : decode cX12_next 158 = .ok (.ifCond .eq 16, 3) := by decide +kernel
theorem dX12_next_161 : decode cX12_next 161 = .ok (.aload_n 0, 1) := by decide +kernel
theorem dX12_next_162 : decode cX12_next 162 = .ok (.dup, 1) := by decide +kernel
theorem dX12_next_163 : decode cX12_next 163 = .ok (.getfield 224, 3) := by decide +kernel
theorem dX12_next_166 : decode cX12_next 166 = .ok (.iconst 1, 1) := by decide +kernel
theorem dX12_next_167 : decode cX12_next 167 = .ok (.iadd, 1) := by decide +kernel
theorem dX12_next_168 : decode cX12_next 168 = .ok (.putfield 224, 3) := by decide +kernel
theorem dX12_next_171 : decode cX12_next 171 = .ok (.goto (-66), 3) := by decide +kernel
theorem dX12_next_174 : decode cX12_next 174 = .ok (.aload_n 0, 1) := by decide +kernel
theorem dX12_next_175 : decode cX12_next 175 = .ok (.aload_n 0, 1) := by decide +kernel
theorem dX12_next_176 : decode cX12_next 176 = .ok (.invokevirtual 257, 3) := by decide +kernel
theorem dX12_next_179 : decode cX12_next 179 = .ok (.putfield 240, 3) := by decide +kernel
theorem dX12_next_182 : decode cX12_next 182 = .ok (.aload_n 0, 1) := by decide +kernel
theorem dX12_next_183 : decode cX12_next 183 = .ok (.aload_n 0, 1) := by decide +kernel
theorem dX12_next_184 : decode cX12_next 184 = .ok (.getfield 240, 3) := by decide +kernel
theorem dX12_next_187 : decode cX12_next 187 = .ok (.ifCond .le 7, 3) := by decide +kernel
theorem dX12_next_190 : decode cX12_next 190 = .ok (.iconst 5, 1) := by decide +kernel
theorem dX12_next_191 : decode cX12_next 191 = .ok (.goto 4, 3) := by decide +kernel
theorem dX12_next_194 : decode cX12_next 194 = .ok (.iconst 2, 1) := by decide +kernel
theorem dX12_next_195 : decode cX12_next 195 = .ok (.putfield 247, 3) := by decide +kernel
theorem dX12_next_198 : decode cX12_next 198 = .ok (.aload_n 0, 1) := by decide +kernel
theorem dX12_next_199 : decode cX12_next 199 = .ok (.getfield 247, 3) := by decide +kernel
theorem dX12_next_202 : decode cX12_next 202 = .ok (.iconst 2, 1) := by decide +kernel
theorem dX12_next_203 : decode cX12_next 203 = .ok (.if_icmp .ne 211, 3) := by decide +kernel
theorem dX12_next_206 : decode cX12_next 206 = .ok (.aload_n 0, 1) := by decide +kernel
theorem dX12_next_207 : decode cX12_next 207 = .ok (.aload_n 0, 1) := by decide +kernel
theorem dX12_next_208 : decode cX12_next 208 = .ok (.invokevirtual 261, 3) := by decide +kernel
theorem dX12_next_211 : decode cX12_next 211 = .ok (.putfield 240, 3) := by decide +kernel
theorem dX12_next_214 : decode cX12_next 214 = .ok (.goto 200, 3) := by decide +kernel
theorem dX12_next_217 : decode cX12_next 217 = .ok (.iload_n 1, 1) := by decide +kernel
theorem dX12_next_218 : decode cX12_next 218 = .ok (.invokestatic 254, 3) := by decide +kernel
theorem dX12_next_221 : decode cX12_next 221 = .ok (.ifCond .eq 123, 3) := by decide +kernel
theorem dX12_next_224 : decode cX12_next 224 = .ok (.aload_n 0, 1) := by decide +kernel
theorem dX12_next_225 : decode cX12_next 225 = .ok (.getfield 227, 3) := by decide +kernel
theorem dX12_next_228 : decode cX12_next 228 = .ok (.aload_n 0, 1) := by decide +kernel
theorem dX12_next_229 : decode cX12_next 229 = .ok (.getfield 224, 3) := by decide +kernel
theorem dX12_next_232 : decode cX12_next 232 = .ok (.iadd, 1) := by decide +kernel
theorem dX12_next_233 : decode cX12_next 233 = .ok (.aload_n 0, 1) := by decide +kernel
theorem dX12_next_234 : decode cX12_next 234 = .ok (.getfield 221, 3) := by decide +kernel
theorem dX12_next_237 : decode cX12_next 237 = .ok (.if_icmp .ge 36, 3) := by decide +kernel
theorem dX12_next_240 : decode cX12_next 240 = .ok (.aload_n 0, 1) := by decide +kernel
theorem dX12_next_241 : decode cX12_next 241 = .ok (.getfield 13, 3) := by decide +kernel
theorem dX12_next_244 : decode cX12_next 244 = .ok (.aload_n 0, 1) := by decide +kernel
theorem dX12_next_245 : decode cX12_next 245 = .ok (.getfield 227, 3) := by decide +kernel
theorem dX12_next_248 : decode cX12_next 248 = .ok (.aload_n 0, 1) := by decide +kernel
theorem dX12_next_249 : decode cX12_next 249 = .ok (.getfield 224, 3) := by decide +kernel
theorem dX12_next_252 : decode cX12_next 252 = .ok (.iadd, 1) := by decide +kernel
theorem dX12_next_253 : decode cX12_next 253 = .ok (.iaload, 1) := by decide +kernel
theorem dX12_next_254 : decode cX12_next 254 = .ok (.invokestatic 254, 3) := by decide +kernel
theorem dX12_next_257 : decode cX12_next 257 = .ok (.ifCond .eq 16, 3) := by decide +kernel
theorem dX12_next_260 : decode cX12_next 260 = .ok (.aload_n 0, 1) := by decide +kernel
theorem dX12_next_261 : decode cX12_next 261 = .ok (.dup, 1) := by decide +kernel
theorem dX12_next_262 : decode cX12_next 262 = .ok (.getfield 224, 3) := by decide +kernel
theorem dX12_next_265 : decode cX12_next 265 = .ok (.iconst 1, 1) := by decide +kernel
theorem dX12_next_266 : decode cX12_next 266 = .ok (.iadd, 1) := by decide +kernel
theorem dX12_next_267 : decode cX12_next 267 = .ok (.putfield 224, 3) := by decide +kernel
theorem dX12_next_270 : decode cX12_next 270 = .ok (.goto (-46), 3) := by decide +kernel
theorem dX12_next_273 : decode cX12_next 273 = .ok (.aload_n 0, 1) := by decide +kernel
theorem dX12_next_274 : decode cX12_next 274 = .ok (.aload_n 0, 1) := by decide +kernel
theorem dX12_next_275 : decode cX12_next 275 = .ok (.getfield 224, 3) := by decide +kernel
theorem dX12_next_278 : decode cX12_next 278 = .ok (.bipush 9, 2) := by decide +kernel
theorem dX12_next_280 : decode cX12_next 280 = .ok (.if_icmp .le 7, 3) := by decide +kernel
theorem dX12_next_283 : decode cX12_next 283 = .ok (.iconst 1, 1) := by decide +kernel
theorem dX12_next_284 : decode cX12_next 284 = .ok (.goto 4, 3) := by decide +kernel
theorem dX12_next_287 : decode cX12_next 287 = .ok (.iconst 3, 1) := by decide +kernel
theorem dX12_next_288 : decode cX12_next 288 = .ok (.putfield 247, 3) := by decide +kernel
theorem dX12_next_291 : decode cX12_next 291 = .ok (.iconst 0, 1) := by decide +kernel
theorem dX12_next_292 : decode cX12_next 292 = .ok (.istore_n 2, 1) := by decide +kernel
theorem dX12_next_293 : decode cX12_next 293 = .ok (.iload_n 2, 1) := by decide +kernel
theorem dX12_next_294 : decode cX12_next 294 = .ok (.aload_n 0, 1) := by decide +kernel
theorem dX12_next_295 : decode cX12_next 295 = .ok (.getfield 224, 3) := by decide +kernel
theorem dX12_next_298 : decode cX12_next 298 = .ok (.if_icmp .ge 43, 3) := by decide +kernel
theorem dX12_next_301 : decode cX12_next 301 = .ok (.aload_n 0, 1) := by decide +kernel
theorem dX12_next_302 : decode cX12_next 302 = .ok (.getfield 247, 3) := by decide +kernel
theorem dX12_next_305 : decode cX12_next 305 = .ok (.iconst 3, 1) := by decide +kernel
theorem dX12_next_306 : decode cX12_next 306 = .ok (.if_icmp .ne 35, 3) := by decide +kernel
theorem dX12_next_309 : decode cX12_next 309 = .ok (.aload_n 0, 1) := by decide +kernel
theorem dX12_next_310 : decode cX12_next 310 = .ok (.bipush 10, 2) := by decide +kernel
theorem dX12_next_312 : decode cX12_next 312 = .ok (.aload_n 0, 1) := by decide +kernel
theorem dX12_next_313 : decode cX12_next 313 = .ok (.getfield 240, 3) := by decide +kernel
theorem dX12_next_316 : decode cX12_next 316 = .ok (.imul, 1) := by decide +kernel
theorem dX12_next_317 : decode cX12_next 317 = .ok (.aload_n 0, 1) := by decide +kernel
theorem dX12_next_318 : decode cX12_next 318 = .ok (.getfield 13, 3) := by decide +kernel
theorem dX12_next_321 : decode cX12_next 321 = .ok (.aload_n 0, 1) := by decide +kernel
theorem dX12_next_322 : decode cX12_next 322 = .ok (.getfield 227, 3) := by decide +kernel
theorem dX12_next_325 : decode cX12_next 325 = .ok (.iload_n 2, 1) := by decide +kernel
theorem dX12_next_326 : decode cX12_next 326 = .ok (.iadd, 1) := by decide +kernel
theorem dX12_next_327 : decode cX12_next 327 = .ok (.iaload, 1) := by decide +kernel
theorem dX12_next_328 : decode cX12_next 328 = .ok (.iadd, 1) := by decide +kernel
theorem dX12_next_329 : decode cX12_next 329 = .ok (.bipush 48, 2) := by decide +kernel
theorem dX12_next_331 : decode cX12_next 331 = .ok (.isub, 1) := by decide +kernel
theorem dX12_next_332 : decode cX12_next 332 = .ok (.putfield 240, 3) := by decide +kernel
theorem dX12_next_335 : decode cX12_next 335 = .ok (.iinc 2 1, 3) := by decide +kernel
theorem dX12_next_338 : decode cX12_next 338 = .ok (.goto (-45), 3) := by decide +kernel
theorem dX12_next_341 : decode cX12_next 341 = .ok (.goto 73, 3) := by decide +kernel
theorem dX12_next_344 : decode cX12_next 344 = .ok (.iload_n 1, 1) := by decide +kernel
theorem dX12_next_345 : decode cX12_next 345 = .ok (.bipush 61, 2) := by decide +kernel
theorem dX12_next_347 : decode cX12_next 347 = .ok (.if_icmp .ne 22, 3) := by decide +kernel
theorem dX12_next_350 : decode cX12_next 350 = .ok (.aload_n 0, 1) := by decide +kernel
theorem dX12_next_351 : decode cX12_next 351 = .ok (.aload_n 0, 1) := by decide +kernel
theorem dX12_next_352 : decode cX12_next 352 = .ok (.getfield 237, 3) := by decide +kernel
theorem dX12_next_355 : decode cX12_next 355 = .ok (.iconst 1, 1) := by decide +kernel
theorem dX12_next_356 : decode cX12_next 356 = .ok (.iadd, 1) := by decide +kernel
theorem dX12_next_357 : decode cX12_next 357 = .ok (.invokevirtual 243, 3) := by decide +kernel
theorem dX12_next_360 : decode cX12_next 360 = .ok (.bipush 61, 2) := by decide +kernel
theorem dX12_next_362 : decode cX12_next 362 = .ok (.if_icmp .ne 7, 3) := by decide +kernel
theorem dX12_next_365 : decode cX12_next 365 = .ok (.iconst 1, 1) := by decide +kernel
theorem dX12_next_366 : decode cX12_next 366 = .ok (.goto 4, 3) := by decide +kernel
theorem dX12_next_369 : decode cX12_next 369 = .ok (.iconst 0, 1) := by decide +kernel
theorem dX12_next_370 : decode cX12_next 370 = .ok (.istore_n 2, 1) := by decide +kernel
theorem dX12_next_371 : decode cX12_next 371 = .ok (.aload_n 0, 1) := by decide +kernel
theorem dX12_next_372 : decode cX12_next 372 = .ok (.iload_n 2, 1) := by decide +kernel
theorem dX12_next_373 : decode cX12_next 373 = .ok (.ifCond .eq 7, 3) := by decide +kernel
theorem dX12_next_376 : decode cX12_next 376 = .ok (.iconst 2, 1) := by decide +kernel
theorem dX12_next_377 : decode cX12_next 377 = .ok (.goto 4, 3) := by decide +kernel
theorem dX12_next_380 : decode cX12_next 380 = .ok (.iconst 1, 1) := by decide +kernel
theorem dX12_next_381 : decode cX12_next 381 = .ok (.putfield 224, 3) := by decide +kernel
theorem dX12_next_384 : decode cX12_next 384 = .ok (.aload_n 0, 1) := by decide +kernel
theorem dX12_next_385 : decode cX12_next 385 = .ok (.iload_n 2, 1) := by decide +kernel
theorem dX12_next_386 : decode cX12_next 386 = .ok (.ifCond .eq 8, 3) := by decide +kernel
theorem dX12_next_389 : decode cX12_next 389 = .ok (.bipush 69, 2) := by decide +kernel
theorem dX12_next_391 : decode cX12_next 391 = .ok (.goto 4, 3) := by decide +kernel
theorem dX12_next_394 : decode cX12_next 394 = .ok (.iload_n 1, 1) := by decide +kernel
theorem dX12_next_395 : decode cX12_next 395 = .ok (.putfield 240, 3) := by decide +kernel
theorem dX12_next_398 : decode cX12_next 398 = .ok (.aload_n 0, 1) := by decide +kernel
theorem dX12_next_399 : decode cX12_next 399 = .ok (.iload_n 1, 1) := by decide +kernel
theorem dX12_next_400 : decode cX12_next 400 = .ok (.invokestatic 264, 3) := by decide +kernel
theorem dX12_next_403 : decode cX12_next 403 = .ok (.ifCond .eq 7, 3) := by decide +kernel
theorem dX12_next_406 : decode cX12_next 406 = .ok (.iconst 4, 1) := by decide +kernel
theorem dX12_next_407 : decode cX12_next 407 = .ok (.goto 4, 3) := by decide +kernel
theorem dX12_next_410 : decode cX12_next 410 = .ok (.iconst 1, 1) := by decide +kernel
theorem dX12_next_411 : decode cX12_next 411 = .ok (.putfield 247, 3) := by decide +kernel
theorem dX12_next_414 : decode cX12_next 414 = .ok (.aload_n 0, 1) := by decide +kernel
theorem dX12_next_415 : decode cX12_next 415 = .ok (.aload_n 0, 1) := by decide +kernel
theorem dX12_next_416 : decode cX12_next 416 = .ok (.getfield 227, 3) := by decide +kernel
theorem dX12_next_419 : decode cX12_next 419 = .ok (.aload_n 0, 1) := by decide +kernel
theorem dX12_next_420 : decode cX12_next 420 = .ok (.getfield 224, 3) := by decide +kernel
theorem dX12_next_423 : decode cX12_next 423 = .ok (.iadd, 1) := by decide +kernel
theorem dX12_next_424 : decode cX12_next 424 = .ok (.putfield 237, 3) := by decide +kernel
theorem dX12_next_427 : decode cX12_next 427 = .ok (.return_, 1) := by decide +kernel
def bX12_next_39 (k0 : zS → zR) (t : zS) : zR := zpt t 0 4 ((t 0 4) + 1) fun t2575 => k0  t2575
def bX12_next_414 (t : zS) : zR := zpt t 0 4 ((t 0 6) + (t 0 7)) fun t2576 => some (0, t2576)
def bX12_next_161 (k105 : zS → zR) (t : zS) : zR := zpt t 0 7 ((t 0 7) + 1) fun t2577 => k105  t2577
def bX12_next_195 (y0 : Int32) (t : zS) : zR := zpt t 0 5 y0 fun t2578 => if (t2578 0 5) = 2 then zbd (mX12_nameOf  t2578) fun r2579 t2580 => zpt t2580 0 8 r2579 fun t2582 => bX12_next_414   t2582 else bX12_next_414   t2578
def bX12_next_174 (t : zS) : zR := zbd (mX12_keyOf  t) fun r2583 t2584 => zpt t2584 0 8 r2583 fun t2586 => if (t2586 0 8) ≤ 0 then bX12_next_195  2 t2586 else bX12_next_195  5 t2586
def bX12_next_105 (k105 : zS → zR) (t : zS) : zR := if (t 0 3) ≤ ((t 0 6) + (t 0 7)) then bX12_next_174   t else zrd t 2 3000 ((t 0 6) + (t 0 7)) fun v2587 => zbd (mX12_isLetter v2587 t) fun r2589 t2590 => if r2589 = 0 then zrd t2590 2 3000 ((t2590 0 6) + (t2590 0 7)) fun v2592 => zbd (mX12_isDigit v2592 t2590) fun r2594 t2595 => if r2594 = 0 then bX12_next_174   t2595 else bX12_next_161 k105  t2595 else bX12_next_161 k105  t2590
def lX12_next_105 : Nat → zS → zR
  | 0, _ => none
  | fu + 1, t => bX12_next_105 (lX12_next_105  fu)  t
def bX12_next_341 (t : zS) : zR := bX12_next_414   t
def bX12_next_293 (k293 : Int32 → zS → zR) (x2 : Int32) (t : zS) : zR := if (t 0 7) ≤ x2 then bX12_next_341   t else if (t 0 5) = 3 then zrd t 2 3000 ((t 0 6) + x2) fun v2597 => zpt t 0 8 (((10 * (t 0 8)) + v2597) - 48) fun t2599 => zlet (x2 + 1) fun v2600 => k293 v2600 t2599 else bX12_next_341   t
def lX12_next_293 : Nat → Int32 → zS → zR
  | 0, _, _ => none
  | fu + 1, x2, t => bX12_next_293 (lX12_next_293  fu) x2 t
def bX12_next_288 (y0 : Int32) (t : zS) : zR := zpt t 0 5 y0 fun t2601 => lX12_next_293  zFU 0 t2601
def bX12_next_273 (t : zS) : zR := if (t 0 7) ≤ 9 then bX12_next_288  3 t else bX12_next_288  1 t
def bX12_next_224 (k224 : zS → zR) (t : zS) : zR := if (t 0 3) ≤ ((t 0 6) + (t 0 7)) then bX12_next_273   t else zrd t 2 3000 ((t 0 6) + (t 0 7)) fun v2602 => zbd (mX12_isDigit v2602 t) fun r2604 t2605 => if r2604 = 0 then bX12_next_273   t2605 else zpt t2605 0 7 ((t2605 0 7) + 1) fun t2607 => k224  t2607
def lX12_next_224 : Nat → zS → zR
  | 0, _ => none
  | fu + 1, t => bX12_next_224 (lX12_next_224  fu)  t
def bX12_next_411 (y0 : Int32) (t : zS) : zR := zpt t 0 5 y0 fun t2608 => bX12_next_414   t2608
def bX12_next_395 (x1 : Int32) (y0 : Int32) (t : zS) : zR := zpt t 0 8 y0 fun t2609 => zbd (mX12_isSignByte x1 t2609) fun r2610 t2611 => if r2610 = 0 then bX12_next_411  1 t2611 else bX12_next_411  4 t2611
def bX12_next_381 (x1 : Int32) (x2 : Int32) (y0 : Int32) (t : zS) : zR := zpt t 0 7 y0 fun t2613 => if x2 = 0 then bX12_next_395  x1 x1 t2613 else bX12_next_395  x1 69 t2613
def bX12_next_370 (x1 : Int32) (y0 : Int32) (t : zS) : zR := if y0 = 0 then bX12_next_381  x1 y0 1 t else bX12_next_381  x1 y0 2 t
def bX12_next_369 (x1 : Int32) (t : zS) : zR := bX12_next_370  x1 0 t
def bX12_next_52 (t : zS) : zR := zpt t 0 6 (t 0 4) fun t2614 => zpt t2614 0 7 0 fun t2615 => zpt t2615 0 8 0 fun t2616 => zbd (mX12_byteAt (t2616 0 4) t2616) fun r2617 t2618 => if (t2618 0 4) = (t2618 0 3) then zpt t2618 0 5 0 fun t2629 => bX12_next_414   t2629 else zbd (mX12_isLetter r2617 t2618) fun r2620 t2621 => if r2620 = 0 then zbd (mX12_isDigit r2617 t2621) fun r2623 t2624 => if r2623 = 0 then if r2617 = 61 then zbd (mX12_byteAt ((t2624 0 4) + 1) t2624) fun r2626 t2627 => if r2626 = 61 then bX12_next_370  r2617 1 t2627 else bX12_next_369  r2617 t2627 else bX12_next_369  r2617 t2624 else lX12_next_224  zFU  t2624 else lX12_next_105  zFU  t2621
def bX12_next_0 (k0 : zS → zR) (t : zS) : zR := if (t 0 3) ≤ (t 0 4) then bX12_next_52   t else zrd t 2 3000 (t 0 4) fun v2630 => if v2630 = 32 then bX12_next_39 k0  t else zrd t 2 3000 (t 0 4) fun v2632 => if v2632 = 10 then bX12_next_39 k0  t else bX12_next_52   t
def lX12_next_0 : Nat → zS → zR
  | 0, _ => none
  | fu + 1, t => bX12_next_0 (lX12_next_0  fu)  t
def mX12_next (t : zS) : zR := lX12_next_0  zFU  t
set_option maxHeartbeats 4000000 in
set_option maxRecDepth 20000 in
theorem wbX12_next_39 {E : zE} {C : zC} {f : Nat} {ro : Int32 × zS} (hf : 3 ≤ f) (k0 : zS → zR) (hk0 : ∀ (t : zS), k0  t = some ro → zJ E shM C cX12_next RX12 3 f none ro t 0 [(0, .ref (za E 0))] []) (t : zS) (hF : bX12_next_39 k0  t = some ro) : zJ E shM C cX12_next RX12 3 f none ro t 39 [(0, .ref (za E 0))] [] := by
  unfold bX12_next_39 at hF
  refine z_aload_n 0 dX12_next_39 rfl rfl ?_
  refine z_dup dX12_next_40 rfl ?_
  refine z_geti fi_RX12_237 dX12_next_41 ?_
  refine z_iconst (v := 1) dX12_next_44 (by decide) ?_
  refine z_iadd dX12_next_45 ?_
  refine z_puti fw_RX12_237 dX12_next_46 (fun t2575 et2575 => ?_)
  have hF := zpt_at hF t2575 et2575
  refine z_goto (tgt := 0) dX12_next_49 (by decide) ?_
  exact hk0  _ hF
set_option maxHeartbeats 4000000 in
set_option maxRecDepth 20000 in
theorem wbX12_next_414 {E : zE} {C : zC} {f : Nat} {ro : Int32 × zS} (hf : 3 ≤ f) (t : zS) (hF : bX12_next_414   t = some ro) : zJ E shM C cX12_next RX12 3 f none ro t 414 [(0, .ref (za E 0))] [] := by
  unfold bX12_next_414 at hF
  refine z_aload_n 0 dX12_next_414 rfl rfl ?_
  refine z_aload_n 0 dX12_next_415 rfl rfl ?_
  refine z_geti fi_RX12_227 dX12_next_416 ?_
  refine z_aload_n 0 dX12_next_419 rfl rfl ?_
  refine z_geti fi_RX12_224 dX12_next_420 ?_
  refine z_iadd dX12_next_423 ?_
  refine z_puti fw_RX12_237 dX12_next_424 (fun t2576 et2576 => ?_)
  have hF := zpt_at hF t2576 et2576
  exact z_vret hF dX12_next_427
set_option maxHeartbeats 4000000 in
set_option maxRecDepth 20000 in
theorem wbX12_next_161 {E : zE} {C : zC} {f : Nat} {ro : Int32 × zS} (hf : 3 ≤ f) (k105 : zS → zR) (hk105 : ∀ (t : zS), k105  t = some ro → zJ E shM C cX12_next RX12 3 f none ro t 105 [(0, .ref (za E 0))] []) (t : zS) (hF : bX12_next_161 k105  t = some ro) : zJ E shM C cX12_next RX12 3 f none ro t 161 [(0, .ref (za E 0))] [] := by
  unfold bX12_next_161 at hF
  refine z_aload_n 0 dX12_next_161 rfl rfl ?_
  refine z_dup dX12_next_162 rfl ?_
  refine z_geti fi_RX12_224 dX12_next_163 ?_
  refine z_iconst (v := 1) dX12_next_166 (by decide) ?_
  refine z_iadd dX12_next_167 ?_
  refine z_puti fw_RX12_224 dX12_next_168 (fun t2577 et2577 => ?_)
  have hF := zpt_at hF t2577 et2577
  refine z_goto (tgt := 105) dX12_next_171 (by decide) ?_
  exact hk105  _ hF
set_option maxHeartbeats 4000000 in
set_option maxRecDepth 20000 in
theorem wbX12_next_195 {E : zE} {C : zC} {f : Nat} {ro : Int32 × zS} (hf : 3 ≤ f) (y0 : Int32) (t : zS) (hF : bX12_next_195  y0 t = some ro) : zJ E shM C cX12_next RX12 3 f none ro t 195 [(0, .ref (za E 0))] [.int y0, .ref (za E 0)] := by
  unfold bX12_next_195 at hF
  refine z_puti fw_RX12_247 dX12_next_195 (fun t2578 et2578 => ?_)
  have hF := zpt_at hF t2578 et2578
  refine z_aload_n 0 dX12_next_198 rfl rfl ?_
  refine z_geti fi_RX12_247 dX12_next_199 ?_
  refine z_iconst (v := 2) dX12_next_202 (by decide) ?_
  refine z_icmp_ne (tgt := 414) dX12_next_203 (by decide) (fun hc => ?_) (fun hc => ?_)
  · have hF := zif_f hc hF
    exact wbX12_next_414 hf   _ hF
  · have hF := zif_t hc hF
    refine z_aload_n 0 dX12_next_206 rfl rfl ?_
    refine z_aload_n 0 dX12_next_207 rfl rfl ?_
    obtain ⟨r2579, t2580, hc2581, hF⟩ := zbd_at hF
    refine z_callVi (ctX12_nameOf (E := E) (f := f - 1) (by omega) hc2581) yy_X12_nameOf yv_X12_nameOf ob_M_0 lk_RX12_261 (by omega) rfl rfl (Nat.le_of_ble_eq_true rfl) dX12_next_208 ?_
    refine z_puti fw_RX12_240 dX12_next_211 (fun t2582 et2582 => ?_)
    have hF := zpt_at hF t2582 et2582
    refine z_goto (tgt := 414) dX12_next_214 (by decide) ?_
    exact wbX12_next_414 hf   _ hF
set_option maxHeartbeats 4000000 in
set_option maxRecDepth 20000 in
theorem wbX12_next_174 {E : zE} {C : zC} {f : Nat} {ro : Int32 × zS} (hf : 3 ≤ f) (t : zS) (hF : bX12_next_174   t = some ro) : zJ E shM C cX12_next RX12 3 f none ro t 174 [(0, .ref (za E 0))] [] := by
  unfold bX12_next_174 at hF
  refine z_aload_n 0 dX12_next_174 rfl rfl ?_
  refine z_aload_n 0 dX12_next_175 rfl rfl ?_
  obtain ⟨r2583, t2584, hc2585, hF⟩ := zbd_at hF
  refine z_callVi (ctX12_keyOf (E := E) (f := f - 1) (by omega) hc2585) yy_X12_keyOf yv_X12_keyOf ob_M_0 lk_RX12_257 (by omega) rfl rfl (Nat.le_of_ble_eq_true rfl) dX12_next_176 ?_
  refine z_puti fw_RX12_240 dX12_next_179 (fun t2586 et2586 => ?_)
  have hF := zpt_at hF t2586 et2586
  refine z_aload_n 0 dX12_next_182 rfl rfl ?_
  refine z_aload_n 0 dX12_next_183 rfl rfl ?_
  refine z_geti fi_RX12_240 dX12_next_184 ?_
  refine z_if_le (tgt := 194) dX12_next_187 (by decide) (fun hc => ?_) (fun hc => ?_)
  · have hF := zif_t hc hF
    refine z_iconst (v := 2) dX12_next_194 (by decide) ?_
    exact wbX12_next_195 hf  2 _ hF
  · have hF := zif_f hc hF
    refine z_iconst (v := 5) dX12_next_190 (by decide) ?_
    refine z_goto (tgt := 195) dX12_next_191 (by decide) ?_
    exact wbX12_next_195 hf  5 _ hF
set_option maxHeartbeats 4000000 in
set_option maxRecDepth 20000 in
theorem wbX12_next_105 {E : zE} {C : zC} {f : Nat} {ro : Int32 × zS} (hf : 3 ≤ f) (k105 : zS → zR) (hk105 : ∀ (t : zS), k105  t = some ro → zJ E shM C cX12_next RX12 3 f none ro t 105 [(0, .ref (za E 0))] []) (t : zS) (hF : bX12_next_105 k105  t = some ro) : zJ E shM C cX12_next RX12 3 f none ro t 105 [(0, .ref (za E 0))] [] := by
  unfold bX12_next_105 at hF
  refine z_aload_n 0 dX12_next_105 rfl rfl ?_
  refine z_geti fi_RX12_227 dX12_next_106 ?_
  refine z_aload_n 0 dX12_next_109 rfl rfl ?_
  refine z_geti fi_RX12_224 dX12_next_110 ?_
  refine z_iadd dX12_next_113 ?_
  refine z_aload_n 0 dX12_next_114 rfl rfl ?_
  refine z_geti fi_RX12_221 dX12_next_115 ?_
  refine z_icmp_ge (tgt := 174) dX12_next_118 (by decide) (fun hc => ?_) (fun hc => ?_)
  · have hF := zif_t hc hF
    exact wbX12_next_174 hf   _ hF
  · have hF := zif_f hc hF
    refine z_aload_n 0 dX12_next_121 rfl rfl ?_
    refine z_getr fr_RX12_13 dX12_next_122 ?_
    refine z_aload_n 0 dX12_next_125 rfl rfl ?_
    refine z_geti fi_RX12_227 dX12_next_126 ?_
    refine z_aload_n 0 dX12_next_129 rfl rfl ?_
    refine z_geti fi_RX12_224 dX12_next_130 ?_
    refine z_iadd dX12_next_133 ?_
    obtain ⟨hi2588, hF⟩ := zrd_at hF
    refine z_iald (n := 3000) rfl hi2588 dX12_next_134 ?_
    generalize t 2 (Int32.toNatClampNeg ((t 0 6) + (t 0 7))) = v2587 at hF ⊢
    obtain ⟨r2589, t2590, hc2591, hF⟩ := zbd_at hF
    refine z_callSi (ctX12_isLetter (E := E) (f := f - 1) (by omega) hc2591) yy_X12_isLetter yv_X12_isLetter lk_RX12_250 (by omega) rfl rfl (Nat.le_of_ble_eq_true rfl) dX12_next_135 ?_
    refine z_if_ne (tgt := 161) dX12_next_138 (by decide) (fun hc => ?_) (fun hc => ?_)
    · have hF := zif_f hc hF
      exact wbX12_next_161 hf k105 hk105  _ hF
    · have hF := zif_t hc hF
      refine z_aload_n 0 dX12_next_141 rfl rfl ?_
      refine z_getr fr_RX12_13 dX12_next_142 ?_
      refine z_aload_n 0 dX12_next_145 rfl rfl ?_
      refine z_geti fi_RX12_227 dX12_next_146 ?_
      refine z_aload_n 0 dX12_next_149 rfl rfl ?_
      refine z_geti fi_RX12_224 dX12_next_150 ?_
      refine z_iadd dX12_next_153 ?_
      obtain ⟨hi2593, hF⟩ := zrd_at hF
      refine z_iald (n := 3000) rfl hi2593 dX12_next_154 ?_
      generalize t2590 2 (Int32.toNatClampNeg ((t2590 0 6) + (t2590 0 7))) = v2592 at hF ⊢
      obtain ⟨r2594, t2595, hc2596, hF⟩ := zbd_at hF
      refine z_callSi (ctX12_isDigit (E := E) (f := f - 1) (by omega) hc2596) yy_X12_isDigit yv_X12_isDigit lk_RX12_254 (by omega) rfl rfl (Nat.le_of_ble_eq_true rfl) dX12_next_155 ?_
      refine z_if_eq (tgt := 174) dX12_next_158 (by decide) (fun hc => ?_) (fun hc => ?_)
      · have hF := zif_t hc hF
        exact wbX12_next_174 hf   _ hF
      · have hF := zif_f hc hF
        exact wbX12_next_161 hf k105 hk105  _ hF
set_option maxHeartbeats 4000000 in
set_option maxRecDepth 20000 in
theorem wlX12_next_105 {E : zE} {C : zC} {f : Nat} {ro : Int32 × zS} (hf : 3 ≤ f) (fu : Nat) : ∀ (t : zS), lX12_next_105  fu  t = some ro → zJ E shM C cX12_next RX12 3 f none ro t 105 [(0, .ref (za E 0))] [] := by
  induction fu with
  | zero => intro  t hF; cases hF
  | succ fu ih => intro  t hF; exact wbX12_next_105 hf (lX12_next_105  fu) ih  t hF
set_option maxHeartbeats 4000000 in
set_option maxRecDepth 20000 in
theorem wbX12_next_341 {E : zE} {C : zC} {f : Nat} {ro : Int32 × zS} (hf : 3 ≤ f) (t : zS) (hF : bX12_next_341   t = some ro) : zJ E shM C cX12_next RX12 3 f none ro t 341 [(0, .ref (za E 0))] [] := by
  unfold bX12_next_341 at hF
  refine z_goto (tgt := 414) dX12_next_341 (by decide) ?_
  exact wbX12_next_414 hf   _ hF
set_option maxHeartbeats 4000000 in
set_option maxRecDepth 20000 in
theorem wbX12_next_293 {E : zE} {C : zC} {f : Nat} {ro : Int32 × zS} (hf : 3 ≤ f) (k293 : Int32 → zS → zR) (hk293 : ∀ (x2 : Int32) (t : zS), k293 x2 t = some ro → zJ E shM C cX12_next RX12 3 f none ro t 293 [(0, .ref (za E 0)), (2, .int x2)] []) (x2 : Int32) (t : zS) (hF : bX12_next_293 k293 x2 t = some ro) : zJ E shM C cX12_next RX12 3 f none ro t 293 [(0, .ref (za E 0)), (2, .int x2)] [] := by
  unfold bX12_next_293 at hF
  refine z_iload_n 1 dX12_next_293 rfl rfl ?_
  refine z_aload_n 0 dX12_next_294 rfl rfl ?_
  refine z_geti fi_RX12_224 dX12_next_295 ?_
  refine z_icmp_ge (tgt := 341) dX12_next_298 (by decide) (fun hc => ?_) (fun hc => ?_)
  · have hF := zif_t hc hF
    refine z_sub [0] rfl ?_
    exact wbX12_next_341 hf   _ hF
  · have hF := zif_f hc hF
    refine z_aload_n 0 dX12_next_301 rfl rfl ?_
    refine z_geti fi_RX12_247 dX12_next_302 ?_
    refine z_iconst (v := 3) dX12_next_305 (by decide) ?_
    refine z_icmp_ne (tgt := 341) dX12_next_306 (by decide) (fun hc => ?_) (fun hc => ?_)
    · have hF := zif_f hc hF
      refine z_sub [0] rfl ?_
      exact wbX12_next_341 hf   _ hF
    · have hF := zif_t hc hF
      refine z_aload_n 0 dX12_next_309 rfl rfl ?_
      refine z_bipush (v := 10) dX12_next_310 (by decide) ?_
      refine z_aload_n 0 dX12_next_312 rfl rfl ?_
      refine z_geti fi_RX12_240 dX12_next_313 ?_
      refine z_imul dX12_next_316 ?_
      refine z_aload_n 0 dX12_next_317 rfl rfl ?_
      refine z_getr fr_RX12_13 dX12_next_318 ?_
      refine z_aload_n 0 dX12_next_321 rfl rfl ?_
      refine z_geti fi_RX12_227 dX12_next_322 ?_
      refine z_iload_n 1 dX12_next_325 rfl rfl ?_
      refine z_iadd dX12_next_326 ?_
      obtain ⟨hi2598, hF⟩ := zrd_at hF
      refine z_iald (n := 3000) rfl hi2598 dX12_next_327 ?_
      generalize t 2 (Int32.toNatClampNeg ((t 0 6) + x2)) = v2597 at hF ⊢
      refine z_iadd dX12_next_328 ?_
      refine z_bipush (v := 48) dX12_next_329 (by decide) ?_
      refine z_isub dX12_next_331 ?_
      refine z_puti fw_RX12_240 dX12_next_332 (fun t2599 et2599 => ?_)
      have hF := zpt_at hF t2599 et2599
      obtain ⟨v2600, ev2600⟩ : ∃ y : Int32, y = (x2 + 1) := ⟨_, rfl⟩
      have hF := zlet_at ev2600 hF
      refine z_iinc (v := v2600) (lv' := [(2, .int v2600), (0, .ref (za E 0))]) (k := 1) dX12_next_335 rfl (by rw [ev2600]; rfl) (by decide) rfl ?_
      refine z_goto (tgt := 293) dX12_next_338 (by decide) ?_
      refine z_sub [1, 0] rfl ?_
      exact hk293 v2600 _ hF
set_option maxHeartbeats 4000000 in
set_option maxRecDepth 20000 in
theorem wlX12_next_293 {E : zE} {C : zC} {f : Nat} {ro : Int32 × zS} (hf : 3 ≤ f) (fu : Nat) : ∀ (x2 : Int32) (t : zS), lX12_next_293  fu x2 t = some ro → zJ E shM C cX12_next RX12 3 f none ro t 293 [(0, .ref (za E 0)), (2, .int x2)] [] := by
  induction fu with
  | zero => intro x2 t hF; cases hF
  | succ fu ih => intro x2 t hF; exact wbX12_next_293 hf (lX12_next_293  fu) ih x2 t hF
set_option maxHeartbeats 4000000 in
set_option maxRecDepth 20000 in
theorem wbX12_next_288 {E : zE} {C : zC} {f : Nat} {ro : Int32 × zS} (hf : 3 ≤ f) (y0 : Int32) (t : zS) (hF : bX12_next_288  y0 t = some ro) : zJ E shM C cX12_next RX12 3 f none ro t 288 [(0, .ref (za E 0))] [.int y0, .ref (za E 0)] := by
  unfold bX12_next_288 at hF
  refine z_puti fw_RX12_247 dX12_next_288 (fun t2601 et2601 => ?_)
  have hF := zpt_at hF t2601 et2601
  refine z_iconst (v := 0) dX12_next_291 (by decide) ?_
  refine z_istore_n (lv' := [(2, .int 0), (0, .ref (za E 0))]) dX12_next_292 rfl (by decide) rfl ?_
  refine z_sub [1, 0] rfl ?_
  exact wlX12_next_293 hf  zFU 0 _ hF
set_option maxHeartbeats 4000000 in
set_option maxRecDepth 20000 in
theorem wbX12_next_273 {E : zE} {C : zC} {f : Nat} {ro : Int32 × zS} (hf : 3 ≤ f) (t : zS) (hF : bX12_next_273   t = some ro) : zJ E shM C cX12_next RX12 3 f none ro t 273 [(0, .ref (za E 0))] [] := by
  unfold bX12_next_273 at hF
  refine z_aload_n 0 dX12_next_273 rfl rfl ?_
  refine z_aload_n 0 dX12_next_274 rfl rfl ?_
  refine z_geti fi_RX12_224 dX12_next_275 ?_
  refine z_bipush (v := 9) dX12_next_278 (by decide) ?_
  refine z_icmp_le (tgt := 287) dX12_next_280 (by decide) (fun hc => ?_) (fun hc => ?_)
  · have hF := zif_t hc hF
    refine z_iconst (v := 3) dX12_next_287 (by decide) ?_
    exact wbX12_next_288 hf  3 _ hF
  · have hF := zif_f hc hF
    refine z_iconst (v := 1) dX12_next_283 (by decide) ?_
    refine z_goto (tgt := 288) dX12_next_284 (by decide) ?_
    exact wbX12_next_288 hf  1 _ hF
set_option maxHeartbeats 4000000 in
set_option maxRecDepth 20000 in
theorem wbX12_next_224 {E : zE} {C : zC} {f : Nat} {ro : Int32 × zS} (hf : 3 ≤ f) (k224 : zS → zR) (hk224 : ∀ (t : zS), k224  t = some ro → zJ E shM C cX12_next RX12 3 f none ro t 224 [(0, .ref (za E 0))] []) (t : zS) (hF : bX12_next_224 k224  t = some ro) : zJ E shM C cX12_next RX12 3 f none ro t 224 [(0, .ref (za E 0))] [] := by
  unfold bX12_next_224 at hF
  refine z_aload_n 0 dX12_next_224 rfl rfl ?_
  refine z_geti fi_RX12_227 dX12_next_225 ?_
  refine z_aload_n 0 dX12_next_228 rfl rfl ?_
  refine z_geti fi_RX12_224 dX12_next_229 ?_
  refine z_iadd dX12_next_232 ?_
  refine z_aload_n 0 dX12_next_233 rfl rfl ?_
  refine z_geti fi_RX12_221 dX12_next_234 ?_
  refine z_icmp_ge (tgt := 273) dX12_next_237 (by decide) (fun hc => ?_) (fun hc => ?_)
  · have hF := zif_t hc hF
    exact wbX12_next_273 hf   _ hF
  · have hF := zif_f hc hF
    refine z_aload_n 0 dX12_next_240 rfl rfl ?_
    refine z_getr fr_RX12_13 dX12_next_241 ?_
    refine z_aload_n 0 dX12_next_244 rfl rfl ?_
    refine z_geti fi_RX12_227 dX12_next_245 ?_
    refine z_aload_n 0 dX12_next_248 rfl rfl ?_
    refine z_geti fi_RX12_224 dX12_next_249 ?_
    refine z_iadd dX12_next_252 ?_
    obtain ⟨hi2603, hF⟩ := zrd_at hF
    refine z_iald (n := 3000) rfl hi2603 dX12_next_253 ?_
    generalize t 2 (Int32.toNatClampNeg ((t 0 6) + (t 0 7))) = v2602 at hF ⊢
    obtain ⟨r2604, t2605, hc2606, hF⟩ := zbd_at hF
    refine z_callSi (ctX12_isDigit (E := E) (f := f - 1) (by omega) hc2606) yy_X12_isDigit yv_X12_isDigit lk_RX12_254 (by omega) rfl rfl (Nat.le_of_ble_eq_true rfl) dX12_next_254 ?_
    refine z_if_eq (tgt := 273) dX12_next_257 (by decide) (fun hc => ?_) (fun hc => ?_)
    · have hF := zif_t hc hF
      exact wbX12_next_273 hf   _ hF
    · have hF := zif_f hc hF
      refine z_aload_n 0 dX12_next_260 rfl rfl ?_
      refine z_dup dX12_next_261 rfl ?_
      refine z_geti fi_RX12_224 dX12_next_262 ?_
      refine z_iconst (v := 1) dX12_next_265 (by decide) ?_
      refine z_iadd dX12_next_266 ?_
      refine z_puti fw_RX12_224 dX12_next_267 (fun t2607 et2607 => ?_)
      have hF := zpt_at hF t2607 et2607
      refine z_goto (tgt := 224) dX12_next_270 (by decide) ?_
      exact hk224  _ hF
set_option maxHeartbeats 4000000 in
set_option maxRecDepth 20000 in
theorem wlX12_next_224 {E : zE} {C : zC} {f : Nat} {ro : Int32 × zS} (hf : 3 ≤ f) (fu : Nat) : ∀ (t : zS), lX12_next_224  fu  t = some ro → zJ E shM C cX12_next RX12 3 f none ro t 224 [(0, .ref (za E 0))] [] := by
  induction fu with
  | zero => intro  t hF; cases hF
  | succ fu ih => intro  t hF; exact wbX12_next_224 hf (lX12_next_224  fu) ih  t hF
set_option maxHeartbeats 4000000 in
set_option maxRecDepth 20000 in
theorem wbX12_next_411 {E : zE} {C : zC} {f : Nat} {ro : Int32 × zS} (hf : 3 ≤ f) (y0 : Int32) (t : zS) (hF : bX12_next_411  y0 t = some ro) : zJ E shM C cX12_next RX12 3 f none ro t 411 [(0, .ref (za E 0))] [.int y0, .ref (za E 0)] := by
  unfold bX12_next_411 at hF
  refine z_puti fw_RX12_247 dX12_next_411 (fun t2608 et2608 => ?_)
  have hF := zpt_at hF t2608 et2608
  exact wbX12_next_414 hf   _ hF
set_option maxHeartbeats 4000000 in
set_option maxRecDepth 20000 in
theorem wbX12_next_395 {E : zE} {C : zC} {f : Nat} {ro : Int32 × zS} (hf : 3 ≤ f) (x1 : Int32) (y0 : Int32) (t : zS) (hF : bX12_next_395  x1 y0 t = some ro) : zJ E shM C cX12_next RX12 3 f none ro t 395 [(0, .ref (za E 0)), (1, .int x1)] [.int y0, .ref (za E 0)] := by
  unfold bX12_next_395 at hF
  refine z_puti fw_RX12_240 dX12_next_395 (fun t2609 et2609 => ?_)
  have hF := zpt_at hF t2609 et2609
  refine z_aload_n 0 dX12_next_398 rfl rfl ?_
  refine z_iload_n 1 dX12_next_399 rfl rfl ?_
  obtain ⟨r2610, t2611, hc2612, hF⟩ := zbd_at hF
  refine z_callSi (ctX12_isSignByte (E := E) (f := f - 1) (by omega) hc2612) yy_X12_isSignByte yv_X12_isSignByte lk_RX12_264 (by omega) rfl rfl (Nat.le_of_ble_eq_true rfl) dX12_next_400 ?_
  refine z_if_eq (tgt := 410) dX12_next_403 (by decide) (fun hc => ?_) (fun hc => ?_)
  · have hF := zif_t hc hF
    refine z_iconst (v := 1) dX12_next_410 (by decide) ?_
    refine z_sub [0] rfl ?_
    exact wbX12_next_411 hf  1 _ hF
  · have hF := zif_f hc hF
    refine z_iconst (v := 4) dX12_next_406 (by decide) ?_
    refine z_goto (tgt := 411) dX12_next_407 (by decide) ?_
    refine z_sub [0] rfl ?_
    exact wbX12_next_411 hf  4 _ hF
set_option maxHeartbeats 4000000 in
set_option maxRecDepth 20000 in
theorem wbX12_next_381 {E : zE} {C : zC} {f : Nat} {ro : Int32 × zS} (hf : 3 ≤ f) (x1 : Int32) (x2 : Int32) (y0 : Int32) (t : zS) (hF : bX12_next_381  x1 x2 y0 t = some ro) : zJ E shM C cX12_next RX12 3 f none ro t 381 [(0, .ref (za E 0)), (1, .int x1), (2, .int x2)] [.int y0, .ref (za E 0)] := by
  unfold bX12_next_381 at hF
  refine z_puti fw_RX12_224 dX12_next_381 (fun t2613 et2613 => ?_)
  have hF := zpt_at hF t2613 et2613
  refine z_aload_n 0 dX12_next_384 rfl rfl ?_
  refine z_iload_n 2 dX12_next_385 rfl rfl ?_
  refine z_if_eq (tgt := 394) dX12_next_386 (by decide) (fun hc => ?_) (fun hc => ?_)
  · have hF := zif_t hc hF
    refine z_iload_n 1 dX12_next_394 rfl rfl ?_
    refine z_sub [0, 1] rfl ?_
    exact wbX12_next_395 hf  x1 x1 _ hF
  · have hF := zif_f hc hF
    refine z_bipush (v := 69) dX12_next_389 (by decide) ?_
    refine z_goto (tgt := 395) dX12_next_391 (by decide) ?_
    refine z_sub [0, 1] rfl ?_
    exact wbX12_next_395 hf  x1 69 _ hF
set_option maxHeartbeats 4000000 in
set_option maxRecDepth 20000 in
theorem wbX12_next_370 {E : zE} {C : zC} {f : Nat} {ro : Int32 × zS} (hf : 3 ≤ f) (x1 : Int32) (y0 : Int32) (t : zS) (hF : bX12_next_370  x1 y0 t = some ro) : zJ E shM C cX12_next RX12 3 f none ro t 370 [(0, .ref (za E 0)), (1, .int x1)] [.int y0] := by
  unfold bX12_next_370 at hF
  refine z_istore_n (lv' := [(2, .int y0), (0, .ref (za E 0)), (1, .int x1)]) dX12_next_370 rfl (by decide) rfl ?_
  refine z_aload_n 1 dX12_next_371 rfl rfl ?_
  refine z_iload_n 0 dX12_next_372 rfl rfl ?_
  refine z_if_eq (tgt := 380) dX12_next_373 (by decide) (fun hc => ?_) (fun hc => ?_)
  · have hF := zif_t hc hF
    refine z_iconst (v := 1) dX12_next_380 (by decide) ?_
    refine z_sub [1, 2, 0] rfl ?_
    exact wbX12_next_381 hf  x1 y0 1 _ hF
  · have hF := zif_f hc hF
    refine z_iconst (v := 2) dX12_next_376 (by decide) ?_
    refine z_goto (tgt := 381) dX12_next_377 (by decide) ?_
    refine z_sub [1, 2, 0] rfl ?_
    exact wbX12_next_381 hf  x1 y0 2 _ hF
set_option maxHeartbeats 4000000 in
set_option maxRecDepth 20000 in
theorem wbX12_next_369 {E : zE} {C : zC} {f : Nat} {ro : Int32 × zS} (hf : 3 ≤ f) (x1 : Int32) (t : zS) (hF : bX12_next_369  x1 t = some ro) : zJ E shM C cX12_next RX12 3 f none ro t 369 [(0, .ref (za E 0)), (1, .int x1)] [] := by
  unfold bX12_next_369 at hF
  refine z_iconst (v := 0) dX12_next_369 (by decide) ?_
  exact wbX12_next_370 hf  x1 0 _ hF
set_option maxHeartbeats 4000000 in
set_option maxRecDepth 20000 in
theorem wbX12_next_52 {E : zE} {C : zC} {f : Nat} {ro : Int32 × zS} (hf : 3 ≤ f) (t : zS) (hF : bX12_next_52   t = some ro) : zJ E shM C cX12_next RX12 3 f none ro t 52 [(0, .ref (za E 0))] [] := by
  unfold bX12_next_52 at hF
  refine z_aload_n 0 dX12_next_52 rfl rfl ?_
  refine z_aload_n 0 dX12_next_53 rfl rfl ?_
  refine z_geti fi_RX12_237 dX12_next_54 ?_
  refine z_puti fw_RX12_227 dX12_next_57 (fun t2614 et2614 => ?_)
  have hF := zpt_at hF t2614 et2614
  refine z_aload_n 0 dX12_next_60 rfl rfl ?_
  refine z_iconst (v := 0) dX12_next_61 (by decide) ?_
  refine z_puti fw_RX12_224 dX12_next_62 (fun t2615 et2615 => ?_)
  have hF := zpt_at hF t2615 et2615
  refine z_aload_n 0 dX12_next_65 rfl rfl ?_
  refine z_iconst (v := 0) dX12_next_66 (by decide) ?_
  refine z_puti fw_RX12_240 dX12_next_67 (fun t2616 et2616 => ?_)
  have hF := zpt_at hF t2616 et2616
  refine z_aload_n 0 dX12_next_70 rfl rfl ?_
  refine z_aload_n 0 dX12_next_71 rfl rfl ?_
  refine z_geti fi_RX12_237 dX12_next_72 ?_
  obtain ⟨r2617, t2618, hc2619, hF⟩ := zbd_at hF
  refine z_callVi (ctX12_byteAt (E := E) (f := f - 1) (by omega) hc2619) yy_X12_byteAt yv_X12_byteAt ob_M_0 lk_RX12_243 (by omega) rfl rfl (Nat.le_of_ble_eq_true rfl) dX12_next_75 ?_
  refine z_istore_n (lv' := [(1, .int r2617), (0, .ref (za E 0))]) dX12_next_78 rfl (by decide) rfl ?_
  refine z_aload_n 1 dX12_next_79 rfl rfl ?_
  refine z_geti fi_RX12_237 dX12_next_80 ?_
  refine z_aload_n 1 dX12_next_83 rfl rfl ?_
  refine z_geti fi_RX12_221 dX12_next_84 ?_
  refine z_icmp_ne (tgt := 98) dX12_next_87 (by decide) (fun hc => ?_) (fun hc => ?_)
  · have hF := zif_f hc hF
    refine z_iload_n 0 dX12_next_98 rfl rfl ?_
    obtain ⟨r2620, t2621, hc2622, hF⟩ := zbd_at hF
    refine z_callSi (ctX12_isLetter (E := E) (f := f - 1) (by omega) hc2622) yy_X12_isLetter yv_X12_isLetter lk_RX12_250 (by omega) rfl rfl (Nat.le_of_ble_eq_true rfl) dX12_next_99 ?_
    refine z_if_eq (tgt := 217) dX12_next_102 (by decide) (fun hc => ?_) (fun hc => ?_)
    · have hF := zif_t hc hF
      refine z_iload_n 0 dX12_next_217 rfl rfl ?_
      obtain ⟨r2623, t2624, hc2625, hF⟩ := zbd_at hF
      refine z_callSi (ctX12_isDigit (E := E) (f := f - 1) (by omega) hc2625) yy_X12_isDigit yv_X12_isDigit lk_RX12_254 (by omega) rfl rfl (Nat.le_of_ble_eq_true rfl) dX12_next_218 ?_
      refine z_if_eq (tgt := 344) dX12_next_221 (by decide) (fun hc => ?_) (fun hc => ?_)
      · have hF := zif_t hc hF
        refine z_iload_n 0 dX12_next_344 rfl rfl ?_
        refine z_bipush (v := 61) dX12_next_345 (by decide) ?_
        refine z_icmp_ne (tgt := 369) dX12_next_347 (by decide) (fun hc => ?_) (fun hc => ?_)
        · have hF := zif_f hc hF
          refine z_sub [1, 0] rfl ?_
          exact wbX12_next_369 hf  r2617 _ hF
        · have hF := zif_t hc hF
          refine z_aload_n 1 dX12_next_350 rfl rfl ?_
          refine z_aload_n 1 dX12_next_351 rfl rfl ?_
          refine z_geti fi_RX12_237 dX12_next_352 ?_
          refine z_iconst (v := 1) dX12_next_355 (by decide) ?_
          refine z_iadd dX12_next_356 ?_
          obtain ⟨r2626, t2627, hc2628, hF⟩ := zbd_at hF
          refine z_callVi (ctX12_byteAt (E := E) (f := f - 1) (by omega) hc2628) yy_X12_byteAt yv_X12_byteAt ob_M_0 lk_RX12_243 (by omega) rfl rfl (Nat.le_of_ble_eq_true rfl) dX12_next_357 ?_
          refine z_bipush (v := 61) dX12_next_360 (by decide) ?_
          refine z_icmp_ne (tgt := 369) dX12_next_362 (by decide) (fun hc => ?_) (fun hc => ?_)
          · have hF := zif_f hc hF
            refine z_sub [1, 0] rfl ?_
            exact wbX12_next_369 hf  r2617 _ hF
          · have hF := zif_t hc hF
            refine z_iconst (v := 1) dX12_next_365 (by decide) ?_
            refine z_goto (tgt := 370) dX12_next_366 (by decide) ?_
            refine z_sub [1, 0] rfl ?_
            exact wbX12_next_370 hf  r2617 1 _ hF
      · have hF := zif_f hc hF
        refine z_sub [1] rfl ?_
        exact wlX12_next_224 hf  zFU  _ hF
    · have hF := zif_f hc hF
      refine z_sub [1] rfl ?_
      exact wlX12_next_105 hf  zFU  _ hF
  · have hF := zif_t hc hF
    refine z_aload_n 1 dX12_next_90 rfl rfl ?_
    refine z_iconst (v := 0) dX12_next_91 (by decide) ?_
    refine z_puti fw_RX12_247 dX12_next_92 (fun t2629 et2629 => ?_)
    have hF := zpt_at hF t2629 et2629
    refine z_goto (tgt := 414) dX12_next_95 (by decide) ?_
    refine z_sub [1] rfl ?_
    exact wbX12_next_414 hf   _ hF
set_option maxHeartbeats 4000000 in
set_option maxRecDepth 20000 in
theorem wbX12_next_0 {E : zE} {C : zC} {f : Nat} {ro : Int32 × zS} (hf : 3 ≤ f) (k0 : zS → zR) (hk0 : ∀ (t : zS), k0  t = some ro → zJ E shM C cX12_next RX12 3 f none ro t 0 [(0, .ref (za E 0))] []) (t : zS) (hF : bX12_next_0 k0  t = some ro) : zJ E shM C cX12_next RX12 3 f none ro t 0 [(0, .ref (za E 0))] [] := by
  unfold bX12_next_0 at hF
  refine z_aload_n 0 dX12_next_0 rfl rfl ?_
  refine z_geti fi_RX12_237 dX12_next_1 ?_
  refine z_aload_n 0 dX12_next_4 rfl rfl ?_
  refine z_geti fi_RX12_221 dX12_next_5 ?_
  refine z_icmp_ge (tgt := 52) dX12_next_8 (by decide) (fun hc => ?_) (fun hc => ?_)
  · have hF := zif_t hc hF
    exact wbX12_next_52 hf   _ hF
  · have hF := zif_f hc hF
    refine z_aload_n 0 dX12_next_11 rfl rfl ?_
    refine z_getr fr_RX12_13 dX12_next_12 ?_
    refine z_aload_n 0 dX12_next_15 rfl rfl ?_
    refine z_geti fi_RX12_237 dX12_next_16 ?_
    obtain ⟨hi2631, hF⟩ := zrd_at hF
    refine z_iald (n := 3000) rfl hi2631 dX12_next_19 ?_
    generalize t 2 (Int32.toNatClampNeg (t 0 4)) = v2630 at hF ⊢
    refine z_bipush (v := 32) dX12_next_20 (by decide) ?_
    refine z_icmp_eq (tgt := 39) dX12_next_22 (by decide) (fun hc => ?_) (fun hc => ?_)
    · have hF := zif_t hc hF
      exact wbX12_next_39 hf k0 hk0  _ hF
    · have hF := zif_f hc hF
      refine z_aload_n 0 dX12_next_25 rfl rfl ?_
      refine z_getr fr_RX12_13 dX12_next_26 ?_
      refine z_aload_n 0 dX12_next_29 rfl rfl ?_
      refine z_geti fi_RX12_237 dX12_next_30 ?_
      obtain ⟨hi2633, hF⟩ := zrd_at hF
      refine z_iald (n := 3000) rfl hi2633 dX12_next_33 ?_
      generalize t 2 (Int32.toNatClampNeg (t 0 4)) = v2632 at hF ⊢
      refine z_bipush (v := 10) dX12_next_34 (by decide) ?_
      refine z_icmp_ne (tgt := 52) dX12_next_36 (by decide) (fun hc => ?_) (fun hc => ?_)
      · have hF := zif_f hc hF
        exact wbX12_next_52 hf   _ hF
      · have hF := zif_t hc hF
        exact wbX12_next_39 hf k0 hk0  _ hF
set_option maxHeartbeats 4000000 in
set_option maxRecDepth 20000 in
theorem wlX12_next_0 {E : zE} {C : zC} {f : Nat} {ro : Int32 × zS} (hf : 3 ≤ f) (fu : Nat) : ∀ (t : zS), lX12_next_0  fu  t = some ro → zJ E shM C cX12_next RX12 3 f none ro t 0 [(0, .ref (za E 0))] [] := by
  induction fu with
  | zero => intro  t hF; cases hF
  | succ fu ih => intro  t hF; exact wbX12_next_0 hf (lX12_next_0  fu) ih  t hF
set_option maxHeartbeats 4000000 in
set_option maxRecDepth 20000 in
theorem ctX12_next {E : zE} {f : Nat} (hf : 3 ≤ f) {t : zS} {ro : Int32 × zS} (hF : mX12_next   t = some ro) : zM E shM f yX12_next cX12_next 3 none [.ref (za E 0)] t ro := by
  refine zM_of (by decide) (Nat.le_of_ble_eq_true rfl) (fun C => ?_)
  show zJ E shM C cX12_next RX12 3 f none ro t 0 [(0, .ref (za E 0))] []
  unfold mX12_next at hF
  exact wlX12_next_0 hf  zFU  _ hF
-- SessionHouseModel.fails(I)I
theorem dX12_fails_0 : decode cX12_fails 0 = .ok (.aload_n 0, 1) := by decide +kernel
theorem dX12_fails_1 : decode cX12_fails 1 = .ok (.getfield 267, 3) := by decide +kernel
theorem dX12_fails_4 : decode cX12_fails 4 = .ok (.ifCond .ge 8, 3) := by decide +kernel
theorem dX12_fails_7 : decode cX12_fails 7 = .ok (.aload_n 0, 1) := by decide +kernel
theorem dX12_fails_8 : decode cX12_fails 8 = .ok (.iload_n 1, 1) := by decide +kernel
theorem dX12_fails_9 : decode cX12_fails 9 = .ok (.putfield 267, 3) := by decide +kernel
theorem dX12_fails_12 : decode cX12_fails 12 = .ok (.aload_n 0, 1) := by decide +kernel
theorem dX12_fails_13 : decode cX12_fails 13 = .ok (.iconst 0, 1) := by decide +kernel
theorem dX12_fails_14 : decode cX12_fails 14 = .ok (.putfield 247, 3) := by decide +kernel
theorem dX12_fails_17 : decode cX12_fails 17 = .ok (.iconst (-1), 1) := by decide +kernel
theorem dX12_fails_18 : decode cX12_fails 18 = .ok (.ireturn, 1) := by decide +kernel
def bX12_fails_12 (t : zS) : zR := zpt t 0 5 0 fun t2634 => some ((-1), t2634)
def mX12_fails (x1 : Int32) (t : zS) : zR := if 0 ≤ (t 0 9) then bX12_fails_12   t else zpt t 0 9 x1 fun t2635 => bX12_fails_12   t2635
set_option maxHeartbeats 4000000 in
set_option maxRecDepth 20000 in
theorem wbX12_fails_12 {E : zE} {C : zC} {f : Nat} {ro : Int32 × zS} (hf : 1 ≤ f) (t : zS) (hF : bX12_fails_12   t = some ro) : zJ E shM C cX12_fails RX12 2 f (some .int) ro t 12 [(0, .ref (za E 0))] [] := by
  unfold bX12_fails_12 at hF
  refine z_aload_n 0 dX12_fails_12 rfl rfl ?_
  refine z_iconst (v := 0) dX12_fails_13 (by decide) ?_
  refine z_puti fw_RX12_247 dX12_fails_14 (fun t2634 et2634 => ?_)
  have hF := zpt_at hF t2634 et2634
  refine z_iconst (v := (-1)) dX12_fails_17 (by decide) ?_
  exact z_iret hF dX12_fails_18
set_option maxHeartbeats 4000000 in
set_option maxRecDepth 20000 in
theorem ctX12_fails {E : zE} {f : Nat} (hf : 1 ≤ f) {x1 : Int32} {t : zS} {ro : Int32 × zS} (hF : mX12_fails  x1 t = some ro) : zM E shM f yX12_fails cX12_fails 2 (some .int) [.ref (za E 0), .int x1] t ro := by
  refine zM_of (by decide) (Nat.le_of_ble_eq_true rfl) (fun C => ?_)
  show zJ E shM C cX12_fails RX12 2 f (some .int) ro t 0 [(0, .ref (za E 0)), (1, .int x1)] []
  unfold mX12_fails at hF
  refine z_aload_n 0 dX12_fails_0 rfl rfl ?_
  refine z_geti fi_RX12_267 dX12_fails_1 ?_
  refine z_if_ge (tgt := 12) dX12_fails_4 (by decide) (fun hc => ?_) (fun hc => ?_)
  · have hF := zif_t hc hF
    refine z_sub [0] rfl ?_
    exact wbX12_fails_12 hf   _ hF
  · have hF := zif_f hc hF
    refine z_aload_n 0 dX12_fails_7 rfl rfl ?_
    refine z_iload_n 1 dX12_fails_8 rfl rfl ?_
    refine z_puti fw_RX12_267 dX12_fails_9 (fun t2635 et2635 => ?_)
    have hF := zpt_at hF t2635 et2635
    refine z_sub [0] rfl ?_
    exact wbX12_fails_12 hf   _ hF
-- SessionHouseModel.isSign(I)Z
theorem dX12_isSign_0 : decode cX12_isSign 0 = .ok (.aload_n 0, 1) := by decide +kernel
theorem dX12_isSign_1 : decode cX12_isSign 1 = .ok (.getfield 247, 3) := by decide +kernel
theorem dX12_isSign_4 : decode cX12_isSign 4 = .ok (.iconst 4, 1) := by decide +kernel
theorem dX12_isSign_5 : decode cX12_isSign 5 = .ok (.if_icmp .ne 22, 3) := by decide +kernel
theorem dX12_isSign_8 : decode cX12_isSign 8 = .ok (.aload_n 0, 1) := by decide +kernel
theorem dX12_isSign_9 : decode cX12_isSign 9 = .ok (.getfield 240, 3) := by decide +kernel
theorem dX12_isSign_12 : decode cX12_isSign 12 = .ok (.iload_n 1, 1) := by decide +kernel
theorem dX12_isSign_13 : decode cX12_isSign 13 = .ok (.if_icmp .ne 14, 3) := by decide +kernel
theorem dX12_isSign_16 : decode cX12_isSign 16 = .ok (.aload_n 0, 1) := by decide +kernel
theorem dX12_isSign_17 : decode cX12_isSign 17 = .ok (.getfield 267, 3) := by decide +kernel
theorem dX12_isSign_20 : decode cX12_isSign 20 = .ok (.ifCond .ge 7, 3) := by decide +kernel
theorem dX12_isSign_23 : decode cX12_isSign 23 = .ok (.iconst 1, 1) := by decide +kernel
theorem dX12_isSign_24 : decode cX12_isSign 24 = .ok (.goto 4, 3) := by decide +kernel
theorem dX12_isSign_27 : decode cX12_isSign 27 = .ok (.iconst 0, 1) := by decide +kernel
theorem dX12_isSign_28 : decode cX12_isSign 28 = .ok (.ireturn, 1) := by decide +kernel
def mX12_isSign (x1 : Int32) (t : zS) : zR := if (t 0 5) = 4 then if (t 0 8) = x1 then if 0 ≤ (t 0 9) then some (0, t) else some (1, t) else some (0, t) else some (0, t)
set_option maxHeartbeats 4000000 in
set_option maxRecDepth 20000 in
theorem ctX12_isSign {E : zE} {f : Nat} (hf : 1 ≤ f) {x1 : Int32} {t : zS} {ro : Int32 × zS} (hF : mX12_isSign  x1 t = some ro) : zM E shM f yX12_isSign cX12_isSign 2 (some .boolean) [.ref (za E 0), .int x1] t ro := by
  refine zM_of (by decide) (Nat.le_of_ble_eq_true rfl) (fun C => ?_)
  show zJ E shM C cX12_isSign RX12 2 f (some .boolean) ro t 0 [(0, .ref (za E 0)), (1, .int x1)] []
  unfold mX12_isSign at hF
  refine z_aload_n 0 dX12_isSign_0 rfl rfl ?_
  refine z_geti fi_RX12_247 dX12_isSign_1 ?_
  refine z_iconst (v := 4) dX12_isSign_4 (by decide) ?_
  refine z_icmp_ne (tgt := 27) dX12_isSign_5 (by decide) (fun hc => ?_) (fun hc => ?_)
  · have hF := zif_f hc hF
    refine z_iconst (v := 0) dX12_isSign_27 (by decide) ?_
    exact z_zret hF (by decide) dX12_isSign_28
  · have hF := zif_t hc hF
    refine z_aload_n 0 dX12_isSign_8 rfl rfl ?_
    refine z_geti fi_RX12_240 dX12_isSign_9 ?_
    refine z_iload_n 1 dX12_isSign_12 rfl rfl ?_
    refine z_icmp_ne (tgt := 27) dX12_isSign_13 (by decide) (fun hc => ?_) (fun hc => ?_)
    · have hF := zif_f hc hF
      refine z_iconst (v := 0) dX12_isSign_27 (by decide) ?_
      exact z_zret hF (by decide) dX12_isSign_28
    · have hF := zif_t hc hF
      refine z_aload_n 0 dX12_isSign_16 rfl rfl ?_
      refine z_geti fi_RX12_267 dX12_isSign_17 ?_
      refine z_if_ge (tgt := 27) dX12_isSign_20 (by decide) (fun hc => ?_) (fun hc => ?_)
      · have hF := zif_t hc hF
        refine z_iconst (v := 0) dX12_isSign_27 (by decide) ?_
        exact z_zret hF (by decide) dX12_isSign_28
      · have hF := zif_f hc hF
        refine z_iconst (v := 1) dX12_isSign_23 (by decide) ?_
        refine z_goto (tgt := 28) dX12_isSign_24 (by decide) ?_
        exact z_zret hF (by decide) dX12_isSign_28
