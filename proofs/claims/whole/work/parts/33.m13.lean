abbrev GgX12_block : Type := (Int32 → zS → zR) × (zS → zR) × (Int32 → zS → zR) × (Int32 → zS → zR)
def HgX12_block (E : zE) (f : Nat) (g : GgX12_block) : Prop := (∀ (x1 : Int32) (t : zS) (ro : Int32 × zS), g.1 x1 t = some ro → zM E shM f yX12_block cX12_block 5 (some .int) [.ref (za E 0), .int x1] t ro) ∧ (∀ (t : zS) (ro : Int32 × zS), g.2.1  t = some ro → zM E shM f yX12_statement cX12_statement 2 (some .int) [.ref (za E 0)] t ro) ∧ (∀ (x1 : Int32) (t : zS) (ro : Int32 × zS), g.2.2.1 x1 t = some ro → zM E shM f yX12_choose cX12_choose 5 (some .int) [.ref (za E 0), .int x1] t ro) ∧ (∀ (x1 : Int32) (t : zS) (ro : Int32 × zS), g.2.2.2 x1 t = some ro → zM E shM f yX12_whether cX12_whether 2 (some .int) [.ref (za E 0), .int x1] t ro)
theorem z_hgX12_block {E : zE} {f : Nat} {g : GgX12_block} (hg : HgX12_block E f g) {x1 : Int32} {t : zS} {ro : Int32 × zS} (h : g.1 x1 t = some ro) : zM E shM f yX12_block cX12_block 5 (some .int) [.ref (za E 0), .int x1] t ro := hg.1 _ _ _ h
theorem z_hgX12_statement {E : zE} {f : Nat} {g : GgX12_block} (hg : HgX12_block E f g) {t : zS} {ro : Int32 × zS} (h : g.2.1  t = some ro) : zM E shM f yX12_statement cX12_statement 2 (some .int) [.ref (za E 0)] t ro := hg.2.1  _ _ h
theorem z_hgX12_choose {E : zE} {f : Nat} {g : GgX12_block} (hg : HgX12_block E f g) {x1 : Int32} {t : zS} {ro : Int32 × zS} (h : g.2.2.1 x1 t = some ro) : zM E shM f yX12_choose cX12_choose 5 (some .int) [.ref (za E 0), .int x1] t ro := hg.2.2.1 _ _ _ h
theorem z_hgX12_whether {E : zE} {f : Nat} {g : GgX12_block} (hg : HgX12_block E f g) {x1 : Int32} {t : zS} {ro : Int32 × zS} (h : g.2.2.2 x1 t = some ro) : zM E shM f yX12_whether cX12_whether 2 (some .int) [.ref (za E 0), .int x1] t ro := hg.2.2.2 _ _ _ h
-- SessionHouseModel.block(I)I
theorem dX12_block_0 : decode cX12_block 0 = .ok (.aload_n 0, 1) := by decide +kernel
theorem dX12_block_1 : decode cX12_block 1 = .ok (.aload_n 0, 1) := by decide +kernel
theorem dX12_block_2 : decode cX12_block 2 = .ok (.bipush 123, 2) := by decide +kernel
theorem dX12_block_4 : decode cX12_block 4 = .ok (.invokevirtual 279, 3) := by decide +kernel
theorem dX12_block_7 : decode cX12_block 7 = .ok (.invokevirtual 299, 3) := by decide +kernel
theorem dX12_block_10 : decode cX12_block 10 = .ok (.ifCond .ne 5, 3) := by decide +kernel
theorem dX12_block_13 : decode cX12_block 13 = .ok (.iload_n 1, 1) := by decide +kernel
theorem dX12_block_14 : decode cX12_block 14 = .ok (.ireturn, 1) := by decide +kernel
theorem dX12_block_15 : decode cX12_block 15 = .ok (.iconst (-1), 1) := by decide +kernel
theorem dX12_block_16 : decode cX12_block 16 = .ok (.istore_n 2, 1) := by decide +kernel
theorem dX12_block_17 : decode cX12_block 17 = .ok (.iconst (-1), 1) := by decide +kernel
theorem dX12_block_18 : decode cX12_block 18 = .ok (.istore_n 3, 1) := by decide +kernel
theorem dX12_block_19 : decode cX12_block 19 = .ok (.aload_n 0, 1) := by decide +kernel
theorem dX12_block_20 : decode cX12_block 20 = .ok (.getfield 267, 3) := by decide +kernel
theorem dX12_block_23 : decode cX12_block 23 = .ok (.ifCond .ge 72, 3) := by decide +kernel
theorem dX12_block_26 : decode cX12_block 26 = .ok (.aload_n 0, 1) := by decide +kernel
theorem dX12_block_27 : decode cX12_block 27 = .ok (.bipush 125, 2) := by decide +kernel
theorem dX12_block_29 : decode cX12_block 29 = .ok (.invokevirtual 279, 3) := by decide +kernel
theorem dX12_block_32 : decode cX12_block 32 = .ok (.ifCond .ne 63, 3) := by decide +kernel
theorem dX12_block_35 : decode cX12_block 35 = .ok (.aload_n 0, 1) := by decide +kernel
theorem dX12_block_36 : decode cX12_block 36 = .ok (.invokevirtual 337, 3) := by decide +kernel
theorem dX12_block_39 : decode cX12_block 39 = .ok (.istore 4, 2) := by decide +kernel
theorem dX12_block_41 : decode cX12_block 41 = .ok (.aload_n 0, 1) := by decide +kernel
theorem dX12_block_42 : decode cX12_block 42 = .ok (.getfield 267, 3) := by decide +kernel
theorem dX12_block_45 : decode cX12_block 45 = .ok (.ifCond .lt 5, 3) := by decide +kernel
theorem dX12_block_48 : decode cX12_block 48 = .ok (.iload_n 1, 1) := by decide +kernel
theorem dX12_block_49 : decode cX12_block 49 = .ok (.ireturn, 1) := by decide +kernel
theorem dX12_block_50 : decode cX12_block 50 = .ok (.aload_n 0, 1) := by decide +kernel
theorem dX12_block_51 : decode cX12_block 51 = .ok (.getfield 73, 3) := by decide +kernel
theorem dX12_block_54 : decode cX12_block 54 = .ok (.iload 4, 2) := by decide +kernel
theorem dX12_block_56 : decode cX12_block 56 = .ok (.iconst (-1), 1) := by decide +kernel
theorem dX12_block_57 : decode cX12_block 57 = .ok (.iastore, 1) := by decide +kernel
theorem dX12_block_58 : decode cX12_block 58 = .ok (.iload_n 3, 1) := by decide +kernel
theorem dX12_block_59 : decode cX12_block 59 = .ok (.ifCond .lt 19, 3) := by decide +kernel
theorem dX12_block_62 : decode cX12_block 62 = .ok (.aload_n 0, 1) := by decide +kernel
theorem dX12_block_63 : decode cX12_block 63 = .ok (.getfield 70, 3) := by decide +kernel
theorem dX12_block_66 : decode cX12_block 66 = .ok (.iload_n 3, 1) := by decide +kernel
theorem dX12_block_67 : decode cX12_block 67 = .ok (.iload 4, 2) := by decide +kernel
theorem dX12_block_69 : decode cX12_block 69 = .ok (.iastore, 1) := by decide +kernel
theorem dX12_block_70 : decode cX12_block 70 = .ok (.aload_n 0, 1) := by decide +kernel
theorem dX12_block_71 : decode cX12_block 71 = .ok (.getfield 73, 3) := by decide +kernel
theorem dX12_block_74 : decode cX12_block 74 = .ok (.iload_n 3, 1) := by decide +kernel
theorem dX12_block_75 : decode cX12_block 75 = .ok (.iload 4, 2) := by decide +kernel
theorem dX12_block_77 : decode cX12_block 77 = .ok (.iastore, 1) := by decide +kernel
theorem dX12_block_78 : decode cX12_block 78 = .ok (.iload_n 2, 1) := by decide +kernel
theorem dX12_block_79 : decode cX12_block 79 = .ok (.ifCond .ge 8, 3) := by decide +kernel
theorem dX12_block_82 : decode cX12_block 82 = .ok (.iload 4, 2) := by decide +kernel
theorem dX12_block_84 : decode cX12_block 84 = .ok (.goto 4, 3) := by decide +kernel
theorem dX12_block_87 : decode cX12_block 87 = .ok (.iload_n 2, 1) := by decide +kernel
theorem dX12_block_88 : decode cX12_block 88 = .ok (.istore_n 2, 1) := by decide +kernel
theorem dX12_block_89 : decode cX12_block 89 = .ok (.iload 4, 2) := by decide +kernel
theorem dX12_block_91 : decode cX12_block 91 = .ok (.istore_n 3, 1) := by decide +kernel
theorem dX12_block_92 : decode cX12_block 92 = .ok (.goto (-73), 3) := by decide +kernel
theorem dX12_block_95 : decode cX12_block 95 = .ok (.aload_n 0, 1) := by decide +kernel
theorem dX12_block_96 : decode cX12_block 96 = .ok (.aload_n 0, 1) := by decide +kernel
theorem dX12_block_97 : decode cX12_block 97 = .ok (.getfield 227, 3) := by decide +kernel
theorem dX12_block_100 : decode cX12_block 100 = .ok (.putfield 340, 3) := by decide +kernel
theorem dX12_block_103 : decode cX12_block 103 = .ok (.aload_n 0, 1) := by decide +kernel
theorem dX12_block_104 : decode cX12_block 104 = .ok (.bipush 125, 2) := by decide +kernel
theorem dX12_block_106 : decode cX12_block 106 = .ok (.invokevirtual 305, 3) := by decide +kernel
theorem dX12_block_109 : decode cX12_block 109 = .ok (.iload_n 3, 1) := by decide +kernel
theorem dX12_block_110 : decode cX12_block 110 = .ok (.ifCond .lt 10, 3) := by decide +kernel
theorem dX12_block_113 : decode cX12_block 113 = .ok (.aload_n 0, 1) := by decide +kernel
theorem dX12_block_114 : decode cX12_block 114 = .ok (.getfield 70, 3) := by decide +kernel
theorem dX12_block_117 : decode cX12_block 117 = .ok (.iload_n 3, 1) := by decide +kernel
theorem dX12_block_118 : decode cX12_block 118 = .ok (.iload_n 1, 1) := by decide +kernel
theorem dX12_block_119 : decode cX12_block 119 = .ok (.iastore, 1) := by decide +kernel
theorem dX12_block_120 : decode cX12_block 120 = .ok (.iload_n 2, 1) := by decide +kernel
theorem dX12_block_121 : decode cX12_block 121 = .ok (.ifCond .ge 7, 3) := by decide +kernel
theorem dX12_block_124 : decode cX12_block 124 = .ok (.iload_n 1, 1) := by decide +kernel
theorem dX12_block_125 : decode cX12_block 125 = .ok (.goto 4, 3) := by decide +kernel
theorem dX12_block_128 : decode cX12_block 128 = .ok (.iload_n 2, 1) := by decide +kernel
theorem dX12_block_129 : decode cX12_block 129 = .ok (.ireturn, 1) := by decide +kernel
def bX12_block_88 (g : GgX12_block) (k19 : Int32 → Int32 → Int32 → zS → zR) (x1 : Int32) (x4 : Int32) (y0 : Int32) (t : zS) : zR := k19 x1 y0 x4 t
def bX12_block_78 (g : GgX12_block) (k19 : Int32 → Int32 → Int32 → zS → zR) (x1 : Int32) (x2 : Int32) (x4 : Int32) (t : zS) : zR := if 0 ≤ x2 then bX12_block_88 g k19 x1 x4 x2 t else bX12_block_88 g k19 x1 x4 x4 t
def bX12_block_120 (g : GgX12_block) (x1 : Int32) (x2 : Int32) (t : zS) : zR := if 0 ≤ x2 then some (x2, t) else some (x1, t)
def bX12_block_95 (g : GgX12_block) (x1 : Int32) (x2 : Int32) (x3 : Int32) (t : zS) : zR := zpt t 0 61 (t 0 6) fun t3105 => zbd (mX12_closes 125 t3105) fun r3106 t3107 => if x3 < 0 then bX12_block_120 g x1 x2 t3107 else zwr t3107 21 1600 x3 x1 fun t3110 => bX12_block_120 g x1 x2 t3110
def bX12_block_19 (g : GgX12_block) (k19 : Int32 → Int32 → Int32 → zS → zR) (x1 : Int32) (x2 : Int32) (x3 : Int32) (t : zS) : zR := if 0 ≤ (t 0 9) then bX12_block_95 g x1 x2 x3 t else zbd (mX12_isSign 125 t) fun r3111 t3112 => if r3111 = 0 then zbd (g.2.1  t3112) fun r3114 t3115 => if (t3115 0 9) < 0 then zwr t3115 22 1600 r3114 (-1) fun t3118 => if x3 < 0 then bX12_block_78 g k19 x1 x2 r3114 t3118 else zwr t3118 21 1600 x3 r3114 fun t3120 => zwr t3120 22 1600 x3 r3114 fun t3122 => bX12_block_78 g k19 x1 x2 r3114 t3122 else some (x1, t3115) else bX12_block_95 g x1 x2 x3 t3112
def lX12_block_19 (g : GgX12_block) : Nat → Int32 → Int32 → Int32 → zS → zR
  | 0, _, _, _, _ => none
  | fu + 1, x1, x2, x3, t => bX12_block_19 g (lX12_block_19 g fu) x1 x2 x3 t
def mX12_block (g : GgX12_block) (x1 : Int32) (t : zS) : zR := zbd (mX12_isSign 123 t) fun r3123 t3124 => zbd (mX12_opens r3123 t3124) fun r3126 t3127 => if r3126 = 0 then some (x1, t3127) else lX12_block_19 g zFU x1 (-1) (-1) t3127
set_option maxHeartbeats 4000000 in
set_option maxRecDepth 20000 in
theorem wbX12_block_88 {E : zE} {C : zC} {f : Nat} {ro : Int32 × zS} (hf : 310 ≤ f) {g : GgX12_block} (hg : HgX12_block E (f - 1) g) (k19 : Int32 → Int32 → Int32 → zS → zR) (hk19 : ∀ (x1 x2 x3 : Int32) (t : zS), k19 x1 x2 x3 t = some ro → zJ E shM C cX12_block RX12 5 f (some .int) ro t 19 [(0, .ref (za E 0)), (1, .int x1), (2, .int x2), (3, .int x3)] []) (x1 : Int32) (x4 : Int32) (y0 : Int32) (t : zS) (hF : bX12_block_88 g k19 x1 x4 y0 t = some ro) : zJ E shM C cX12_block RX12 5 f (some .int) ro t 88 [(0, .ref (za E 0)), (1, .int x1), (4, .int x4)] [.int y0] := by
  unfold bX12_block_88 at hF
  refine z_istore_n (lv' := [(2, .int y0), (0, .ref (za E 0)), (1, .int x1), (4, .int x4)]) dX12_block_88 rfl (by decide) rfl ?_
  refine z_iload 3 dX12_block_89 rfl ?_
  refine z_istore_n (lv' := [(3, .int x4), (2, .int y0), (0, .ref (za E 0)), (1, .int x1), (4, .int x4)]) dX12_block_91 rfl (by decide) rfl ?_
  refine z_goto (tgt := 19) dX12_block_92 (by decide) ?_
  refine z_sub [2, 3, 1, 0] rfl ?_
  exact hk19 x1 y0 x4 _ hF
set_option maxHeartbeats 4000000 in
set_option maxRecDepth 20000 in
theorem wbX12_block_78 {E : zE} {C : zC} {f : Nat} {ro : Int32 × zS} (hf : 310 ≤ f) {g : GgX12_block} (hg : HgX12_block E (f - 1) g) (k19 : Int32 → Int32 → Int32 → zS → zR) (hk19 : ∀ (x1 x2 x3 : Int32) (t : zS), k19 x1 x2 x3 t = some ro → zJ E shM C cX12_block RX12 5 f (some .int) ro t 19 [(0, .ref (za E 0)), (1, .int x1), (2, .int x2), (3, .int x3)] []) (x1 : Int32) (x2 : Int32) (x4 : Int32) (t : zS) (hF : bX12_block_78 g k19 x1 x2 x4 t = some ro) : zJ E shM C cX12_block RX12 5 f (some .int) ro t 78 [(0, .ref (za E 0)), (1, .int x1), (2, .int x2), (4, .int x4)] [] := by
  unfold bX12_block_78 at hF
  refine z_iload_n 2 dX12_block_78 rfl rfl ?_
  refine z_if_ge (tgt := 87) dX12_block_79 (by decide) (fun hc => ?_) (fun hc => ?_)
  · have hF := zif_t hc hF
    refine z_iload_n 2 dX12_block_87 rfl rfl ?_
    refine z_sub [0, 1, 3] rfl ?_
    exact wbX12_block_88 hf hg k19 hk19 x1 x4 x2 _ hF
  · have hF := zif_f hc hF
    refine z_iload 3 dX12_block_82 rfl ?_
    refine z_goto (tgt := 88) dX12_block_84 (by decide) ?_
    refine z_sub [0, 1, 3] rfl ?_
    exact wbX12_block_88 hf hg k19 hk19 x1 x4 x4 _ hF
set_option maxHeartbeats 4000000 in
set_option maxRecDepth 20000 in
theorem wbX12_block_120 {E : zE} {C : zC} {f : Nat} {ro : Int32 × zS} (hf : 310 ≤ f) {g : GgX12_block} (hg : HgX12_block E (f - 1) g) (x1 : Int32) (x2 : Int32) (t : zS) (hF : bX12_block_120 g x1 x2 t = some ro) : zJ E shM C cX12_block RX12 5 f (some .int) ro t 120 [(1, .int x1), (2, .int x2)] [] := by
  unfold bX12_block_120 at hF
  refine z_iload_n 1 dX12_block_120 rfl rfl ?_
  refine z_if_ge (tgt := 128) dX12_block_121 (by decide) (fun hc => ?_) (fun hc => ?_)
  · have hF := zif_t hc hF
    refine z_iload_n 1 dX12_block_128 rfl rfl ?_
    exact z_iret hF dX12_block_129
  · have hF := zif_f hc hF
    refine z_iload_n 0 dX12_block_124 rfl rfl ?_
    refine z_goto (tgt := 129) dX12_block_125 (by decide) ?_
    exact z_iret hF dX12_block_129
set_option maxHeartbeats 4000000 in
set_option maxRecDepth 20000 in
theorem wbX12_block_95 {E : zE} {C : zC} {f : Nat} {ro : Int32 × zS} (hf : 310 ≤ f) {g : GgX12_block} (hg : HgX12_block E (f - 1) g) (x1 : Int32) (x2 : Int32) (x3 : Int32) (t : zS) (hF : bX12_block_95 g x1 x2 x3 t = some ro) : zJ E shM C cX12_block RX12 5 f (some .int) ro t 95 [(0, .ref (za E 0)), (1, .int x1), (2, .int x2), (3, .int x3)] [] := by
  unfold bX12_block_95 at hF
  refine z_aload_n 0 dX12_block_95 rfl rfl ?_
  refine z_aload_n 0 dX12_block_96 rfl rfl ?_
  refine z_geti fi_RX12_227 dX12_block_97 ?_
  refine z_puti fw_RX12_340 dX12_block_100 (fun t3105 et3105 => ?_)
  have hF := zpt_at hF t3105 et3105
  refine z_aload_n 0 dX12_block_103 rfl rfl ?_
  refine z_bipush (v := 125) dX12_block_104 (by decide) ?_
  obtain ⟨r3106, t3107, hc3108, hF⟩ := zbd_at hF
  refine z_callVv (ctX12_closes (E := E) (f := f - 1) (by omega) hc3108) yy_X12_closes yv_X12_closes ob_M_0 lk_RX12_305 (by omega) rfl rfl (Nat.le_of_ble_eq_true rfl) dX12_block_106 ?_
  refine z_iload_n 3 dX12_block_109 rfl rfl ?_
  refine z_if_lt (tgt := 120) dX12_block_110 (by decide) (fun hc => ?_) (fun hc => ?_)
  · have hF := zif_t hc hF
    refine z_sub [1, 2] rfl ?_
    exact wbX12_block_120 hf hg x1 x2 _ hF
  · have hF := zif_f hc hF
    refine z_aload_n 0 dX12_block_113 rfl rfl ?_
    refine z_getr fr_RX12_70 dX12_block_114 ?_
    refine z_iload_n 3 dX12_block_117 rfl rfl ?_
    refine z_iload_n 1 dX12_block_118 rfl rfl ?_
    obtain ⟨hi3109, hF⟩ := zwr_at hF
    refine z_iast (n := 1600) rfl hi3109 dX12_block_119 (fun t3110 et3110 => ?_)
    have hF := hF t3110 et3110
    refine z_sub [1, 2] rfl ?_
    exact wbX12_block_120 hf hg x1 x2 _ hF
set_option maxHeartbeats 4000000 in
set_option maxRecDepth 20000 in
theorem wbX12_block_19 {E : zE} {C : zC} {f : Nat} {ro : Int32 × zS} (hf : 310 ≤ f) {g : GgX12_block} (hg : HgX12_block E (f - 1) g) (k19 : Int32 → Int32 → Int32 → zS → zR) (hk19 : ∀ (x1 x2 x3 : Int32) (t : zS), k19 x1 x2 x3 t = some ro → zJ E shM C cX12_block RX12 5 f (some .int) ro t 19 [(0, .ref (za E 0)), (1, .int x1), (2, .int x2), (3, .int x3)] []) (x1 : Int32) (x2 : Int32) (x3 : Int32) (t : zS) (hF : bX12_block_19 g k19 x1 x2 x3 t = some ro) : zJ E shM C cX12_block RX12 5 f (some .int) ro t 19 [(0, .ref (za E 0)), (1, .int x1), (2, .int x2), (3, .int x3)] [] := by
  unfold bX12_block_19 at hF
  refine z_aload_n 0 dX12_block_19 rfl rfl ?_
  refine z_geti fi_RX12_267 dX12_block_20 ?_
  refine z_if_ge (tgt := 95) dX12_block_23 (by decide) (fun hc => ?_) (fun hc => ?_)
  · have hF := zif_t hc hF
    exact wbX12_block_95 hf hg x1 x2 x3 _ hF
  · have hF := zif_f hc hF
    refine z_aload_n 0 dX12_block_26 rfl rfl ?_
    refine z_bipush (v := 125) dX12_block_27 (by decide) ?_
    obtain ⟨r3111, t3112, hc3113, hF⟩ := zbd_at hF
    refine z_callVi (ctX12_isSign (E := E) (f := f - 1) (by omega) hc3113) yy_X12_isSign yv_X12_isSign ob_M_0 lk_RX12_279 (by omega) rfl rfl (Nat.le_of_ble_eq_true rfl) dX12_block_29 ?_
    refine z_if_ne (tgt := 95) dX12_block_32 (by decide) (fun hc => ?_) (fun hc => ?_)
    · have hF := zif_f hc hF
      exact wbX12_block_95 hf hg x1 x2 x3 _ hF
    · have hF := zif_t hc hF
      refine z_aload_n 0 dX12_block_35 rfl rfl ?_
      obtain ⟨r3114, t3115, hc3116, hF⟩ := zbd_at hF
      refine z_callVi (z_hgX12_statement hg hc3116) yy_X12_statement yv_X12_statement ob_M_0 lk_RX12_337 (by omega) rfl rfl (Nat.le_of_ble_eq_true rfl) dX12_block_36 ?_
      refine z_istore (lv' := [(4, .int r3114), (0, .ref (za E 0)), (1, .int x1), (2, .int x2), (3, .int x3)]) dX12_block_39 (by decide) rfl ?_
      refine z_aload_n 1 dX12_block_41 rfl rfl ?_
      refine z_geti fi_RX12_267 dX12_block_42 ?_
      refine z_if_lt (tgt := 50) dX12_block_45 (by decide) (fun hc => ?_) (fun hc => ?_)
      · have hF := zif_t hc hF
        refine z_aload_n 1 dX12_block_50 rfl rfl ?_
        refine z_getr fr_RX12_73 dX12_block_51 ?_
        refine z_iload 0 dX12_block_54 rfl ?_
        refine z_iconst (v := (-1)) dX12_block_56 (by decide) ?_
        obtain ⟨hi3117, hF⟩ := zwr_at hF
        refine z_iast (n := 1600) rfl hi3117 dX12_block_57 (fun t3118 et3118 => ?_)
        have hF := hF t3118 et3118
        refine z_iload_n 4 dX12_block_58 rfl rfl ?_
        refine z_if_lt (tgt := 78) dX12_block_59 (by decide) (fun hc => ?_) (fun hc => ?_)
        · have hF := zif_t hc hF
          refine z_sub [1, 2, 3, 0] rfl ?_
          exact wbX12_block_78 hf hg k19 hk19 x1 x2 r3114 _ hF
        · have hF := zif_f hc hF
          refine z_aload_n 1 dX12_block_62 rfl rfl ?_
          refine z_getr fr_RX12_70 dX12_block_63 ?_
          refine z_iload_n 4 dX12_block_66 rfl rfl ?_
          refine z_iload 0 dX12_block_67 rfl ?_
          obtain ⟨hi3119, hF⟩ := zwr_at hF
          refine z_iast (n := 1600) rfl hi3119 dX12_block_69 (fun t3120 et3120 => ?_)
          have hF := hF t3120 et3120
          refine z_aload_n 1 dX12_block_70 rfl rfl ?_
          refine z_getr fr_RX12_73 dX12_block_71 ?_
          refine z_iload_n 4 dX12_block_74 rfl rfl ?_
          refine z_iload 0 dX12_block_75 rfl ?_
          obtain ⟨hi3121, hF⟩ := zwr_at hF
          refine z_iast (n := 1600) rfl hi3121 dX12_block_77 (fun t3122 et3122 => ?_)
          have hF := hF t3122 et3122
          refine z_sub [1, 2, 3, 0] rfl ?_
          exact wbX12_block_78 hf hg k19 hk19 x1 x2 r3114 _ hF
      · have hF := zif_f hc hF
        refine z_iload_n 2 dX12_block_48 rfl rfl ?_
        exact z_iret hF dX12_block_49
set_option maxHeartbeats 4000000 in
set_option maxRecDepth 20000 in
theorem wlX12_block_19 {E : zE} {C : zC} {f : Nat} {ro : Int32 × zS} (hf : 310 ≤ f) {g : GgX12_block} (hg : HgX12_block E (f - 1) g) (fu : Nat) : ∀ (x1 x2 x3 : Int32) (t : zS), lX12_block_19 g fu x1 x2 x3 t = some ro → zJ E shM C cX12_block RX12 5 f (some .int) ro t 19 [(0, .ref (za E 0)), (1, .int x1), (2, .int x2), (3, .int x3)] [] := by
  induction fu with
  | zero => intro x1 x2 x3 t hF; cases hF
  | succ fu ih => intro x1 x2 x3 t hF; exact wbX12_block_19 hf hg (lX12_block_19 g fu) ih x1 x2 x3 t hF
set_option maxHeartbeats 4000000 in
set_option maxRecDepth 20000 in
theorem ctX12_block {E : zE} {f : Nat} (hf : 310 ≤ f) {g : GgX12_block} (hg : HgX12_block E (f - 1) g) {x1 : Int32} {t : zS} {ro : Int32 × zS} (hF : mX12_block g x1 t = some ro) : zM E shM f yX12_block cX12_block 5 (some .int) [.ref (za E 0), .int x1] t ro := by
  refine zM_of (by decide) (Nat.le_of_ble_eq_true rfl) (fun C => ?_)
  show zJ E shM C cX12_block RX12 5 f (some .int) ro t 0 [(0, .ref (za E 0)), (1, .int x1)] []
  unfold mX12_block at hF
  refine z_aload_n 0 dX12_block_0 rfl rfl ?_
  refine z_aload_n 0 dX12_block_1 rfl rfl ?_
  refine z_bipush (v := 123) dX12_block_2 (by decide) ?_
  obtain ⟨r3123, t3124, hc3125, hF⟩ := zbd_at hF
  refine z_callVi (ctX12_isSign (E := E) (f := f - 1) (by omega) hc3125) yy_X12_isSign yv_X12_isSign ob_M_0 lk_RX12_279 (by omega) rfl rfl (Nat.le_of_ble_eq_true rfl) dX12_block_4 ?_
  obtain ⟨r3126, t3127, hc3128, hF⟩ := zbd_at hF
  refine z_callVi (ctX12_opens (E := E) (f := f - 1) (by omega) hc3128) yy_X12_opens yv_X12_opens ob_M_0 lk_RX12_299 (by omega) rfl rfl (Nat.le_of_ble_eq_true rfl) dX12_block_7 ?_
  refine z_if_ne (tgt := 15) dX12_block_10 (by decide) (fun hc => ?_) (fun hc => ?_)
  · have hF := zif_f hc hF
    refine z_iconst (v := (-1)) dX12_block_15 (by decide) ?_
    refine z_istore_n (lv' := [(2, .int (-1)), (0, .ref (za E 0)), (1, .int x1)]) dX12_block_16 rfl (by decide) rfl ?_
    refine z_iconst (v := (-1)) dX12_block_17 (by decide) ?_
    refine z_istore_n (lv' := [(3, .int (-1)), (2, .int (-1)), (0, .ref (za E 0)), (1, .int x1)]) dX12_block_18 rfl (by decide) rfl ?_
    refine z_sub [2, 3, 1, 0] rfl ?_
    exact wlX12_block_19 hf hg zFU x1 (-1) (-1) _ hF
  · have hF := zif_t hc hF
    refine z_iload_n 1 dX12_block_13 rfl rfl ?_
    exact z_iret hF dX12_block_14
-- SessionHouseModel.statement()I
theorem dX12_statement_0 : decode cX12_statement 0 = .ok (.aload_n 0, 1) := by decide +kernel
theorem dX12_statement_1 : decode cX12_statement 1 = .ok (.getfield 247, 3) := by decide +kernel
theorem dX12_statement_4 : decode cX12_statement 4 = .ok (.iconst 2, 1) := by decide +kernel
theorem dX12_statement_5 : decode cX12_statement 5 = .ok (.if_icmp .ne 13, 3) := by decide +kernel
theorem dX12_statement_8 : decode cX12_statement 8 = .ok (.aload_n 0, 1) := by decide +kernel
theorem dX12_statement_9 : decode cX12_statement 9 = .ok (.aload_n 0, 1) := by decide +kernel
theorem dX12_statement_10 : decode cX12_statement 10 = .ok (.iconst 0, 1) := by decide +kernel
theorem dX12_statement_11 : decode cX12_statement 11 = .ok (.invokevirtual 346, 3) := by decide +kernel
theorem dX12_statement_14 : decode cX12_statement 14 = .ok (.invokevirtual 349, 3) := by decide +kernel
theorem dX12_statement_17 : decode cX12_statement 17 = .ok (.ireturn, 1) := by decide +kernel
theorem dX12_statement_18 : decode cX12_statement 18 = .ok (.aload_n 0, 1) := by decide +kernel
theorem dX12_statement_19 : decode cX12_statement 19 = .ok (.getfield 247, 3) := by decide +kernel
theorem dX12_statement_22 : decode cX12_statement 22 = .ok (.iconst 5, 1) := by decide +kernel
theorem dX12_statement_23 : decode cX12_statement 23 = .ok (.if_icmp .eq 12, 3) := by decide +kernel
theorem dX12_statement_26 : decode cX12_statement 26 = .ok (.aload_n 0, 1) := by decide +kernel
theorem dX12_statement_27 : decode cX12_statement 27 = .ok (.aload_n 0, 1) := by decide +kernel
theorem dX12_statement_28 : decode cX12_statement 28 = .ok (.getfield 227, 3) := by decide +kernel
theorem dX12_statement_31 : decode cX12_statement 31 = .ok (.invokevirtual 270, 3) := by decide +kernel
theorem dX12_statement_34 : decode cX12_statement 34 = .ok (.ireturn, 1) := by decide +kernel
theorem dX12_statement_35 : decode cX12_statement 35 = .ok (.aload_n 0, 1) := by decide +kernel
theorem dX12_statement_36 : decode cX12_statement 36 = .ok (.getfield 240, 3) := by decide +kernel
theorem dX12_statement_39 : decode cX12_statement 39 = .ok (.istore_n 1, 1) := by decide +kernel
theorem dX12_statement_40 : decode cX12_statement 40 = .ok (.iload_n 1, 1) := by decide +kernel
theorem dX12_statement_41 : decode cX12_statement 41 = .ok (.tableswitch 194 3 15 #[67, 77, 87, 97, 107, 161, 139, 150, 172, 194, 183, 117, 128], 67) := by decide +kernel
theorem dX12_statement_108 : decode cX12_statement 108 = .ok (.aload_n 0, 1) := by decide +kernel
theorem dX12_statement_109 : decode cX12_statement 109 = .ok (.aload_n 0, 1) := by decide +kernel
theorem dX12_statement_110 : decode cX12_statement 110 = .ok (.iconst 1, 1) := by decide +kernel
theorem dX12_statement_111 : decode cX12_statement 111 = .ok (.invokevirtual 346, 3) := by decide +kernel
theorem dX12_statement_114 : decode cX12_statement 114 = .ok (.invokevirtual 349, 3) := by decide +kernel
theorem dX12_statement_117 : decode cX12_statement 117 = .ok (.ireturn, 1) := by decide +kernel
theorem dX12_statement_118 : decode cX12_statement 118 = .ok (.aload_n 0, 1) := by decide +kernel
theorem dX12_statement_119 : decode cX12_statement 119 = .ok (.aload_n 0, 1) := by decide +kernel
theorem dX12_statement_120 : decode cX12_statement 120 = .ok (.iconst 2, 1) := by decide +kernel
theorem dX12_statement_121 : decode cX12_statement 121 = .ok (.invokevirtual 346, 3) := by decide +kernel
theorem dX12_statement_124 : decode cX12_statement 124 = .ok (.invokevirtual 349, 3) := by decide +kernel
theorem dX12_statement_127 : decode cX12_statement 127 = .ok (.ireturn, 1) := by decide +kernel
theorem dX12_statement_128 : decode cX12_statement 128 = .ok (.aload_n 0, 1) := by decide +kernel
theorem dX12_statement_129 : decode cX12_statement 129 = .ok (.aload_n 0, 1) := by decide +kernel
theorem dX12_statement_130 : decode cX12_statement 130 = .ok (.iconst 3, 1) := by decide +kernel
theorem dX12_statement_131 : decode cX12_statement 131 = .ok (.invokevirtual 346, 3) := by decide +kernel
theorem dX12_statement_134 : decode cX12_statement 134 = .ok (.invokevirtual 349, 3) := by decide +kernel
theorem dX12_statement_137 : decode cX12_statement 137 = .ok (.ireturn, 1) := by decide +kernel
theorem dX12_statement_138 : decode cX12_statement 138 = .ok (.aload_n 0, 1) := by decide +kernel
theorem dX12_statement_139 : decode cX12_statement 139 = .ok (.aload_n 0, 1) := by decide +kernel
theorem dX12_statement_140 : decode cX12_statement 140 = .ok (.iconst 4, 1) := by decide +kernel
theorem dX12_statement_141 : decode cX12_statement 141 = .ok (.invokevirtual 346, 3) := by decide +kernel
theorem dX12_statement_144 : decode cX12_statement 144 = .ok (.invokevirtual 349, 3) := by decide +kernel
theorem dX12_statement_147 : decode cX12_statement 147 = .ok (.ireturn, 1) := by decide +kernel
theorem dX12_statement_148 : decode cX12_statement 148 = .ok (.aload_n 0, 1) := by decide +kernel
theorem dX12_statement_149 : decode cX12_statement 149 = .ok (.aload_n 0, 1) := by decide +kernel
theorem dX12_statement_150 : decode cX12_statement 150 = .ok (.iconst 5, 1) := by decide +kernel
theorem dX12_statement_151 : decode cX12_statement 151 = .ok (.invokevirtual 346, 3) := by decide +kernel
theorem dX12_statement_154 : decode cX12_statement 154 = .ok (.invokevirtual 349, 3) := by decide +kernel
theorem dX12_statement_157 : decode cX12_statement 157 = .ok (.ireturn, 1) := by decide +kernel
theorem dX12_statement_158 : decode cX12_statement 158 = .ok (.aload_n 0, 1) := by decide +kernel
theorem dX12_statement_159 : decode cX12_statement 159 = .ok (.aload_n 0, 1) := by decide +kernel
theorem dX12_statement_160 : decode cX12_statement 160 = .ok (.bipush 12, 2) := by decide +kernel
theorem dX12_statement_162 : decode cX12_statement 162 = .ok (.invokevirtual 346, 3) := by decide +kernel
theorem dX12_statement_165 : decode cX12_statement 165 = .ok (.invokevirtual 349, 3) := by decide +kernel
theorem dX12_statement_168 : decode cX12_statement 168 = .ok (.ireturn, 1) := by decide +kernel
theorem dX12_statement_169 : decode cX12_statement 169 = .ok (.aload_n 0, 1) := by decide +kernel
theorem dX12_statement_170 : decode cX12_statement 170 = .ok (.aload_n 0, 1) := by decide +kernel
theorem dX12_statement_171 : decode cX12_statement 171 = .ok (.bipush 13, 2) := by decide +kernel
theorem dX12_statement_173 : decode cX12_statement 173 = .ok (.invokevirtual 346, 3) := by decide +kernel
theorem dX12_statement_176 : decode cX12_statement 176 = .ok (.invokevirtual 349, 3) := by decide +kernel
theorem dX12_statement_179 : decode cX12_statement 179 = .ok (.ireturn, 1) := by decide +kernel
theorem dX12_statement_180 : decode cX12_statement 180 = .ok (.aload_n 0, 1) := by decide +kernel
theorem dX12_statement_181 : decode cX12_statement 181 = .ok (.aload_n 0, 1) := by decide +kernel
theorem dX12_statement_182 : decode cX12_statement 182 = .ok (.bipush 7, 2) := by decide +kernel
theorem dX12_statement_184 : decode cX12_statement 184 = .ok (.invokevirtual 346, 3) := by decide +kernel
theorem dX12_statement_187 : decode cX12_statement 187 = .ok (.invokevirtual 349, 3) := by decide +kernel
theorem dX12_statement_190 : decode cX12_statement 190 = .ok (.ireturn, 1) := by decide +kernel
theorem dX12_statement_191 : decode cX12_statement 191 = .ok (.aload_n 0, 1) := by decide +kernel
theorem dX12_statement_192 : decode cX12_statement 192 = .ok (.aload_n 0, 1) := by decide +kernel
theorem dX12_statement_193 : decode cX12_statement 193 = .ok (.bipush 9, 2) := by decide +kernel
theorem dX12_statement_195 : decode cX12_statement 195 = .ok (.invokevirtual 346, 3) := by decide +kernel
theorem dX12_statement_198 : decode cX12_statement 198 = .ok (.invokevirtual 349, 3) := by decide +kernel
theorem dX12_statement_201 : decode cX12_statement 201 = .ok (.ireturn, 1) := by decide +kernel
theorem dX12_statement_202 : decode cX12_statement 202 = .ok (.aload_n 0, 1) := by decide +kernel
theorem dX12_statement_203 : decode cX12_statement 203 = .ok (.aload_n 0, 1) := by decide +kernel
theorem dX12_statement_204 : decode cX12_statement 204 = .ok (.bipush 6, 2) := by decide +kernel
theorem dX12_statement_206 : decode cX12_statement 206 = .ok (.invokevirtual 346, 3) := by decide +kernel
theorem dX12_statement_209 : decode cX12_statement 209 = .ok (.invokevirtual 352, 3) := by decide +kernel
theorem dX12_statement_212 : decode cX12_statement 212 = .ok (.ireturn, 1) := by decide +kernel
theorem dX12_statement_213 : decode cX12_statement 213 = .ok (.aload_n 0, 1) := by decide +kernel
theorem dX12_statement_214 : decode cX12_statement 214 = .ok (.aload_n 0, 1) := by decide +kernel
theorem dX12_statement_215 : decode cX12_statement 215 = .ok (.bipush 10, 2) := by decide +kernel
theorem dX12_statement_217 : decode cX12_statement 217 = .ok (.invokevirtual 346, 3) := by decide +kernel
theorem dX12_statement_220 : decode cX12_statement 220 = .ok (.invokevirtual 355, 3) := by decide +kernel
theorem dX12_statement_223 : decode cX12_statement 223 = .ok (.ireturn, 1) := by decide +kernel
theorem dX12_statement_224 : decode cX12_statement 224 = .ok (.aload_n 0, 1) := by decide +kernel
theorem dX12_statement_225 : decode cX12_statement 225 = .ok (.aload_n 0, 1) := by decide +kernel
theorem dX12_statement_226 : decode cX12_statement 226 = .ok (.bipush 11, 2) := by decide +kernel
theorem dX12_statement_228 : decode cX12_statement 228 = .ok (.invokevirtual 346, 3) := by decide +kernel
theorem dX12_statement_231 : decode cX12_statement 231 = .ok (.invokevirtual 355, 3) := by decide +kernel
theorem dX12_statement_234 : decode cX12_statement 234 = .ok (.ireturn, 1) := by decide +kernel
theorem dX12_statement_235 : decode cX12_statement 235 = .ok (.aload_n 0, 1) := by decide +kernel
theorem dX12_statement_236 : decode cX12_statement 236 = .ok (.aload_n 0, 1) := by decide +kernel
theorem dX12_statement_237 : decode cX12_statement 237 = .ok (.getfield 227, 3) := by decide +kernel
theorem dX12_statement_240 : decode cX12_statement 240 = .ok (.invokevirtual 270, 3) := by decide +kernel
theorem dX12_statement_243 : decode cX12_statement 243 = .ok (.ireturn, 1) := by decide +kernel
def mX12_statement (g : GgX12_block) (t : zS) : zR := if (t 0 5) = 2 then zbd (mX12_begun 0 t) fun r3224 t3225 => zbd (mX12_simple r3224 t3225) fun r3227 t3228 => some (r3227, t3228) else if (t 0 5) = 5 then zlet (t 0 8) fun v3129 => if v3129 = 3 then zbd (mX12_begun 1 t) fun r3130 t3131 => zbd (mX12_simple r3130 t3131) fun r3133 t3134 => some (r3133, t3134) else if v3129 = 4 then zbd (mX12_begun 2 t) fun r3137 t3138 => zbd (mX12_simple r3137 t3138) fun r3140 t3141 => some (r3140, t3141) else if v3129 = 5 then zbd (mX12_begun 3 t) fun r3144 t3145 => zbd (mX12_simple r3144 t3145) fun r3147 t3148 => some (r3147, t3148) else if v3129 = 6 then zbd (mX12_begun 4 t) fun r3151 t3152 => zbd (mX12_simple r3151 t3152) fun r3154 t3155 => some (r3154, t3155) else if v3129 = 7 then zbd (mX12_begun 5 t) fun r3158 t3159 => zbd (mX12_simple r3158 t3159) fun r3161 t3162 => some (r3161, t3162) else if v3129 = 8 then zbd (mX12_begun 6 t) fun r3165 t3166 => zbd (g.2.2.1 r3165 t3166) fun r3168 t3169 => some (r3168, t3169) else if v3129 = 9 then zbd (mX12_begun 7 t) fun r3172 t3173 => zbd (mX12_simple r3172 t3173) fun r3175 t3176 => some (r3175, t3176) else if v3129 = 10 then zbd (mX12_begun 9 t) fun r3179 t3180 => zbd (mX12_simple r3179 t3180) fun r3182 t3183 => some (r3182, t3183) else if v3129 = 11 then zbd (mX12_begun 10 t) fun r3186 t3187 => zbd (g.2.2.2 r3186 t3187) fun r3189 t3190 => some (r3189, t3190) else if v3129 = 12 then zbd (mX12_fails (t 0 6) t) fun r3193 t3194 => some (r3193, t3194) else if v3129 = 13 then zbd (mX12_begun 11 t) fun r3197 t3198 => zbd (g.2.2.2 r3197 t3198) fun r3200 t3201 => some (r3200, t3201) else if v3129 = 14 then zbd (mX12_begun 12 t) fun r3204 t3205 => zbd (mX12_simple r3204 t3205) fun r3207 t3208 => some (r3207, t3208) else if v3129 = 15 then zbd (mX12_begun 13 t) fun r3211 t3212 => zbd (mX12_simple r3211 t3212) fun r3214 t3215 => some (r3214, t3215) else zbd (mX12_fails (t 0 6) t) fun r3218 t3219 => some (r3218, t3219) else zbd (mX12_fails (t 0 6) t) fun r3221 t3222 => some (r3221, t3222)
set_option maxHeartbeats 4000000 in
set_option maxRecDepth 20000 in
theorem ctX12_statement {E : zE} {f : Nat} (hf : 310 ≤ f) {g : GgX12_block} (hg : HgX12_block E (f - 1) g) {t : zS} {ro : Int32 × zS} (hF : mX12_statement g  t = some ro) : zM E shM f yX12_statement cX12_statement 2 (some .int) [.ref (za E 0)] t ro := by
  refine zM_of (by decide) (Nat.le_of_ble_eq_true rfl) (fun C => ?_)
  show zJ E shM C cX12_statement RX12 2 f (some .int) ro t 0 [(0, .ref (za E 0))] []
  unfold mX12_statement at hF
  refine z_aload_n 0 dX12_statement_0 rfl rfl ?_
  refine z_geti fi_RX12_247 dX12_statement_1 ?_
  refine z_iconst (v := 2) dX12_statement_4 (by decide) ?_
  refine z_icmp_ne (tgt := 18) dX12_statement_5 (by decide) (fun hc => ?_) (fun hc => ?_)
  · have hF := zif_f hc hF
    refine z_aload_n 0 dX12_statement_18 rfl rfl ?_
    refine z_geti fi_RX12_247 dX12_statement_19 ?_
    refine z_iconst (v := 5) dX12_statement_22 (by decide) ?_
    refine z_icmp_eq (tgt := 35) dX12_statement_23 (by decide) (fun hc => ?_) (fun hc => ?_)
    · have hF := zif_t hc hF
      refine z_aload_n 0 dX12_statement_35 rfl rfl ?_
      refine z_geti fi_RX12_240 dX12_statement_36 ?_
      refine z_topi (fun v3129 ev3129 => ?_)
      have hF := zlet_at ev3129 hF
      refine z_istore_n (lv' := [(1, .int v3129), (0, .ref (za E 0))]) dX12_statement_39 rfl (by decide) rfl ?_
      refine z_iload_n 0 dX12_statement_40 rfl rfl ?_
      by_cases hc : v3129 = 3
      · have hF := zif_t hc hF
        refine z_tabIn (tgt := 108) dX12_statement_41 (by rw [hc]; decide) (by rw [hc]; decide) (by rw [hc]; rfl) (by decide) ?_
        refine z_aload_n 1 dX12_statement_108 rfl rfl ?_
        refine z_aload_n 1 dX12_statement_109 rfl rfl ?_
        refine z_iconst (v := 1) dX12_statement_110 (by decide) ?_
        obtain ⟨r3130, t3131, hc3132, hF⟩ := zbd_at hF
        refine z_callVi (ctX12_begun (E := E) (f := f - 1) (by omega) hc3132) yy_X12_begun yv_X12_begun ob_M_0 lk_RX12_346 (by omega) rfl rfl (Nat.le_of_ble_eq_true rfl) dX12_statement_111 ?_
        obtain ⟨r3133, t3134, hc3135, hF⟩ := zbd_at hF
        refine z_callVi (ctX12_simple (E := E) (f := f - 1) (by omega) hc3135) yy_X12_simple yv_X12_simple ob_M_0 lk_RX12_349 (by omega) rfl rfl (Nat.le_of_ble_eq_true rfl) dX12_statement_114 ?_
        exact z_iret hF dX12_statement_117
      have hF := zif_f hc hF
      have hn3136 := hc; clear hc
      by_cases hc : v3129 = 4
      · have hF := zif_t hc hF
        refine z_tabIn (tgt := 118) dX12_statement_41 (by rw [hc]; decide) (by rw [hc]; decide) (by rw [hc]; rfl) (by decide) ?_
        refine z_aload_n 1 dX12_statement_118 rfl rfl ?_
        refine z_aload_n 1 dX12_statement_119 rfl rfl ?_
        refine z_iconst (v := 2) dX12_statement_120 (by decide) ?_
        obtain ⟨r3137, t3138, hc3139, hF⟩ := zbd_at hF
        refine z_callVi (ctX12_begun (E := E) (f := f - 1) (by omega) hc3139) yy_X12_begun yv_X12_begun ob_M_0 lk_RX12_346 (by omega) rfl rfl (Nat.le_of_ble_eq_true rfl) dX12_statement_121 ?_
        obtain ⟨r3140, t3141, hc3142, hF⟩ := zbd_at hF
        refine z_callVi (ctX12_simple (E := E) (f := f - 1) (by omega) hc3142) yy_X12_simple yv_X12_simple ob_M_0 lk_RX12_349 (by omega) rfl rfl (Nat.le_of_ble_eq_true rfl) dX12_statement_124 ?_
        exact z_iret hF dX12_statement_127
      have hF := zif_f hc hF
      have hn3143 := hc; clear hc
      by_cases hc : v3129 = 5
      · have hF := zif_t hc hF
        refine z_tabIn (tgt := 128) dX12_statement_41 (by rw [hc]; decide) (by rw [hc]; decide) (by rw [hc]; rfl) (by decide) ?_
        refine z_aload_n 1 dX12_statement_128 rfl rfl ?_
        refine z_aload_n 1 dX12_statement_129 rfl rfl ?_
        refine z_iconst (v := 3) dX12_statement_130 (by decide) ?_
        obtain ⟨r3144, t3145, hc3146, hF⟩ := zbd_at hF
        refine z_callVi (ctX12_begun (E := E) (f := f - 1) (by omega) hc3146) yy_X12_begun yv_X12_begun ob_M_0 lk_RX12_346 (by omega) rfl rfl (Nat.le_of_ble_eq_true rfl) dX12_statement_131 ?_
        obtain ⟨r3147, t3148, hc3149, hF⟩ := zbd_at hF
        refine z_callVi (ctX12_simple (E := E) (f := f - 1) (by omega) hc3149) yy_X12_simple yv_X12_simple ob_M_0 lk_RX12_349 (by omega) rfl rfl (Nat.le_of_ble_eq_true rfl) dX12_statement_134 ?_
        exact z_iret hF dX12_statement_137
      have hF := zif_f hc hF
      have hn3150 := hc; clear hc
      by_cases hc : v3129 = 6
      · have hF := zif_t hc hF
        refine z_tabIn (tgt := 138) dX12_statement_41 (by rw [hc]; decide) (by rw [hc]; decide) (by rw [hc]; rfl) (by decide) ?_
        refine z_aload_n 1 dX12_statement_138 rfl rfl ?_
        refine z_aload_n 1 dX12_statement_139 rfl rfl ?_
        refine z_iconst (v := 4) dX12_statement_140 (by decide) ?_
        obtain ⟨r3151, t3152, hc3153, hF⟩ := zbd_at hF
        refine z_callVi (ctX12_begun (E := E) (f := f - 1) (by omega) hc3153) yy_X12_begun yv_X12_begun ob_M_0 lk_RX12_346 (by omega) rfl rfl (Nat.le_of_ble_eq_true rfl) dX12_statement_141 ?_
        obtain ⟨r3154, t3155, hc3156, hF⟩ := zbd_at hF
        refine z_callVi (ctX12_simple (E := E) (f := f - 1) (by omega) hc3156) yy_X12_simple yv_X12_simple ob_M_0 lk_RX12_349 (by omega) rfl rfl (Nat.le_of_ble_eq_true rfl) dX12_statement_144 ?_
        exact z_iret hF dX12_statement_147
      have hF := zif_f hc hF
      have hn3157 := hc; clear hc
      by_cases hc : v3129 = 7
      · have hF := zif_t hc hF
        refine z_tabIn (tgt := 148) dX12_statement_41 (by rw [hc]; decide) (by rw [hc]; decide) (by rw [hc]; rfl) (by decide) ?_
        refine z_aload_n 1 dX12_statement_148 rfl rfl ?_
        refine z_aload_n 1 dX12_statement_149 rfl rfl ?_
        refine z_iconst (v := 5) dX12_statement_150 (by decide) ?_
        obtain ⟨r3158, t3159, hc3160, hF⟩ := zbd_at hF
        refine z_callVi (ctX12_begun (E := E) (f := f - 1) (by omega) hc3160) yy_X12_begun yv_X12_begun ob_M_0 lk_RX12_346 (by omega) rfl rfl (Nat.le_of_ble_eq_true rfl) dX12_statement_151 ?_
        obtain ⟨r3161, t3162, hc3163, hF⟩ := zbd_at hF
        refine z_callVi (ctX12_simple (E := E) (f := f - 1) (by omega) hc3163) yy_X12_simple yv_X12_simple ob_M_0 lk_RX12_349 (by omega) rfl rfl (Nat.le_of_ble_eq_true rfl) dX12_statement_154 ?_
        exact z_iret hF dX12_statement_157
      have hF := zif_f hc hF
      have hn3164 := hc; clear hc
      by_cases hc : v3129 = 8
      · have hF := zif_t hc hF
        refine z_tabIn (tgt := 202) dX12_statement_41 (by rw [hc]; decide) (by rw [hc]; decide) (by rw [hc]; rfl) (by decide) ?_
        refine z_aload_n 1 dX12_statement_202 rfl rfl ?_
        refine z_aload_n 1 dX12_statement_203 rfl rfl ?_
        refine z_bipush (v := 6) dX12_statement_204 (by decide) ?_
        obtain ⟨r3165, t3166, hc3167, hF⟩ := zbd_at hF
        refine z_callVi (ctX12_begun (E := E) (f := f - 1) (by omega) hc3167) yy_X12_begun yv_X12_begun ob_M_0 lk_RX12_346 (by omega) rfl rfl (Nat.le_of_ble_eq_true rfl) dX12_statement_206 ?_
        obtain ⟨r3168, t3169, hc3170, hF⟩ := zbd_at hF
        refine z_callVi (z_hgX12_choose hg hc3170) yy_X12_choose yv_X12_choose ob_M_0 lk_RX12_352 (by omega) rfl rfl (Nat.le_of_ble_eq_true rfl) dX12_statement_209 ?_
        exact z_iret hF dX12_statement_212
      have hF := zif_f hc hF
      have hn3171 := hc; clear hc
      by_cases hc : v3129 = 9
      · have hF := zif_t hc hF
        refine z_tabIn (tgt := 180) dX12_statement_41 (by rw [hc]; decide) (by rw [hc]; decide) (by rw [hc]; rfl) (by decide) ?_
        refine z_aload_n 1 dX12_statement_180 rfl rfl ?_
        refine z_aload_n 1 dX12_statement_181 rfl rfl ?_
        refine z_bipush (v := 7) dX12_statement_182 (by decide) ?_
        obtain ⟨r3172, t3173, hc3174, hF⟩ := zbd_at hF
        refine z_callVi (ctX12_begun (E := E) (f := f - 1) (by omega) hc3174) yy_X12_begun yv_X12_begun ob_M_0 lk_RX12_346 (by omega) rfl rfl (Nat.le_of_ble_eq_true rfl) dX12_statement_184 ?_
        obtain ⟨r3175, t3176, hc3177, hF⟩ := zbd_at hF
        refine z_callVi (ctX12_simple (E := E) (f := f - 1) (by omega) hc3177) yy_X12_simple yv_X12_simple ob_M_0 lk_RX12_349 (by omega) rfl rfl (Nat.le_of_ble_eq_true rfl) dX12_statement_187 ?_
        exact z_iret hF dX12_statement_190
      have hF := zif_f hc hF
      have hn3178 := hc; clear hc
      by_cases hc : v3129 = 10
      · have hF := zif_t hc hF
        refine z_tabIn (tgt := 191) dX12_statement_41 (by rw [hc]; decide) (by rw [hc]; decide) (by rw [hc]; rfl) (by decide) ?_
        refine z_aload_n 1 dX12_statement_191 rfl rfl ?_
        refine z_aload_n 1 dX12_statement_192 rfl rfl ?_
        refine z_bipush (v := 9) dX12_statement_193 (by decide) ?_
        obtain ⟨r3179, t3180, hc3181, hF⟩ := zbd_at hF
        refine z_callVi (ctX12_begun (E := E) (f := f - 1) (by omega) hc3181) yy_X12_begun yv_X12_begun ob_M_0 lk_RX12_346 (by omega) rfl rfl (Nat.le_of_ble_eq_true rfl) dX12_statement_195 ?_
        obtain ⟨r3182, t3183, hc3184, hF⟩ := zbd_at hF
        refine z_callVi (ctX12_simple (E := E) (f := f - 1) (by omega) hc3184) yy_X12_simple yv_X12_simple ob_M_0 lk_RX12_349 (by omega) rfl rfl (Nat.le_of_ble_eq_true rfl) dX12_statement_198 ?_
        exact z_iret hF dX12_statement_201
      have hF := zif_f hc hF
      have hn3185 := hc; clear hc
      by_cases hc : v3129 = 11
      · have hF := zif_t hc hF
        refine z_tabIn (tgt := 213) dX12_statement_41 (by rw [hc]; decide) (by rw [hc]; decide) (by rw [hc]; rfl) (by decide) ?_
        refine z_aload_n 1 dX12_statement_213 rfl rfl ?_
        refine z_aload_n 1 dX12_statement_214 rfl rfl ?_
        refine z_bipush (v := 10) dX12_statement_215 (by decide) ?_
        obtain ⟨r3186, t3187, hc3188, hF⟩ := zbd_at hF
        refine z_callVi (ctX12_begun (E := E) (f := f - 1) (by omega) hc3188) yy_X12_begun yv_X12_begun ob_M_0 lk_RX12_346 (by omega) rfl rfl (Nat.le_of_ble_eq_true rfl) dX12_statement_217 ?_
        obtain ⟨r3189, t3190, hc3191, hF⟩ := zbd_at hF
        refine z_callVi (z_hgX12_whether hg hc3191) yy_X12_whether yv_X12_whether ob_M_0 lk_RX12_355 (by omega) rfl rfl (Nat.le_of_ble_eq_true rfl) dX12_statement_220 ?_
        exact z_iret hF dX12_statement_223
      have hF := zif_f hc hF
      have hn3192 := hc; clear hc
      by_cases hc : v3129 = 12
      · have hF := zif_t hc hF
        refine z_tabIn (tgt := 235) dX12_statement_41 (by rw [hc]; decide) (by rw [hc]; decide) (by rw [hc]; rfl) (by decide) ?_
        refine z_aload_n 1 dX12_statement_235 rfl rfl ?_
        refine z_aload_n 1 dX12_statement_236 rfl rfl ?_
        refine z_geti fi_RX12_227 dX12_statement_237 ?_
        obtain ⟨r3193, t3194, hc3195, hF⟩ := zbd_at hF
        refine z_callVi (ctX12_fails (E := E) (f := f - 1) (by omega) hc3195) yy_X12_fails yv_X12_fails ob_M_0 lk_RX12_270 (by omega) rfl rfl (Nat.le_of_ble_eq_true rfl) dX12_statement_240 ?_
        exact z_iret hF dX12_statement_243
      have hF := zif_f hc hF
      have hn3196 := hc; clear hc
      by_cases hc : v3129 = 13
      · have hF := zif_t hc hF
        refine z_tabIn (tgt := 224) dX12_statement_41 (by rw [hc]; decide) (by rw [hc]; decide) (by rw [hc]; rfl) (by decide) ?_
        refine z_aload_n 1 dX12_statement_224 rfl rfl ?_
        refine z_aload_n 1 dX12_statement_225 rfl rfl ?_
        refine z_bipush (v := 11) dX12_statement_226 (by decide) ?_
        obtain ⟨r3197, t3198, hc3199, hF⟩ := zbd_at hF
        refine z_callVi (ctX12_begun (E := E) (f := f - 1) (by omega) hc3199) yy_X12_begun yv_X12_begun ob_M_0 lk_RX12_346 (by omega) rfl rfl (Nat.le_of_ble_eq_true rfl) dX12_statement_228 ?_
        obtain ⟨r3200, t3201, hc3202, hF⟩ := zbd_at hF
        refine z_callVi (z_hgX12_whether hg hc3202) yy_X12_whether yv_X12_whether ob_M_0 lk_RX12_355 (by omega) rfl rfl (Nat.le_of_ble_eq_true rfl) dX12_statement_231 ?_
        exact z_iret hF dX12_statement_234
      have hF := zif_f hc hF
      have hn3203 := hc; clear hc
      by_cases hc : v3129 = 14
      · have hF := zif_t hc hF
        refine z_tabIn (tgt := 158) dX12_statement_41 (by rw [hc]; decide) (by rw [hc]; decide) (by rw [hc]; rfl) (by decide) ?_
        refine z_aload_n 1 dX12_statement_158 rfl rfl ?_
        refine z_aload_n 1 dX12_statement_159 rfl rfl ?_
        refine z_bipush (v := 12) dX12_statement_160 (by decide) ?_
        obtain ⟨r3204, t3205, hc3206, hF⟩ := zbd_at hF
        refine z_callVi (ctX12_begun (E := E) (f := f - 1) (by omega) hc3206) yy_X12_begun yv_X12_begun ob_M_0 lk_RX12_346 (by omega) rfl rfl (Nat.le_of_ble_eq_true rfl) dX12_statement_162 ?_
        obtain ⟨r3207, t3208, hc3209, hF⟩ := zbd_at hF
        refine z_callVi (ctX12_simple (E := E) (f := f - 1) (by omega) hc3209) yy_X12_simple yv_X12_simple ob_M_0 lk_RX12_349 (by omega) rfl rfl (Nat.le_of_ble_eq_true rfl) dX12_statement_165 ?_
        exact z_iret hF dX12_statement_168
      have hF := zif_f hc hF
      have hn3210 := hc; clear hc
      by_cases hc : v3129 = 15
      · have hF := zif_t hc hF
        refine z_tabIn (tgt := 169) dX12_statement_41 (by rw [hc]; decide) (by rw [hc]; decide) (by rw [hc]; rfl) (by decide) ?_
        refine z_aload_n 1 dX12_statement_169 rfl rfl ?_
        refine z_aload_n 1 dX12_statement_170 rfl rfl ?_
        refine z_bipush (v := 13) dX12_statement_171 (by decide) ?_
        obtain ⟨r3211, t3212, hc3213, hF⟩ := zbd_at hF
        refine z_callVi (ctX12_begun (E := E) (f := f - 1) (by omega) hc3213) yy_X12_begun yv_X12_begun ob_M_0 lk_RX12_346 (by omega) rfl rfl (Nat.le_of_ble_eq_true rfl) dX12_statement_173 ?_
        obtain ⟨r3214, t3215, hc3216, hF⟩ := zbd_at hF
        refine z_callVi (ctX12_simple (E := E) (f := f - 1) (by omega) hc3216) yy_X12_simple yv_X12_simple ob_M_0 lk_RX12_349 (by omega) rfl rfl (Nat.le_of_ble_eq_true rfl) dX12_statement_176 ?_
        exact z_iret hF dX12_statement_179
      have hF := zif_f hc hF
      have hn3217 := hc; clear hc
      have hO : (v3129).toInt < 3 ∨ 15 < (v3129).toInt := by
        have qhn3136 := lv_neT (a := 3) hn3136 (by decide)
        have qhn3143 := lv_neT (a := 4) hn3143 (by decide)
        have qhn3150 := lv_neT (a := 5) hn3150 (by decide)
        have qhn3157 := lv_neT (a := 6) hn3157 (by decide)
        have qhn3164 := lv_neT (a := 7) hn3164 (by decide)
        have qhn3171 := lv_neT (a := 8) hn3171 (by decide)
        have qhn3178 := lv_neT (a := 9) hn3178 (by decide)
        have qhn3185 := lv_neT (a := 10) hn3185 (by decide)
        have qhn3192 := lv_neT (a := 11) hn3192 (by decide)
        have qhn3196 := lv_neT (a := 12) hn3196 (by decide)
        have qhn3203 := lv_neT (a := 13) hn3203 (by decide)
        have qhn3210 := lv_neT (a := 14) hn3210 (by decide)
        have qhn3217 := lv_neT (a := 15) hn3217 (by decide)
        omega
      refine z_tabOut (tgt := 235) dX12_statement_41 hO (by decide) ?_
      refine z_aload_n 1 dX12_statement_235 rfl rfl ?_
      refine z_aload_n 1 dX12_statement_236 rfl rfl ?_
      refine z_geti fi_RX12_227 dX12_statement_237 ?_
      obtain ⟨r3218, t3219, hc3220, hF⟩ := zbd_at hF
      refine z_callVi (ctX12_fails (E := E) (f := f - 1) (by omega) hc3220) yy_X12_fails yv_X12_fails ob_M_0 lk_RX12_270 (by omega) rfl rfl (Nat.le_of_ble_eq_true rfl) dX12_statement_240 ?_
      exact z_iret hF dX12_statement_243
    · have hF := zif_f hc hF
      refine z_aload_n 0 dX12_statement_26 rfl rfl ?_
      refine z_aload_n 0 dX12_statement_27 rfl rfl ?_
      refine z_geti fi_RX12_227 dX12_statement_28 ?_
      obtain ⟨r3221, t3222, hc3223, hF⟩ := zbd_at hF
      refine z_callVi (ctX12_fails (E := E) (f := f - 1) (by omega) hc3223) yy_X12_fails yv_X12_fails ob_M_0 lk_RX12_270 (by omega) rfl rfl (Nat.le_of_ble_eq_true rfl) dX12_statement_31 ?_
      exact z_iret hF dX12_statement_34
  · have hF := zif_t hc hF
    refine z_aload_n 0 dX12_statement_8 rfl rfl ?_
    refine z_aload_n 0 dX12_statement_9 rfl rfl ?_
    refine z_iconst (v := 0) dX12_statement_10 (by decide) ?_
    obtain ⟨r3224, t3225, hc3226, hF⟩ := zbd_at hF
    refine z_callVi (ctX12_begun (E := E) (f := f - 1) (by omega) hc3226) yy_X12_begun yv_X12_begun ob_M_0 lk_RX12_346 (by omega) rfl rfl (Nat.le_of_ble_eq_true rfl) dX12_statement_11 ?_
    obtain ⟨r3227, t3228, hc3229, hF⟩ := zbd_at hF
    refine z_callVi (ctX12_simple (E := E) (f := f - 1) (by omega) hc3229) yy_X12_simple yv_X12_simple ob_M_0 lk_RX12_349 (by omega) rfl rfl (Nat.le_of_ble_eq_true rfl) dX12_statement_14 ?_
    exact z_iret hF dX12_statement_17
-- SessionHouseModel.choose(I)I
theorem dX12_choose_0 : decode cX12_choose 0 = .ok (.aload_n 0, 1) := by decide +kernel
theorem dX12_choose_1 : decode cX12_choose 1 = .ok (.invokevirtual 273, 3) := by decide +kernel
theorem dX12_choose_4 : decode cX12_choose 4 = .ok (.aload_n 0, 1) := by decide +kernel
theorem dX12_choose_5 : decode cX12_choose 5 = .ok (.getfield 55, 3) := by decide +kernel
theorem dX12_choose_8 : decode cX12_choose 8 = .ok (.iload_n 1, 1) := by decide +kernel
theorem dX12_choose_9 : decode cX12_choose 9 = .ok (.aload_n 0, 1) := by decide +kernel
theorem dX12_choose_10 : decode cX12_choose 10 = .ok (.invokevirtual 331, 3) := by decide +kernel
theorem dX12_choose_13 : decode cX12_choose 13 = .ok (.iastore, 1) := by decide +kernel
theorem dX12_choose_14 : decode cX12_choose 14 = .ok (.aload_n 0, 1) := by decide +kernel
theorem dX12_choose_15 : decode cX12_choose 15 = .ok (.aload_n 0, 1) := by decide +kernel
theorem dX12_choose_16 : decode cX12_choose 16 = .ok (.bipush 123, 2) := by decide +kernel
theorem dX12_choose_18 : decode cX12_choose 18 = .ok (.invokevirtual 279, 3) := by decide +kernel
theorem dX12_choose_21 : decode cX12_choose 21 = .ok (.invokevirtual 299, 3) := by decide +kernel
theorem dX12_choose_24 : decode cX12_choose 24 = .ok (.ifCond .ne 5, 3) := by decide +kernel
theorem dX12_choose_27 : decode cX12_choose 27 = .ok (.iload_n 1, 1) := by decide +kernel
theorem dX12_choose_28 : decode cX12_choose 28 = .ok (.ireturn, 1) := by decide +kernel
theorem dX12_choose_29 : decode cX12_choose 29 = .ok (.aload_n 0, 1) := by decide +kernel
theorem dX12_choose_30 : decode cX12_choose 30 = .ok (.getfield 316, 3) := by decide +kernel
theorem dX12_choose_33 : decode cX12_choose 33 = .ok (.istore_n 2, 1) := by decide +kernel
theorem dX12_choose_34 : decode cX12_choose 34 = .ok (.iconst 1, 1) := by decide +kernel
theorem dX12_choose_35 : decode cX12_choose 35 = .ok (.istore_n 3, 1) := by decide +kernel
theorem dX12_choose_36 : decode cX12_choose 36 = .ok (.iload_n 3, 1) := by decide +kernel
theorem dX12_choose_37 : decode cX12_choose 37 = .ok (.ifCond .eq 143, 3) := by decide +kernel
theorem dX12_choose_40 : decode cX12_choose 40 = .ok (.aload_n 0, 1) := by decide +kernel
theorem dX12_choose_41 : decode cX12_choose 41 = .ok (.getfield 247, 3) := by decide +kernel
theorem dX12_choose_44 : decode cX12_choose 44 = .ok (.iconst 2, 1) := by decide +kernel
theorem dX12_choose_45 : decode cX12_choose 45 = .ok (.if_icmp .ne 10, 3) := by decide +kernel
theorem dX12_choose_48 : decode cX12_choose 48 = .ok (.aload_n 0, 1) := by decide +kernel
theorem dX12_choose_49 : decode cX12_choose 49 = .ok (.getfield 267, 3) := by decide +kernel
theorem dX12_choose_52 : decode cX12_choose 52 = .ok (.ifCond .lt 12, 3) := by decide +kernel
theorem dX12_choose_55 : decode cX12_choose 55 = .ok (.aload_n 0, 1) := by decide +kernel
theorem dX12_choose_56 : decode cX12_choose 56 = .ok (.aload_n 0, 1) := by decide +kernel
theorem dX12_choose_57 : decode cX12_choose 57 = .ok (.getfield 227, 3) := by decide +kernel
theorem dX12_choose_60 : decode cX12_choose 60 = .ok (.invokevirtual 270, 3) := by decide +kernel
theorem dX12_choose_63 : decode cX12_choose 63 = .ok (.ireturn, 1) := by decide +kernel
theorem dX12_choose_64 : decode cX12_choose 64 = .ok (.iload_n 2, 1) := by decide +kernel
theorem dX12_choose_65 : decode cX12_choose 65 = .ok (.istore 4, 2) := by decide +kernel
theorem dX12_choose_67 : decode cX12_choose 67 = .ok (.iload 4, 2) := by decide +kernel
theorem dX12_choose_69 : decode cX12_choose 69 = .ok (.aload_n 0, 1) := by decide +kernel
theorem dX12_choose_70 : decode cX12_choose 70 = .ok (.getfield 316, 3) := by decide +kernel
theorem dX12_choose_73 : decode cX12_choose 73 = .ok (.if_icmp .ge 32, 3) := by decide +kernel
theorem dX12_choose_76 : decode cX12_choose 76 = .ok (.aload_n 0, 1) := by decide +kernel
theorem dX12_choose_77 : decode cX12_choose 77 = .ok (.getfield 125, 3) := by decide +kernel
theorem dX12_choose_80 : decode cX12_choose 80 = .ok (.iload 4, 2) := by decide +kernel
theorem dX12_choose_82 : decode cX12_choose 82 = .ok (.iaload, 1) := by decide +kernel
theorem dX12_choose_83 : decode cX12_choose 83 = .ok (.aload_n 0, 1) := by decide +kernel
theorem dX12_choose_84 : decode cX12_choose 84 = .ok (.getfield 240, 3) := by decide +kernel
theorem dX12_choose_87 : decode cX12_choose 87 = .ok (.if_icmp .ne 12, 3) := by decide +kernel
theorem dX12_choose_90 : decode cX12_choose 90 = .ok (.aload_n 0, 1) := by decide +kernel
theorem dX12_choose_91 : decode cX12_choose 91 = .ok (.aload_n 0, 1) := by decide +kernel
theorem dX12_choose_92 : decode cX12_choose 92 = .ok (.getfield 227, 3) := by decide +kernel
theorem dX12_choose_95 : decode cX12_choose 95 = .ok (.invokevirtual 270, 3) := by decide +kernel
theorem dX12_choose_98 : decode cX12_choose 98 = .ok (.ireturn, 1) := by decide +kernel
theorem dX12_choose_99 : decode cX12_choose 99 = .ok (.iinc 4 2, 3) := by decide +kernel
theorem dX12_choose_102 : decode cX12_choose 102 = .ok (.goto (-35), 3) := by decide +kernel
theorem dX12_choose_105 : decode cX12_choose 105 = .ok (.aload_n 0, 1) := by decide +kernel
theorem dX12_choose_106 : decode cX12_choose 106 = .ok (.getfield 125, 3) := by decide +kernel
theorem dX12_choose_109 : decode cX12_choose 109 = .ok (.aload_n 0, 1) := by decide +kernel
theorem dX12_choose_110 : decode cX12_choose 110 = .ok (.getfield 316, 3) := by decide +kernel
theorem dX12_choose_113 : decode cX12_choose 113 = .ok (.aload_n 0, 1) := by decide +kernel
theorem dX12_choose_114 : decode cX12_choose 114 = .ok (.getfield 240, 3) := by decide +kernel
theorem dX12_choose_117 : decode cX12_choose 117 = .ok (.iastore, 1) := by decide +kernel
theorem dX12_choose_118 : decode cX12_choose 118 = .ok (.aload_n 0, 1) := by decide +kernel
theorem dX12_choose_119 : decode cX12_choose 119 = .ok (.dup, 1) := by decide +kernel
theorem dX12_choose_120 : decode cX12_choose 120 = .ok (.getfield 316, 3) := by decide +kernel
theorem dX12_choose_123 : decode cX12_choose 123 = .ok (.iconst 2, 1) := by decide +kernel
theorem dX12_choose_124 : decode cX12_choose 124 = .ok (.iadd, 1) := by decide +kernel
theorem dX12_choose_125 : decode cX12_choose 125 = .ok (.putfield 316, 3) := by decide +kernel
theorem dX12_choose_128 : decode cX12_choose 128 = .ok (.aload_n 0, 1) := by decide +kernel
theorem dX12_choose_129 : decode cX12_choose 129 = .ok (.getfield 316, 3) := by decide +kernel
theorem dX12_choose_132 : decode cX12_choose 132 = .ok (.iconst 1, 1) := by decide +kernel
theorem dX12_choose_133 : decode cX12_choose 133 = .ok (.isub, 1) := by decide +kernel
theorem dX12_choose_134 : decode cX12_choose 134 = .ok (.istore 4, 2) := by decide +kernel
theorem dX12_choose_136 : decode cX12_choose 136 = .ok (.aload_n 0, 1) := by decide +kernel
theorem dX12_choose_137 : decode cX12_choose 137 = .ok (.invokevirtual 273, 3) := by decide +kernel
theorem dX12_choose_140 : decode cX12_choose 140 = .ok (.aload_n 0, 1) := by decide +kernel
theorem dX12_choose_141 : decode cX12_choose 141 = .ok (.getfield 125, 3) := by decide +kernel
theorem dX12_choose_144 : decode cX12_choose 144 = .ok (.iload 4, 2) := by decide +kernel
theorem dX12_choose_146 : decode cX12_choose 146 = .ok (.aload_n 0, 1) := by decide +kernel
theorem dX12_choose_147 : decode cX12_choose 147 = .ok (.bipush (-2), 2) := by decide +kernel
theorem dX12_choose_149 : decode cX12_choose 149 = .ok (.iload_n 1, 1) := by decide +kernel
theorem dX12_choose_150 : decode cX12_choose 150 = .ok (.isub, 1) := by decide +kernel
theorem dX12_choose_151 : decode cX12_choose 151 = .ok (.invokevirtual 334, 3) := by decide +kernel
theorem dX12_choose_154 : decode cX12_choose 154 = .ok (.iastore, 1) := by decide +kernel
theorem dX12_choose_155 : decode cX12_choose 155 = .ok (.aload_n 0, 1) := by decide +kernel
theorem dX12_choose_156 : decode cX12_choose 156 = .ok (.getfield 267, 3) := by decide +kernel
theorem dX12_choose_159 : decode cX12_choose 159 = .ok (.ifCond .ge 16, 3) := by decide +kernel
theorem dX12_choose_162 : decode cX12_choose 162 = .ok (.aload_n 0, 1) := by decide +kernel
theorem dX12_choose_163 : decode cX12_choose 163 = .ok (.bipush 125, 2) := by decide +kernel
theorem dX12_choose_165 : decode cX12_choose 165 = .ok (.invokevirtual 279, 3) := by decide +kernel
theorem dX12_choose_168 : decode cX12_choose 168 = .ok (.ifCond .ne 7, 3) := by decide +kernel
theorem dX12_choose_171 : decode cX12_choose 171 = .ok (.iconst 1, 1) := by decide +kernel
theorem dX12_choose_172 : decode cX12_choose 172 = .ok (.goto 4, 3) := by decide +kernel
theorem dX12_choose_175 : decode cX12_choose 175 = .ok (.iconst 0, 1) := by decide +kernel
theorem dX12_choose_176 : decode cX12_choose 176 = .ok (.istore_n 3, 1) := by decide +kernel
theorem dX12_choose_177 : decode cX12_choose 177 = .ok (.goto (-141), 3) := by decide +kernel
theorem dX12_choose_180 : decode cX12_choose 180 = .ok (.aload_n 0, 1) := by decide +kernel
theorem dX12_choose_181 : decode cX12_choose 181 = .ok (.bipush 125, 2) := by decide +kernel
theorem dX12_choose_183 : decode cX12_choose 183 = .ok (.invokevirtual 305, 3) := by decide +kernel
theorem dX12_choose_186 : decode cX12_choose 186 = .ok (.aload_n 0, 1) := by decide +kernel
theorem dX12_choose_187 : decode cX12_choose 187 = .ok (.getfield 64, 3) := by decide +kernel
theorem dX12_choose_190 : decode cX12_choose 190 = .ok (.iload_n 1, 1) := by decide +kernel
theorem dX12_choose_191 : decode cX12_choose 191 = .ok (.aload_n 0, 1) := by decide +kernel
theorem dX12_choose_192 : decode cX12_choose 192 = .ok (.getfield 367, 3) := by decide +kernel
theorem dX12_choose_195 : decode cX12_choose 195 = .ok (.iastore, 1) := by decide +kernel
theorem dX12_choose_196 : decode cX12_choose 196 = .ok (.aload_n 0, 1) := by decide +kernel
theorem dX12_choose_197 : decode cX12_choose 197 = .ok (.getfield 67, 3) := by decide +kernel
theorem dX12_choose_200 : decode cX12_choose 200 = .ok (.iload_n 1, 1) := by decide +kernel
theorem dX12_choose_201 : decode cX12_choose 201 = .ok (.aload_n 0, 1) := by decide +kernel
theorem dX12_choose_202 : decode cX12_choose 202 = .ok (.getfield 316, 3) := by decide +kernel
theorem dX12_choose_205 : decode cX12_choose 205 = .ok (.iload_n 2, 1) := by decide +kernel
theorem dX12_choose_206 : decode cX12_choose 206 = .ok (.isub, 1) := by decide +kernel
theorem dX12_choose_207 : decode cX12_choose 207 = .ok (.iconst 2, 1) := by decide +kernel
theorem dX12_choose_208 : decode cX12_choose 208 = .ok (.idiv, 1) := by decide +kernel
theorem dX12_choose_209 : decode cX12_choose 209 = .ok (.iastore, 1) := by decide +kernel
theorem dX12_choose_210 : decode cX12_choose 210 = .ok (.iload_n 2, 1) := by decide +kernel
theorem dX12_choose_211 : decode cX12_choose 211 = .ok (.istore 4, 2) := by decide +kernel
theorem dX12_choose_213 : decode cX12_choose 213 = .ok (.iload 4, 2) := by decide +kernel
theorem dX12_choose_215 : decode cX12_choose 215 = .ok (.aload_n 0, 1) := by decide +kernel
theorem dX12_choose_216 : decode cX12_choose 216 = .ok (.getfield 316, 3) := by decide +kernel
theorem dX12_choose_219 : decode cX12_choose 219 = .ok (.if_icmp .ge 53, 3) := by decide +kernel
theorem dX12_choose_222 : decode cX12_choose 222 = .ok (.aload_n 0, 1) := by decide +kernel
theorem dX12_choose_223 : decode cX12_choose 223 = .ok (.getfield 76, 3) := by decide +kernel
theorem dX12_choose_226 : decode cX12_choose 226 = .ok (.aload_n 0, 1) := by decide +kernel
theorem dX12_choose_227 : decode cX12_choose 227 = .ok (.getfield 367, 3) := by decide +kernel
theorem dX12_choose_230 : decode cX12_choose 230 = .ok (.aload_n 0, 1) := by decide +kernel
theorem dX12_choose_231 : decode cX12_choose 231 = .ok (.getfield 125, 3) := by decide +kernel
theorem dX12_choose_234 : decode cX12_choose 234 = .ok (.iload 4, 2) := by decide +kernel
theorem dX12_choose_236 : decode cX12_choose 236 = .ok (.iaload, 1) := by decide +kernel
theorem dX12_choose_237 : decode cX12_choose 237 = .ok (.iastore, 1) := by decide +kernel
theorem dX12_choose_238 : decode cX12_choose 238 = .ok (.aload_n 0, 1) := by decide +kernel
theorem dX12_choose_239 : decode cX12_choose 239 = .ok (.getfield 79, 3) := by decide +kernel
theorem dX12_choose_242 : decode cX12_choose 242 = .ok (.aload_n 0, 1) := by decide +kernel
theorem dX12_choose_243 : decode cX12_choose 243 = .ok (.getfield 367, 3) := by decide +kernel
theorem dX12_choose_246 : decode cX12_choose 246 = .ok (.aload_n 0, 1) := by decide +kernel
theorem dX12_choose_247 : decode cX12_choose 247 = .ok (.getfield 125, 3) := by decide +kernel
theorem dX12_choose_250 : decode cX12_choose 250 = .ok (.iload 4, 2) := by decide +kernel
theorem dX12_choose_252 : decode cX12_choose 252 = .ok (.iconst 1, 1) := by decide +kernel
theorem dX12_choose_253 : decode cX12_choose 253 = .ok (.iadd, 1) := by decide +kernel
theorem dX12_choose_254 : decode cX12_choose 254 = .ok (.iaload, 1) := by decide +kernel
theorem dX12_choose_255 : decode cX12_choose 255 = .ok (.iastore, 1) := by decide +kernel
theorem dX12_choose_256 : decode cX12_choose 256 = .ok (.aload_n 0, 1) := by decide +kernel
theorem dX12_choose_257 : decode cX12_choose 257 = .ok (.dup, 1) := by decide +kernel
theorem dX12_choose_258 : decode cX12_choose 258 = .ok (.getfield 367, 3) := by decide +kernel
theorem dX12_choose_261 : decode cX12_choose 261 = .ok (.iconst 1, 1) := by decide +kernel
theorem dX12_choose_262 : decode cX12_choose 262 = .ok (.iadd, 1) := by decide +kernel
theorem dX12_choose_263 : decode cX12_choose 263 = .ok (.putfield 367, 3) := by decide +kernel
theorem dX12_choose_266 : decode cX12_choose 266 = .ok (.iinc 4 2, 3) := by decide +kernel
theorem dX12_choose_269 : decode cX12_choose 269 = .ok (.goto (-56), 3) := by decide +kernel
theorem dX12_choose_272 : decode cX12_choose 272 = .ok (.aload_n 0, 1) := by decide +kernel
theorem dX12_choose_273 : decode cX12_choose 273 = .ok (.iload_n 2, 1) := by decide +kernel
theorem dX12_choose_274 : decode cX12_choose 274 = .ok (.putfield 316, 3) := by decide +kernel
theorem dX12_choose_277 : decode cX12_choose 277 = .ok (.iload_n 1, 1) := by decide +kernel
theorem dX12_choose_278 : decode cX12_choose 278 = .ok (.ireturn, 1) := by decide +kernel
def bX12_choose_55 (g : GgX12_block) (t : zS) : zR := zbd (mX12_fails (t 0 6) t) fun r3230 t3231 => some (r3230, t3231)
def bX12_choose_176 (g : GgX12_block) (k36 : Int32 → Int32 → Int32 → zS → zR) (x1 : Int32) (x2 : Int32) (y0 : Int32) (t : zS) : zR := k36 x1 x2 y0 t
def bX12_choose_175 (g : GgX12_block) (k36 : Int32 → Int32 → Int32 → zS → zR) (x1 : Int32) (x2 : Int32) (t : zS) : zR := bX12_choose_176 g k36 x1 x2 0 t
def bX12_choose_67 (g : GgX12_block) (k36 : Int32 → Int32 → Int32 → zS → zR) (k67 : Int32 → Int32 → Int32 → zS → zR) (x1 : Int32) (x2 : Int32) (x4 : Int32) (t : zS) : zR := if (t 0 59) ≤ x4 then zwr t 39 4000 (t 0 59) (t 0 8) fun t3234 => zpt t3234 0 59 ((t3234 0 59) + 2) fun t3235 => zlet ((t3235 0 59) - 1) fun v3236 => zbd (mX12_next  t3235) fun r3237 t3238 => zbd (g.1 ((-2) - x1) t3238) fun r3240 t3241 => zwr t3241 39 4000 v3236 r3240 fun t3244 => if 0 ≤ (t3244 0 9) then bX12_choose_175 g k36 x1 x2 t3244 else zbd (mX12_isSign 125 t3244) fun r3245 t3246 => if r3245 = 0 then bX12_choose_176 g k36 x1 x2 1 t3246 else bX12_choose_175 g k36 x1 x2 t3246 else zrd t 39 4000 x4 fun v3248 => if v3248 = (t 0 8) then zbd (mX12_fails (t 0 6) t) fun r3251 t3252 => some (r3251, t3252) else zlet (x4 + 2) fun v3250 => k67 x1 x2 v3250 t
def lX12_choose_67 (g : GgX12_block) (k36 : Int32 → Int32 → Int32 → zS → zR) : Nat → Int32 → Int32 → Int32 → zS → zR
  | 0, _, _, _, _ => none
  | fu + 1, x1, x2, x4, t => bX12_choose_67 g k36 (lX12_choose_67 g k36 fu) x1 x2 x4 t
def bX12_choose_213 (g : GgX12_block) (k213 : Int32 → Int32 → Int32 → zS → zR) (x1 : Int32) (x2 : Int32) (x4 : Int32) (t : zS) : zR := if (t 0 59) ≤ x4 then zpt t 0 59 x2 fun t3254 => some (x1, t3254) else zrd t 39 4000 x4 fun v3255 => zwr t 23 1600 (t 0 36) v3255 fun t3258 => zrd t3258 39 4000 (x4 + 1) fun v3259 => zwr t3258 24 1600 (t3258 0 36) v3259 fun t3262 => zpt t3262 0 36 ((t3262 0 36) + 1) fun t3263 => zlet (x4 + 2) fun v3264 => k213 x1 x2 v3264 t3263
def lX12_choose_213 (g : GgX12_block) : Nat → Int32 → Int32 → Int32 → zS → zR
  | 0, _, _, _, _ => none
  | fu + 1, x1, x2, x4, t => bX12_choose_213 g (lX12_choose_213 g fu) x1 x2 x4 t
def bX12_choose_36 (g : GgX12_block) (k36 : Int32 → Int32 → Int32 → zS → zR) (x1 : Int32) (x2 : Int32) (x3 : Int32) (t : zS) : zR := if x3 = 0 then zbd (mX12_closes 125 t) fun r3265 t3266 => zwr t3266 19 1600 x1 (t3266 0 36) fun t3269 => zwr t3269 20 1600 x1 (((t3269 0 59) - x2) / 2) fun t3271 => lX12_choose_213 g zFU x1 x2 x2 t3271 else if (t 0 5) = 2 then if (t 0 9) < 0 then lX12_choose_67 g k36 zFU x1 x2 x2 t else bX12_choose_55 g  t else bX12_choose_55 g  t
def lX12_choose_36 (g : GgX12_block) : Nat → Int32 → Int32 → Int32 → zS → zR
  | 0, _, _, _, _ => none
  | fu + 1, x1, x2, x3, t => bX12_choose_36 g (lX12_choose_36 g fu) x1 x2 x3 t
def mX12_choose (g : GgX12_block) (x1 : Int32) (t : zS) : zR := zbd (mX12_next  t) fun r3272 t3273 => zbd (mX12_own  t3273) fun r3275 t3276 => zwr t3276 16 1600 x1 r3275 fun t3279 => zbd (mX12_isSign 123 t3279) fun r3280 t3281 => zbd (mX12_opens r3280 t3281) fun r3283 t3284 => if r3283 = 0 then some (x1, t3284) else zlet (t3284 0 59) fun v3286 => lX12_choose_36 g zFU x1 v3286 1 t3284
set_option maxHeartbeats 4000000 in
set_option maxRecDepth 20000 in
theorem wbX12_choose_55 {E : zE} {C : zC} {f : Nat} {ro : Int32 × zS} (hf : 310 ≤ f) {g : GgX12_block} (hg : HgX12_block E (f - 1) g) (t : zS) (hF : bX12_choose_55 g  t = some ro) : zJ E shM C cX12_choose RX12 5 f (some .int) ro t 55 [(0, .ref (za E 0))] [] := by
  unfold bX12_choose_55 at hF
  refine z_aload_n 0 dX12_choose_55 rfl rfl ?_
  refine z_aload_n 0 dX12_choose_56 rfl rfl ?_
  refine z_geti fi_RX12_227 dX12_choose_57 ?_
  obtain ⟨r3230, t3231, hc3232, hF⟩ := zbd_at hF
  refine z_callVi (ctX12_fails (E := E) (f := f - 1) (by omega) hc3232) yy_X12_fails yv_X12_fails ob_M_0 lk_RX12_270 (by omega) rfl rfl (Nat.le_of_ble_eq_true rfl) dX12_choose_60 ?_
  exact z_iret hF dX12_choose_63
set_option maxHeartbeats 4000000 in
set_option maxRecDepth 20000 in
theorem wbX12_choose_176 {E : zE} {C : zC} {f : Nat} {ro : Int32 × zS} (hf : 310 ≤ f) {g : GgX12_block} (hg : HgX12_block E (f - 1) g) (k36 : Int32 → Int32 → Int32 → zS → zR) (hk36 : ∀ (x1 x2 x3 : Int32) (t : zS), k36 x1 x2 x3 t = some ro → zJ E shM C cX12_choose RX12 5 f (some .int) ro t 36 [(0, .ref (za E 0)), (1, .int x1), (2, .int x2), (3, .int x3)] []) (x1 : Int32) (x2 : Int32) (y0 : Int32) (t : zS) (hF : bX12_choose_176 g k36 x1 x2 y0 t = some ro) : zJ E shM C cX12_choose RX12 5 f (some .int) ro t 176 [(0, .ref (za E 0)), (1, .int x1), (2, .int x2)] [.int y0] := by
  unfold bX12_choose_176 at hF
  refine z_istore_n (lv' := [(3, .int y0), (0, .ref (za E 0)), (1, .int x1), (2, .int x2)]) dX12_choose_176 rfl (by decide) rfl ?_
  refine z_goto (tgt := 36) dX12_choose_177 (by decide) ?_
  refine z_sub [1, 2, 3, 0] rfl ?_
  exact hk36 x1 x2 y0 _ hF
set_option maxHeartbeats 4000000 in
set_option maxRecDepth 20000 in
theorem wbX12_choose_175 {E : zE} {C : zC} {f : Nat} {ro : Int32 × zS} (hf : 310 ≤ f) {g : GgX12_block} (hg : HgX12_block E (f - 1) g) (k36 : Int32 → Int32 → Int32 → zS → zR) (hk36 : ∀ (x1 x2 x3 : Int32) (t : zS), k36 x1 x2 x3 t = some ro → zJ E shM C cX12_choose RX12 5 f (some .int) ro t 36 [(0, .ref (za E 0)), (1, .int x1), (2, .int x2), (3, .int x3)] []) (x1 : Int32) (x2 : Int32) (t : zS) (hF : bX12_choose_175 g k36 x1 x2 t = some ro) : zJ E shM C cX12_choose RX12 5 f (some .int) ro t 175 [(0, .ref (za E 0)), (1, .int x1), (2, .int x2)] [] := by
  unfold bX12_choose_175 at hF
  refine z_iconst (v := 0) dX12_choose_175 (by decide) ?_
  exact wbX12_choose_176 hf hg k36 hk36 x1 x2 0 _ hF
set_option maxHeartbeats 4000000 in
set_option maxRecDepth 20000 in
theorem wbX12_choose_67 {E : zE} {C : zC} {f : Nat} {ro : Int32 × zS} (hf : 310 ≤ f) {g : GgX12_block} (hg : HgX12_block E (f - 1) g) (k36 : Int32 → Int32 → Int32 → zS → zR) (hk36 : ∀ (x1 x2 x3 : Int32) (t : zS), k36 x1 x2 x3 t = some ro → zJ E shM C cX12_choose RX12 5 f (some .int) ro t 36 [(0, .ref (za E 0)), (1, .int x1), (2, .int x2), (3, .int x3)] []) (k67 : Int32 → Int32 → Int32 → zS → zR) (hk67 : ∀ (x1 x2 x4 : Int32) (t : zS), k67 x1 x2 x4 t = some ro → zJ E shM C cX12_choose RX12 5 f (some .int) ro t 67 [(0, .ref (za E 0)), (1, .int x1), (2, .int x2), (4, .int x4)] []) (x1 : Int32) (x2 : Int32) (x4 : Int32) (t : zS) (hF : bX12_choose_67 g k36 k67 x1 x2 x4 t = some ro) : zJ E shM C cX12_choose RX12 5 f (some .int) ro t 67 [(0, .ref (za E 0)), (1, .int x1), (2, .int x2), (4, .int x4)] [] := by
  unfold bX12_choose_67 at hF
  refine z_iload 3 dX12_choose_67 rfl ?_
  refine z_aload_n 0 dX12_choose_69 rfl rfl ?_
  refine z_geti fi_RX12_316 dX12_choose_70 ?_
  refine z_icmp_ge (tgt := 105) dX12_choose_73 (by decide) (fun hc => ?_) (fun hc => ?_)
  · have hF := zif_t hc hF
    refine z_aload_n 0 dX12_choose_105 rfl rfl ?_
    refine z_getr fr_RX12_125 dX12_choose_106 ?_
    refine z_aload_n 0 dX12_choose_109 rfl rfl ?_
    refine z_geti fi_RX12_316 dX12_choose_110 ?_
    refine z_aload_n 0 dX12_choose_113 rfl rfl ?_
    refine z_geti fi_RX12_240 dX12_choose_114 ?_
    obtain ⟨hi3233, hF⟩ := zwr_at hF
    refine z_iast (n := 4000) rfl hi3233 dX12_choose_117 (fun t3234 et3234 => ?_)
    have hF := hF t3234 et3234
    refine z_aload_n 0 dX12_choose_118 rfl rfl ?_
    refine z_dup dX12_choose_119 rfl ?_
    refine z_geti fi_RX12_316 dX12_choose_120 ?_
    refine z_iconst (v := 2) dX12_choose_123 (by decide) ?_
    refine z_iadd dX12_choose_124 ?_
    refine z_puti fw_RX12_316 dX12_choose_125 (fun t3235 et3235 => ?_)
    have hF := zpt_at hF t3235 et3235
    refine z_aload_n 0 dX12_choose_128 rfl rfl ?_
    refine z_geti fi_RX12_316 dX12_choose_129 ?_
    refine z_iconst (v := 1) dX12_choose_132 (by decide) ?_
    refine z_isub dX12_choose_133 ?_
    refine z_topi (fun v3236 ev3236 => ?_)
    have hF := zlet_at ev3236 hF
    refine z_istore (lv' := [(4, .int v3236), (0, .ref (za E 0)), (1, .int x1), (2, .int x2)]) dX12_choose_134 (by decide) rfl ?_
    refine z_aload_n 1 dX12_choose_136 rfl rfl ?_
    obtain ⟨r3237, t3238, hc3239, hF⟩ := zbd_at hF
    refine z_callVv (ctX12_next (E := E) (f := f - 1) (by omega) hc3239) yy_X12_next yv_X12_next ob_M_0 lk_RX12_273 (by omega) rfl rfl (Nat.le_of_ble_eq_true rfl) dX12_choose_137 ?_
    refine z_aload_n 1 dX12_choose_140 rfl rfl ?_
    refine z_getr fr_RX12_125 dX12_choose_141 ?_
    refine z_iload 0 dX12_choose_144 rfl ?_
    refine z_aload_n 1 dX12_choose_146 rfl rfl ?_
    refine z_bipush (v := (-2)) dX12_choose_147 (by decide) ?_
    refine z_iload_n 2 dX12_choose_149 rfl rfl ?_
    refine z_isub dX12_choose_150 ?_
    obtain ⟨r3240, t3241, hc3242, hF⟩ := zbd_at hF
    refine z_callVi (z_hgX12_block hg hc3242) yy_X12_block yv_X12_block ob_M_0 lk_RX12_334 (by omega) rfl rfl (Nat.le_of_ble_eq_true rfl) dX12_choose_151 ?_
    obtain ⟨hi3243, hF⟩ := zwr_at hF
    refine z_iast (n := 4000) rfl hi3243 dX12_choose_154 (fun t3244 et3244 => ?_)
    have hF := hF t3244 et3244
    refine z_aload_n 1 dX12_choose_155 rfl rfl ?_
    refine z_geti fi_RX12_267 dX12_choose_156 ?_
    refine z_if_ge (tgt := 175) dX12_choose_159 (by decide) (fun hc => ?_) (fun hc => ?_)
    · have hF := zif_t hc hF
      refine z_sub [1, 2, 3] rfl ?_
      exact wbX12_choose_175 hf hg k36 hk36 x1 x2 _ hF
    · have hF := zif_f hc hF
      refine z_aload_n 1 dX12_choose_162 rfl rfl ?_
      refine z_bipush (v := 125) dX12_choose_163 (by decide) ?_
      obtain ⟨r3245, t3246, hc3247, hF⟩ := zbd_at hF
      refine z_callVi (ctX12_isSign (E := E) (f := f - 1) (by omega) hc3247) yy_X12_isSign yv_X12_isSign ob_M_0 lk_RX12_279 (by omega) rfl rfl (Nat.le_of_ble_eq_true rfl) dX12_choose_165 ?_
      refine z_if_ne (tgt := 175) dX12_choose_168 (by decide) (fun hc => ?_) (fun hc => ?_)
      · have hF := zif_f hc hF
        refine z_sub [1, 2, 3] rfl ?_
        exact wbX12_choose_175 hf hg k36 hk36 x1 x2 _ hF
      · have hF := zif_t hc hF
        refine z_iconst (v := 1) dX12_choose_171 (by decide) ?_
        refine z_goto (tgt := 176) dX12_choose_172 (by decide) ?_
        refine z_sub [1, 2, 3] rfl ?_
        exact wbX12_choose_176 hf hg k36 hk36 x1 x2 1 _ hF
  · have hF := zif_f hc hF
    refine z_aload_n 0 dX12_choose_76 rfl rfl ?_
    refine z_getr fr_RX12_125 dX12_choose_77 ?_
    refine z_iload 3 dX12_choose_80 rfl ?_
    obtain ⟨hi3249, hF⟩ := zrd_at hF
    refine z_iald (n := 4000) rfl hi3249 dX12_choose_82 ?_
    generalize t 39 (Int32.toNatClampNeg x4) = v3248 at hF ⊢
    refine z_aload_n 0 dX12_choose_83 rfl rfl ?_
    refine z_geti fi_RX12_240 dX12_choose_84 ?_
    refine z_icmp_ne (tgt := 99) dX12_choose_87 (by decide) (fun hc => ?_) (fun hc => ?_)
    · have hF := zif_f hc hF
      obtain ⟨v3250, ev3250⟩ : ∃ y : Int32, y = (x4 + 2) := ⟨_, rfl⟩
      have hF := zlet_at ev3250 hF
      refine z_iinc (v := v3250) (lv' := [(4, .int v3250), (0, .ref (za E 0)), (1, .int x1), (2, .int x2)]) (k := 3) dX12_choose_99 rfl (by rw [ev3250]; rfl) (by decide) rfl ?_
      refine z_goto (tgt := 67) dX12_choose_102 (by decide) ?_
      refine z_sub [1, 2, 3, 0] rfl ?_
      exact hk67 x1 x2 v3250 _ hF
    · have hF := zif_t hc hF
      refine z_aload_n 0 dX12_choose_90 rfl rfl ?_
      refine z_aload_n 0 dX12_choose_91 rfl rfl ?_
      refine z_geti fi_RX12_227 dX12_choose_92 ?_
      obtain ⟨r3251, t3252, hc3253, hF⟩ := zbd_at hF
      refine z_callVi (ctX12_fails (E := E) (f := f - 1) (by omega) hc3253) yy_X12_fails yv_X12_fails ob_M_0 lk_RX12_270 (by omega) rfl rfl (Nat.le_of_ble_eq_true rfl) dX12_choose_95 ?_
      exact z_iret hF dX12_choose_98
set_option maxHeartbeats 4000000 in
set_option maxRecDepth 20000 in
theorem wlX12_choose_67 {E : zE} {C : zC} {f : Nat} {ro : Int32 × zS} (hf : 310 ≤ f) {g : GgX12_block} (hg : HgX12_block E (f - 1) g) (k36 : Int32 → Int32 → Int32 → zS → zR) (hk36 : ∀ (x1 x2 x3 : Int32) (t : zS), k36 x1 x2 x3 t = some ro → zJ E shM C cX12_choose RX12 5 f (some .int) ro t 36 [(0, .ref (za E 0)), (1, .int x1), (2, .int x2), (3, .int x3)] []) (fu : Nat) : ∀ (x1 x2 x4 : Int32) (t : zS), lX12_choose_67 g k36 fu x1 x2 x4 t = some ro → zJ E shM C cX12_choose RX12 5 f (some .int) ro t 67 [(0, .ref (za E 0)), (1, .int x1), (2, .int x2), (4, .int x4)] [] := by
  induction fu with
  | zero => intro x1 x2 x4 t hF; cases hF
  | succ fu ih => intro x1 x2 x4 t hF; exact wbX12_choose_67 hf hg k36 hk36 (lX12_choose_67 g k36 fu) ih x1 x2 x4 t hF
set_option maxHeartbeats 4000000 in
set_option maxRecDepth 20000 in
theorem wbX12_choose_213 {E : zE} {C : zC} {f : Nat} {ro : Int32 × zS} (hf : 310 ≤ f) {g : GgX12_block} (hg : HgX12_block E (f - 1) g) (k213 : Int32 → Int32 → Int32 → zS → zR) (hk213 : ∀ (x1 x2 x4 : Int32) (t : zS), k213 x1 x2 x4 t = some ro → zJ E shM C cX12_choose RX12 5 f (some .int) ro t 213 [(0, .ref (za E 0)), (1, .int x1), (2, .int x2), (4, .int x4)] []) (x1 : Int32) (x2 : Int32) (x4 : Int32) (t : zS) (hF : bX12_choose_213 g k213 x1 x2 x4 t = some ro) : zJ E shM C cX12_choose RX12 5 f (some .int) ro t 213 [(0, .ref (za E 0)), (1, .int x1), (2, .int x2), (4, .int x4)] [] := by
  unfold bX12_choose_213 at hF
  refine z_iload 3 dX12_choose_213 rfl ?_
  refine z_aload_n 0 dX12_choose_215 rfl rfl ?_
  refine z_geti fi_RX12_316 dX12_choose_216 ?_
  refine z_icmp_ge (tgt := 272) dX12_choose_219 (by decide) (fun hc => ?_) (fun hc => ?_)
  · have hF := zif_t hc hF
    refine z_aload_n 0 dX12_choose_272 rfl rfl ?_
    refine z_iload_n 2 dX12_choose_273 rfl rfl ?_
    refine z_puti fw_RX12_316 dX12_choose_274 (fun t3254 et3254 => ?_)
    have hF := zpt_at hF t3254 et3254
    refine z_iload_n 1 dX12_choose_277 rfl rfl ?_
    exact z_iret hF dX12_choose_278
  · have hF := zif_f hc hF
    refine z_aload_n 0 dX12_choose_222 rfl rfl ?_
    refine z_getr fr_RX12_76 dX12_choose_223 ?_
    refine z_aload_n 0 dX12_choose_226 rfl rfl ?_
    refine z_geti fi_RX12_367 dX12_choose_227 ?_
    refine z_aload_n 0 dX12_choose_230 rfl rfl ?_
    refine z_getr fr_RX12_125 dX12_choose_231 ?_
    refine z_iload 3 dX12_choose_234 rfl ?_
    obtain ⟨hi3256, hF⟩ := zrd_at hF
    refine z_iald (n := 4000) rfl hi3256 dX12_choose_236 ?_
    generalize t 39 (Int32.toNatClampNeg x4) = v3255 at hF ⊢
    obtain ⟨hi3257, hF⟩ := zwr_at hF
    refine z_iast (n := 1600) rfl hi3257 dX12_choose_237 (fun t3258 et3258 => ?_)
    have hF := hF t3258 et3258
    refine z_aload_n 0 dX12_choose_238 rfl rfl ?_
    refine z_getr fr_RX12_79 dX12_choose_239 ?_
    refine z_aload_n 0 dX12_choose_242 rfl rfl ?_
    refine z_geti fi_RX12_367 dX12_choose_243 ?_
    refine z_aload_n 0 dX12_choose_246 rfl rfl ?_
    refine z_getr fr_RX12_125 dX12_choose_247 ?_
    refine z_iload 3 dX12_choose_250 rfl ?_
    refine z_iconst (v := 1) dX12_choose_252 (by decide) ?_
    refine z_iadd dX12_choose_253 ?_
    obtain ⟨hi3260, hF⟩ := zrd_at hF
    refine z_iald (n := 4000) rfl hi3260 dX12_choose_254 ?_
    generalize t3258 39 (Int32.toNatClampNeg (x4 + 1)) = v3259 at hF ⊢
    obtain ⟨hi3261, hF⟩ := zwr_at hF
    refine z_iast (n := 1600) rfl hi3261 dX12_choose_255 (fun t3262 et3262 => ?_)
    have hF := hF t3262 et3262
    refine z_aload_n 0 dX12_choose_256 rfl rfl ?_
    refine z_dup dX12_choose_257 rfl ?_
    refine z_geti fi_RX12_367 dX12_choose_258 ?_
    refine z_iconst (v := 1) dX12_choose_261 (by decide) ?_
    refine z_iadd dX12_choose_262 ?_
    refine z_puti fw_RX12_367 dX12_choose_263 (fun t3263 et3263 => ?_)
    have hF := zpt_at hF t3263 et3263
    obtain ⟨v3264, ev3264⟩ : ∃ y : Int32, y = (x4 + 2) := ⟨_, rfl⟩
    have hF := zlet_at ev3264 hF
    refine z_iinc (v := v3264) (lv' := [(4, .int v3264), (0, .ref (za E 0)), (1, .int x1), (2, .int x2)]) (k := 3) dX12_choose_266 rfl (by rw [ev3264]; rfl) (by decide) rfl ?_
    refine z_goto (tgt := 213) dX12_choose_269 (by decide) ?_
    refine z_sub [1, 2, 3, 0] rfl ?_
    exact hk213 x1 x2 v3264 _ hF
set_option maxHeartbeats 4000000 in
set_option maxRecDepth 20000 in
theorem wlX12_choose_213 {E : zE} {C : zC} {f : Nat} {ro : Int32 × zS} (hf : 310 ≤ f) {g : GgX12_block} (hg : HgX12_block E (f - 1) g) (fu : Nat) : ∀ (x1 x2 x4 : Int32) (t : zS), lX12_choose_213 g fu x1 x2 x4 t = some ro → zJ E shM C cX12_choose RX12 5 f (some .int) ro t 213 [(0, .ref (za E 0)), (1, .int x1), (2, .int x2), (4, .int x4)] [] := by
  induction fu with
  | zero => intro x1 x2 x4 t hF; cases hF
  | succ fu ih => intro x1 x2 x4 t hF; exact wbX12_choose_213 hf hg (lX12_choose_213 g fu) ih x1 x2 x4 t hF
set_option maxHeartbeats 4000000 in
set_option maxRecDepth 20000 in
theorem wbX12_choose_36 {E : zE} {C : zC} {f : Nat} {ro : Int32 × zS} (hf : 310 ≤ f) {g : GgX12_block} (hg : HgX12_block E (f - 1) g) (k36 : Int32 → Int32 → Int32 → zS → zR) (hk36 : ∀ (x1 x2 x3 : Int32) (t : zS), k36 x1 x2 x3 t = some ro → zJ E shM C cX12_choose RX12 5 f (some .int) ro t 36 [(0, .ref (za E 0)), (1, .int x1), (2, .int x2), (3, .int x3)] []) (x1 : Int32) (x2 : Int32) (x3 : Int32) (t : zS) (hF : bX12_choose_36 g k36 x1 x2 x3 t = some ro) : zJ E shM C cX12_choose RX12 5 f (some .int) ro t 36 [(0, .ref (za E 0)), (1, .int x1), (2, .int x2), (3, .int x3)] [] := by
  unfold bX12_choose_36 at hF
  refine z_iload_n 3 dX12_choose_36 rfl rfl ?_
  refine z_if_eq (tgt := 180) dX12_choose_37 (by decide) (fun hc => ?_) (fun hc => ?_)
  · have hF := zif_t hc hF
    refine z_aload_n 0 dX12_choose_180 rfl rfl ?_
    refine z_bipush (v := 125) dX12_choose_181 (by decide) ?_
    obtain ⟨r3265, t3266, hc3267, hF⟩ := zbd_at hF
    refine z_callVv (ctX12_closes (E := E) (f := f - 1) (by omega) hc3267) yy_X12_closes yv_X12_closes ob_M_0 lk_RX12_305 (by omega) rfl rfl (Nat.le_of_ble_eq_true rfl) dX12_choose_183 ?_
    refine z_aload_n 0 dX12_choose_186 rfl rfl ?_
    refine z_getr fr_RX12_64 dX12_choose_187 ?_
    refine z_iload_n 1 dX12_choose_190 rfl rfl ?_
    refine z_aload_n 0 dX12_choose_191 rfl rfl ?_
    refine z_geti fi_RX12_367 dX12_choose_192 ?_
    obtain ⟨hi3268, hF⟩ := zwr_at hF
    refine z_iast (n := 1600) rfl hi3268 dX12_choose_195 (fun t3269 et3269 => ?_)
    have hF := hF t3269 et3269
    refine z_aload_n 0 dX12_choose_196 rfl rfl ?_
    refine z_getr fr_RX12_67 dX12_choose_197 ?_
    refine z_iload_n 1 dX12_choose_200 rfl rfl ?_
    refine z_aload_n 0 dX12_choose_201 rfl rfl ?_
    refine z_geti fi_RX12_316 dX12_choose_202 ?_
    refine z_iload_n 2 dX12_choose_205 rfl rfl ?_
    refine z_isub dX12_choose_206 ?_
    refine z_iconst (v := 2) dX12_choose_207 (by decide) ?_
    refine z_idiv dX12_choose_208 (by decide) ?_
    obtain ⟨hi3270, hF⟩ := zwr_at hF
    refine z_iast (n := 1600) rfl hi3270 dX12_choose_209 (fun t3271 et3271 => ?_)
    have hF := hF t3271 et3271
    refine z_iload_n 2 dX12_choose_210 rfl rfl ?_
    refine z_istore (lv' := [(4, .int x2), (0, .ref (za E 0)), (1, .int x1), (2, .int x2), (3, .int x3)]) dX12_choose_211 (by decide) rfl ?_
    refine z_sub [1, 2, 3, 0] rfl ?_
    exact wlX12_choose_213 hf hg zFU x1 x2 x2 _ hF
  · have hF := zif_f hc hF
    refine z_aload_n 0 dX12_choose_40 rfl rfl ?_
    refine z_geti fi_RX12_247 dX12_choose_41 ?_
    refine z_iconst (v := 2) dX12_choose_44 (by decide) ?_
    refine z_icmp_ne (tgt := 55) dX12_choose_45 (by decide) (fun hc => ?_) (fun hc => ?_)
    · have hF := zif_f hc hF
      refine z_sub [0] rfl ?_
      exact wbX12_choose_55 hf hg  _ hF
    · have hF := zif_t hc hF
      refine z_aload_n 0 dX12_choose_48 rfl rfl ?_
      refine z_geti fi_RX12_267 dX12_choose_49 ?_
      refine z_if_lt (tgt := 64) dX12_choose_52 (by decide) (fun hc => ?_) (fun hc => ?_)
      · have hF := zif_t hc hF
        refine z_iload_n 2 dX12_choose_64 rfl rfl ?_
        refine z_istore (lv' := [(4, .int x2), (0, .ref (za E 0)), (1, .int x1), (2, .int x2), (3, .int x3)]) dX12_choose_65 (by decide) rfl ?_
        refine z_sub [1, 2, 3, 0] rfl ?_
        exact wlX12_choose_67 hf hg k36 hk36 zFU x1 x2 x2 _ hF
      · have hF := zif_f hc hF
        refine z_sub [0] rfl ?_
        exact wbX12_choose_55 hf hg  _ hF
set_option maxHeartbeats 4000000 in
set_option maxRecDepth 20000 in
theorem wlX12_choose_36 {E : zE} {C : zC} {f : Nat} {ro : Int32 × zS} (hf : 310 ≤ f) {g : GgX12_block} (hg : HgX12_block E (f - 1) g) (fu : Nat) : ∀ (x1 x2 x3 : Int32) (t : zS), lX12_choose_36 g fu x1 x2 x3 t = some ro → zJ E shM C cX12_choose RX12 5 f (some .int) ro t 36 [(0, .ref (za E 0)), (1, .int x1), (2, .int x2), (3, .int x3)] [] := by
  induction fu with
  | zero => intro x1 x2 x3 t hF; cases hF
  | succ fu ih => intro x1 x2 x3 t hF; exact wbX12_choose_36 hf hg (lX12_choose_36 g fu) ih x1 x2 x3 t hF
set_option maxHeartbeats 4000000 in
set_option maxRecDepth 20000 in
theorem ctX12_choose {E : zE} {f : Nat} (hf : 310 ≤ f) {g : GgX12_block} (hg : HgX12_block E (f - 1) g) {x1 : Int32} {t : zS} {ro : Int32 × zS} (hF : mX12_choose g x1 t = some ro) : zM E shM f yX12_choose cX12_choose 5 (some .int) [.ref (za E 0), .int x1] t ro := by
  refine zM_of (by decide) (Nat.le_of_ble_eq_true rfl) (fun C => ?_)
  show zJ E shM C cX12_choose RX12 5 f (some .int) ro t 0 [(0, .ref (za E 0)), (1, .int x1)] []
  unfold mX12_choose at hF
  refine z_aload_n 0 dX12_choose_0 rfl rfl ?_
  obtain ⟨r3272, t3273, hc3274, hF⟩ := zbd_at hF
  refine z_callVv (ctX12_next (E := E) (f := f - 1) (by omega) hc3274) yy_X12_next yv_X12_next ob_M_0 lk_RX12_273 (by omega) rfl rfl (Nat.le_of_ble_eq_true rfl) dX12_choose_1 ?_
  refine z_aload_n 0 dX12_choose_4 rfl rfl ?_
  refine z_getr fr_RX12_55 dX12_choose_5 ?_
  refine z_iload_n 1 dX12_choose_8 rfl rfl ?_
  refine z_aload_n 0 dX12_choose_9 rfl rfl ?_
  obtain ⟨r3275, t3276, hc3277, hF⟩ := zbd_at hF
  refine z_callVi (ctX12_own (E := E) (f := f - 1) (by omega) hc3277) yy_X12_own yv_X12_own ob_M_0 lk_RX12_331 (by omega) rfl rfl (Nat.le_of_ble_eq_true rfl) dX12_choose_10 ?_
  obtain ⟨hi3278, hF⟩ := zwr_at hF
  refine z_iast (n := 1600) rfl hi3278 dX12_choose_13 (fun t3279 et3279 => ?_)
  have hF := hF t3279 et3279
  refine z_aload_n 0 dX12_choose_14 rfl rfl ?_
  refine z_aload_n 0 dX12_choose_15 rfl rfl ?_
  refine z_bipush (v := 123) dX12_choose_16 (by decide) ?_
  obtain ⟨r3280, t3281, hc3282, hF⟩ := zbd_at hF
  refine z_callVi (ctX12_isSign (E := E) (f := f - 1) (by omega) hc3282) yy_X12_isSign yv_X12_isSign ob_M_0 lk_RX12_279 (by omega) rfl rfl (Nat.le_of_ble_eq_true rfl) dX12_choose_18 ?_
  obtain ⟨r3283, t3284, hc3285, hF⟩ := zbd_at hF
  refine z_callVi (ctX12_opens (E := E) (f := f - 1) (by omega) hc3285) yy_X12_opens yv_X12_opens ob_M_0 lk_RX12_299 (by omega) rfl rfl (Nat.le_of_ble_eq_true rfl) dX12_choose_21 ?_
  refine z_if_ne (tgt := 29) dX12_choose_24 (by decide) (fun hc => ?_) (fun hc => ?_)
  · have hF := zif_f hc hF
    refine z_aload_n 0 dX12_choose_29 rfl rfl ?_
    refine z_geti fi_RX12_316 dX12_choose_30 ?_
    refine z_topi (fun v3286 ev3286 => ?_)
    have hF := zlet_at ev3286 hF
    refine z_istore_n (lv' := [(2, .int v3286), (0, .ref (za E 0)), (1, .int x1)]) dX12_choose_33 rfl (by decide) rfl ?_
    refine z_iconst (v := 1) dX12_choose_34 (by decide) ?_
    refine z_istore_n (lv' := [(3, .int 1), (2, .int v3286), (0, .ref (za E 0)), (1, .int x1)]) dX12_choose_35 rfl (by decide) rfl ?_
    refine z_sub [2, 3, 1, 0] rfl ?_
    exact wlX12_choose_36 hf hg zFU x1 v3286 1 _ hF
  · have hF := zif_t hc hF
    refine z_iload_n 1 dX12_choose_27 rfl rfl ?_
    exact z_iret hF dX12_choose_28
-- SessionHouseModel.whether(I)I
theorem dX12_whether_0 : decode cX12_whether 0 = .ok (.aload_n 0, 1) := by decide +kernel
theorem dX12_whether_1 : decode cX12_whether 1 = .ok (.invokevirtual 273, 3) := by decide +kernel
theorem dX12_whether_4 : decode cX12_whether 4 = .ok (.aload_n 0, 1) := by decide +kernel
theorem dX12_whether_5 : decode cX12_whether 5 = .ok (.getfield 61, 3) := by decide +kernel
theorem dX12_whether_8 : decode cX12_whether 8 = .ok (.iload_n 1, 1) := by decide +kernel
theorem dX12_whether_9 : decode cX12_whether 9 = .ok (.aload_n 0, 1) := by decide +kernel
theorem dX12_whether_10 : decode cX12_whether 10 = .ok (.invokevirtual 361, 3) := by decide +kernel
theorem dX12_whether_13 : decode cX12_whether 13 = .ok (.iastore, 1) := by decide +kernel
theorem dX12_whether_14 : decode cX12_whether 14 = .ok (.aload_n 0, 1) := by decide +kernel
theorem dX12_whether_15 : decode cX12_whether 15 = .ok (.getfield 49, 3) := by decide +kernel
theorem dX12_whether_18 : decode cX12_whether 18 = .ok (.iload_n 1, 1) := by decide +kernel
theorem dX12_whether_19 : decode cX12_whether 19 = .ok (.iaload, 1) := by decide +kernel
theorem dX12_whether_20 : decode cX12_whether 20 = .ok (.bipush 11, 2) := by decide +kernel
theorem dX12_whether_22 : decode cX12_whether 22 = .ok (.if_icmp .ne 16, 3) := by decide +kernel
theorem dX12_whether_25 : decode cX12_whether 25 = .ok (.aload_n 0, 1) := by decide +kernel
theorem dX12_whether_26 : decode cX12_whether 26 = .ok (.getfield 64, 3) := by decide +kernel
theorem dX12_whether_29 : decode cX12_whether 29 = .ok (.iload_n 1, 1) := by decide +kernel
theorem dX12_whether_30 : decode cX12_whether 30 = .ok (.aload_n 0, 1) := by decide +kernel
theorem dX12_whether_31 : decode cX12_whether 31 = .ok (.iload_n 1, 1) := by decide +kernel
theorem dX12_whether_32 : decode cX12_whether 32 = .ok (.invokevirtual 334, 3) := by decide +kernel
theorem dX12_whether_35 : decode cX12_whether 35 = .ok (.iastore, 1) := by decide +kernel
theorem dX12_whether_36 : decode cX12_whether 36 = .ok (.iload_n 1, 1) := by decide +kernel
theorem dX12_whether_37 : decode cX12_whether 37 = .ok (.ireturn, 1) := by decide +kernel
theorem dX12_whether_38 : decode cX12_whether 38 = .ok (.aload_n 0, 1) := by decide +kernel
theorem dX12_whether_39 : decode cX12_whether 39 = .ok (.getfield 64, 3) := by decide +kernel
theorem dX12_whether_42 : decode cX12_whether 42 = .ok (.iload_n 1, 1) := by decide +kernel
theorem dX12_whether_43 : decode cX12_whether 43 = .ok (.aload_n 0, 1) := by decide +kernel
theorem dX12_whether_44 : decode cX12_whether 44 = .ok (.bipush (-2), 2) := by decide +kernel
theorem dX12_whether_46 : decode cX12_whether 46 = .ok (.iload_n 1, 1) := by decide +kernel
theorem dX12_whether_47 : decode cX12_whether 47 = .ok (.isub, 1) := by decide +kernel
theorem dX12_whether_48 : decode cX12_whether 48 = .ok (.invokevirtual 334, 3) := by decide +kernel
theorem dX12_whether_51 : decode cX12_whether 51 = .ok (.iastore, 1) := by decide +kernel
theorem dX12_whether_52 : decode cX12_whether 52 = .ok (.aload_n 0, 1) := by decide +kernel
theorem dX12_whether_53 : decode cX12_whether 53 = .ok (.aload_n 0, 1) := by decide +kernel
theorem dX12_whether_54 : decode cX12_whether 54 = .ok (.bipush 12, 2) := by decide +kernel
theorem dX12_whether_56 : decode cX12_whether 56 = .ok (.invokevirtual 292, 3) := by decide +kernel
theorem dX12_whether_59 : decode cX12_whether 59 = .ok (.invokevirtual 282, 3) := by decide +kernel
theorem dX12_whether_62 : decode cX12_whether 62 = .ok (.ifCond .ne 5, 3) := by decide +kernel
theorem dX12_whether_65 : decode cX12_whether 65 = .ok (.iload_n 1, 1) := by decide +kernel
theorem dX12_whether_66 : decode cX12_whether 66 = .ok (.ireturn, 1) := by decide +kernel
theorem dX12_whether_67 : decode cX12_whether 67 = .ok (.aload_n 0, 1) := by decide +kernel
theorem dX12_whether_68 : decode cX12_whether 68 = .ok (.getfield 67, 3) := by decide +kernel
theorem dX12_whether_71 : decode cX12_whether 71 = .ok (.iload_n 1, 1) := by decide +kernel
theorem dX12_whether_72 : decode cX12_whether 72 = .ok (.aload_n 0, 1) := by decide +kernel
theorem dX12_whether_73 : decode cX12_whether 73 = .ok (.bipush (-2), 2) := by decide +kernel
theorem dX12_whether_75 : decode cX12_whether 75 = .ok (.iload_n 1, 1) := by decide +kernel
theorem dX12_whether_76 : decode cX12_whether 76 = .ok (.isub, 1) := by decide +kernel
theorem dX12_whether_77 : decode cX12_whether 77 = .ok (.invokevirtual 334, 3) := by decide +kernel
theorem dX12_whether_80 : decode cX12_whether 80 = .ok (.iastore, 1) := by decide +kernel
theorem dX12_whether_81 : decode cX12_whether 81 = .ok (.iload_n 1, 1) := by decide +kernel
theorem dX12_whether_82 : decode cX12_whether 82 = .ok (.ireturn, 1) := by decide +kernel
def mX12_whether (g : GgX12_block) (x1 : Int32) (t : zS) : zR := zbd (mX12_next  t) fun r3287 t3288 => zbd (mX12_told  t3288) fun r3290 t3291 => zwr t3291 18 1600 x1 r3290 fun t3294 => zrd t3294 14 1600 x1 fun v3295 => if v3295 = 11 then zbd (g.1 x1 t3294) fun r3313 t3314 => zwr t3314 19 1600 x1 r3313 fun t3317 => some (x1, t3317) else zbd (g.1 ((-2) - x1) t3294) fun r3297 t3298 => zwr t3298 19 1600 x1 r3297 fun t3301 => zbd (mX12_isKey 12 t3301) fun r3302 t3303 => zbd (mX12_passes r3302 t3303) fun r3305 t3306 => if r3305 = 0 then some (x1, t3306) else zbd (g.1 ((-2) - x1) t3306) fun r3308 t3309 => zwr t3309 20 1600 x1 r3308 fun t3312 => some (x1, t3312)
set_option maxHeartbeats 4000000 in
set_option maxRecDepth 20000 in
theorem ctX12_whether {E : zE} {f : Nat} (hf : 310 ≤ f) {g : GgX12_block} (hg : HgX12_block E (f - 1) g) {x1 : Int32} {t : zS} {ro : Int32 × zS} (hF : mX12_whether g x1 t = some ro) : zM E shM f yX12_whether cX12_whether 2 (some .int) [.ref (za E 0), .int x1] t ro := by
  refine zM_of (by decide) (Nat.le_of_ble_eq_true rfl) (fun C => ?_)
  show zJ E shM C cX12_whether RX12 2 f (some .int) ro t 0 [(0, .ref (za E 0)), (1, .int x1)] []
  unfold mX12_whether at hF
  refine z_aload_n 0 dX12_whether_0 rfl rfl ?_
  obtain ⟨r3287, t3288, hc3289, hF⟩ := zbd_at hF
  refine z_callVv (ctX12_next (E := E) (f := f - 1) (by omega) hc3289) yy_X12_next yv_X12_next ob_M_0 lk_RX12_273 (by omega) rfl rfl (Nat.le_of_ble_eq_true rfl) dX12_whether_1 ?_
  refine z_aload_n 0 dX12_whether_4 rfl rfl ?_
  refine z_getr fr_RX12_61 dX12_whether_5 ?_
  refine z_iload_n 1 dX12_whether_8 rfl rfl ?_
  refine z_aload_n 0 dX12_whether_9 rfl rfl ?_
  obtain ⟨r3290, t3291, hc3292, hF⟩ := zbd_at hF
  refine z_callVi (ctX12_told (E := E) (f := f - 1) (by omega) hc3292) yy_X12_told yv_X12_told ob_M_0 lk_RX12_361 (by omega) rfl rfl (Nat.le_of_ble_eq_true rfl) dX12_whether_10 ?_
  obtain ⟨hi3293, hF⟩ := zwr_at hF
  refine z_iast (n := 1600) rfl hi3293 dX12_whether_13 (fun t3294 et3294 => ?_)
  have hF := hF t3294 et3294
  refine z_aload_n 0 dX12_whether_14 rfl rfl ?_
  refine z_getr fr_RX12_49 dX12_whether_15 ?_
  refine z_iload_n 1 dX12_whether_18 rfl rfl ?_
  obtain ⟨hi3296, hF⟩ := zrd_at hF
  refine z_iald (n := 1600) rfl hi3296 dX12_whether_19 ?_
  generalize t3294 14 (Int32.toNatClampNeg x1) = v3295 at hF ⊢
  refine z_bipush (v := 11) dX12_whether_20 (by decide) ?_
  refine z_icmp_ne (tgt := 38) dX12_whether_22 (by decide) (fun hc => ?_) (fun hc => ?_)
  · have hF := zif_f hc hF
    refine z_aload_n 0 dX12_whether_38 rfl rfl ?_
    refine z_getr fr_RX12_64 dX12_whether_39 ?_
    refine z_iload_n 1 dX12_whether_42 rfl rfl ?_
    refine z_aload_n 0 dX12_whether_43 rfl rfl ?_
    refine z_bipush (v := (-2)) dX12_whether_44 (by decide) ?_
    refine z_iload_n 1 dX12_whether_46 rfl rfl ?_
    refine z_isub dX12_whether_47 ?_
    obtain ⟨r3297, t3298, hc3299, hF⟩ := zbd_at hF
    refine z_callVi (z_hgX12_block hg hc3299) yy_X12_block yv_X12_block ob_M_0 lk_RX12_334 (by omega) rfl rfl (Nat.le_of_ble_eq_true rfl) dX12_whether_48 ?_
    obtain ⟨hi3300, hF⟩ := zwr_at hF
    refine z_iast (n := 1600) rfl hi3300 dX12_whether_51 (fun t3301 et3301 => ?_)
    have hF := hF t3301 et3301
    refine z_aload_n 0 dX12_whether_52 rfl rfl ?_
    refine z_aload_n 0 dX12_whether_53 rfl rfl ?_
    refine z_bipush (v := 12) dX12_whether_54 (by decide) ?_
    obtain ⟨r3302, t3303, hc3304, hF⟩ := zbd_at hF
    refine z_callVi (ctX12_isKey (E := E) (f := f - 1) (by omega) hc3304) yy_X12_isKey yv_X12_isKey ob_M_0 lk_RX12_292 (by omega) rfl rfl (Nat.le_of_ble_eq_true rfl) dX12_whether_56 ?_
    obtain ⟨r3305, t3306, hc3307, hF⟩ := zbd_at hF
    refine z_callVi (ctX12_passes (E := E) (f := f - 1) (by omega) hc3307) yy_X12_passes yv_X12_passes ob_M_0 lk_RX12_282 (by omega) rfl rfl (Nat.le_of_ble_eq_true rfl) dX12_whether_59 ?_
    refine z_if_ne (tgt := 67) dX12_whether_62 (by decide) (fun hc => ?_) (fun hc => ?_)
    · have hF := zif_f hc hF
      refine z_aload_n 0 dX12_whether_67 rfl rfl ?_
      refine z_getr fr_RX12_67 dX12_whether_68 ?_
      refine z_iload_n 1 dX12_whether_71 rfl rfl ?_
      refine z_aload_n 0 dX12_whether_72 rfl rfl ?_
      refine z_bipush (v := (-2)) dX12_whether_73 (by decide) ?_
      refine z_iload_n 1 dX12_whether_75 rfl rfl ?_
      refine z_isub dX12_whether_76 ?_
      obtain ⟨r3308, t3309, hc3310, hF⟩ := zbd_at hF
      refine z_callVi (z_hgX12_block hg hc3310) yy_X12_block yv_X12_block ob_M_0 lk_RX12_334 (by omega) rfl rfl (Nat.le_of_ble_eq_true rfl) dX12_whether_77 ?_
      obtain ⟨hi3311, hF⟩ := zwr_at hF
      refine z_iast (n := 1600) rfl hi3311 dX12_whether_80 (fun t3312 et3312 => ?_)
      have hF := hF t3312 et3312
      refine z_iload_n 1 dX12_whether_81 rfl rfl ?_
      exact z_iret hF dX12_whether_82
    · have hF := zif_t hc hF
      refine z_iload_n 1 dX12_whether_65 rfl rfl ?_
      exact z_iret hF dX12_whether_66
  · have hF := zif_t hc hF
    refine z_aload_n 0 dX12_whether_25 rfl rfl ?_
    refine z_getr fr_RX12_64 dX12_whether_26 ?_
    refine z_iload_n 1 dX12_whether_29 rfl rfl ?_
    refine z_aload_n 0 dX12_whether_30 rfl rfl ?_
    refine z_iload_n 1 dX12_whether_31 rfl rfl ?_
    obtain ⟨r3313, t3314, hc3315, hF⟩ := zbd_at hF
    refine z_callVi (z_hgX12_block hg hc3315) yy_X12_block yv_X12_block ob_M_0 lk_RX12_334 (by omega) rfl rfl (Nat.le_of_ble_eq_true rfl) dX12_whether_32 ?_
    obtain ⟨hi3316, hF⟩ := zwr_at hF
    refine z_iast (n := 1600) rfl hi3316 dX12_whether_35 (fun t3317 et3317 => ?_)
    have hF := hF t3317 et3317
    refine z_iload_n 1 dX12_whether_36 rfl rfl ?_
    exact z_iret hF dX12_whether_37
def grgX12_block : Nat → GgX12_block
  | 0 => (fun _ _ => none, fun _ => none, fun _ _ => none, fun _ _ => none)
  | d + 1 => (mX12_block (grgX12_block d), mX12_statement (grgX12_block d), mX12_choose (grgX12_block d), mX12_whether (grgX12_block d))
theorem hrgX12_block {E : zE} : ∀ (d f : Nat), 310 + d ≤ f → HgX12_block E f (grgX12_block d) := by
  intro d
  induction d with
  | zero => intro f hf; exact ⟨fun _ _ _ h => (by cases h), fun _ _ h => (by cases h), fun _ _ _ h => (by cases h), fun _ _ _ h => (by cases h)⟩
  | succ d ih => intro f hf; exact ⟨fun _ _ _ h => ctX12_block (by omega) (ih (f - 1) (by omega)) h, fun _ _ h => ctX12_statement (by omega) (ih (f - 1) (by omega)) h, fun _ _ _ h => ctX12_choose (by omega) (ih (f - 1) (by omega)) h, fun _ _ _ h => ctX12_whether (by omega) (ih (f - 1) (by omega)) h⟩
def mX12_blockr (x1 : Int32) (t : zS) : zR := (grgX12_block 300).1 x1 t
theorem ctX12_blockr {E : zE} {f : Nat} (hf : 610 ≤ f) {x1 : Int32} {t : zS} {ro : Int32 × zS} (h : mX12_blockr x1 t = some ro) : zM E shM f yX12_block cX12_block 5 (some .int) [.ref (za E 0), .int x1] t ro := z_hgX12_block (hrgX12_block 300 f (by omega)) h
def mX12_statementr (t : zS) : zR := (grgX12_block 300).2.1  t
theorem ctX12_statementr {E : zE} {f : Nat} (hf : 610 ≤ f) {t : zS} {ro : Int32 × zS} (h : mX12_statementr  t = some ro) : zM E shM f yX12_statement cX12_statement 2 (some .int) [.ref (za E 0)] t ro := z_hgX12_statement (hrgX12_block 300 f (by omega)) h
def mX12_chooser (x1 : Int32) (t : zS) : zR := (grgX12_block 300).2.2.1 x1 t
theorem ctX12_chooser {E : zE} {f : Nat} (hf : 610 ≤ f) {x1 : Int32} {t : zS} {ro : Int32 × zS} (h : mX12_chooser x1 t = some ro) : zM E shM f yX12_choose cX12_choose 5 (some .int) [.ref (za E 0), .int x1] t ro := z_hgX12_choose (hrgX12_block 300 f (by omega)) h
def mX12_whetherr (x1 : Int32) (t : zS) : zR := (grgX12_block 300).2.2.2 x1 t
theorem ctX12_whetherr {E : zE} {f : Nat} (hf : 610 ≤ f) {x1 : Int32} {t : zS} {ro : Int32 × zS} (h : mX12_whetherr x1 t = some ro) : zM E shM f yX12_whether cX12_whether 2 (some .int) [.ref (za E 0), .int x1] t ro := z_hgX12_whether (hrgX12_block 300 f (by omega)) h
-- SessionHouseModel.proc()V
theorem dX12_proc_0 : decode cX12_proc 0 = .ok (.aload_n 0, 1) := by decide +kernel
theorem dX12_proc_1 : decode cX12_proc 1 = .ok (.getfield 247, 3) := by decide +kernel
theorem dX12_proc_4 : decode cX12_proc 4 = .ok (.iconst 2, 1) := by decide +kernel
theorem dX12_proc_5 : decode cX12_proc 5 = .ok (.if_icmp .ne 10, 3) := by decide +kernel
theorem dX12_proc_8 : decode cX12_proc 8 = .ok (.aload_n 0, 1) := by decide +kernel
theorem dX12_proc_9 : decode cX12_proc 9 = .ok (.getfield 267, 3) := by decide +kernel
theorem dX12_proc_12 : decode cX12_proc 12 = .ok (.ifCond .lt 13, 3) := by decide +kernel
theorem dX12_proc_15 : decode cX12_proc 15 = .ok (.aload_n 0, 1) := by decide +kernel
theorem dX12_proc_16 : decode cX12_proc 16 = .ok (.aload_n 0, 1) := by decide +kernel
theorem dX12_proc_17 : decode cX12_proc 17 = .ok (.getfield 227, 3) := by decide +kernel
theorem dX12_proc_20 : decode cX12_proc 20 = .ok (.invokevirtual 270, 3) := by decide +kernel
theorem dX12_proc_23 : decode cX12_proc 23 = .ok (.istore_n 1, 1) := by decide +kernel
theorem dX12_proc_24 : decode cX12_proc 24 = .ok (.return_, 1) := by decide +kernel
theorem dX12_proc_25 : decode cX12_proc 25 = .ok (.iconst 0, 1) := by decide +kernel
theorem dX12_proc_26 : decode cX12_proc 26 = .ok (.istore_n 1, 1) := by decide +kernel
theorem dX12_proc_27 : decode cX12_proc 27 = .ok (.iload_n 1, 1) := by decide +kernel
theorem dX12_proc_28 : decode cX12_proc 28 = .ok (.aload_n 0, 1) := by decide +kernel
theorem dX12_proc_29 : decode cX12_proc 29 = .ok (.getfield 328, 3) := by decide +kernel
theorem dX12_proc_32 : decode cX12_proc 32 = .ok (.if_icmp .ge 44, 3) := by decide +kernel
theorem dX12_proc_35 : decode cX12_proc 35 = .ok (.aload_n 0, 1) := by decide +kernel
theorem dX12_proc_36 : decode cX12_proc 36 = .ok (.getfield 91, 3) := by decide +kernel
theorem dX12_proc_39 : decode cX12_proc 39 = .ok (.iload_n 1, 1) := by decide +kernel
theorem dX12_proc_40 : decode cX12_proc 40 = .ok (.iaload, 1) := by decide +kernel
theorem dX12_proc_41 : decode cX12_proc 41 = .ok (.aload_n 0, 1) := by decide +kernel
theorem dX12_proc_42 : decode cX12_proc 42 = .ok (.getfield 240, 3) := by decide +kernel
theorem dX12_proc_45 : decode cX12_proc 45 = .ok (.if_icmp .ne 25, 3) := by decide +kernel
theorem dX12_proc_48 : decode cX12_proc 48 = .ok (.aload_n 0, 1) := by decide +kernel
theorem dX12_proc_49 : decode cX12_proc 49 = .ok (.aload_n 0, 1) := by decide +kernel
theorem dX12_proc_50 : decode cX12_proc 50 = .ok (.getfield 267, 3) := by decide +kernel
theorem dX12_proc_53 : decode cX12_proc 53 = .ok (.ifCond .ge 10, 3) := by decide +kernel
theorem dX12_proc_56 : decode cX12_proc 56 = .ok (.aload_n 0, 1) := by decide +kernel
theorem dX12_proc_57 : decode cX12_proc 57 = .ok (.getfield 227, 3) := by decide +kernel
theorem dX12_proc_60 : decode cX12_proc 60 = .ok (.goto 7, 3) := by decide +kernel
theorem dX12_proc_63 : decode cX12_proc 63 = .ok (.aload_n 0, 1) := by decide +kernel
theorem dX12_proc_64 : decode cX12_proc 64 = .ok (.getfield 267, 3) := by decide +kernel
theorem dX12_proc_67 : decode cX12_proc 67 = .ok (.putfield 267, 3) := by decide +kernel
theorem dX12_proc_70 : decode cX12_proc 70 = .ok (.iinc 1 1, 3) := by decide +kernel
theorem dX12_proc_73 : decode cX12_proc 73 = .ok (.goto (-46), 3) := by decide +kernel
theorem dX12_proc_76 : decode cX12_proc 76 = .ok (.aload_n 0, 1) := by decide +kernel
theorem dX12_proc_77 : decode cX12_proc 77 = .ok (.getfield 267, 3) := by decide +kernel
theorem dX12_proc_80 : decode cX12_proc 80 = .ok (.ifCond .lt 4, 3) := by decide +kernel
theorem dX12_proc_83 : decode cX12_proc 83 = .ok (.return_, 1) := by decide +kernel
theorem dX12_proc_84 : decode cX12_proc 84 = .ok (.aload_n 0, 1) := by decide +kernel
theorem dX12_proc_85 : decode cX12_proc 85 = .ok (.aload_n 0, 1) := by decide +kernel
theorem dX12_proc_86 : decode cX12_proc 86 = .ok (.getfield 328, 3) := by decide +kernel
theorem dX12_proc_89 : decode cX12_proc 89 = .ok (.putfield 322, 3) := by decide +kernel
theorem dX12_proc_92 : decode cX12_proc 92 = .ok (.aload_n 0, 1) := by decide +kernel
theorem dX12_proc_93 : decode cX12_proc 93 = .ok (.getfield 91, 3) := by decide +kernel
theorem dX12_proc_96 : decode cX12_proc 96 = .ok (.aload_n 0, 1) := by decide +kernel
theorem dX12_proc_97 : decode cX12_proc 97 = .ok (.getfield 328, 3) := by decide +kernel
theorem dX12_proc_100 : decode cX12_proc 100 = .ok (.aload_n 0, 1) := by decide +kernel
theorem dX12_proc_101 : decode cX12_proc 101 = .ok (.getfield 240, 3) := by decide +kernel
theorem dX12_proc_104 : decode cX12_proc 104 = .ok (.iastore, 1) := by decide +kernel
theorem dX12_proc_105 : decode cX12_proc 105 = .ok (.aload_n 0, 1) := by decide +kernel
theorem dX12_proc_106 : decode cX12_proc 106 = .ok (.getfield 100, 3) := by decide +kernel
theorem dX12_proc_109 : decode cX12_proc 109 = .ok (.aload_n 0, 1) := by decide +kernel
theorem dX12_proc_110 : decode cX12_proc 110 = .ok (.getfield 328, 3) := by decide +kernel
theorem dX12_proc_113 : decode cX12_proc 113 = .ok (.iconst 1, 1) := by decide +kernel
theorem dX12_proc_114 : decode cX12_proc 114 = .ok (.iadd, 1) := by decide +kernel
theorem dX12_proc_115 : decode cX12_proc 115 = .ok (.aload_n 0, 1) := by decide +kernel
theorem dX12_proc_116 : decode cX12_proc 116 = .ok (.getfield 100, 3) := by decide +kernel
theorem dX12_proc_119 : decode cX12_proc 119 = .ok (.aload_n 0, 1) := by decide +kernel
theorem dX12_proc_120 : decode cX12_proc 120 = .ok (.getfield 328, 3) := by decide +kernel
theorem dX12_proc_123 : decode cX12_proc 123 = .ok (.iaload, 1) := by decide +kernel
theorem dX12_proc_124 : decode cX12_proc 124 = .ok (.iastore, 1) := by decide +kernel
theorem dX12_proc_125 : decode cX12_proc 125 = .ok (.aload_n 0, 1) := by decide +kernel
theorem dX12_proc_126 : decode cX12_proc 126 = .ok (.dup, 1) := by decide +kernel
theorem dX12_proc_127 : decode cX12_proc 127 = .ok (.getfield 328, 3) := by decide +kernel
theorem dX12_proc_130 : decode cX12_proc 130 = .ok (.iconst 1, 1) := by decide +kernel
theorem dX12_proc_131 : decode cX12_proc 131 = .ok (.iadd, 1) := by decide +kernel
theorem dX12_proc_132 : decode cX12_proc 132 = .ok (.putfield 328, 3) := by decide +kernel
theorem dX12_proc_135 : decode cX12_proc 135 = .ok (.aload_n 0, 1) := by decide +kernel
theorem dX12_proc_136 : decode cX12_proc 136 = .ok (.invokevirtual 273, 3) := by decide +kernel
theorem dX12_proc_139 : decode cX12_proc 139 = .ok (.aload_n 0, 1) := by decide +kernel
theorem dX12_proc_140 : decode cX12_proc 140 = .ok (.aload_n 0, 1) := by decide +kernel
theorem dX12_proc_141 : decode cX12_proc 141 = .ok (.bipush 40, 2) := by decide +kernel
theorem dX12_proc_143 : decode cX12_proc 143 = .ok (.invokevirtual 279, 3) := by decide +kernel
theorem dX12_proc_146 : decode cX12_proc 146 = .ok (.invokevirtual 299, 3) := by decide +kernel
theorem dX12_proc_149 : decode cX12_proc 149 = .ok (.ifCond .ne 4, 3) := by decide +kernel
theorem dX12_proc_152 : decode cX12_proc 152 = .ok (.return_, 1) := by decide +kernel
theorem dX12_proc_153 : decode cX12_proc 153 = .ok (.aload_n 0, 1) := by decide +kernel
theorem dX12_proc_154 : decode cX12_proc 154 = .ok (.bipush 41, 2) := by decide +kernel
theorem dX12_proc_156 : decode cX12_proc 156 = .ok (.invokevirtual 279, 3) := by decide +kernel
theorem dX12_proc_159 : decode cX12_proc 159 = .ok (.ifCond .ne 7, 3) := by decide +kernel
theorem dX12_proc_162 : decode cX12_proc 162 = .ok (.iconst 1, 1) := by decide +kernel
theorem dX12_proc_163 : decode cX12_proc 163 = .ok (.goto 4, 3) := by decide +kernel
theorem dX12_proc_166 : decode cX12_proc 166 = .ok (.iconst 0, 1) := by decide +kernel
theorem dX12_proc_167 : decode cX12_proc 167 = .ok (.istore_n 1, 1) := by decide +kernel
theorem dX12_proc_168 : decode cX12_proc 168 = .ok (.iload_n 1, 1) := by decide +kernel
theorem dX12_proc_169 : decode cX12_proc 169 = .ok (.ifCond .eq 135, 3) := by decide +kernel
theorem dX12_proc_172 : decode cX12_proc 172 = .ok (.aload_n 0, 1) := by decide +kernel
theorem dX12_proc_173 : decode cX12_proc 173 = .ok (.getfield 100, 3) := by decide +kernel
theorem dX12_proc_176 : decode cX12_proc 176 = .ok (.aload_n 0, 1) := by decide +kernel
theorem dX12_proc_177 : decode cX12_proc 177 = .ok (.getfield 322, 3) := by decide +kernel
theorem dX12_proc_180 : decode cX12_proc 180 = .ok (.iconst 1, 1) := by decide +kernel
theorem dX12_proc_181 : decode cX12_proc 181 = .ok (.iadd, 1) := by decide +kernel
theorem dX12_proc_182 : decode cX12_proc 182 = .ok (.iaload, 1) := by decide +kernel
theorem dX12_proc_183 : decode cX12_proc 183 = .ok (.istore_n 2, 1) := by decide +kernel
theorem dX12_proc_184 : decode cX12_proc 184 = .ok (.aload_n 0, 1) := by decide +kernel
theorem dX12_proc_185 : decode cX12_proc 185 = .ok (.getfield 227, 3) := by decide +kernel
theorem dX12_proc_188 : decode cX12_proc 188 = .ok (.istore_n 3, 1) := by decide +kernel
theorem dX12_proc_189 : decode cX12_proc 189 = .ok (.aload_n 0, 1) := by decide +kernel
theorem dX12_proc_190 : decode cX12_proc 190 = .ok (.invokevirtual 331, 3) := by decide +kernel
theorem dX12_proc_193 : decode cX12_proc 193 = .ok (.istore 4, 2) := by decide +kernel
theorem dX12_proc_195 : decode cX12_proc 195 = .ok (.iload 4, 2) := by decide +kernel
theorem dX12_proc_197 : decode cX12_proc 197 = .ok (.ifCond .ge 4, 3) := by decide +kernel
theorem dX12_proc_200 : decode cX12_proc 200 = .ok (.return_, 1) := by decide +kernel
theorem dX12_proc_201 : decode cX12_proc 201 = .ok (.aload_n 0, 1) := by decide +kernel
theorem dX12_proc_202 : decode cX12_proc 202 = .ok (.getfield 100, 3) := by decide +kernel
theorem dX12_proc_205 : decode cX12_proc 205 = .ok (.aload_n 0, 1) := by decide +kernel
theorem dX12_proc_206 : decode cX12_proc 206 = .ok (.getfield 322, 3) := by decide +kernel
theorem dX12_proc_209 : decode cX12_proc 209 = .ok (.iconst 1, 1) := by decide +kernel
theorem dX12_proc_210 : decode cX12_proc 210 = .ok (.iadd, 1) := by decide +kernel
theorem dX12_proc_211 : decode cX12_proc 211 = .ok (.iaload, 1) := by decide +kernel
theorem dX12_proc_212 : decode cX12_proc 212 = .ok (.iload_n 2, 1) := by decide +kernel
theorem dX12_proc_213 : decode cX12_proc 213 = .ok (.if_icmp .ne 9, 3) := by decide +kernel
theorem dX12_proc_216 : decode cX12_proc 216 = .ok (.aload_n 0, 1) := by decide +kernel
theorem dX12_proc_217 : decode cX12_proc 217 = .ok (.iload_n 3, 1) := by decide +kernel
theorem dX12_proc_218 : decode cX12_proc 218 = .ok (.putfield 267, 3) := by decide +kernel
theorem dX12_proc_221 : decode cX12_proc 221 = .ok (.return_, 1) := by decide +kernel
theorem dX12_proc_222 : decode cX12_proc 222 = .ok (.aload_n 0, 1) := by decide +kernel
theorem dX12_proc_223 : decode cX12_proc 223 = .ok (.getfield 109, 3) := by decide +kernel
theorem dX12_proc_226 : decode cX12_proc 226 = .ok (.aload_n 0, 1) := by decide +kernel
theorem dX12_proc_227 : decode cX12_proc 227 = .ok (.getfield 100, 3) := by decide +kernel
theorem dX12_proc_230 : decode cX12_proc 230 = .ok (.aload_n 0, 1) := by decide +kernel
theorem dX12_proc_231 : decode cX12_proc 231 = .ok (.getfield 322, 3) := by decide +kernel
theorem dX12_proc_234 : decode cX12_proc 234 = .ok (.iaload, 1) := by decide +kernel
theorem dX12_proc_235 : decode cX12_proc 235 = .ok (.iload 4, 2) := by decide +kernel
theorem dX12_proc_237 : decode cX12_proc 237 = .ok (.iadd, 1) := by decide +kernel
theorem dX12_proc_238 : decode cX12_proc 238 = .ok (.iconst (-1), 1) := by decide +kernel
theorem dX12_proc_239 : decode cX12_proc 239 = .ok (.iastore, 1) := by decide +kernel
theorem dX12_proc_240 : decode cX12_proc 240 = .ok (.aload_n 0, 1) := by decide +kernel
theorem dX12_proc_241 : decode cX12_proc 241 = .ok (.bipush 58, 2) := by decide +kernel
theorem dX12_proc_243 : decode cX12_proc 243 = .ok (.invokevirtual 279, 3) := by decide +kernel
theorem dX12_proc_246 : decode cX12_proc 246 = .ok (.ifCond .eq 40, 3) := by decide +kernel
theorem dX12_proc_249 : decode cX12_proc 249 = .ok (.aload_n 0, 1) := by decide +kernel
theorem dX12_proc_250 : decode cX12_proc 250 = .ok (.invokevirtual 273, 3) := by decide +kernel
theorem dX12_proc_253 : decode cX12_proc 253 = .ok (.aload_n 0, 1) := by decide +kernel
theorem dX12_proc_254 : decode cX12_proc 254 = .ok (.invokevirtual 302, 3) := by decide +kernel
theorem dX12_proc_257 : decode cX12_proc 257 = .ok (.istore 5, 2) := by decide +kernel
theorem dX12_proc_259 : decode cX12_proc 259 = .ok (.aload_n 0, 1) := by decide +kernel
theorem dX12_proc_260 : decode cX12_proc 260 = .ok (.getfield 267, 3) := by decide +kernel
theorem dX12_proc_263 : decode cX12_proc 263 = .ok (.ifCond .lt 4, 3) := by decide +kernel
theorem dX12_proc_266 : decode cX12_proc 266 = .ok (.return_, 1) := by decide +kernel
theorem dX12_proc_267 : decode cX12_proc 267 = .ok (.aload_n 0, 1) := by decide +kernel
theorem dX12_proc_268 : decode cX12_proc 268 = .ok (.getfield 109, 3) := by decide +kernel
theorem dX12_proc_271 : decode cX12_proc 271 = .ok (.aload_n 0, 1) := by decide +kernel
theorem dX12_proc_272 : decode cX12_proc 272 = .ok (.getfield 100, 3) := by decide +kernel
theorem dX12_proc_275 : decode cX12_proc 275 = .ok (.aload_n 0, 1) := by decide +kernel
theorem dX12_proc_276 : decode cX12_proc 276 = .ok (.getfield 322, 3) := by decide +kernel
theorem dX12_proc_279 : decode cX12_proc 279 = .ok (.iaload, 1) := by decide +kernel
theorem dX12_proc_280 : decode cX12_proc 280 = .ok (.iload 4, 2) := by decide +kernel
theorem dX12_proc_282 : decode cX12_proc 282 = .ok (.iadd, 1) := by decide +kernel
theorem dX12_proc_283 : decode cX12_proc 283 = .ok (.iload 5, 2) := by decide +kernel
theorem dX12_proc_285 : decode cX12_proc 285 = .ok (.iastore, 1) := by decide +kernel
theorem dX12_proc_286 : decode cX12_proc 286 = .ok (.aload_n 0, 1) := by decide +kernel
theorem dX12_proc_287 : decode cX12_proc 287 = .ok (.bipush 44, 2) := by decide +kernel
theorem dX12_proc_289 : decode cX12_proc 289 = .ok (.invokevirtual 279, 3) := by decide +kernel
theorem dX12_proc_292 : decode cX12_proc 292 = .ok (.istore_n 1, 1) := by decide +kernel
theorem dX12_proc_293 : decode cX12_proc 293 = .ok (.iload_n 1, 1) := by decide +kernel
theorem dX12_proc_294 : decode cX12_proc 294 = .ok (.ifCond .eq 7, 3) := by decide +kernel
theorem dX12_proc_297 : decode cX12_proc 297 = .ok (.aload_n 0, 1) := by decide +kernel
theorem dX12_proc_298 : decode cX12_proc 298 = .ok (.invokevirtual 273, 3) := by decide +kernel
theorem dX12_proc_301 : decode cX12_proc 301 = .ok (.goto (-133), 3) := by decide +kernel
theorem dX12_proc_304 : decode cX12_proc 304 = .ok (.aload_n 0, 1) := by decide +kernel
theorem dX12_proc_305 : decode cX12_proc 305 = .ok (.getfield 103, 3) := by decide +kernel
theorem dX12_proc_308 : decode cX12_proc 308 = .ok (.aload_n 0, 1) := by decide +kernel
theorem dX12_proc_309 : decode cX12_proc 309 = .ok (.getfield 322, 3) := by decide +kernel
theorem dX12_proc_312 : decode cX12_proc 312 = .ok (.aload_n 0, 1) := by decide +kernel
theorem dX12_proc_313 : decode cX12_proc 313 = .ok (.getfield 100, 3) := by decide +kernel
theorem dX12_proc_316 : decode cX12_proc 316 = .ok (.aload_n 0, 1) := by decide +kernel
theorem dX12_proc_317 : decode cX12_proc 317 = .ok (.getfield 322, 3) := by decide +kernel
theorem dX12_proc_320 : decode cX12_proc 320 = .ok (.iconst 1, 1) := by decide +kernel
theorem dX12_proc_321 : decode cX12_proc 321 = .ok (.iadd, 1) := by decide +kernel
theorem dX12_proc_322 : decode cX12_proc 322 = .ok (.iaload, 1) := by decide +kernel
theorem dX12_proc_323 : decode cX12_proc 323 = .ok (.aload_n 0, 1) := by decide +kernel
theorem dX12_proc_324 : decode cX12_proc 324 = .ok (.getfield 100, 3) := by decide +kernel
theorem dX12_proc_327 : decode cX12_proc 327 = .ok (.aload_n 0, 1) := by decide +kernel
theorem dX12_proc_328 : decode cX12_proc 328 = .ok (.getfield 322, 3) := by decide +kernel
theorem dX12_proc_331 : decode cX12_proc 331 = .ok (.iaload, 1) := by decide +kernel
theorem dX12_proc_332 : decode cX12_proc 332 = .ok (.isub, 1) := by decide +kernel
theorem dX12_proc_333 : decode cX12_proc 333 = .ok (.iastore, 1) := by decide +kernel
theorem dX12_proc_334 : decode cX12_proc 334 = .ok (.aload_n 0, 1) := by decide +kernel
theorem dX12_proc_335 : decode cX12_proc 335 = .ok (.bipush 41, 2) := by decide +kernel
theorem dX12_proc_337 : decode cX12_proc 337 = .ok (.invokevirtual 305, 3) := by decide +kernel
theorem dX12_proc_340 : decode cX12_proc 340 = .ok (.aload_n 0, 1) := by decide +kernel
theorem dX12_proc_341 : decode cX12_proc 341 = .ok (.getfield 94, 3) := by decide +kernel
theorem dX12_proc_344 : decode cX12_proc 344 = .ok (.aload_n 0, 1) := by decide +kernel
theorem dX12_proc_345 : decode cX12_proc 345 = .ok (.getfield 322, 3) := by decide +kernel
theorem dX12_proc_348 : decode cX12_proc 348 = .ok (.aload_n 0, 1) := by decide +kernel
theorem dX12_proc_349 : decode cX12_proc 349 = .ok (.iconst (-1), 1) := by decide +kernel
theorem dX12_proc_350 : decode cX12_proc 350 = .ok (.invokevirtual 334, 3) := by decide +kernel
theorem dX12_proc_353 : decode cX12_proc 353 = .ok (.iastore, 1) := by decide +kernel
theorem dX12_proc_354 : decode cX12_proc 354 = .ok (.return_, 1) := by decide +kernel
def bX12_proc_15 (t : zS) : zR := zbd (mX12_fails (t 0 6) t) fun r3318 t3319 => some (0, t3319)
def bX12_proc_70 (k27 : Int32 → zS → zR) (x1 : Int32) (t : zS) : zR := zlet (x1 + 1) fun v3321 => k27 v3321 t
def bX12_proc_67 (k27 : Int32 → zS → zR) (x1 : Int32) (y0 : Int32) (t : zS) : zR := zpt t 0 9 y0 fun t3322 => bX12_proc_70 k27 x1 t3322
def bX12_proc_301 (k168 : Int32 → zS → zR) (x1 : Int32) (t : zS) : zR := k168 x1 t
def bX12_proc_286 (k168 : Int32 → zS → zR) (t : zS) : zR := zbd (mX12_isSign 44 t) fun r3323 t3324 => if r3323 = 0 then bX12_proc_301 k168 r3323 t3324 else zbd (mX12_next  t3324) fun r3326 t3327 => bX12_proc_301 k168 r3323 t3327
def bX12_proc_168 (k168 : Int32 → zS → zR) (x1 : Int32) (t : zS) : zR := if x1 = 0 then zrd t 31 301 ((t 0 60) + 1) fun v3329 => zrd t 31 301 (t 0 60) fun v3331 => zwr t 32 300 (t 0 60) (v3329 - v3331) fun t3334 => zbd (mX12_closes 41 t3334) fun r3335 t3336 => zbd (mX12_blockr (-1) t3336) fun r3338 t3339 => zwr t3339 29 300 (t3336 0 60) r3338 fun t3342 => some (0, t3342) else zrd t 31 301 ((t 0 60) + 1) fun v3343 => zlet (t 0 6) fun v3345 => zbd (mX12_own  t) fun r3346 t3347 => if 0 ≤ r3346 then zrd t3347 31 301 ((t3347 0 60) + 1) fun v3349 => if v3349 = v3343 then zpt t3347 0 9 v3345 fun t3368 => some (0, t3368) else zrd t3347 31 301 (t3347 0 60) fun v3351 => zwr t3347 34 3000 (v3351 + r3346) (-1) fun t3354 => zbd (mX12_isSign 58 t3354) fun r3355 t3356 => if r3355 = 0 then bX12_proc_286 k168  t3356 else zbd (mX12_next  t3356) fun r3358 t3359 => zbd (mX12_typer  t3359) fun r3361 t3362 => if (t3362 0 9) < 0 then zrd t3362 31 301 (t3362 0 60) fun v3364 => zwr t3362 34 3000 (v3364 + r3346) r3361 fun t3367 => bX12_proc_286 k168  t3367 else some (0, t3362) else some (0, t3347)
def lX12_proc_168 : Nat → Int32 → zS → zR
  | 0, _, _ => none
  | fu + 1, x1, t => bX12_proc_168 (lX12_proc_168  fu) x1 t
def bX12_proc_167 (y0 : Int32) (t : zS) : zR := lX12_proc_168  zFU y0 t
def bX12_proc_27 (k27 : Int32 → zS → zR) (x1 : Int32) (t : zS) : zR := if (t 0 44) ≤ x1 then if (t 0 9) < 0 then zpt t 0 60 (t 0 44) fun t3369 => zwr t3369 28 300 (t3369 0 44) (t3369 0 8) fun t3371 => zrd t3371 31 301 (t3371 0 44) fun v3372 => zwr t3371 31 301 ((t3371 0 44) + 1) v3372 fun t3375 => zpt t3375 0 44 ((t3375 0 44) + 1) fun t3376 => zbd (mX12_next  t3376) fun r3377 t3378 => zbd (mX12_isSign 40 t3378) fun r3380 t3381 => zbd (mX12_opens r3380 t3381) fun r3383 t3384 => if r3383 = 0 then some (0, t3384) else zbd (mX12_isSign 41 t3384) fun r3386 t3387 => if r3386 = 0 then bX12_proc_167  1 t3387 else bX12_proc_167  0 t3387 else some (0, t) else zrd t 28 300 x1 fun v3389 => if v3389 = (t 0 8) then if 0 ≤ (t 0 9) then bX12_proc_67 k27 x1 (t 0 9) t else bX12_proc_67 k27 x1 (t 0 6) t else bX12_proc_70 k27 x1 t
def lX12_proc_27 : Nat → Int32 → zS → zR
  | 0, _, _ => none
  | fu + 1, x1, t => bX12_proc_27 (lX12_proc_27  fu) x1 t
def mX12_proc (t : zS) : zR := if (t 0 5) = 2 then if (t 0 9) < 0 then lX12_proc_27  zFU 0 t else bX12_proc_15   t else bX12_proc_15   t
set_option maxHeartbeats 4000000 in
set_option maxRecDepth 20000 in
theorem wbX12_proc_15 {E : zE} {C : zC} {f : Nat} {ro : Int32 × zS} (hf : 611 ≤ f) (t : zS) (hF : bX12_proc_15   t = some ro) : zJ E shM C cX12_proc RX12 6 f none ro t 15 [(0, .ref (za E 0))] [] := by
  unfold bX12_proc_15 at hF
  refine z_aload_n 0 dX12_proc_15 rfl rfl ?_
  refine z_aload_n 0 dX12_proc_16 rfl rfl ?_
  refine z_geti fi_RX12_227 dX12_proc_17 ?_
  obtain ⟨r3318, t3319, hc3320, hF⟩ := zbd_at hF
  refine z_callVi (ctX12_fails (E := E) (f := f - 1) (by omega) hc3320) yy_X12_fails yv_X12_fails ob_M_0 lk_RX12_270 (by omega) rfl rfl (Nat.le_of_ble_eq_true rfl) dX12_proc_20 ?_
  refine z_istore_n (lv' := [(1, .int r3318), (0, .ref (za E 0))]) dX12_proc_23 rfl (by decide) rfl ?_
  exact z_vret hF dX12_proc_24
set_option maxHeartbeats 4000000 in
set_option maxRecDepth 20000 in
theorem wbX12_proc_70 {E : zE} {C : zC} {f : Nat} {ro : Int32 × zS} (hf : 611 ≤ f) (k27 : Int32 → zS → zR) (hk27 : ∀ (x1 : Int32) (t : zS), k27 x1 t = some ro → zJ E shM C cX12_proc RX12 6 f none ro t 27 [(0, .ref (za E 0)), (1, .int x1)] []) (x1 : Int32) (t : zS) (hF : bX12_proc_70 k27 x1 t = some ro) : zJ E shM C cX12_proc RX12 6 f none ro t 70 [(0, .ref (za E 0)), (1, .int x1)] [] := by
  unfold bX12_proc_70 at hF
  obtain ⟨v3321, ev3321⟩ : ∃ y : Int32, y = (x1 + 1) := ⟨_, rfl⟩
  have hF := zlet_at ev3321 hF
  refine z_iinc (v := v3321) (lv' := [(1, .int v3321), (0, .ref (za E 0))]) (k := 1) dX12_proc_70 rfl (by rw [ev3321]; rfl) (by decide) rfl ?_
  refine z_goto (tgt := 27) dX12_proc_73 (by decide) ?_
  refine z_sub [1, 0] rfl ?_
  exact hk27 v3321 _ hF
set_option maxHeartbeats 4000000 in
set_option maxRecDepth 20000 in
theorem wbX12_proc_67 {E : zE} {C : zC} {f : Nat} {ro : Int32 × zS} (hf : 611 ≤ f) (k27 : Int32 → zS → zR) (hk27 : ∀ (x1 : Int32) (t : zS), k27 x1 t = some ro → zJ E shM C cX12_proc RX12 6 f none ro t 27 [(0, .ref (za E 0)), (1, .int x1)] []) (x1 : Int32) (y0 : Int32) (t : zS) (hF : bX12_proc_67 k27 x1 y0 t = some ro) : zJ E shM C cX12_proc RX12 6 f none ro t 67 [(0, .ref (za E 0)), (1, .int x1)] [.int y0, .ref (za E 0)] := by
  unfold bX12_proc_67 at hF
  refine z_puti fw_RX12_267 dX12_proc_67 (fun t3322 et3322 => ?_)
  have hF := zpt_at hF t3322 et3322
  exact wbX12_proc_70 hf k27 hk27 x1 _ hF
set_option maxHeartbeats 4000000 in
set_option maxRecDepth 20000 in
theorem wbX12_proc_301 {E : zE} {C : zC} {f : Nat} {ro : Int32 × zS} (hf : 611 ≤ f) (k168 : Int32 → zS → zR) (hk168 : ∀ (x1 : Int32) (t : zS), k168 x1 t = some ro → zJ E shM C cX12_proc RX12 6 f none ro t 168 [(0, .ref (za E 0)), (1, .int x1)] []) (x1 : Int32) (t : zS) (hF : bX12_proc_301 k168 x1 t = some ro) : zJ E shM C cX12_proc RX12 6 f none ro t 301 [(0, .ref (za E 0)), (1, .int x1)] [] := by
  unfold bX12_proc_301 at hF
  refine z_goto (tgt := 168) dX12_proc_301 (by decide) ?_
  exact hk168 x1 _ hF
set_option maxHeartbeats 4000000 in
set_option maxRecDepth 20000 in
theorem wbX12_proc_286 {E : zE} {C : zC} {f : Nat} {ro : Int32 × zS} (hf : 611 ≤ f) (k168 : Int32 → zS → zR) (hk168 : ∀ (x1 : Int32) (t : zS), k168 x1 t = some ro → zJ E shM C cX12_proc RX12 6 f none ro t 168 [(0, .ref (za E 0)), (1, .int x1)] []) (t : zS) (hF : bX12_proc_286 k168  t = some ro) : zJ E shM C cX12_proc RX12 6 f none ro t 286 [(0, .ref (za E 0))] [] := by
  unfold bX12_proc_286 at hF
  refine z_aload_n 0 dX12_proc_286 rfl rfl ?_
  refine z_bipush (v := 44) dX12_proc_287 (by decide) ?_
  obtain ⟨r3323, t3324, hc3325, hF⟩ := zbd_at hF
  refine z_callVi (ctX12_isSign (E := E) (f := f - 1) (by omega) hc3325) yy_X12_isSign yv_X12_isSign ob_M_0 lk_RX12_279 (by omega) rfl rfl (Nat.le_of_ble_eq_true rfl) dX12_proc_289 ?_
  refine z_istore_n (lv' := [(1, .int r3323), (0, .ref (za E 0))]) dX12_proc_292 rfl (by decide) rfl ?_
  refine z_iload_n 0 dX12_proc_293 rfl rfl ?_
  refine z_if_eq (tgt := 301) dX12_proc_294 (by decide) (fun hc => ?_) (fun hc => ?_)
  · have hF := zif_t hc hF
    refine z_sub [1, 0] rfl ?_
    exact wbX12_proc_301 hf k168 hk168 r3323 _ hF
  · have hF := zif_f hc hF
    refine z_aload_n 1 dX12_proc_297 rfl rfl ?_
    obtain ⟨r3326, t3327, hc3328, hF⟩ := zbd_at hF
    refine z_callVv (ctX12_next (E := E) (f := f - 1) (by omega) hc3328) yy_X12_next yv_X12_next ob_M_0 lk_RX12_273 (by omega) rfl rfl (Nat.le_of_ble_eq_true rfl) dX12_proc_298 ?_
    refine z_sub [1, 0] rfl ?_
    exact wbX12_proc_301 hf k168 hk168 r3323 _ hF
set_option maxHeartbeats 4000000 in
set_option maxRecDepth 20000 in
theorem wbX12_proc_168 {E : zE} {C : zC} {f : Nat} {ro : Int32 × zS} (hf : 611 ≤ f) (k168 : Int32 → zS → zR) (hk168 : ∀ (x1 : Int32) (t : zS), k168 x1 t = some ro → zJ E shM C cX12_proc RX12 6 f none ro t 168 [(0, .ref (za E 0)), (1, .int x1)] []) (x1 : Int32) (t : zS) (hF : bX12_proc_168 k168 x1 t = some ro) : zJ E shM C cX12_proc RX12 6 f none ro t 168 [(0, .ref (za E 0)), (1, .int x1)] [] := by
  unfold bX12_proc_168 at hF
  refine z_iload_n 1 dX12_proc_168 rfl rfl ?_
  refine z_if_eq (tgt := 304) dX12_proc_169 (by decide) (fun hc => ?_) (fun hc => ?_)
  · have hF := zif_t hc hF
    refine z_aload_n 0 dX12_proc_304 rfl rfl ?_
    refine z_getr fr_RX12_103 dX12_proc_305 ?_
    refine z_aload_n 0 dX12_proc_308 rfl rfl ?_
    refine z_geti fi_RX12_322 dX12_proc_309 ?_
    refine z_aload_n 0 dX12_proc_312 rfl rfl ?_
    refine z_getr fr_RX12_100 dX12_proc_313 ?_
    refine z_aload_n 0 dX12_proc_316 rfl rfl ?_
    refine z_geti fi_RX12_322 dX12_proc_317 ?_
    refine z_iconst (v := 1) dX12_proc_320 (by decide) ?_
    refine z_iadd dX12_proc_321 ?_
    obtain ⟨hi3330, hF⟩ := zrd_at hF
    refine z_iald (n := 301) rfl hi3330 dX12_proc_322 ?_
    generalize t 31 (Int32.toNatClampNeg ((t 0 60) + 1)) = v3329 at hF ⊢
    refine z_aload_n 0 dX12_proc_323 rfl rfl ?_
    refine z_getr fr_RX12_100 dX12_proc_324 ?_
    refine z_aload_n 0 dX12_proc_327 rfl rfl ?_
    refine z_geti fi_RX12_322 dX12_proc_328 ?_
    obtain ⟨hi3332, hF⟩ := zrd_at hF
    refine z_iald (n := 301) rfl hi3332 dX12_proc_331 ?_
    generalize t 31 (Int32.toNatClampNeg (t 0 60)) = v3331 at hF ⊢
    refine z_isub dX12_proc_332 ?_
    obtain ⟨hi3333, hF⟩ := zwr_at hF
    refine z_iast (n := 300) rfl hi3333 dX12_proc_333 (fun t3334 et3334 => ?_)
    have hF := hF t3334 et3334
    refine z_aload_n 0 dX12_proc_334 rfl rfl ?_
    refine z_bipush (v := 41) dX12_proc_335 (by decide) ?_
    obtain ⟨r3335, t3336, hc3337, hF⟩ := zbd_at hF
    refine z_callVv (ctX12_closes (E := E) (f := f - 1) (by omega) hc3337) yy_X12_closes yv_X12_closes ob_M_0 lk_RX12_305 (by omega) rfl rfl (Nat.le_of_ble_eq_true rfl) dX12_proc_337 ?_
    refine z_aload_n 0 dX12_proc_340 rfl rfl ?_
    refine z_getr fr_RX12_94 dX12_proc_341 ?_
    refine z_aload_n 0 dX12_proc_344 rfl rfl ?_
    refine z_geti fi_RX12_322 dX12_proc_345 ?_
    refine z_aload_n 0 dX12_proc_348 rfl rfl ?_
    refine z_iconst (v := (-1)) dX12_proc_349 (by decide) ?_
    obtain ⟨r3338, t3339, hc3340, hF⟩ := zbd_at hF
    refine z_callVi (ctX12_blockr (E := E) (f := f - 1) (by omega) hc3340) yy_X12_block yv_X12_block ob_M_0 lk_RX12_334 (by omega) rfl rfl (Nat.le_of_ble_eq_true rfl) dX12_proc_350 ?_
    obtain ⟨hi3341, hF⟩ := zwr_at hF
    refine z_iast (n := 300) rfl hi3341 dX12_proc_353 (fun t3342 et3342 => ?_)
    have hF := hF t3342 et3342
    exact z_vret hF dX12_proc_354
  · have hF := zif_f hc hF
    refine z_aload_n 0 dX12_proc_172 rfl rfl ?_
    refine z_getr fr_RX12_100 dX12_proc_173 ?_
    refine z_aload_n 0 dX12_proc_176 rfl rfl ?_
    refine z_geti fi_RX12_322 dX12_proc_177 ?_
    refine z_iconst (v := 1) dX12_proc_180 (by decide) ?_
    refine z_iadd dX12_proc_181 ?_
    obtain ⟨hi3344, hF⟩ := zrd_at hF
    refine z_iald (n := 301) rfl hi3344 dX12_proc_182 ?_
    generalize t 31 (Int32.toNatClampNeg ((t 0 60) + 1)) = v3343 at hF ⊢
    refine z_istore_n (lv' := [(2, .int v3343), (0, .ref (za E 0)), (1, .int x1)]) dX12_proc_183 rfl (by decide) rfl ?_
    refine z_aload_n 1 dX12_proc_184 rfl rfl ?_
    refine z_geti fi_RX12_227 dX12_proc_185 ?_
    refine z_topi (fun v3345 ev3345 => ?_)
    have hF := zlet_at ev3345 hF
    refine z_istore_n (lv' := [(3, .int v3345), (2, .int v3343), (0, .ref (za E 0)), (1, .int x1)]) dX12_proc_188 rfl (by decide) rfl ?_
    refine z_aload_n 2 dX12_proc_189 rfl rfl ?_
    obtain ⟨r3346, t3347, hc3348, hF⟩ := zbd_at hF
    refine z_callVi (ctX12_own (E := E) (f := f - 1) (by omega) hc3348) yy_X12_own yv_X12_own ob_M_0 lk_RX12_331 (by omega) rfl rfl (Nat.le_of_ble_eq_true rfl) dX12_proc_190 ?_
    refine z_istore (lv' := [(4, .int r3346), (3, .int v3345), (2, .int v3343), (0, .ref (za E 0)), (1, .int x1)]) dX12_proc_193 (by decide) rfl ?_
    refine z_iload 0 dX12_proc_195 rfl ?_
    refine z_if_ge (tgt := 201) dX12_proc_197 (by decide) (fun hc => ?_) (fun hc => ?_)
    · have hF := zif_t hc hF
      refine z_aload_n 3 dX12_proc_201 rfl rfl ?_
      refine z_getr fr_RX12_100 dX12_proc_202 ?_
      refine z_aload_n 3 dX12_proc_205 rfl rfl ?_
      refine z_geti fi_RX12_322 dX12_proc_206 ?_
      refine z_iconst (v := 1) dX12_proc_209 (by decide) ?_
      refine z_iadd dX12_proc_210 ?_
      obtain ⟨hi3350, hF⟩ := zrd_at hF
      refine z_iald (n := 301) rfl hi3350 dX12_proc_211 ?_
      generalize t3347 31 (Int32.toNatClampNeg ((t3347 0 60) + 1)) = v3349 at hF ⊢
      refine z_iload_n 2 dX12_proc_212 rfl rfl ?_
      refine z_icmp_ne (tgt := 222) dX12_proc_213 (by decide) (fun hc => ?_) (fun hc => ?_)
      · have hF := zif_f hc hF
        refine z_aload_n 3 dX12_proc_222 rfl rfl ?_
        refine z_getr fr_RX12_109 dX12_proc_223 ?_
        refine z_aload_n 3 dX12_proc_226 rfl rfl ?_
        refine z_getr fr_RX12_100 dX12_proc_227 ?_
        refine z_aload_n 3 dX12_proc_230 rfl rfl ?_
        refine z_geti fi_RX12_322 dX12_proc_231 ?_
        obtain ⟨hi3352, hF⟩ := zrd_at hF
        refine z_iald (n := 301) rfl hi3352 dX12_proc_234 ?_
        generalize t3347 31 (Int32.toNatClampNeg (t3347 0 60)) = v3351 at hF ⊢
        refine z_iload 0 dX12_proc_235 rfl ?_
        refine z_iadd dX12_proc_237 ?_
        refine z_iconst (v := (-1)) dX12_proc_238 (by decide) ?_
        obtain ⟨hi3353, hF⟩ := zwr_at hF
        refine z_iast (n := 3000) rfl hi3353 dX12_proc_239 (fun t3354 et3354 => ?_)
        have hF := hF t3354 et3354
        refine z_aload_n 3 dX12_proc_240 rfl rfl ?_
        refine z_bipush (v := 58) dX12_proc_241 (by decide) ?_
        obtain ⟨r3355, t3356, hc3357, hF⟩ := zbd_at hF
        refine z_callVi (ctX12_isSign (E := E) (f := f - 1) (by omega) hc3357) yy_X12_isSign yv_X12_isSign ob_M_0 lk_RX12_279 (by omega) rfl rfl (Nat.le_of_ble_eq_true rfl) dX12_proc_243 ?_
        refine z_if_eq (tgt := 286) dX12_proc_246 (by decide) (fun hc => ?_) (fun hc => ?_)
        · have hF := zif_t hc hF
          refine z_sub [3] rfl ?_
          exact wbX12_proc_286 hf k168 hk168  _ hF
        · have hF := zif_f hc hF
          refine z_aload_n 3 dX12_proc_249 rfl rfl ?_
          obtain ⟨r3358, t3359, hc3360, hF⟩ := zbd_at hF
          refine z_callVv (ctX12_next (E := E) (f := f - 1) (by omega) hc3360) yy_X12_next yv_X12_next ob_M_0 lk_RX12_273 (by omega) rfl rfl (Nat.le_of_ble_eq_true rfl) dX12_proc_250 ?_
          refine z_aload_n 3 dX12_proc_253 rfl rfl ?_
          obtain ⟨r3361, t3362, hc3363, hF⟩ := zbd_at hF
          refine z_callVi (ctX12_typer (E := E) (f := f - 1) (by omega) hc3363) yy_X12_type yv_X12_type ob_M_0 lk_RX12_302 (by omega) rfl rfl (Nat.le_of_ble_eq_true rfl) dX12_proc_254 ?_
          refine z_istore (lv' := [(5, .int r3361), (4, .int r3346), (3, .int v3345), (2, .int v3343), (0, .ref (za E 0)), (1, .int x1)]) dX12_proc_257 (by decide) rfl ?_
          refine z_aload_n 4 dX12_proc_259 rfl rfl ?_
          refine z_geti fi_RX12_267 dX12_proc_260 ?_
          refine z_if_lt (tgt := 267) dX12_proc_263 (by decide) (fun hc => ?_) (fun hc => ?_)
          · have hF := zif_t hc hF
            refine z_aload_n 4 dX12_proc_267 rfl rfl ?_
            refine z_getr fr_RX12_109 dX12_proc_268 ?_
            refine z_aload_n 4 dX12_proc_271 rfl rfl ?_
            refine z_getr fr_RX12_100 dX12_proc_272 ?_
            refine z_aload_n 4 dX12_proc_275 rfl rfl ?_
            refine z_geti fi_RX12_322 dX12_proc_276 ?_
            obtain ⟨hi3365, hF⟩ := zrd_at hF
            refine z_iald (n := 301) rfl hi3365 dX12_proc_279 ?_
            generalize t3362 31 (Int32.toNatClampNeg (t3362 0 60)) = v3364 at hF ⊢
            refine z_iload 1 dX12_proc_280 rfl ?_
            refine z_iadd dX12_proc_282 ?_
            refine z_iload 0 dX12_proc_283 rfl ?_
            obtain ⟨hi3366, hF⟩ := zwr_at hF
            refine z_iast (n := 3000) rfl hi3366 dX12_proc_285 (fun t3367 et3367 => ?_)
            have hF := hF t3367 et3367
            refine z_sub [4] rfl ?_
            exact wbX12_proc_286 hf k168 hk168  _ hF
          · have hF := zif_f hc hF
            exact z_vret hF dX12_proc_266
      · have hF := zif_t hc hF
        refine z_aload_n 3 dX12_proc_216 rfl rfl ?_
        refine z_iload_n 1 dX12_proc_217 rfl rfl ?_
        refine z_puti fw_RX12_267 dX12_proc_218 (fun t3368 et3368 => ?_)
        have hF := zpt_at hF t3368 et3368
        exact z_vret hF dX12_proc_221
    · have hF := zif_f hc hF
      exact z_vret hF dX12_proc_200
set_option maxHeartbeats 4000000 in
set_option maxRecDepth 20000 in
theorem wlX12_proc_168 {E : zE} {C : zC} {f : Nat} {ro : Int32 × zS} (hf : 611 ≤ f) (fu : Nat) : ∀ (x1 : Int32) (t : zS), lX12_proc_168  fu x1 t = some ro → zJ E shM C cX12_proc RX12 6 f none ro t 168 [(0, .ref (za E 0)), (1, .int x1)] [] := by
  induction fu with
  | zero => intro x1 t hF; cases hF
  | succ fu ih => intro x1 t hF; exact wbX12_proc_168 hf (lX12_proc_168  fu) ih x1 t hF
set_option maxHeartbeats 4000000 in
set_option maxRecDepth 20000 in
theorem wbX12_proc_167 {E : zE} {C : zC} {f : Nat} {ro : Int32 × zS} (hf : 611 ≤ f) (y0 : Int32) (t : zS) (hF : bX12_proc_167  y0 t = some ro) : zJ E shM C cX12_proc RX12 6 f none ro t 167 [(0, .ref (za E 0))] [.int y0] := by
  unfold bX12_proc_167 at hF
  refine z_istore_n (lv' := [(1, .int y0), (0, .ref (za E 0))]) dX12_proc_167 rfl (by decide) rfl ?_
  refine z_sub [1, 0] rfl ?_
  exact wlX12_proc_168 hf  zFU y0 _ hF
set_option maxHeartbeats 4000000 in
set_option maxRecDepth 20000 in
theorem wbX12_proc_27 {E : zE} {C : zC} {f : Nat} {ro : Int32 × zS} (hf : 611 ≤ f) (k27 : Int32 → zS → zR) (hk27 : ∀ (x1 : Int32) (t : zS), k27 x1 t = some ro → zJ E shM C cX12_proc RX12 6 f none ro t 27 [(0, .ref (za E 0)), (1, .int x1)] []) (x1 : Int32) (t : zS) (hF : bX12_proc_27 k27 x1 t = some ro) : zJ E shM C cX12_proc RX12 6 f none ro t 27 [(0, .ref (za E 0)), (1, .int x1)] [] := by
  unfold bX12_proc_27 at hF
  refine z_iload_n 1 dX12_proc_27 rfl rfl ?_
  refine z_aload_n 0 dX12_proc_28 rfl rfl ?_
  refine z_geti fi_RX12_328 dX12_proc_29 ?_
  refine z_icmp_ge (tgt := 76) dX12_proc_32 (by decide) (fun hc => ?_) (fun hc => ?_)
  · have hF := zif_t hc hF
    refine z_aload_n 0 dX12_proc_76 rfl rfl ?_
    refine z_geti fi_RX12_267 dX12_proc_77 ?_
    refine z_if_lt (tgt := 84) dX12_proc_80 (by decide) (fun hc => ?_) (fun hc => ?_)
    · have hF := zif_t hc hF
      refine z_aload_n 0 dX12_proc_84 rfl rfl ?_
      refine z_aload_n 0 dX12_proc_85 rfl rfl ?_
      refine z_geti fi_RX12_328 dX12_proc_86 ?_
      refine z_puti fw_RX12_322 dX12_proc_89 (fun t3369 et3369 => ?_)
      have hF := zpt_at hF t3369 et3369
      refine z_aload_n 0 dX12_proc_92 rfl rfl ?_
      refine z_getr fr_RX12_91 dX12_proc_93 ?_
      refine z_aload_n 0 dX12_proc_96 rfl rfl ?_
      refine z_geti fi_RX12_328 dX12_proc_97 ?_
      refine z_aload_n 0 dX12_proc_100 rfl rfl ?_
      refine z_geti fi_RX12_240 dX12_proc_101 ?_
      obtain ⟨hi3370, hF⟩ := zwr_at hF
      refine z_iast (n := 300) rfl hi3370 dX12_proc_104 (fun t3371 et3371 => ?_)
      have hF := hF t3371 et3371
      refine z_aload_n 0 dX12_proc_105 rfl rfl ?_
      refine z_getr fr_RX12_100 dX12_proc_106 ?_
      refine z_aload_n 0 dX12_proc_109 rfl rfl ?_
      refine z_geti fi_RX12_328 dX12_proc_110 ?_
      refine z_iconst (v := 1) dX12_proc_113 (by decide) ?_
      refine z_iadd dX12_proc_114 ?_
      refine z_aload_n 0 dX12_proc_115 rfl rfl ?_
      refine z_getr fr_RX12_100 dX12_proc_116 ?_
      refine z_aload_n 0 dX12_proc_119 rfl rfl ?_
      refine z_geti fi_RX12_328 dX12_proc_120 ?_
      obtain ⟨hi3373, hF⟩ := zrd_at hF
      refine z_iald (n := 301) rfl hi3373 dX12_proc_123 ?_
      generalize t3371 31 (Int32.toNatClampNeg (t3371 0 44)) = v3372 at hF ⊢
      obtain ⟨hi3374, hF⟩ := zwr_at hF
      refine z_iast (n := 301) rfl hi3374 dX12_proc_124 (fun t3375 et3375 => ?_)
      have hF := hF t3375 et3375
      refine z_aload_n 0 dX12_proc_125 rfl rfl ?_
      refine z_dup dX12_proc_126 rfl ?_
      refine z_geti fi_RX12_328 dX12_proc_127 ?_
      refine z_iconst (v := 1) dX12_proc_130 (by decide) ?_
      refine z_iadd dX12_proc_131 ?_
      refine z_puti fw_RX12_328 dX12_proc_132 (fun t3376 et3376 => ?_)
      have hF := zpt_at hF t3376 et3376
      refine z_aload_n 0 dX12_proc_135 rfl rfl ?_
      obtain ⟨r3377, t3378, hc3379, hF⟩ := zbd_at hF
      refine z_callVv (ctX12_next (E := E) (f := f - 1) (by omega) hc3379) yy_X12_next yv_X12_next ob_M_0 lk_RX12_273 (by omega) rfl rfl (Nat.le_of_ble_eq_true rfl) dX12_proc_136 ?_
      refine z_aload_n 0 dX12_proc_139 rfl rfl ?_
      refine z_aload_n 0 dX12_proc_140 rfl rfl ?_
      refine z_bipush (v := 40) dX12_proc_141 (by decide) ?_
      obtain ⟨r3380, t3381, hc3382, hF⟩ := zbd_at hF
      refine z_callVi (ctX12_isSign (E := E) (f := f - 1) (by omega) hc3382) yy_X12_isSign yv_X12_isSign ob_M_0 lk_RX12_279 (by omega) rfl rfl (Nat.le_of_ble_eq_true rfl) dX12_proc_143 ?_
      obtain ⟨r3383, t3384, hc3385, hF⟩ := zbd_at hF
      refine z_callVi (ctX12_opens (E := E) (f := f - 1) (by omega) hc3385) yy_X12_opens yv_X12_opens ob_M_0 lk_RX12_299 (by omega) rfl rfl (Nat.le_of_ble_eq_true rfl) dX12_proc_146 ?_
      refine z_if_ne (tgt := 153) dX12_proc_149 (by decide) (fun hc => ?_) (fun hc => ?_)
      · have hF := zif_f hc hF
        refine z_aload_n 0 dX12_proc_153 rfl rfl ?_
        refine z_bipush (v := 41) dX12_proc_154 (by decide) ?_
        obtain ⟨r3386, t3387, hc3388, hF⟩ := zbd_at hF
        refine z_callVi (ctX12_isSign (E := E) (f := f - 1) (by omega) hc3388) yy_X12_isSign yv_X12_isSign ob_M_0 lk_RX12_279 (by omega) rfl rfl (Nat.le_of_ble_eq_true rfl) dX12_proc_156 ?_
        refine z_if_ne (tgt := 166) dX12_proc_159 (by decide) (fun hc => ?_) (fun hc => ?_)
        · have hF := zif_f hc hF
          refine z_iconst (v := 0) dX12_proc_166 (by decide) ?_
          refine z_sub [0] rfl ?_
          exact wbX12_proc_167 hf  0 _ hF
        · have hF := zif_t hc hF
          refine z_iconst (v := 1) dX12_proc_162 (by decide) ?_
          refine z_goto (tgt := 167) dX12_proc_163 (by decide) ?_
          refine z_sub [0] rfl ?_
          exact wbX12_proc_167 hf  1 _ hF
      · have hF := zif_t hc hF
        exact z_vret hF dX12_proc_152
    · have hF := zif_f hc hF
      exact z_vret hF dX12_proc_83
  · have hF := zif_f hc hF
    refine z_aload_n 0 dX12_proc_35 rfl rfl ?_
    refine z_getr fr_RX12_91 dX12_proc_36 ?_
    refine z_iload_n 1 dX12_proc_39 rfl rfl ?_
    obtain ⟨hi3390, hF⟩ := zrd_at hF
    refine z_iald (n := 300) rfl hi3390 dX12_proc_40 ?_
    generalize t 28 (Int32.toNatClampNeg x1) = v3389 at hF ⊢
    refine z_aload_n 0 dX12_proc_41 rfl rfl ?_
    refine z_geti fi_RX12_240 dX12_proc_42 ?_
    refine z_icmp_ne (tgt := 70) dX12_proc_45 (by decide) (fun hc => ?_) (fun hc => ?_)
    · have hF := zif_f hc hF
      exact wbX12_proc_70 hf k27 hk27 x1 _ hF
    · have hF := zif_t hc hF
      refine z_aload_n 0 dX12_proc_48 rfl rfl ?_
      refine z_aload_n 0 dX12_proc_49 rfl rfl ?_
      refine z_geti fi_RX12_267 dX12_proc_50 ?_
      refine z_if_ge (tgt := 63) dX12_proc_53 (by decide) (fun hc => ?_) (fun hc => ?_)
      · have hF := zif_t hc hF
        refine z_aload_n 0 dX12_proc_63 rfl rfl ?_
        refine z_geti fi_RX12_267 dX12_proc_64 ?_
        exact wbX12_proc_67 hf k27 hk27 x1 (t 0 9) _ hF
      · have hF := zif_f hc hF
        refine z_aload_n 0 dX12_proc_56 rfl rfl ?_
        refine z_geti fi_RX12_227 dX12_proc_57 ?_
        refine z_goto (tgt := 67) dX12_proc_60 (by decide) ?_
        exact wbX12_proc_67 hf k27 hk27 x1 (t 0 6) _ hF
set_option maxHeartbeats 4000000 in
set_option maxRecDepth 20000 in
theorem wlX12_proc_27 {E : zE} {C : zC} {f : Nat} {ro : Int32 × zS} (hf : 611 ≤ f) (fu : Nat) : ∀ (x1 : Int32) (t : zS), lX12_proc_27  fu x1 t = some ro → zJ E shM C cX12_proc RX12 6 f none ro t 27 [(0, .ref (za E 0)), (1, .int x1)] [] := by
  induction fu with
  | zero => intro x1 t hF; cases hF
  | succ fu ih => intro x1 t hF; exact wbX12_proc_27 hf (lX12_proc_27  fu) ih x1 t hF
set_option maxHeartbeats 4000000 in
set_option maxRecDepth 20000 in
theorem ctX12_proc {E : zE} {f : Nat} (hf : 611 ≤ f) {t : zS} {ro : Int32 × zS} (hF : mX12_proc   t = some ro) : zM E shM f yX12_proc cX12_proc 6 none [.ref (za E 0)] t ro := by
  refine zM_of (by decide) (Nat.le_of_ble_eq_true rfl) (fun C => ?_)
  show zJ E shM C cX12_proc RX12 6 f none ro t 0 [(0, .ref (za E 0))] []
  unfold mX12_proc at hF
  refine z_aload_n 0 dX12_proc_0 rfl rfl ?_
  refine z_geti fi_RX12_247 dX12_proc_1 ?_
  refine z_iconst (v := 2) dX12_proc_4 (by decide) ?_
  refine z_icmp_ne (tgt := 15) dX12_proc_5 (by decide) (fun hc => ?_) (fun hc => ?_)
  · have hF := zif_f hc hF
    exact wbX12_proc_15 hf   _ hF
  · have hF := zif_t hc hF
    refine z_aload_n 0 dX12_proc_8 rfl rfl ?_
    refine z_geti fi_RX12_267 dX12_proc_9 ?_
    refine z_if_lt (tgt := 25) dX12_proc_12 (by decide) (fun hc => ?_) (fun hc => ?_)
    · have hF := zif_t hc hF
      refine z_iconst (v := 0) dX12_proc_25 (by decide) ?_
      refine z_istore_n (lv' := [(1, .int 0), (0, .ref (za E 0))]) dX12_proc_26 rfl (by decide) rfl ?_
      refine z_sub [1, 0] rfl ?_
      exact wlX12_proc_27 hf  zFU 0 _ hF
    · have hF := zif_f hc hF
      exact wbX12_proc_15 hf   _ hF
-- SessionHouseModel.idOf(IIII)I
theorem dX12_idOf_0 : decode cX12_idOf 0 = .ok (.iconst 0, 1) := by decide +kernel
theorem dX12_idOf_1 : decode cX12_idOf 1 = .ok (.istore 5, 2) := by decide +kernel
theorem dX12_idOf_3 : decode cX12_idOf 3 = .ok (.iload 5, 2) := by decide +kernel
theorem dX12_idOf_5 : decode cX12_idOf 5 = .ok (.aload_n 0, 1) := by decide +kernel
theorem dX12_idOf_6 : decode cX12_idOf 6 = .ok (.getfield 234, 3) := by decide +kernel
theorem dX12_idOf_9 : decode cX12_idOf 9 = .ok (.if_icmp .ge 83, 3) := by decide +kernel
theorem dX12_idOf_12 : decode cX12_idOf 12 = .ok (.aload_n 0, 1) := by decide +kernel
theorem dX12_idOf_13 : decode cX12_idOf 13 = .ok (.getfield 16, 3) := by decide +kernel
theorem dX12_idOf_16 : decode cX12_idOf 16 = .ok (.iload 5, 2) := by decide +kernel
theorem dX12_idOf_18 : decode cX12_idOf 18 = .ok (.iaload, 1) := by decide +kernel
theorem dX12_idOf_19 : decode cX12_idOf 19 = .ok (.istore 6, 2) := by decide +kernel
theorem dX12_idOf_21 : decode cX12_idOf 21 = .ok (.aload_n 0, 1) := by decide +kernel
theorem dX12_idOf_22 : decode cX12_idOf 22 = .ok (.getfield 19, 3) := by decide +kernel
theorem dX12_idOf_25 : decode cX12_idOf 25 = .ok (.iload 5, 2) := by decide +kernel
theorem dX12_idOf_27 : decode cX12_idOf 27 = .ok (.iaload, 1) := by decide +kernel
theorem dX12_idOf_28 : decode cX12_idOf 28 = .ok (.iconst 4, 1) := by decide +kernel
theorem dX12_idOf_29 : decode cX12_idOf 29 = .ok (.if_icmp .ne 57, 3) := by decide +kernel
theorem dX12_idOf_32 : decode cX12_idOf 32 = .ok (.aload_n 0, 1) := by decide +kernel
theorem dX12_idOf_33 : decode cX12_idOf 33 = .ok (.getfield 13, 3) := by decide +kernel
theorem dX12_idOf_36 : decode cX12_idOf 36 = .ok (.iload 6, 2) := by decide +kernel
theorem dX12_idOf_38 : decode cX12_idOf 38 = .ok (.iaload, 1) := by decide +kernel
theorem dX12_idOf_39 : decode cX12_idOf 39 = .ok (.iload_n 1, 1) := by decide +kernel
theorem dX12_idOf_40 : decode cX12_idOf 40 = .ok (.if_icmp .ne 46, 3) := by decide +kernel
theorem dX12_idOf_43 : decode cX12_idOf 43 = .ok (.aload_n 0, 1) := by decide +kernel
theorem dX12_idOf_44 : decode cX12_idOf 44 = .ok (.getfield 13, 3) := by decide +kernel
theorem dX12_idOf_47 : decode cX12_idOf 47 = .ok (.iload 6, 2) := by decide +kernel
theorem dX12_idOf_49 : decode cX12_idOf 49 = .ok (.iconst 1, 1) := by decide +kernel
theorem dX12_idOf_50 : decode cX12_idOf 50 = .ok (.iadd, 1) := by decide +kernel
theorem dX12_idOf_51 : decode cX12_idOf 51 = .ok (.iaload, 1) := by decide +kernel
theorem dX12_idOf_52 : decode cX12_idOf 52 = .ok (.iload_n 2, 1) := by decide +kernel
theorem dX12_idOf_53 : decode cX12_idOf 53 = .ok (.if_icmp .ne 33, 3) := by decide +kernel
theorem dX12_idOf_56 : decode cX12_idOf 56 = .ok (.aload_n 0, 1) := by decide +kernel
theorem dX12_idOf_57 : decode cX12_idOf 57 = .ok (.getfield 13, 3) := by decide +kernel
theorem dX12_idOf_60 : decode cX12_idOf 60 = .ok (.iload 6, 2) := by decide +kernel
theorem dX12_idOf_62 : decode cX12_idOf 62 = .ok (.iconst 2, 1) := by decide +kernel
theorem dX12_idOf_63 : decode cX12_idOf 63 = .ok (.iadd, 1) := by decide +kernel
theorem dX12_idOf_64 : decode cX12_idOf 64 = .ok (.iaload, 1) := by decide +kernel
theorem dX12_idOf_65 : decode cX12_idOf 65 = .ok (.iload_n 3, 1) := by decide +kernel
theorem dX12_idOf_66 : decode cX12_idOf 66 = .ok (.if_icmp .ne 20, 3) := by decide +kernel
theorem dX12_idOf_69 : decode cX12_idOf 69 = .ok (.aload_n 0, 1) := by decide +kernel
theorem dX12_idOf_70 : decode cX12_idOf 70 = .ok (.getfield 13, 3) := by decide +kernel
theorem dX12_idOf_73 : decode cX12_idOf 73 = .ok (.iload 6, 2) := by decide +kernel
theorem dX12_idOf_75 : decode cX12_idOf 75 = .ok (.iconst 3, 1) := by decide +kernel
theorem dX12_idOf_76 : decode cX12_idOf 76 = .ok (.iadd, 1) := by decide +kernel
theorem dX12_idOf_77 : decode cX12_idOf 77 = .ok (.iaload, 1) := by decide +kernel
theorem dX12_idOf_78 : decode cX12_idOf 78 = .ok (.iload 4, 2) := by decide +kernel
theorem dX12_idOf_80 : decode cX12_idOf 80 = .ok (.if_icmp .ne 6, 3) := by decide +kernel
theorem dX12_idOf_83 : decode cX12_idOf 83 = .ok (.iload 5, 2) := by decide +kernel
theorem dX12_idOf_85 : decode cX12_idOf 85 = .ok (.ireturn, 1) := by decide +kernel
theorem dX12_idOf_86 : decode cX12_idOf 86 = .ok (.iinc 5 1, 3) := by decide +kernel
theorem dX12_idOf_89 : decode cX12_idOf 89 = .ok (.goto (-86), 3) := by decide +kernel
theorem dX12_idOf_92 : decode cX12_idOf 92 = .ok (.iconst (-1), 1) := by decide +kernel
theorem dX12_idOf_93 : decode cX12_idOf 93 = .ok (.ireturn, 1) := by decide +kernel
def bX12_idOf_86 (k3 : Int32 → Int32 → Int32 → Int32 → Int32 → zS → zR) (x1 : Int32) (x2 : Int32) (x3 : Int32) (x4 : Int32) (x5 : Int32) (t : zS) : zR := zlet (x5 + 1) fun v3391 => k3 x1 x2 x3 x4 v3391 t
def bX12_idOf_3 (k3 : Int32 → Int32 → Int32 → Int32 → Int32 → zS → zR) (x1 : Int32) (x2 : Int32) (x3 : Int32) (x4 : Int32) (x5 : Int32) (t : zS) : zR := if (t 0 11) ≤ x5 then some ((-1), t) else zrd t 3 1600 x5 fun v3392 => zrd t 4 1600 x5 fun v3394 => if v3394 = 4 then zrd t 2 3000 v3392 fun v3396 => if v3396 = x1 then zrd t 2 3000 (v3392 + 1) fun v3398 => if v3398 = x2 then zrd t 2 3000 (v3392 + 2) fun v3400 => if v3400 = x3 then zrd t 2 3000 (v3392 + 3) fun v3402 => if v3402 = x4 then some (x5, t) else bX12_idOf_86 k3 x1 x2 x3 x4 x5 t else bX12_idOf_86 k3 x1 x2 x3 x4 x5 t else bX12_idOf_86 k3 x1 x2 x3 x4 x5 t else bX12_idOf_86 k3 x1 x2 x3 x4 x5 t else bX12_idOf_86 k3 x1 x2 x3 x4 x5 t
def lX12_idOf_3 : Nat → Int32 → Int32 → Int32 → Int32 → Int32 → zS → zR
  | 0, _, _, _, _, _, _ => none
  | fu + 1, x1, x2, x3, x4, x5, t => bX12_idOf_3 (lX12_idOf_3  fu) x1 x2 x3 x4 x5 t
def mX12_idOf (x1 : Int32) (x2 : Int32) (x3 : Int32) (x4 : Int32) (t : zS) : zR := lX12_idOf_3  zFU x1 x2 x3 x4 0 t
set_option maxHeartbeats 4000000 in
set_option maxRecDepth 20000 in
theorem wbX12_idOf_86 {E : zE} {C : zC} {f : Nat} {ro : Int32 × zS} (hf : 1 ≤ f) (k3 : Int32 → Int32 → Int32 → Int32 → Int32 → zS → zR) (hk3 : ∀ (x1 x2 x3 x4 x5 : Int32) (t : zS), k3 x1 x2 x3 x4 x5 t = some ro → zJ E shM C cX12_idOf RX12 7 f (some .int) ro t 3 [(0, .ref (za E 0)), (1, .int x1), (2, .int x2), (3, .int x3), (4, .int x4), (5, .int x5)] []) (x1 : Int32) (x2 : Int32) (x3 : Int32) (x4 : Int32) (x5 : Int32) (t : zS) (hF : bX12_idOf_86 k3 x1 x2 x3 x4 x5 t = some ro) : zJ E shM C cX12_idOf RX12 7 f (some .int) ro t 86 [(0, .ref (za E 0)), (1, .int x1), (2, .int x2), (3, .int x3), (4, .int x4), (5, .int x5)] [] := by
  unfold bX12_idOf_86 at hF
  obtain ⟨v3391, ev3391⟩ : ∃ y : Int32, y = (x5 + 1) := ⟨_, rfl⟩
  have hF := zlet_at ev3391 hF
  refine z_iinc (v := v3391) (lv' := [(5, .int v3391), (0, .ref (za E 0)), (1, .int x1), (2, .int x2), (3, .int x3), (4, .int x4)]) (k := 5) dX12_idOf_86 rfl (by rw [ev3391]; rfl) (by decide) rfl ?_
  refine z_goto (tgt := 3) dX12_idOf_89 (by decide) ?_
  refine z_sub [1, 2, 3, 4, 5, 0] rfl ?_
  exact hk3 x1 x2 x3 x4 v3391 _ hF
set_option maxHeartbeats 4000000 in
set_option maxRecDepth 20000 in
theorem wbX12_idOf_3 {E : zE} {C : zC} {f : Nat} {ro : Int32 × zS} (hf : 1 ≤ f) (k3 : Int32 → Int32 → Int32 → Int32 → Int32 → zS → zR) (hk3 : ∀ (x1 x2 x3 x4 x5 : Int32) (t : zS), k3 x1 x2 x3 x4 x5 t = some ro → zJ E shM C cX12_idOf RX12 7 f (some .int) ro t 3 [(0, .ref (za E 0)), (1, .int x1), (2, .int x2), (3, .int x3), (4, .int x4), (5, .int x5)] []) (x1 : Int32) (x2 : Int32) (x3 : Int32) (x4 : Int32) (x5 : Int32) (t : zS) (hF : bX12_idOf_3 k3 x1 x2 x3 x4 x5 t = some ro) : zJ E shM C cX12_idOf RX12 7 f (some .int) ro t 3 [(0, .ref (za E 0)), (1, .int x1), (2, .int x2), (3, .int x3), (4, .int x4), (5, .int x5)] [] := by
  unfold bX12_idOf_3 at hF
  refine z_iload 5 dX12_idOf_3 rfl ?_
  refine z_aload_n 0 dX12_idOf_5 rfl rfl ?_
  refine z_geti fi_RX12_234 dX12_idOf_6 ?_
  refine z_icmp_ge (tgt := 92) dX12_idOf_9 (by decide) (fun hc => ?_) (fun hc => ?_)
  · have hF := zif_t hc hF
    refine z_iconst (v := (-1)) dX12_idOf_92 (by decide) ?_
    exact z_iret hF dX12_idOf_93
  · have hF := zif_f hc hF
    refine z_aload_n 0 dX12_idOf_12 rfl rfl ?_
    refine z_getr fr_RX12_16 dX12_idOf_13 ?_
    refine z_iload 5 dX12_idOf_16 rfl ?_
    obtain ⟨hi3393, hF⟩ := zrd_at hF
    refine z_iald (n := 1600) rfl hi3393 dX12_idOf_18 ?_
    generalize t 3 (Int32.toNatClampNeg x5) = v3392 at hF ⊢
    refine z_istore (lv' := [(6, .int v3392), (0, .ref (za E 0)), (1, .int x1), (2, .int x2), (3, .int x3), (4, .int x4), (5, .int x5)]) dX12_idOf_19 (by decide) rfl ?_
    refine z_aload_n 1 dX12_idOf_21 rfl rfl ?_
    refine z_getr fr_RX12_19 dX12_idOf_22 ?_
    refine z_iload 6 dX12_idOf_25 rfl ?_
    obtain ⟨hi3395, hF⟩ := zrd_at hF
    refine z_iald (n := 1600) rfl hi3395 dX12_idOf_27 ?_
    generalize t 4 (Int32.toNatClampNeg x5) = v3394 at hF ⊢
    refine z_iconst (v := 4) dX12_idOf_28 (by decide) ?_
    refine z_icmp_ne (tgt := 86) dX12_idOf_29 (by decide) (fun hc => ?_) (fun hc => ?_)
    · have hF := zif_f hc hF
      refine z_sub [1, 2, 3, 4, 5, 6] rfl ?_
      exact wbX12_idOf_86 hf k3 hk3 x1 x2 x3 x4 x5 _ hF
    · have hF := zif_t hc hF
      refine z_aload_n 1 dX12_idOf_32 rfl rfl ?_
      refine z_getr fr_RX12_13 dX12_idOf_33 ?_
      refine z_iload 0 dX12_idOf_36 rfl ?_
      obtain ⟨hi3397, hF⟩ := zrd_at hF
      refine z_iald (n := 3000) rfl hi3397 dX12_idOf_38 ?_
      generalize t 2 (Int32.toNatClampNeg v3392) = v3396 at hF ⊢
      refine z_iload_n 2 dX12_idOf_39 rfl rfl ?_
      refine z_icmp_ne (tgt := 86) dX12_idOf_40 (by decide) (fun hc => ?_) (fun hc => ?_)
      · have hF := zif_f hc hF
        refine z_sub [1, 2, 3, 4, 5, 6] rfl ?_
        exact wbX12_idOf_86 hf k3 hk3 x1 x2 x3 x4 x5 _ hF
      · have hF := zif_t hc hF
        refine z_aload_n 1 dX12_idOf_43 rfl rfl ?_
        refine z_getr fr_RX12_13 dX12_idOf_44 ?_
        refine z_iload 0 dX12_idOf_47 rfl ?_
        refine z_iconst (v := 1) dX12_idOf_49 (by decide) ?_
        refine z_iadd dX12_idOf_50 ?_
        obtain ⟨hi3399, hF⟩ := zrd_at hF
        refine z_iald (n := 3000) rfl hi3399 dX12_idOf_51 ?_
        generalize t 2 (Int32.toNatClampNeg (v3392 + 1)) = v3398 at hF ⊢
        refine z_iload_n 3 dX12_idOf_52 rfl rfl ?_
        refine z_icmp_ne (tgt := 86) dX12_idOf_53 (by decide) (fun hc => ?_) (fun hc => ?_)
        · have hF := zif_f hc hF
          refine z_sub [1, 2, 3, 4, 5, 6] rfl ?_
          exact wbX12_idOf_86 hf k3 hk3 x1 x2 x3 x4 x5 _ hF
        · have hF := zif_t hc hF
          refine z_aload_n 1 dX12_idOf_56 rfl rfl ?_
          refine z_getr fr_RX12_13 dX12_idOf_57 ?_
          refine z_iload 0 dX12_idOf_60 rfl ?_
          refine z_iconst (v := 2) dX12_idOf_62 (by decide) ?_
          refine z_iadd dX12_idOf_63 ?_
          obtain ⟨hi3401, hF⟩ := zrd_at hF
          refine z_iald (n := 3000) rfl hi3401 dX12_idOf_64 ?_
          generalize t 2 (Int32.toNatClampNeg (v3392 + 2)) = v3400 at hF ⊢
          refine z_iload_n 4 dX12_idOf_65 rfl rfl ?_
          refine z_icmp_ne (tgt := 86) dX12_idOf_66 (by decide) (fun hc => ?_) (fun hc => ?_)
          · have hF := zif_f hc hF
            refine z_sub [1, 2, 3, 4, 5, 6] rfl ?_
            exact wbX12_idOf_86 hf k3 hk3 x1 x2 x3 x4 x5 _ hF
          · have hF := zif_t hc hF
            refine z_aload_n 1 dX12_idOf_69 rfl rfl ?_
            refine z_getr fr_RX12_13 dX12_idOf_70 ?_
            refine z_iload 0 dX12_idOf_73 rfl ?_
            refine z_iconst (v := 3) dX12_idOf_75 (by decide) ?_
            refine z_iadd dX12_idOf_76 ?_
            obtain ⟨hi3403, hF⟩ := zrd_at hF
            refine z_iald (n := 3000) rfl hi3403 dX12_idOf_77 ?_
            generalize t 2 (Int32.toNatClampNeg (v3392 + 3)) = v3402 at hF ⊢
            refine z_iload 5 dX12_idOf_78 rfl ?_
            refine z_icmp_ne (tgt := 86) dX12_idOf_80 (by decide) (fun hc => ?_) (fun hc => ?_)
            · have hF := zif_f hc hF
              refine z_sub [1, 2, 3, 4, 5, 6] rfl ?_
              exact wbX12_idOf_86 hf k3 hk3 x1 x2 x3 x4 x5 _ hF
            · have hF := zif_t hc hF
              refine z_iload 6 dX12_idOf_83 rfl ?_
              exact z_iret hF dX12_idOf_85
set_option maxHeartbeats 4000000 in
set_option maxRecDepth 20000 in
theorem wlX12_idOf_3 {E : zE} {C : zC} {f : Nat} {ro : Int32 × zS} (hf : 1 ≤ f) (fu : Nat) : ∀ (x1 x2 x3 x4 x5 : Int32) (t : zS), lX12_idOf_3  fu x1 x2 x3 x4 x5 t = some ro → zJ E shM C cX12_idOf RX12 7 f (some .int) ro t 3 [(0, .ref (za E 0)), (1, .int x1), (2, .int x2), (3, .int x3), (4, .int x4), (5, .int x5)] [] := by
  induction fu with
  | zero => intro x1 x2 x3 x4 x5 t hF; cases hF
  | succ fu ih => intro x1 x2 x3 x4 x5 t hF; exact wbX12_idOf_3 hf (lX12_idOf_3  fu) ih x1 x2 x3 x4 x5 t hF
set_option maxHeartbeats 4000000 in
set_option maxRecDepth 20000 in
theorem ctX12_idOf {E : zE} {f : Nat} (hf : 1 ≤ f) {x1 : Int32} {x2 : Int32} {x3 : Int32} {x4 : Int32} {t : zS} {ro : Int32 × zS} (hF : mX12_idOf  x1 x2 x3 x4 t = some ro) : zM E shM f yX12_idOf cX12_idOf 7 (some .int) [.ref (za E 0), .int x1, .int x2, .int x3, .int x4] t ro := by
  refine zM_of (by decide) (Nat.le_of_ble_eq_true rfl) (fun C => ?_)
  show zJ E shM C cX12_idOf RX12 7 f (some .int) ro t 0 [(0, .ref (za E 0)), (1, .int x1), (2, .int x2), (3, .int x3), (4, .int x4)] []
  unfold mX12_idOf at hF
  refine z_iconst (v := 0) dX12_idOf_0 (by decide) ?_
  refine z_istore (lv' := [(5, .int 0), (0, .ref (za E 0)), (1, .int x1), (2, .int x2), (3, .int x3), (4, .int x4)]) dX12_idOf_1 (by decide) rfl ?_
  refine z_sub [1, 2, 3, 4, 5, 0] rfl ?_
  exact wlX12_idOf_3 hf  zFU x1 x2 x3 x4 0 _ hF
