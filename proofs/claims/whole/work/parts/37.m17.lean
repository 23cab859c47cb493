abbrev GgX12_checkBlock : Type := (Int32 → Int32 → zS → zR) × (Int32 → Int32 → zS → zR) × (Int32 → Int32 → zS → zR) × (Int32 → Int32 → zS → zR) × (Int32 → Int32 → zS → zR)
def HgX12_checkBlock (E : zE) (f : Nat) (g : GgX12_checkBlock) : Prop := (∀ (x1 x2 : Int32) (t : zS) (ro : Int32 × zS), g.1 x1 x2 t = some ro → zM E shM f yX12_checkBlock cX12_checkBlock 5 (some .boolean) [.ref (za E 0), .int x1, .int x2] t ro) ∧ (∀ (x1 x2 : Int32) (t : zS) (ro : Int32 × zS), g.2.1 x1 x2 t = some ro → zM E shM f yX12_checkOne cX12_checkOne 7 (some .boolean) [.ref (za E 0), .int x1, .int x2] t ro) ∧ (∀ (x1 x2 : Int32) (t : zS) (ro : Int32 × zS), g.2.2.1 x1 x2 t = some ro → zM E shM f yX12_checkIf cX12_checkIf 7 (some .boolean) [.ref (za E 0), .int x1, .int x2] t ro) ∧ (∀ (x1 x2 : Int32) (t : zS) (ro : Int32 × zS), g.2.2.2.1 x1 x2 t = some ro → zM E shM f yX12_checkCase cX12_checkCase 10 (some .boolean) [.ref (za E 0), .int x1, .int x2] t ro) ∧ (∀ (x1 x2 : Int32) (t : zS) (ro : Int32 × zS), g.2.2.2.2 x1 x2 t = some ro → zM E shM f yX12_checkWhile cX12_checkWhile 4 none [.ref (za E 0), .int x1, .int x2] t ro)
theorem z_hgX12_checkBlock {E : zE} {f : Nat} {g : GgX12_checkBlock} (hg : HgX12_checkBlock E f g) {x1 x2 : Int32} {t : zS} {ro : Int32 × zS} (h : g.1 x1 x2 t = some ro) : zM E shM f yX12_checkBlock cX12_checkBlock 5 (some .boolean) [.ref (za E 0), .int x1, .int x2] t ro := hg.1 _ _ _ _ h
theorem z_hgX12_checkOne {E : zE} {f : Nat} {g : GgX12_checkBlock} (hg : HgX12_checkBlock E f g) {x1 x2 : Int32} {t : zS} {ro : Int32 × zS} (h : g.2.1 x1 x2 t = some ro) : zM E shM f yX12_checkOne cX12_checkOne 7 (some .boolean) [.ref (za E 0), .int x1, .int x2] t ro := hg.2.1 _ _ _ _ h
theorem z_hgX12_checkIf {E : zE} {f : Nat} {g : GgX12_checkBlock} (hg : HgX12_checkBlock E f g) {x1 x2 : Int32} {t : zS} {ro : Int32 × zS} (h : g.2.2.1 x1 x2 t = some ro) : zM E shM f yX12_checkIf cX12_checkIf 7 (some .boolean) [.ref (za E 0), .int x1, .int x2] t ro := hg.2.2.1 _ _ _ _ h
theorem z_hgX12_checkCase {E : zE} {f : Nat} {g : GgX12_checkBlock} (hg : HgX12_checkBlock E f g) {x1 x2 : Int32} {t : zS} {ro : Int32 × zS} (h : g.2.2.2.1 x1 x2 t = some ro) : zM E shM f yX12_checkCase cX12_checkCase 10 (some .boolean) [.ref (za E 0), .int x1, .int x2] t ro := hg.2.2.2.1 _ _ _ _ h
theorem z_hgX12_checkWhile {E : zE} {f : Nat} {g : GgX12_checkBlock} (hg : HgX12_checkBlock E f g) {x1 x2 : Int32} {t : zS} {ro : Int32 × zS} (h : g.2.2.2.2 x1 x2 t = some ro) : zM E shM f yX12_checkWhile cX12_checkWhile 4 none [.ref (za E 0), .int x1, .int x2] t ro := hg.2.2.2.2 _ _ _ _ h
-- SessionHouseModel.checkBlock(II)Z
theorem dX12_checkBlock_0 : decode cX12_checkBlock 0 = .ok (.iload_n 1, 1) := by decide +kernel
theorem dX12_checkBlock_1 : decode cX12_checkBlock 1 = .ok (.istore_n 3, 1) := by decide +kernel
theorem dX12_checkBlock_2 : decode cX12_checkBlock 2 = .ok (.iload_n 3, 1) := by decide +kernel
theorem dX12_checkBlock_3 : decode cX12_checkBlock 3 = .ok (.ifCond .lt 57, 3) := by decide +kernel
theorem dX12_checkBlock_6 : decode cX12_checkBlock 6 = .ok (.aload_n 0, 1) := by decide +kernel
theorem dX12_checkBlock_7 : decode cX12_checkBlock 7 = .ok (.getfield 423, 3) := by decide +kernel
theorem dX12_checkBlock_10 : decode cX12_checkBlock 10 = .ok (.ifCond .ge 50, 3) := by decide +kernel
theorem dX12_checkBlock_13 : decode cX12_checkBlock 13 = .ok (.aload_n 0, 1) := by decide +kernel
theorem dX12_checkBlock_14 : decode cX12_checkBlock 14 = .ok (.iload_n 3, 1) := by decide +kernel
theorem dX12_checkBlock_15 : decode cX12_checkBlock 15 = .ok (.iload_n 2, 1) := by decide +kernel
theorem dX12_checkBlock_16 : decode cX12_checkBlock 16 = .ok (.invokevirtual 481, 3) := by decide +kernel
theorem dX12_checkBlock_19 : decode cX12_checkBlock 19 = .ok (.istore 4, 2) := by decide +kernel
theorem dX12_checkBlock_21 : decode cX12_checkBlock 21 = .ok (.iload 4, 2) := by decide +kernel
theorem dX12_checkBlock_23 : decode cX12_checkBlock 23 = .ok (.ifCond .ne 6, 3) := by decide +kernel
theorem dX12_checkBlock_26 : decode cX12_checkBlock 26 = .ok (.goto 24, 3) := by decide +kernel
theorem dX12_checkBlock_29 : decode cX12_checkBlock 29 = .ok (.aload_n 0, 1) := by decide +kernel
theorem dX12_checkBlock_30 : decode cX12_checkBlock 30 = .ok (.getfield 73, 3) := by decide +kernel
theorem dX12_checkBlock_33 : decode cX12_checkBlock 33 = .ok (.iload_n 3, 1) := by decide +kernel
theorem dX12_checkBlock_34 : decode cX12_checkBlock 34 = .ok (.iaload, 1) := by decide +kernel
theorem dX12_checkBlock_35 : decode cX12_checkBlock 35 = .ok (.ifCond .lt 13, 3) := by decide +kernel
theorem dX12_checkBlock_38 : decode cX12_checkBlock 38 = .ok (.aload_n 0, 1) := by decide +kernel
theorem dX12_checkBlock_39 : decode cX12_checkBlock 39 = .ok (.aload_n 0, 1) := by decide +kernel
theorem dX12_checkBlock_40 : decode cX12_checkBlock 40 = .ok (.getfield 52, 3) := by decide +kernel
theorem dX12_checkBlock_43 : decode cX12_checkBlock 43 = .ok (.iload_n 3, 1) := by decide +kernel
theorem dX12_checkBlock_44 : decode cX12_checkBlock 44 = .ok (.iaload, 1) := by decide +kernel
theorem dX12_checkBlock_45 : decode cX12_checkBlock 45 = .ok (.invokevirtual 478, 3) := by decide +kernel
theorem dX12_checkBlock_48 : decode cX12_checkBlock 48 = .ok (.iconst 1, 1) := by decide +kernel
theorem dX12_checkBlock_49 : decode cX12_checkBlock 49 = .ok (.ireturn, 1) := by decide +kernel
theorem dX12_checkBlock_50 : decode cX12_checkBlock 50 = .ok (.aload_n 0, 1) := by decide +kernel
theorem dX12_checkBlock_51 : decode cX12_checkBlock 51 = .ok (.getfield 73, 3) := by decide +kernel
theorem dX12_checkBlock_54 : decode cX12_checkBlock 54 = .ok (.iload_n 3, 1) := by decide +kernel
theorem dX12_checkBlock_55 : decode cX12_checkBlock 55 = .ok (.iaload, 1) := by decide +kernel
theorem dX12_checkBlock_56 : decode cX12_checkBlock 56 = .ok (.istore_n 3, 1) := by decide +kernel
theorem dX12_checkBlock_57 : decode cX12_checkBlock 57 = .ok (.goto (-55), 3) := by decide +kernel
theorem dX12_checkBlock_60 : decode cX12_checkBlock 60 = .ok (.iconst 0, 1) := by decide +kernel
theorem dX12_checkBlock_61 : decode cX12_checkBlock 61 = .ok (.ireturn, 1) := by decide +kernel
def bX12_checkBlock_2 (g : GgX12_checkBlock) (k2 : Int32 → Int32 → zS → zR) (x2 : Int32) (x3 : Int32) (t : zS) : zR := if x3 < 0 then some (0, t) else if 0 ≤ (t 0 67) then some (0, t) else zbd (g.2.1 x3 x2 t) fun r3834 t3835 => if r3834 = 0 then zrd t3835 22 1600 x3 fun v3844 => k2 x2 v3844 t3835 else zrd t3835 22 1600 x3 fun v3837 => if v3837 < 0 then some (1, t3835) else zrd t3835 15 1600 x3 fun v3839 => zbd (mX12_isBad v3839 t3835) fun r3841 t3842 => some (1, t3842)
def lX12_checkBlock_2 (g : GgX12_checkBlock) : Nat → Int32 → Int32 → zS → zR
  | 0, _, _, _ => none
  | fu + 1, x2, x3, t => bX12_checkBlock_2 g (lX12_checkBlock_2 g fu) x2 x3 t
def mX12_checkBlock (g : GgX12_checkBlock) (x1 : Int32) (x2 : Int32) (t : zS) : zR := lX12_checkBlock_2 g zFU x2 x1 t
set_option maxHeartbeats 4000000 in
set_option maxRecDepth 20000 in
theorem wbX12_checkBlock_2 {E : zE} {C : zC} {f : Nat} {ro : Int32 × zS} (hf : 5 ≤ f) {g : GgX12_checkBlock} (hg : HgX12_checkBlock E (f - 1) g) (k2 : Int32 → Int32 → zS → zR) (hk2 : ∀ (x2 x3 : Int32) (t : zS), k2 x2 x3 t = some ro → zJ E shM C cX12_checkBlock RX12 5 f (some .boolean) ro t 2 [(0, .ref (za E 0)), (2, .int x2), (3, .int x3)] []) (x2 : Int32) (x3 : Int32) (t : zS) (hF : bX12_checkBlock_2 g k2 x2 x3 t = some ro) : zJ E shM C cX12_checkBlock RX12 5 f (some .boolean) ro t 2 [(0, .ref (za E 0)), (2, .int x2), (3, .int x3)] [] := by
  unfold bX12_checkBlock_2 at hF
  refine z_iload_n 2 dX12_checkBlock_2 rfl rfl ?_
  refine z_if_lt (tgt := 60) dX12_checkBlock_3 (by decide) (fun hc => ?_) (fun hc => ?_)
  · have hF := zif_t hc hF
    refine z_iconst (v := 0) dX12_checkBlock_60 (by decide) ?_
    exact z_zret hF (by decide) dX12_checkBlock_61
  · have hF := zif_f hc hF
    refine z_aload_n 0 dX12_checkBlock_6 rfl rfl ?_
    refine z_geti fi_RX12_423 dX12_checkBlock_7 ?_
    refine z_if_ge (tgt := 60) dX12_checkBlock_10 (by decide) (fun hc => ?_) (fun hc => ?_)
    · have hF := zif_t hc hF
      refine z_iconst (v := 0) dX12_checkBlock_60 (by decide) ?_
      exact z_zret hF (by decide) dX12_checkBlock_61
    · have hF := zif_f hc hF
      refine z_aload_n 0 dX12_checkBlock_13 rfl rfl ?_
      refine z_iload_n 2 dX12_checkBlock_14 rfl rfl ?_
      refine z_iload_n 1 dX12_checkBlock_15 rfl rfl ?_
      obtain ⟨r3834, t3835, hc3836, hF⟩ := zbd_at hF
      refine z_callVi (z_hgX12_checkOne hg hc3836) yy_X12_checkOne yv_X12_checkOne ob_M_0 lk_RX12_481 (by omega) rfl rfl (Nat.le_of_ble_eq_true rfl) dX12_checkBlock_16 ?_
      refine z_istore (lv' := [(4, .int r3834), (0, .ref (za E 0)), (2, .int x2), (3, .int x3)]) dX12_checkBlock_19 (by decide) rfl ?_
      refine z_iload 0 dX12_checkBlock_21 rfl ?_
      refine z_if_ne (tgt := 29) dX12_checkBlock_23 (by decide) (fun hc => ?_) (fun hc => ?_)
      · have hF := zif_f hc hF
        refine z_aload_n 1 dX12_checkBlock_29 rfl rfl ?_
        refine z_getr fr_RX12_73 dX12_checkBlock_30 ?_
        refine z_iload_n 3 dX12_checkBlock_33 rfl rfl ?_
        obtain ⟨hi3838, hF⟩ := zrd_at hF
        refine z_iald (n := 1600) rfl hi3838 dX12_checkBlock_34 ?_
        generalize t3835 22 (Int32.toNatClampNeg x3) = v3837 at hF ⊢
        refine z_if_lt (tgt := 48) dX12_checkBlock_35 (by decide) (fun hc => ?_) (fun hc => ?_)
        · have hF := zif_t hc hF
          refine z_iconst (v := 1) dX12_checkBlock_48 (by decide) ?_
          exact z_zret hF (by decide) dX12_checkBlock_49
        · have hF := zif_f hc hF
          refine z_aload_n 1 dX12_checkBlock_38 rfl rfl ?_
          refine z_aload_n 1 dX12_checkBlock_39 rfl rfl ?_
          refine z_getr fr_RX12_52 dX12_checkBlock_40 ?_
          refine z_iload_n 3 dX12_checkBlock_43 rfl rfl ?_
          obtain ⟨hi3840, hF⟩ := zrd_at hF
          refine z_iald (n := 1600) rfl hi3840 dX12_checkBlock_44 ?_
          generalize t3835 15 (Int32.toNatClampNeg x3) = v3839 at hF ⊢
          obtain ⟨r3841, t3842, hc3843, hF⟩ := zbd_at hF
          refine z_callVv (ctX12_isBad (E := E) (f := f - 1) (by omega) hc3843) yy_X12_isBad yv_X12_isBad ob_M_0 lk_RX12_478 (by omega) rfl rfl (Nat.le_of_ble_eq_true rfl) dX12_checkBlock_45 ?_
          refine z_iconst (v := 1) dX12_checkBlock_48 (by decide) ?_
          exact z_zret hF (by decide) dX12_checkBlock_49
      · have hF := zif_t hc hF
        refine z_goto (tgt := 50) dX12_checkBlock_26 (by decide) ?_
        refine z_aload_n 1 dX12_checkBlock_50 rfl rfl ?_
        refine z_getr fr_RX12_73 dX12_checkBlock_51 ?_
        refine z_iload_n 3 dX12_checkBlock_54 rfl rfl ?_
        obtain ⟨hi3845, hF⟩ := zrd_at hF
        refine z_iald (n := 1600) rfl hi3845 dX12_checkBlock_55 ?_
        generalize t3835 22 (Int32.toNatClampNeg x3) = v3844 at hF ⊢
        refine z_istore_n (lv' := [(3, .int v3844), (4, .int r3834), (0, .ref (za E 0)), (2, .int x2)]) dX12_checkBlock_56 rfl (by decide) rfl ?_
        refine z_goto (tgt := 2) dX12_checkBlock_57 (by decide) ?_
        refine z_sub [2, 3, 0] rfl ?_
        exact hk2 x2 v3844 _ hF
set_option maxHeartbeats 4000000 in
set_option maxRecDepth 20000 in
theorem wlX12_checkBlock_2 {E : zE} {C : zC} {f : Nat} {ro : Int32 × zS} (hf : 5 ≤ f) {g : GgX12_checkBlock} (hg : HgX12_checkBlock E (f - 1) g) (fu : Nat) : ∀ (x2 x3 : Int32) (t : zS), lX12_checkBlock_2 g fu x2 x3 t = some ro → zJ E shM C cX12_checkBlock RX12 5 f (some .boolean) ro t 2 [(0, .ref (za E 0)), (2, .int x2), (3, .int x3)] [] := by
  induction fu with
  | zero => intro x2 x3 t hF; cases hF
  | succ fu ih => intro x2 x3 t hF; exact wbX12_checkBlock_2 hf hg (lX12_checkBlock_2 g fu) ih x2 x3 t hF
set_option maxHeartbeats 4000000 in
set_option maxRecDepth 20000 in
theorem ctX12_checkBlock {E : zE} {f : Nat} (hf : 5 ≤ f) {g : GgX12_checkBlock} (hg : HgX12_checkBlock E (f - 1) g) {x1 : Int32} {x2 : Int32} {t : zS} {ro : Int32 × zS} (hF : mX12_checkBlock g x1 x2 t = some ro) : zM E shM f yX12_checkBlock cX12_checkBlock 5 (some .boolean) [.ref (za E 0), .int x1, .int x2] t ro := by
  refine zM_of (by decide) (Nat.le_of_ble_eq_true rfl) (fun C => ?_)
  show zJ E shM C cX12_checkBlock RX12 5 f (some .boolean) ro t 0 [(0, .ref (za E 0)), (1, .int x1), (2, .int x2)] []
  unfold mX12_checkBlock at hF
  refine z_iload_n 1 dX12_checkBlock_0 rfl rfl ?_
  refine z_istore_n (lv' := [(3, .int x1), (0, .ref (za E 0)), (1, .int x1), (2, .int x2)]) dX12_checkBlock_1 rfl (by decide) rfl ?_
  refine z_sub [1, 3, 0] rfl ?_
  exact wlX12_checkBlock_2 hf hg zFU x2 x1 _ hF
-- SessionHouseModel.checkOne(II)Z
theorem dX12_checkOne_0 : decode cX12_checkOne 0 = .ok (.aload_n 0, 1) := by decide +kernel
theorem dX12_checkOne_1 : decode cX12_checkOne 1 = .ok (.getfield 55, 3) := by decide +kernel
theorem dX12_checkOne_4 : decode cX12_checkOne 4 = .ok (.iload_n 1, 1) := by decide +kernel
theorem dX12_checkOne_5 : decode cX12_checkOne 5 = .ok (.iaload, 1) := by decide +kernel
theorem dX12_checkOne_6 : decode cX12_checkOne 6 = .ok (.istore_n 3, 1) := by decide +kernel
theorem dX12_checkOne_7 : decode cX12_checkOne 7 = .ok (.aload_n 0, 1) := by decide +kernel
theorem dX12_checkOne_8 : decode cX12_checkOne 8 = .ok (.getfield 58, 3) := by decide +kernel
theorem dX12_checkOne_11 : decode cX12_checkOne 11 = .ok (.iload_n 1, 1) := by decide +kernel
theorem dX12_checkOne_12 : decode cX12_checkOne 12 = .ok (.iaload, 1) := by decide +kernel
theorem dX12_checkOne_13 : decode cX12_checkOne 13 = .ok (.istore 4, 2) := by decide +kernel
theorem dX12_checkOne_15 : decode cX12_checkOne 15 = .ok (.iconst 1, 1) := by decide +kernel
theorem dX12_checkOne_16 : decode cX12_checkOne 16 = .ok (.istore 5, 2) := by decide +kernel
theorem dX12_checkOne_18 : decode cX12_checkOne 18 = .ok (.aload_n 0, 1) := by decide +kernel
theorem dX12_checkOne_19 : decode cX12_checkOne 19 = .ok (.getfield 49, 3) := by decide +kernel
theorem dX12_checkOne_22 : decode cX12_checkOne 22 = .ok (.iload_n 1, 1) := by decide +kernel
theorem dX12_checkOne_23 : decode cX12_checkOne 23 = .ok (.iaload, 1) := by decide +kernel
theorem dX12_checkOne_24 : decode cX12_checkOne 24 = .ok (.tableswitch 495 0 13 #[72, 140, 195, 246, 344, 416, 473, 495, 495, 495, 480, 487, 105, 121], 72) := by decide +kernel
theorem dX12_checkOne_96 : decode cX12_checkOne 96 = .ok (.aload_n 0, 1) := by decide +kernel
theorem dX12_checkOne_97 : decode cX12_checkOne 97 = .ok (.iload_n 2, 1) := by decide +kernel
theorem dX12_checkOne_98 : decode cX12_checkOne 98 = .ok (.iload_n 3, 1) := by decide +kernel
theorem dX12_checkOne_99 : decode cX12_checkOne 99 = .ok (.invokevirtual 484, 3) := by decide +kernel
theorem dX12_checkOne_102 : decode cX12_checkOne 102 = .ok (.ifCond .ge 21, 3) := by decide +kernel
theorem dX12_checkOne_105 : decode cX12_checkOne 105 = .ok (.aload_n 0, 1) := by decide +kernel
theorem dX12_checkOne_106 : decode cX12_checkOne 106 = .ok (.aload_n 0, 1) := by decide +kernel
theorem dX12_checkOne_107 : decode cX12_checkOne 107 = .ok (.getfield 61, 3) := by decide +kernel
theorem dX12_checkOne_110 : decode cX12_checkOne 110 = .ok (.iload_n 1, 1) := by decide +kernel
theorem dX12_checkOne_111 : decode cX12_checkOne 111 = .ok (.iaload, 1) := by decide +kernel
theorem dX12_checkOne_112 : decode cX12_checkOne 112 = .ok (.iload_n 2, 1) := by decide +kernel
theorem dX12_checkOne_113 : decode cX12_checkOne 113 = .ok (.invokevirtual 487, 3) := by decide +kernel
theorem dX12_checkOne_116 : decode cX12_checkOne 116 = .ok (.ifCond .eq 7, 3) := by decide +kernel
theorem dX12_checkOne_119 : decode cX12_checkOne 119 = .ok (.iconst 1, 1) := by decide +kernel
theorem dX12_checkOne_120 : decode cX12_checkOne 120 = .ok (.goto 4, 3) := by decide +kernel
theorem dX12_checkOne_123 : decode cX12_checkOne 123 = .ok (.iconst 0, 1) := by decide +kernel
theorem dX12_checkOne_124 : decode cX12_checkOne 124 = .ok (.istore 5, 2) := by decide +kernel
theorem dX12_checkOne_126 : decode cX12_checkOne 126 = .ok (.goto 401, 3) := by decide +kernel
theorem dX12_checkOne_129 : decode cX12_checkOne 129 = .ok (.aload_n 0, 1) := by decide +kernel
theorem dX12_checkOne_130 : decode cX12_checkOne 130 = .ok (.aload_n 0, 1) := by decide +kernel
theorem dX12_checkOne_131 : decode cX12_checkOne 131 = .ok (.getfield 61, 3) := by decide +kernel
theorem dX12_checkOne_134 : decode cX12_checkOne 134 = .ok (.iload_n 1, 1) := by decide +kernel
theorem dX12_checkOne_135 : decode cX12_checkOne 135 = .ok (.iaload, 1) := by decide +kernel
theorem dX12_checkOne_136 : decode cX12_checkOne 136 = .ok (.iload_n 2, 1) := by decide +kernel
theorem dX12_checkOne_137 : decode cX12_checkOne 137 = .ok (.invokevirtual 487, 3) := by decide +kernel
theorem dX12_checkOne_140 : decode cX12_checkOne 140 = .ok (.istore 5, 2) := by decide +kernel
theorem dX12_checkOne_142 : decode cX12_checkOne 142 = .ok (.goto 385, 3) := by decide +kernel
theorem dX12_checkOne_145 : decode cX12_checkOne 145 = .ok (.aload_n 0, 1) := by decide +kernel
theorem dX12_checkOne_146 : decode cX12_checkOne 146 = .ok (.iload_n 2, 1) := by decide +kernel
theorem dX12_checkOne_147 : decode cX12_checkOne 147 = .ok (.iload_n 3, 1) := by decide +kernel
theorem dX12_checkOne_148 : decode cX12_checkOne 148 = .ok (.invokevirtual 484, 3) := by decide +kernel
theorem dX12_checkOne_151 : decode cX12_checkOne 151 = .ok (.ifCond .ge 7, 3) := by decide +kernel
theorem dX12_checkOne_154 : decode cX12_checkOne 154 = .ok (.iconst 1, 1) := by decide +kernel
theorem dX12_checkOne_155 : decode cX12_checkOne 155 = .ok (.goto 4, 3) := by decide +kernel
theorem dX12_checkOne_158 : decode cX12_checkOne 158 = .ok (.iconst 0, 1) := by decide +kernel
theorem dX12_checkOne_159 : decode cX12_checkOne 159 = .ok (.istore 5, 2) := by decide +kernel
theorem dX12_checkOne_161 : decode cX12_checkOne 161 = .ok (.goto 366, 3) := by decide +kernel
theorem dX12_checkOne_164 : decode cX12_checkOne 164 = .ok (.aload_n 0, 1) := by decide +kernel
theorem dX12_checkOne_165 : decode cX12_checkOne 165 = .ok (.iload_n 2, 1) := by decide +kernel
theorem dX12_checkOne_166 : decode cX12_checkOne 166 = .ok (.iload_n 3, 1) := by decide +kernel
theorem dX12_checkOne_167 : decode cX12_checkOne 167 = .ok (.iconst 3, 1) := by decide +kernel
theorem dX12_checkOne_168 : decode cX12_checkOne 168 = .ok (.invokevirtual 490, 3) := by decide +kernel
theorem dX12_checkOne_171 : decode cX12_checkOne 171 = .ok (.ifCond .eq 21, 3) := by decide +kernel
theorem dX12_checkOne_174 : decode cX12_checkOne 174 = .ok (.aload_n 0, 1) := by decide +kernel
theorem dX12_checkOne_175 : decode cX12_checkOne 175 = .ok (.aload_n 0, 1) := by decide +kernel
theorem dX12_checkOne_176 : decode cX12_checkOne 176 = .ok (.getfield 61, 3) := by decide +kernel
theorem dX12_checkOne_179 : decode cX12_checkOne 179 = .ok (.iload_n 1, 1) := by decide +kernel
theorem dX12_checkOne_180 : decode cX12_checkOne 180 = .ok (.iaload, 1) := by decide +kernel
theorem dX12_checkOne_181 : decode cX12_checkOne 181 = .ok (.iload_n 2, 1) := by decide +kernel
theorem dX12_checkOne_182 : decode cX12_checkOne 182 = .ok (.invokevirtual 487, 3) := by decide +kernel
theorem dX12_checkOne_185 : decode cX12_checkOne 185 = .ok (.ifCond .eq 7, 3) := by decide +kernel
theorem dX12_checkOne_188 : decode cX12_checkOne 188 = .ok (.iconst 1, 1) := by decide +kernel
theorem dX12_checkOne_189 : decode cX12_checkOne 189 = .ok (.goto 4, 3) := by decide +kernel
theorem dX12_checkOne_192 : decode cX12_checkOne 192 = .ok (.iconst 0, 1) := by decide +kernel
theorem dX12_checkOne_193 : decode cX12_checkOne 193 = .ok (.istore 5, 2) := by decide +kernel
theorem dX12_checkOne_195 : decode cX12_checkOne 195 = .ok (.iload 5, 2) := by decide +kernel
theorem dX12_checkOne_197 : decode cX12_checkOne 197 = .ok (.ifCond .eq 330, 3) := by decide +kernel
theorem dX12_checkOne_200 : decode cX12_checkOne 200 = .ok (.aload_n 0, 1) := by decide +kernel
theorem dX12_checkOne_201 : decode cX12_checkOne 201 = .ok (.iload_n 2, 1) := by decide +kernel
theorem dX12_checkOne_202 : decode cX12_checkOne 202 = .ok (.iload_n 3, 1) := by decide +kernel
theorem dX12_checkOne_203 : decode cX12_checkOne 203 = .ok (.aload_n 0, 1) := by decide +kernel
theorem dX12_checkOne_204 : decode cX12_checkOne 204 = .ok (.aload_n 0, 1) := by decide +kernel
theorem dX12_checkOne_205 : decode cX12_checkOne 205 = .ok (.iload_n 2, 1) := by decide +kernel
theorem dX12_checkOne_206 : decode cX12_checkOne 206 = .ok (.iload_n 3, 1) := by decide +kernel
theorem dX12_checkOne_207 : decode cX12_checkOne 207 = .ok (.invokevirtual 484, 3) := by decide +kernel
theorem dX12_checkOne_210 : decode cX12_checkOne 210 = .ok (.invokevirtual 455, 3) := by decide +kernel
theorem dX12_checkOne_213 : decode cX12_checkOne 213 = .ok (.invokevirtual 467, 3) := by decide +kernel
theorem dX12_checkOne_216 : decode cX12_checkOne 216 = .ok (.goto 311, 3) := by decide +kernel
theorem dX12_checkOne_219 : decode cX12_checkOne 219 = .ok (.aload_n 0, 1) := by decide +kernel
theorem dX12_checkOne_220 : decode cX12_checkOne 220 = .ok (.iload_n 2, 1) := by decide +kernel
theorem dX12_checkOne_221 : decode cX12_checkOne 221 = .ok (.iload_n 3, 1) := by decide +kernel
theorem dX12_checkOne_222 : decode cX12_checkOne 222 = .ok (.iconst 4, 1) := by decide +kernel
theorem dX12_checkOne_223 : decode cX12_checkOne 223 = .ok (.invokevirtual 490, 3) := by decide +kernel
theorem dX12_checkOne_226 : decode cX12_checkOne 226 = .ok (.ifCond .eq 17, 3) := by decide +kernel
theorem dX12_checkOne_229 : decode cX12_checkOne 229 = .ok (.aload_n 0, 1) := by decide +kernel
theorem dX12_checkOne_230 : decode cX12_checkOne 230 = .ok (.iload_n 2, 1) := by decide +kernel
theorem dX12_checkOne_231 : decode cX12_checkOne 231 = .ok (.iload 4, 2) := by decide +kernel
theorem dX12_checkOne_233 : decode cX12_checkOne 233 = .ok (.invokevirtual 484, 3) := by decide +kernel
theorem dX12_checkOne_236 : decode cX12_checkOne 236 = .ok (.ifCond .ge 7, 3) := by decide +kernel
theorem dX12_checkOne_239 : decode cX12_checkOne 239 = .ok (.iconst 1, 1) := by decide +kernel
theorem dX12_checkOne_240 : decode cX12_checkOne 240 = .ok (.goto 4, 3) := by decide +kernel
theorem dX12_checkOne_243 : decode cX12_checkOne 243 = .ok (.iconst 0, 1) := by decide +kernel
theorem dX12_checkOne_244 : decode cX12_checkOne 244 = .ok (.istore 5, 2) := by decide +kernel
theorem dX12_checkOne_246 : decode cX12_checkOne 246 = .ok (.iload 5, 2) := by decide +kernel
theorem dX12_checkOne_248 : decode cX12_checkOne 248 = .ok (.ifCond .eq 279, 3) := by decide +kernel
theorem dX12_checkOne_251 : decode cX12_checkOne 251 = .ok (.aload_n 0, 1) := by decide +kernel
theorem dX12_checkOne_252 : decode cX12_checkOne 252 = .ok (.iload_n 2, 1) := by decide +kernel
theorem dX12_checkOne_253 : decode cX12_checkOne 253 = .ok (.iload_n 3, 1) := by decide +kernel
theorem dX12_checkOne_254 : decode cX12_checkOne 254 = .ok (.aload_n 0, 1) := by decide +kernel
theorem dX12_checkOne_255 : decode cX12_checkOne 255 = .ok (.aload_n 0, 1) := by decide +kernel
theorem dX12_checkOne_256 : decode cX12_checkOne 256 = .ok (.iload_n 2, 1) := by decide +kernel
theorem dX12_checkOne_257 : decode cX12_checkOne 257 = .ok (.iload_n 3, 1) := by decide +kernel
theorem dX12_checkOne_258 : decode cX12_checkOne 258 = .ok (.invokevirtual 484, 3) := by decide +kernel
theorem dX12_checkOne_261 : decode cX12_checkOne 261 = .ok (.invokevirtual 455, 3) := by decide +kernel
theorem dX12_checkOne_264 : decode cX12_checkOne 264 = .ok (.invokevirtual 467, 3) := by decide +kernel
theorem dX12_checkOne_267 : decode cX12_checkOne 267 = .ok (.goto 260, 3) := by decide +kernel
theorem dX12_checkOne_270 : decode cX12_checkOne 270 = .ok (.aload_n 0, 1) := by decide +kernel
theorem dX12_checkOne_271 : decode cX12_checkOne 271 = .ok (.iload_n 2, 1) := by decide +kernel
theorem dX12_checkOne_272 : decode cX12_checkOne 272 = .ok (.iload_n 3, 1) := by decide +kernel
theorem dX12_checkOne_273 : decode cX12_checkOne 273 = .ok (.iconst 5, 1) := by decide +kernel
theorem dX12_checkOne_274 : decode cX12_checkOne 274 = .ok (.invokevirtual 490, 3) := by decide +kernel
theorem dX12_checkOne_277 : decode cX12_checkOne 277 = .ok (.ifCond .eq 47, 3) := by decide +kernel
theorem dX12_checkOne_280 : decode cX12_checkOne 280 = .ok (.iload_n 3, 1) := by decide +kernel
theorem dX12_checkOne_281 : decode cX12_checkOne 281 = .ok (.iload 4, 2) := by decide +kernel
theorem dX12_checkOne_283 : decode cX12_checkOne 283 = .ok (.if_icmp .eq 41, 3) := by decide +kernel
theorem dX12_checkOne_286 : decode cX12_checkOne 286 = .ok (.aload_n 0, 1) := by decide +kernel
theorem dX12_checkOne_287 : decode cX12_checkOne 287 = .ok (.iload_n 2, 1) := by decide +kernel
theorem dX12_checkOne_288 : decode cX12_checkOne 288 = .ok (.iload 4, 2) := by decide +kernel
theorem dX12_checkOne_290 : decode cX12_checkOne 290 = .ok (.invokevirtual 484, 3) := by decide +kernel
theorem dX12_checkOne_293 : decode cX12_checkOne 293 = .ok (.ifCond .lt 31, 3) := by decide +kernel
theorem dX12_checkOne_296 : decode cX12_checkOne 296 = .ok (.aload_n 0, 1) := by decide +kernel
theorem dX12_checkOne_297 : decode cX12_checkOne 297 = .ok (.aload_n 0, 1) := by decide +kernel
theorem dX12_checkOne_298 : decode cX12_checkOne 298 = .ok (.iload_n 2, 1) := by decide +kernel
theorem dX12_checkOne_299 : decode cX12_checkOne 299 = .ok (.iload 4, 2) := by decide +kernel
theorem dX12_checkOne_301 : decode cX12_checkOne 301 = .ok (.invokevirtual 484, 3) := by decide +kernel
theorem dX12_checkOne_304 : decode cX12_checkOne 304 = .ok (.aload_n 0, 1) := by decide +kernel
theorem dX12_checkOne_305 : decode cX12_checkOne 305 = .ok (.aload_n 0, 1) := by decide +kernel
theorem dX12_checkOne_306 : decode cX12_checkOne 306 = .ok (.iload_n 2, 1) := by decide +kernel
theorem dX12_checkOne_307 : decode cX12_checkOne 307 = .ok (.iload_n 3, 1) := by decide +kernel
theorem dX12_checkOne_308 : decode cX12_checkOne 308 = .ok (.invokevirtual 484, 3) := by decide +kernel
theorem dX12_checkOne_311 : decode cX12_checkOne 311 = .ok (.invokevirtual 452, 3) := by decide +kernel
theorem dX12_checkOne_314 : decode cX12_checkOne 314 = .ok (.invokevirtual 494, 3) := by decide +kernel
theorem dX12_checkOne_317 : decode cX12_checkOne 317 = .ok (.ifCond .eq 7, 3) := by decide +kernel
theorem dX12_checkOne_320 : decode cX12_checkOne 320 = .ok (.iconst 1, 1) := by decide +kernel
theorem dX12_checkOne_321 : decode cX12_checkOne 321 = .ok (.goto 4, 3) := by decide +kernel
theorem dX12_checkOne_324 : decode cX12_checkOne 324 = .ok (.iconst 0, 1) := by decide +kernel
theorem dX12_checkOne_325 : decode cX12_checkOne 325 = .ok (.istore 5, 2) := by decide +kernel
theorem dX12_checkOne_327 : decode cX12_checkOne 327 = .ok (.iload 5, 2) := by decide +kernel
theorem dX12_checkOne_329 : decode cX12_checkOne 329 = .ok (.ifCond .ne 6, 3) := by decide +kernel
theorem dX12_checkOne_332 : decode cX12_checkOne 332 = .ok (.goto 195, 3) := by decide +kernel
theorem dX12_checkOne_335 : decode cX12_checkOne 335 = .ok (.aload_n 0, 1) := by decide +kernel
theorem dX12_checkOne_336 : decode cX12_checkOne 336 = .ok (.getfield 135, 3) := by decide +kernel
theorem dX12_checkOne_339 : decode cX12_checkOne 339 = .ok (.sipush 1500, 3) := by decide +kernel
theorem dX12_checkOne_342 : decode cX12_checkOne 342 = .ok (.iload_n 2, 1) := by decide +kernel
theorem dX12_checkOne_343 : decode cX12_checkOne 343 = .ok (.imul, 1) := by decide +kernel
theorem dX12_checkOne_344 : decode cX12_checkOne 344 = .ok (.iload 4, 2) := by decide +kernel
theorem dX12_checkOne_346 : decode cX12_checkOne 346 = .ok (.iadd, 1) := by decide +kernel
theorem dX12_checkOne_347 : decode cX12_checkOne 347 = .ok (.iconst (-1), 1) := by decide +kernel
theorem dX12_checkOne_348 : decode cX12_checkOne 348 = .ok (.iastore, 1) := by decide +kernel
theorem dX12_checkOne_349 : decode cX12_checkOne 349 = .ok (.aload_n 0, 1) := by decide +kernel
theorem dX12_checkOne_350 : decode cX12_checkOne 350 = .ok (.iload_n 2, 1) := by decide +kernel
theorem dX12_checkOne_351 : decode cX12_checkOne 351 = .ok (.iload_n 3, 1) := by decide +kernel
theorem dX12_checkOne_352 : decode cX12_checkOne 352 = .ok (.aload_n 0, 1) := by decide +kernel
theorem dX12_checkOne_353 : decode cX12_checkOne 353 = .ok (.aload_n 0, 1) := by decide +kernel
theorem dX12_checkOne_354 : decode cX12_checkOne 354 = .ok (.iload_n 2, 1) := by decide +kernel
theorem dX12_checkOne_355 : decode cX12_checkOne 355 = .ok (.iload_n 3, 1) := by decide +kernel
theorem dX12_checkOne_356 : decode cX12_checkOne 356 = .ok (.invokevirtual 484, 3) := by decide +kernel
theorem dX12_checkOne_359 : decode cX12_checkOne 359 = .ok (.invokevirtual 455, 3) := by decide +kernel
theorem dX12_checkOne_362 : decode cX12_checkOne 362 = .ok (.invokevirtual 467, 3) := by decide +kernel
theorem dX12_checkOne_365 : decode cX12_checkOne 365 = .ok (.goto 162, 3) := by decide +kernel
theorem dX12_checkOne_368 : decode cX12_checkOne 368 = .ok (.aload_n 0, 1) := by decide +kernel
theorem dX12_checkOne_369 : decode cX12_checkOne 369 = .ok (.iload_n 2, 1) := by decide +kernel
theorem dX12_checkOne_370 : decode cX12_checkOne 370 = .ok (.iload_n 3, 1) := by decide +kernel
theorem dX12_checkOne_371 : decode cX12_checkOne 371 = .ok (.bipush 6, 2) := by decide +kernel
theorem dX12_checkOne_373 : decode cX12_checkOne 373 = .ok (.invokevirtual 490, 3) := by decide +kernel
theorem dX12_checkOne_376 : decode cX12_checkOne 376 = .ok (.ifCond .eq 17, 3) := by decide +kernel
theorem dX12_checkOne_379 : decode cX12_checkOne 379 = .ok (.aload_n 0, 1) := by decide +kernel
theorem dX12_checkOne_380 : decode cX12_checkOne 380 = .ok (.iload_n 2, 1) := by decide +kernel
theorem dX12_checkOne_381 : decode cX12_checkOne 381 = .ok (.iload 4, 2) := by decide +kernel
theorem dX12_checkOne_383 : decode cX12_checkOne 383 = .ok (.invokevirtual 484, 3) := by decide +kernel
theorem dX12_checkOne_386 : decode cX12_checkOne 386 = .ok (.ifCond .ge 7, 3) := by decide +kernel
theorem dX12_checkOne_389 : decode cX12_checkOne 389 = .ok (.iconst 1, 1) := by decide +kernel
theorem dX12_checkOne_390 : decode cX12_checkOne 390 = .ok (.goto 4, 3) := by decide +kernel
theorem dX12_checkOne_393 : decode cX12_checkOne 393 = .ok (.iconst 0, 1) := by decide +kernel
theorem dX12_checkOne_394 : decode cX12_checkOne 394 = .ok (.istore 5, 2) := by decide +kernel
theorem dX12_checkOne_396 : decode cX12_checkOne 396 = .ok (.iload 5, 2) := by decide +kernel
theorem dX12_checkOne_398 : decode cX12_checkOne 398 = .ok (.ifCond .ne 6, 3) := by decide +kernel
theorem dX12_checkOne_401 : decode cX12_checkOne 401 = .ok (.goto 126, 3) := by decide +kernel
theorem dX12_checkOne_404 : decode cX12_checkOne 404 = .ok (.aload_n 0, 1) := by decide +kernel
theorem dX12_checkOne_405 : decode cX12_checkOne 405 = .ok (.iload_n 2, 1) := by decide +kernel
theorem dX12_checkOne_406 : decode cX12_checkOne 406 = .ok (.iload 4, 2) := by decide +kernel
theorem dX12_checkOne_408 : decode cX12_checkOne 408 = .ok (.aload_n 0, 1) := by decide +kernel
theorem dX12_checkOne_409 : decode cX12_checkOne 409 = .ok (.aload_n 0, 1) := by decide +kernel
theorem dX12_checkOne_410 : decode cX12_checkOne 410 = .ok (.iload_n 2, 1) := by decide +kernel
theorem dX12_checkOne_411 : decode cX12_checkOne 411 = .ok (.iload_n 3, 1) := by decide +kernel
theorem dX12_checkOne_412 : decode cX12_checkOne 412 = .ok (.invokevirtual 484, 3) := by decide +kernel
theorem dX12_checkOne_415 : decode cX12_checkOne 415 = .ok (.invokevirtual 452, 3) := by decide +kernel
theorem dX12_checkOne_418 : decode cX12_checkOne 418 = .ok (.invokevirtual 467, 3) := by decide +kernel
theorem dX12_checkOne_421 : decode cX12_checkOne 421 = .ok (.aload_n 0, 1) := by decide +kernel
theorem dX12_checkOne_422 : decode cX12_checkOne 422 = .ok (.iload_n 2, 1) := by decide +kernel
theorem dX12_checkOne_423 : decode cX12_checkOne 423 = .ok (.iload_n 3, 1) := by decide +kernel
theorem dX12_checkOne_424 : decode cX12_checkOne 424 = .ok (.aload_n 0, 1) := by decide +kernel
theorem dX12_checkOne_425 : decode cX12_checkOne 425 = .ok (.aload_n 0, 1) := by decide +kernel
theorem dX12_checkOne_426 : decode cX12_checkOne 426 = .ok (.iload_n 2, 1) := by decide +kernel
theorem dX12_checkOne_427 : decode cX12_checkOne 427 = .ok (.iload_n 3, 1) := by decide +kernel
theorem dX12_checkOne_428 : decode cX12_checkOne 428 = .ok (.invokevirtual 484, 3) := by decide +kernel
theorem dX12_checkOne_431 : decode cX12_checkOne 431 = .ok (.invokevirtual 455, 3) := by decide +kernel
theorem dX12_checkOne_434 : decode cX12_checkOne 434 = .ok (.invokevirtual 467, 3) := by decide +kernel
theorem dX12_checkOne_437 : decode cX12_checkOne 437 = .ok (.goto 90, 3) := by decide +kernel
theorem dX12_checkOne_440 : decode cX12_checkOne 440 = .ok (.aload_n 0, 1) := by decide +kernel
theorem dX12_checkOne_441 : decode cX12_checkOne 441 = .ok (.iload_n 2, 1) := by decide +kernel
theorem dX12_checkOne_442 : decode cX12_checkOne 442 = .ok (.iload_n 3, 1) := by decide +kernel
theorem dX12_checkOne_443 : decode cX12_checkOne 443 = .ok (.bipush 7, 2) := by decide +kernel
theorem dX12_checkOne_445 : decode cX12_checkOne 445 = .ok (.invokevirtual 490, 3) := by decide +kernel
theorem dX12_checkOne_448 : decode cX12_checkOne 448 = .ok (.ifCond .eq 18, 3) := by decide +kernel
theorem dX12_checkOne_451 : decode cX12_checkOne 451 = .ok (.aload_n 0, 1) := by decide +kernel
theorem dX12_checkOne_452 : decode cX12_checkOne 452 = .ok (.aload_n 0, 1) := by decide +kernel
theorem dX12_checkOne_453 : decode cX12_checkOne 453 = .ok (.iload_n 2, 1) := by decide +kernel
theorem dX12_checkOne_454 : decode cX12_checkOne 454 = .ok (.iload_n 3, 1) := by decide +kernel
theorem dX12_checkOne_455 : decode cX12_checkOne 455 = .ok (.invokevirtual 484, 3) := by decide +kernel
theorem dX12_checkOne_458 : decode cX12_checkOne 458 = .ok (.iload 4, 2) := by decide +kernel
theorem dX12_checkOne_460 : decode cX12_checkOne 460 = .ok (.invokevirtual 448, 3) := by decide +kernel
theorem dX12_checkOne_463 : decode cX12_checkOne 463 = .ok (.goto 4, 3) := by decide +kernel
theorem dX12_checkOne_466 : decode cX12_checkOne 466 = .ok (.iconst (-1), 1) := by decide +kernel
theorem dX12_checkOne_467 : decode cX12_checkOne 467 = .ok (.istore 6, 2) := by decide +kernel
theorem dX12_checkOne_469 : decode cX12_checkOne 469 = .ok (.iload 6, 2) := by decide +kernel
theorem dX12_checkOne_471 : decode cX12_checkOne 471 = .ok (.ifCond .lt 7, 3) := by decide +kernel
theorem dX12_checkOne_474 : decode cX12_checkOne 474 = .ok (.iconst 1, 1) := by decide +kernel
theorem dX12_checkOne_475 : decode cX12_checkOne 475 = .ok (.goto 4, 3) := by decide +kernel
theorem dX12_checkOne_478 : decode cX12_checkOne 478 = .ok (.iconst 0, 1) := by decide +kernel
theorem dX12_checkOne_479 : decode cX12_checkOne 479 = .ok (.istore 5, 2) := by decide +kernel
theorem dX12_checkOne_481 : decode cX12_checkOne 481 = .ok (.iload 5, 2) := by decide +kernel
theorem dX12_checkOne_483 : decode cX12_checkOne 483 = .ok (.ifCond .eq 44, 3) := by decide +kernel
theorem dX12_checkOne_486 : decode cX12_checkOne 486 = .ok (.aload_n 0, 1) := by decide +kernel
theorem dX12_checkOne_487 : decode cX12_checkOne 487 = .ok (.iload_n 2, 1) := by decide +kernel
theorem dX12_checkOne_488 : decode cX12_checkOne 488 = .ok (.iload_n 3, 1) := by decide +kernel
theorem dX12_checkOne_489 : decode cX12_checkOne 489 = .ok (.iload 6, 2) := by decide +kernel
theorem dX12_checkOne_491 : decode cX12_checkOne 491 = .ok (.invokevirtual 467, 3) := by decide +kernel
theorem dX12_checkOne_494 : decode cX12_checkOne 494 = .ok (.goto 33, 3) := by decide +kernel
theorem dX12_checkOne_497 : decode cX12_checkOne 497 = .ok (.aload_n 0, 1) := by decide +kernel
theorem dX12_checkOne_498 : decode cX12_checkOne 498 = .ok (.iload_n 1, 1) := by decide +kernel
theorem dX12_checkOne_499 : decode cX12_checkOne 499 = .ok (.iload_n 2, 1) := by decide +kernel
theorem dX12_checkOne_500 : decode cX12_checkOne 500 = .ok (.invokevirtual 497, 3) := by decide +kernel
theorem dX12_checkOne_503 : decode cX12_checkOne 503 = .ok (.ireturn, 1) := by decide +kernel
theorem dX12_checkOne_504 : decode cX12_checkOne 504 = .ok (.aload_n 0, 1) := by decide +kernel
theorem dX12_checkOne_505 : decode cX12_checkOne 505 = .ok (.iload_n 1, 1) := by decide +kernel
theorem dX12_checkOne_506 : decode cX12_checkOne 506 = .ok (.iload_n 2, 1) := by decide +kernel
theorem dX12_checkOne_507 : decode cX12_checkOne 507 = .ok (.invokevirtual 500, 3) := by decide +kernel
theorem dX12_checkOne_510 : decode cX12_checkOne 510 = .ok (.ireturn, 1) := by decide +kernel
theorem dX12_checkOne_511 : decode cX12_checkOne 511 = .ok (.aload_n 0, 1) := by decide +kernel
theorem dX12_checkOne_512 : decode cX12_checkOne 512 = .ok (.iload_n 1, 1) := by decide +kernel
theorem dX12_checkOne_513 : decode cX12_checkOne 513 = .ok (.iload_n 2, 1) := by decide +kernel
theorem dX12_checkOne_514 : decode cX12_checkOne 514 = .ok (.invokevirtual 503, 3) := by decide +kernel
theorem dX12_checkOne_517 : decode cX12_checkOne 517 = .ok (.iconst 0, 1) := by decide +kernel
theorem dX12_checkOne_518 : decode cX12_checkOne 518 = .ok (.ireturn, 1) := by decide +kernel
theorem dX12_checkOne_519 : decode cX12_checkOne 519 = .ok (.aload_n 0, 1) := by decide +kernel
theorem dX12_checkOne_520 : decode cX12_checkOne 520 = .ok (.iload_n 1, 1) := by decide +kernel
theorem dX12_checkOne_521 : decode cX12_checkOne 521 = .ok (.iload_n 2, 1) := by decide +kernel
theorem dX12_checkOne_522 : decode cX12_checkOne 522 = .ok (.invokevirtual 506, 3) := by decide +kernel
theorem dX12_checkOne_525 : decode cX12_checkOne 525 = .ok (.istore 5, 2) := by decide +kernel
theorem dX12_checkOne_527 : decode cX12_checkOne 527 = .ok (.iload 5, 2) := by decide +kernel
theorem dX12_checkOne_529 : decode cX12_checkOne 529 = .ok (.ifCond .ne 13, 3) := by decide +kernel
theorem dX12_checkOne_532 : decode cX12_checkOne 532 = .ok (.aload_n 0, 1) := by decide +kernel
theorem dX12_checkOne_533 : decode cX12_checkOne 533 = .ok (.aload_n 0, 1) := by decide +kernel
theorem dX12_checkOne_534 : decode cX12_checkOne 534 = .ok (.getfield 52, 3) := by decide +kernel
theorem dX12_checkOne_537 : decode cX12_checkOne 537 = .ok (.iload_n 1, 1) := by decide +kernel
theorem dX12_checkOne_538 : decode cX12_checkOne 538 = .ok (.iaload, 1) := by decide +kernel
theorem dX12_checkOne_539 : decode cX12_checkOne 539 = .ok (.invokevirtual 478, 3) := by decide +kernel
theorem dX12_checkOne_542 : decode cX12_checkOne 542 = .ok (.aload_n 0, 1) := by decide +kernel
theorem dX12_checkOne_543 : decode cX12_checkOne 543 = .ok (.getfield 49, 3) := by decide +kernel
theorem dX12_checkOne_546 : decode cX12_checkOne 546 = .ok (.iload_n 1, 1) := by decide +kernel
theorem dX12_checkOne_547 : decode cX12_checkOne 547 = .ok (.iaload, 1) := by decide +kernel
theorem dX12_checkOne_548 : decode cX12_checkOne 548 = .ok (.bipush 9, 2) := by decide +kernel
theorem dX12_checkOne_550 : decode cX12_checkOne 550 = .ok (.if_icmp .ne 7, 3) := by decide +kernel
theorem dX12_checkOne_553 : decode cX12_checkOne 553 = .ok (.iconst 1, 1) := by decide +kernel
theorem dX12_checkOne_554 : decode cX12_checkOne 554 = .ok (.goto 4, 3) := by decide +kernel
theorem dX12_checkOne_557 : decode cX12_checkOne 557 = .ok (.iconst 0, 1) := by decide +kernel
theorem dX12_checkOne_558 : decode cX12_checkOne 558 = .ok (.ireturn, 1) := by decide +kernel
def bX12_checkOne_542 (g : GgX12_checkBlock) (x1 : Int32) (t : zS) : zR := zrd t 14 1600 x1 fun v3846 => if v3846 = 9 then some (1, t) else some (0, t)
def bX12_checkOne_527 (g : GgX12_checkBlock) (x1 : Int32) (x5 : Int32) (t : zS) : zR := if x5 = 0 then zrd t 15 1600 x1 fun v3848 => zbd (mX12_isBad v3848 t) fun r3850 t3851 => bX12_checkOne_542 g x1 t3851 else bX12_checkOne_542 g x1 t
def bX12_checkOne_124 (g : GgX12_checkBlock) (x1 : Int32) (y0 : Int32) (t : zS) : zR := bX12_checkOne_527 g x1 y0 t
def bX12_checkOne_123 (g : GgX12_checkBlock) (x1 : Int32) (t : zS) : zR := bX12_checkOne_124 g x1 0 t
def bX12_checkOne_159 (g : GgX12_checkBlock) (x1 : Int32) (y0 : Int32) (t : zS) : zR := bX12_checkOne_527 g x1 y0 t
def bX12_checkOne_193 (g : GgX12_checkBlock) (x1 : Int32) (x2 : Int32) (x3 : Int32) (y0 : Int32) (t : zS) : zR := if y0 = 0 then bX12_checkOne_527 g x1 y0 t else zbd (mX12_channel x2 x3 t) fun r3853 t3854 => zbd (mX12_thenOf r3853 t3854) fun r3856 t3857 => zbd (mX12_setChannel x2 x3 r3856 t3857) fun r3859 t3860 => bX12_checkOne_527 g x1 y0 t3860
def bX12_checkOne_192 (g : GgX12_checkBlock) (x1 : Int32) (x2 : Int32) (x3 : Int32) (t : zS) : zR := bX12_checkOne_193 g x1 x2 x3 0 t
def bX12_checkOne_244 (g : GgX12_checkBlock) (x1 : Int32) (x2 : Int32) (x3 : Int32) (y0 : Int32) (t : zS) : zR := if y0 = 0 then bX12_checkOne_527 g x1 y0 t else zbd (mX12_channel x2 x3 t) fun r3862 t3863 => zbd (mX12_thenOf r3862 t3863) fun r3865 t3866 => zbd (mX12_setChannel x2 x3 r3865 t3866) fun r3868 t3869 => bX12_checkOne_527 g x1 y0 t3869
def bX12_checkOne_243 (g : GgX12_checkBlock) (x1 : Int32) (x2 : Int32) (x3 : Int32) (t : zS) : zR := bX12_checkOne_244 g x1 x2 x3 0 t
def bX12_checkOne_325 (g : GgX12_checkBlock) (x1 : Int32) (x2 : Int32) (x3 : Int32) (x4 : Int32) (y0 : Int32) (t : zS) : zR := if y0 = 0 then bX12_checkOne_527 g x1 y0 t else zwr t 42 66000 ((1500 * x2) + x4) (-1) fun t3872 => zbd (mX12_channel x2 x3 t3872) fun r3873 t3874 => zbd (mX12_thenOf r3873 t3874) fun r3876 t3877 => zbd (mX12_setChannel x2 x3 r3876 t3877) fun r3879 t3880 => bX12_checkOne_527 g x1 y0 t3880
def bX12_checkOne_324 (g : GgX12_checkBlock) (x1 : Int32) (x2 : Int32) (x3 : Int32) (x4 : Int32) (t : zS) : zR := bX12_checkOne_325 g x1 x2 x3 x4 0 t
def bX12_checkOne_394 (g : GgX12_checkBlock) (x1 : Int32) (x2 : Int32) (x3 : Int32) (x4 : Int32) (y0 : Int32) (t : zS) : zR := if y0 = 0 then bX12_checkOne_527 g x1 y0 t else zbd (mX12_channel x2 x3 t) fun r3882 t3883 => zbd (mX12_givenOf r3882 t3883) fun r3885 t3886 => zbd (mX12_setChannel x2 x4 r3885 t3886) fun r3888 t3889 => zbd (mX12_channel x2 x3 t3889) fun r3891 t3892 => zbd (mX12_thenOf r3891 t3892) fun r3894 t3895 => zbd (mX12_setChannel x2 x3 r3894 t3895) fun r3897 t3898 => bX12_checkOne_527 g x1 y0 t3898
def bX12_checkOne_393 (g : GgX12_checkBlock) (x1 : Int32) (x2 : Int32) (x3 : Int32) (x4 : Int32) (t : zS) : zR := bX12_checkOne_394 g x1 x2 x3 x4 0 t
def bX12_checkOne_479 (g : GgX12_checkBlock) (x1 : Int32) (x2 : Int32) (x3 : Int32) (x6 : Int32) (y0 : Int32) (t : zS) : zR := if y0 = 0 then bX12_checkOne_527 g x1 y0 t else zbd (mX12_setChannel x2 x3 x6 t) fun r3900 t3901 => bX12_checkOne_527 g x1 y0 t3901
def bX12_checkOne_467 (g : GgX12_checkBlock) (x1 : Int32) (x2 : Int32) (x3 : Int32) (y0 : Int32) (t : zS) : zR := if y0 < 0 then bX12_checkOne_479 g x1 x2 x3 y0 0 t else bX12_checkOne_479 g x1 x2 x3 y0 1 t
def mX12_checkOne (g : GgX12_checkBlock) (x1 : Int32) (x2 : Int32) (t : zS) : zR := zrd t 16 1600 x1 fun v3903 => zrd t 17 1600 x1 fun v3905 => zrd t 14 1600 x1 fun v3907 => if v3907 = 0 then zbd (mX12_channel x2 v3903 t) fun r3909 t3910 => if 0 ≤ r3909 then bX12_checkOne_123 g x1 t3910 else zrd t3910 18 1600 x1 fun v3912 => zbd (mX12_areNumbers v3912 x2 t3910) fun r3914 t3915 => if r3914 = 0 then bX12_checkOne_123 g x1 t3915 else bX12_checkOne_124 g x1 1 t3915 else if v3907 = 1 then zbd (mX12_isOne x2 v3903 3 t) fun r3918 t3919 => if r3918 = 0 then bX12_checkOne_192 g x1 x2 v3903 t3919 else zrd t3919 18 1600 x1 fun v3921 => zbd (mX12_areNumbers v3921 x2 t3919) fun r3923 t3924 => if r3923 = 0 then bX12_checkOne_192 g x1 x2 v3903 t3924 else bX12_checkOne_193 g x1 x2 v3903 1 t3924 else if v3907 = 2 then zbd (mX12_isOne x2 v3903 4 t) fun r3927 t3928 => if r3927 = 0 then bX12_checkOne_243 g x1 x2 v3903 t3928 else zbd (mX12_channel x2 v3905 t3928) fun r3930 t3931 => if 0 ≤ r3930 then bX12_checkOne_243 g x1 x2 v3903 t3931 else bX12_checkOne_244 g x1 x2 v3903 1 t3931 else if v3907 = 3 then zbd (mX12_isOne x2 v3903 5 t) fun r3934 t3935 => if r3934 = 0 then bX12_checkOne_324 g x1 x2 v3903 v3905 t3935 else if v3903 = v3905 then bX12_checkOne_324 g x1 x2 v3903 v3905 t3935 else zbd (mX12_channel x2 v3905 t3935) fun r3937 t3938 => if r3937 < 0 then bX12_checkOne_324 g x1 x2 v3903 v3905 t3938 else zbd (mX12_channel x2 v3905 t3938) fun r3940 t3941 => zbd (mX12_channel x2 v3903 t3941) fun r3943 t3944 => zbd (mX12_givenOf r3943 t3944) fun r3946 t3947 => zbd (mX12_areEqual r3940 r3946 t3947) fun r3949 t3950 => if r3949 = 0 then bX12_checkOne_324 g x1 x2 v3903 v3905 t3950 else bX12_checkOne_325 g x1 x2 v3903 v3905 1 t3950 else if v3907 = 4 then zbd (mX12_isOne x2 v3903 6 t) fun r3953 t3954 => if r3953 = 0 then bX12_checkOne_393 g x1 x2 v3903 v3905 t3954 else zbd (mX12_channel x2 v3905 t3954) fun r3956 t3957 => if 0 ≤ r3956 then bX12_checkOne_393 g x1 x2 v3903 v3905 t3957 else bX12_checkOne_394 g x1 x2 v3903 v3905 1 t3957 else if v3907 = 5 then zbd (mX12_isOne x2 v3903 7 t) fun r3960 t3961 => if r3960 = 0 then bX12_checkOne_467 g x1 x2 v3903 (-1) t3961 else zbd (mX12_channel x2 v3903 t3961) fun r3963 t3964 => zbd (mX12_byLabel r3963 v3905 t3964) fun r3966 t3967 => bX12_checkOne_467 g x1 x2 v3903 r3966 t3967 else if v3907 = 6 then zbd (g.2.2.2.1 x1 x2 t) fun r3970 t3971 => z01 r3970 (some (r3970, t3971)) else if v3907 = 7 then zbd (mX12_checkCall x1 x2 t) fun r3975 t3976 => bX12_checkOne_527 g x1 r3975 t3976 else if v3907 = 8 then zbd (mX12_checkCall x1 x2 t) fun r3979 t3980 => bX12_checkOne_527 g x1 r3979 t3980 else if v3907 = 9 then zbd (mX12_checkCall x1 x2 t) fun r3983 t3984 => bX12_checkOne_527 g x1 r3983 t3984 else if v3907 = 10 then zbd (g.2.2.1 x1 x2 t) fun r3987 t3988 => z01 r3987 (some (r3987, t3988)) else if v3907 = 11 then zbd (g.2.2.2.2 x1 x2 t) fun r3992 t3993 => some (0, t3993) else if v3907 = 12 then zrd t 18 1600 x1 fun v3996 => zbd (mX12_areNumbers v3996 x2 t) fun r3998 t3999 => bX12_checkOne_527 g x1 r3998 t3999 else if v3907 = 13 then zbd (mX12_channel x2 v3903 t) fun r4002 t4003 => if 0 ≤ r4002 then bX12_checkOne_159 g x1 0 t4003 else bX12_checkOne_159 g x1 1 t4003 else zbd (mX12_checkCall x1 x2 t) fun r4006 t4007 => bX12_checkOne_527 g x1 r4006 t4007
set_option maxHeartbeats 4000000 in
set_option maxRecDepth 20000 in
theorem wbX12_checkOne_542 {E : zE} {C : zC} {f : Nat} {ro : Int32 × zS} (hf : 5 ≤ f) {g : GgX12_checkBlock} (hg : HgX12_checkBlock E (f - 1) g) (x1 : Int32) (t : zS) (hF : bX12_checkOne_542 g x1 t = some ro) : zJ E shM C cX12_checkOne RX12 7 f (some .boolean) ro t 542 [(0, .ref (za E 0)), (1, .int x1)] [] := by
  unfold bX12_checkOne_542 at hF
  refine z_aload_n 0 dX12_checkOne_542 rfl rfl ?_
  refine z_getr fr_RX12_49 dX12_checkOne_543 ?_
  refine z_iload_n 1 dX12_checkOne_546 rfl rfl ?_
  obtain ⟨hi3847, hF⟩ := zrd_at hF
  refine z_iald (n := 1600) rfl hi3847 dX12_checkOne_547 ?_
  generalize t 14 (Int32.toNatClampNeg x1) = v3846 at hF ⊢
  refine z_bipush (v := 9) dX12_checkOne_548 (by decide) ?_
  refine z_icmp_ne (tgt := 557) dX12_checkOne_550 (by decide) (fun hc => ?_) (fun hc => ?_)
  · have hF := zif_f hc hF
    refine z_iconst (v := 0) dX12_checkOne_557 (by decide) ?_
    exact z_zret hF (by decide) dX12_checkOne_558
  · have hF := zif_t hc hF
    refine z_iconst (v := 1) dX12_checkOne_553 (by decide) ?_
    refine z_goto (tgt := 558) dX12_checkOne_554 (by decide) ?_
    exact z_zret hF (by decide) dX12_checkOne_558
set_option maxHeartbeats 4000000 in
set_option maxRecDepth 20000 in
theorem wbX12_checkOne_527 {E : zE} {C : zC} {f : Nat} {ro : Int32 × zS} (hf : 5 ≤ f) {g : GgX12_checkBlock} (hg : HgX12_checkBlock E (f - 1) g) (x1 : Int32) (x5 : Int32) (t : zS) (hF : bX12_checkOne_527 g x1 x5 t = some ro) : zJ E shM C cX12_checkOne RX12 7 f (some .boolean) ro t 527 [(0, .ref (za E 0)), (1, .int x1), (5, .int x5)] [] := by
  unfold bX12_checkOne_527 at hF
  refine z_iload 2 dX12_checkOne_527 rfl ?_
  refine z_if_ne (tgt := 542) dX12_checkOne_529 (by decide) (fun hc => ?_) (fun hc => ?_)
  · have hF := zif_f hc hF
    refine z_sub [0, 1] rfl ?_
    exact wbX12_checkOne_542 hf hg x1 _ hF
  · have hF := zif_t hc hF
    refine z_aload_n 0 dX12_checkOne_532 rfl rfl ?_
    refine z_aload_n 0 dX12_checkOne_533 rfl rfl ?_
    refine z_getr fr_RX12_52 dX12_checkOne_534 ?_
    refine z_iload_n 1 dX12_checkOne_537 rfl rfl ?_
    obtain ⟨hi3849, hF⟩ := zrd_at hF
    refine z_iald (n := 1600) rfl hi3849 dX12_checkOne_538 ?_
    generalize t 15 (Int32.toNatClampNeg x1) = v3848 at hF ⊢
    obtain ⟨r3850, t3851, hc3852, hF⟩ := zbd_at hF
    refine z_callVv (ctX12_isBad (E := E) (f := f - 1) (by omega) hc3852) yy_X12_isBad yv_X12_isBad ob_M_0 lk_RX12_478 (by omega) rfl rfl (Nat.le_of_ble_eq_true rfl) dX12_checkOne_539 ?_
    refine z_sub [0, 1] rfl ?_
    exact wbX12_checkOne_542 hf hg x1 _ hF
set_option maxHeartbeats 4000000 in
set_option maxRecDepth 20000 in
theorem wbX12_checkOne_124 {E : zE} {C : zC} {f : Nat} {ro : Int32 × zS} (hf : 5 ≤ f) {g : GgX12_checkBlock} (hg : HgX12_checkBlock E (f - 1) g) (x1 : Int32) (y0 : Int32) (t : zS) (hF : bX12_checkOne_124 g x1 y0 t = some ro) : zJ E shM C cX12_checkOne RX12 7 f (some .boolean) ro t 124 [(0, .ref (za E 0)), (1, .int x1)] [.int y0] := by
  unfold bX12_checkOne_124 at hF
  refine z_istore (lv' := [(5, .int y0), (0, .ref (za E 0)), (1, .int x1)]) dX12_checkOne_124 (by decide) rfl ?_
  refine z_goto (tgt := 527) dX12_checkOne_126 (by decide) ?_
  refine z_sub [1, 2, 0] rfl ?_
  exact wbX12_checkOne_527 hf hg x1 y0 _ hF
set_option maxHeartbeats 4000000 in
set_option maxRecDepth 20000 in
theorem wbX12_checkOne_123 {E : zE} {C : zC} {f : Nat} {ro : Int32 × zS} (hf : 5 ≤ f) {g : GgX12_checkBlock} (hg : HgX12_checkBlock E (f - 1) g) (x1 : Int32) (t : zS) (hF : bX12_checkOne_123 g x1 t = some ro) : zJ E shM C cX12_checkOne RX12 7 f (some .boolean) ro t 123 [(0, .ref (za E 0)), (1, .int x1)] [] := by
  unfold bX12_checkOne_123 at hF
  refine z_iconst (v := 0) dX12_checkOne_123 (by decide) ?_
  exact wbX12_checkOne_124 hf hg x1 0 _ hF
set_option maxHeartbeats 4000000 in
set_option maxRecDepth 20000 in
theorem wbX12_checkOne_159 {E : zE} {C : zC} {f : Nat} {ro : Int32 × zS} (hf : 5 ≤ f) {g : GgX12_checkBlock} (hg : HgX12_checkBlock E (f - 1) g) (x1 : Int32) (y0 : Int32) (t : zS) (hF : bX12_checkOne_159 g x1 y0 t = some ro) : zJ E shM C cX12_checkOne RX12 7 f (some .boolean) ro t 159 [(0, .ref (za E 0)), (1, .int x1)] [.int y0] := by
  unfold bX12_checkOne_159 at hF
  refine z_istore (lv' := [(5, .int y0), (0, .ref (za E 0)), (1, .int x1)]) dX12_checkOne_159 (by decide) rfl ?_
  refine z_goto (tgt := 527) dX12_checkOne_161 (by decide) ?_
  refine z_sub [1, 2, 0] rfl ?_
  exact wbX12_checkOne_527 hf hg x1 y0 _ hF
set_option maxHeartbeats 4000000 in
set_option maxRecDepth 20000 in
theorem wbX12_checkOne_193 {E : zE} {C : zC} {f : Nat} {ro : Int32 × zS} (hf : 5 ≤ f) {g : GgX12_checkBlock} (hg : HgX12_checkBlock E (f - 1) g) (x1 : Int32) (x2 : Int32) (x3 : Int32) (y0 : Int32) (t : zS) (hF : bX12_checkOne_193 g x1 x2 x3 y0 t = some ro) : zJ E shM C cX12_checkOne RX12 7 f (some .boolean) ro t 193 [(0, .ref (za E 0)), (1, .int x1), (2, .int x2), (3, .int x3)] [.int y0] := by
  unfold bX12_checkOne_193 at hF
  refine z_istore (lv' := [(5, .int y0), (0, .ref (za E 0)), (1, .int x1), (2, .int x2), (3, .int x3)]) dX12_checkOne_193 (by decide) rfl ?_
  refine z_iload 0 dX12_checkOne_195 rfl ?_
  refine z_if_eq (tgt := 527) dX12_checkOne_197 (by decide) (fun hc => ?_) (fun hc => ?_)
  · have hF := zif_t hc hF
    refine z_sub [1, 2, 0] rfl ?_
    exact wbX12_checkOne_527 hf hg x1 y0 _ hF
  · have hF := zif_f hc hF
    refine z_aload_n 1 dX12_checkOne_200 rfl rfl ?_
    refine z_iload_n 3 dX12_checkOne_201 rfl rfl ?_
    refine z_iload_n 4 dX12_checkOne_202 rfl rfl ?_
    refine z_aload_n 1 dX12_checkOne_203 rfl rfl ?_
    refine z_aload_n 1 dX12_checkOne_204 rfl rfl ?_
    refine z_iload_n 3 dX12_checkOne_205 rfl rfl ?_
    refine z_iload_n 4 dX12_checkOne_206 rfl rfl ?_
    obtain ⟨r3853, t3854, hc3855, hF⟩ := zbd_at hF
    refine z_callVi (ctX12_channel (E := E) (f := f - 1) (by omega) hc3855) yy_X12_channel yv_X12_channel ob_M_0 lk_RX12_484 (by omega) rfl rfl (Nat.le_of_ble_eq_true rfl) dX12_checkOne_207 ?_
    obtain ⟨r3856, t3857, hc3858, hF⟩ := zbd_at hF
    refine z_callVi (ctX12_thenOf (E := E) (f := f - 1) (by omega) hc3858) yy_X12_thenOf yv_X12_thenOf ob_M_0 lk_RX12_455 (by omega) rfl rfl (Nat.le_of_ble_eq_true rfl) dX12_checkOne_210 ?_
    obtain ⟨r3859, t3860, hc3861, hF⟩ := zbd_at hF
    refine z_callVv (ctX12_setChannel (E := E) (f := f - 1) (by omega) hc3861) yy_X12_setChannel yv_X12_setChannel ob_M_0 lk_RX12_467 (by omega) rfl rfl (Nat.le_of_ble_eq_true rfl) dX12_checkOne_213 ?_
    refine z_goto (tgt := 527) dX12_checkOne_216 (by decide) ?_
    refine z_sub [1, 2, 0] rfl ?_
    exact wbX12_checkOne_527 hf hg x1 y0 _ hF
set_option maxHeartbeats 4000000 in
set_option maxRecDepth 20000 in
theorem wbX12_checkOne_192 {E : zE} {C : zC} {f : Nat} {ro : Int32 × zS} (hf : 5 ≤ f) {g : GgX12_checkBlock} (hg : HgX12_checkBlock E (f - 1) g) (x1 : Int32) (x2 : Int32) (x3 : Int32) (t : zS) (hF : bX12_checkOne_192 g x1 x2 x3 t = some ro) : zJ E shM C cX12_checkOne RX12 7 f (some .boolean) ro t 192 [(0, .ref (za E 0)), (1, .int x1), (2, .int x2), (3, .int x3)] [] := by
  unfold bX12_checkOne_192 at hF
  refine z_iconst (v := 0) dX12_checkOne_192 (by decide) ?_
  exact wbX12_checkOne_193 hf hg x1 x2 x3 0 _ hF
set_option maxHeartbeats 4000000 in
set_option maxRecDepth 20000 in
theorem wbX12_checkOne_244 {E : zE} {C : zC} {f : Nat} {ro : Int32 × zS} (hf : 5 ≤ f) {g : GgX12_checkBlock} (hg : HgX12_checkBlock E (f - 1) g) (x1 : Int32) (x2 : Int32) (x3 : Int32) (y0 : Int32) (t : zS) (hF : bX12_checkOne_244 g x1 x2 x3 y0 t = some ro) : zJ E shM C cX12_checkOne RX12 7 f (some .boolean) ro t 244 [(0, .ref (za E 0)), (1, .int x1), (2, .int x2), (3, .int x3)] [.int y0] := by
  unfold bX12_checkOne_244 at hF
  refine z_istore (lv' := [(5, .int y0), (0, .ref (za E 0)), (1, .int x1), (2, .int x2), (3, .int x3)]) dX12_checkOne_244 (by decide) rfl ?_
  refine z_iload 0 dX12_checkOne_246 rfl ?_
  refine z_if_eq (tgt := 527) dX12_checkOne_248 (by decide) (fun hc => ?_) (fun hc => ?_)
  · have hF := zif_t hc hF
    refine z_sub [1, 2, 0] rfl ?_
    exact wbX12_checkOne_527 hf hg x1 y0 _ hF
  · have hF := zif_f hc hF
    refine z_aload_n 1 dX12_checkOne_251 rfl rfl ?_
    refine z_iload_n 3 dX12_checkOne_252 rfl rfl ?_
    refine z_iload_n 4 dX12_checkOne_253 rfl rfl ?_
    refine z_aload_n 1 dX12_checkOne_254 rfl rfl ?_
    refine z_aload_n 1 dX12_checkOne_255 rfl rfl ?_
    refine z_iload_n 3 dX12_checkOne_256 rfl rfl ?_
    refine z_iload_n 4 dX12_checkOne_257 rfl rfl ?_
    obtain ⟨r3862, t3863, hc3864, hF⟩ := zbd_at hF
    refine z_callVi (ctX12_channel (E := E) (f := f - 1) (by omega) hc3864) yy_X12_channel yv_X12_channel ob_M_0 lk_RX12_484 (by omega) rfl rfl (Nat.le_of_ble_eq_true rfl) dX12_checkOne_258 ?_
    obtain ⟨r3865, t3866, hc3867, hF⟩ := zbd_at hF
    refine z_callVi (ctX12_thenOf (E := E) (f := f - 1) (by omega) hc3867) yy_X12_thenOf yv_X12_thenOf ob_M_0 lk_RX12_455 (by omega) rfl rfl (Nat.le_of_ble_eq_true rfl) dX12_checkOne_261 ?_
    obtain ⟨r3868, t3869, hc3870, hF⟩ := zbd_at hF
    refine z_callVv (ctX12_setChannel (E := E) (f := f - 1) (by omega) hc3870) yy_X12_setChannel yv_X12_setChannel ob_M_0 lk_RX12_467 (by omega) rfl rfl (Nat.le_of_ble_eq_true rfl) dX12_checkOne_264 ?_
    refine z_goto (tgt := 527) dX12_checkOne_267 (by decide) ?_
    refine z_sub [1, 2, 0] rfl ?_
    exact wbX12_checkOne_527 hf hg x1 y0 _ hF
set_option maxHeartbeats 4000000 in
set_option maxRecDepth 20000 in
theorem wbX12_checkOne_243 {E : zE} {C : zC} {f : Nat} {ro : Int32 × zS} (hf : 5 ≤ f) {g : GgX12_checkBlock} (hg : HgX12_checkBlock E (f - 1) g) (x1 : Int32) (x2 : Int32) (x3 : Int32) (t : zS) (hF : bX12_checkOne_243 g x1 x2 x3 t = some ro) : zJ E shM C cX12_checkOne RX12 7 f (some .boolean) ro t 243 [(0, .ref (za E 0)), (1, .int x1), (2, .int x2), (3, .int x3)] [] := by
  unfold bX12_checkOne_243 at hF
  refine z_iconst (v := 0) dX12_checkOne_243 (by decide) ?_
  exact wbX12_checkOne_244 hf hg x1 x2 x3 0 _ hF
set_option maxHeartbeats 4000000 in
set_option maxRecDepth 20000 in
theorem wbX12_checkOne_325 {E : zE} {C : zC} {f : Nat} {ro : Int32 × zS} (hf : 5 ≤ f) {g : GgX12_checkBlock} (hg : HgX12_checkBlock E (f - 1) g) (x1 : Int32) (x2 : Int32) (x3 : Int32) (x4 : Int32) (y0 : Int32) (t : zS) (hF : bX12_checkOne_325 g x1 x2 x3 x4 y0 t = some ro) : zJ E shM C cX12_checkOne RX12 7 f (some .boolean) ro t 325 [(0, .ref (za E 0)), (1, .int x1), (2, .int x2), (3, .int x3), (4, .int x4)] [.int y0] := by
  unfold bX12_checkOne_325 at hF
  refine z_istore (lv' := [(5, .int y0), (0, .ref (za E 0)), (1, .int x1), (2, .int x2), (3, .int x3), (4, .int x4)]) dX12_checkOne_325 (by decide) rfl ?_
  refine z_iload 0 dX12_checkOne_327 rfl ?_
  refine z_if_ne (tgt := 335) dX12_checkOne_329 (by decide) (fun hc => ?_) (fun hc => ?_)
  · have hF := zif_f hc hF
    refine z_aload_n 1 dX12_checkOne_335 rfl rfl ?_
    refine z_getr fr_RX12_135 dX12_checkOne_336 ?_
    refine z_sipush (v := 1500) dX12_checkOne_339 (by decide) ?_
    refine z_iload_n 3 dX12_checkOne_342 rfl rfl ?_
    refine z_imul dX12_checkOne_343 ?_
    refine z_iload 5 dX12_checkOne_344 rfl ?_
    refine z_iadd dX12_checkOne_346 ?_
    refine z_iconst (v := (-1)) dX12_checkOne_347 (by decide) ?_
    obtain ⟨hi3871, hF⟩ := zwr_at hF
    refine z_iast (n := 66000) rfl hi3871 dX12_checkOne_348 (fun t3872 et3872 => ?_)
    have hF := hF t3872 et3872
    refine z_aload_n 1 dX12_checkOne_349 rfl rfl ?_
    refine z_iload_n 3 dX12_checkOne_350 rfl rfl ?_
    refine z_iload_n 4 dX12_checkOne_351 rfl rfl ?_
    refine z_aload_n 1 dX12_checkOne_352 rfl rfl ?_
    refine z_aload_n 1 dX12_checkOne_353 rfl rfl ?_
    refine z_iload_n 3 dX12_checkOne_354 rfl rfl ?_
    refine z_iload_n 4 dX12_checkOne_355 rfl rfl ?_
    obtain ⟨r3873, t3874, hc3875, hF⟩ := zbd_at hF
    refine z_callVi (ctX12_channel (E := E) (f := f - 1) (by omega) hc3875) yy_X12_channel yv_X12_channel ob_M_0 lk_RX12_484 (by omega) rfl rfl (Nat.le_of_ble_eq_true rfl) dX12_checkOne_356 ?_
    obtain ⟨r3876, t3877, hc3878, hF⟩ := zbd_at hF
    refine z_callVi (ctX12_thenOf (E := E) (f := f - 1) (by omega) hc3878) yy_X12_thenOf yv_X12_thenOf ob_M_0 lk_RX12_455 (by omega) rfl rfl (Nat.le_of_ble_eq_true rfl) dX12_checkOne_359 ?_
    obtain ⟨r3879, t3880, hc3881, hF⟩ := zbd_at hF
    refine z_callVv (ctX12_setChannel (E := E) (f := f - 1) (by omega) hc3881) yy_X12_setChannel yv_X12_setChannel ob_M_0 lk_RX12_467 (by omega) rfl rfl (Nat.le_of_ble_eq_true rfl) dX12_checkOne_362 ?_
    refine z_goto (tgt := 527) dX12_checkOne_365 (by decide) ?_
    refine z_sub [1, 2, 0] rfl ?_
    exact wbX12_checkOne_527 hf hg x1 y0 _ hF
  · have hF := zif_t hc hF
    refine z_goto (tgt := 527) dX12_checkOne_332 (by decide) ?_
    refine z_sub [1, 2, 0] rfl ?_
    exact wbX12_checkOne_527 hf hg x1 y0 _ hF
set_option maxHeartbeats 4000000 in
set_option maxRecDepth 20000 in
theorem wbX12_checkOne_324 {E : zE} {C : zC} {f : Nat} {ro : Int32 × zS} (hf : 5 ≤ f) {g : GgX12_checkBlock} (hg : HgX12_checkBlock E (f - 1) g) (x1 : Int32) (x2 : Int32) (x3 : Int32) (x4 : Int32) (t : zS) (hF : bX12_checkOne_324 g x1 x2 x3 x4 t = some ro) : zJ E shM C cX12_checkOne RX12 7 f (some .boolean) ro t 324 [(0, .ref (za E 0)), (1, .int x1), (2, .int x2), (3, .int x3), (4, .int x4)] [] := by
  unfold bX12_checkOne_324 at hF
  refine z_iconst (v := 0) dX12_checkOne_324 (by decide) ?_
  exact wbX12_checkOne_325 hf hg x1 x2 x3 x4 0 _ hF
set_option maxHeartbeats 4000000 in
set_option maxRecDepth 20000 in
theorem wbX12_checkOne_394 {E : zE} {C : zC} {f : Nat} {ro : Int32 × zS} (hf : 5 ≤ f) {g : GgX12_checkBlock} (hg : HgX12_checkBlock E (f - 1) g) (x1 : Int32) (x2 : Int32) (x3 : Int32) (x4 : Int32) (y0 : Int32) (t : zS) (hF : bX12_checkOne_394 g x1 x2 x3 x4 y0 t = some ro) : zJ E shM C cX12_checkOne RX12 7 f (some .boolean) ro t 394 [(0, .ref (za E 0)), (1, .int x1), (2, .int x2), (3, .int x3), (4, .int x4)] [.int y0] := by
  unfold bX12_checkOne_394 at hF
  refine z_istore (lv' := [(5, .int y0), (0, .ref (za E 0)), (1, .int x1), (2, .int x2), (3, .int x3), (4, .int x4)]) dX12_checkOne_394 (by decide) rfl ?_
  refine z_iload 0 dX12_checkOne_396 rfl ?_
  refine z_if_ne (tgt := 404) dX12_checkOne_398 (by decide) (fun hc => ?_) (fun hc => ?_)
  · have hF := zif_f hc hF
    refine z_aload_n 1 dX12_checkOne_404 rfl rfl ?_
    refine z_iload_n 3 dX12_checkOne_405 rfl rfl ?_
    refine z_iload 5 dX12_checkOne_406 rfl ?_
    refine z_aload_n 1 dX12_checkOne_408 rfl rfl ?_
    refine z_aload_n 1 dX12_checkOne_409 rfl rfl ?_
    refine z_iload_n 3 dX12_checkOne_410 rfl rfl ?_
    refine z_iload_n 4 dX12_checkOne_411 rfl rfl ?_
    obtain ⟨r3882, t3883, hc3884, hF⟩ := zbd_at hF
    refine z_callVi (ctX12_channel (E := E) (f := f - 1) (by omega) hc3884) yy_X12_channel yv_X12_channel ob_M_0 lk_RX12_484 (by omega) rfl rfl (Nat.le_of_ble_eq_true rfl) dX12_checkOne_412 ?_
    obtain ⟨r3885, t3886, hc3887, hF⟩ := zbd_at hF
    refine z_callVi (ctX12_givenOf (E := E) (f := f - 1) (by omega) hc3887) yy_X12_givenOf yv_X12_givenOf ob_M_0 lk_RX12_452 (by omega) rfl rfl (Nat.le_of_ble_eq_true rfl) dX12_checkOne_415 ?_
    obtain ⟨r3888, t3889, hc3890, hF⟩ := zbd_at hF
    refine z_callVv (ctX12_setChannel (E := E) (f := f - 1) (by omega) hc3890) yy_X12_setChannel yv_X12_setChannel ob_M_0 lk_RX12_467 (by omega) rfl rfl (Nat.le_of_ble_eq_true rfl) dX12_checkOne_418 ?_
    refine z_aload_n 1 dX12_checkOne_421 rfl rfl ?_
    refine z_iload_n 3 dX12_checkOne_422 rfl rfl ?_
    refine z_iload_n 4 dX12_checkOne_423 rfl rfl ?_
    refine z_aload_n 1 dX12_checkOne_424 rfl rfl ?_
    refine z_aload_n 1 dX12_checkOne_425 rfl rfl ?_
    refine z_iload_n 3 dX12_checkOne_426 rfl rfl ?_
    refine z_iload_n 4 dX12_checkOne_427 rfl rfl ?_
    obtain ⟨r3891, t3892, hc3893, hF⟩ := zbd_at hF
    refine z_callVi (ctX12_channel (E := E) (f := f - 1) (by omega) hc3893) yy_X12_channel yv_X12_channel ob_M_0 lk_RX12_484 (by omega) rfl rfl (Nat.le_of_ble_eq_true rfl) dX12_checkOne_428 ?_
    obtain ⟨r3894, t3895, hc3896, hF⟩ := zbd_at hF
    refine z_callVi (ctX12_thenOf (E := E) (f := f - 1) (by omega) hc3896) yy_X12_thenOf yv_X12_thenOf ob_M_0 lk_RX12_455 (by omega) rfl rfl (Nat.le_of_ble_eq_true rfl) dX12_checkOne_431 ?_
    obtain ⟨r3897, t3898, hc3899, hF⟩ := zbd_at hF
    refine z_callVv (ctX12_setChannel (E := E) (f := f - 1) (by omega) hc3899) yy_X12_setChannel yv_X12_setChannel ob_M_0 lk_RX12_467 (by omega) rfl rfl (Nat.le_of_ble_eq_true rfl) dX12_checkOne_434 ?_
    refine z_goto (tgt := 527) dX12_checkOne_437 (by decide) ?_
    refine z_sub [1, 2, 0] rfl ?_
    exact wbX12_checkOne_527 hf hg x1 y0 _ hF
  · have hF := zif_t hc hF
    refine z_goto (tgt := 527) dX12_checkOne_401 (by decide) ?_
    refine z_sub [1, 2, 0] rfl ?_
    exact wbX12_checkOne_527 hf hg x1 y0 _ hF
set_option maxHeartbeats 4000000 in
set_option maxRecDepth 20000 in
theorem wbX12_checkOne_393 {E : zE} {C : zC} {f : Nat} {ro : Int32 × zS} (hf : 5 ≤ f) {g : GgX12_checkBlock} (hg : HgX12_checkBlock E (f - 1) g) (x1 : Int32) (x2 : Int32) (x3 : Int32) (x4 : Int32) (t : zS) (hF : bX12_checkOne_393 g x1 x2 x3 x4 t = some ro) : zJ E shM C cX12_checkOne RX12 7 f (some .boolean) ro t 393 [(0, .ref (za E 0)), (1, .int x1), (2, .int x2), (3, .int x3), (4, .int x4)] [] := by
  unfold bX12_checkOne_393 at hF
  refine z_iconst (v := 0) dX12_checkOne_393 (by decide) ?_
  exact wbX12_checkOne_394 hf hg x1 x2 x3 x4 0 _ hF
set_option maxHeartbeats 4000000 in
set_option maxRecDepth 20000 in
theorem wbX12_checkOne_479 {E : zE} {C : zC} {f : Nat} {ro : Int32 × zS} (hf : 5 ≤ f) {g : GgX12_checkBlock} (hg : HgX12_checkBlock E (f - 1) g) (x1 : Int32) (x2 : Int32) (x3 : Int32) (x6 : Int32) (y0 : Int32) (t : zS) (hF : bX12_checkOne_479 g x1 x2 x3 x6 y0 t = some ro) : zJ E shM C cX12_checkOne RX12 7 f (some .boolean) ro t 479 [(0, .ref (za E 0)), (1, .int x1), (2, .int x2), (3, .int x3), (6, .int x6)] [.int y0] := by
  unfold bX12_checkOne_479 at hF
  refine z_istore (lv' := [(5, .int y0), (0, .ref (za E 0)), (1, .int x1), (2, .int x2), (3, .int x3), (6, .int x6)]) dX12_checkOne_479 (by decide) rfl ?_
  refine z_iload 0 dX12_checkOne_481 rfl ?_
  refine z_if_eq (tgt := 527) dX12_checkOne_483 (by decide) (fun hc => ?_) (fun hc => ?_)
  · have hF := zif_t hc hF
    refine z_sub [1, 2, 0] rfl ?_
    exact wbX12_checkOne_527 hf hg x1 y0 _ hF
  · have hF := zif_f hc hF
    refine z_aload_n 1 dX12_checkOne_486 rfl rfl ?_
    refine z_iload_n 3 dX12_checkOne_487 rfl rfl ?_
    refine z_iload_n 4 dX12_checkOne_488 rfl rfl ?_
    refine z_iload 5 dX12_checkOne_489 rfl ?_
    obtain ⟨r3900, t3901, hc3902, hF⟩ := zbd_at hF
    refine z_callVv (ctX12_setChannel (E := E) (f := f - 1) (by omega) hc3902) yy_X12_setChannel yv_X12_setChannel ob_M_0 lk_RX12_467 (by omega) rfl rfl (Nat.le_of_ble_eq_true rfl) dX12_checkOne_491 ?_
    refine z_goto (tgt := 527) dX12_checkOne_494 (by decide) ?_
    refine z_sub [1, 2, 0] rfl ?_
    exact wbX12_checkOne_527 hf hg x1 y0 _ hF
set_option maxHeartbeats 4000000 in
set_option maxRecDepth 20000 in
theorem wbX12_checkOne_467 {E : zE} {C : zC} {f : Nat} {ro : Int32 × zS} (hf : 5 ≤ f) {g : GgX12_checkBlock} (hg : HgX12_checkBlock E (f - 1) g) (x1 : Int32) (x2 : Int32) (x3 : Int32) (y0 : Int32) (t : zS) (hF : bX12_checkOne_467 g x1 x2 x3 y0 t = some ro) : zJ E shM C cX12_checkOne RX12 7 f (some .boolean) ro t 467 [(0, .ref (za E 0)), (1, .int x1), (2, .int x2), (3, .int x3)] [.int y0] := by
  unfold bX12_checkOne_467 at hF
  refine z_istore (lv' := [(6, .int y0), (0, .ref (za E 0)), (1, .int x1), (2, .int x2), (3, .int x3)]) dX12_checkOne_467 (by decide) rfl ?_
  refine z_iload 0 dX12_checkOne_469 rfl ?_
  refine z_if_lt (tgt := 478) dX12_checkOne_471 (by decide) (fun hc => ?_) (fun hc => ?_)
  · have hF := zif_t hc hF
    refine z_iconst (v := 0) dX12_checkOne_478 (by decide) ?_
    refine z_sub [1, 2, 3, 4, 0] rfl ?_
    exact wbX12_checkOne_479 hf hg x1 x2 x3 y0 0 _ hF
  · have hF := zif_f hc hF
    refine z_iconst (v := 1) dX12_checkOne_474 (by decide) ?_
    refine z_goto (tgt := 479) dX12_checkOne_475 (by decide) ?_
    refine z_sub [1, 2, 3, 4, 0] rfl ?_
    exact wbX12_checkOne_479 hf hg x1 x2 x3 y0 1 _ hF
set_option maxHeartbeats 4000000 in
set_option maxRecDepth 20000 in
theorem ctX12_checkOne {E : zE} {f : Nat} (hf : 5 ≤ f) {g : GgX12_checkBlock} (hg : HgX12_checkBlock E (f - 1) g) {x1 : Int32} {x2 : Int32} {t : zS} {ro : Int32 × zS} (hF : mX12_checkOne g x1 x2 t = some ro) : zM E shM f yX12_checkOne cX12_checkOne 7 (some .boolean) [.ref (za E 0), .int x1, .int x2] t ro := by
  refine zM_of (by decide) (Nat.le_of_ble_eq_true rfl) (fun C => ?_)
  show zJ E shM C cX12_checkOne RX12 7 f (some .boolean) ro t 0 [(0, .ref (za E 0)), (1, .int x1), (2, .int x2)] []
  unfold mX12_checkOne at hF
  refine z_aload_n 0 dX12_checkOne_0 rfl rfl ?_
  refine z_getr fr_RX12_55 dX12_checkOne_1 ?_
  refine z_iload_n 1 dX12_checkOne_4 rfl rfl ?_
  obtain ⟨hi3904, hF⟩ := zrd_at hF
  refine z_iald (n := 1600) rfl hi3904 dX12_checkOne_5 ?_
  generalize t 16 (Int32.toNatClampNeg x1) = v3903 at hF ⊢
  refine z_istore_n (lv' := [(3, .int v3903), (0, .ref (za E 0)), (1, .int x1), (2, .int x2)]) dX12_checkOne_6 rfl (by decide) rfl ?_
  refine z_aload_n 1 dX12_checkOne_7 rfl rfl ?_
  refine z_getr fr_RX12_58 dX12_checkOne_8 ?_
  refine z_iload_n 2 dX12_checkOne_11 rfl rfl ?_
  obtain ⟨hi3906, hF⟩ := zrd_at hF
  refine z_iald (n := 1600) rfl hi3906 dX12_checkOne_12 ?_
  generalize t 17 (Int32.toNatClampNeg x1) = v3905 at hF ⊢
  refine z_istore (lv' := [(4, .int v3905), (3, .int v3903), (0, .ref (za E 0)), (1, .int x1), (2, .int x2)]) dX12_checkOne_13 (by decide) rfl ?_
  refine z_iconst (v := 1) dX12_checkOne_15 (by decide) ?_
  refine z_istore (lv' := [(5, .int 1), (4, .int v3905), (3, .int v3903), (0, .ref (za E 0)), (1, .int x1), (2, .int x2)]) dX12_checkOne_16 (by decide) rfl ?_
  refine z_aload_n 3 dX12_checkOne_18 rfl rfl ?_
  refine z_getr fr_RX12_49 dX12_checkOne_19 ?_
  refine z_iload_n 4 dX12_checkOne_22 rfl rfl ?_
  obtain ⟨hi3908, hF⟩ := zrd_at hF
  refine z_iald (n := 1600) rfl hi3908 dX12_checkOne_23 ?_
  generalize t 14 (Int32.toNatClampNeg x1) = v3907 at hF ⊢
  by_cases hc : v3907 = 0
  · have hF := zif_t hc hF
    refine z_tabIn (tgt := 96) dX12_checkOne_24 (by rw [hc]; decide) (by rw [hc]; decide) (by rw [hc]; rfl) (by decide) ?_
    refine z_aload_n 3 dX12_checkOne_96 rfl rfl ?_
    refine z_iload_n 5 dX12_checkOne_97 rfl rfl ?_
    refine z_iload_n 2 dX12_checkOne_98 rfl rfl ?_
    obtain ⟨r3909, t3910, hc3911, hF⟩ := zbd_at hF
    refine z_callVi (ctX12_channel (E := E) (f := f - 1) (by omega) hc3911) yy_X12_channel yv_X12_channel ob_M_0 lk_RX12_484 (by omega) rfl rfl (Nat.le_of_ble_eq_true rfl) dX12_checkOne_99 ?_
    refine z_if_ge (tgt := 123) dX12_checkOne_102 (by decide) (fun hc => ?_) (fun hc => ?_)
    · have hF := zif_t hc hF
      refine z_sub [3, 4] rfl ?_
      exact wbX12_checkOne_123 hf hg x1 _ hF
    · have hF := zif_f hc hF
      refine z_aload_n 3 dX12_checkOne_105 rfl rfl ?_
      refine z_aload_n 3 dX12_checkOne_106 rfl rfl ?_
      refine z_getr fr_RX12_61 dX12_checkOne_107 ?_
      refine z_iload_n 4 dX12_checkOne_110 rfl rfl ?_
      obtain ⟨hi3913, hF⟩ := zrd_at hF
      refine z_iald (n := 1600) rfl hi3913 dX12_checkOne_111 ?_
      generalize t3910 18 (Int32.toNatClampNeg x1) = v3912 at hF ⊢
      refine z_iload_n 5 dX12_checkOne_112 rfl rfl ?_
      obtain ⟨r3914, t3915, hc3916, hF⟩ := zbd_at hF
      refine z_callVi (ctX12_areNumbers (E := E) (f := f - 1) (by omega) hc3916) yy_X12_areNumbers yv_X12_areNumbers ob_M_0 lk_RX12_487 (by omega) rfl rfl (Nat.le_of_ble_eq_true rfl) dX12_checkOne_113 ?_
      refine z_if_eq (tgt := 123) dX12_checkOne_116 (by decide) (fun hc => ?_) (fun hc => ?_)
      · have hF := zif_t hc hF
        refine z_sub [3, 4] rfl ?_
        exact wbX12_checkOne_123 hf hg x1 _ hF
      · have hF := zif_f hc hF
        refine z_iconst (v := 1) dX12_checkOne_119 (by decide) ?_
        refine z_goto (tgt := 124) dX12_checkOne_120 (by decide) ?_
        refine z_sub [3, 4] rfl ?_
        exact wbX12_checkOne_124 hf hg x1 1 _ hF
  have hF := zif_f hc hF
  have hn3917 := hc; clear hc
  by_cases hc : v3907 = 1
  · have hF := zif_t hc hF
    refine z_tabIn (tgt := 164) dX12_checkOne_24 (by rw [hc]; decide) (by rw [hc]; decide) (by rw [hc]; rfl) (by decide) ?_
    refine z_aload_n 3 dX12_checkOne_164 rfl rfl ?_
    refine z_iload_n 5 dX12_checkOne_165 rfl rfl ?_
    refine z_iload_n 2 dX12_checkOne_166 rfl rfl ?_
    refine z_iconst (v := 3) dX12_checkOne_167 (by decide) ?_
    obtain ⟨r3918, t3919, hc3920, hF⟩ := zbd_at hF
    refine z_callVi (ctX12_isOne (E := E) (f := f - 1) (by omega) hc3920) yy_X12_isOne yv_X12_isOne ob_M_0 lk_RX12_490 (by omega) rfl rfl (Nat.le_of_ble_eq_true rfl) dX12_checkOne_168 ?_
    refine z_if_eq (tgt := 192) dX12_checkOne_171 (by decide) (fun hc => ?_) (fun hc => ?_)
    · have hF := zif_t hc hF
      refine z_sub [3, 4, 5, 2] rfl ?_
      exact wbX12_checkOne_192 hf hg x1 x2 v3903 _ hF
    · have hF := zif_f hc hF
      refine z_aload_n 3 dX12_checkOne_174 rfl rfl ?_
      refine z_aload_n 3 dX12_checkOne_175 rfl rfl ?_
      refine z_getr fr_RX12_61 dX12_checkOne_176 ?_
      refine z_iload_n 4 dX12_checkOne_179 rfl rfl ?_
      obtain ⟨hi3922, hF⟩ := zrd_at hF
      refine z_iald (n := 1600) rfl hi3922 dX12_checkOne_180 ?_
      generalize t3919 18 (Int32.toNatClampNeg x1) = v3921 at hF ⊢
      refine z_iload_n 5 dX12_checkOne_181 rfl rfl ?_
      obtain ⟨r3923, t3924, hc3925, hF⟩ := zbd_at hF
      refine z_callVi (ctX12_areNumbers (E := E) (f := f - 1) (by omega) hc3925) yy_X12_areNumbers yv_X12_areNumbers ob_M_0 lk_RX12_487 (by omega) rfl rfl (Nat.le_of_ble_eq_true rfl) dX12_checkOne_182 ?_
      refine z_if_eq (tgt := 192) dX12_checkOne_185 (by decide) (fun hc => ?_) (fun hc => ?_)
      · have hF := zif_t hc hF
        refine z_sub [3, 4, 5, 2] rfl ?_
        exact wbX12_checkOne_192 hf hg x1 x2 v3903 _ hF
      · have hF := zif_f hc hF
        refine z_iconst (v := 1) dX12_checkOne_188 (by decide) ?_
        refine z_goto (tgt := 193) dX12_checkOne_189 (by decide) ?_
        refine z_sub [3, 4, 5, 2] rfl ?_
        exact wbX12_checkOne_193 hf hg x1 x2 v3903 1 _ hF
  have hF := zif_f hc hF
  have hn3926 := hc; clear hc
  by_cases hc : v3907 = 2
  · have hF := zif_t hc hF
    refine z_tabIn (tgt := 219) dX12_checkOne_24 (by rw [hc]; decide) (by rw [hc]; decide) (by rw [hc]; rfl) (by decide) ?_
    refine z_aload_n 3 dX12_checkOne_219 rfl rfl ?_
    refine z_iload_n 5 dX12_checkOne_220 rfl rfl ?_
    refine z_iload_n 2 dX12_checkOne_221 rfl rfl ?_
    refine z_iconst (v := 4) dX12_checkOne_222 (by decide) ?_
    obtain ⟨r3927, t3928, hc3929, hF⟩ := zbd_at hF
    refine z_callVi (ctX12_isOne (E := E) (f := f - 1) (by omega) hc3929) yy_X12_isOne yv_X12_isOne ob_M_0 lk_RX12_490 (by omega) rfl rfl (Nat.le_of_ble_eq_true rfl) dX12_checkOne_223 ?_
    refine z_if_eq (tgt := 243) dX12_checkOne_226 (by decide) (fun hc => ?_) (fun hc => ?_)
    · have hF := zif_t hc hF
      refine z_sub [3, 4, 5, 2] rfl ?_
      exact wbX12_checkOne_243 hf hg x1 x2 v3903 _ hF
    · have hF := zif_f hc hF
      refine z_aload_n 3 dX12_checkOne_229 rfl rfl ?_
      refine z_iload_n 5 dX12_checkOne_230 rfl rfl ?_
      refine z_iload 1 dX12_checkOne_231 rfl ?_
      obtain ⟨r3930, t3931, hc3932, hF⟩ := zbd_at hF
      refine z_callVi (ctX12_channel (E := E) (f := f - 1) (by omega) hc3932) yy_X12_channel yv_X12_channel ob_M_0 lk_RX12_484 (by omega) rfl rfl (Nat.le_of_ble_eq_true rfl) dX12_checkOne_233 ?_
      refine z_if_ge (tgt := 243) dX12_checkOne_236 (by decide) (fun hc => ?_) (fun hc => ?_)
      · have hF := zif_t hc hF
        refine z_sub [3, 4, 5, 2] rfl ?_
        exact wbX12_checkOne_243 hf hg x1 x2 v3903 _ hF
      · have hF := zif_f hc hF
        refine z_iconst (v := 1) dX12_checkOne_239 (by decide) ?_
        refine z_goto (tgt := 244) dX12_checkOne_240 (by decide) ?_
        refine z_sub [3, 4, 5, 2] rfl ?_
        exact wbX12_checkOne_244 hf hg x1 x2 v3903 1 _ hF
  have hF := zif_f hc hF
  have hn3933 := hc; clear hc
  by_cases hc : v3907 = 3
  · have hF := zif_t hc hF
    refine z_tabIn (tgt := 270) dX12_checkOne_24 (by rw [hc]; decide) (by rw [hc]; decide) (by rw [hc]; rfl) (by decide) ?_
    refine z_aload_n 3 dX12_checkOne_270 rfl rfl ?_
    refine z_iload_n 5 dX12_checkOne_271 rfl rfl ?_
    refine z_iload_n 2 dX12_checkOne_272 rfl rfl ?_
    refine z_iconst (v := 5) dX12_checkOne_273 (by decide) ?_
    obtain ⟨r3934, t3935, hc3936, hF⟩ := zbd_at hF
    refine z_callVi (ctX12_isOne (E := E) (f := f - 1) (by omega) hc3936) yy_X12_isOne yv_X12_isOne ob_M_0 lk_RX12_490 (by omega) rfl rfl (Nat.le_of_ble_eq_true rfl) dX12_checkOne_274 ?_
    refine z_if_eq (tgt := 324) dX12_checkOne_277 (by decide) (fun hc => ?_) (fun hc => ?_)
    · have hF := zif_t hc hF
      refine z_sub [3, 4, 5, 2, 1] rfl ?_
      exact wbX12_checkOne_324 hf hg x1 x2 v3903 v3905 _ hF
    · have hF := zif_f hc hF
      refine z_iload_n 2 dX12_checkOne_280 rfl rfl ?_
      refine z_iload 1 dX12_checkOne_281 rfl ?_
      refine z_icmp_eq (tgt := 324) dX12_checkOne_283 (by decide) (fun hc => ?_) (fun hc => ?_)
      · have hF := zif_t hc hF
        refine z_sub [3, 4, 5, 2, 1] rfl ?_
        exact wbX12_checkOne_324 hf hg x1 x2 v3903 v3905 _ hF
      · have hF := zif_f hc hF
        refine z_aload_n 3 dX12_checkOne_286 rfl rfl ?_
        refine z_iload_n 5 dX12_checkOne_287 rfl rfl ?_
        refine z_iload 1 dX12_checkOne_288 rfl ?_
        obtain ⟨r3937, t3938, hc3939, hF⟩ := zbd_at hF
        refine z_callVi (ctX12_channel (E := E) (f := f - 1) (by omega) hc3939) yy_X12_channel yv_X12_channel ob_M_0 lk_RX12_484 (by omega) rfl rfl (Nat.le_of_ble_eq_true rfl) dX12_checkOne_290 ?_
        refine z_if_lt (tgt := 324) dX12_checkOne_293 (by decide) (fun hc => ?_) (fun hc => ?_)
        · have hF := zif_t hc hF
          refine z_sub [3, 4, 5, 2, 1] rfl ?_
          exact wbX12_checkOne_324 hf hg x1 x2 v3903 v3905 _ hF
        · have hF := zif_f hc hF
          refine z_aload_n 3 dX12_checkOne_296 rfl rfl ?_
          refine z_aload_n 3 dX12_checkOne_297 rfl rfl ?_
          refine z_iload_n 5 dX12_checkOne_298 rfl rfl ?_
          refine z_iload 1 dX12_checkOne_299 rfl ?_
          obtain ⟨r3940, t3941, hc3942, hF⟩ := zbd_at hF
          refine z_callVi (ctX12_channel (E := E) (f := f - 1) (by omega) hc3942) yy_X12_channel yv_X12_channel ob_M_0 lk_RX12_484 (by omega) rfl rfl (Nat.le_of_ble_eq_true rfl) dX12_checkOne_301 ?_
          refine z_aload_n 3 dX12_checkOne_304 rfl rfl ?_
          refine z_aload_n 3 dX12_checkOne_305 rfl rfl ?_
          refine z_iload_n 5 dX12_checkOne_306 rfl rfl ?_
          refine z_iload_n 2 dX12_checkOne_307 rfl rfl ?_
          obtain ⟨r3943, t3944, hc3945, hF⟩ := zbd_at hF
          refine z_callVi (ctX12_channel (E := E) (f := f - 1) (by omega) hc3945) yy_X12_channel yv_X12_channel ob_M_0 lk_RX12_484 (by omega) rfl rfl (Nat.le_of_ble_eq_true rfl) dX12_checkOne_308 ?_
          obtain ⟨r3946, t3947, hc3948, hF⟩ := zbd_at hF
          refine z_callVi (ctX12_givenOf (E := E) (f := f - 1) (by omega) hc3948) yy_X12_givenOf yv_X12_givenOf ob_M_0 lk_RX12_452 (by omega) rfl rfl (Nat.le_of_ble_eq_true rfl) dX12_checkOne_311 ?_
          obtain ⟨r3949, t3950, hc3951, hF⟩ := zbd_at hF
          refine z_callVi (ctX12_areEqual (E := E) (f := f - 1) (by omega) hc3951) yy_X12_areEqual yv_X12_areEqual ob_M_0 lk_RX12_494 (by omega) rfl rfl (Nat.le_of_ble_eq_true rfl) dX12_checkOne_314 ?_
          refine z_if_eq (tgt := 324) dX12_checkOne_317 (by decide) (fun hc => ?_) (fun hc => ?_)
          · have hF := zif_t hc hF
            refine z_sub [3, 4, 5, 2, 1] rfl ?_
            exact wbX12_checkOne_324 hf hg x1 x2 v3903 v3905 _ hF
          · have hF := zif_f hc hF
            refine z_iconst (v := 1) dX12_checkOne_320 (by decide) ?_
            refine z_goto (tgt := 325) dX12_checkOne_321 (by decide) ?_
            refine z_sub [3, 4, 5, 2, 1] rfl ?_
            exact wbX12_checkOne_325 hf hg x1 x2 v3903 v3905 1 _ hF
  have hF := zif_f hc hF
  have hn3952 := hc; clear hc
  by_cases hc : v3907 = 4
  · have hF := zif_t hc hF
    refine z_tabIn (tgt := 368) dX12_checkOne_24 (by rw [hc]; decide) (by rw [hc]; decide) (by rw [hc]; rfl) (by decide) ?_
    refine z_aload_n 3 dX12_checkOne_368 rfl rfl ?_
    refine z_iload_n 5 dX12_checkOne_369 rfl rfl ?_
    refine z_iload_n 2 dX12_checkOne_370 rfl rfl ?_
    refine z_bipush (v := 6) dX12_checkOne_371 (by decide) ?_
    obtain ⟨r3953, t3954, hc3955, hF⟩ := zbd_at hF
    refine z_callVi (ctX12_isOne (E := E) (f := f - 1) (by omega) hc3955) yy_X12_isOne yv_X12_isOne ob_M_0 lk_RX12_490 (by omega) rfl rfl (Nat.le_of_ble_eq_true rfl) dX12_checkOne_373 ?_
    refine z_if_eq (tgt := 393) dX12_checkOne_376 (by decide) (fun hc => ?_) (fun hc => ?_)
    · have hF := zif_t hc hF
      refine z_sub [3, 4, 5, 2, 1] rfl ?_
      exact wbX12_checkOne_393 hf hg x1 x2 v3903 v3905 _ hF
    · have hF := zif_f hc hF
      refine z_aload_n 3 dX12_checkOne_379 rfl rfl ?_
      refine z_iload_n 5 dX12_checkOne_380 rfl rfl ?_
      refine z_iload 1 dX12_checkOne_381 rfl ?_
      obtain ⟨r3956, t3957, hc3958, hF⟩ := zbd_at hF
      refine z_callVi (ctX12_channel (E := E) (f := f - 1) (by omega) hc3958) yy_X12_channel yv_X12_channel ob_M_0 lk_RX12_484 (by omega) rfl rfl (Nat.le_of_ble_eq_true rfl) dX12_checkOne_383 ?_
      refine z_if_ge (tgt := 393) dX12_checkOne_386 (by decide) (fun hc => ?_) (fun hc => ?_)
      · have hF := zif_t hc hF
        refine z_sub [3, 4, 5, 2, 1] rfl ?_
        exact wbX12_checkOne_393 hf hg x1 x2 v3903 v3905 _ hF
      · have hF := zif_f hc hF
        refine z_iconst (v := 1) dX12_checkOne_389 (by decide) ?_
        refine z_goto (tgt := 394) dX12_checkOne_390 (by decide) ?_
        refine z_sub [3, 4, 5, 2, 1] rfl ?_
        exact wbX12_checkOne_394 hf hg x1 x2 v3903 v3905 1 _ hF
  have hF := zif_f hc hF
  have hn3959 := hc; clear hc
  by_cases hc : v3907 = 5
  · have hF := zif_t hc hF
    refine z_tabIn (tgt := 440) dX12_checkOne_24 (by rw [hc]; decide) (by rw [hc]; decide) (by rw [hc]; rfl) (by decide) ?_
    refine z_aload_n 3 dX12_checkOne_440 rfl rfl ?_
    refine z_iload_n 5 dX12_checkOne_441 rfl rfl ?_
    refine z_iload_n 2 dX12_checkOne_442 rfl rfl ?_
    refine z_bipush (v := 7) dX12_checkOne_443 (by decide) ?_
    obtain ⟨r3960, t3961, hc3962, hF⟩ := zbd_at hF
    refine z_callVi (ctX12_isOne (E := E) (f := f - 1) (by omega) hc3962) yy_X12_isOne yv_X12_isOne ob_M_0 lk_RX12_490 (by omega) rfl rfl (Nat.le_of_ble_eq_true rfl) dX12_checkOne_445 ?_
    refine z_if_eq (tgt := 466) dX12_checkOne_448 (by decide) (fun hc => ?_) (fun hc => ?_)
    · have hF := zif_t hc hF
      refine z_iconst (v := (-1)) dX12_checkOne_466 (by decide) ?_
      refine z_sub [3, 4, 5, 2] rfl ?_
      exact wbX12_checkOne_467 hf hg x1 x2 v3903 (-1) _ hF
    · have hF := zif_f hc hF
      refine z_aload_n 3 dX12_checkOne_451 rfl rfl ?_
      refine z_aload_n 3 dX12_checkOne_452 rfl rfl ?_
      refine z_iload_n 5 dX12_checkOne_453 rfl rfl ?_
      refine z_iload_n 2 dX12_checkOne_454 rfl rfl ?_
      obtain ⟨r3963, t3964, hc3965, hF⟩ := zbd_at hF
      refine z_callVi (ctX12_channel (E := E) (f := f - 1) (by omega) hc3965) yy_X12_channel yv_X12_channel ob_M_0 lk_RX12_484 (by omega) rfl rfl (Nat.le_of_ble_eq_true rfl) dX12_checkOne_455 ?_
      refine z_iload 1 dX12_checkOne_458 rfl ?_
      obtain ⟨r3966, t3967, hc3968, hF⟩ := zbd_at hF
      refine z_callVi (ctX12_byLabel (E := E) (f := f - 1) (by omega) hc3968) yy_X12_byLabel yv_X12_byLabel ob_M_0 lk_RX12_448 (by omega) rfl rfl (Nat.le_of_ble_eq_true rfl) dX12_checkOne_460 ?_
      refine z_goto (tgt := 467) dX12_checkOne_463 (by decide) ?_
      refine z_sub [3, 4, 5, 2] rfl ?_
      exact wbX12_checkOne_467 hf hg x1 x2 v3903 r3966 _ hF
  have hF := zif_f hc hF
  have hn3969 := hc; clear hc
  by_cases hc : v3907 = 6
  · have hF := zif_t hc hF
    refine z_tabIn (tgt := 497) dX12_checkOne_24 (by rw [hc]; decide) (by rw [hc]; decide) (by rw [hc]; rfl) (by decide) ?_
    refine z_aload_n 3 dX12_checkOne_497 rfl rfl ?_
    refine z_iload_n 4 dX12_checkOne_498 rfl rfl ?_
    refine z_iload_n 5 dX12_checkOne_499 rfl rfl ?_
    obtain ⟨r3970, t3971, hc3972, hF⟩ := zbd_at hF
    refine z_callVi (z_hgX12_checkCase hg hc3972) yy_X12_checkCase yv_X12_checkCase ob_M_0 lk_RX12_497 (by omega) rfl rfl (Nat.le_of_ble_eq_true rfl) dX12_checkOne_500 ?_
    obtain ⟨hz3973, hF⟩ := z01_at hF
    exact z_zret hF hz3973 dX12_checkOne_503
  have hF := zif_f hc hF
  have hn3974 := hc; clear hc
  by_cases hc : v3907 = 7
  · have hF := zif_t hc hF
    refine z_tabIn (tgt := 519) dX12_checkOne_24 (by rw [hc]; decide) (by rw [hc]; decide) (by rw [hc]; rfl) (by decide) ?_
    refine z_aload_n 3 dX12_checkOne_519 rfl rfl ?_
    refine z_iload_n 4 dX12_checkOne_520 rfl rfl ?_
    refine z_iload_n 5 dX12_checkOne_521 rfl rfl ?_
    obtain ⟨r3975, t3976, hc3977, hF⟩ := zbd_at hF
    refine z_callVi (ctX12_checkCall (E := E) (f := f - 1) (by omega) hc3977) yy_X12_checkCall yv_X12_checkCall ob_M_0 lk_RX12_506 (by omega) rfl rfl (Nat.le_of_ble_eq_true rfl) dX12_checkOne_522 ?_
    refine z_istore (lv' := [(5, .int r3975), (4, .int v3905), (3, .int v3903), (0, .ref (za E 0)), (1, .int x1), (2, .int x2)]) dX12_checkOne_525 (by decide) rfl ?_
    refine z_sub [3, 4, 0] rfl ?_
    exact wbX12_checkOne_527 hf hg x1 r3975 _ hF
  have hF := zif_f hc hF
  have hn3978 := hc; clear hc
  by_cases hc : v3907 = 8
  · have hF := zif_t hc hF
    refine z_tabIn (tgt := 519) dX12_checkOne_24 (by rw [hc]; decide) (by rw [hc]; decide) (by rw [hc]; rfl) (by decide) ?_
    refine z_aload_n 3 dX12_checkOne_519 rfl rfl ?_
    refine z_iload_n 4 dX12_checkOne_520 rfl rfl ?_
    refine z_iload_n 5 dX12_checkOne_521 rfl rfl ?_
    obtain ⟨r3979, t3980, hc3981, hF⟩ := zbd_at hF
    refine z_callVi (ctX12_checkCall (E := E) (f := f - 1) (by omega) hc3981) yy_X12_checkCall yv_X12_checkCall ob_M_0 lk_RX12_506 (by omega) rfl rfl (Nat.le_of_ble_eq_true rfl) dX12_checkOne_522 ?_
    refine z_istore (lv' := [(5, .int r3979), (4, .int v3905), (3, .int v3903), (0, .ref (za E 0)), (1, .int x1), (2, .int x2)]) dX12_checkOne_525 (by decide) rfl ?_
    refine z_sub [3, 4, 0] rfl ?_
    exact wbX12_checkOne_527 hf hg x1 r3979 _ hF
  have hF := zif_f hc hF
  have hn3982 := hc; clear hc
  by_cases hc : v3907 = 9
  · have hF := zif_t hc hF
    refine z_tabIn (tgt := 519) dX12_checkOne_24 (by rw [hc]; decide) (by rw [hc]; decide) (by rw [hc]; rfl) (by decide) ?_
    refine z_aload_n 3 dX12_checkOne_519 rfl rfl ?_
    refine z_iload_n 4 dX12_checkOne_520 rfl rfl ?_
    refine z_iload_n 5 dX12_checkOne_521 rfl rfl ?_
    obtain ⟨r3983, t3984, hc3985, hF⟩ := zbd_at hF
    refine z_callVi (ctX12_checkCall (E := E) (f := f - 1) (by omega) hc3985) yy_X12_checkCall yv_X12_checkCall ob_M_0 lk_RX12_506 (by omega) rfl rfl (Nat.le_of_ble_eq_true rfl) dX12_checkOne_522 ?_
    refine z_istore (lv' := [(5, .int r3983), (4, .int v3905), (3, .int v3903), (0, .ref (za E 0)), (1, .int x1), (2, .int x2)]) dX12_checkOne_525 (by decide) rfl ?_
    refine z_sub [3, 4, 0] rfl ?_
    exact wbX12_checkOne_527 hf hg x1 r3983 _ hF
  have hF := zif_f hc hF
  have hn3986 := hc; clear hc
  by_cases hc : v3907 = 10
  · have hF := zif_t hc hF
    refine z_tabIn (tgt := 504) dX12_checkOne_24 (by rw [hc]; decide) (by rw [hc]; decide) (by rw [hc]; rfl) (by decide) ?_
    refine z_aload_n 3 dX12_checkOne_504 rfl rfl ?_
    refine z_iload_n 4 dX12_checkOne_505 rfl rfl ?_
    refine z_iload_n 5 dX12_checkOne_506 rfl rfl ?_
    obtain ⟨r3987, t3988, hc3989, hF⟩ := zbd_at hF
    refine z_callVi (z_hgX12_checkIf hg hc3989) yy_X12_checkIf yv_X12_checkIf ob_M_0 lk_RX12_500 (by omega) rfl rfl (Nat.le_of_ble_eq_true rfl) dX12_checkOne_507 ?_
    obtain ⟨hz3990, hF⟩ := z01_at hF
    exact z_zret hF hz3990 dX12_checkOne_510
  have hF := zif_f hc hF
  have hn3991 := hc; clear hc
  by_cases hc : v3907 = 11
  · have hF := zif_t hc hF
    refine z_tabIn (tgt := 511) dX12_checkOne_24 (by rw [hc]; decide) (by rw [hc]; decide) (by rw [hc]; rfl) (by decide) ?_
    refine z_aload_n 3 dX12_checkOne_511 rfl rfl ?_
    refine z_iload_n 4 dX12_checkOne_512 rfl rfl ?_
    refine z_iload_n 5 dX12_checkOne_513 rfl rfl ?_
    obtain ⟨r3992, t3993, hc3994, hF⟩ := zbd_at hF
    refine z_callVv (z_hgX12_checkWhile hg hc3994) yy_X12_checkWhile yv_X12_checkWhile ob_M_0 lk_RX12_503 (by omega) rfl rfl (Nat.le_of_ble_eq_true rfl) dX12_checkOne_514 ?_
    refine z_iconst (v := 0) dX12_checkOne_517 (by decide) ?_
    exact z_zret hF (by decide) dX12_checkOne_518
  have hF := zif_f hc hF
  have hn3995 := hc; clear hc
  by_cases hc : v3907 = 12
  · have hF := zif_t hc hF
    refine z_tabIn (tgt := 129) dX12_checkOne_24 (by rw [hc]; decide) (by rw [hc]; decide) (by rw [hc]; rfl) (by decide) ?_
    refine z_aload_n 3 dX12_checkOne_129 rfl rfl ?_
    refine z_aload_n 3 dX12_checkOne_130 rfl rfl ?_
    refine z_getr fr_RX12_61 dX12_checkOne_131 ?_
    refine z_iload_n 4 dX12_checkOne_134 rfl rfl ?_
    obtain ⟨hi3997, hF⟩ := zrd_at hF
    refine z_iald (n := 1600) rfl hi3997 dX12_checkOne_135 ?_
    generalize t 18 (Int32.toNatClampNeg x1) = v3996 at hF ⊢
    refine z_iload_n 5 dX12_checkOne_136 rfl rfl ?_
    obtain ⟨r3998, t3999, hc4000, hF⟩ := zbd_at hF
    refine z_callVi (ctX12_areNumbers (E := E) (f := f - 1) (by omega) hc4000) yy_X12_areNumbers yv_X12_areNumbers ob_M_0 lk_RX12_487 (by omega) rfl rfl (Nat.le_of_ble_eq_true rfl) dX12_checkOne_137 ?_
    refine z_istore (lv' := [(5, .int r3998), (4, .int v3905), (3, .int v3903), (0, .ref (za E 0)), (1, .int x1), (2, .int x2)]) dX12_checkOne_140 (by decide) rfl ?_
    refine z_goto (tgt := 527) dX12_checkOne_142 (by decide) ?_
    refine z_sub [3, 4, 0] rfl ?_
    exact wbX12_checkOne_527 hf hg x1 r3998 _ hF
  have hF := zif_f hc hF
  have hn4001 := hc; clear hc
  by_cases hc : v3907 = 13
  · have hF := zif_t hc hF
    refine z_tabIn (tgt := 145) dX12_checkOne_24 (by rw [hc]; decide) (by rw [hc]; decide) (by rw [hc]; rfl) (by decide) ?_
    refine z_aload_n 3 dX12_checkOne_145 rfl rfl ?_
    refine z_iload_n 5 dX12_checkOne_146 rfl rfl ?_
    refine z_iload_n 2 dX12_checkOne_147 rfl rfl ?_
    obtain ⟨r4002, t4003, hc4004, hF⟩ := zbd_at hF
    refine z_callVi (ctX12_channel (E := E) (f := f - 1) (by omega) hc4004) yy_X12_channel yv_X12_channel ob_M_0 lk_RX12_484 (by omega) rfl rfl (Nat.le_of_ble_eq_true rfl) dX12_checkOne_148 ?_
    refine z_if_ge (tgt := 158) dX12_checkOne_151 (by decide) (fun hc => ?_) (fun hc => ?_)
    · have hF := zif_t hc hF
      refine z_iconst (v := 0) dX12_checkOne_158 (by decide) ?_
      refine z_sub [3, 4] rfl ?_
      exact wbX12_checkOne_159 hf hg x1 0 _ hF
    · have hF := zif_f hc hF
      refine z_iconst (v := 1) dX12_checkOne_154 (by decide) ?_
      refine z_goto (tgt := 159) dX12_checkOne_155 (by decide) ?_
      refine z_sub [3, 4] rfl ?_
      exact wbX12_checkOne_159 hf hg x1 1 _ hF
  have hF := zif_f hc hF
  have hn4005 := hc; clear hc
  have hO : (v3907).toInt < 0 ∨ 13 < (v3907).toInt := by
    have qhn3917 := lv_neT (a := 0) hn3917 (by decide)
    have qhn3926 := lv_neT (a := 1) hn3926 (by decide)
    have qhn3933 := lv_neT (a := 2) hn3933 (by decide)
    have qhn3952 := lv_neT (a := 3) hn3952 (by decide)
    have qhn3959 := lv_neT (a := 4) hn3959 (by decide)
    have qhn3969 := lv_neT (a := 5) hn3969 (by decide)
    have qhn3974 := lv_neT (a := 6) hn3974 (by decide)
    have qhn3978 := lv_neT (a := 7) hn3978 (by decide)
    have qhn3982 := lv_neT (a := 8) hn3982 (by decide)
    have qhn3986 := lv_neT (a := 9) hn3986 (by decide)
    have qhn3991 := lv_neT (a := 10) hn3991 (by decide)
    have qhn3995 := lv_neT (a := 11) hn3995 (by decide)
    have qhn4001 := lv_neT (a := 12) hn4001 (by decide)
    have qhn4005 := lv_neT (a := 13) hn4005 (by decide)
    omega
  refine z_tabOut (tgt := 519) dX12_checkOne_24 hO (by decide) ?_
  refine z_aload_n 3 dX12_checkOne_519 rfl rfl ?_
  refine z_iload_n 4 dX12_checkOne_520 rfl rfl ?_
  refine z_iload_n 5 dX12_checkOne_521 rfl rfl ?_
  obtain ⟨r4006, t4007, hc4008, hF⟩ := zbd_at hF
  refine z_callVi (ctX12_checkCall (E := E) (f := f - 1) (by omega) hc4008) yy_X12_checkCall yv_X12_checkCall ob_M_0 lk_RX12_506 (by omega) rfl rfl (Nat.le_of_ble_eq_true rfl) dX12_checkOne_522 ?_
  refine z_istore (lv' := [(5, .int r4006), (4, .int v3905), (3, .int v3903), (0, .ref (za E 0)), (1, .int x1), (2, .int x2)]) dX12_checkOne_525 (by decide) rfl ?_
  refine z_sub [3, 4, 0] rfl ?_
  exact wbX12_checkOne_527 hf hg x1 r4006 _ hF
-- SessionHouseModel.checkIf(II)Z
theorem dX12_checkIf_0 : decode cX12_checkIf 0 = .ok (.aload_n 0, 1) := by decide +kernel
theorem dX12_checkIf_1 : decode cX12_checkIf 1 = .ok (.aload_n 0, 1) := by decide +kernel
theorem dX12_checkIf_2 : decode cX12_checkIf 2 = .ok (.getfield 61, 3) := by decide +kernel
theorem dX12_checkIf_5 : decode cX12_checkIf 5 = .ok (.iload_n 1, 1) := by decide +kernel
theorem dX12_checkIf_6 : decode cX12_checkIf 6 = .ok (.iaload, 1) := by decide +kernel
theorem dX12_checkIf_7 : decode cX12_checkIf 7 = .ok (.iload_n 2, 1) := by decide +kernel
theorem dX12_checkIf_8 : decode cX12_checkIf 8 = .ok (.invokevirtual 487, 3) := by decide +kernel
theorem dX12_checkIf_11 : decode cX12_checkIf 11 = .ok (.ifCond .ne 15, 3) := by decide +kernel
theorem dX12_checkIf_14 : decode cX12_checkIf 14 = .ok (.aload_n 0, 1) := by decide +kernel
theorem dX12_checkIf_15 : decode cX12_checkIf 15 = .ok (.aload_n 0, 1) := by decide +kernel
theorem dX12_checkIf_16 : decode cX12_checkIf 16 = .ok (.getfield 52, 3) := by decide +kernel
theorem dX12_checkIf_19 : decode cX12_checkIf 19 = .ok (.iload_n 1, 1) := by decide +kernel
theorem dX12_checkIf_20 : decode cX12_checkIf 20 = .ok (.iaload, 1) := by decide +kernel
theorem dX12_checkIf_21 : decode cX12_checkIf 21 = .ok (.invokevirtual 478, 3) := by decide +kernel
theorem dX12_checkIf_24 : decode cX12_checkIf 24 = .ok (.iconst 0, 1) := by decide +kernel
theorem dX12_checkIf_25 : decode cX12_checkIf 25 = .ok (.ireturn, 1) := by decide +kernel
theorem dX12_checkIf_26 : decode cX12_checkIf 26 = .ok (.aload_n 0, 1) := by decide +kernel
theorem dX12_checkIf_27 : decode cX12_checkIf 27 = .ok (.iload_n 2, 1) := by decide +kernel
theorem dX12_checkIf_28 : decode cX12_checkIf 28 = .ok (.invokevirtual 509, 3) := by decide +kernel
theorem dX12_checkIf_31 : decode cX12_checkIf 31 = .ok (.aload_n 0, 1) := by decide +kernel
theorem dX12_checkIf_32 : decode cX12_checkIf 32 = .ok (.aload_n 0, 1) := by decide +kernel
theorem dX12_checkIf_33 : decode cX12_checkIf 33 = .ok (.getfield 64, 3) := by decide +kernel
theorem dX12_checkIf_36 : decode cX12_checkIf 36 = .ok (.iload_n 1, 1) := by decide +kernel
theorem dX12_checkIf_37 : decode cX12_checkIf 37 = .ok (.iaload, 1) := by decide +kernel
theorem dX12_checkIf_38 : decode cX12_checkIf 38 = .ok (.iload_n 2, 1) := by decide +kernel
theorem dX12_checkIf_39 : decode cX12_checkIf 39 = .ok (.iconst 1, 1) := by decide +kernel
theorem dX12_checkIf_40 : decode cX12_checkIf 40 = .ok (.iadd, 1) := by decide +kernel
theorem dX12_checkIf_41 : decode cX12_checkIf 41 = .ok (.invokevirtual 471, 3) := by decide +kernel
theorem dX12_checkIf_44 : decode cX12_checkIf 44 = .ok (.istore_n 3, 1) := by decide +kernel
theorem dX12_checkIf_45 : decode cX12_checkIf 45 = .ok (.aload_n 0, 1) := by decide +kernel
theorem dX12_checkIf_46 : decode cX12_checkIf 46 = .ok (.getfield 423, 3) := by decide +kernel
theorem dX12_checkIf_49 : decode cX12_checkIf 49 = .ok (.ifCond .lt 5, 3) := by decide +kernel
theorem dX12_checkIf_52 : decode cX12_checkIf 52 = .ok (.iconst 0, 1) := by decide +kernel
theorem dX12_checkIf_53 : decode cX12_checkIf 53 = .ok (.ireturn, 1) := by decide +kernel
theorem dX12_checkIf_54 : decode cX12_checkIf 54 = .ok (.aload_n 0, 1) := by decide +kernel
theorem dX12_checkIf_55 : decode cX12_checkIf 55 = .ok (.invokevirtual 512, 3) := by decide +kernel
theorem dX12_checkIf_58 : decode cX12_checkIf 58 = .ok (.istore 4, 2) := by decide +kernel
theorem dX12_checkIf_60 : decode cX12_checkIf 60 = .ok (.iload_n 3, 1) := by decide +kernel
theorem dX12_checkIf_61 : decode cX12_checkIf 61 = .ok (.ifCond .ne 12, 3) := by decide +kernel
theorem dX12_checkIf_64 : decode cX12_checkIf 64 = .ok (.aload_n 0, 1) := by decide +kernel
theorem dX12_checkIf_65 : decode cX12_checkIf 65 = .ok (.iload_n 2, 1) := by decide +kernel
theorem dX12_checkIf_66 : decode cX12_checkIf 66 = .ok (.iconst 1, 1) := by decide +kernel
theorem dX12_checkIf_67 : decode cX12_checkIf 67 = .ok (.iadd, 1) := by decide +kernel
theorem dX12_checkIf_68 : decode cX12_checkIf 68 = .ok (.iload 4, 2) := by decide +kernel
theorem dX12_checkIf_70 : decode cX12_checkIf 70 = .ok (.invokevirtual 515, 3) := by decide +kernel
theorem dX12_checkIf_73 : decode cX12_checkIf 73 = .ok (.aload_n 0, 1) := by decide +kernel
theorem dX12_checkIf_74 : decode cX12_checkIf 74 = .ok (.iload_n 2, 1) := by decide +kernel
theorem dX12_checkIf_75 : decode cX12_checkIf 75 = .ok (.invokevirtual 509, 3) := by decide +kernel
theorem dX12_checkIf_78 : decode cX12_checkIf 78 = .ok (.aload_n 0, 1) := by decide +kernel
theorem dX12_checkIf_79 : decode cX12_checkIf 79 = .ok (.aload_n 0, 1) := by decide +kernel
theorem dX12_checkIf_80 : decode cX12_checkIf 80 = .ok (.getfield 67, 3) := by decide +kernel
theorem dX12_checkIf_83 : decode cX12_checkIf 83 = .ok (.iload_n 1, 1) := by decide +kernel
theorem dX12_checkIf_84 : decode cX12_checkIf 84 = .ok (.iaload, 1) := by decide +kernel
theorem dX12_checkIf_85 : decode cX12_checkIf 85 = .ok (.iload_n 2, 1) := by decide +kernel
theorem dX12_checkIf_86 : decode cX12_checkIf 86 = .ok (.iconst 1, 1) := by decide +kernel
theorem dX12_checkIf_87 : decode cX12_checkIf 87 = .ok (.iadd, 1) := by decide +kernel
theorem dX12_checkIf_88 : decode cX12_checkIf 88 = .ok (.invokevirtual 471, 3) := by decide +kernel
theorem dX12_checkIf_91 : decode cX12_checkIf 91 = .ok (.istore 5, 2) := by decide +kernel
theorem dX12_checkIf_93 : decode cX12_checkIf 93 = .ok (.aload_n 0, 1) := by decide +kernel
theorem dX12_checkIf_94 : decode cX12_checkIf 94 = .ok (.getfield 423, 3) := by decide +kernel
theorem dX12_checkIf_97 : decode cX12_checkIf 97 = .ok (.ifCond .lt 5, 3) := by decide +kernel
theorem dX12_checkIf_100 : decode cX12_checkIf 100 = .ok (.iconst 0, 1) := by decide +kernel
theorem dX12_checkIf_101 : decode cX12_checkIf 101 = .ok (.ireturn, 1) := by decide +kernel
theorem dX12_checkIf_102 : decode cX12_checkIf 102 = .ok (.iload_n 3, 1) := by decide +kernel
theorem dX12_checkIf_103 : decode cX12_checkIf 103 = .ok (.ifCond .ne 20, 3) := by decide +kernel
theorem dX12_checkIf_106 : decode cX12_checkIf 106 = .ok (.iload 5, 2) := by decide +kernel
theorem dX12_checkIf_108 : decode cX12_checkIf 108 = .ok (.ifCond .ne 15, 3) := by decide +kernel
theorem dX12_checkIf_111 : decode cX12_checkIf 111 = .ok (.aload_n 0, 1) := by decide +kernel
theorem dX12_checkIf_112 : decode cX12_checkIf 112 = .ok (.iload_n 2, 1) := by decide +kernel
theorem dX12_checkIf_113 : decode cX12_checkIf 113 = .ok (.iconst 1, 1) := by decide +kernel
theorem dX12_checkIf_114 : decode cX12_checkIf 114 = .ok (.iadd, 1) := by decide +kernel
theorem dX12_checkIf_115 : decode cX12_checkIf 115 = .ok (.iload 4, 2) := by decide +kernel
theorem dX12_checkIf_117 : decode cX12_checkIf 117 = .ok (.invokevirtual 518, 3) := by decide +kernel
theorem dX12_checkIf_120 : decode cX12_checkIf 120 = .ok (.ifCond .eq 7, 3) := by decide +kernel
theorem dX12_checkIf_123 : decode cX12_checkIf 123 = .ok (.iconst 1, 1) := by decide +kernel
theorem dX12_checkIf_124 : decode cX12_checkIf 124 = .ok (.goto 4, 3) := by decide +kernel
theorem dX12_checkIf_127 : decode cX12_checkIf 127 = .ok (.iconst 0, 1) := by decide +kernel
theorem dX12_checkIf_128 : decode cX12_checkIf 128 = .ok (.istore 6, 2) := by decide +kernel
theorem dX12_checkIf_130 : decode cX12_checkIf 130 = .ok (.iload 6, 2) := by decide +kernel
theorem dX12_checkIf_132 : decode cX12_checkIf 132 = .ok (.ifCond .ne 13, 3) := by decide +kernel
theorem dX12_checkIf_135 : decode cX12_checkIf 135 = .ok (.aload_n 0, 1) := by decide +kernel
theorem dX12_checkIf_136 : decode cX12_checkIf 136 = .ok (.aload_n 0, 1) := by decide +kernel
theorem dX12_checkIf_137 : decode cX12_checkIf 137 = .ok (.getfield 52, 3) := by decide +kernel
theorem dX12_checkIf_140 : decode cX12_checkIf 140 = .ok (.iload_n 1, 1) := by decide +kernel
theorem dX12_checkIf_141 : decode cX12_checkIf 141 = .ok (.iaload, 1) := by decide +kernel
theorem dX12_checkIf_142 : decode cX12_checkIf 142 = .ok (.invokevirtual 478, 3) := by decide +kernel
theorem dX12_checkIf_145 : decode cX12_checkIf 145 = .ok (.iload 5, 2) := by decide +kernel
theorem dX12_checkIf_147 : decode cX12_checkIf 147 = .ok (.ifCond .ne 14, 3) := by decide +kernel
theorem dX12_checkIf_150 : decode cX12_checkIf 150 = .ok (.aload_n 0, 1) := by decide +kernel
theorem dX12_checkIf_151 : decode cX12_checkIf 151 = .ok (.iload_n 2, 1) := by decide +kernel
theorem dX12_checkIf_152 : decode cX12_checkIf 152 = .ok (.iconst 1, 1) := by decide +kernel
theorem dX12_checkIf_153 : decode cX12_checkIf 153 = .ok (.iadd, 1) := by decide +kernel
theorem dX12_checkIf_154 : decode cX12_checkIf 154 = .ok (.iload_n 2, 1) := by decide +kernel
theorem dX12_checkIf_155 : decode cX12_checkIf 155 = .ok (.invokevirtual 521, 3) := by decide +kernel
theorem dX12_checkIf_158 : decode cX12_checkIf 158 = .ok (.goto 14, 3) := by decide +kernel
theorem dX12_checkIf_161 : decode cX12_checkIf 161 = .ok (.iload_n 3, 1) := by decide +kernel
theorem dX12_checkIf_162 : decode cX12_checkIf 162 = .ok (.ifCond .ne 10, 3) := by decide +kernel
theorem dX12_checkIf_165 : decode cX12_checkIf 165 = .ok (.aload_n 0, 1) := by decide +kernel
theorem dX12_checkIf_166 : decode cX12_checkIf 166 = .ok (.iload 4, 2) := by decide +kernel
theorem dX12_checkIf_168 : decode cX12_checkIf 168 = .ok (.iload_n 2, 1) := by decide +kernel
theorem dX12_checkIf_169 : decode cX12_checkIf 169 = .ok (.invokevirtual 524, 3) := by decide +kernel
theorem dX12_checkIf_172 : decode cX12_checkIf 172 = .ok (.aload_n 0, 1) := by decide +kernel
theorem dX12_checkIf_173 : decode cX12_checkIf 173 = .ok (.iload 4, 2) := by decide +kernel
theorem dX12_checkIf_175 : decode cX12_checkIf 175 = .ok (.putfield 464, 3) := by decide +kernel
theorem dX12_checkIf_178 : decode cX12_checkIf 178 = .ok (.iload_n 3, 1) := by decide +kernel
theorem dX12_checkIf_179 : decode cX12_checkIf 179 = .ok (.ifCond .eq 12, 3) := by decide +kernel
theorem dX12_checkIf_182 : decode cX12_checkIf 182 = .ok (.iload 5, 2) := by decide +kernel
theorem dX12_checkIf_184 : decode cX12_checkIf 184 = .ok (.ifCond .eq 7, 3) := by decide +kernel
theorem dX12_checkIf_187 : decode cX12_checkIf 187 = .ok (.iconst 1, 1) := by decide +kernel
theorem dX12_checkIf_188 : decode cX12_checkIf 188 = .ok (.goto 4, 3) := by decide +kernel
theorem dX12_checkIf_191 : decode cX12_checkIf 191 = .ok (.iconst 0, 1) := by decide +kernel
theorem dX12_checkIf_192 : decode cX12_checkIf 192 = .ok (.ireturn, 1) := by decide +kernel
def bX12_checkIf_172 (g : GgX12_checkBlock) (x3 : Int32) (x4 : Int32) (x5 : Int32) (t : zS) : zR := zpt t 0 70 x4 fun t4009 => if x3 = 0 then some (0, t4009) else if x5 = 0 then some (0, t4009) else some (1, t4009)
def bX12_checkIf_145 (g : GgX12_checkBlock) (x2 : Int32) (x3 : Int32) (x4 : Int32) (x5 : Int32) (t : zS) : zR := if x5 = 0 then zbd (mX12_copyUp (x2 + 1) x2 t) fun r4013 t4014 => bX12_checkIf_172 g x3 x4 x5 t4014 else if x3 = 0 then zbd (mX12_backAll x4 x2 t) fun r4010 t4011 => bX12_checkIf_172 g x3 x4 x5 t4011 else bX12_checkIf_172 g x3 x4 x5 t
def bX12_checkIf_128 (g : GgX12_checkBlock) (x1 : Int32) (x2 : Int32) (x3 : Int32) (x4 : Int32) (x5 : Int32) (y0 : Int32) (t : zS) : zR := if y0 = 0 then zrd t 15 1600 x1 fun v4016 => zbd (mX12_isBad v4016 t) fun r4018 t4019 => bX12_checkIf_145 g x2 x3 x4 x5 t4019 else bX12_checkIf_145 g x2 x3 x4 x5 t
def bX12_checkIf_123 (g : GgX12_checkBlock) (x1 : Int32) (x2 : Int32) (x3 : Int32) (x4 : Int32) (x5 : Int32) (t : zS) : zR := bX12_checkIf_128 g x1 x2 x3 x4 x5 1 t
def bX12_checkIf_73 (g : GgX12_checkBlock) (x1 : Int32) (x2 : Int32) (x3 : Int32) (x4 : Int32) (t : zS) : zR := zbd (mX12_copyDown x2 t) fun r4021 t4022 => zrd t4022 20 1600 x1 fun v4024 => zbd (g.1 v4024 (x2 + 1) t4022) fun r4026 t4027 => if (t4027 0 67) < 0 then if x3 = 0 then if r4026 = 0 then zbd (mX12_isKept (x2 + 1) x4 t4027) fun r4029 t4030 => if r4029 = 0 then bX12_checkIf_128 g x1 x2 x3 x4 r4026 0 t4030 else bX12_checkIf_123 g x1 x2 x3 x4 r4026 t4030 else bX12_checkIf_123 g x1 x2 x3 x4 r4026 t4027 else bX12_checkIf_123 g x1 x2 x3 x4 r4026 t4027 else some (0, t4027)
def mX12_checkIf (g : GgX12_checkBlock) (x1 : Int32) (x2 : Int32) (t : zS) : zR := zrd t 18 1600 x1 fun v4032 => zbd (mX12_areNumbers v4032 x2 t) fun r4034 t4035 => if r4034 = 0 then zrd t4035 15 1600 x1 fun v4051 => zbd (mX12_isBad v4051 t4035) fun r4053 t4054 => some (0, t4054) else zbd (mX12_copyDown x2 t4035) fun r4037 t4038 => zrd t4038 19 1600 x1 fun v4040 => zbd (g.1 v4040 (x2 + 1) t4038) fun r4042 t4043 => if (t4043 0 67) < 0 then zbd (mX12_keptFrom  t4043) fun r4045 t4046 => if r4042 = 0 then zbd (mX12_keepAll (x2 + 1) r4045 t4046) fun r4048 t4049 => bX12_checkIf_73 g x1 x2 r4042 r4045 t4049 else bX12_checkIf_73 g x1 x2 r4042 r4045 t4046 else some (0, t4043)
set_option maxHeartbeats 4000000 in
set_option maxRecDepth 20000 in
theorem wbX12_checkIf_172 {E : zE} {C : zC} {f : Nat} {ro : Int32 × zS} (hf : 5 ≤ f) {g : GgX12_checkBlock} (hg : HgX12_checkBlock E (f - 1) g) (x3 : Int32) (x4 : Int32) (x5 : Int32) (t : zS) (hF : bX12_checkIf_172 g x3 x4 x5 t = some ro) : zJ E shM C cX12_checkIf RX12 7 f (some .boolean) ro t 172 [(0, .ref (za E 0)), (3, .int x3), (4, .int x4), (5, .int x5)] [] := by
  unfold bX12_checkIf_172 at hF
  refine z_aload_n 0 dX12_checkIf_172 rfl rfl ?_
  refine z_iload 2 dX12_checkIf_173 rfl ?_
  refine z_puti fw_RX12_464 dX12_checkIf_175 (fun t4009 et4009 => ?_)
  have hF := zpt_at hF t4009 et4009
  refine z_iload_n 1 dX12_checkIf_178 rfl rfl ?_
  refine z_if_eq (tgt := 191) dX12_checkIf_179 (by decide) (fun hc => ?_) (fun hc => ?_)
  · have hF := zif_t hc hF
    refine z_iconst (v := 0) dX12_checkIf_191 (by decide) ?_
    exact z_zret hF (by decide) dX12_checkIf_192
  · have hF := zif_f hc hF
    refine z_iload 3 dX12_checkIf_182 rfl ?_
    refine z_if_eq (tgt := 191) dX12_checkIf_184 (by decide) (fun hc => ?_) (fun hc => ?_)
    · have hF := zif_t hc hF
      refine z_iconst (v := 0) dX12_checkIf_191 (by decide) ?_
      exact z_zret hF (by decide) dX12_checkIf_192
    · have hF := zif_f hc hF
      refine z_iconst (v := 1) dX12_checkIf_187 (by decide) ?_
      refine z_goto (tgt := 192) dX12_checkIf_188 (by decide) ?_
      exact z_zret hF (by decide) dX12_checkIf_192
set_option maxHeartbeats 4000000 in
set_option maxRecDepth 20000 in
theorem wbX12_checkIf_145 {E : zE} {C : zC} {f : Nat} {ro : Int32 × zS} (hf : 5 ≤ f) {g : GgX12_checkBlock} (hg : HgX12_checkBlock E (f - 1) g) (x2 : Int32) (x3 : Int32) (x4 : Int32) (x5 : Int32) (t : zS) (hF : bX12_checkIf_145 g x2 x3 x4 x5 t = some ro) : zJ E shM C cX12_checkIf RX12 7 f (some .boolean) ro t 145 [(0, .ref (za E 0)), (2, .int x2), (3, .int x3), (4, .int x4), (5, .int x5)] [] := by
  unfold bX12_checkIf_145 at hF
  refine z_iload 4 dX12_checkIf_145 rfl ?_
  refine z_if_ne (tgt := 161) dX12_checkIf_147 (by decide) (fun hc => ?_) (fun hc => ?_)
  · have hF := zif_f hc hF
    refine z_iload_n 2 dX12_checkIf_161 rfl rfl ?_
    refine z_if_ne (tgt := 172) dX12_checkIf_162 (by decide) (fun hc => ?_) (fun hc => ?_)
    · have hF := zif_f hc hF
      refine z_sub [0, 2, 3, 4] rfl ?_
      exact wbX12_checkIf_172 hf hg x3 x4 x5 _ hF
    · have hF := zif_t hc hF
      refine z_aload_n 0 dX12_checkIf_165 rfl rfl ?_
      refine z_iload 3 dX12_checkIf_166 rfl ?_
      refine z_iload_n 1 dX12_checkIf_168 rfl rfl ?_
      obtain ⟨r4010, t4011, hc4012, hF⟩ := zbd_at hF
      refine z_callVv (ctX12_backAll (E := E) (f := f - 1) (by omega) hc4012) yy_X12_backAll yv_X12_backAll ob_M_0 lk_RX12_524 (by omega) rfl rfl (Nat.le_of_ble_eq_true rfl) dX12_checkIf_169 ?_
      refine z_sub [0, 2, 3, 4] rfl ?_
      exact wbX12_checkIf_172 hf hg x3 x4 x5 _ hF
  · have hF := zif_t hc hF
    refine z_aload_n 0 dX12_checkIf_150 rfl rfl ?_
    refine z_iload_n 1 dX12_checkIf_151 rfl rfl ?_
    refine z_iconst (v := 1) dX12_checkIf_152 (by decide) ?_
    refine z_iadd dX12_checkIf_153 ?_
    refine z_iload_n 1 dX12_checkIf_154 rfl rfl ?_
    obtain ⟨r4013, t4014, hc4015, hF⟩ := zbd_at hF
    refine z_callVv (ctX12_copyUp (E := E) (f := f - 1) (by omega) hc4015) yy_X12_copyUp yv_X12_copyUp ob_M_0 lk_RX12_521 (by omega) rfl rfl (Nat.le_of_ble_eq_true rfl) dX12_checkIf_155 ?_
    refine z_goto (tgt := 172) dX12_checkIf_158 (by decide) ?_
    refine z_sub [0, 2, 3, 4] rfl ?_
    exact wbX12_checkIf_172 hf hg x3 x4 x5 _ hF
set_option maxHeartbeats 4000000 in
set_option maxRecDepth 20000 in
theorem wbX12_checkIf_128 {E : zE} {C : zC} {f : Nat} {ro : Int32 × zS} (hf : 5 ≤ f) {g : GgX12_checkBlock} (hg : HgX12_checkBlock E (f - 1) g) (x1 : Int32) (x2 : Int32) (x3 : Int32) (x4 : Int32) (x5 : Int32) (y0 : Int32) (t : zS) (hF : bX12_checkIf_128 g x1 x2 x3 x4 x5 y0 t = some ro) : zJ E shM C cX12_checkIf RX12 7 f (some .boolean) ro t 128 [(0, .ref (za E 0)), (1, .int x1), (2, .int x2), (3, .int x3), (4, .int x4), (5, .int x5)] [.int y0] := by
  unfold bX12_checkIf_128 at hF
  refine z_istore (lv' := [(6, .int y0), (0, .ref (za E 0)), (1, .int x1), (2, .int x2), (3, .int x3), (4, .int x4), (5, .int x5)]) dX12_checkIf_128 (by decide) rfl ?_
  refine z_iload 0 dX12_checkIf_130 rfl ?_
  refine z_if_ne (tgt := 145) dX12_checkIf_132 (by decide) (fun hc => ?_) (fun hc => ?_)
  · have hF := zif_f hc hF
    refine z_sub [1, 3, 4, 5, 6] rfl ?_
    exact wbX12_checkIf_145 hf hg x2 x3 x4 x5 _ hF
  · have hF := zif_t hc hF
    refine z_aload_n 1 dX12_checkIf_135 rfl rfl ?_
    refine z_aload_n 1 dX12_checkIf_136 rfl rfl ?_
    refine z_getr fr_RX12_52 dX12_checkIf_137 ?_
    refine z_iload_n 2 dX12_checkIf_140 rfl rfl ?_
    obtain ⟨hi4017, hF⟩ := zrd_at hF
    refine z_iald (n := 1600) rfl hi4017 dX12_checkIf_141 ?_
    generalize t 15 (Int32.toNatClampNeg x1) = v4016 at hF ⊢
    obtain ⟨r4018, t4019, hc4020, hF⟩ := zbd_at hF
    refine z_callVv (ctX12_isBad (E := E) (f := f - 1) (by omega) hc4020) yy_X12_isBad yv_X12_isBad ob_M_0 lk_RX12_478 (by omega) rfl rfl (Nat.le_of_ble_eq_true rfl) dX12_checkIf_142 ?_
    refine z_sub [1, 3, 4, 5, 6] rfl ?_
    exact wbX12_checkIf_145 hf hg x2 x3 x4 x5 _ hF
set_option maxHeartbeats 4000000 in
set_option maxRecDepth 20000 in
theorem wbX12_checkIf_123 {E : zE} {C : zC} {f : Nat} {ro : Int32 × zS} (hf : 5 ≤ f) {g : GgX12_checkBlock} (hg : HgX12_checkBlock E (f - 1) g) (x1 : Int32) (x2 : Int32) (x3 : Int32) (x4 : Int32) (x5 : Int32) (t : zS) (hF : bX12_checkIf_123 g x1 x2 x3 x4 x5 t = some ro) : zJ E shM C cX12_checkIf RX12 7 f (some .boolean) ro t 123 [(0, .ref (za E 0)), (1, .int x1), (2, .int x2), (3, .int x3), (4, .int x4), (5, .int x5)] [] := by
  unfold bX12_checkIf_123 at hF
  refine z_iconst (v := 1) dX12_checkIf_123 (by decide) ?_
  refine z_goto (tgt := 128) dX12_checkIf_124 (by decide) ?_
  exact wbX12_checkIf_128 hf hg x1 x2 x3 x4 x5 1 _ hF
set_option maxHeartbeats 4000000 in
set_option maxRecDepth 20000 in
theorem wbX12_checkIf_73 {E : zE} {C : zC} {f : Nat} {ro : Int32 × zS} (hf : 5 ≤ f) {g : GgX12_checkBlock} (hg : HgX12_checkBlock E (f - 1) g) (x1 : Int32) (x2 : Int32) (x3 : Int32) (x4 : Int32) (t : zS) (hF : bX12_checkIf_73 g x1 x2 x3 x4 t = some ro) : zJ E shM C cX12_checkIf RX12 7 f (some .boolean) ro t 73 [(0, .ref (za E 0)), (1, .int x1), (2, .int x2), (3, .int x3), (4, .int x4)] [] := by
  unfold bX12_checkIf_73 at hF
  refine z_aload_n 0 dX12_checkIf_73 rfl rfl ?_
  refine z_iload_n 2 dX12_checkIf_74 rfl rfl ?_
  obtain ⟨r4021, t4022, hc4023, hF⟩ := zbd_at hF
  refine z_callVv (ctX12_copyDown (E := E) (f := f - 1) (by omega) hc4023) yy_X12_copyDown yv_X12_copyDown ob_M_0 lk_RX12_509 (by omega) rfl rfl (Nat.le_of_ble_eq_true rfl) dX12_checkIf_75 ?_
  refine z_aload_n 0 dX12_checkIf_78 rfl rfl ?_
  refine z_aload_n 0 dX12_checkIf_79 rfl rfl ?_
  refine z_getr fr_RX12_67 dX12_checkIf_80 ?_
  refine z_iload_n 1 dX12_checkIf_83 rfl rfl ?_
  obtain ⟨hi4025, hF⟩ := zrd_at hF
  refine z_iald (n := 1600) rfl hi4025 dX12_checkIf_84 ?_
  generalize t4022 20 (Int32.toNatClampNeg x1) = v4024 at hF ⊢
  refine z_iload_n 2 dX12_checkIf_85 rfl rfl ?_
  refine z_iconst (v := 1) dX12_checkIf_86 (by decide) ?_
  refine z_iadd dX12_checkIf_87 ?_
  obtain ⟨r4026, t4027, hc4028, hF⟩ := zbd_at hF
  refine z_callVi (z_hgX12_checkBlock hg hc4028) yy_X12_checkBlock yv_X12_checkBlock ob_M_0 lk_RX12_471 (by omega) rfl rfl (Nat.le_of_ble_eq_true rfl) dX12_checkIf_88 ?_
  refine z_istore (lv' := [(5, .int r4026), (0, .ref (za E 0)), (1, .int x1), (2, .int x2), (3, .int x3), (4, .int x4)]) dX12_checkIf_91 (by decide) rfl ?_
  refine z_aload_n 1 dX12_checkIf_93 rfl rfl ?_
  refine z_geti fi_RX12_423 dX12_checkIf_94 ?_
  refine z_if_lt (tgt := 102) dX12_checkIf_97 (by decide) (fun hc => ?_) (fun hc => ?_)
  · have hF := zif_t hc hF
    refine z_iload_n 4 dX12_checkIf_102 rfl rfl ?_
    refine z_if_ne (tgt := 123) dX12_checkIf_103 (by decide) (fun hc => ?_) (fun hc => ?_)
    · have hF := zif_f hc hF
      refine z_sub [1, 2, 3, 4, 5, 0] rfl ?_
      exact wbX12_checkIf_123 hf hg x1 x2 x3 x4 r4026 _ hF
    · have hF := zif_t hc hF
      refine z_iload 0 dX12_checkIf_106 rfl ?_
      refine z_if_ne (tgt := 123) dX12_checkIf_108 (by decide) (fun hc => ?_) (fun hc => ?_)
      · have hF := zif_f hc hF
        refine z_sub [1, 2, 3, 4, 5, 0] rfl ?_
        exact wbX12_checkIf_123 hf hg x1 x2 x3 x4 r4026 _ hF
      · have hF := zif_t hc hF
        refine z_aload_n 1 dX12_checkIf_111 rfl rfl ?_
        refine z_iload_n 3 dX12_checkIf_112 rfl rfl ?_
        refine z_iconst (v := 1) dX12_checkIf_113 (by decide) ?_
        refine z_iadd dX12_checkIf_114 ?_
        refine z_iload 5 dX12_checkIf_115 rfl ?_
        obtain ⟨r4029, t4030, hc4031, hF⟩ := zbd_at hF
        refine z_callVi (ctX12_isKept (E := E) (f := f - 1) (by omega) hc4031) yy_X12_isKept yv_X12_isKept ob_M_0 lk_RX12_518 (by omega) rfl rfl (Nat.le_of_ble_eq_true rfl) dX12_checkIf_117 ?_
        refine z_if_eq (tgt := 127) dX12_checkIf_120 (by decide) (fun hc => ?_) (fun hc => ?_)
        · have hF := zif_t hc hF
          refine z_iconst (v := 0) dX12_checkIf_127 (by decide) ?_
          refine z_sub [1, 2, 3, 4, 5, 0] rfl ?_
          exact wbX12_checkIf_128 hf hg x1 x2 x3 x4 r4026 0 _ hF
        · have hF := zif_f hc hF
          refine z_sub [1, 2, 3, 4, 5, 0] rfl ?_
          exact wbX12_checkIf_123 hf hg x1 x2 x3 x4 r4026 _ hF
  · have hF := zif_f hc hF
    refine z_iconst (v := 0) dX12_checkIf_100 (by decide) ?_
    exact z_zret hF (by decide) dX12_checkIf_101
set_option maxHeartbeats 4000000 in
set_option maxRecDepth 20000 in
theorem ctX12_checkIf {E : zE} {f : Nat} (hf : 5 ≤ f) {g : GgX12_checkBlock} (hg : HgX12_checkBlock E (f - 1) g) {x1 : Int32} {x2 : Int32} {t : zS} {ro : Int32 × zS} (hF : mX12_checkIf g x1 x2 t = some ro) : zM E shM f yX12_checkIf cX12_checkIf 7 (some .boolean) [.ref (za E 0), .int x1, .int x2] t ro := by
  refine zM_of (by decide) (Nat.le_of_ble_eq_true rfl) (fun C => ?_)
  show zJ E shM C cX12_checkIf RX12 7 f (some .boolean) ro t 0 [(0, .ref (za E 0)), (1, .int x1), (2, .int x2)] []
  unfold mX12_checkIf at hF
  refine z_aload_n 0 dX12_checkIf_0 rfl rfl ?_
  refine z_aload_n 0 dX12_checkIf_1 rfl rfl ?_
  refine z_getr fr_RX12_61 dX12_checkIf_2 ?_
  refine z_iload_n 1 dX12_checkIf_5 rfl rfl ?_
  obtain ⟨hi4033, hF⟩ := zrd_at hF
  refine z_iald (n := 1600) rfl hi4033 dX12_checkIf_6 ?_
  generalize t 18 (Int32.toNatClampNeg x1) = v4032 at hF ⊢
  refine z_iload_n 2 dX12_checkIf_7 rfl rfl ?_
  obtain ⟨r4034, t4035, hc4036, hF⟩ := zbd_at hF
  refine z_callVi (ctX12_areNumbers (E := E) (f := f - 1) (by omega) hc4036) yy_X12_areNumbers yv_X12_areNumbers ob_M_0 lk_RX12_487 (by omega) rfl rfl (Nat.le_of_ble_eq_true rfl) dX12_checkIf_8 ?_
  refine z_if_ne (tgt := 26) dX12_checkIf_11 (by decide) (fun hc => ?_) (fun hc => ?_)
  · have hF := zif_f hc hF
    refine z_aload_n 0 dX12_checkIf_26 rfl rfl ?_
    refine z_iload_n 2 dX12_checkIf_27 rfl rfl ?_
    obtain ⟨r4037, t4038, hc4039, hF⟩ := zbd_at hF
    refine z_callVv (ctX12_copyDown (E := E) (f := f - 1) (by omega) hc4039) yy_X12_copyDown yv_X12_copyDown ob_M_0 lk_RX12_509 (by omega) rfl rfl (Nat.le_of_ble_eq_true rfl) dX12_checkIf_28 ?_
    refine z_aload_n 0 dX12_checkIf_31 rfl rfl ?_
    refine z_aload_n 0 dX12_checkIf_32 rfl rfl ?_
    refine z_getr fr_RX12_64 dX12_checkIf_33 ?_
    refine z_iload_n 1 dX12_checkIf_36 rfl rfl ?_
    obtain ⟨hi4041, hF⟩ := zrd_at hF
    refine z_iald (n := 1600) rfl hi4041 dX12_checkIf_37 ?_
    generalize t4038 19 (Int32.toNatClampNeg x1) = v4040 at hF ⊢
    refine z_iload_n 2 dX12_checkIf_38 rfl rfl ?_
    refine z_iconst (v := 1) dX12_checkIf_39 (by decide) ?_
    refine z_iadd dX12_checkIf_40 ?_
    obtain ⟨r4042, t4043, hc4044, hF⟩ := zbd_at hF
    refine z_callVi (z_hgX12_checkBlock hg hc4044) yy_X12_checkBlock yv_X12_checkBlock ob_M_0 lk_RX12_471 (by omega) rfl rfl (Nat.le_of_ble_eq_true rfl) dX12_checkIf_41 ?_
    refine z_istore_n (lv' := [(3, .int r4042), (0, .ref (za E 0)), (1, .int x1), (2, .int x2)]) dX12_checkIf_44 rfl (by decide) rfl ?_
    refine z_aload_n 1 dX12_checkIf_45 rfl rfl ?_
    refine z_geti fi_RX12_423 dX12_checkIf_46 ?_
    refine z_if_lt (tgt := 54) dX12_checkIf_49 (by decide) (fun hc => ?_) (fun hc => ?_)
    · have hF := zif_t hc hF
      refine z_aload_n 1 dX12_checkIf_54 rfl rfl ?_
      obtain ⟨r4045, t4046, hc4047, hF⟩ := zbd_at hF
      refine z_callVi (ctX12_keptFrom (E := E) (f := f - 1) (by omega) hc4047) yy_X12_keptFrom yv_X12_keptFrom ob_M_0 lk_RX12_512 (by omega) rfl rfl (Nat.le_of_ble_eq_true rfl) dX12_checkIf_55 ?_
      refine z_istore (lv' := [(4, .int r4045), (3, .int r4042), (0, .ref (za E 0)), (1, .int x1), (2, .int x2)]) dX12_checkIf_58 (by decide) rfl ?_
      refine z_iload_n 1 dX12_checkIf_60 rfl rfl ?_
      refine z_if_ne (tgt := 73) dX12_checkIf_61 (by decide) (fun hc => ?_) (fun hc => ?_)
      · have hF := zif_f hc hF
        refine z_sub [2, 3, 4, 1, 0] rfl ?_
        exact wbX12_checkIf_73 hf hg x1 x2 r4042 r4045 _ hF
      · have hF := zif_t hc hF
        refine z_aload_n 2 dX12_checkIf_64 rfl rfl ?_
        refine z_iload_n 4 dX12_checkIf_65 rfl rfl ?_
        refine z_iconst (v := 1) dX12_checkIf_66 (by decide) ?_
        refine z_iadd dX12_checkIf_67 ?_
        refine z_iload 0 dX12_checkIf_68 rfl ?_
        obtain ⟨r4048, t4049, hc4050, hF⟩ := zbd_at hF
        refine z_callVv (ctX12_keepAll (E := E) (f := f - 1) (by omega) hc4050) yy_X12_keepAll yv_X12_keepAll ob_M_0 lk_RX12_515 (by omega) rfl rfl (Nat.le_of_ble_eq_true rfl) dX12_checkIf_70 ?_
        refine z_sub [2, 3, 4, 1, 0] rfl ?_
        exact wbX12_checkIf_73 hf hg x1 x2 r4042 r4045 _ hF
    · have hF := zif_f hc hF
      refine z_iconst (v := 0) dX12_checkIf_52 (by decide) ?_
      exact z_zret hF (by decide) dX12_checkIf_53
  · have hF := zif_t hc hF
    refine z_aload_n 0 dX12_checkIf_14 rfl rfl ?_
    refine z_aload_n 0 dX12_checkIf_15 rfl rfl ?_
    refine z_getr fr_RX12_52 dX12_checkIf_16 ?_
    refine z_iload_n 1 dX12_checkIf_19 rfl rfl ?_
    obtain ⟨hi4052, hF⟩ := zrd_at hF
    refine z_iald (n := 1600) rfl hi4052 dX12_checkIf_20 ?_
    generalize t4035 15 (Int32.toNatClampNeg x1) = v4051 at hF ⊢
    obtain ⟨r4053, t4054, hc4055, hF⟩ := zbd_at hF
    refine z_callVv (ctX12_isBad (E := E) (f := f - 1) (by omega) hc4055) yy_X12_isBad yv_X12_isBad ob_M_0 lk_RX12_478 (by omega) rfl rfl (Nat.le_of_ble_eq_true rfl) dX12_checkIf_21 ?_
    refine z_iconst (v := 0) dX12_checkIf_24 (by decide) ?_
    exact z_zret hF (by decide) dX12_checkIf_25
-- SessionHouseModel.checkCase(II)Z
theorem dX12_checkCase_0 : decode cX12_checkCase 0 = .ok (.aload_n 0, 1) := by decide +kernel
theorem dX12_checkCase_1 : decode cX12_checkCase 1 = .ok (.getfield 55, 3) := by decide +kernel
theorem dX12_checkCase_4 : decode cX12_checkCase 4 = .ok (.iload_n 1, 1) := by decide +kernel
theorem dX12_checkCase_5 : decode cX12_checkCase 5 = .ok (.iaload, 1) := by decide +kernel
theorem dX12_checkCase_6 : decode cX12_checkCase 6 = .ok (.istore_n 3, 1) := by decide +kernel
theorem dX12_checkCase_7 : decode cX12_checkCase 7 = .ok (.aload_n 0, 1) := by decide +kernel
theorem dX12_checkCase_8 : decode cX12_checkCase 8 = .ok (.iload_n 2, 1) := by decide +kernel
theorem dX12_checkCase_9 : decode cX12_checkCase 9 = .ok (.iload_n 3, 1) := by decide +kernel
theorem dX12_checkCase_10 : decode cX12_checkCase 10 = .ok (.bipush 8, 2) := by decide +kernel
theorem dX12_checkCase_12 : decode cX12_checkCase 12 = .ok (.invokevirtual 490, 3) := by decide +kernel
theorem dX12_checkCase_15 : decode cX12_checkCase 15 = .ok (.ifCond .eq 29, 3) := by decide +kernel
theorem dX12_checkCase_18 : decode cX12_checkCase 18 = .ok (.aload_n 0, 1) := by decide +kernel
theorem dX12_checkCase_19 : decode cX12_checkCase 19 = .ok (.getfield 31, 3) := by decide +kernel
theorem dX12_checkCase_22 : decode cX12_checkCase 22 = .ok (.aload_n 0, 1) := by decide +kernel
theorem dX12_checkCase_23 : decode cX12_checkCase 23 = .ok (.iload_n 2, 1) := by decide +kernel
theorem dX12_checkCase_24 : decode cX12_checkCase 24 = .ok (.iload_n 3, 1) := by decide +kernel
theorem dX12_checkCase_25 : decode cX12_checkCase 25 = .ok (.invokevirtual 484, 3) := by decide +kernel
theorem dX12_checkCase_28 : decode cX12_checkCase 28 = .ok (.iconst 2, 1) := by decide +kernel
theorem dX12_checkCase_29 : decode cX12_checkCase 29 = .ok (.idiv, 1) := by decide +kernel
theorem dX12_checkCase_30 : decode cX12_checkCase 30 = .ok (.iaload, 1) := by decide +kernel
theorem dX12_checkCase_31 : decode cX12_checkCase 31 = .ok (.aload_n 0, 1) := by decide +kernel
theorem dX12_checkCase_32 : decode cX12_checkCase 32 = .ok (.getfield 67, 3) := by decide +kernel
theorem dX12_checkCase_35 : decode cX12_checkCase 35 = .ok (.iload_n 1, 1) := by decide +kernel
theorem dX12_checkCase_36 : decode cX12_checkCase 36 = .ok (.iaload, 1) := by decide +kernel
theorem dX12_checkCase_37 : decode cX12_checkCase 37 = .ok (.if_icmp .ne 7, 3) := by decide +kernel
theorem dX12_checkCase_40 : decode cX12_checkCase 40 = .ok (.iconst 1, 1) := by decide +kernel
theorem dX12_checkCase_41 : decode cX12_checkCase 41 = .ok (.goto 4, 3) := by decide +kernel
theorem dX12_checkCase_44 : decode cX12_checkCase 44 = .ok (.iconst 0, 1) := by decide +kernel
theorem dX12_checkCase_45 : decode cX12_checkCase 45 = .ok (.istore 4, 2) := by decide +kernel
theorem dX12_checkCase_47 : decode cX12_checkCase 47 = .ok (.aload_n 0, 1) := by decide +kernel
theorem dX12_checkCase_48 : decode cX12_checkCase 48 = .ok (.getfield 64, 3) := by decide +kernel
theorem dX12_checkCase_51 : decode cX12_checkCase 51 = .ok (.iload_n 1, 1) := by decide +kernel
theorem dX12_checkCase_52 : decode cX12_checkCase 52 = .ok (.iaload, 1) := by decide +kernel
theorem dX12_checkCase_53 : decode cX12_checkCase 53 = .ok (.istore 5, 2) := by decide +kernel
theorem dX12_checkCase_55 : decode cX12_checkCase 55 = .ok (.iload 5, 2) := by decide +kernel
theorem dX12_checkCase_57 : decode cX12_checkCase 57 = .ok (.aload_n 0, 1) := by decide +kernel
theorem dX12_checkCase_58 : decode cX12_checkCase 58 = .ok (.getfield 64, 3) := by decide +kernel
theorem dX12_checkCase_61 : decode cX12_checkCase 61 = .ok (.iload_n 1, 1) := by decide +kernel
theorem dX12_checkCase_62 : decode cX12_checkCase 62 = .ok (.iaload, 1) := by decide +kernel
theorem dX12_checkCase_63 : decode cX12_checkCase 63 = .ok (.aload_n 0, 1) := by decide +kernel
theorem dX12_checkCase_64 : decode cX12_checkCase 64 = .ok (.getfield 67, 3) := by decide +kernel
theorem dX12_checkCase_67 : decode cX12_checkCase 67 = .ok (.iload_n 1, 1) := by decide +kernel
theorem dX12_checkCase_68 : decode cX12_checkCase 68 = .ok (.iaload, 1) := by decide +kernel
theorem dX12_checkCase_69 : decode cX12_checkCase 69 = .ok (.iadd, 1) := by decide +kernel
theorem dX12_checkCase_70 : decode cX12_checkCase 70 = .ok (.if_icmp .ge 41, 3) := by decide +kernel
theorem dX12_checkCase_73 : decode cX12_checkCase 73 = .ok (.iload 4, 2) := by decide +kernel
theorem dX12_checkCase_75 : decode cX12_checkCase 75 = .ok (.ifCond .eq 36, 3) := by decide +kernel
theorem dX12_checkCase_78 : decode cX12_checkCase 78 = .ok (.aload_n 0, 1) := by decide +kernel
theorem dX12_checkCase_79 : decode cX12_checkCase 79 = .ok (.aload_n 0, 1) := by decide +kernel
theorem dX12_checkCase_80 : decode cX12_checkCase 80 = .ok (.iload_n 2, 1) := by decide +kernel
theorem dX12_checkCase_81 : decode cX12_checkCase 81 = .ok (.iload_n 3, 1) := by decide +kernel
theorem dX12_checkCase_82 : decode cX12_checkCase 82 = .ok (.invokevirtual 484, 3) := by decide +kernel
theorem dX12_checkCase_85 : decode cX12_checkCase 85 = .ok (.aload_n 0, 1) := by decide +kernel
theorem dX12_checkCase_86 : decode cX12_checkCase 86 = .ok (.getfield 76, 3) := by decide +kernel
theorem dX12_checkCase_89 : decode cX12_checkCase 89 = .ok (.iload 5, 2) := by decide +kernel
theorem dX12_checkCase_91 : decode cX12_checkCase 91 = .ok (.iaload, 1) := by decide +kernel
theorem dX12_checkCase_92 : decode cX12_checkCase 92 = .ok (.invokevirtual 448, 3) := by decide +kernel
theorem dX12_checkCase_95 : decode cX12_checkCase 95 = .ok (.ifCond .lt 7, 3) := by decide +kernel
theorem dX12_checkCase_98 : decode cX12_checkCase 98 = .ok (.iconst 1, 1) := by decide +kernel
theorem dX12_checkCase_99 : decode cX12_checkCase 99 = .ok (.goto 4, 3) := by decide +kernel
theorem dX12_checkCase_102 : decode cX12_checkCase 102 = .ok (.iconst 0, 1) := by decide +kernel
theorem dX12_checkCase_103 : decode cX12_checkCase 103 = .ok (.istore 4, 2) := by decide +kernel
theorem dX12_checkCase_105 : decode cX12_checkCase 105 = .ok (.iinc 5 1, 3) := by decide +kernel
theorem dX12_checkCase_108 : decode cX12_checkCase 108 = .ok (.goto (-53), 3) := by decide +kernel
theorem dX12_checkCase_111 : decode cX12_checkCase 111 = .ok (.iload 4, 2) := by decide +kernel
theorem dX12_checkCase_113 : decode cX12_checkCase 113 = .ok (.ifCond .ne 15, 3) := by decide +kernel
theorem dX12_checkCase_116 : decode cX12_checkCase 116 = .ok (.aload_n 0, 1) := by decide +kernel
theorem dX12_checkCase_117 : decode cX12_checkCase 117 = .ok (.aload_n 0, 1) := by decide +kernel
theorem dX12_checkCase_118 : decode cX12_checkCase 118 = .ok (.getfield 52, 3) := by decide +kernel
theorem dX12_checkCase_121 : decode cX12_checkCase 121 = .ok (.iload_n 1, 1) := by decide +kernel
theorem dX12_checkCase_122 : decode cX12_checkCase 122 = .ok (.iaload, 1) := by decide +kernel
theorem dX12_checkCase_123 : decode cX12_checkCase 123 = .ok (.invokevirtual 478, 3) := by decide +kernel
theorem dX12_checkCase_126 : decode cX12_checkCase 126 = .ok (.iconst 0, 1) := by decide +kernel
theorem dX12_checkCase_127 : decode cX12_checkCase 127 = .ok (.ireturn, 1) := by decide +kernel
theorem dX12_checkCase_128 : decode cX12_checkCase 128 = .ok (.aload_n 0, 1) := by decide +kernel
theorem dX12_checkCase_129 : decode cX12_checkCase 129 = .ok (.invokevirtual 512, 3) := by decide +kernel
theorem dX12_checkCase_132 : decode cX12_checkCase 132 = .ok (.istore 5, 2) := by decide +kernel
theorem dX12_checkCase_134 : decode cX12_checkCase 134 = .ok (.iconst 0, 1) := by decide +kernel
theorem dX12_checkCase_135 : decode cX12_checkCase 135 = .ok (.istore 6, 2) := by decide +kernel
theorem dX12_checkCase_137 : decode cX12_checkCase 137 = .ok (.iconst 1, 1) := by decide +kernel
theorem dX12_checkCase_138 : decode cX12_checkCase 138 = .ok (.istore 7, 2) := by decide +kernel
theorem dX12_checkCase_140 : decode cX12_checkCase 140 = .ok (.aload_n 0, 1) := by decide +kernel
theorem dX12_checkCase_141 : decode cX12_checkCase 141 = .ok (.getfield 64, 3) := by decide +kernel
theorem dX12_checkCase_144 : decode cX12_checkCase 144 = .ok (.iload_n 1, 1) := by decide +kernel
theorem dX12_checkCase_145 : decode cX12_checkCase 145 = .ok (.iaload, 1) := by decide +kernel
theorem dX12_checkCase_146 : decode cX12_checkCase 146 = .ok (.istore 8, 2) := by decide +kernel
theorem dX12_checkCase_148 : decode cX12_checkCase 148 = .ok (.iload 8, 2) := by decide +kernel
theorem dX12_checkCase_150 : decode cX12_checkCase 150 = .ok (.aload_n 0, 1) := by decide +kernel
theorem dX12_checkCase_151 : decode cX12_checkCase 151 = .ok (.getfield 64, 3) := by decide +kernel
theorem dX12_checkCase_154 : decode cX12_checkCase 154 = .ok (.iload_n 1, 1) := by decide +kernel
theorem dX12_checkCase_155 : decode cX12_checkCase 155 = .ok (.iaload, 1) := by decide +kernel
theorem dX12_checkCase_156 : decode cX12_checkCase 156 = .ok (.aload_n 0, 1) := by decide +kernel
theorem dX12_checkCase_157 : decode cX12_checkCase 157 = .ok (.getfield 67, 3) := by decide +kernel
theorem dX12_checkCase_160 : decode cX12_checkCase 160 = .ok (.iload_n 1, 1) := by decide +kernel
theorem dX12_checkCase_161 : decode cX12_checkCase 161 = .ok (.iaload, 1) := by decide +kernel
theorem dX12_checkCase_162 : decode cX12_checkCase 162 = .ok (.iadd, 1) := by decide +kernel
theorem dX12_checkCase_163 : decode cX12_checkCase 163 = .ok (.if_icmp .ge 116, 3) := by decide +kernel
theorem dX12_checkCase_166 : decode cX12_checkCase 166 = .ok (.aload_n 0, 1) := by decide +kernel
theorem dX12_checkCase_167 : decode cX12_checkCase 167 = .ok (.iload_n 2, 1) := by decide +kernel
theorem dX12_checkCase_168 : decode cX12_checkCase 168 = .ok (.invokevirtual 509, 3) := by decide +kernel
theorem dX12_checkCase_171 : decode cX12_checkCase 171 = .ok (.aload_n 0, 1) := by decide +kernel
theorem dX12_checkCase_172 : decode cX12_checkCase 172 = .ok (.iload_n 2, 1) := by decide +kernel
theorem dX12_checkCase_173 : decode cX12_checkCase 173 = .ok (.iconst 1, 1) := by decide +kernel
theorem dX12_checkCase_174 : decode cX12_checkCase 174 = .ok (.iadd, 1) := by decide +kernel
theorem dX12_checkCase_175 : decode cX12_checkCase 175 = .ok (.iload_n 3, 1) := by decide +kernel
theorem dX12_checkCase_176 : decode cX12_checkCase 176 = .ok (.aload_n 0, 1) := by decide +kernel
theorem dX12_checkCase_177 : decode cX12_checkCase 177 = .ok (.aload_n 0, 1) := by decide +kernel
theorem dX12_checkCase_178 : decode cX12_checkCase 178 = .ok (.iload_n 2, 1) := by decide +kernel
theorem dX12_checkCase_179 : decode cX12_checkCase 179 = .ok (.iload_n 3, 1) := by decide +kernel
theorem dX12_checkCase_180 : decode cX12_checkCase 180 = .ok (.invokevirtual 484, 3) := by decide +kernel
theorem dX12_checkCase_183 : decode cX12_checkCase 183 = .ok (.aload_n 0, 1) := by decide +kernel
theorem dX12_checkCase_184 : decode cX12_checkCase 184 = .ok (.getfield 76, 3) := by decide +kernel
theorem dX12_checkCase_187 : decode cX12_checkCase 187 = .ok (.iload 8, 2) := by decide +kernel
theorem dX12_checkCase_189 : decode cX12_checkCase 189 = .ok (.iaload, 1) := by decide +kernel
theorem dX12_checkCase_190 : decode cX12_checkCase 190 = .ok (.invokevirtual 448, 3) := by decide +kernel
theorem dX12_checkCase_193 : decode cX12_checkCase 193 = .ok (.invokevirtual 467, 3) := by decide +kernel
theorem dX12_checkCase_196 : decode cX12_checkCase 196 = .ok (.aload_n 0, 1) := by decide +kernel
theorem dX12_checkCase_197 : decode cX12_checkCase 197 = .ok (.aload_n 0, 1) := by decide +kernel
theorem dX12_checkCase_198 : decode cX12_checkCase 198 = .ok (.getfield 79, 3) := by decide +kernel
theorem dX12_checkCase_201 : decode cX12_checkCase 201 = .ok (.iload 8, 2) := by decide +kernel
theorem dX12_checkCase_203 : decode cX12_checkCase 203 = .ok (.iaload, 1) := by decide +kernel
theorem dX12_checkCase_204 : decode cX12_checkCase 204 = .ok (.iload_n 2, 1) := by decide +kernel
theorem dX12_checkCase_205 : decode cX12_checkCase 205 = .ok (.iconst 1, 1) := by decide +kernel
theorem dX12_checkCase_206 : decode cX12_checkCase 206 = .ok (.iadd, 1) := by decide +kernel
theorem dX12_checkCase_207 : decode cX12_checkCase 207 = .ok (.invokevirtual 471, 3) := by decide +kernel
theorem dX12_checkCase_210 : decode cX12_checkCase 210 = .ok (.istore 9, 2) := by decide +kernel
theorem dX12_checkCase_212 : decode cX12_checkCase 212 = .ok (.aload_n 0, 1) := by decide +kernel
theorem dX12_checkCase_213 : decode cX12_checkCase 213 = .ok (.getfield 423, 3) := by decide +kernel
theorem dX12_checkCase_216 : decode cX12_checkCase 216 = .ok (.ifCond .lt 5, 3) := by decide +kernel
theorem dX12_checkCase_219 : decode cX12_checkCase 219 = .ok (.iconst 0, 1) := by decide +kernel
theorem dX12_checkCase_220 : decode cX12_checkCase 220 = .ok (.ireturn, 1) := by decide +kernel
theorem dX12_checkCase_221 : decode cX12_checkCase 221 = .ok (.iload 9, 2) := by decide +kernel
theorem dX12_checkCase_223 : decode cX12_checkCase 223 = .ok (.ifCond .eq 6, 3) := by decide +kernel
theorem dX12_checkCase_226 : decode cX12_checkCase 226 = .ok (.goto 47, 3) := by decide +kernel
theorem dX12_checkCase_229 : decode cX12_checkCase 229 = .ok (.iload 6, 2) := by decide +kernel
theorem dX12_checkCase_231 : decode cX12_checkCase 231 = .ok (.ifCond .eq 30, 3) := by decide +kernel
theorem dX12_checkCase_234 : decode cX12_checkCase 234 = .ok (.iload 7, 2) := by decide +kernel
theorem dX12_checkCase_236 : decode cX12_checkCase 236 = .ok (.ifCond .eq 19, 3) := by decide +kernel
theorem dX12_checkCase_239 : decode cX12_checkCase 239 = .ok (.aload_n 0, 1) := by decide +kernel
theorem dX12_checkCase_240 : decode cX12_checkCase 240 = .ok (.iload_n 2, 1) := by decide +kernel
theorem dX12_checkCase_241 : decode cX12_checkCase 241 = .ok (.iconst 1, 1) := by decide +kernel
theorem dX12_checkCase_242 : decode cX12_checkCase 242 = .ok (.iadd, 1) := by decide +kernel
theorem dX12_checkCase_243 : decode cX12_checkCase 243 = .ok (.iload 5, 2) := by decide +kernel
theorem dX12_checkCase_245 : decode cX12_checkCase 245 = .ok (.invokevirtual 518, 3) := by decide +kernel
theorem dX12_checkCase_248 : decode cX12_checkCase 248 = .ok (.ifCond .eq 7, 3) := by decide +kernel
theorem dX12_checkCase_251 : decode cX12_checkCase 251 = .ok (.iconst 1, 1) := by decide +kernel
theorem dX12_checkCase_252 : decode cX12_checkCase 252 = .ok (.goto 4, 3) := by decide +kernel
theorem dX12_checkCase_255 : decode cX12_checkCase 255 = .ok (.iconst 0, 1) := by decide +kernel
theorem dX12_checkCase_256 : decode cX12_checkCase 256 = .ok (.istore 7, 2) := by decide +kernel
theorem dX12_checkCase_258 : decode cX12_checkCase 258 = .ok (.goto 12, 3) := by decide +kernel
theorem dX12_checkCase_261 : decode cX12_checkCase 261 = .ok (.aload_n 0, 1) := by decide +kernel
theorem dX12_checkCase_262 : decode cX12_checkCase 262 = .ok (.iload_n 2, 1) := by decide +kernel
theorem dX12_checkCase_263 : decode cX12_checkCase 263 = .ok (.iconst 1, 1) := by decide +kernel
theorem dX12_checkCase_264 : decode cX12_checkCase 264 = .ok (.iadd, 1) := by decide +kernel
theorem dX12_checkCase_265 : decode cX12_checkCase 265 = .ok (.iload 5, 2) := by decide +kernel
theorem dX12_checkCase_267 : decode cX12_checkCase 267 = .ok (.invokevirtual 515, 3) := by decide +kernel
theorem dX12_checkCase_270 : decode cX12_checkCase 270 = .ok (.iconst 1, 1) := by decide +kernel
theorem dX12_checkCase_271 : decode cX12_checkCase 271 = .ok (.istore 6, 2) := by decide +kernel
theorem dX12_checkCase_273 : decode cX12_checkCase 273 = .ok (.iinc 8 1, 3) := by decide +kernel
theorem dX12_checkCase_276 : decode cX12_checkCase 276 = .ok (.goto (-128), 3) := by decide +kernel
theorem dX12_checkCase_279 : decode cX12_checkCase 279 = .ok (.iload 7, 2) := by decide +kernel
theorem dX12_checkCase_281 : decode cX12_checkCase 281 = .ok (.ifCond .ne 13, 3) := by decide +kernel
theorem dX12_checkCase_284 : decode cX12_checkCase 284 = .ok (.aload_n 0, 1) := by decide +kernel
theorem dX12_checkCase_285 : decode cX12_checkCase 285 = .ok (.aload_n 0, 1) := by decide +kernel
theorem dX12_checkCase_286 : decode cX12_checkCase 286 = .ok (.getfield 52, 3) := by decide +kernel
theorem dX12_checkCase_289 : decode cX12_checkCase 289 = .ok (.iload_n 1, 1) := by decide +kernel
theorem dX12_checkCase_290 : decode cX12_checkCase 290 = .ok (.iaload, 1) := by decide +kernel
theorem dX12_checkCase_291 : decode cX12_checkCase 291 = .ok (.invokevirtual 478, 3) := by decide +kernel
theorem dX12_checkCase_294 : decode cX12_checkCase 294 = .ok (.iload 6, 2) := by decide +kernel
theorem dX12_checkCase_296 : decode cX12_checkCase 296 = .ok (.ifCond .eq 10, 3) := by decide +kernel
theorem dX12_checkCase_299 : decode cX12_checkCase 299 = .ok (.aload_n 0, 1) := by decide +kernel
theorem dX12_checkCase_300 : decode cX12_checkCase 300 = .ok (.iload 5, 2) := by decide +kernel
theorem dX12_checkCase_302 : decode cX12_checkCase 302 = .ok (.iload_n 2, 1) := by decide +kernel
theorem dX12_checkCase_303 : decode cX12_checkCase 303 = .ok (.invokevirtual 524, 3) := by decide +kernel
theorem dX12_checkCase_306 : decode cX12_checkCase 306 = .ok (.aload_n 0, 1) := by decide +kernel
theorem dX12_checkCase_307 : decode cX12_checkCase 307 = .ok (.iload 5, 2) := by decide +kernel
theorem dX12_checkCase_309 : decode cX12_checkCase 309 = .ok (.putfield 464, 3) := by decide +kernel
theorem dX12_checkCase_312 : decode cX12_checkCase 312 = .ok (.iload 6, 2) := by decide +kernel
theorem dX12_checkCase_314 : decode cX12_checkCase 314 = .ok (.ifCond .ne 7, 3) := by decide +kernel
theorem dX12_checkCase_317 : decode cX12_checkCase 317 = .ok (.iconst 1, 1) := by decide +kernel
theorem dX12_checkCase_318 : decode cX12_checkCase 318 = .ok (.goto 4, 3) := by decide +kernel
theorem dX12_checkCase_321 : decode cX12_checkCase 321 = .ok (.iconst 0, 1) := by decide +kernel
theorem dX12_checkCase_322 : decode cX12_checkCase 322 = .ok (.ireturn, 1) := by decide +kernel
def bX12_checkCase_103 (g : GgX12_checkBlock) (k55 : Int32 → Int32 → Int32 → Int32 → Int32 → zS → zR) (x1 : Int32) (x2 : Int32) (x3 : Int32) (x5 : Int32) (y0 : Int32) (t : zS) : zR := zlet (x5 + 1) fun v4056 => k55 x1 x2 x3 y0 v4056 t
def bX12_checkCase_273 (g : GgX12_checkBlock) (k148 : Int32 → Int32 → Int32 → Int32 → Int32 → Int32 → Int32 → zS → zR) (x1 : Int32) (x2 : Int32) (x3 : Int32) (x5 : Int32) (x6 : Int32) (x7 : Int32) (x8 : Int32) (t : zS) : zR := zlet (x8 + 1) fun v4057 => k148 x1 x2 x3 x5 x6 x7 v4057 t
def bX12_checkCase_270 (g : GgX12_checkBlock) (k148 : Int32 → Int32 → Int32 → Int32 → Int32 → Int32 → Int32 → zS → zR) (x1 : Int32) (x2 : Int32) (x3 : Int32) (x5 : Int32) (x7 : Int32) (x8 : Int32) (t : zS) : zR := bX12_checkCase_273 g k148 x1 x2 x3 x5 1 x7 x8 t
def bX12_checkCase_256 (g : GgX12_checkBlock) (k148 : Int32 → Int32 → Int32 → Int32 → Int32 → Int32 → Int32 → zS → zR) (x1 : Int32) (x2 : Int32) (x3 : Int32) (x5 : Int32) (x8 : Int32) (y0 : Int32) (t : zS) : zR := bX12_checkCase_270 g k148 x1 x2 x3 x5 y0 x8 t
def bX12_checkCase_255 (g : GgX12_checkBlock) (k148 : Int32 → Int32 → Int32 → Int32 → Int32 → Int32 → Int32 → zS → zR) (x1 : Int32) (x2 : Int32) (x3 : Int32) (x5 : Int32) (x8 : Int32) (t : zS) : zR := bX12_checkCase_256 g k148 x1 x2 x3 x5 x8 0 t
def bX12_checkCase_306 (g : GgX12_checkBlock) (x5 : Int32) (x6 : Int32) (t : zS) : zR := zpt t 0 70 x5 fun t4058 => if x6 = 0 then some (1, t4058) else some (0, t4058)
def bX12_checkCase_294 (g : GgX12_checkBlock) (x2 : Int32) (x5 : Int32) (x6 : Int32) (t : zS) : zR := if x6 = 0 then bX12_checkCase_306 g x5 x6 t else zbd (mX12_backAll x5 x2 t) fun r4059 t4060 => bX12_checkCase_306 g x5 x6 t4060
def bX12_checkCase_148 (g : GgX12_checkBlock) (k148 : Int32 → Int32 → Int32 → Int32 → Int32 → Int32 → Int32 → zS → zR) (x1 : Int32) (x2 : Int32) (x3 : Int32) (x5 : Int32) (x6 : Int32) (x7 : Int32) (x8 : Int32) (t : zS) : zR := zrd t 19 1600 x1 fun v4062 => zrd t 20 1600 x1 fun v4064 => if (v4062 + v4064) ≤ x8 then if x7 = 0 then zrd t 15 1600 x1 fun v4066 => zbd (mX12_isBad v4066 t) fun r4068 t4069 => bX12_checkCase_294 g x2 x5 x6 t4069 else bX12_checkCase_294 g x2 x5 x6 t else zbd (mX12_copyDown x2 t) fun r4071 t4072 => zbd (mX12_channel x2 x3 t4072) fun r4074 t4075 => zrd t4075 23 1600 x8 fun v4077 => zbd (mX12_byLabel r4074 v4077 t4075) fun r4079 t4080 => zbd (mX12_setChannel (x2 + 1) x3 r4079 t4080) fun r4082 t4083 => zrd t4083 24 1600 x8 fun v4085 => zbd (g.1 v4085 (x2 + 1) t4083) fun r4087 t4088 => if (t4088 0 67) < 0 then if r4087 = 0 then if x6 = 0 then zbd (mX12_keepAll (x2 + 1) x5 t4088) fun r4090 t4091 => bX12_checkCase_270 g k148 x1 x2 x3 x5 x7 x8 t4091 else if x7 = 0 then bX12_checkCase_255 g k148 x1 x2 x3 x5 x8 t4088 else zbd (mX12_isKept (x2 + 1) x5 t4088) fun r4093 t4094 => if r4093 = 0 then bX12_checkCase_255 g k148 x1 x2 x3 x5 x8 t4094 else bX12_checkCase_256 g k148 x1 x2 x3 x5 x8 1 t4094 else bX12_checkCase_273 g k148 x1 x2 x3 x5 x6 x7 x8 t4088 else some (0, t4088)
def lX12_checkCase_148 (g : GgX12_checkBlock) : Nat → Int32 → Int32 → Int32 → Int32 → Int32 → Int32 → Int32 → zS → zR
  | 0, _, _, _, _, _, _, _, _ => none
  | fu + 1, x1, x2, x3, x5, x6, x7, x8, t => bX12_checkCase_148 g (lX12_checkCase_148 g fu) x1 x2 x3 x5 x6 x7 x8 t
def bX12_checkCase_111 (g : GgX12_checkBlock) (x1 : Int32) (x2 : Int32) (x3 : Int32) (x4 : Int32) (t : zS) : zR := if x4 = 0 then zrd t 15 1600 x1 fun v4101 => zbd (mX12_isBad v4101 t) fun r4103 t4104 => some (0, t4104) else zbd (mX12_keptFrom  t) fun r4096 t4097 => zrd t4097 19 1600 x1 fun v4099 => lX12_checkCase_148 g zFU x1 x2 x3 r4096 0 1 v4099 t4097
def bX12_checkCase_55 (g : GgX12_checkBlock) (k55 : Int32 → Int32 → Int32 → Int32 → Int32 → zS → zR) (x1 : Int32) (x2 : Int32) (x3 : Int32) (x4 : Int32) (x5 : Int32) (t : zS) : zR := zrd t 19 1600 x1 fun v4106 => zrd t 20 1600 x1 fun v4108 => if (v4106 + v4108) ≤ x5 then bX12_checkCase_111 g x1 x2 x3 x4 t else if x4 = 0 then bX12_checkCase_111 g x1 x2 x3 x4 t else zbd (mX12_channel x2 x3 t) fun r4110 t4111 => zrd t4111 23 1600 x5 fun v4113 => zbd (mX12_byLabel r4110 v4113 t4111) fun r4115 t4116 => if r4115 < 0 then bX12_checkCase_103 g k55 x1 x2 x3 x5 0 t4116 else bX12_checkCase_103 g k55 x1 x2 x3 x5 1 t4116
def lX12_checkCase_55 (g : GgX12_checkBlock) : Nat → Int32 → Int32 → Int32 → Int32 → Int32 → zS → zR
  | 0, _, _, _, _, _, _ => none
  | fu + 1, x1, x2, x3, x4, x5, t => bX12_checkCase_55 g (lX12_checkCase_55 g fu) x1 x2 x3 x4 x5 t
def bX12_checkCase_45 (g : GgX12_checkBlock) (x1 : Int32) (x2 : Int32) (x3 : Int32) (y0 : Int32) (t : zS) : zR := zrd t 19 1600 x1 fun v4118 => lX12_checkCase_55 g zFU x1 x2 x3 y0 v4118 t
def bX12_checkCase_44 (g : GgX12_checkBlock) (x1 : Int32) (x2 : Int32) (x3 : Int32) (t : zS) : zR := bX12_checkCase_45 g x1 x2 x3 0 t
def mX12_checkCase (g : GgX12_checkBlock) (x1 : Int32) (x2 : Int32) (t : zS) : zR := zrd t 16 1600 x1 fun v4120 => zbd (mX12_isOne x2 v4120 8 t) fun r4122 t4123 => if r4122 = 0 then bX12_checkCase_44 g x1 x2 v4120 t4123 else zbd (mX12_channel x2 v4120 t4123) fun r4125 t4126 => zrd t4126 8 3100 (r4125 / 2) fun v4128 => zrd t4126 20 1600 x1 fun v4130 => if v4128 = v4130 then bX12_checkCase_45 g x1 x2 v4120 1 t4126 else bX12_checkCase_44 g x1 x2 v4120 t4126
set_option maxHeartbeats 4000000 in
set_option maxRecDepth 20000 in
theorem wbX12_checkCase_103 {E : zE} {C : zC} {f : Nat} {ro : Int32 × zS} (hf : 5 ≤ f) {g : GgX12_checkBlock} (hg : HgX12_checkBlock E (f - 1) g) (k55 : Int32 → Int32 → Int32 → Int32 → Int32 → zS → zR) (hk55 : ∀ (x1 x2 x3 x4 x5 : Int32) (t : zS), k55 x1 x2 x3 x4 x5 t = some ro → zJ E shM C cX12_checkCase RX12 10 f (some .boolean) ro t 55 [(0, .ref (za E 0)), (1, .int x1), (2, .int x2), (3, .int x3), (4, .int x4), (5, .int x5)] []) (x1 : Int32) (x2 : Int32) (x3 : Int32) (x5 : Int32) (y0 : Int32) (t : zS) (hF : bX12_checkCase_103 g k55 x1 x2 x3 x5 y0 t = some ro) : zJ E shM C cX12_checkCase RX12 10 f (some .boolean) ro t 103 [(0, .ref (za E 0)), (1, .int x1), (2, .int x2), (3, .int x3), (5, .int x5)] [.int y0] := by
  unfold bX12_checkCase_103 at hF
  refine z_istore (lv' := [(4, .int y0), (0, .ref (za E 0)), (1, .int x1), (2, .int x2), (3, .int x3), (5, .int x5)]) dX12_checkCase_103 (by decide) rfl ?_
  obtain ⟨v4056, ev4056⟩ : ∃ y : Int32, y = (x5 + 1) := ⟨_, rfl⟩
  have hF := zlet_at ev4056 hF
  refine z_iinc (v := v4056) (lv' := [(5, .int v4056), (4, .int y0), (0, .ref (za E 0)), (1, .int x1), (2, .int x2), (3, .int x3)]) (k := 5) dX12_checkCase_105 rfl (by rw [ev4056]; rfl) (by decide) rfl ?_
  refine z_goto (tgt := 55) dX12_checkCase_108 (by decide) ?_
  refine z_sub [2, 3, 4, 5, 1, 0] rfl ?_
  exact hk55 x1 x2 x3 y0 v4056 _ hF
set_option maxHeartbeats 4000000 in
set_option maxRecDepth 20000 in
theorem wbX12_checkCase_273 {E : zE} {C : zC} {f : Nat} {ro : Int32 × zS} (hf : 5 ≤ f) {g : GgX12_checkBlock} (hg : HgX12_checkBlock E (f - 1) g) (k148 : Int32 → Int32 → Int32 → Int32 → Int32 → Int32 → Int32 → zS → zR) (hk148 : ∀ (x1 x2 x3 x5 x6 x7 x8 : Int32) (t : zS), k148 x1 x2 x3 x5 x6 x7 x8 t = some ro → zJ E shM C cX12_checkCase RX12 10 f (some .boolean) ro t 148 [(0, .ref (za E 0)), (1, .int x1), (2, .int x2), (3, .int x3), (5, .int x5), (6, .int x6), (7, .int x7), (8, .int x8)] []) (x1 : Int32) (x2 : Int32) (x3 : Int32) (x5 : Int32) (x6 : Int32) (x7 : Int32) (x8 : Int32) (t : zS) (hF : bX12_checkCase_273 g k148 x1 x2 x3 x5 x6 x7 x8 t = some ro) : zJ E shM C cX12_checkCase RX12 10 f (some .boolean) ro t 273 [(0, .ref (za E 0)), (1, .int x1), (2, .int x2), (3, .int x3), (5, .int x5), (6, .int x6), (7, .int x7), (8, .int x8)] [] := by
  unfold bX12_checkCase_273 at hF
  obtain ⟨v4057, ev4057⟩ : ∃ y : Int32, y = (x8 + 1) := ⟨_, rfl⟩
  have hF := zlet_at ev4057 hF
  refine z_iinc (v := v4057) (lv' := [(8, .int v4057), (0, .ref (za E 0)), (1, .int x1), (2, .int x2), (3, .int x3), (5, .int x5), (6, .int x6), (7, .int x7)]) (k := 7) dX12_checkCase_273 rfl (by rw [ev4057]; rfl) (by decide) rfl ?_
  refine z_goto (tgt := 148) dX12_checkCase_276 (by decide) ?_
  refine z_sub [1, 2, 3, 4, 5, 6, 7, 0] rfl ?_
  exact hk148 x1 x2 x3 x5 x6 x7 v4057 _ hF
set_option maxHeartbeats 4000000 in
set_option maxRecDepth 20000 in
theorem wbX12_checkCase_270 {E : zE} {C : zC} {f : Nat} {ro : Int32 × zS} (hf : 5 ≤ f) {g : GgX12_checkBlock} (hg : HgX12_checkBlock E (f - 1) g) (k148 : Int32 → Int32 → Int32 → Int32 → Int32 → Int32 → Int32 → zS → zR) (hk148 : ∀ (x1 x2 x3 x5 x6 x7 x8 : Int32) (t : zS), k148 x1 x2 x3 x5 x6 x7 x8 t = some ro → zJ E shM C cX12_checkCase RX12 10 f (some .boolean) ro t 148 [(0, .ref (za E 0)), (1, .int x1), (2, .int x2), (3, .int x3), (5, .int x5), (6, .int x6), (7, .int x7), (8, .int x8)] []) (x1 : Int32) (x2 : Int32) (x3 : Int32) (x5 : Int32) (x7 : Int32) (x8 : Int32) (t : zS) (hF : bX12_checkCase_270 g k148 x1 x2 x3 x5 x7 x8 t = some ro) : zJ E shM C cX12_checkCase RX12 10 f (some .boolean) ro t 270 [(0, .ref (za E 0)), (1, .int x1), (2, .int x2), (3, .int x3), (5, .int x5), (7, .int x7), (8, .int x8)] [] := by
  unfold bX12_checkCase_270 at hF
  refine z_iconst (v := 1) dX12_checkCase_270 (by decide) ?_
  refine z_istore (lv' := [(6, .int 1), (0, .ref (za E 0)), (1, .int x1), (2, .int x2), (3, .int x3), (5, .int x5), (7, .int x7), (8, .int x8)]) dX12_checkCase_271 (by decide) rfl ?_
  refine z_sub [1, 2, 3, 4, 5, 0, 6, 7] rfl ?_
  exact wbX12_checkCase_273 hf hg k148 hk148 x1 x2 x3 x5 1 x7 x8 _ hF
set_option maxHeartbeats 4000000 in
set_option maxRecDepth 20000 in
theorem wbX12_checkCase_256 {E : zE} {C : zC} {f : Nat} {ro : Int32 × zS} (hf : 5 ≤ f) {g : GgX12_checkBlock} (hg : HgX12_checkBlock E (f - 1) g) (k148 : Int32 → Int32 → Int32 → Int32 → Int32 → Int32 → Int32 → zS → zR) (hk148 : ∀ (x1 x2 x3 x5 x6 x7 x8 : Int32) (t : zS), k148 x1 x2 x3 x5 x6 x7 x8 t = some ro → zJ E shM C cX12_checkCase RX12 10 f (some .boolean) ro t 148 [(0, .ref (za E 0)), (1, .int x1), (2, .int x2), (3, .int x3), (5, .int x5), (6, .int x6), (7, .int x7), (8, .int x8)] []) (x1 : Int32) (x2 : Int32) (x3 : Int32) (x5 : Int32) (x8 : Int32) (y0 : Int32) (t : zS) (hF : bX12_checkCase_256 g k148 x1 x2 x3 x5 x8 y0 t = some ro) : zJ E shM C cX12_checkCase RX12 10 f (some .boolean) ro t 256 [(0, .ref (za E 0)), (1, .int x1), (2, .int x2), (3, .int x3), (5, .int x5), (8, .int x8)] [.int y0] := by
  unfold bX12_checkCase_256 at hF
  refine z_istore (lv' := [(7, .int y0), (0, .ref (za E 0)), (1, .int x1), (2, .int x2), (3, .int x3), (5, .int x5), (8, .int x8)]) dX12_checkCase_256 (by decide) rfl ?_
  refine z_goto (tgt := 270) dX12_checkCase_258 (by decide) ?_
  refine z_sub [1, 2, 3, 4, 5, 0, 6] rfl ?_
  exact wbX12_checkCase_270 hf hg k148 hk148 x1 x2 x3 x5 y0 x8 _ hF
set_option maxHeartbeats 4000000 in
set_option maxRecDepth 20000 in
theorem wbX12_checkCase_255 {E : zE} {C : zC} {f : Nat} {ro : Int32 × zS} (hf : 5 ≤ f) {g : GgX12_checkBlock} (hg : HgX12_checkBlock E (f - 1) g) (k148 : Int32 → Int32 → Int32 → Int32 → Int32 → Int32 → Int32 → zS → zR) (hk148 : ∀ (x1 x2 x3 x5 x6 x7 x8 : Int32) (t : zS), k148 x1 x2 x3 x5 x6 x7 x8 t = some ro → zJ E shM C cX12_checkCase RX12 10 f (some .boolean) ro t 148 [(0, .ref (za E 0)), (1, .int x1), (2, .int x2), (3, .int x3), (5, .int x5), (6, .int x6), (7, .int x7), (8, .int x8)] []) (x1 : Int32) (x2 : Int32) (x3 : Int32) (x5 : Int32) (x8 : Int32) (t : zS) (hF : bX12_checkCase_255 g k148 x1 x2 x3 x5 x8 t = some ro) : zJ E shM C cX12_checkCase RX12 10 f (some .boolean) ro t 255 [(0, .ref (za E 0)), (1, .int x1), (2, .int x2), (3, .int x3), (5, .int x5), (8, .int x8)] [] := by
  unfold bX12_checkCase_255 at hF
  refine z_iconst (v := 0) dX12_checkCase_255 (by decide) ?_
  exact wbX12_checkCase_256 hf hg k148 hk148 x1 x2 x3 x5 x8 0 _ hF
set_option maxHeartbeats 4000000 in
set_option maxRecDepth 20000 in
theorem wbX12_checkCase_306 {E : zE} {C : zC} {f : Nat} {ro : Int32 × zS} (hf : 5 ≤ f) {g : GgX12_checkBlock} (hg : HgX12_checkBlock E (f - 1) g) (x5 : Int32) (x6 : Int32) (t : zS) (hF : bX12_checkCase_306 g x5 x6 t = some ro) : zJ E shM C cX12_checkCase RX12 10 f (some .boolean) ro t 306 [(0, .ref (za E 0)), (5, .int x5), (6, .int x6)] [] := by
  unfold bX12_checkCase_306 at hF
  refine z_aload_n 0 dX12_checkCase_306 rfl rfl ?_
  refine z_iload 1 dX12_checkCase_307 rfl ?_
  refine z_puti fw_RX12_464 dX12_checkCase_309 (fun t4058 et4058 => ?_)
  have hF := zpt_at hF t4058 et4058
  refine z_iload 2 dX12_checkCase_312 rfl ?_
  refine z_if_ne (tgt := 321) dX12_checkCase_314 (by decide) (fun hc => ?_) (fun hc => ?_)
  · have hF := zif_f hc hF
    refine z_iconst (v := 0) dX12_checkCase_321 (by decide) ?_
    exact z_zret hF (by decide) dX12_checkCase_322
  · have hF := zif_t hc hF
    refine z_iconst (v := 1) dX12_checkCase_317 (by decide) ?_
    refine z_goto (tgt := 322) dX12_checkCase_318 (by decide) ?_
    exact z_zret hF (by decide) dX12_checkCase_322
set_option maxHeartbeats 4000000 in
set_option maxRecDepth 20000 in
theorem wbX12_checkCase_294 {E : zE} {C : zC} {f : Nat} {ro : Int32 × zS} (hf : 5 ≤ f) {g : GgX12_checkBlock} (hg : HgX12_checkBlock E (f - 1) g) (x2 : Int32) (x5 : Int32) (x6 : Int32) (t : zS) (hF : bX12_checkCase_294 g x2 x5 x6 t = some ro) : zJ E shM C cX12_checkCase RX12 10 f (some .boolean) ro t 294 [(0, .ref (za E 0)), (2, .int x2), (5, .int x5), (6, .int x6)] [] := by
  unfold bX12_checkCase_294 at hF
  refine z_iload 3 dX12_checkCase_294 rfl ?_
  refine z_if_eq (tgt := 306) dX12_checkCase_296 (by decide) (fun hc => ?_) (fun hc => ?_)
  · have hF := zif_t hc hF
    refine z_sub [0, 2, 3] rfl ?_
    exact wbX12_checkCase_306 hf hg x5 x6 _ hF
  · have hF := zif_f hc hF
    refine z_aload_n 0 dX12_checkCase_299 rfl rfl ?_
    refine z_iload 2 dX12_checkCase_300 rfl ?_
    refine z_iload_n 1 dX12_checkCase_302 rfl rfl ?_
    obtain ⟨r4059, t4060, hc4061, hF⟩ := zbd_at hF
    refine z_callVv (ctX12_backAll (E := E) (f := f - 1) (by omega) hc4061) yy_X12_backAll yv_X12_backAll ob_M_0 lk_RX12_524 (by omega) rfl rfl (Nat.le_of_ble_eq_true rfl) dX12_checkCase_303 ?_
    refine z_sub [0, 2, 3] rfl ?_
    exact wbX12_checkCase_306 hf hg x5 x6 _ hF
set_option maxHeartbeats 4000000 in
set_option maxRecDepth 20000 in
theorem wbX12_checkCase_148 {E : zE} {C : zC} {f : Nat} {ro : Int32 × zS} (hf : 5 ≤ f) {g : GgX12_checkBlock} (hg : HgX12_checkBlock E (f - 1) g) (k148 : Int32 → Int32 → Int32 → Int32 → Int32 → Int32 → Int32 → zS → zR) (hk148 : ∀ (x1 x2 x3 x5 x6 x7 x8 : Int32) (t : zS), k148 x1 x2 x3 x5 x6 x7 x8 t = some ro → zJ E shM C cX12_checkCase RX12 10 f (some .boolean) ro t 148 [(0, .ref (za E 0)), (1, .int x1), (2, .int x2), (3, .int x3), (5, .int x5), (6, .int x6), (7, .int x7), (8, .int x8)] []) (x1 : Int32) (x2 : Int32) (x3 : Int32) (x5 : Int32) (x6 : Int32) (x7 : Int32) (x8 : Int32) (t : zS) (hF : bX12_checkCase_148 g k148 x1 x2 x3 x5 x6 x7 x8 t = some ro) : zJ E shM C cX12_checkCase RX12 10 f (some .boolean) ro t 148 [(0, .ref (za E 0)), (1, .int x1), (2, .int x2), (3, .int x3), (5, .int x5), (6, .int x6), (7, .int x7), (8, .int x8)] [] := by
  unfold bX12_checkCase_148 at hF
  refine z_iload 7 dX12_checkCase_148 rfl ?_
  refine z_aload_n 0 dX12_checkCase_150 rfl rfl ?_
  refine z_getr fr_RX12_64 dX12_checkCase_151 ?_
  refine z_iload_n 1 dX12_checkCase_154 rfl rfl ?_
  obtain ⟨hi4063, hF⟩ := zrd_at hF
  refine z_iald (n := 1600) rfl hi4063 dX12_checkCase_155 ?_
  generalize t 19 (Int32.toNatClampNeg x1) = v4062 at hF ⊢
  refine z_aload_n 0 dX12_checkCase_156 rfl rfl ?_
  refine z_getr fr_RX12_67 dX12_checkCase_157 ?_
  refine z_iload_n 1 dX12_checkCase_160 rfl rfl ?_
  obtain ⟨hi4065, hF⟩ := zrd_at hF
  refine z_iald (n := 1600) rfl hi4065 dX12_checkCase_161 ?_
  generalize t 20 (Int32.toNatClampNeg x1) = v4064 at hF ⊢
  refine z_iadd dX12_checkCase_162 ?_
  refine z_icmp_ge (tgt := 279) dX12_checkCase_163 (by decide) (fun hc => ?_) (fun hc => ?_)
  · have hF := zif_t hc hF
    refine z_iload 6 dX12_checkCase_279 rfl ?_
    refine z_if_ne (tgt := 294) dX12_checkCase_281 (by decide) (fun hc => ?_) (fun hc => ?_)
    · have hF := zif_f hc hF
      refine z_sub [0, 2, 4, 5] rfl ?_
      exact wbX12_checkCase_294 hf hg x2 x5 x6 _ hF
    · have hF := zif_t hc hF
      refine z_aload_n 0 dX12_checkCase_284 rfl rfl ?_
      refine z_aload_n 0 dX12_checkCase_285 rfl rfl ?_
      refine z_getr fr_RX12_52 dX12_checkCase_286 ?_
      refine z_iload_n 1 dX12_checkCase_289 rfl rfl ?_
      obtain ⟨hi4067, hF⟩ := zrd_at hF
      refine z_iald (n := 1600) rfl hi4067 dX12_checkCase_290 ?_
      generalize t 15 (Int32.toNatClampNeg x1) = v4066 at hF ⊢
      obtain ⟨r4068, t4069, hc4070, hF⟩ := zbd_at hF
      refine z_callVv (ctX12_isBad (E := E) (f := f - 1) (by omega) hc4070) yy_X12_isBad yv_X12_isBad ob_M_0 lk_RX12_478 (by omega) rfl rfl (Nat.le_of_ble_eq_true rfl) dX12_checkCase_291 ?_
      refine z_sub [0, 2, 4, 5] rfl ?_
      exact wbX12_checkCase_294 hf hg x2 x5 x6 _ hF
  · have hF := zif_f hc hF
    refine z_aload_n 0 dX12_checkCase_166 rfl rfl ?_
    refine z_iload_n 2 dX12_checkCase_167 rfl rfl ?_
    obtain ⟨r4071, t4072, hc4073, hF⟩ := zbd_at hF
    refine z_callVv (ctX12_copyDown (E := E) (f := f - 1) (by omega) hc4073) yy_X12_copyDown yv_X12_copyDown ob_M_0 lk_RX12_509 (by omega) rfl rfl (Nat.le_of_ble_eq_true rfl) dX12_checkCase_168 ?_
    refine z_aload_n 0 dX12_checkCase_171 rfl rfl ?_
    refine z_iload_n 2 dX12_checkCase_172 rfl rfl ?_
    refine z_iconst (v := 1) dX12_checkCase_173 (by decide) ?_
    refine z_iadd dX12_checkCase_174 ?_
    refine z_iload_n 3 dX12_checkCase_175 rfl rfl ?_
    refine z_aload_n 0 dX12_checkCase_176 rfl rfl ?_
    refine z_aload_n 0 dX12_checkCase_177 rfl rfl ?_
    refine z_iload_n 2 dX12_checkCase_178 rfl rfl ?_
    refine z_iload_n 3 dX12_checkCase_179 rfl rfl ?_
    obtain ⟨r4074, t4075, hc4076, hF⟩ := zbd_at hF
    refine z_callVi (ctX12_channel (E := E) (f := f - 1) (by omega) hc4076) yy_X12_channel yv_X12_channel ob_M_0 lk_RX12_484 (by omega) rfl rfl (Nat.le_of_ble_eq_true rfl) dX12_checkCase_180 ?_
    refine z_aload_n 0 dX12_checkCase_183 rfl rfl ?_
    refine z_getr fr_RX12_76 dX12_checkCase_184 ?_
    refine z_iload 7 dX12_checkCase_187 rfl ?_
    obtain ⟨hi4078, hF⟩ := zrd_at hF
    refine z_iald (n := 1600) rfl hi4078 dX12_checkCase_189 ?_
    generalize t4075 23 (Int32.toNatClampNeg x8) = v4077 at hF ⊢
    obtain ⟨r4079, t4080, hc4081, hF⟩ := zbd_at hF
    refine z_callVi (ctX12_byLabel (E := E) (f := f - 1) (by omega) hc4081) yy_X12_byLabel yv_X12_byLabel ob_M_0 lk_RX12_448 (by omega) rfl rfl (Nat.le_of_ble_eq_true rfl) dX12_checkCase_190 ?_
    obtain ⟨r4082, t4083, hc4084, hF⟩ := zbd_at hF
    refine z_callVv (ctX12_setChannel (E := E) (f := f - 1) (by omega) hc4084) yy_X12_setChannel yv_X12_setChannel ob_M_0 lk_RX12_467 (by omega) rfl rfl (Nat.le_of_ble_eq_true rfl) dX12_checkCase_193 ?_
    refine z_aload_n 0 dX12_checkCase_196 rfl rfl ?_
    refine z_aload_n 0 dX12_checkCase_197 rfl rfl ?_
    refine z_getr fr_RX12_79 dX12_checkCase_198 ?_
    refine z_iload 7 dX12_checkCase_201 rfl ?_
    obtain ⟨hi4086, hF⟩ := zrd_at hF
    refine z_iald (n := 1600) rfl hi4086 dX12_checkCase_203 ?_
    generalize t4083 24 (Int32.toNatClampNeg x8) = v4085 at hF ⊢
    refine z_iload_n 2 dX12_checkCase_204 rfl rfl ?_
    refine z_iconst (v := 1) dX12_checkCase_205 (by decide) ?_
    refine z_iadd dX12_checkCase_206 ?_
    obtain ⟨r4087, t4088, hc4089, hF⟩ := zbd_at hF
    refine z_callVi (z_hgX12_checkBlock hg hc4089) yy_X12_checkBlock yv_X12_checkBlock ob_M_0 lk_RX12_471 (by omega) rfl rfl (Nat.le_of_ble_eq_true rfl) dX12_checkCase_207 ?_
    refine z_istore (lv' := [(9, .int r4087), (0, .ref (za E 0)), (1, .int x1), (2, .int x2), (3, .int x3), (5, .int x5), (6, .int x6), (7, .int x7), (8, .int x8)]) dX12_checkCase_210 (by decide) rfl ?_
    refine z_aload_n 1 dX12_checkCase_212 rfl rfl ?_
    refine z_geti fi_RX12_423 dX12_checkCase_213 ?_
    refine z_if_lt (tgt := 221) dX12_checkCase_216 (by decide) (fun hc => ?_) (fun hc => ?_)
    · have hF := zif_t hc hF
      refine z_iload 0 dX12_checkCase_221 rfl ?_
      refine z_if_eq (tgt := 229) dX12_checkCase_223 (by decide) (fun hc => ?_) (fun hc => ?_)
      · have hF := zif_t hc hF
        refine z_iload 6 dX12_checkCase_229 rfl ?_
        refine z_if_eq (tgt := 261) dX12_checkCase_231 (by decide) (fun hc => ?_) (fun hc => ?_)
        · have hF := zif_t hc hF
          refine z_aload_n 1 dX12_checkCase_261 rfl rfl ?_
          refine z_iload_n 3 dX12_checkCase_262 rfl rfl ?_
          refine z_iconst (v := 1) dX12_checkCase_263 (by decide) ?_
          refine z_iadd dX12_checkCase_264 ?_
          refine z_iload 5 dX12_checkCase_265 rfl ?_
          obtain ⟨r4090, t4091, hc4092, hF⟩ := zbd_at hF
          refine z_callVv (ctX12_keepAll (E := E) (f := f - 1) (by omega) hc4092) yy_X12_keepAll yv_X12_keepAll ob_M_0 lk_RX12_515 (by omega) rfl rfl (Nat.le_of_ble_eq_true rfl) dX12_checkCase_267 ?_
          refine z_sub [1, 2, 3, 4, 5, 7, 8] rfl ?_
          exact wbX12_checkCase_270 hf hg k148 hk148 x1 x2 x3 x5 x7 x8 _ hF
        · have hF := zif_f hc hF
          refine z_iload 7 dX12_checkCase_234 rfl ?_
          refine z_if_eq (tgt := 255) dX12_checkCase_236 (by decide) (fun hc => ?_) (fun hc => ?_)
          · have hF := zif_t hc hF
            refine z_sub [1, 2, 3, 4, 5, 8] rfl ?_
            exact wbX12_checkCase_255 hf hg k148 hk148 x1 x2 x3 x5 x8 _ hF
          · have hF := zif_f hc hF
            refine z_aload_n 1 dX12_checkCase_239 rfl rfl ?_
            refine z_iload_n 3 dX12_checkCase_240 rfl rfl ?_
            refine z_iconst (v := 1) dX12_checkCase_241 (by decide) ?_
            refine z_iadd dX12_checkCase_242 ?_
            refine z_iload 5 dX12_checkCase_243 rfl ?_
            obtain ⟨r4093, t4094, hc4095, hF⟩ := zbd_at hF
            refine z_callVi (ctX12_isKept (E := E) (f := f - 1) (by omega) hc4095) yy_X12_isKept yv_X12_isKept ob_M_0 lk_RX12_518 (by omega) rfl rfl (Nat.le_of_ble_eq_true rfl) dX12_checkCase_245 ?_
            refine z_if_eq (tgt := 255) dX12_checkCase_248 (by decide) (fun hc => ?_) (fun hc => ?_)
            · have hF := zif_t hc hF
              refine z_sub [1, 2, 3, 4, 5, 8] rfl ?_
              exact wbX12_checkCase_255 hf hg k148 hk148 x1 x2 x3 x5 x8 _ hF
            · have hF := zif_f hc hF
              refine z_iconst (v := 1) dX12_checkCase_251 (by decide) ?_
              refine z_goto (tgt := 256) dX12_checkCase_252 (by decide) ?_
              refine z_sub [1, 2, 3, 4, 5, 8] rfl ?_
              exact wbX12_checkCase_256 hf hg k148 hk148 x1 x2 x3 x5 x8 1 _ hF
      · have hF := zif_f hc hF
        refine z_goto (tgt := 273) dX12_checkCase_226 (by decide) ?_
        refine z_sub [1, 2, 3, 4, 5, 6, 7, 8] rfl ?_
        exact wbX12_checkCase_273 hf hg k148 hk148 x1 x2 x3 x5 x6 x7 x8 _ hF
    · have hF := zif_f hc hF
      refine z_iconst (v := 0) dX12_checkCase_219 (by decide) ?_
      exact z_zret hF (by decide) dX12_checkCase_220
set_option maxHeartbeats 4000000 in
set_option maxRecDepth 20000 in
theorem wlX12_checkCase_148 {E : zE} {C : zC} {f : Nat} {ro : Int32 × zS} (hf : 5 ≤ f) {g : GgX12_checkBlock} (hg : HgX12_checkBlock E (f - 1) g) (fu : Nat) : ∀ (x1 x2 x3 x5 x6 x7 x8 : Int32) (t : zS), lX12_checkCase_148 g fu x1 x2 x3 x5 x6 x7 x8 t = some ro → zJ E shM C cX12_checkCase RX12 10 f (some .boolean) ro t 148 [(0, .ref (za E 0)), (1, .int x1), (2, .int x2), (3, .int x3), (5, .int x5), (6, .int x6), (7, .int x7), (8, .int x8)] [] := by
  induction fu with
  | zero => intro x1 x2 x3 x5 x6 x7 x8 t hF; cases hF
  | succ fu ih => intro x1 x2 x3 x5 x6 x7 x8 t hF; exact wbX12_checkCase_148 hf hg (lX12_checkCase_148 g fu) ih x1 x2 x3 x5 x6 x7 x8 t hF
set_option maxHeartbeats 4000000 in
set_option maxRecDepth 20000 in
theorem wbX12_checkCase_111 {E : zE} {C : zC} {f : Nat} {ro : Int32 × zS} (hf : 5 ≤ f) {g : GgX12_checkBlock} (hg : HgX12_checkBlock E (f - 1) g) (x1 : Int32) (x2 : Int32) (x3 : Int32) (x4 : Int32) (t : zS) (hF : bX12_checkCase_111 g x1 x2 x3 x4 t = some ro) : zJ E shM C cX12_checkCase RX12 10 f (some .boolean) ro t 111 [(0, .ref (za E 0)), (1, .int x1), (2, .int x2), (3, .int x3), (4, .int x4)] [] := by
  unfold bX12_checkCase_111 at hF
  refine z_iload 4 dX12_checkCase_111 rfl ?_
  refine z_if_ne (tgt := 128) dX12_checkCase_113 (by decide) (fun hc => ?_) (fun hc => ?_)
  · have hF := zif_f hc hF
    refine z_aload_n 0 dX12_checkCase_128 rfl rfl ?_
    obtain ⟨r4096, t4097, hc4098, hF⟩ := zbd_at hF
    refine z_callVi (ctX12_keptFrom (E := E) (f := f - 1) (by omega) hc4098) yy_X12_keptFrom yv_X12_keptFrom ob_M_0 lk_RX12_512 (by omega) rfl rfl (Nat.le_of_ble_eq_true rfl) dX12_checkCase_129 ?_
    refine z_istore (lv' := [(5, .int r4096), (0, .ref (za E 0)), (1, .int x1), (2, .int x2), (3, .int x3), (4, .int x4)]) dX12_checkCase_132 (by decide) rfl ?_
    refine z_iconst (v := 0) dX12_checkCase_134 (by decide) ?_
    refine z_istore (lv' := [(6, .int 0), (5, .int r4096), (0, .ref (za E 0)), (1, .int x1), (2, .int x2), (3, .int x3), (4, .int x4)]) dX12_checkCase_135 (by decide) rfl ?_
    refine z_iconst (v := 1) dX12_checkCase_137 (by decide) ?_
    refine z_istore (lv' := [(7, .int 1), (6, .int 0), (5, .int r4096), (0, .ref (za E 0)), (1, .int x1), (2, .int x2), (3, .int x3), (4, .int x4)]) dX12_checkCase_138 (by decide) rfl ?_
    refine z_aload_n 3 dX12_checkCase_140 rfl rfl ?_
    refine z_getr fr_RX12_64 dX12_checkCase_141 ?_
    refine z_iload_n 4 dX12_checkCase_144 rfl rfl ?_
    obtain ⟨hi4100, hF⟩ := zrd_at hF
    refine z_iald (n := 1600) rfl hi4100 dX12_checkCase_145 ?_
    generalize t4097 19 (Int32.toNatClampNeg x1) = v4099 at hF ⊢
    refine z_istore (lv' := [(8, .int v4099), (7, .int 1), (6, .int 0), (5, .int r4096), (0, .ref (za E 0)), (1, .int x1), (2, .int x2), (3, .int x3), (4, .int x4)]) dX12_checkCase_146 (by decide) rfl ?_
    refine z_sub [4, 5, 6, 7, 3, 2, 1, 0] rfl ?_
    exact wlX12_checkCase_148 hf hg zFU x1 x2 x3 r4096 0 1 v4099 _ hF
  · have hF := zif_t hc hF
    refine z_aload_n 0 dX12_checkCase_116 rfl rfl ?_
    refine z_aload_n 0 dX12_checkCase_117 rfl rfl ?_
    refine z_getr fr_RX12_52 dX12_checkCase_118 ?_
    refine z_iload_n 1 dX12_checkCase_121 rfl rfl ?_
    obtain ⟨hi4102, hF⟩ := zrd_at hF
    refine z_iald (n := 1600) rfl hi4102 dX12_checkCase_122 ?_
    generalize t 15 (Int32.toNatClampNeg x1) = v4101 at hF ⊢
    obtain ⟨r4103, t4104, hc4105, hF⟩ := zbd_at hF
    refine z_callVv (ctX12_isBad (E := E) (f := f - 1) (by omega) hc4105) yy_X12_isBad yv_X12_isBad ob_M_0 lk_RX12_478 (by omega) rfl rfl (Nat.le_of_ble_eq_true rfl) dX12_checkCase_123 ?_
    refine z_iconst (v := 0) dX12_checkCase_126 (by decide) ?_
    exact z_zret hF (by decide) dX12_checkCase_127
set_option maxHeartbeats 4000000 in
set_option maxRecDepth 20000 in
theorem wbX12_checkCase_55 {E : zE} {C : zC} {f : Nat} {ro : Int32 × zS} (hf : 5 ≤ f) {g : GgX12_checkBlock} (hg : HgX12_checkBlock E (f - 1) g) (k55 : Int32 → Int32 → Int32 → Int32 → Int32 → zS → zR) (hk55 : ∀ (x1 x2 x3 x4 x5 : Int32) (t : zS), k55 x1 x2 x3 x4 x5 t = some ro → zJ E shM C cX12_checkCase RX12 10 f (some .boolean) ro t 55 [(0, .ref (za E 0)), (1, .int x1), (2, .int x2), (3, .int x3), (4, .int x4), (5, .int x5)] []) (x1 : Int32) (x2 : Int32) (x3 : Int32) (x4 : Int32) (x5 : Int32) (t : zS) (hF : bX12_checkCase_55 g k55 x1 x2 x3 x4 x5 t = some ro) : zJ E shM C cX12_checkCase RX12 10 f (some .boolean) ro t 55 [(0, .ref (za E 0)), (1, .int x1), (2, .int x2), (3, .int x3), (4, .int x4), (5, .int x5)] [] := by
  unfold bX12_checkCase_55 at hF
  refine z_iload 5 dX12_checkCase_55 rfl ?_
  refine z_aload_n 0 dX12_checkCase_57 rfl rfl ?_
  refine z_getr fr_RX12_64 dX12_checkCase_58 ?_
  refine z_iload_n 1 dX12_checkCase_61 rfl rfl ?_
  obtain ⟨hi4107, hF⟩ := zrd_at hF
  refine z_iald (n := 1600) rfl hi4107 dX12_checkCase_62 ?_
  generalize t 19 (Int32.toNatClampNeg x1) = v4106 at hF ⊢
  refine z_aload_n 0 dX12_checkCase_63 rfl rfl ?_
  refine z_getr fr_RX12_67 dX12_checkCase_64 ?_
  refine z_iload_n 1 dX12_checkCase_67 rfl rfl ?_
  obtain ⟨hi4109, hF⟩ := zrd_at hF
  refine z_iald (n := 1600) rfl hi4109 dX12_checkCase_68 ?_
  generalize t 20 (Int32.toNatClampNeg x1) = v4108 at hF ⊢
  refine z_iadd dX12_checkCase_69 ?_
  refine z_icmp_ge (tgt := 111) dX12_checkCase_70 (by decide) (fun hc => ?_) (fun hc => ?_)
  · have hF := zif_t hc hF
    refine z_sub [0, 1, 2, 3, 4] rfl ?_
    exact wbX12_checkCase_111 hf hg x1 x2 x3 x4 _ hF
  · have hF := zif_f hc hF
    refine z_iload 4 dX12_checkCase_73 rfl ?_
    refine z_if_eq (tgt := 111) dX12_checkCase_75 (by decide) (fun hc => ?_) (fun hc => ?_)
    · have hF := zif_t hc hF
      refine z_sub [0, 1, 2, 3, 4] rfl ?_
      exact wbX12_checkCase_111 hf hg x1 x2 x3 x4 _ hF
    · have hF := zif_f hc hF
      refine z_aload_n 0 dX12_checkCase_78 rfl rfl ?_
      refine z_aload_n 0 dX12_checkCase_79 rfl rfl ?_
      refine z_iload_n 2 dX12_checkCase_80 rfl rfl ?_
      refine z_iload_n 3 dX12_checkCase_81 rfl rfl ?_
      obtain ⟨r4110, t4111, hc4112, hF⟩ := zbd_at hF
      refine z_callVi (ctX12_channel (E := E) (f := f - 1) (by omega) hc4112) yy_X12_channel yv_X12_channel ob_M_0 lk_RX12_484 (by omega) rfl rfl (Nat.le_of_ble_eq_true rfl) dX12_checkCase_82 ?_
      refine z_aload_n 0 dX12_checkCase_85 rfl rfl ?_
      refine z_getr fr_RX12_76 dX12_checkCase_86 ?_
      refine z_iload 5 dX12_checkCase_89 rfl ?_
      obtain ⟨hi4114, hF⟩ := zrd_at hF
      refine z_iald (n := 1600) rfl hi4114 dX12_checkCase_91 ?_
      generalize t4111 23 (Int32.toNatClampNeg x5) = v4113 at hF ⊢
      obtain ⟨r4115, t4116, hc4117, hF⟩ := zbd_at hF
      refine z_callVi (ctX12_byLabel (E := E) (f := f - 1) (by omega) hc4117) yy_X12_byLabel yv_X12_byLabel ob_M_0 lk_RX12_448 (by omega) rfl rfl (Nat.le_of_ble_eq_true rfl) dX12_checkCase_92 ?_
      refine z_if_lt (tgt := 102) dX12_checkCase_95 (by decide) (fun hc => ?_) (fun hc => ?_)
      · have hF := zif_t hc hF
        refine z_iconst (v := 0) dX12_checkCase_102 (by decide) ?_
        refine z_sub [0, 1, 2, 3, 5] rfl ?_
        exact wbX12_checkCase_103 hf hg k55 hk55 x1 x2 x3 x5 0 _ hF
      · have hF := zif_f hc hF
        refine z_iconst (v := 1) dX12_checkCase_98 (by decide) ?_
        refine z_goto (tgt := 103) dX12_checkCase_99 (by decide) ?_
        refine z_sub [0, 1, 2, 3, 5] rfl ?_
        exact wbX12_checkCase_103 hf hg k55 hk55 x1 x2 x3 x5 1 _ hF
set_option maxHeartbeats 4000000 in
set_option maxRecDepth 20000 in
theorem wlX12_checkCase_55 {E : zE} {C : zC} {f : Nat} {ro : Int32 × zS} (hf : 5 ≤ f) {g : GgX12_checkBlock} (hg : HgX12_checkBlock E (f - 1) g) (fu : Nat) : ∀ (x1 x2 x3 x4 x5 : Int32) (t : zS), lX12_checkCase_55 g fu x1 x2 x3 x4 x5 t = some ro → zJ E shM C cX12_checkCase RX12 10 f (some .boolean) ro t 55 [(0, .ref (za E 0)), (1, .int x1), (2, .int x2), (3, .int x3), (4, .int x4), (5, .int x5)] [] := by
  induction fu with
  | zero => intro x1 x2 x3 x4 x5 t hF; cases hF
  | succ fu ih => intro x1 x2 x3 x4 x5 t hF; exact wbX12_checkCase_55 hf hg (lX12_checkCase_55 g fu) ih x1 x2 x3 x4 x5 t hF
set_option maxHeartbeats 4000000 in
set_option maxRecDepth 20000 in
theorem wbX12_checkCase_45 {E : zE} {C : zC} {f : Nat} {ro : Int32 × zS} (hf : 5 ≤ f) {g : GgX12_checkBlock} (hg : HgX12_checkBlock E (f - 1) g) (x1 : Int32) (x2 : Int32) (x3 : Int32) (y0 : Int32) (t : zS) (hF : bX12_checkCase_45 g x1 x2 x3 y0 t = some ro) : zJ E shM C cX12_checkCase RX12 10 f (some .boolean) ro t 45 [(0, .ref (za E 0)), (1, .int x1), (2, .int x2), (3, .int x3)] [.int y0] := by
  unfold bX12_checkCase_45 at hF
  refine z_istore (lv' := [(4, .int y0), (0, .ref (za E 0)), (1, .int x1), (2, .int x2), (3, .int x3)]) dX12_checkCase_45 (by decide) rfl ?_
  refine z_aload_n 1 dX12_checkCase_47 rfl rfl ?_
  refine z_getr fr_RX12_64 dX12_checkCase_48 ?_
  refine z_iload_n 2 dX12_checkCase_51 rfl rfl ?_
  obtain ⟨hi4119, hF⟩ := zrd_at hF
  refine z_iald (n := 1600) rfl hi4119 dX12_checkCase_52 ?_
  generalize t 19 (Int32.toNatClampNeg x1) = v4118 at hF ⊢
  refine z_istore (lv' := [(5, .int v4118), (4, .int y0), (0, .ref (za E 0)), (1, .int x1), (2, .int x2), (3, .int x3)]) dX12_checkCase_53 (by decide) rfl ?_
  refine z_sub [2, 3, 4, 5, 1, 0] rfl ?_
  exact wlX12_checkCase_55 hf hg zFU x1 x2 x3 y0 v4118 _ hF
set_option maxHeartbeats 4000000 in
set_option maxRecDepth 20000 in
theorem wbX12_checkCase_44 {E : zE} {C : zC} {f : Nat} {ro : Int32 × zS} (hf : 5 ≤ f) {g : GgX12_checkBlock} (hg : HgX12_checkBlock E (f - 1) g) (x1 : Int32) (x2 : Int32) (x3 : Int32) (t : zS) (hF : bX12_checkCase_44 g x1 x2 x3 t = some ro) : zJ E shM C cX12_checkCase RX12 10 f (some .boolean) ro t 44 [(0, .ref (za E 0)), (1, .int x1), (2, .int x2), (3, .int x3)] [] := by
  unfold bX12_checkCase_44 at hF
  refine z_iconst (v := 0) dX12_checkCase_44 (by decide) ?_
  exact wbX12_checkCase_45 hf hg x1 x2 x3 0 _ hF
set_option maxHeartbeats 4000000 in
set_option maxRecDepth 20000 in
theorem ctX12_checkCase {E : zE} {f : Nat} (hf : 5 ≤ f) {g : GgX12_checkBlock} (hg : HgX12_checkBlock E (f - 1) g) {x1 : Int32} {x2 : Int32} {t : zS} {ro : Int32 × zS} (hF : mX12_checkCase g x1 x2 t = some ro) : zM E shM f yX12_checkCase cX12_checkCase 10 (some .boolean) [.ref (za E 0), .int x1, .int x2] t ro := by
  refine zM_of (by decide) (Nat.le_of_ble_eq_true rfl) (fun C => ?_)
  show zJ E shM C cX12_checkCase RX12 10 f (some .boolean) ro t 0 [(0, .ref (za E 0)), (1, .int x1), (2, .int x2)] []
  unfold mX12_checkCase at hF
  refine z_aload_n 0 dX12_checkCase_0 rfl rfl ?_
  refine z_getr fr_RX12_55 dX12_checkCase_1 ?_
  refine z_iload_n 1 dX12_checkCase_4 rfl rfl ?_
  obtain ⟨hi4121, hF⟩ := zrd_at hF
  refine z_iald (n := 1600) rfl hi4121 dX12_checkCase_5 ?_
  generalize t 16 (Int32.toNatClampNeg x1) = v4120 at hF ⊢
  refine z_istore_n (lv' := [(3, .int v4120), (0, .ref (za E 0)), (1, .int x1), (2, .int x2)]) dX12_checkCase_6 rfl (by decide) rfl ?_
  refine z_aload_n 1 dX12_checkCase_7 rfl rfl ?_
  refine z_iload_n 3 dX12_checkCase_8 rfl rfl ?_
  refine z_iload_n 0 dX12_checkCase_9 rfl rfl ?_
  refine z_bipush (v := 8) dX12_checkCase_10 (by decide) ?_
  obtain ⟨r4122, t4123, hc4124, hF⟩ := zbd_at hF
  refine z_callVi (ctX12_isOne (E := E) (f := f - 1) (by omega) hc4124) yy_X12_isOne yv_X12_isOne ob_M_0 lk_RX12_490 (by omega) rfl rfl (Nat.le_of_ble_eq_true rfl) dX12_checkCase_12 ?_
  refine z_if_eq (tgt := 44) dX12_checkCase_15 (by decide) (fun hc => ?_) (fun hc => ?_)
  · have hF := zif_t hc hF
    refine z_sub [1, 2, 3, 0] rfl ?_
    exact wbX12_checkCase_44 hf hg x1 x2 v4120 _ hF
  · have hF := zif_f hc hF
    refine z_aload_n 1 dX12_checkCase_18 rfl rfl ?_
    refine z_getr fr_RX12_31 dX12_checkCase_19 ?_
    refine z_aload_n 1 dX12_checkCase_22 rfl rfl ?_
    refine z_iload_n 3 dX12_checkCase_23 rfl rfl ?_
    refine z_iload_n 0 dX12_checkCase_24 rfl rfl ?_
    obtain ⟨r4125, t4126, hc4127, hF⟩ := zbd_at hF
    refine z_callVi (ctX12_channel (E := E) (f := f - 1) (by omega) hc4127) yy_X12_channel yv_X12_channel ob_M_0 lk_RX12_484 (by omega) rfl rfl (Nat.le_of_ble_eq_true rfl) dX12_checkCase_25 ?_
    refine z_iconst (v := 2) dX12_checkCase_28 (by decide) ?_
    refine z_idiv dX12_checkCase_29 (by decide) ?_
    obtain ⟨hi4129, hF⟩ := zrd_at hF
    refine z_iald (n := 3100) rfl hi4129 dX12_checkCase_30 ?_
    generalize t4126 8 (Int32.toNatClampNeg (r4125 / 2)) = v4128 at hF ⊢
    refine z_aload_n 1 dX12_checkCase_31 rfl rfl ?_
    refine z_getr fr_RX12_67 dX12_checkCase_32 ?_
    refine z_iload_n 2 dX12_checkCase_35 rfl rfl ?_
    obtain ⟨hi4131, hF⟩ := zrd_at hF
    refine z_iald (n := 1600) rfl hi4131 dX12_checkCase_36 ?_
    generalize t4126 20 (Int32.toNatClampNeg x1) = v4130 at hF ⊢
    refine z_icmp_ne (tgt := 44) dX12_checkCase_37 (by decide) (fun hc => ?_) (fun hc => ?_)
    · have hF := zif_f hc hF
      refine z_sub [1, 2, 3, 0] rfl ?_
      exact wbX12_checkCase_44 hf hg x1 x2 v4120 _ hF
    · have hF := zif_t hc hF
      refine z_iconst (v := 1) dX12_checkCase_40 (by decide) ?_
      refine z_goto (tgt := 45) dX12_checkCase_41 (by decide) ?_
      refine z_sub [1, 2, 3, 0] rfl ?_
      exact wbX12_checkCase_45 hf hg x1 x2 v4120 1 _ hF
-- SessionHouseModel.checkWhile(II)V
theorem dX12_checkWhile_0 : decode cX12_checkWhile 0 = .ok (.aload_n 0, 1) := by decide +kernel
theorem dX12_checkWhile_1 : decode cX12_checkWhile 1 = .ok (.aload_n 0, 1) := by decide +kernel
theorem dX12_checkWhile_2 : decode cX12_checkWhile 2 = .ok (.getfield 61, 3) := by decide +kernel
theorem dX12_checkWhile_5 : decode cX12_checkWhile 5 = .ok (.iload_n 1, 1) := by decide +kernel
theorem dX12_checkWhile_6 : decode cX12_checkWhile 6 = .ok (.iaload, 1) := by decide +kernel
theorem dX12_checkWhile_7 : decode cX12_checkWhile 7 = .ok (.iload_n 2, 1) := by decide +kernel
theorem dX12_checkWhile_8 : decode cX12_checkWhile 8 = .ok (.invokevirtual 487, 3) := by decide +kernel
theorem dX12_checkWhile_11 : decode cX12_checkWhile 11 = .ok (.ifCond .ne 14, 3) := by decide +kernel
theorem dX12_checkWhile_14 : decode cX12_checkWhile 14 = .ok (.aload_n 0, 1) := by decide +kernel
theorem dX12_checkWhile_15 : decode cX12_checkWhile 15 = .ok (.aload_n 0, 1) := by decide +kernel
theorem dX12_checkWhile_16 : decode cX12_checkWhile 16 = .ok (.getfield 52, 3) := by decide +kernel
theorem dX12_checkWhile_19 : decode cX12_checkWhile 19 = .ok (.iload_n 1, 1) := by decide +kernel
theorem dX12_checkWhile_20 : decode cX12_checkWhile 20 = .ok (.iaload, 1) := by decide +kernel
theorem dX12_checkWhile_21 : decode cX12_checkWhile 21 = .ok (.invokevirtual 478, 3) := by decide +kernel
theorem dX12_checkWhile_24 : decode cX12_checkWhile 24 = .ok (.return_, 1) := by decide +kernel
theorem dX12_checkWhile_25 : decode cX12_checkWhile 25 = .ok (.aload_n 0, 1) := by decide +kernel
theorem dX12_checkWhile_26 : decode cX12_checkWhile 26 = .ok (.iload_n 2, 1) := by decide +kernel
theorem dX12_checkWhile_27 : decode cX12_checkWhile 27 = .ok (.invokevirtual 509, 3) := by decide +kernel
theorem dX12_checkWhile_30 : decode cX12_checkWhile 30 = .ok (.aload_n 0, 1) := by decide +kernel
theorem dX12_checkWhile_31 : decode cX12_checkWhile 31 = .ok (.getfield 64, 3) := by decide +kernel
theorem dX12_checkWhile_34 : decode cX12_checkWhile 34 = .ok (.iload_n 1, 1) := by decide +kernel
theorem dX12_checkWhile_35 : decode cX12_checkWhile 35 = .ok (.iaload, 1) := by decide +kernel
theorem dX12_checkWhile_36 : decode cX12_checkWhile 36 = .ok (.iload_n 1, 1) := by decide +kernel
theorem dX12_checkWhile_37 : decode cX12_checkWhile 37 = .ok (.if_icmp .eq 23, 3) := by decide +kernel
theorem dX12_checkWhile_40 : decode cX12_checkWhile 40 = .ok (.aload_n 0, 1) := by decide +kernel
theorem dX12_checkWhile_41 : decode cX12_checkWhile 41 = .ok (.aload_n 0, 1) := by decide +kernel
theorem dX12_checkWhile_42 : decode cX12_checkWhile 42 = .ok (.getfield 64, 3) := by decide +kernel
theorem dX12_checkWhile_45 : decode cX12_checkWhile 45 = .ok (.iload_n 1, 1) := by decide +kernel
theorem dX12_checkWhile_46 : decode cX12_checkWhile 46 = .ok (.iaload, 1) := by decide +kernel
theorem dX12_checkWhile_47 : decode cX12_checkWhile 47 = .ok (.iload_n 2, 1) := by decide +kernel
theorem dX12_checkWhile_48 : decode cX12_checkWhile 48 = .ok (.iconst 1, 1) := by decide +kernel
theorem dX12_checkWhile_49 : decode cX12_checkWhile 49 = .ok (.iadd, 1) := by decide +kernel
theorem dX12_checkWhile_50 : decode cX12_checkWhile 50 = .ok (.invokevirtual 471, 3) := by decide +kernel
theorem dX12_checkWhile_53 : decode cX12_checkWhile 53 = .ok (.ifCond .eq 7, 3) := by decide +kernel
theorem dX12_checkWhile_56 : decode cX12_checkWhile 56 = .ok (.iconst 1, 1) := by decide +kernel
theorem dX12_checkWhile_57 : decode cX12_checkWhile 57 = .ok (.goto 4, 3) := by decide +kernel
theorem dX12_checkWhile_60 : decode cX12_checkWhile 60 = .ok (.iconst 0, 1) := by decide +kernel
theorem dX12_checkWhile_61 : decode cX12_checkWhile 61 = .ok (.istore_n 3, 1) := by decide +kernel
theorem dX12_checkWhile_62 : decode cX12_checkWhile 62 = .ok (.aload_n 0, 1) := by decide +kernel
theorem dX12_checkWhile_63 : decode cX12_checkWhile 63 = .ok (.getfield 423, 3) := by decide +kernel
theorem dX12_checkWhile_66 : decode cX12_checkWhile 66 = .ok (.ifCond .ge 28, 3) := by decide +kernel
theorem dX12_checkWhile_69 : decode cX12_checkWhile 69 = .ok (.iload_n 3, 1) := by decide +kernel
theorem dX12_checkWhile_70 : decode cX12_checkWhile 70 = .ok (.ifCond .ne 24, 3) := by decide +kernel
theorem dX12_checkWhile_73 : decode cX12_checkWhile 73 = .ok (.aload_n 0, 1) := by decide +kernel
theorem dX12_checkWhile_74 : decode cX12_checkWhile 74 = .ok (.iload_n 2, 1) := by decide +kernel
theorem dX12_checkWhile_75 : decode cX12_checkWhile 75 = .ok (.iload_n 2, 1) := by decide +kernel
theorem dX12_checkWhile_76 : decode cX12_checkWhile 76 = .ok (.iconst 1, 1) := by decide +kernel
theorem dX12_checkWhile_77 : decode cX12_checkWhile 77 = .ok (.iadd, 1) := by decide +kernel
theorem dX12_checkWhile_78 : decode cX12_checkWhile 78 = .ok (.invokevirtual 527, 3) := by decide +kernel
theorem dX12_checkWhile_81 : decode cX12_checkWhile 81 = .ok (.ifCond .ne 13, 3) := by decide +kernel
theorem dX12_checkWhile_84 : decode cX12_checkWhile 84 = .ok (.aload_n 0, 1) := by decide +kernel
theorem dX12_checkWhile_85 : decode cX12_checkWhile 85 = .ok (.aload_n 0, 1) := by decide +kernel
theorem dX12_checkWhile_86 : decode cX12_checkWhile 86 = .ok (.getfield 52, 3) := by decide +kernel
theorem dX12_checkWhile_89 : decode cX12_checkWhile 89 = .ok (.iload_n 1, 1) := by decide +kernel
theorem dX12_checkWhile_90 : decode cX12_checkWhile 90 = .ok (.iaload, 1) := by decide +kernel
theorem dX12_checkWhile_91 : decode cX12_checkWhile 91 = .ok (.invokevirtual 478, 3) := by decide +kernel
theorem dX12_checkWhile_94 : decode cX12_checkWhile 94 = .ok (.return_, 1) := by decide +kernel
def bX12_checkWhile_61 (g : GgX12_checkBlock) (x1 : Int32) (x2 : Int32) (y0 : Int32) (t : zS) : zR := if 0 ≤ (t 0 67) then some (0, t) else if y0 = 0 then zbd (mX12_areSame x2 (x2 + 1) t) fun r4132 t4133 => if r4132 = 0 then zrd t4133 15 1600 x1 fun v4135 => zbd (mX12_isBad v4135 t4133) fun r4137 t4138 => some (0, t4138) else some (0, t4133) else some (0, t)
def bX12_checkWhile_60 (g : GgX12_checkBlock) (x1 : Int32) (x2 : Int32) (t : zS) : zR := bX12_checkWhile_61 g x1 x2 0 t
def mX12_checkWhile (g : GgX12_checkBlock) (x1 : Int32) (x2 : Int32) (t : zS) : zR := zrd t 18 1600 x1 fun v4140 => zbd (mX12_areNumbers v4140 x2 t) fun r4142 t4143 => if r4142 = 0 then zrd t4143 15 1600 x1 fun v4155 => zbd (mX12_isBad v4155 t4143) fun r4157 t4158 => some (0, t4158) else zbd (mX12_copyDown x2 t4143) fun r4145 t4146 => zrd t4146 19 1600 x1 fun v4148 => if v4148 = x1 then bX12_checkWhile_60 g x1 x2 t4146 else zrd t4146 19 1600 x1 fun v4150 => zbd (g.1 v4150 (x2 + 1) t4146) fun r4152 t4153 => if r4152 = 0 then bX12_checkWhile_60 g x1 x2 t4153 else bX12_checkWhile_61 g x1 x2 1 t4153
set_option maxHeartbeats 4000000 in
set_option maxRecDepth 20000 in
theorem wbX12_checkWhile_61 {E : zE} {C : zC} {f : Nat} {ro : Int32 × zS} (hf : 5 ≤ f) {g : GgX12_checkBlock} (hg : HgX12_checkBlock E (f - 1) g) (x1 : Int32) (x2 : Int32) (y0 : Int32) (t : zS) (hF : bX12_checkWhile_61 g x1 x2 y0 t = some ro) : zJ E shM C cX12_checkWhile RX12 4 f none ro t 61 [(0, .ref (za E 0)), (1, .int x1), (2, .int x2)] [.int y0] := by
  unfold bX12_checkWhile_61 at hF
  refine z_istore_n (lv' := [(3, .int y0), (0, .ref (za E 0)), (1, .int x1), (2, .int x2)]) dX12_checkWhile_61 rfl (by decide) rfl ?_
  refine z_aload_n 1 dX12_checkWhile_62 rfl rfl ?_
  refine z_geti fi_RX12_423 dX12_checkWhile_63 ?_
  refine z_if_ge (tgt := 94) dX12_checkWhile_66 (by decide) (fun hc => ?_) (fun hc => ?_)
  · have hF := zif_t hc hF
    exact z_vret hF dX12_checkWhile_94
  · have hF := zif_f hc hF
    refine z_iload_n 0 dX12_checkWhile_69 rfl rfl ?_
    refine z_if_ne (tgt := 94) dX12_checkWhile_70 (by decide) (fun hc => ?_) (fun hc => ?_)
    · have hF := zif_f hc hF
      exact z_vret hF dX12_checkWhile_94
    · have hF := zif_t hc hF
      refine z_aload_n 1 dX12_checkWhile_73 rfl rfl ?_
      refine z_iload_n 3 dX12_checkWhile_74 rfl rfl ?_
      refine z_iload_n 3 dX12_checkWhile_75 rfl rfl ?_
      refine z_iconst (v := 1) dX12_checkWhile_76 (by decide) ?_
      refine z_iadd dX12_checkWhile_77 ?_
      obtain ⟨r4132, t4133, hc4134, hF⟩ := zbd_at hF
      refine z_callVi (ctX12_areSame (E := E) (f := f - 1) (by omega) hc4134) yy_X12_areSame yv_X12_areSame ob_M_0 lk_RX12_527 (by omega) rfl rfl (Nat.le_of_ble_eq_true rfl) dX12_checkWhile_78 ?_
      refine z_if_ne (tgt := 94) dX12_checkWhile_81 (by decide) (fun hc => ?_) (fun hc => ?_)
      · have hF := zif_f hc hF
        exact z_vret hF dX12_checkWhile_94
      · have hF := zif_t hc hF
        refine z_aload_n 1 dX12_checkWhile_84 rfl rfl ?_
        refine z_aload_n 1 dX12_checkWhile_85 rfl rfl ?_
        refine z_getr fr_RX12_52 dX12_checkWhile_86 ?_
        refine z_iload_n 2 dX12_checkWhile_89 rfl rfl ?_
        obtain ⟨hi4136, hF⟩ := zrd_at hF
        refine z_iald (n := 1600) rfl hi4136 dX12_checkWhile_90 ?_
        generalize t4133 15 (Int32.toNatClampNeg x1) = v4135 at hF ⊢
        obtain ⟨r4137, t4138, hc4139, hF⟩ := zbd_at hF
        refine z_callVv (ctX12_isBad (E := E) (f := f - 1) (by omega) hc4139) yy_X12_isBad yv_X12_isBad ob_M_0 lk_RX12_478 (by omega) rfl rfl (Nat.le_of_ble_eq_true rfl) dX12_checkWhile_91 ?_
        exact z_vret hF dX12_checkWhile_94
set_option maxHeartbeats 4000000 in
set_option maxRecDepth 20000 in
theorem wbX12_checkWhile_60 {E : zE} {C : zC} {f : Nat} {ro : Int32 × zS} (hf : 5 ≤ f) {g : GgX12_checkBlock} (hg : HgX12_checkBlock E (f - 1) g) (x1 : Int32) (x2 : Int32) (t : zS) (hF : bX12_checkWhile_60 g x1 x2 t = some ro) : zJ E shM C cX12_checkWhile RX12 4 f none ro t 60 [(0, .ref (za E 0)), (1, .int x1), (2, .int x2)] [] := by
  unfold bX12_checkWhile_60 at hF
  refine z_iconst (v := 0) dX12_checkWhile_60 (by decide) ?_
  exact wbX12_checkWhile_61 hf hg x1 x2 0 _ hF
set_option maxHeartbeats 4000000 in
set_option maxRecDepth 20000 in
theorem ctX12_checkWhile {E : zE} {f : Nat} (hf : 5 ≤ f) {g : GgX12_checkBlock} (hg : HgX12_checkBlock E (f - 1) g) {x1 : Int32} {x2 : Int32} {t : zS} {ro : Int32 × zS} (hF : mX12_checkWhile g x1 x2 t = some ro) : zM E shM f yX12_checkWhile cX12_checkWhile 4 none [.ref (za E 0), .int x1, .int x2] t ro := by
  refine zM_of (by decide) (Nat.le_of_ble_eq_true rfl) (fun C => ?_)
  show zJ E shM C cX12_checkWhile RX12 4 f none ro t 0 [(0, .ref (za E 0)), (1, .int x1), (2, .int x2)] []
  unfold mX12_checkWhile at hF
  refine z_aload_n 0 dX12_checkWhile_0 rfl rfl ?_
  refine z_aload_n 0 dX12_checkWhile_1 rfl rfl ?_
  refine z_getr fr_RX12_61 dX12_checkWhile_2 ?_
  refine z_iload_n 1 dX12_checkWhile_5 rfl rfl ?_
  obtain ⟨hi4141, hF⟩ := zrd_at hF
  refine z_iald (n := 1600) rfl hi4141 dX12_checkWhile_6 ?_
  generalize t 18 (Int32.toNatClampNeg x1) = v4140 at hF ⊢
  refine z_iload_n 2 dX12_checkWhile_7 rfl rfl ?_
  obtain ⟨r4142, t4143, hc4144, hF⟩ := zbd_at hF
  refine z_callVi (ctX12_areNumbers (E := E) (f := f - 1) (by omega) hc4144) yy_X12_areNumbers yv_X12_areNumbers ob_M_0 lk_RX12_487 (by omega) rfl rfl (Nat.le_of_ble_eq_true rfl) dX12_checkWhile_8 ?_
  refine z_if_ne (tgt := 25) dX12_checkWhile_11 (by decide) (fun hc => ?_) (fun hc => ?_)
  · have hF := zif_f hc hF
    refine z_aload_n 0 dX12_checkWhile_25 rfl rfl ?_
    refine z_iload_n 2 dX12_checkWhile_26 rfl rfl ?_
    obtain ⟨r4145, t4146, hc4147, hF⟩ := zbd_at hF
    refine z_callVv (ctX12_copyDown (E := E) (f := f - 1) (by omega) hc4147) yy_X12_copyDown yv_X12_copyDown ob_M_0 lk_RX12_509 (by omega) rfl rfl (Nat.le_of_ble_eq_true rfl) dX12_checkWhile_27 ?_
    refine z_aload_n 0 dX12_checkWhile_30 rfl rfl ?_
    refine z_getr fr_RX12_64 dX12_checkWhile_31 ?_
    refine z_iload_n 1 dX12_checkWhile_34 rfl rfl ?_
    obtain ⟨hi4149, hF⟩ := zrd_at hF
    refine z_iald (n := 1600) rfl hi4149 dX12_checkWhile_35 ?_
    generalize t4146 19 (Int32.toNatClampNeg x1) = v4148 at hF ⊢
    refine z_iload_n 1 dX12_checkWhile_36 rfl rfl ?_
    refine z_icmp_eq (tgt := 60) dX12_checkWhile_37 (by decide) (fun hc => ?_) (fun hc => ?_)
    · have hF := zif_t hc hF
      exact wbX12_checkWhile_60 hf hg x1 x2 _ hF
    · have hF := zif_f hc hF
      refine z_aload_n 0 dX12_checkWhile_40 rfl rfl ?_
      refine z_aload_n 0 dX12_checkWhile_41 rfl rfl ?_
      refine z_getr fr_RX12_64 dX12_checkWhile_42 ?_
      refine z_iload_n 1 dX12_checkWhile_45 rfl rfl ?_
      obtain ⟨hi4151, hF⟩ := zrd_at hF
      refine z_iald (n := 1600) rfl hi4151 dX12_checkWhile_46 ?_
      generalize t4146 19 (Int32.toNatClampNeg x1) = v4150 at hF ⊢
      refine z_iload_n 2 dX12_checkWhile_47 rfl rfl ?_
      refine z_iconst (v := 1) dX12_checkWhile_48 (by decide) ?_
      refine z_iadd dX12_checkWhile_49 ?_
      obtain ⟨r4152, t4153, hc4154, hF⟩ := zbd_at hF
      refine z_callVi (z_hgX12_checkBlock hg hc4154) yy_X12_checkBlock yv_X12_checkBlock ob_M_0 lk_RX12_471 (by omega) rfl rfl (Nat.le_of_ble_eq_true rfl) dX12_checkWhile_50 ?_
      refine z_if_eq (tgt := 60) dX12_checkWhile_53 (by decide) (fun hc => ?_) (fun hc => ?_)
      · have hF := zif_t hc hF
        exact wbX12_checkWhile_60 hf hg x1 x2 _ hF
      · have hF := zif_f hc hF
        refine z_iconst (v := 1) dX12_checkWhile_56 (by decide) ?_
        refine z_goto (tgt := 61) dX12_checkWhile_57 (by decide) ?_
        exact wbX12_checkWhile_61 hf hg x1 x2 1 _ hF
  · have hF := zif_t hc hF
    refine z_aload_n 0 dX12_checkWhile_14 rfl rfl ?_
    refine z_aload_n 0 dX12_checkWhile_15 rfl rfl ?_
    refine z_getr fr_RX12_52 dX12_checkWhile_16 ?_
    refine z_iload_n 1 dX12_checkWhile_19 rfl rfl ?_
    obtain ⟨hi4156, hF⟩ := zrd_at hF
    refine z_iald (n := 1600) rfl hi4156 dX12_checkWhile_20 ?_
    generalize t4143 15 (Int32.toNatClampNeg x1) = v4155 at hF ⊢
    obtain ⟨r4157, t4158, hc4159, hF⟩ := zbd_at hF
    refine z_callVv (ctX12_isBad (E := E) (f := f - 1) (by omega) hc4159) yy_X12_isBad yv_X12_isBad ob_M_0 lk_RX12_478 (by omega) rfl rfl (Nat.le_of_ble_eq_true rfl) dX12_checkWhile_21 ?_
    exact z_vret hF dX12_checkWhile_24
def grgX12_checkBlock : Nat → GgX12_checkBlock
  | 0 => (fun _ _ _ => none, fun _ _ _ => none, fun _ _ _ => none, fun _ _ _ => none, fun _ _ _ => none)
  | d + 1 => (mX12_checkBlock (grgX12_checkBlock d), mX12_checkOne (grgX12_checkBlock d), mX12_checkIf (grgX12_checkBlock d), mX12_checkCase (grgX12_checkBlock d), mX12_checkWhile (grgX12_checkBlock d))
theorem hrgX12_checkBlock {E : zE} : ∀ (d f : Nat), 5 + d ≤ f → HgX12_checkBlock E f (grgX12_checkBlock d) := by
  intro d
  induction d with
  | zero => intro f hf; exact ⟨fun _ _ _ _ h => (by cases h), fun _ _ _ _ h => (by cases h), fun _ _ _ _ h => (by cases h), fun _ _ _ _ h => (by cases h), fun _ _ _ _ h => (by cases h)⟩
  | succ d ih => intro f hf; exact ⟨fun _ _ _ _ h => ctX12_checkBlock (by omega) (ih (f - 1) (by omega)) h, fun _ _ _ _ h => ctX12_checkOne (by omega) (ih (f - 1) (by omega)) h, fun _ _ _ _ h => ctX12_checkIf (by omega) (ih (f - 1) (by omega)) h, fun _ _ _ _ h => ctX12_checkCase (by omega) (ih (f - 1) (by omega)) h, fun _ _ _ _ h => ctX12_checkWhile (by omega) (ih (f - 1) (by omega)) h⟩
def mX12_checkBlockr (x1 : Int32) (x2 : Int32) (t : zS) : zR := (grgX12_checkBlock 300).1 x1 x2 t
theorem ctX12_checkBlockr {E : zE} {f : Nat} (hf : 305 ≤ f) {x1 x2 : Int32} {t : zS} {ro : Int32 × zS} (h : mX12_checkBlockr x1 x2 t = some ro) : zM E shM f yX12_checkBlock cX12_checkBlock 5 (some .boolean) [.ref (za E 0), .int x1, .int x2] t ro := z_hgX12_checkBlock (hrgX12_checkBlock 300 f (by omega)) h
def mX12_checkOner (x1 : Int32) (x2 : Int32) (t : zS) : zR := (grgX12_checkBlock 300).2.1 x1 x2 t
theorem ctX12_checkOner {E : zE} {f : Nat} (hf : 305 ≤ f) {x1 x2 : Int32} {t : zS} {ro : Int32 × zS} (h : mX12_checkOner x1 x2 t = some ro) : zM E shM f yX12_checkOne cX12_checkOne 7 (some .boolean) [.ref (za E 0), .int x1, .int x2] t ro := z_hgX12_checkOne (hrgX12_checkBlock 300 f (by omega)) h
def mX12_checkIfr (x1 : Int32) (x2 : Int32) (t : zS) : zR := (grgX12_checkBlock 300).2.2.1 x1 x2 t
theorem ctX12_checkIfr {E : zE} {f : Nat} (hf : 305 ≤ f) {x1 x2 : Int32} {t : zS} {ro : Int32 × zS} (h : mX12_checkIfr x1 x2 t = some ro) : zM E shM f yX12_checkIf cX12_checkIf 7 (some .boolean) [.ref (za E 0), .int x1, .int x2] t ro := z_hgX12_checkIf (hrgX12_checkBlock 300 f (by omega)) h
def mX12_checkCaser (x1 : Int32) (x2 : Int32) (t : zS) : zR := (grgX12_checkBlock 300).2.2.2.1 x1 x2 t
theorem ctX12_checkCaser {E : zE} {f : Nat} (hf : 305 ≤ f) {x1 x2 : Int32} {t : zS} {ro : Int32 × zS} (h : mX12_checkCaser x1 x2 t = some ro) : zM E shM f yX12_checkCase cX12_checkCase 10 (some .boolean) [.ref (za E 0), .int x1, .int x2] t ro := z_hgX12_checkCase (hrgX12_checkBlock 300 f (by omega)) h
def mX12_checkWhiler (x1 : Int32) (x2 : Int32) (t : zS) : zR := (grgX12_checkBlock 300).2.2.2.2 x1 x2 t
theorem ctX12_checkWhiler {E : zE} {f : Nat} (hf : 305 ≤ f) {x1 x2 : Int32} {t : zS} {ro : Int32 × zS} (h : mX12_checkWhiler x1 x2 t = some ro) : zM E shM f yX12_checkWhile cX12_checkWhile 4 none [.ref (za E 0), .int x1, .int x2] t ro := z_hgX12_checkWhile (hrgX12_checkBlock 300 f (by omega)) h
