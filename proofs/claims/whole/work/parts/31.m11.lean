-- SessionHouseModel.isKey(I)Z
theorem dX12_isKey_0 : decode cX12_isKey 0 = .ok (.aload_n 0, 1) := by decide +kernel
theorem dX12_isKey_1 : decode cX12_isKey 1 = .ok (.getfield 247, 3) := by decide +kernel
theorem dX12_isKey_4 : decode cX12_isKey 4 = .ok (.iconst 5, 1) := by decide +kernel
theorem dX12_isKey_5 : decode cX12_isKey 5 = .ok (.if_icmp .ne 22, 3) := by decide +kernel
theorem dX12_isKey_8 : decode cX12_isKey 8 = .ok (.aload_n 0, 1) := by decide +kernel
theorem dX12_isKey_9 : decode cX12_isKey 9 = .ok (.getfield 240, 3) := by decide +kernel
theorem dX12_isKey_12 : decode cX12_isKey 12 = .ok (.iload_n 1, 1) := by decide +kernel
theorem dX12_isKey_13 : decode cX12_isKey 13 = .ok (.if_icmp .ne 14, 3) := by decide +kernel
theorem dX12_isKey_16 : decode cX12_isKey 16 = .ok (.aload_n 0, 1) := by decide +kernel
theorem dX12_isKey_17 : decode cX12_isKey 17 = .ok (.getfield 267, 3) := by decide +kernel
theorem dX12_isKey_20 : decode cX12_isKey 20 = .ok (.ifCond .ge 7, 3) := by decide +kernel
theorem dX12_isKey_23 : decode cX12_isKey 23 = .ok (.iconst 1, 1) := by decide +kernel
theorem dX12_isKey_24 : decode cX12_isKey 24 = .ok (.goto 4, 3) := by decide +kernel
theorem dX12_isKey_27 : decode cX12_isKey 27 = .ok (.iconst 0, 1) := by decide +kernel
theorem dX12_isKey_28 : decode cX12_isKey 28 = .ok (.ireturn, 1) := by decide +kernel
def mX12_isKey (x1 : Int32) (t : zS) : zR := if (t 0 5) = 5 then if (t 0 8) = x1 then if 0 ≤ (t 0 9) then some (0, t) else some (1, t) else some (0, t) else some (0, t)
set_option maxHeartbeats 4000000 in
set_option maxRecDepth 20000 in
theorem ctX12_isKey {E : zE} {f : Nat} (hf : 1 ≤ f) {x1 : Int32} {t : zS} {ro : Int32 × zS} (hF : mX12_isKey  x1 t = some ro) : zM E shM f yX12_isKey cX12_isKey 2 (some .boolean) [.ref (za E 0), .int x1] t ro := by
  refine zM_of (by decide) (Nat.le_of_ble_eq_true rfl) (fun C => ?_)
  show zJ E shM C cX12_isKey RX12 2 f (some .boolean) ro t 0 [(0, .ref (za E 0)), (1, .int x1)] []
  unfold mX12_isKey at hF
  refine z_aload_n 0 dX12_isKey_0 rfl rfl ?_
  refine z_geti fi_RX12_247 dX12_isKey_1 ?_
  refine z_iconst (v := 5) dX12_isKey_4 (by decide) ?_
  refine z_icmp_ne (tgt := 27) dX12_isKey_5 (by decide) (fun hc => ?_) (fun hc => ?_)
  · have hF := zif_f hc hF
    refine z_iconst (v := 0) dX12_isKey_27 (by decide) ?_
    exact z_zret hF (by decide) dX12_isKey_28
  · have hF := zif_t hc hF
    refine z_aload_n 0 dX12_isKey_8 rfl rfl ?_
    refine z_geti fi_RX12_240 dX12_isKey_9 ?_
    refine z_iload_n 1 dX12_isKey_12 rfl rfl ?_
    refine z_icmp_ne (tgt := 27) dX12_isKey_13 (by decide) (fun hc => ?_) (fun hc => ?_)
    · have hF := zif_f hc hF
      refine z_iconst (v := 0) dX12_isKey_27 (by decide) ?_
      exact z_zret hF (by decide) dX12_isKey_28
    · have hF := zif_t hc hF
      refine z_aload_n 0 dX12_isKey_16 rfl rfl ?_
      refine z_geti fi_RX12_267 dX12_isKey_17 ?_
      refine z_if_ge (tgt := 27) dX12_isKey_20 (by decide) (fun hc => ?_) (fun hc => ?_)
      · have hF := zif_t hc hF
        refine z_iconst (v := 0) dX12_isKey_27 (by decide) ?_
        exact z_zret hF (by decide) dX12_isKey_28
      · have hF := zif_f hc hF
        refine z_iconst (v := 1) dX12_isKey_23 (by decide) ?_
        refine z_goto (tgt := 28) dX12_isKey_24 (by decide) ?_
        exact z_zret hF (by decide) dX12_isKey_28
-- SessionHouseModel.passes(Z)Z
theorem dX12_passes_0 : decode cX12_passes 0 = .ok (.aload_n 0, 1) := by decide +kernel
theorem dX12_passes_1 : decode cX12_passes 1 = .ok (.getfield 267, 3) := by decide +kernel
theorem dX12_passes_4 : decode cX12_passes 4 = .ok (.ifCond .ge 7, 3) := by decide +kernel
theorem dX12_passes_7 : decode cX12_passes 7 = .ok (.iload_n 1, 1) := by decide +kernel
theorem dX12_passes_8 : decode cX12_passes 8 = .ok (.ifCond .ne 14, 3) := by decide +kernel
theorem dX12_passes_11 : decode cX12_passes 11 = .ok (.aload_n 0, 1) := by decide +kernel
theorem dX12_passes_12 : decode cX12_passes 12 = .ok (.aload_n 0, 1) := by decide +kernel
theorem dX12_passes_13 : decode cX12_passes 13 = .ok (.getfield 227, 3) := by decide +kernel
theorem dX12_passes_16 : decode cX12_passes 16 = .ok (.invokevirtual 270, 3) := by decide +kernel
theorem dX12_passes_19 : decode cX12_passes 19 = .ok (.istore_n 2, 1) := by decide +kernel
theorem dX12_passes_20 : decode cX12_passes 20 = .ok (.iconst 0, 1) := by decide +kernel
theorem dX12_passes_21 : decode cX12_passes 21 = .ok (.ireturn, 1) := by decide +kernel
theorem dX12_passes_22 : decode cX12_passes 22 = .ok (.aload_n 0, 1) := by decide +kernel
theorem dX12_passes_23 : decode cX12_passes 23 = .ok (.invokevirtual 273, 3) := by decide +kernel
theorem dX12_passes_26 : decode cX12_passes 26 = .ok (.iconst 1, 1) := by decide +kernel
theorem dX12_passes_27 : decode cX12_passes 27 = .ok (.ireturn, 1) := by decide +kernel
def bX12_passes_11 (t : zS) : zR := zbd (mX12_fails (t 0 6) t) fun r2636 t2637 => some (0, t2637)
def mX12_passes (x1 : Int32) (t : zS) : zR := if 0 ≤ (t 0 9) then bX12_passes_11   t else if x1 = 0 then bX12_passes_11   t else zbd (mX12_next  t) fun r2639 t2640 => some (1, t2640)
set_option maxHeartbeats 4000000 in
set_option maxRecDepth 20000 in
theorem wbX12_passes_11 {E : zE} {C : zC} {f : Nat} {ro : Int32 × zS} (hf : 4 ≤ f) (t : zS) (hF : bX12_passes_11   t = some ro) : zJ E shM C cX12_passes RX12 3 f (some .boolean) ro t 11 [(0, .ref (za E 0))] [] := by
  unfold bX12_passes_11 at hF
  refine z_aload_n 0 dX12_passes_11 rfl rfl ?_
  refine z_aload_n 0 dX12_passes_12 rfl rfl ?_
  refine z_geti fi_RX12_227 dX12_passes_13 ?_
  obtain ⟨r2636, t2637, hc2638, hF⟩ := zbd_at hF
  refine z_callVi (ctX12_fails (E := E) (f := f - 1) (by omega) hc2638) yy_X12_fails yv_X12_fails ob_M_0 lk_RX12_270 (by omega) rfl rfl (Nat.le_of_ble_eq_true rfl) dX12_passes_16 ?_
  refine z_istore_n (lv' := [(2, .int r2636), (0, .ref (za E 0))]) dX12_passes_19 rfl (by decide) rfl ?_
  refine z_iconst (v := 0) dX12_passes_20 (by decide) ?_
  exact z_zret hF (by decide) dX12_passes_21
set_option maxHeartbeats 4000000 in
set_option maxRecDepth 20000 in
theorem ctX12_passes {E : zE} {f : Nat} (hf : 4 ≤ f) {x1 : Int32} {t : zS} {ro : Int32 × zS} (hF : mX12_passes  x1 t = some ro) : zM E shM f yX12_passes cX12_passes 3 (some .boolean) [.ref (za E 0), .int x1] t ro := by
  refine zM_of (by decide) (Nat.le_of_ble_eq_true rfl) (fun C => ?_)
  show zJ E shM C cX12_passes RX12 3 f (some .boolean) ro t 0 [(0, .ref (za E 0)), (1, .int x1)] []
  unfold mX12_passes at hF
  refine z_aload_n 0 dX12_passes_0 rfl rfl ?_
  refine z_geti fi_RX12_267 dX12_passes_1 ?_
  refine z_if_ge (tgt := 11) dX12_passes_4 (by decide) (fun hc => ?_) (fun hc => ?_)
  · have hF := zif_t hc hF
    refine z_sub [0] rfl ?_
    exact wbX12_passes_11 hf   _ hF
  · have hF := zif_f hc hF
    refine z_iload_n 1 dX12_passes_7 rfl rfl ?_
    refine z_if_ne (tgt := 22) dX12_passes_8 (by decide) (fun hc => ?_) (fun hc => ?_)
    · have hF := zif_f hc hF
      refine z_aload_n 0 dX12_passes_22 rfl rfl ?_
      obtain ⟨r2639, t2640, hc2641, hF⟩ := zbd_at hF
      refine z_callVv (ctX12_next (E := E) (f := f - 1) (by omega) hc2641) yy_X12_next yv_X12_next ob_M_0 lk_RX12_273 (by omega) rfl rfl (Nat.le_of_ble_eq_true rfl) dX12_passes_23 ?_
      refine z_iconst (v := 1) dX12_passes_26 (by decide) ?_
      exact z_zret hF (by decide) dX12_passes_27
    · have hF := zif_t hc hF
      refine z_sub [0] rfl ?_
      exact wbX12_passes_11 hf   _ hF
-- SessionHouseModel.opens(Z)Z
theorem dX12_opens_0 : decode cX12_opens 0 = .ok (.aload_n 0, 1) := by decide +kernel
theorem dX12_opens_1 : decode cX12_opens 1 = .ok (.getfield 267, 3) := by decide +kernel
theorem dX12_opens_4 : decode cX12_opens 4 = .ok (.ifCond .ge 16, 3) := by decide +kernel
theorem dX12_opens_7 : decode cX12_opens 7 = .ok (.iload_n 1, 1) := by decide +kernel
theorem dX12_opens_8 : decode cX12_opens 8 = .ok (.ifCond .eq 12, 3) := by decide +kernel
theorem dX12_opens_11 : decode cX12_opens 11 = .ok (.aload_n 0, 1) := by decide +kernel
theorem dX12_opens_12 : decode cX12_opens 12 = .ok (.getfield 276, 3) := by decide +kernel
theorem dX12_opens_15 : decode cX12_opens 15 = .ok (.bipush 40, 2) := by decide +kernel
theorem dX12_opens_17 : decode cX12_opens 17 = .ok (.if_icmp .ne 14, 3) := by decide +kernel
theorem dX12_opens_20 : decode cX12_opens 20 = .ok (.aload_n 0, 1) := by decide +kernel
theorem dX12_opens_21 : decode cX12_opens 21 = .ok (.aload_n 0, 1) := by decide +kernel
theorem dX12_opens_22 : decode cX12_opens 22 = .ok (.getfield 227, 3) := by decide +kernel
theorem dX12_opens_25 : decode cX12_opens 25 = .ok (.invokevirtual 270, 3) := by decide +kernel
theorem dX12_opens_28 : decode cX12_opens 28 = .ok (.istore_n 2, 1) := by decide +kernel
theorem dX12_opens_29 : decode cX12_opens 29 = .ok (.iconst 0, 1) := by decide +kernel
theorem dX12_opens_30 : decode cX12_opens 30 = .ok (.ireturn, 1) := by decide +kernel
theorem dX12_opens_31 : decode cX12_opens 31 = .ok (.aload_n 0, 1) := by decide +kernel
theorem dX12_opens_32 : decode cX12_opens 32 = .ok (.dup, 1) := by decide +kernel
theorem dX12_opens_33 : decode cX12_opens 33 = .ok (.getfield 276, 3) := by decide +kernel
theorem dX12_opens_36 : decode cX12_opens 36 = .ok (.iconst 1, 1) := by decide +kernel
theorem dX12_opens_37 : decode cX12_opens 37 = .ok (.iadd, 1) := by decide +kernel
theorem dX12_opens_38 : decode cX12_opens 38 = .ok (.putfield 276, 3) := by decide +kernel
theorem dX12_opens_41 : decode cX12_opens 41 = .ok (.aload_n 0, 1) := by decide +kernel
theorem dX12_opens_42 : decode cX12_opens 42 = .ok (.invokevirtual 273, 3) := by decide +kernel
theorem dX12_opens_45 : decode cX12_opens 45 = .ok (.iconst 1, 1) := by decide +kernel
theorem dX12_opens_46 : decode cX12_opens 46 = .ok (.ireturn, 1) := by decide +kernel
def bX12_opens_20 (t : zS) : zR := zbd (mX12_fails (t 0 6) t) fun r2642 t2643 => some (0, t2643)
def mX12_opens (x1 : Int32) (t : zS) : zR := if 0 ≤ (t 0 9) then bX12_opens_20   t else if x1 = 0 then bX12_opens_20   t else if (t 0 10) = 40 then bX12_opens_20   t else zpt t 0 10 ((t 0 10) + 1) fun t2645 => zbd (mX12_next  t2645) fun r2646 t2647 => some (1, t2647)
set_option maxHeartbeats 4000000 in
set_option maxRecDepth 20000 in
theorem wbX12_opens_20 {E : zE} {C : zC} {f : Nat} {ro : Int32 × zS} (hf : 4 ≤ f) (t : zS) (hF : bX12_opens_20   t = some ro) : zJ E shM C cX12_opens RX12 3 f (some .boolean) ro t 20 [(0, .ref (za E 0))] [] := by
  unfold bX12_opens_20 at hF
  refine z_aload_n 0 dX12_opens_20 rfl rfl ?_
  refine z_aload_n 0 dX12_opens_21 rfl rfl ?_
  refine z_geti fi_RX12_227 dX12_opens_22 ?_
  obtain ⟨r2642, t2643, hc2644, hF⟩ := zbd_at hF
  refine z_callVi (ctX12_fails (E := E) (f := f - 1) (by omega) hc2644) yy_X12_fails yv_X12_fails ob_M_0 lk_RX12_270 (by omega) rfl rfl (Nat.le_of_ble_eq_true rfl) dX12_opens_25 ?_
  refine z_istore_n (lv' := [(2, .int r2642), (0, .ref (za E 0))]) dX12_opens_28 rfl (by decide) rfl ?_
  refine z_iconst (v := 0) dX12_opens_29 (by decide) ?_
  exact z_zret hF (by decide) dX12_opens_30
set_option maxHeartbeats 4000000 in
set_option maxRecDepth 20000 in
theorem ctX12_opens {E : zE} {f : Nat} (hf : 4 ≤ f) {x1 : Int32} {t : zS} {ro : Int32 × zS} (hF : mX12_opens  x1 t = some ro) : zM E shM f yX12_opens cX12_opens 3 (some .boolean) [.ref (za E 0), .int x1] t ro := by
  refine zM_of (by decide) (Nat.le_of_ble_eq_true rfl) (fun C => ?_)
  show zJ E shM C cX12_opens RX12 3 f (some .boolean) ro t 0 [(0, .ref (za E 0)), (1, .int x1)] []
  unfold mX12_opens at hF
  refine z_aload_n 0 dX12_opens_0 rfl rfl ?_
  refine z_geti fi_RX12_267 dX12_opens_1 ?_
  refine z_if_ge (tgt := 20) dX12_opens_4 (by decide) (fun hc => ?_) (fun hc => ?_)
  · have hF := zif_t hc hF
    refine z_sub [0] rfl ?_
    exact wbX12_opens_20 hf   _ hF
  · have hF := zif_f hc hF
    refine z_iload_n 1 dX12_opens_7 rfl rfl ?_
    refine z_if_eq (tgt := 20) dX12_opens_8 (by decide) (fun hc => ?_) (fun hc => ?_)
    · have hF := zif_t hc hF
      refine z_sub [0] rfl ?_
      exact wbX12_opens_20 hf   _ hF
    · have hF := zif_f hc hF
      refine z_aload_n 0 dX12_opens_11 rfl rfl ?_
      refine z_geti fi_RX12_276 dX12_opens_12 ?_
      refine z_bipush (v := 40) dX12_opens_15 (by decide) ?_
      refine z_icmp_ne (tgt := 31) dX12_opens_17 (by decide) (fun hc => ?_) (fun hc => ?_)
      · have hF := zif_f hc hF
        refine z_aload_n 0 dX12_opens_31 rfl rfl ?_
        refine z_dup dX12_opens_32 rfl ?_
        refine z_geti fi_RX12_276 dX12_opens_33 ?_
        refine z_iconst (v := 1) dX12_opens_36 (by decide) ?_
        refine z_iadd dX12_opens_37 ?_
        refine z_puti fw_RX12_276 dX12_opens_38 (fun t2645 et2645 => ?_)
        have hF := zpt_at hF t2645 et2645
        refine z_aload_n 0 dX12_opens_41 rfl rfl ?_
        obtain ⟨r2646, t2647, hc2648, hF⟩ := zbd_at hF
        refine z_callVv (ctX12_next (E := E) (f := f - 1) (by omega) hc2648) yy_X12_next yv_X12_next ob_M_0 lk_RX12_273 (by omega) rfl rfl (Nat.le_of_ble_eq_true rfl) dX12_opens_42 ?_
        refine z_iconst (v := 1) dX12_opens_45 (by decide) ?_
        exact z_zret hF (by decide) dX12_opens_46
      · have hF := zif_t hc hF
        refine z_sub [0] rfl ?_
        exact wbX12_opens_20 hf   _ hF
-- SessionHouseModel.closes(I)V
theorem dX12_closes_0 : decode cX12_closes 0 = .ok (.aload_n 0, 1) := by decide +kernel
theorem dX12_closes_1 : decode cX12_closes 1 = .ok (.aload_n 0, 1) := by decide +kernel
theorem dX12_closes_2 : decode cX12_closes 2 = .ok (.iload_n 1, 1) := by decide +kernel
theorem dX12_closes_3 : decode cX12_closes 3 = .ok (.invokevirtual 279, 3) := by decide +kernel
theorem dX12_closes_6 : decode cX12_closes 6 = .ok (.invokevirtual 282, 3) := by decide +kernel
theorem dX12_closes_9 : decode cX12_closes 9 = .ok (.ifCond .eq 13, 3) := by decide +kernel
theorem dX12_closes_12 : decode cX12_closes 12 = .ok (.aload_n 0, 1) := by decide +kernel
theorem dX12_closes_13 : decode cX12_closes 13 = .ok (.dup, 1) := by decide +kernel
theorem dX12_closes_14 : decode cX12_closes 14 = .ok (.getfield 276, 3) := by decide +kernel
theorem dX12_closes_17 : decode cX12_closes 17 = .ok (.iconst 1, 1) := by decide +kernel
theorem dX12_closes_18 : decode cX12_closes 18 = .ok (.isub, 1) := by decide +kernel
theorem dX12_closes_19 : decode cX12_closes 19 = .ok (.putfield 276, 3) := by decide +kernel
theorem dX12_closes_22 : decode cX12_closes 22 = .ok (.return_, 1) := by decide +kernel
def mX12_closes (x1 : Int32) (t : zS) : zR := zbd (mX12_isSign x1 t) fun r2649 t2650 => zbd (mX12_passes r2649 t2650) fun r2652 t2653 => if r2652 = 0 then some (0, t2653) else zpt t2653 0 10 ((t2653 0 10) - 1) fun t2655 => some (0, t2655)
set_option maxHeartbeats 4000000 in
set_option maxRecDepth 20000 in
theorem ctX12_closes {E : zE} {f : Nat} (hf : 5 ≤ f) {x1 : Int32} {t : zS} {ro : Int32 × zS} (hF : mX12_closes  x1 t = some ro) : zM E shM f yX12_closes cX12_closes 2 none [.ref (za E 0), .int x1] t ro := by
  refine zM_of (by decide) (Nat.le_of_ble_eq_true rfl) (fun C => ?_)
  show zJ E shM C cX12_closes RX12 2 f none ro t 0 [(0, .ref (za E 0)), (1, .int x1)] []
  unfold mX12_closes at hF
  refine z_aload_n 0 dX12_closes_0 rfl rfl ?_
  refine z_aload_n 0 dX12_closes_1 rfl rfl ?_
  refine z_iload_n 1 dX12_closes_2 rfl rfl ?_
  obtain ⟨r2649, t2650, hc2651, hF⟩ := zbd_at hF
  refine z_callVi (ctX12_isSign (E := E) (f := f - 1) (by omega) hc2651) yy_X12_isSign yv_X12_isSign ob_M_0 lk_RX12_279 (by omega) rfl rfl (Nat.le_of_ble_eq_true rfl) dX12_closes_3 ?_
  obtain ⟨r2652, t2653, hc2654, hF⟩ := zbd_at hF
  refine z_callVi (ctX12_passes (E := E) (f := f - 1) (by omega) hc2654) yy_X12_passes yv_X12_passes ob_M_0 lk_RX12_282 (by omega) rfl rfl (Nat.le_of_ble_eq_true rfl) dX12_closes_6 ?_
  refine z_if_eq (tgt := 22) dX12_closes_9 (by decide) (fun hc => ?_) (fun hc => ?_)
  · have hF := zif_t hc hF
    exact z_vret hF dX12_closes_22
  · have hF := zif_f hc hF
    refine z_aload_n 0 dX12_closes_12 rfl rfl ?_
    refine z_dup dX12_closes_13 rfl ?_
    refine z_geti fi_RX12_276 dX12_closes_14 ?_
    refine z_iconst (v := 1) dX12_closes_17 (by decide) ?_
    refine z_isub dX12_closes_18 ?_
    refine z_puti fw_RX12_276 dX12_closes_19 (fun t2655 et2655 => ?_)
    have hF := zpt_at hF t2655 et2655
    exact z_vret hF dX12_closes_22
-- SessionHouseModel.node(III)I
theorem dX12_node_0 : decode cX12_node 0 = .ok (.aload_n 0, 1) := by decide +kernel
theorem dX12_node_1 : decode cX12_node 1 = .ok (.getfield 22, 3) := by decide +kernel
theorem dX12_node_4 : decode cX12_node 4 = .ok (.aload_n 0, 1) := by decide +kernel
theorem dX12_node_5 : decode cX12_node 5 = .ok (.getfield 286, 3) := by decide +kernel
theorem dX12_node_8 : decode cX12_node 8 = .ok (.iload_n 1, 1) := by decide +kernel
theorem dX12_node_9 : decode cX12_node 9 = .ok (.iastore, 1) := by decide +kernel
theorem dX12_node_10 : decode cX12_node 10 = .ok (.aload_n 0, 1) := by decide +kernel
theorem dX12_node_11 : decode cX12_node 11 = .ok (.getfield 25, 3) := by decide +kernel
theorem dX12_node_14 : decode cX12_node 14 = .ok (.aload_n 0, 1) := by decide +kernel
theorem dX12_node_15 : decode cX12_node 15 = .ok (.getfield 286, 3) := by decide +kernel
theorem dX12_node_18 : decode cX12_node 18 = .ok (.iload_n 2, 1) := by decide +kernel
theorem dX12_node_19 : decode cX12_node 19 = .ok (.iastore, 1) := by decide +kernel
theorem dX12_node_20 : decode cX12_node 20 = .ok (.aload_n 0, 1) := by decide +kernel
theorem dX12_node_21 : decode cX12_node 21 = .ok (.getfield 28, 3) := by decide +kernel
theorem dX12_node_24 : decode cX12_node 24 = .ok (.aload_n 0, 1) := by decide +kernel
theorem dX12_node_25 : decode cX12_node 25 = .ok (.getfield 286, 3) := by decide +kernel
theorem dX12_node_28 : decode cX12_node 28 = .ok (.iload_n 3, 1) := by decide +kernel
theorem dX12_node_29 : decode cX12_node 29 = .ok (.iastore, 1) := by decide +kernel
theorem dX12_node_30 : decode cX12_node 30 = .ok (.aload_n 0, 1) := by decide +kernel
theorem dX12_node_31 : decode cX12_node 31 = .ok (.getfield 31, 3) := by decide +kernel
theorem dX12_node_34 : decode cX12_node 34 = .ok (.aload_n 0, 1) := by decide +kernel
theorem dX12_node_35 : decode cX12_node 35 = .ok (.getfield 286, 3) := by decide +kernel
theorem dX12_node_38 : decode cX12_node 38 = .ok (.iconst 0, 1) := by decide +kernel
theorem dX12_node_39 : decode cX12_node 39 = .ok (.iastore, 1) := by decide +kernel
theorem dX12_node_40 : decode cX12_node 40 = .ok (.aload_n 0, 1) := by decide +kernel
theorem dX12_node_41 : decode cX12_node 41 = .ok (.dup, 1) := by decide +kernel
theorem dX12_node_42 : decode cX12_node 42 = .ok (.getfield 286, 3) := by decide +kernel
theorem dX12_node_45 : decode cX12_node 45 = .ok (.iconst 1, 1) := by decide +kernel
theorem dX12_node_46 : decode cX12_node 46 = .ok (.iadd, 1) := by decide +kernel
theorem dX12_node_47 : decode cX12_node 47 = .ok (.putfield 286, 3) := by decide +kernel
theorem dX12_node_50 : decode cX12_node 50 = .ok (.aload_n 0, 1) := by decide +kernel
theorem dX12_node_51 : decode cX12_node 51 = .ok (.getfield 286, 3) := by decide +kernel
theorem dX12_node_54 : decode cX12_node 54 = .ok (.iconst 1, 1) := by decide +kernel
theorem dX12_node_55 : decode cX12_node 55 = .ok (.isub, 1) := by decide +kernel
theorem dX12_node_56 : decode cX12_node 56 = .ok (.ireturn, 1) := by decide +kernel
def mX12_node (x1 : Int32) (x2 : Int32) (x3 : Int32) (t : zS) : zR := zwr t 5 3100 (t 0 14) x1 fun t2657 => zwr t2657 6 3100 (t2657 0 14) x2 fun t2659 => zwr t2659 7 3100 (t2659 0 14) x3 fun t2661 => zwr t2661 8 3100 (t2661 0 14) 0 fun t2663 => zpt t2663 0 14 ((t2663 0 14) + 1) fun t2664 => some (((t2664 0 14) - 1), t2664)
set_option maxHeartbeats 4000000 in
set_option maxRecDepth 20000 in
theorem ctX12_node {E : zE} {f : Nat} (hf : 1 ≤ f) {x1 : Int32} {x2 : Int32} {x3 : Int32} {t : zS} {ro : Int32 × zS} (hF : mX12_node  x1 x2 x3 t = some ro) : zM E shM f yX12_node cX12_node 4 (some .int) [.ref (za E 0), .int x1, .int x2, .int x3] t ro := by
  refine zM_of (by decide) (Nat.le_of_ble_eq_true rfl) (fun C => ?_)
  show zJ E shM C cX12_node RX12 4 f (some .int) ro t 0 [(0, .ref (za E 0)), (1, .int x1), (2, .int x2), (3, .int x3)] []
  unfold mX12_node at hF
  refine z_aload_n 0 dX12_node_0 rfl rfl ?_
  refine z_getr fr_RX12_22 dX12_node_1 ?_
  refine z_aload_n 0 dX12_node_4 rfl rfl ?_
  refine z_geti fi_RX12_286 dX12_node_5 ?_
  refine z_iload_n 1 dX12_node_8 rfl rfl ?_
  obtain ⟨hi2656, hF⟩ := zwr_at hF
  refine z_iast (n := 3100) rfl hi2656 dX12_node_9 (fun t2657 et2657 => ?_)
  have hF := hF t2657 et2657
  refine z_aload_n 0 dX12_node_10 rfl rfl ?_
  refine z_getr fr_RX12_25 dX12_node_11 ?_
  refine z_aload_n 0 dX12_node_14 rfl rfl ?_
  refine z_geti fi_RX12_286 dX12_node_15 ?_
  refine z_iload_n 2 dX12_node_18 rfl rfl ?_
  obtain ⟨hi2658, hF⟩ := zwr_at hF
  refine z_iast (n := 3100) rfl hi2658 dX12_node_19 (fun t2659 et2659 => ?_)
  have hF := hF t2659 et2659
  refine z_aload_n 0 dX12_node_20 rfl rfl ?_
  refine z_getr fr_RX12_28 dX12_node_21 ?_
  refine z_aload_n 0 dX12_node_24 rfl rfl ?_
  refine z_geti fi_RX12_286 dX12_node_25 ?_
  refine z_iload_n 3 dX12_node_28 rfl rfl ?_
  obtain ⟨hi2660, hF⟩ := zwr_at hF
  refine z_iast (n := 3100) rfl hi2660 dX12_node_29 (fun t2661 et2661 => ?_)
  have hF := hF t2661 et2661
  refine z_aload_n 0 dX12_node_30 rfl rfl ?_
  refine z_getr fr_RX12_31 dX12_node_31 ?_
  refine z_aload_n 0 dX12_node_34 rfl rfl ?_
  refine z_geti fi_RX12_286 dX12_node_35 ?_
  refine z_iconst (v := 0) dX12_node_38 (by decide) ?_
  obtain ⟨hi2662, hF⟩ := zwr_at hF
  refine z_iast (n := 3100) rfl hi2662 dX12_node_39 (fun t2663 et2663 => ?_)
  have hF := hF t2663 et2663
  refine z_aload_n 0 dX12_node_40 rfl rfl ?_
  refine z_dup dX12_node_41 rfl ?_
  refine z_geti fi_RX12_286 dX12_node_42 ?_
  refine z_iconst (v := 1) dX12_node_45 (by decide) ?_
  refine z_iadd dX12_node_46 ?_
  refine z_puti fw_RX12_286 dX12_node_47 (fun t2664 et2664 => ?_)
  have hF := zpt_at hF t2664 et2664
  refine z_aload_n 0 dX12_node_50 rfl rfl ?_
  refine z_geti fi_RX12_286 dX12_node_51 ?_
  refine z_iconst (v := 1) dX12_node_54 (by decide) ?_
  refine z_isub dX12_node_55 ?_
  exact z_iret hF dX12_node_56
-- SessionHouseModel.ask(ZI)V
theorem dX12_ask_0 : decode cX12_ask 0 = .ok (.aload_n 0, 1) := by decide +kernel
theorem dX12_ask_1 : decode cX12_ask 1 = .ok (.getfield 112, 3) := by decide +kernel
theorem dX12_ask_4 : decode cX12_ask 4 = .ok (.aload_n 0, 1) := by decide +kernel
theorem dX12_ask_5 : decode cX12_ask 5 = .ok (.getfield 289, 3) := by decide +kernel
theorem dX12_ask_8 : decode cX12_ask 8 = .ok (.aload_n 0, 1) := by decide +kernel
theorem dX12_ask_9 : decode cX12_ask 9 = .ok (.getfield 240, 3) := by decide +kernel
theorem dX12_ask_12 : decode cX12_ask 12 = .ok (.iastore, 1) := by decide +kernel
theorem dX12_ask_13 : decode cX12_ask 13 = .ok (.aload_n 0, 1) := by decide +kernel
theorem dX12_ask_14 : decode cX12_ask 14 = .ok (.getfield 115, 3) := by decide +kernel
theorem dX12_ask_17 : decode cX12_ask 17 = .ok (.aload_n 0, 1) := by decide +kernel
theorem dX12_ask_18 : decode cX12_ask 18 = .ok (.getfield 289, 3) := by decide +kernel
theorem dX12_ask_21 : decode cX12_ask 21 = .ok (.aload_n 0, 1) := by decide +kernel
theorem dX12_ask_22 : decode cX12_ask 22 = .ok (.getfield 227, 3) := by decide +kernel
theorem dX12_ask_25 : decode cX12_ask 25 = .ok (.iastore, 1) := by decide +kernel
theorem dX12_ask_26 : decode cX12_ask 26 = .ok (.aload_n 0, 1) := by decide +kernel
theorem dX12_ask_27 : decode cX12_ask 27 = .ok (.getfield 118, 3) := by decide +kernel
theorem dX12_ask_30 : decode cX12_ask 30 = .ok (.aload_n 0, 1) := by decide +kernel
theorem dX12_ask_31 : decode cX12_ask 31 = .ok (.getfield 289, 3) := by decide +kernel
theorem dX12_ask_34 : decode cX12_ask 34 = .ok (.iload_n 1, 1) := by decide +kernel
theorem dX12_ask_35 : decode cX12_ask 35 = .ok (.bastore, 1) := by decide +kernel
theorem dX12_ask_36 : decode cX12_ask 36 = .ok (.aload_n 0, 1) := by decide +kernel
theorem dX12_ask_37 : decode cX12_ask 37 = .ok (.getfield 122, 3) := by decide +kernel
theorem dX12_ask_40 : decode cX12_ask 40 = .ok (.aload_n 0, 1) := by decide +kernel
theorem dX12_ask_41 : decode cX12_ask 41 = .ok (.getfield 289, 3) := by decide +kernel
theorem dX12_ask_44 : decode cX12_ask 44 = .ok (.iload_n 2, 1) := by decide +kernel
theorem dX12_ask_45 : decode cX12_ask 45 = .ok (.iastore, 1) := by decide +kernel
theorem dX12_ask_46 : decode cX12_ask 46 = .ok (.aload_n 0, 1) := by decide +kernel
theorem dX12_ask_47 : decode cX12_ask 47 = .ok (.dup, 1) := by decide +kernel
theorem dX12_ask_48 : decode cX12_ask 48 = .ok (.getfield 289, 3) := by decide +kernel
theorem dX12_ask_51 : decode cX12_ask 51 = .ok (.iconst 1, 1) := by decide +kernel
theorem dX12_ask_52 : decode cX12_ask 52 = .ok (.iadd, 1) := by decide +kernel
theorem dX12_ask_53 : decode cX12_ask 53 = .ok (.putfield 289, 3) := by decide +kernel
theorem dX12_ask_56 : decode cX12_ask 56 = .ok (.return_, 1) := by decide +kernel
def mX12_ask (x1 : Int32) (x2 : Int32) (t : zS) : zR := zwr t 35 3000 (t 0 52) (t 0 8) fun t2666 => zwr t2666 36 3000 (t2666 0 52) (t2666 0 6) fun t2668 => z01 x1 (zwr t2668 37 3000 (t2668 0 52) x1 fun t2670 => zwr t2670 38 3000 (t2670 0 52) x2 fun t2673 => zpt t2673 0 52 ((t2673 0 52) + 1) fun t2674 => some (0, t2674))
set_option maxHeartbeats 4000000 in
set_option maxRecDepth 20000 in
theorem ctX12_ask {E : zE} {f : Nat} (hf : 1 ≤ f) {x1 : Int32} {x2 : Int32} {t : zS} {ro : Int32 × zS} (hF : mX12_ask  x1 x2 t = some ro) : zM E shM f yX12_ask cX12_ask 3 none [.ref (za E 0), .int x1, .int x2] t ro := by
  refine zM_of (by decide) (Nat.le_of_ble_eq_true rfl) (fun C => ?_)
  show zJ E shM C cX12_ask RX12 3 f none ro t 0 [(0, .ref (za E 0)), (1, .int x1), (2, .int x2)] []
  unfold mX12_ask at hF
  refine z_aload_n 0 dX12_ask_0 rfl rfl ?_
  refine z_getr fr_RX12_112 dX12_ask_1 ?_
  refine z_aload_n 0 dX12_ask_4 rfl rfl ?_
  refine z_geti fi_RX12_289 dX12_ask_5 ?_
  refine z_aload_n 0 dX12_ask_8 rfl rfl ?_
  refine z_geti fi_RX12_240 dX12_ask_9 ?_
  obtain ⟨hi2665, hF⟩ := zwr_at hF
  refine z_iast (n := 3000) rfl hi2665 dX12_ask_12 (fun t2666 et2666 => ?_)
  have hF := hF t2666 et2666
  refine z_aload_n 0 dX12_ask_13 rfl rfl ?_
  refine z_getr fr_RX12_115 dX12_ask_14 ?_
  refine z_aload_n 0 dX12_ask_17 rfl rfl ?_
  refine z_geti fi_RX12_289 dX12_ask_18 ?_
  refine z_aload_n 0 dX12_ask_21 rfl rfl ?_
  refine z_geti fi_RX12_227 dX12_ask_22 ?_
  obtain ⟨hi2667, hF⟩ := zwr_at hF
  refine z_iast (n := 3000) rfl hi2667 dX12_ask_25 (fun t2668 et2668 => ?_)
  have hF := hF t2668 et2668
  refine z_aload_n 0 dX12_ask_26 rfl rfl ?_
  refine z_getr fr_RX12_118 dX12_ask_27 ?_
  refine z_aload_n 0 dX12_ask_30 rfl rfl ?_
  refine z_geti fi_RX12_289 dX12_ask_31 ?_
  refine z_iload_n 1 dX12_ask_34 rfl rfl ?_
  obtain ⟨hz2671, hF⟩ := z01_at hF
  obtain ⟨hi2669, hF⟩ := zwr_at hF
  refine z_zast (n := 3000) rfl hi2669 hz2671 dX12_ask_35 (fun t2670 et2670 => ?_)
  have hF := hF t2670 et2670
  refine z_aload_n 0 dX12_ask_36 rfl rfl ?_
  refine z_getr fr_RX12_122 dX12_ask_37 ?_
  refine z_aload_n 0 dX12_ask_40 rfl rfl ?_
  refine z_geti fi_RX12_289 dX12_ask_41 ?_
  refine z_iload_n 2 dX12_ask_44 rfl rfl ?_
  obtain ⟨hi2672, hF⟩ := zwr_at hF
  refine z_iast (n := 3000) rfl hi2672 dX12_ask_45 (fun t2673 et2673 => ?_)
  have hF := hF t2673 et2673
  refine z_aload_n 0 dX12_ask_46 rfl rfl ?_
  refine z_dup dX12_ask_47 rfl ?_
  refine z_geti fi_RX12_289 dX12_ask_48 ?_
  refine z_iconst (v := 1) dX12_ask_51 (by decide) ?_
  refine z_iadd dX12_ask_52 ?_
  refine z_puti fw_RX12_289 dX12_ask_53 (fun t2674 et2674 => ?_)
  have hF := zpt_at hF t2674 et2674
  exact z_vret hF dX12_ask_56
abbrev GgX12_type : Type := (zS → zR) × (zS → zR)
def HgX12_type (E : zE) (f : Nat) (g : GgX12_type) : Prop := (∀ (t : zS) (ro : Int32 × zS), g.1  t = some ro → zM E shM f yX12_type cX12_type 7 (some .int) [.ref (za E 0)] t ro) ∧ (∀ (t : zS) (ro : Int32 × zS), g.2  t = some ro → zM E shM f yX12_choices cX12_choices 5 (some .int) [.ref (za E 0)] t ro)
theorem z_hgX12_type {E : zE} {f : Nat} {g : GgX12_type} (hg : HgX12_type E f g) {t : zS} {ro : Int32 × zS} (h : g.1  t = some ro) : zM E shM f yX12_type cX12_type 7 (some .int) [.ref (za E 0)] t ro := hg.1  _ _ h
theorem z_hgX12_choices {E : zE} {f : Nat} {g : GgX12_type} (hg : HgX12_type E f g) {t : zS} {ro : Int32 × zS} (h : g.2  t = some ro) : zM E shM f yX12_choices cX12_choices 5 (some .int) [.ref (za E 0)] t ro := hg.2  _ _ h
-- SessionHouseModel.type()I
theorem dX12_type_0 : decode cX12_type 0 = .ok (.iconst (-1), 1) := by decide +kernel
theorem dX12_type_1 : decode cX12_type 1 = .ok (.istore_n 1, 1) := by decide +kernel
theorem dX12_type_2 : decode cX12_type 2 = .ok (.iconst (-1), 1) := by decide +kernel
theorem dX12_type_3 : decode cX12_type 3 = .ok (.istore_n 2, 1) := by decide +kernel
theorem dX12_type_4 : decode cX12_type 4 = .ok (.iconst 1, 1) := by decide +kernel
theorem dX12_type_5 : decode cX12_type 5 = .ok (.istore_n 3, 1) := by decide +kernel
theorem dX12_type_6 : decode cX12_type 6 = .ok (.iload_n 3, 1) := by decide +kernel
theorem dX12_type_7 : decode cX12_type 7 = .ok (.ifCond .eq 328, 3) := by decide +kernel
theorem dX12_type_10 : decode cX12_type 10 = .ok (.aload_n 0, 1) := by decide +kernel
theorem dX12_type_11 : decode cX12_type 11 = .ok (.getfield 267, 3) := by decide +kernel
theorem dX12_type_14 : decode cX12_type 14 = .ok (.ifCond .ge 321, 3) := by decide +kernel
theorem dX12_type_17 : decode cX12_type 17 = .ok (.iconst (-1), 1) := by decide +kernel
theorem dX12_type_18 : decode cX12_type 18 = .ok (.istore 4, 2) := by decide +kernel
theorem dX12_type_20 : decode cX12_type 20 = .ok (.aload_n 0, 1) := by decide +kernel
theorem dX12_type_21 : decode cX12_type 21 = .ok (.bipush 33, 2) := by decide +kernel
theorem dX12_type_23 : decode cX12_type 23 = .ok (.invokevirtual 279, 3) := by decide +kernel
theorem dX12_type_26 : decode cX12_type 26 = .ok (.ifCond .ne 12, 3) := by decide +kernel
theorem dX12_type_29 : decode cX12_type 29 = .ok (.aload_n 0, 1) := by decide +kernel
theorem dX12_type_30 : decode cX12_type 30 = .ok (.bipush 63, 2) := by decide +kernel
theorem dX12_type_32 : decode cX12_type 32 = .ok (.invokevirtual 279, 3) := by decide +kernel
theorem dX12_type_35 : decode cX12_type 35 = .ok (.ifCond .eq 7, 3) := by decide +kernel
theorem dX12_type_38 : decode cX12_type 38 = .ok (.iconst 1, 1) := by decide +kernel
theorem dX12_type_39 : decode cX12_type 39 = .ok (.goto 4, 3) := by decide +kernel
theorem dX12_type_42 : decode cX12_type 42 = .ok (.iconst 0, 1) := by decide +kernel
theorem dX12_type_43 : decode cX12_type 43 = .ok (.istore_n 3, 1) := by decide +kernel
theorem dX12_type_44 : decode cX12_type 44 = .ok (.iload_n 3, 1) := by decide +kernel
theorem dX12_type_45 : decode cX12_type 45 = .ok (.ifCond .eq 107, 3) := by decide +kernel
theorem dX12_type_48 : decode cX12_type 48 = .ok (.aload_n 0, 1) := by decide +kernel
theorem dX12_type_49 : decode cX12_type 49 = .ok (.bipush 33, 2) := by decide +kernel
theorem dX12_type_51 : decode cX12_type 51 = .ok (.invokevirtual 279, 3) := by decide +kernel
theorem dX12_type_54 : decode cX12_type 54 = .ok (.istore 5, 2) := by decide +kernel
theorem dX12_type_56 : decode cX12_type 56 = .ok (.aload_n 0, 1) := by decide +kernel
theorem dX12_type_57 : decode cX12_type 57 = .ok (.invokevirtual 273, 3) := by decide +kernel
theorem dX12_type_60 : decode cX12_type 60 = .ok (.aload_n 0, 1) := by decide +kernel
theorem dX12_type_61 : decode cX12_type 61 = .ok (.bipush 16, 2) := by decide +kernel
theorem dX12_type_63 : decode cX12_type 63 = .ok (.invokevirtual 292, 3) := by decide +kernel
theorem dX12_type_66 : decode cX12_type 66 = .ok (.ifCond .eq 28, 3) := by decide +kernel
theorem dX12_type_69 : decode cX12_type 69 = .ok (.aload_n 0, 1) := by decide +kernel
theorem dX12_type_70 : decode cX12_type 70 = .ok (.invokevirtual 273, 3) := by decide +kernel
theorem dX12_type_73 : decode cX12_type 73 = .ok (.aload_n 0, 1) := by decide +kernel
theorem dX12_type_74 : decode cX12_type 74 = .ok (.iload 5, 2) := by decide +kernel
theorem dX12_type_76 : decode cX12_type 76 = .ok (.ifCond .eq 7, 3) := by decide +kernel
theorem dX12_type_79 : decode cX12_type 79 = .ok (.iconst 3, 1) := by decide +kernel
theorem dX12_type_80 : decode cX12_type 80 = .ok (.goto 4, 3) := by decide +kernel
theorem dX12_type_83 : decode cX12_type 83 = .ok (.iconst 4, 1) := by decide +kernel
theorem dX12_type_84 : decode cX12_type 84 = .ok (.iconst (-1), 1) := by decide +kernel
theorem dX12_type_85 : decode cX12_type 85 = .ok (.iconst (-1), 1) := by decide +kernel
theorem dX12_type_86 : decode cX12_type 86 = .ok (.invokevirtual 295, 3) := by decide +kernel
theorem dX12_type_89 : decode cX12_type 89 = .ok (.istore 4, 2) := by decide +kernel
theorem dX12_type_91 : decode cX12_type 91 = .ok (.goto 58, 3) := by decide +kernel
theorem dX12_type_94 : decode cX12_type 94 = .ok (.aload_n 0, 1) := by decide +kernel
theorem dX12_type_95 : decode cX12_type 95 = .ok (.iload 5, 2) := by decide +kernel
theorem dX12_type_97 : decode cX12_type 97 = .ok (.ifCond .eq 7, 3) := by decide +kernel
theorem dX12_type_100 : decode cX12_type 100 = .ok (.iconst 5, 1) := by decide +kernel
theorem dX12_type_101 : decode cX12_type 101 = .ok (.goto 5, 3) := by decide +kernel
theorem dX12_type_104 : decode cX12_type 104 = .ok (.bipush 6, 2) := by decide +kernel
theorem dX12_type_106 : decode cX12_type 106 = .ok (.iconst (-1), 1) := by decide +kernel
theorem dX12_type_107 : decode cX12_type 107 = .ok (.iconst (-1), 1) := by decide +kernel
theorem dX12_type_108 : decode cX12_type 108 = .ok (.invokevirtual 295, 3) := by decide +kernel
theorem dX12_type_111 : decode cX12_type 111 = .ok (.istore 4, 2) := by decide +kernel
theorem dX12_type_113 : decode cX12_type 113 = .ok (.aload_n 0, 1) := by decide +kernel
theorem dX12_type_114 : decode cX12_type 114 = .ok (.aload_n 0, 1) := by decide +kernel
theorem dX12_type_115 : decode cX12_type 115 = .ok (.bipush 40, 2) := by decide +kernel
theorem dX12_type_117 : decode cX12_type 117 = .ok (.invokevirtual 279, 3) := by decide +kernel
theorem dX12_type_120 : decode cX12_type 120 = .ok (.invokevirtual 299, 3) := by decide +kernel
theorem dX12_type_123 : decode cX12_type 123 = .ok (.ifCond .ne 5, 3) := by decide +kernel
theorem dX12_type_126 : decode cX12_type 126 = .ok (.iconst (-1), 1) := by decide +kernel
theorem dX12_type_127 : decode cX12_type 127 = .ok (.ireturn, 1) := by decide +kernel
theorem dX12_type_128 : decode cX12_type 128 = .ok (.aload_n 0, 1) := by decide +kernel
theorem dX12_type_129 : decode cX12_type 129 = .ok (.invokevirtual 302, 3) := by decide +kernel
theorem dX12_type_132 : decode cX12_type 132 = .ok (.istore 6, 2) := by decide +kernel
theorem dX12_type_134 : decode cX12_type 134 = .ok (.aload_n 0, 1) := by decide +kernel
theorem dX12_type_135 : decode cX12_type 135 = .ok (.bipush 41, 2) := by decide +kernel
theorem dX12_type_137 : decode cX12_type 137 = .ok (.invokevirtual 305, 3) := by decide +kernel
theorem dX12_type_140 : decode cX12_type 140 = .ok (.aload_n 0, 1) := by decide +kernel
theorem dX12_type_141 : decode cX12_type 141 = .ok (.getfield 28, 3) := by decide +kernel
theorem dX12_type_144 : decode cX12_type 144 = .ok (.iload 4, 2) := by decide +kernel
theorem dX12_type_146 : decode cX12_type 146 = .ok (.iload 6, 2) := by decide +kernel
theorem dX12_type_148 : decode cX12_type 148 = .ok (.iastore, 1) := by decide +kernel
theorem dX12_type_149 : decode cX12_type 149 = .ok (.goto 157, 3) := by decide +kernel
theorem dX12_type_152 : decode cX12_type 152 = .ok (.aload_n 0, 1) := by decide +kernel
theorem dX12_type_153 : decode cX12_type 153 = .ok (.bipush 17, 2) := by decide +kernel
theorem dX12_type_155 : decode cX12_type 155 = .ok (.invokevirtual 292, 3) := by decide +kernel
theorem dX12_type_158 : decode cX12_type 158 = .ok (.ifCond .eq 19, 3) := by decide +kernel
theorem dX12_type_161 : decode cX12_type 161 = .ok (.aload_n 0, 1) := by decide +kernel
theorem dX12_type_162 : decode cX12_type 162 = .ok (.invokevirtual 273, 3) := by decide +kernel
theorem dX12_type_165 : decode cX12_type 165 = .ok (.aload_n 0, 1) := by decide +kernel
theorem dX12_type_166 : decode cX12_type 166 = .ok (.iconst 0, 1) := by decide +kernel
theorem dX12_type_167 : decode cX12_type 167 = .ok (.iconst (-1), 1) := by decide +kernel
theorem dX12_type_168 : decode cX12_type 168 = .ok (.iconst (-1), 1) := by decide +kernel
theorem dX12_type_169 : decode cX12_type 169 = .ok (.invokevirtual 295, 3) := by decide +kernel
theorem dX12_type_172 : decode cX12_type 172 = .ok (.istore 4, 2) := by decide +kernel
theorem dX12_type_174 : decode cX12_type 174 = .ok (.goto 132, 3) := by decide +kernel
theorem dX12_type_177 : decode cX12_type 177 = .ok (.aload_n 0, 1) := by decide +kernel
theorem dX12_type_178 : decode cX12_type 178 = .ok (.bipush 126, 2) := by decide +kernel
theorem dX12_type_180 : decode cX12_type 180 = .ok (.invokevirtual 279, 3) := by decide +kernel
theorem dX12_type_183 : decode cX12_type 183 = .ok (.ifCond .ne 11, 3) := by decide +kernel
theorem dX12_type_186 : decode cX12_type 186 = .ok (.aload_n 0, 1) := by decide +kernel
theorem dX12_type_187 : decode cX12_type 187 = .ok (.getfield 247, 3) := by decide +kernel
theorem dX12_type_190 : decode cX12_type 190 = .ok (.iconst 2, 1) := by decide +kernel
theorem dX12_type_191 : decode cX12_type 191 = .ok (.if_icmp .ne 79, 3) := by decide +kernel
theorem dX12_type_194 : decode cX12_type 194 = .ok (.aload_n 0, 1) := by decide +kernel
theorem dX12_type_195 : decode cX12_type 195 = .ok (.bipush 126, 2) := by decide +kernel
theorem dX12_type_197 : decode cX12_type 197 = .ok (.invokevirtual 279, 3) := by decide +kernel
theorem dX12_type_200 : decode cX12_type 200 = .ok (.istore 5, 2) := by decide +kernel
theorem dX12_type_202 : decode cX12_type 202 = .ok (.iload 5, 2) := by decide +kernel
theorem dX12_type_204 : decode cX12_type 204 = .ok (.ifCond .eq 7, 3) := by decide +kernel
theorem dX12_type_207 : decode cX12_type 207 = .ok (.aload_n 0, 1) := by decide +kernel
theorem dX12_type_208 : decode cX12_type 208 = .ok (.invokevirtual 273, 3) := by decide +kernel
theorem dX12_type_211 : decode cX12_type 211 = .ok (.aload_n 0, 1) := by decide +kernel
theorem dX12_type_212 : decode cX12_type 212 = .ok (.getfield 247, 3) := by decide +kernel
theorem dX12_type_215 : decode cX12_type 215 = .ok (.iconst 2, 1) := by decide +kernel
theorem dX12_type_216 : decode cX12_type 216 = .ok (.if_icmp .ne 10, 3) := by decide +kernel
theorem dX12_type_219 : decode cX12_type 219 = .ok (.aload_n 0, 1) := by decide +kernel
theorem dX12_type_220 : decode cX12_type 220 = .ok (.getfield 267, 3) := by decide +kernel
theorem dX12_type_223 : decode cX12_type 223 = .ok (.ifCond .lt 12, 3) := by decide +kernel
theorem dX12_type_226 : decode cX12_type 226 = .ok (.aload_n 0, 1) := by decide +kernel
theorem dX12_type_227 : decode cX12_type 227 = .ok (.aload_n 0, 1) := by decide +kernel
theorem dX12_type_228 : decode cX12_type 228 = .ok (.getfield 227, 3) := by decide +kernel
theorem dX12_type_231 : decode cX12_type 231 = .ok (.invokevirtual 270, 3) := by decide +kernel
theorem dX12_type_234 : decode cX12_type 234 = .ok (.ireturn, 1) := by decide +kernel
theorem dX12_type_235 : decode cX12_type 235 = .ok (.aload_n 0, 1) := by decide +kernel
theorem dX12_type_236 : decode cX12_type 236 = .ok (.iload 5, 2) := by decide +kernel
theorem dX12_type_238 : decode cX12_type 238 = .ok (.ifCond .eq 7, 3) := by decide +kernel
theorem dX12_type_241 : decode cX12_type 241 = .ok (.iconst 2, 1) := by decide +kernel
theorem dX12_type_242 : decode cX12_type 242 = .ok (.goto 4, 3) := by decide +kernel
theorem dX12_type_245 : decode cX12_type 245 = .ok (.iconst 1, 1) := by decide +kernel
theorem dX12_type_246 : decode cX12_type 246 = .ok (.aload_n 0, 1) := by decide +kernel
theorem dX12_type_247 : decode cX12_type 247 = .ok (.getfield 240, 3) := by decide +kernel
theorem dX12_type_250 : decode cX12_type 250 = .ok (.iconst (-1), 1) := by decide +kernel
theorem dX12_type_251 : decode cX12_type 251 = .ok (.invokevirtual 295, 3) := by decide +kernel
theorem dX12_type_254 : decode cX12_type 254 = .ok (.istore 4, 2) := by decide +kernel
theorem dX12_type_256 : decode cX12_type 256 = .ok (.aload_n 0, 1) := by decide +kernel
theorem dX12_type_257 : decode cX12_type 257 = .ok (.iconst 0, 1) := by decide +kernel
theorem dX12_type_258 : decode cX12_type 258 = .ok (.iload 4, 2) := by decide +kernel
theorem dX12_type_260 : decode cX12_type 260 = .ok (.invokevirtual 309, 3) := by decide +kernel
theorem dX12_type_263 : decode cX12_type 263 = .ok (.aload_n 0, 1) := by decide +kernel
theorem dX12_type_264 : decode cX12_type 264 = .ok (.invokevirtual 273, 3) := by decide +kernel
theorem dX12_type_267 : decode cX12_type 267 = .ok (.goto 39, 3) := by decide +kernel
theorem dX12_type_270 : decode cX12_type 270 = .ok (.aload_n 0, 1) := by decide +kernel
theorem dX12_type_271 : decode cX12_type 271 = .ok (.bipush 43, 2) := by decide +kernel
theorem dX12_type_273 : decode cX12_type 273 = .ok (.invokevirtual 279, 3) := by decide +kernel
theorem dX12_type_276 : decode cX12_type 276 = .ok (.ifCond .ne 12, 3) := by decide +kernel
theorem dX12_type_279 : decode cX12_type 279 = .ok (.aload_n 0, 1) := by decide +kernel
theorem dX12_type_280 : decode cX12_type 280 = .ok (.bipush 38, 2) := by decide +kernel
theorem dX12_type_282 : decode cX12_type 282 = .ok (.invokevirtual 279, 3) := by decide +kernel
theorem dX12_type_285 : decode cX12_type 285 = .ok (.ifCond .eq 12, 3) := by decide +kernel
theorem dX12_type_288 : decode cX12_type 288 = .ok (.aload_n 0, 1) := by decide +kernel
theorem dX12_type_289 : decode cX12_type 289 = .ok (.invokevirtual 313, 3) := by decide +kernel
theorem dX12_type_292 : decode cX12_type 292 = .ok (.istore 4, 2) := by decide +kernel
theorem dX12_type_294 : decode cX12_type 294 = .ok (.goto 12, 3) := by decide +kernel
theorem dX12_type_297 : decode cX12_type 297 = .ok (.aload_n 0, 1) := by decide +kernel
theorem dX12_type_298 : decode cX12_type 298 = .ok (.aload_n 0, 1) := by decide +kernel
theorem dX12_type_299 : decode cX12_type 299 = .ok (.getfield 227, 3) := by decide +kernel
theorem dX12_type_302 : decode cX12_type 302 = .ok (.invokevirtual 270, 3) := by decide +kernel
theorem dX12_type_305 : decode cX12_type 305 = .ok (.ireturn, 1) := by decide +kernel
theorem dX12_type_306 : decode cX12_type 306 = .ok (.iload_n 2, 1) := by decide +kernel
theorem dX12_type_307 : decode cX12_type 307 = .ok (.ifCond .lt 11, 3) := by decide +kernel
theorem dX12_type_310 : decode cX12_type 310 = .ok (.aload_n 0, 1) := by decide +kernel
theorem dX12_type_311 : decode cX12_type 311 = .ok (.getfield 25, 3) := by decide +kernel
theorem dX12_type_314 : decode cX12_type 314 = .ok (.iload_n 2, 1) := by decide +kernel
theorem dX12_type_315 : decode cX12_type 315 = .ok (.iload 4, 2) := by decide +kernel
theorem dX12_type_317 : decode cX12_type 317 = .ok (.iastore, 1) := by decide +kernel
theorem dX12_type_318 : decode cX12_type 318 = .ok (.iload_n 1, 1) := by decide +kernel
theorem dX12_type_319 : decode cX12_type 319 = .ok (.ifCond .ge 8, 3) := by decide +kernel
theorem dX12_type_322 : decode cX12_type 322 = .ok (.iload 4, 2) := by decide +kernel
theorem dX12_type_324 : decode cX12_type 324 = .ok (.goto 4, 3) := by decide +kernel
theorem dX12_type_327 : decode cX12_type 327 = .ok (.iload_n 1, 1) := by decide +kernel
theorem dX12_type_328 : decode cX12_type 328 = .ok (.istore_n 1, 1) := by decide +kernel
theorem dX12_type_329 : decode cX12_type 329 = .ok (.iload 4, 2) := by decide +kernel
theorem dX12_type_331 : decode cX12_type 331 = .ok (.istore_n 2, 1) := by decide +kernel
theorem dX12_type_332 : decode cX12_type 332 = .ok (.goto (-326), 3) := by decide +kernel
theorem dX12_type_335 : decode cX12_type 335 = .ok (.iload_n 1, 1) := by decide +kernel
theorem dX12_type_336 : decode cX12_type 336 = .ok (.ireturn, 1) := by decide +kernel
def bX12_type_328 (g : GgX12_type) (k6 : Int32 → Int32 → Int32 → zS → zR) (x3 : Int32) (x4 : Int32) (y0 : Int32) (t : zS) : zR := k6 y0 x4 x3 t
def bX12_type_318 (g : GgX12_type) (k6 : Int32 → Int32 → Int32 → zS → zR) (x1 : Int32) (x3 : Int32) (x4 : Int32) (t : zS) : zR := if 0 ≤ x1 then bX12_type_328 g k6 x3 x4 x1 t else bX12_type_328 g k6 x3 x4 x4 t
def bX12_type_306 (g : GgX12_type) (k6 : Int32 → Int32 → Int32 → zS → zR) (x1 : Int32) (x2 : Int32) (x3 : Int32) (x4 : Int32) (t : zS) : zR := if x2 < 0 then bX12_type_318 g k6 x1 x3 x4 t else zwr t 6 3100 x2 x4 fun t2676 => bX12_type_318 g k6 x1 x3 x4 t2676
def bX12_type_149 (g : GgX12_type) (k6 : Int32 → Int32 → Int32 → zS → zR) (x1 : Int32) (x2 : Int32) (x3 : Int32) (x4 : Int32) (t : zS) : zR := bX12_type_306 g k6 x1 x2 x3 x4 t
def bX12_type_84 (g : GgX12_type) (k6 : Int32 → Int32 → Int32 → zS → zR) (x1 : Int32) (x2 : Int32) (x3 : Int32) (y0 : Int32) (t : zS) : zR := zbd (mX12_node y0 (-1) (-1) t) fun r2677 t2678 => bX12_type_149 g k6 x1 x2 x3 r2677 t2678
def bX12_type_106 (g : GgX12_type) (k6 : Int32 → Int32 → Int32 → zS → zR) (x1 : Int32) (x2 : Int32) (x3 : Int32) (y0 : Int32) (t : zS) : zR := zbd (mX12_node y0 (-1) (-1) t) fun r2680 t2681 => zbd (mX12_isSign 40 t2681) fun r2683 t2684 => zbd (mX12_opens r2683 t2684) fun r2686 t2687 => if r2686 = 0 then some ((-1), t2687) else zbd (g.1  t2687) fun r2689 t2690 => zbd (mX12_closes 41 t2690) fun r2692 t2693 => zwr t2693 7 3100 r2680 r2689 fun t2696 => bX12_type_149 g k6 x1 x2 x3 r2680 t2696
def bX12_type_226 (g : GgX12_type) (t : zS) : zR := zbd (mX12_fails (t 0 6) t) fun r2697 t2698 => some (r2697, t2698)
def bX12_type_246 (g : GgX12_type) (k6 : Int32 → Int32 → Int32 → zS → zR) (x1 : Int32) (x2 : Int32) (x3 : Int32) (y0 : Int32) (t : zS) : zR := zbd (mX12_node y0 (t 0 8) (-1) t) fun r2700 t2701 => zbd (mX12_ask 0 r2700 t2701) fun r2703 t2704 => zbd (mX12_next  t2704) fun r2706 t2707 => bX12_type_306 g k6 x1 x2 x3 r2700 t2707
def bX12_type_211 (g : GgX12_type) (k6 : Int32 → Int32 → Int32 → zS → zR) (x1 : Int32) (x2 : Int32) (x3 : Int32) (x5 : Int32) (t : zS) : zR := if (t 0 5) = 2 then if (t 0 9) < 0 then if x5 = 0 then bX12_type_246 g k6 x1 x2 x3 1 t else bX12_type_246 g k6 x1 x2 x3 2 t else bX12_type_226 g  t else bX12_type_226 g  t
def bX12_type_194 (g : GgX12_type) (k6 : Int32 → Int32 → Int32 → zS → zR) (x1 : Int32) (x2 : Int32) (x3 : Int32) (t : zS) : zR := zbd (mX12_isSign 126 t) fun r2709 t2710 => if r2709 = 0 then bX12_type_211 g k6 x1 x2 x3 r2709 t2710 else zbd (mX12_next  t2710) fun r2712 t2713 => bX12_type_211 g k6 x1 x2 x3 r2709 t2713
def bX12_type_288 (g : GgX12_type) (k6 : Int32 → Int32 → Int32 → zS → zR) (x1 : Int32) (x2 : Int32) (x3 : Int32) (t : zS) : zR := zbd (g.2  t) fun r2715 t2716 => bX12_type_306 g k6 x1 x2 x3 r2715 t2716
def bX12_type_43 (g : GgX12_type) (k6 : Int32 → Int32 → Int32 → zS → zR) (x1 : Int32) (x2 : Int32) (y0 : Int32) (t : zS) : zR := if y0 = 0 then zbd (mX12_isKey 17 t) fun r2718 t2719 => if r2718 = 0 then zbd (mX12_isSign 126 t2719) fun r2721 t2722 => if r2721 = 0 then if (t2722 0 5) = 2 then bX12_type_194 g k6 x1 x2 y0 t2722 else zbd (mX12_isSign 43 t2722) fun r2724 t2725 => if r2724 = 0 then zbd (mX12_isSign 38 t2725) fun r2727 t2728 => if r2727 = 0 then zbd (mX12_fails (t2728 0 6) t2728) fun r2730 t2731 => some (r2730, t2731) else bX12_type_288 g k6 x1 x2 y0 t2728 else bX12_type_288 g k6 x1 x2 y0 t2725 else bX12_type_194 g k6 x1 x2 y0 t2722 else zbd (mX12_next  t2719) fun r2733 t2734 => zbd (mX12_node 0 (-1) (-1) t2734) fun r2736 t2737 => bX12_type_306 g k6 x1 x2 y0 r2736 t2737 else zbd (mX12_isSign 33 t) fun r2739 t2740 => zbd (mX12_next  t2740) fun r2742 t2743 => zbd (mX12_isKey 16 t2743) fun r2745 t2746 => if r2745 = 0 then if r2739 = 0 then bX12_type_106 g k6 x1 x2 y0 6 t2746 else bX12_type_106 g k6 x1 x2 y0 5 t2746 else zbd (mX12_next  t2746) fun r2748 t2749 => if r2739 = 0 then bX12_type_84 g k6 x1 x2 y0 4 t2749 else bX12_type_84 g k6 x1 x2 y0 3 t2749
def bX12_type_38 (g : GgX12_type) (k6 : Int32 → Int32 → Int32 → zS → zR) (x1 : Int32) (x2 : Int32) (t : zS) : zR := bX12_type_43 g k6 x1 x2 1 t
def bX12_type_6 (g : GgX12_type) (k6 : Int32 → Int32 → Int32 → zS → zR) (x1 : Int32) (x2 : Int32) (x3 : Int32) (t : zS) : zR := if x3 = 0 then some (x1, t) else if 0 ≤ (t 0 9) then some (x1, t) else zbd (mX12_isSign 33 t) fun r2751 t2752 => if r2751 = 0 then zbd (mX12_isSign 63 t2752) fun r2754 t2755 => if r2754 = 0 then bX12_type_43 g k6 x1 x2 0 t2755 else bX12_type_38 g k6 x1 x2 t2755 else bX12_type_38 g k6 x1 x2 t2752
def lX12_type_6 (g : GgX12_type) : Nat → Int32 → Int32 → Int32 → zS → zR
  | 0, _, _, _, _ => none
  | fu + 1, x1, x2, x3, t => bX12_type_6 g (lX12_type_6 g fu) x1 x2 x3 t
def mX12_type (g : GgX12_type) (t : zS) : zR := lX12_type_6 g zFU (-1) (-1) 1 t
set_option maxHeartbeats 4000000 in
set_option maxRecDepth 20000 in
theorem wbX12_type_328 {E : zE} {C : zC} {f : Nat} {ro : Int32 × zS} (hf : 6 ≤ f) {g : GgX12_type} (hg : HgX12_type E (f - 1) g) (k6 : Int32 → Int32 → Int32 → zS → zR) (hk6 : ∀ (x1 x2 x3 : Int32) (t : zS), k6 x1 x2 x3 t = some ro → zJ E shM C cX12_type RX12 7 f (some .int) ro t 6 [(0, .ref (za E 0)), (1, .int x1), (2, .int x2), (3, .int x3)] []) (x3 : Int32) (x4 : Int32) (y0 : Int32) (t : zS) (hF : bX12_type_328 g k6 x3 x4 y0 t = some ro) : zJ E shM C cX12_type RX12 7 f (some .int) ro t 328 [(0, .ref (za E 0)), (3, .int x3), (4, .int x4)] [.int y0] := by
  unfold bX12_type_328 at hF
  refine z_istore_n (lv' := [(1, .int y0), (0, .ref (za E 0)), (3, .int x3), (4, .int x4)]) dX12_type_328 rfl (by decide) rfl ?_
  refine z_iload 3 dX12_type_329 rfl ?_
  refine z_istore_n (lv' := [(2, .int x4), (1, .int y0), (0, .ref (za E 0)), (3, .int x3), (4, .int x4)]) dX12_type_331 rfl (by decide) rfl ?_
  refine z_goto (tgt := 6) dX12_type_332 (by decide) ?_
  refine z_sub [2, 1, 0, 3] rfl ?_
  exact hk6 y0 x4 x3 _ hF
set_option maxHeartbeats 4000000 in
set_option maxRecDepth 20000 in
theorem wbX12_type_318 {E : zE} {C : zC} {f : Nat} {ro : Int32 × zS} (hf : 6 ≤ f) {g : GgX12_type} (hg : HgX12_type E (f - 1) g) (k6 : Int32 → Int32 → Int32 → zS → zR) (hk6 : ∀ (x1 x2 x3 : Int32) (t : zS), k6 x1 x2 x3 t = some ro → zJ E shM C cX12_type RX12 7 f (some .int) ro t 6 [(0, .ref (za E 0)), (1, .int x1), (2, .int x2), (3, .int x3)] []) (x1 : Int32) (x3 : Int32) (x4 : Int32) (t : zS) (hF : bX12_type_318 g k6 x1 x3 x4 t = some ro) : zJ E shM C cX12_type RX12 7 f (some .int) ro t 318 [(0, .ref (za E 0)), (1, .int x1), (3, .int x3), (4, .int x4)] [] := by
  unfold bX12_type_318 at hF
  refine z_iload_n 1 dX12_type_318 rfl rfl ?_
  refine z_if_ge (tgt := 327) dX12_type_319 (by decide) (fun hc => ?_) (fun hc => ?_)
  · have hF := zif_t hc hF
    refine z_iload_n 1 dX12_type_327 rfl rfl ?_
    refine z_sub [0, 2, 3] rfl ?_
    exact wbX12_type_328 hf hg k6 hk6 x3 x4 x1 _ hF
  · have hF := zif_f hc hF
    refine z_iload 3 dX12_type_322 rfl ?_
    refine z_goto (tgt := 328) dX12_type_324 (by decide) ?_
    refine z_sub [0, 2, 3] rfl ?_
    exact wbX12_type_328 hf hg k6 hk6 x3 x4 x4 _ hF
set_option maxHeartbeats 4000000 in
set_option maxRecDepth 20000 in
theorem wbX12_type_306 {E : zE} {C : zC} {f : Nat} {ro : Int32 × zS} (hf : 6 ≤ f) {g : GgX12_type} (hg : HgX12_type E (f - 1) g) (k6 : Int32 → Int32 → Int32 → zS → zR) (hk6 : ∀ (x1 x2 x3 : Int32) (t : zS), k6 x1 x2 x3 t = some ro → zJ E shM C cX12_type RX12 7 f (some .int) ro t 6 [(0, .ref (za E 0)), (1, .int x1), (2, .int x2), (3, .int x3)] []) (x1 : Int32) (x2 : Int32) (x3 : Int32) (x4 : Int32) (t : zS) (hF : bX12_type_306 g k6 x1 x2 x3 x4 t = some ro) : zJ E shM C cX12_type RX12 7 f (some .int) ro t 306 [(0, .ref (za E 0)), (1, .int x1), (2, .int x2), (3, .int x3), (4, .int x4)] [] := by
  unfold bX12_type_306 at hF
  refine z_iload_n 2 dX12_type_306 rfl rfl ?_
  refine z_if_lt (tgt := 318) dX12_type_307 (by decide) (fun hc => ?_) (fun hc => ?_)
  · have hF := zif_t hc hF
    refine z_sub [0, 1, 3, 4] rfl ?_
    exact wbX12_type_318 hf hg k6 hk6 x1 x3 x4 _ hF
  · have hF := zif_f hc hF
    refine z_aload_n 0 dX12_type_310 rfl rfl ?_
    refine z_getr fr_RX12_25 dX12_type_311 ?_
    refine z_iload_n 2 dX12_type_314 rfl rfl ?_
    refine z_iload 4 dX12_type_315 rfl ?_
    obtain ⟨hi2675, hF⟩ := zwr_at hF
    refine z_iast (n := 3100) rfl hi2675 dX12_type_317 (fun t2676 et2676 => ?_)
    have hF := hF t2676 et2676
    refine z_sub [0, 1, 3, 4] rfl ?_
    exact wbX12_type_318 hf hg k6 hk6 x1 x3 x4 _ hF
set_option maxHeartbeats 4000000 in
set_option maxRecDepth 20000 in
theorem wbX12_type_149 {E : zE} {C : zC} {f : Nat} {ro : Int32 × zS} (hf : 6 ≤ f) {g : GgX12_type} (hg : HgX12_type E (f - 1) g) (k6 : Int32 → Int32 → Int32 → zS → zR) (hk6 : ∀ (x1 x2 x3 : Int32) (t : zS), k6 x1 x2 x3 t = some ro → zJ E shM C cX12_type RX12 7 f (some .int) ro t 6 [(0, .ref (za E 0)), (1, .int x1), (2, .int x2), (3, .int x3)] []) (x1 : Int32) (x2 : Int32) (x3 : Int32) (x4 : Int32) (t : zS) (hF : bX12_type_149 g k6 x1 x2 x3 x4 t = some ro) : zJ E shM C cX12_type RX12 7 f (some .int) ro t 149 [(0, .ref (za E 0)), (1, .int x1), (2, .int x2), (3, .int x3), (4, .int x4)] [] := by
  unfold bX12_type_149 at hF
  refine z_goto (tgt := 306) dX12_type_149 (by decide) ?_
  exact wbX12_type_306 hf hg k6 hk6 x1 x2 x3 x4 _ hF
set_option maxHeartbeats 4000000 in
set_option maxRecDepth 20000 in
theorem wbX12_type_84 {E : zE} {C : zC} {f : Nat} {ro : Int32 × zS} (hf : 6 ≤ f) {g : GgX12_type} (hg : HgX12_type E (f - 1) g) (k6 : Int32 → Int32 → Int32 → zS → zR) (hk6 : ∀ (x1 x2 x3 : Int32) (t : zS), k6 x1 x2 x3 t = some ro → zJ E shM C cX12_type RX12 7 f (some .int) ro t 6 [(0, .ref (za E 0)), (1, .int x1), (2, .int x2), (3, .int x3)] []) (x1 : Int32) (x2 : Int32) (x3 : Int32) (y0 : Int32) (t : zS) (hF : bX12_type_84 g k6 x1 x2 x3 y0 t = some ro) : zJ E shM C cX12_type RX12 7 f (some .int) ro t 84 [(0, .ref (za E 0)), (1, .int x1), (2, .int x2), (3, .int x3)] [.int y0, .ref (za E 0)] := by
  unfold bX12_type_84 at hF
  refine z_iconst (v := (-1)) dX12_type_84 (by decide) ?_
  refine z_iconst (v := (-1)) dX12_type_85 (by decide) ?_
  obtain ⟨r2677, t2678, hc2679, hF⟩ := zbd_at hF
  refine z_callVi (ctX12_node (E := E) (f := f - 1) (by omega) hc2679) yy_X12_node yv_X12_node ob_M_0 lk_RX12_295 (by omega) rfl rfl (Nat.le_of_ble_eq_true rfl) dX12_type_86 ?_
  refine z_istore (lv' := [(4, .int r2677), (0, .ref (za E 0)), (1, .int x1), (2, .int x2), (3, .int x3)]) dX12_type_89 (by decide) rfl ?_
  refine z_goto (tgt := 149) dX12_type_91 (by decide) ?_
  refine z_sub [1, 2, 3, 4, 0] rfl ?_
  exact wbX12_type_149 hf hg k6 hk6 x1 x2 x3 r2677 _ hF
set_option maxHeartbeats 4000000 in
set_option maxRecDepth 20000 in
theorem wbX12_type_106 {E : zE} {C : zC} {f : Nat} {ro : Int32 × zS} (hf : 6 ≤ f) {g : GgX12_type} (hg : HgX12_type E (f - 1) g) (k6 : Int32 → Int32 → Int32 → zS → zR) (hk6 : ∀ (x1 x2 x3 : Int32) (t : zS), k6 x1 x2 x3 t = some ro → zJ E shM C cX12_type RX12 7 f (some .int) ro t 6 [(0, .ref (za E 0)), (1, .int x1), (2, .int x2), (3, .int x3)] []) (x1 : Int32) (x2 : Int32) (x3 : Int32) (y0 : Int32) (t : zS) (hF : bX12_type_106 g k6 x1 x2 x3 y0 t = some ro) : zJ E shM C cX12_type RX12 7 f (some .int) ro t 106 [(0, .ref (za E 0)), (1, .int x1), (2, .int x2), (3, .int x3)] [.int y0, .ref (za E 0)] := by
  unfold bX12_type_106 at hF
  refine z_iconst (v := (-1)) dX12_type_106 (by decide) ?_
  refine z_iconst (v := (-1)) dX12_type_107 (by decide) ?_
  obtain ⟨r2680, t2681, hc2682, hF⟩ := zbd_at hF
  refine z_callVi (ctX12_node (E := E) (f := f - 1) (by omega) hc2682) yy_X12_node yv_X12_node ob_M_0 lk_RX12_295 (by omega) rfl rfl (Nat.le_of_ble_eq_true rfl) dX12_type_108 ?_
  refine z_istore (lv' := [(4, .int r2680), (0, .ref (za E 0)), (1, .int x1), (2, .int x2), (3, .int x3)]) dX12_type_111 (by decide) rfl ?_
  refine z_aload_n 1 dX12_type_113 rfl rfl ?_
  refine z_aload_n 1 dX12_type_114 rfl rfl ?_
  refine z_bipush (v := 40) dX12_type_115 (by decide) ?_
  obtain ⟨r2683, t2684, hc2685, hF⟩ := zbd_at hF
  refine z_callVi (ctX12_isSign (E := E) (f := f - 1) (by omega) hc2685) yy_X12_isSign yv_X12_isSign ob_M_0 lk_RX12_279 (by omega) rfl rfl (Nat.le_of_ble_eq_true rfl) dX12_type_117 ?_
  obtain ⟨r2686, t2687, hc2688, hF⟩ := zbd_at hF
  refine z_callVi (ctX12_opens (E := E) (f := f - 1) (by omega) hc2688) yy_X12_opens yv_X12_opens ob_M_0 lk_RX12_299 (by omega) rfl rfl (Nat.le_of_ble_eq_true rfl) dX12_type_120 ?_
  refine z_if_ne (tgt := 128) dX12_type_123 (by decide) (fun hc => ?_) (fun hc => ?_)
  · have hF := zif_f hc hF
    refine z_aload_n 1 dX12_type_128 rfl rfl ?_
    obtain ⟨r2689, t2690, hc2691, hF⟩ := zbd_at hF
    refine z_callVi (z_hgX12_type hg hc2691) yy_X12_type yv_X12_type ob_M_0 lk_RX12_302 (by omega) rfl rfl (Nat.le_of_ble_eq_true rfl) dX12_type_129 ?_
    refine z_istore (lv' := [(6, .int r2689), (4, .int r2680), (0, .ref (za E 0)), (1, .int x1), (2, .int x2), (3, .int x3)]) dX12_type_132 (by decide) rfl ?_
    refine z_aload_n 2 dX12_type_134 rfl rfl ?_
    refine z_bipush (v := 41) dX12_type_135 (by decide) ?_
    obtain ⟨r2692, t2693, hc2694, hF⟩ := zbd_at hF
    refine z_callVv (ctX12_closes (E := E) (f := f - 1) (by omega) hc2694) yy_X12_closes yv_X12_closes ob_M_0 lk_RX12_305 (by omega) rfl rfl (Nat.le_of_ble_eq_true rfl) dX12_type_137 ?_
    refine z_aload_n 2 dX12_type_140 rfl rfl ?_
    refine z_getr fr_RX12_28 dX12_type_141 ?_
    refine z_iload 1 dX12_type_144 rfl ?_
    refine z_iload 0 dX12_type_146 rfl ?_
    obtain ⟨hi2695, hF⟩ := zwr_at hF
    refine z_iast (n := 3100) rfl hi2695 dX12_type_148 (fun t2696 et2696 => ?_)
    have hF := hF t2696 et2696
    refine z_sub [2, 3, 4, 5, 1] rfl ?_
    exact wbX12_type_149 hf hg k6 hk6 x1 x2 x3 r2680 _ hF
  · have hF := zif_t hc hF
    refine z_iconst (v := (-1)) dX12_type_126 (by decide) ?_
    exact z_iret hF dX12_type_127
set_option maxHeartbeats 4000000 in
set_option maxRecDepth 20000 in
theorem wbX12_type_226 {E : zE} {C : zC} {f : Nat} {ro : Int32 × zS} (hf : 6 ≤ f) {g : GgX12_type} (hg : HgX12_type E (f - 1) g) (t : zS) (hF : bX12_type_226 g  t = some ro) : zJ E shM C cX12_type RX12 7 f (some .int) ro t 226 [(0, .ref (za E 0))] [] := by
  unfold bX12_type_226 at hF
  refine z_aload_n 0 dX12_type_226 rfl rfl ?_
  refine z_aload_n 0 dX12_type_227 rfl rfl ?_
  refine z_geti fi_RX12_227 dX12_type_228 ?_
  obtain ⟨r2697, t2698, hc2699, hF⟩ := zbd_at hF
  refine z_callVi (ctX12_fails (E := E) (f := f - 1) (by omega) hc2699) yy_X12_fails yv_X12_fails ob_M_0 lk_RX12_270 (by omega) rfl rfl (Nat.le_of_ble_eq_true rfl) dX12_type_231 ?_
  exact z_iret hF dX12_type_234
set_option maxHeartbeats 4000000 in
set_option maxRecDepth 20000 in
theorem wbX12_type_246 {E : zE} {C : zC} {f : Nat} {ro : Int32 × zS} (hf : 6 ≤ f) {g : GgX12_type} (hg : HgX12_type E (f - 1) g) (k6 : Int32 → Int32 → Int32 → zS → zR) (hk6 : ∀ (x1 x2 x3 : Int32) (t : zS), k6 x1 x2 x3 t = some ro → zJ E shM C cX12_type RX12 7 f (some .int) ro t 6 [(0, .ref (za E 0)), (1, .int x1), (2, .int x2), (3, .int x3)] []) (x1 : Int32) (x2 : Int32) (x3 : Int32) (y0 : Int32) (t : zS) (hF : bX12_type_246 g k6 x1 x2 x3 y0 t = some ro) : zJ E shM C cX12_type RX12 7 f (some .int) ro t 246 [(0, .ref (za E 0)), (1, .int x1), (2, .int x2), (3, .int x3)] [.int y0, .ref (za E 0)] := by
  unfold bX12_type_246 at hF
  refine z_aload_n 0 dX12_type_246 rfl rfl ?_
  refine z_geti fi_RX12_240 dX12_type_247 ?_
  refine z_iconst (v := (-1)) dX12_type_250 (by decide) ?_
  obtain ⟨r2700, t2701, hc2702, hF⟩ := zbd_at hF
  refine z_callVi (ctX12_node (E := E) (f := f - 1) (by omega) hc2702) yy_X12_node yv_X12_node ob_M_0 lk_RX12_295 (by omega) rfl rfl (Nat.le_of_ble_eq_true rfl) dX12_type_251 ?_
  refine z_istore (lv' := [(4, .int r2700), (0, .ref (za E 0)), (1, .int x1), (2, .int x2), (3, .int x3)]) dX12_type_254 (by decide) rfl ?_
  refine z_aload_n 1 dX12_type_256 rfl rfl ?_
  refine z_iconst (v := 0) dX12_type_257 (by decide) ?_
  refine z_iload 0 dX12_type_258 rfl ?_
  obtain ⟨r2703, t2704, hc2705, hF⟩ := zbd_at hF
  refine z_callVv (ctX12_ask (E := E) (f := f - 1) (by omega) hc2705) yy_X12_ask yv_X12_ask ob_M_0 lk_RX12_309 (by omega) rfl rfl (Nat.le_of_ble_eq_true rfl) dX12_type_260 ?_
  refine z_aload_n 1 dX12_type_263 rfl rfl ?_
  obtain ⟨r2706, t2707, hc2708, hF⟩ := zbd_at hF
  refine z_callVv (ctX12_next (E := E) (f := f - 1) (by omega) hc2708) yy_X12_next yv_X12_next ob_M_0 lk_RX12_273 (by omega) rfl rfl (Nat.le_of_ble_eq_true rfl) dX12_type_264 ?_
  refine z_goto (tgt := 306) dX12_type_267 (by decide) ?_
  refine z_sub [1, 2, 3, 4, 0] rfl ?_
  exact wbX12_type_306 hf hg k6 hk6 x1 x2 x3 r2700 _ hF
set_option maxHeartbeats 4000000 in
set_option maxRecDepth 20000 in
theorem wbX12_type_211 {E : zE} {C : zC} {f : Nat} {ro : Int32 × zS} (hf : 6 ≤ f) {g : GgX12_type} (hg : HgX12_type E (f - 1) g) (k6 : Int32 → Int32 → Int32 → zS → zR) (hk6 : ∀ (x1 x2 x3 : Int32) (t : zS), k6 x1 x2 x3 t = some ro → zJ E shM C cX12_type RX12 7 f (some .int) ro t 6 [(0, .ref (za E 0)), (1, .int x1), (2, .int x2), (3, .int x3)] []) (x1 : Int32) (x2 : Int32) (x3 : Int32) (x5 : Int32) (t : zS) (hF : bX12_type_211 g k6 x1 x2 x3 x5 t = some ro) : zJ E shM C cX12_type RX12 7 f (some .int) ro t 211 [(0, .ref (za E 0)), (1, .int x1), (2, .int x2), (3, .int x3), (5, .int x5)] [] := by
  unfold bX12_type_211 at hF
  refine z_aload_n 0 dX12_type_211 rfl rfl ?_
  refine z_geti fi_RX12_247 dX12_type_212 ?_
  refine z_iconst (v := 2) dX12_type_215 (by decide) ?_
  refine z_icmp_ne (tgt := 226) dX12_type_216 (by decide) (fun hc => ?_) (fun hc => ?_)
  · have hF := zif_f hc hF
    refine z_sub [0] rfl ?_
    exact wbX12_type_226 hf hg  _ hF
  · have hF := zif_t hc hF
    refine z_aload_n 0 dX12_type_219 rfl rfl ?_
    refine z_geti fi_RX12_267 dX12_type_220 ?_
    refine z_if_lt (tgt := 235) dX12_type_223 (by decide) (fun hc => ?_) (fun hc => ?_)
    · have hF := zif_t hc hF
      refine z_aload_n 0 dX12_type_235 rfl rfl ?_
      refine z_iload 4 dX12_type_236 rfl ?_
      refine z_if_eq (tgt := 245) dX12_type_238 (by decide) (fun hc => ?_) (fun hc => ?_)
      · have hF := zif_t hc hF
        refine z_iconst (v := 1) dX12_type_245 (by decide) ?_
        refine z_sub [0, 1, 2, 3] rfl ?_
        exact wbX12_type_246 hf hg k6 hk6 x1 x2 x3 1 _ hF
      · have hF := zif_f hc hF
        refine z_iconst (v := 2) dX12_type_241 (by decide) ?_
        refine z_goto (tgt := 246) dX12_type_242 (by decide) ?_
        refine z_sub [0, 1, 2, 3] rfl ?_
        exact wbX12_type_246 hf hg k6 hk6 x1 x2 x3 2 _ hF
    · have hF := zif_f hc hF
      refine z_sub [0] rfl ?_
      exact wbX12_type_226 hf hg  _ hF
set_option maxHeartbeats 4000000 in
set_option maxRecDepth 20000 in
theorem wbX12_type_194 {E : zE} {C : zC} {f : Nat} {ro : Int32 × zS} (hf : 6 ≤ f) {g : GgX12_type} (hg : HgX12_type E (f - 1) g) (k6 : Int32 → Int32 → Int32 → zS → zR) (hk6 : ∀ (x1 x2 x3 : Int32) (t : zS), k6 x1 x2 x3 t = some ro → zJ E shM C cX12_type RX12 7 f (some .int) ro t 6 [(0, .ref (za E 0)), (1, .int x1), (2, .int x2), (3, .int x3)] []) (x1 : Int32) (x2 : Int32) (x3 : Int32) (t : zS) (hF : bX12_type_194 g k6 x1 x2 x3 t = some ro) : zJ E shM C cX12_type RX12 7 f (some .int) ro t 194 [(0, .ref (za E 0)), (1, .int x1), (2, .int x2), (3, .int x3)] [] := by
  unfold bX12_type_194 at hF
  refine z_aload_n 0 dX12_type_194 rfl rfl ?_
  refine z_bipush (v := 126) dX12_type_195 (by decide) ?_
  obtain ⟨r2709, t2710, hc2711, hF⟩ := zbd_at hF
  refine z_callVi (ctX12_isSign (E := E) (f := f - 1) (by omega) hc2711) yy_X12_isSign yv_X12_isSign ob_M_0 lk_RX12_279 (by omega) rfl rfl (Nat.le_of_ble_eq_true rfl) dX12_type_197 ?_
  refine z_istore (lv' := [(5, .int r2709), (0, .ref (za E 0)), (1, .int x1), (2, .int x2), (3, .int x3)]) dX12_type_200 (by decide) rfl ?_
  refine z_iload 0 dX12_type_202 rfl ?_
  refine z_if_eq (tgt := 211) dX12_type_204 (by decide) (fun hc => ?_) (fun hc => ?_)
  · have hF := zif_t hc hF
    refine z_sub [1, 2, 3, 4, 0] rfl ?_
    exact wbX12_type_211 hf hg k6 hk6 x1 x2 x3 r2709 _ hF
  · have hF := zif_f hc hF
    refine z_aload_n 1 dX12_type_207 rfl rfl ?_
    obtain ⟨r2712, t2713, hc2714, hF⟩ := zbd_at hF
    refine z_callVv (ctX12_next (E := E) (f := f - 1) (by omega) hc2714) yy_X12_next yv_X12_next ob_M_0 lk_RX12_273 (by omega) rfl rfl (Nat.le_of_ble_eq_true rfl) dX12_type_208 ?_
    refine z_sub [1, 2, 3, 4, 0] rfl ?_
    exact wbX12_type_211 hf hg k6 hk6 x1 x2 x3 r2709 _ hF
set_option maxHeartbeats 4000000 in
set_option maxRecDepth 20000 in
theorem wbX12_type_288 {E : zE} {C : zC} {f : Nat} {ro : Int32 × zS} (hf : 6 ≤ f) {g : GgX12_type} (hg : HgX12_type E (f - 1) g) (k6 : Int32 → Int32 → Int32 → zS → zR) (hk6 : ∀ (x1 x2 x3 : Int32) (t : zS), k6 x1 x2 x3 t = some ro → zJ E shM C cX12_type RX12 7 f (some .int) ro t 6 [(0, .ref (za E 0)), (1, .int x1), (2, .int x2), (3, .int x3)] []) (x1 : Int32) (x2 : Int32) (x3 : Int32) (t : zS) (hF : bX12_type_288 g k6 x1 x2 x3 t = some ro) : zJ E shM C cX12_type RX12 7 f (some .int) ro t 288 [(0, .ref (za E 0)), (1, .int x1), (2, .int x2), (3, .int x3)] [] := by
  unfold bX12_type_288 at hF
  refine z_aload_n 0 dX12_type_288 rfl rfl ?_
  obtain ⟨r2715, t2716, hc2717, hF⟩ := zbd_at hF
  refine z_callVi (z_hgX12_choices hg hc2717) yy_X12_choices yv_X12_choices ob_M_0 lk_RX12_313 (by omega) rfl rfl (Nat.le_of_ble_eq_true rfl) dX12_type_289 ?_
  refine z_istore (lv' := [(4, .int r2715), (0, .ref (za E 0)), (1, .int x1), (2, .int x2), (3, .int x3)]) dX12_type_292 (by decide) rfl ?_
  refine z_goto (tgt := 306) dX12_type_294 (by decide) ?_
  refine z_sub [1, 2, 3, 4, 0] rfl ?_
  exact wbX12_type_306 hf hg k6 hk6 x1 x2 x3 r2715 _ hF
set_option maxHeartbeats 4000000 in
set_option maxRecDepth 20000 in
theorem wbX12_type_43 {E : zE} {C : zC} {f : Nat} {ro : Int32 × zS} (hf : 6 ≤ f) {g : GgX12_type} (hg : HgX12_type E (f - 1) g) (k6 : Int32 → Int32 → Int32 → zS → zR) (hk6 : ∀ (x1 x2 x3 : Int32) (t : zS), k6 x1 x2 x3 t = some ro → zJ E shM C cX12_type RX12 7 f (some .int) ro t 6 [(0, .ref (za E 0)), (1, .int x1), (2, .int x2), (3, .int x3)] []) (x1 : Int32) (x2 : Int32) (y0 : Int32) (t : zS) (hF : bX12_type_43 g k6 x1 x2 y0 t = some ro) : zJ E shM C cX12_type RX12 7 f (some .int) ro t 43 [(0, .ref (za E 0)), (1, .int x1), (2, .int x2)] [.int y0] := by
  unfold bX12_type_43 at hF
  refine z_istore_n (lv' := [(3, .int y0), (0, .ref (za E 0)), (1, .int x1), (2, .int x2)]) dX12_type_43 rfl (by decide) rfl ?_
  refine z_iload_n 0 dX12_type_44 rfl rfl ?_
  refine z_if_eq (tgt := 152) dX12_type_45 (by decide) (fun hc => ?_) (fun hc => ?_)
  · have hF := zif_t hc hF
    refine z_aload_n 1 dX12_type_152 rfl rfl ?_
    refine z_bipush (v := 17) dX12_type_153 (by decide) ?_
    obtain ⟨r2718, t2719, hc2720, hF⟩ := zbd_at hF
    refine z_callVi (ctX12_isKey (E := E) (f := f - 1) (by omega) hc2720) yy_X12_isKey yv_X12_isKey ob_M_0 lk_RX12_292 (by omega) rfl rfl (Nat.le_of_ble_eq_true rfl) dX12_type_155 ?_
    refine z_if_eq (tgt := 177) dX12_type_158 (by decide) (fun hc => ?_) (fun hc => ?_)
    · have hF := zif_t hc hF
      refine z_aload_n 1 dX12_type_177 rfl rfl ?_
      refine z_bipush (v := 126) dX12_type_178 (by decide) ?_
      obtain ⟨r2721, t2722, hc2723, hF⟩ := zbd_at hF
      refine z_callVi (ctX12_isSign (E := E) (f := f - 1) (by omega) hc2723) yy_X12_isSign yv_X12_isSign ob_M_0 lk_RX12_279 (by omega) rfl rfl (Nat.le_of_ble_eq_true rfl) dX12_type_180 ?_
      refine z_if_ne (tgt := 194) dX12_type_183 (by decide) (fun hc => ?_) (fun hc => ?_)
      · have hF := zif_f hc hF
        refine z_sub [1, 2, 3, 0] rfl ?_
        exact wbX12_type_194 hf hg k6 hk6 x1 x2 y0 _ hF
      · have hF := zif_t hc hF
        refine z_aload_n 1 dX12_type_186 rfl rfl ?_
        refine z_geti fi_RX12_247 dX12_type_187 ?_
        refine z_iconst (v := 2) dX12_type_190 (by decide) ?_
        refine z_icmp_ne (tgt := 270) dX12_type_191 (by decide) (fun hc => ?_) (fun hc => ?_)
        · have hF := zif_f hc hF
          refine z_aload_n 1 dX12_type_270 rfl rfl ?_
          refine z_bipush (v := 43) dX12_type_271 (by decide) ?_
          obtain ⟨r2724, t2725, hc2726, hF⟩ := zbd_at hF
          refine z_callVi (ctX12_isSign (E := E) (f := f - 1) (by omega) hc2726) yy_X12_isSign yv_X12_isSign ob_M_0 lk_RX12_279 (by omega) rfl rfl (Nat.le_of_ble_eq_true rfl) dX12_type_273 ?_
          refine z_if_ne (tgt := 288) dX12_type_276 (by decide) (fun hc => ?_) (fun hc => ?_)
          · have hF := zif_f hc hF
            refine z_sub [1, 2, 3, 0] rfl ?_
            exact wbX12_type_288 hf hg k6 hk6 x1 x2 y0 _ hF
          · have hF := zif_t hc hF
            refine z_aload_n 1 dX12_type_279 rfl rfl ?_
            refine z_bipush (v := 38) dX12_type_280 (by decide) ?_
            obtain ⟨r2727, t2728, hc2729, hF⟩ := zbd_at hF
            refine z_callVi (ctX12_isSign (E := E) (f := f - 1) (by omega) hc2729) yy_X12_isSign yv_X12_isSign ob_M_0 lk_RX12_279 (by omega) rfl rfl (Nat.le_of_ble_eq_true rfl) dX12_type_282 ?_
            refine z_if_eq (tgt := 297) dX12_type_285 (by decide) (fun hc => ?_) (fun hc => ?_)
            · have hF := zif_t hc hF
              refine z_aload_n 1 dX12_type_297 rfl rfl ?_
              refine z_aload_n 1 dX12_type_298 rfl rfl ?_
              refine z_geti fi_RX12_227 dX12_type_299 ?_
              obtain ⟨r2730, t2731, hc2732, hF⟩ := zbd_at hF
              refine z_callVi (ctX12_fails (E := E) (f := f - 1) (by omega) hc2732) yy_X12_fails yv_X12_fails ob_M_0 lk_RX12_270 (by omega) rfl rfl (Nat.le_of_ble_eq_true rfl) dX12_type_302 ?_
              exact z_iret hF dX12_type_305
            · have hF := zif_f hc hF
              refine z_sub [1, 2, 3, 0] rfl ?_
              exact wbX12_type_288 hf hg k6 hk6 x1 x2 y0 _ hF
        · have hF := zif_t hc hF
          refine z_sub [1, 2, 3, 0] rfl ?_
          exact wbX12_type_194 hf hg k6 hk6 x1 x2 y0 _ hF
    · have hF := zif_f hc hF
      refine z_aload_n 1 dX12_type_161 rfl rfl ?_
      obtain ⟨r2733, t2734, hc2735, hF⟩ := zbd_at hF
      refine z_callVv (ctX12_next (E := E) (f := f - 1) (by omega) hc2735) yy_X12_next yv_X12_next ob_M_0 lk_RX12_273 (by omega) rfl rfl (Nat.le_of_ble_eq_true rfl) dX12_type_162 ?_
      refine z_aload_n 1 dX12_type_165 rfl rfl ?_
      refine z_iconst (v := 0) dX12_type_166 (by decide) ?_
      refine z_iconst (v := (-1)) dX12_type_167 (by decide) ?_
      refine z_iconst (v := (-1)) dX12_type_168 (by decide) ?_
      obtain ⟨r2736, t2737, hc2738, hF⟩ := zbd_at hF
      refine z_callVi (ctX12_node (E := E) (f := f - 1) (by omega) hc2738) yy_X12_node yv_X12_node ob_M_0 lk_RX12_295 (by omega) rfl rfl (Nat.le_of_ble_eq_true rfl) dX12_type_169 ?_
      refine z_istore (lv' := [(4, .int r2736), (3, .int y0), (0, .ref (za E 0)), (1, .int x1), (2, .int x2)]) dX12_type_172 (by decide) rfl ?_
      refine z_goto (tgt := 306) dX12_type_174 (by decide) ?_
      refine z_sub [2, 3, 4, 1, 0] rfl ?_
      exact wbX12_type_306 hf hg k6 hk6 x1 x2 y0 r2736 _ hF
  · have hF := zif_f hc hF
    refine z_aload_n 1 dX12_type_48 rfl rfl ?_
    refine z_bipush (v := 33) dX12_type_49 (by decide) ?_
    obtain ⟨r2739, t2740, hc2741, hF⟩ := zbd_at hF
    refine z_callVi (ctX12_isSign (E := E) (f := f - 1) (by omega) hc2741) yy_X12_isSign yv_X12_isSign ob_M_0 lk_RX12_279 (by omega) rfl rfl (Nat.le_of_ble_eq_true rfl) dX12_type_51 ?_
    refine z_istore (lv' := [(5, .int r2739), (3, .int y0), (0, .ref (za E 0)), (1, .int x1), (2, .int x2)]) dX12_type_54 (by decide) rfl ?_
    refine z_aload_n 2 dX12_type_56 rfl rfl ?_
    obtain ⟨r2742, t2743, hc2744, hF⟩ := zbd_at hF
    refine z_callVv (ctX12_next (E := E) (f := f - 1) (by omega) hc2744) yy_X12_next yv_X12_next ob_M_0 lk_RX12_273 (by omega) rfl rfl (Nat.le_of_ble_eq_true rfl) dX12_type_57 ?_
    refine z_aload_n 2 dX12_type_60 rfl rfl ?_
    refine z_bipush (v := 16) dX12_type_61 (by decide) ?_
    obtain ⟨r2745, t2746, hc2747, hF⟩ := zbd_at hF
    refine z_callVi (ctX12_isKey (E := E) (f := f - 1) (by omega) hc2747) yy_X12_isKey yv_X12_isKey ob_M_0 lk_RX12_292 (by omega) rfl rfl (Nat.le_of_ble_eq_true rfl) dX12_type_63 ?_
    refine z_if_eq (tgt := 94) dX12_type_66 (by decide) (fun hc => ?_) (fun hc => ?_)
    · have hF := zif_t hc hF
      refine z_aload_n 2 dX12_type_94 rfl rfl ?_
      refine z_iload 0 dX12_type_95 rfl ?_
      refine z_if_eq (tgt := 104) dX12_type_97 (by decide) (fun hc => ?_) (fun hc => ?_)
      · have hF := zif_t hc hF
        refine z_bipush (v := 6) dX12_type_104 (by decide) ?_
        refine z_sub [2, 3, 4, 1] rfl ?_
        exact wbX12_type_106 hf hg k6 hk6 x1 x2 y0 6 _ hF
      · have hF := zif_f hc hF
        refine z_iconst (v := 5) dX12_type_100 (by decide) ?_
        refine z_goto (tgt := 106) dX12_type_101 (by decide) ?_
        refine z_sub [2, 3, 4, 1] rfl ?_
        exact wbX12_type_106 hf hg k6 hk6 x1 x2 y0 5 _ hF
    · have hF := zif_f hc hF
      refine z_aload_n 2 dX12_type_69 rfl rfl ?_
      obtain ⟨r2748, t2749, hc2750, hF⟩ := zbd_at hF
      refine z_callVv (ctX12_next (E := E) (f := f - 1) (by omega) hc2750) yy_X12_next yv_X12_next ob_M_0 lk_RX12_273 (by omega) rfl rfl (Nat.le_of_ble_eq_true rfl) dX12_type_70 ?_
      refine z_aload_n 2 dX12_type_73 rfl rfl ?_
      refine z_iload 0 dX12_type_74 rfl ?_
      refine z_if_eq (tgt := 83) dX12_type_76 (by decide) (fun hc => ?_) (fun hc => ?_)
      · have hF := zif_t hc hF
        refine z_iconst (v := 4) dX12_type_83 (by decide) ?_
        refine z_sub [2, 3, 4, 1] rfl ?_
        exact wbX12_type_84 hf hg k6 hk6 x1 x2 y0 4 _ hF
      · have hF := zif_f hc hF
        refine z_iconst (v := 3) dX12_type_79 (by decide) ?_
        refine z_goto (tgt := 84) dX12_type_80 (by decide) ?_
        refine z_sub [2, 3, 4, 1] rfl ?_
        exact wbX12_type_84 hf hg k6 hk6 x1 x2 y0 3 _ hF
set_option maxHeartbeats 4000000 in
set_option maxRecDepth 20000 in
theorem wbX12_type_38 {E : zE} {C : zC} {f : Nat} {ro : Int32 × zS} (hf : 6 ≤ f) {g : GgX12_type} (hg : HgX12_type E (f - 1) g) (k6 : Int32 → Int32 → Int32 → zS → zR) (hk6 : ∀ (x1 x2 x3 : Int32) (t : zS), k6 x1 x2 x3 t = some ro → zJ E shM C cX12_type RX12 7 f (some .int) ro t 6 [(0, .ref (za E 0)), (1, .int x1), (2, .int x2), (3, .int x3)] []) (x1 : Int32) (x2 : Int32) (t : zS) (hF : bX12_type_38 g k6 x1 x2 t = some ro) : zJ E shM C cX12_type RX12 7 f (some .int) ro t 38 [(0, .ref (za E 0)), (1, .int x1), (2, .int x2)] [] := by
  unfold bX12_type_38 at hF
  refine z_iconst (v := 1) dX12_type_38 (by decide) ?_
  refine z_goto (tgt := 43) dX12_type_39 (by decide) ?_
  exact wbX12_type_43 hf hg k6 hk6 x1 x2 1 _ hF
set_option maxHeartbeats 4000000 in
set_option maxRecDepth 20000 in
theorem wbX12_type_6 {E : zE} {C : zC} {f : Nat} {ro : Int32 × zS} (hf : 6 ≤ f) {g : GgX12_type} (hg : HgX12_type E (f - 1) g) (k6 : Int32 → Int32 → Int32 → zS → zR) (hk6 : ∀ (x1 x2 x3 : Int32) (t : zS), k6 x1 x2 x3 t = some ro → zJ E shM C cX12_type RX12 7 f (some .int) ro t 6 [(0, .ref (za E 0)), (1, .int x1), (2, .int x2), (3, .int x3)] []) (x1 : Int32) (x2 : Int32) (x3 : Int32) (t : zS) (hF : bX12_type_6 g k6 x1 x2 x3 t = some ro) : zJ E shM C cX12_type RX12 7 f (some .int) ro t 6 [(0, .ref (za E 0)), (1, .int x1), (2, .int x2), (3, .int x3)] [] := by
  unfold bX12_type_6 at hF
  refine z_iload_n 3 dX12_type_6 rfl rfl ?_
  refine z_if_eq (tgt := 335) dX12_type_7 (by decide) (fun hc => ?_) (fun hc => ?_)
  · have hF := zif_t hc hF
    refine z_iload_n 1 dX12_type_335 rfl rfl ?_
    exact z_iret hF dX12_type_336
  · have hF := zif_f hc hF
    refine z_aload_n 0 dX12_type_10 rfl rfl ?_
    refine z_geti fi_RX12_267 dX12_type_11 ?_
    refine z_if_ge (tgt := 335) dX12_type_14 (by decide) (fun hc => ?_) (fun hc => ?_)
    · have hF := zif_t hc hF
      refine z_iload_n 1 dX12_type_335 rfl rfl ?_
      exact z_iret hF dX12_type_336
    · have hF := zif_f hc hF
      refine z_iconst (v := (-1)) dX12_type_17 (by decide) ?_
      refine z_istore (lv' := [(4, .int (-1)), (0, .ref (za E 0)), (1, .int x1), (2, .int x2), (3, .int x3)]) dX12_type_18 (by decide) rfl ?_
      refine z_aload_n 1 dX12_type_20 rfl rfl ?_
      refine z_bipush (v := 33) dX12_type_21 (by decide) ?_
      obtain ⟨r2751, t2752, hc2753, hF⟩ := zbd_at hF
      refine z_callVi (ctX12_isSign (E := E) (f := f - 1) (by omega) hc2753) yy_X12_isSign yv_X12_isSign ob_M_0 lk_RX12_279 (by omega) rfl rfl (Nat.le_of_ble_eq_true rfl) dX12_type_23 ?_
      refine z_if_ne (tgt := 38) dX12_type_26 (by decide) (fun hc => ?_) (fun hc => ?_)
      · have hF := zif_f hc hF
        refine z_sub [1, 2, 3] rfl ?_
        exact wbX12_type_38 hf hg k6 hk6 x1 x2 _ hF
      · have hF := zif_t hc hF
        refine z_aload_n 1 dX12_type_29 rfl rfl ?_
        refine z_bipush (v := 63) dX12_type_30 (by decide) ?_
        obtain ⟨r2754, t2755, hc2756, hF⟩ := zbd_at hF
        refine z_callVi (ctX12_isSign (E := E) (f := f - 1) (by omega) hc2756) yy_X12_isSign yv_X12_isSign ob_M_0 lk_RX12_279 (by omega) rfl rfl (Nat.le_of_ble_eq_true rfl) dX12_type_32 ?_
        refine z_if_eq (tgt := 42) dX12_type_35 (by decide) (fun hc => ?_) (fun hc => ?_)
        · have hF := zif_t hc hF
          refine z_iconst (v := 0) dX12_type_42 (by decide) ?_
          refine z_sub [1, 2, 3] rfl ?_
          exact wbX12_type_43 hf hg k6 hk6 x1 x2 0 _ hF
        · have hF := zif_f hc hF
          refine z_sub [1, 2, 3] rfl ?_
          exact wbX12_type_38 hf hg k6 hk6 x1 x2 _ hF
set_option maxHeartbeats 4000000 in
set_option maxRecDepth 20000 in
theorem wlX12_type_6 {E : zE} {C : zC} {f : Nat} {ro : Int32 × zS} (hf : 6 ≤ f) {g : GgX12_type} (hg : HgX12_type E (f - 1) g) (fu : Nat) : ∀ (x1 x2 x3 : Int32) (t : zS), lX12_type_6 g fu x1 x2 x3 t = some ro → zJ E shM C cX12_type RX12 7 f (some .int) ro t 6 [(0, .ref (za E 0)), (1, .int x1), (2, .int x2), (3, .int x3)] [] := by
  induction fu with
  | zero => intro x1 x2 x3 t hF; cases hF
  | succ fu ih => intro x1 x2 x3 t hF; exact wbX12_type_6 hf hg (lX12_type_6 g fu) ih x1 x2 x3 t hF
set_option maxHeartbeats 4000000 in
set_option maxRecDepth 20000 in
theorem ctX12_type {E : zE} {f : Nat} (hf : 6 ≤ f) {g : GgX12_type} (hg : HgX12_type E (f - 1) g) {t : zS} {ro : Int32 × zS} (hF : mX12_type g  t = some ro) : zM E shM f yX12_type cX12_type 7 (some .int) [.ref (za E 0)] t ro := by
  refine zM_of (by decide) (Nat.le_of_ble_eq_true rfl) (fun C => ?_)
  show zJ E shM C cX12_type RX12 7 f (some .int) ro t 0 [(0, .ref (za E 0))] []
  unfold mX12_type at hF
  refine z_iconst (v := (-1)) dX12_type_0 (by decide) ?_
  refine z_istore_n (lv' := [(1, .int (-1)), (0, .ref (za E 0))]) dX12_type_1 rfl (by decide) rfl ?_
  refine z_iconst (v := (-1)) dX12_type_2 (by decide) ?_
  refine z_istore_n (lv' := [(2, .int (-1)), (1, .int (-1)), (0, .ref (za E 0))]) dX12_type_3 rfl (by decide) rfl ?_
  refine z_iconst (v := 1) dX12_type_4 (by decide) ?_
  refine z_istore_n (lv' := [(3, .int 1), (2, .int (-1)), (1, .int (-1)), (0, .ref (za E 0))]) dX12_type_5 rfl (by decide) rfl ?_
  refine z_sub [3, 2, 1, 0] rfl ?_
  exact wlX12_type_6 hf hg zFU (-1) (-1) 1 _ hF
-- SessionHouseModel.choices()I
theorem dX12_choices_0 : decode cX12_choices 0 = .ok (.aload_n 0, 1) := by decide +kernel
theorem dX12_choices_1 : decode cX12_choices 1 = .ok (.aload_n 0, 1) := by decide +kernel
theorem dX12_choices_2 : decode cX12_choices 2 = .ok (.bipush 43, 2) := by decide +kernel
theorem dX12_choices_4 : decode cX12_choices 4 = .ok (.invokevirtual 279, 3) := by decide +kernel
theorem dX12_choices_7 : decode cX12_choices 7 = .ok (.ifCond .eq 8, 3) := by decide +kernel
theorem dX12_choices_10 : decode cX12_choices 10 = .ok (.bipush 7, 2) := by decide +kernel
theorem dX12_choices_12 : decode cX12_choices 12 = .ok (.goto 5, 3) := by decide +kernel
theorem dX12_choices_15 : decode cX12_choices 15 = .ok (.bipush 8, 2) := by decide +kernel
theorem dX12_choices_17 : decode cX12_choices 17 = .ok (.iconst (-1), 1) := by decide +kernel
theorem dX12_choices_18 : decode cX12_choices 18 = .ok (.iconst (-1), 1) := by decide +kernel
theorem dX12_choices_19 : decode cX12_choices 19 = .ok (.invokevirtual 295, 3) := by decide +kernel
theorem dX12_choices_22 : decode cX12_choices 22 = .ok (.istore_n 1, 1) := by decide +kernel
theorem dX12_choices_23 : decode cX12_choices 23 = .ok (.aload_n 0, 1) := by decide +kernel
theorem dX12_choices_24 : decode cX12_choices 24 = .ok (.invokevirtual 273, 3) := by decide +kernel
theorem dX12_choices_27 : decode cX12_choices 27 = .ok (.aload_n 0, 1) := by decide +kernel
theorem dX12_choices_28 : decode cX12_choices 28 = .ok (.aload_n 0, 1) := by decide +kernel
theorem dX12_choices_29 : decode cX12_choices 29 = .ok (.bipush 123, 2) := by decide +kernel
theorem dX12_choices_31 : decode cX12_choices 31 = .ok (.invokevirtual 279, 3) := by decide +kernel
theorem dX12_choices_34 : decode cX12_choices 34 = .ok (.invokevirtual 299, 3) := by decide +kernel
theorem dX12_choices_37 : decode cX12_choices 37 = .ok (.ifCond .ne 5, 3) := by decide +kernel
theorem dX12_choices_40 : decode cX12_choices 40 = .ok (.iconst (-1), 1) := by decide +kernel
theorem dX12_choices_41 : decode cX12_choices 41 = .ok (.ireturn, 1) := by decide +kernel
theorem dX12_choices_42 : decode cX12_choices 42 = .ok (.aload_n 0, 1) := by decide +kernel
theorem dX12_choices_43 : decode cX12_choices 43 = .ok (.getfield 316, 3) := by decide +kernel
theorem dX12_choices_46 : decode cX12_choices 46 = .ok (.istore_n 2, 1) := by decide +kernel
theorem dX12_choices_47 : decode cX12_choices 47 = .ok (.iconst 1, 1) := by decide +kernel
theorem dX12_choices_48 : decode cX12_choices 48 = .ok (.istore_n 3, 1) := by decide +kernel
theorem dX12_choices_49 : decode cX12_choices 49 = .ok (.iload_n 3, 1) := by decide +kernel
theorem dX12_choices_50 : decode cX12_choices 50 = .ok (.ifCond .eq 132, 3) := by decide +kernel
theorem dX12_choices_53 : decode cX12_choices 53 = .ok (.aload_n 0, 1) := by decide +kernel
theorem dX12_choices_54 : decode cX12_choices 54 = .ok (.getfield 247, 3) := by decide +kernel
theorem dX12_choices_57 : decode cX12_choices 57 = .ok (.iconst 2, 1) := by decide +kernel
theorem dX12_choices_58 : decode cX12_choices 58 = .ok (.if_icmp .ne 10, 3) := by decide +kernel
theorem dX12_choices_61 : decode cX12_choices 61 = .ok (.aload_n 0, 1) := by decide +kernel
theorem dX12_choices_62 : decode cX12_choices 62 = .ok (.getfield 267, 3) := by decide +kernel
theorem dX12_choices_65 : decode cX12_choices 65 = .ok (.ifCond .lt 12, 3) := by decide +kernel
theorem dX12_choices_68 : decode cX12_choices 68 = .ok (.aload_n 0, 1) := by decide +kernel
theorem dX12_choices_69 : decode cX12_choices 69 = .ok (.aload_n 0, 1) := by decide +kernel
theorem dX12_choices_70 : decode cX12_choices 70 = .ok (.getfield 227, 3) := by decide +kernel
theorem dX12_choices_73 : decode cX12_choices 73 = .ok (.invokevirtual 270, 3) := by decide +kernel
theorem dX12_choices_76 : decode cX12_choices 76 = .ok (.ireturn, 1) := by decide +kernel
theorem dX12_choices_77 : decode cX12_choices 77 = .ok (.iload_n 2, 1) := by decide +kernel
theorem dX12_choices_78 : decode cX12_choices 78 = .ok (.istore 4, 2) := by decide +kernel
theorem dX12_choices_80 : decode cX12_choices 80 = .ok (.iload 4, 2) := by decide +kernel
theorem dX12_choices_82 : decode cX12_choices 82 = .ok (.aload_n 0, 1) := by decide +kernel
theorem dX12_choices_83 : decode cX12_choices 83 = .ok (.getfield 316, 3) := by decide +kernel
theorem dX12_choices_86 : decode cX12_choices 86 = .ok (.if_icmp .ge 32, 3) := by decide +kernel
theorem dX12_choices_89 : decode cX12_choices 89 = .ok (.aload_n 0, 1) := by decide +kernel
theorem dX12_choices_90 : decode cX12_choices 90 = .ok (.getfield 125, 3) := by decide +kernel
theorem dX12_choices_93 : decode cX12_choices 93 = .ok (.iload 4, 2) := by decide +kernel
theorem dX12_choices_95 : decode cX12_choices 95 = .ok (.iaload, 1) := by decide +kernel
theorem dX12_choices_96 : decode cX12_choices 96 = .ok (.aload_n 0, 1) := by decide +kernel
theorem dX12_choices_97 : decode cX12_choices 97 = .ok (.getfield 240, 3) := by decide +kernel
theorem dX12_choices_100 : decode cX12_choices 100 = .ok (.if_icmp .ne 12, 3) := by decide +kernel
theorem dX12_choices_103 : decode cX12_choices 103 = .ok (.aload_n 0, 1) := by decide +kernel
theorem dX12_choices_104 : decode cX12_choices 104 = .ok (.aload_n 0, 1) := by decide +kernel
theorem dX12_choices_105 : decode cX12_choices 105 = .ok (.getfield 227, 3) := by decide +kernel
theorem dX12_choices_108 : decode cX12_choices 108 = .ok (.invokevirtual 270, 3) := by decide +kernel
theorem dX12_choices_111 : decode cX12_choices 111 = .ok (.ireturn, 1) := by decide +kernel
theorem dX12_choices_112 : decode cX12_choices 112 = .ok (.iinc 4 2, 3) := by decide +kernel
theorem dX12_choices_115 : decode cX12_choices 115 = .ok (.goto (-35), 3) := by decide +kernel
theorem dX12_choices_118 : decode cX12_choices 118 = .ok (.aload_n 0, 1) := by decide +kernel
theorem dX12_choices_119 : decode cX12_choices 119 = .ok (.getfield 125, 3) := by decide +kernel
theorem dX12_choices_122 : decode cX12_choices 122 = .ok (.aload_n 0, 1) := by decide +kernel
theorem dX12_choices_123 : decode cX12_choices 123 = .ok (.getfield 316, 3) := by decide +kernel
theorem dX12_choices_126 : decode cX12_choices 126 = .ok (.aload_n 0, 1) := by decide +kernel
theorem dX12_choices_127 : decode cX12_choices 127 = .ok (.getfield 240, 3) := by decide +kernel
theorem dX12_choices_130 : decode cX12_choices 130 = .ok (.iastore, 1) := by decide +kernel
theorem dX12_choices_131 : decode cX12_choices 131 = .ok (.aload_n 0, 1) := by decide +kernel
theorem dX12_choices_132 : decode cX12_choices 132 = .ok (.dup, 1) := by decide +kernel
theorem dX12_choices_133 : decode cX12_choices 133 = .ok (.getfield 316, 3) := by decide +kernel
theorem dX12_choices_136 : decode cX12_choices 136 = .ok (.iconst 2, 1) := by decide +kernel
theorem dX12_choices_137 : decode cX12_choices 137 = .ok (.iadd, 1) := by decide +kernel
theorem dX12_choices_138 : decode cX12_choices 138 = .ok (.putfield 316, 3) := by decide +kernel
theorem dX12_choices_141 : decode cX12_choices 141 = .ok (.aload_n 0, 1) := by decide +kernel
theorem dX12_choices_142 : decode cX12_choices 142 = .ok (.getfield 316, 3) := by decide +kernel
theorem dX12_choices_145 : decode cX12_choices 145 = .ok (.iconst 1, 1) := by decide +kernel
theorem dX12_choices_146 : decode cX12_choices 146 = .ok (.isub, 1) := by decide +kernel
theorem dX12_choices_147 : decode cX12_choices 147 = .ok (.istore 4, 2) := by decide +kernel
theorem dX12_choices_149 : decode cX12_choices 149 = .ok (.aload_n 0, 1) := by decide +kernel
theorem dX12_choices_150 : decode cX12_choices 150 = .ok (.invokevirtual 273, 3) := by decide +kernel
theorem dX12_choices_153 : decode cX12_choices 153 = .ok (.aload_n 0, 1) := by decide +kernel
theorem dX12_choices_154 : decode cX12_choices 154 = .ok (.getfield 125, 3) := by decide +kernel
theorem dX12_choices_157 : decode cX12_choices 157 = .ok (.iload 4, 2) := by decide +kernel
theorem dX12_choices_159 : decode cX12_choices 159 = .ok (.aload_n 0, 1) := by decide +kernel
theorem dX12_choices_160 : decode cX12_choices 160 = .ok (.invokevirtual 302, 3) := by decide +kernel
theorem dX12_choices_163 : decode cX12_choices 163 = .ok (.iastore, 1) := by decide +kernel
theorem dX12_choices_164 : decode cX12_choices 164 = .ok (.aload_n 0, 1) := by decide +kernel
theorem dX12_choices_165 : decode cX12_choices 165 = .ok (.bipush 59, 2) := by decide +kernel
theorem dX12_choices_167 : decode cX12_choices 167 = .ok (.invokevirtual 279, 3) := by decide +kernel
theorem dX12_choices_170 : decode cX12_choices 170 = .ok (.istore_n 3, 1) := by decide +kernel
theorem dX12_choices_171 : decode cX12_choices 171 = .ok (.iload_n 3, 1) := by decide +kernel
theorem dX12_choices_172 : decode cX12_choices 172 = .ok (.ifCond .eq 7, 3) := by decide +kernel
theorem dX12_choices_175 : decode cX12_choices 175 = .ok (.aload_n 0, 1) := by decide +kernel
theorem dX12_choices_176 : decode cX12_choices 176 = .ok (.invokevirtual 273, 3) := by decide +kernel
theorem dX12_choices_179 : decode cX12_choices 179 = .ok (.goto (-130), 3) := by decide +kernel
theorem dX12_choices_182 : decode cX12_choices 182 = .ok (.aload_n 0, 1) := by decide +kernel
theorem dX12_choices_183 : decode cX12_choices 183 = .ok (.bipush 125, 2) := by decide +kernel
theorem dX12_choices_185 : decode cX12_choices 185 = .ok (.invokevirtual 305, 3) := by decide +kernel
theorem dX12_choices_188 : decode cX12_choices 188 = .ok (.aload_n 0, 1) := by decide +kernel
theorem dX12_choices_189 : decode cX12_choices 189 = .ok (.getfield 28, 3) := by decide +kernel
theorem dX12_choices_192 : decode cX12_choices 192 = .ok (.iload_n 1, 1) := by decide +kernel
theorem dX12_choices_193 : decode cX12_choices 193 = .ok (.aload_n 0, 1) := by decide +kernel
theorem dX12_choices_194 : decode cX12_choices 194 = .ok (.getfield 319, 3) := by decide +kernel
theorem dX12_choices_197 : decode cX12_choices 197 = .ok (.iastore, 1) := by decide +kernel
theorem dX12_choices_198 : decode cX12_choices 198 = .ok (.aload_n 0, 1) := by decide +kernel
theorem dX12_choices_199 : decode cX12_choices 199 = .ok (.getfield 31, 3) := by decide +kernel
theorem dX12_choices_202 : decode cX12_choices 202 = .ok (.iload_n 1, 1) := by decide +kernel
theorem dX12_choices_203 : decode cX12_choices 203 = .ok (.aload_n 0, 1) := by decide +kernel
theorem dX12_choices_204 : decode cX12_choices 204 = .ok (.getfield 316, 3) := by decide +kernel
theorem dX12_choices_207 : decode cX12_choices 207 = .ok (.iload_n 2, 1) := by decide +kernel
theorem dX12_choices_208 : decode cX12_choices 208 = .ok (.isub, 1) := by decide +kernel
theorem dX12_choices_209 : decode cX12_choices 209 = .ok (.iconst 2, 1) := by decide +kernel
theorem dX12_choices_210 : decode cX12_choices 210 = .ok (.idiv, 1) := by decide +kernel
theorem dX12_choices_211 : decode cX12_choices 211 = .ok (.iastore, 1) := by decide +kernel
theorem dX12_choices_212 : decode cX12_choices 212 = .ok (.iload_n 2, 1) := by decide +kernel
theorem dX12_choices_213 : decode cX12_choices 213 = .ok (.istore 4, 2) := by decide +kernel
theorem dX12_choices_215 : decode cX12_choices 215 = .ok (.iload 4, 2) := by decide +kernel
theorem dX12_choices_217 : decode cX12_choices 217 = .ok (.aload_n 0, 1) := by decide +kernel
theorem dX12_choices_218 : decode cX12_choices 218 = .ok (.getfield 316, 3) := by decide +kernel
theorem dX12_choices_221 : decode cX12_choices 221 = .ok (.if_icmp .ge 53, 3) := by decide +kernel
theorem dX12_choices_224 : decode cX12_choices 224 = .ok (.aload_n 0, 1) := by decide +kernel
theorem dX12_choices_225 : decode cX12_choices 225 = .ok (.getfield 34, 3) := by decide +kernel
theorem dX12_choices_228 : decode cX12_choices 228 = .ok (.aload_n 0, 1) := by decide +kernel
theorem dX12_choices_229 : decode cX12_choices 229 = .ok (.getfield 319, 3) := by decide +kernel
theorem dX12_choices_232 : decode cX12_choices 232 = .ok (.aload_n 0, 1) := by decide +kernel
theorem dX12_choices_233 : decode cX12_choices 233 = .ok (.getfield 125, 3) := by decide +kernel
theorem dX12_choices_236 : decode cX12_choices 236 = .ok (.iload 4, 2) := by decide +kernel
theorem dX12_choices_238 : decode cX12_choices 238 = .ok (.iaload, 1) := by decide +kernel
theorem dX12_choices_239 : decode cX12_choices 239 = .ok (.iastore, 1) := by decide +kernel
theorem dX12_choices_240 : decode cX12_choices 240 = .ok (.aload_n 0, 1) := by decide +kernel
theorem dX12_choices_241 : decode cX12_choices 241 = .ok (.getfield 37, 3) := by decide +kernel
theorem dX12_choices_244 : decode cX12_choices 244 = .ok (.aload_n 0, 1) := by decide +kernel
theorem dX12_choices_245 : decode cX12_choices 245 = .ok (.getfield 319, 3) := by decide +kernel
theorem dX12_choices_248 : decode cX12_choices 248 = .ok (.aload_n 0, 1) := by decide +kernel
theorem dX12_choices_249 : decode cX12_choices 249 = .ok (.getfield 125, 3) := by decide +kernel
theorem dX12_choices_252 : decode cX12_choices 252 = .ok (.iload 4, 2) := by decide +kernel
theorem dX12_choices_254 : decode cX12_choices 254 = .ok (.iconst 1, 1) := by decide +kernel
theorem dX12_choices_255 : decode cX12_choices 255 = .ok (.iadd, 1) := by decide +kernel
theorem dX12_choices_256 : decode cX12_choices 256 = .ok (.iaload, 1) := by decide +kernel
theorem dX12_choices_257 : decode cX12_choices 257 = .ok (.iastore, 1) := by decide +kernel
theorem dX12_choices_258 : decode cX12_choices 258 = .ok (.aload_n 0, 1) := by decide +kernel
theorem dX12_choices_259 : decode cX12_choices 259 = .ok (.dup, 1) := by decide +kernel
theorem dX12_choices_260 : decode cX12_choices 260 = .ok (.getfield 319, 3) := by decide +kernel
theorem dX12_choices_263 : decode cX12_choices 263 = .ok (.iconst 1, 1) := by decide +kernel
theorem dX12_choices_264 : decode cX12_choices 264 = .ok (.iadd, 1) := by decide +kernel
theorem dX12_choices_265 : decode cX12_choices 265 = .ok (.putfield 319, 3) := by decide +kernel
theorem dX12_choices_268 : decode cX12_choices 268 = .ok (.iinc 4 2, 3) := by decide +kernel
theorem dX12_choices_271 : decode cX12_choices 271 = .ok (.goto (-56), 3) := by decide +kernel
theorem dX12_choices_274 : decode cX12_choices 274 = .ok (.aload_n 0, 1) := by decide +kernel
theorem dX12_choices_275 : decode cX12_choices 275 = .ok (.iload_n 2, 1) := by decide +kernel
theorem dX12_choices_276 : decode cX12_choices 276 = .ok (.putfield 316, 3) := by decide +kernel
theorem dX12_choices_279 : decode cX12_choices 279 = .ok (.iload_n 1, 1) := by decide +kernel
theorem dX12_choices_280 : decode cX12_choices 280 = .ok (.ireturn, 1) := by decide +kernel
def bX12_choices_68 (g : GgX12_type) (t : zS) : zR := zbd (mX12_fails (t 0 6) t) fun r2757 t2758 => some (r2757, t2758)
def bX12_choices_179 (g : GgX12_type) (k49 : Int32 → Int32 → Int32 → zS → zR) (x1 : Int32) (x2 : Int32) (x3 : Int32) (t : zS) : zR := k49 x1 x2 x3 t
def bX12_choices_80 (g : GgX12_type) (k49 : Int32 → Int32 → Int32 → zS → zR) (k80 : Int32 → Int32 → Int32 → zS → zR) (x1 : Int32) (x2 : Int32) (x4 : Int32) (t : zS) : zR := if (t 0 59) ≤ x4 then zwr t 39 4000 (t 0 59) (t 0 8) fun t2761 => zpt t2761 0 59 ((t2761 0 59) + 2) fun t2762 => zlet ((t2762 0 59) - 1) fun v2763 => zbd (mX12_next  t2762) fun r2764 t2765 => zbd (g.1  t2765) fun r2767 t2768 => zwr t2768 39 4000 v2763 r2767 fun t2771 => zbd (mX12_isSign 59 t2771) fun r2772 t2773 => if r2772 = 0 then bX12_choices_179 g k49 x1 x2 r2772 t2773 else zbd (mX12_next  t2773) fun r2775 t2776 => bX12_choices_179 g k49 x1 x2 r2772 t2776 else zrd t 39 4000 x4 fun v2778 => if v2778 = (t 0 8) then zbd (mX12_fails (t 0 6) t) fun r2781 t2782 => some (r2781, t2782) else zlet (x4 + 2) fun v2780 => k80 x1 x2 v2780 t
def lX12_choices_80 (g : GgX12_type) (k49 : Int32 → Int32 → Int32 → zS → zR) : Nat → Int32 → Int32 → Int32 → zS → zR
  | 0, _, _, _, _ => none
  | fu + 1, x1, x2, x4, t => bX12_choices_80 g k49 (lX12_choices_80 g k49 fu) x1 x2 x4 t
def bX12_choices_215 (g : GgX12_type) (k215 : Int32 → Int32 → Int32 → zS → zR) (x1 : Int32) (x2 : Int32) (x4 : Int32) (t : zS) : zR := if (t 0 59) ≤ x4 then zpt t 0 59 x2 fun t2784 => some (x1, t2784) else zrd t 39 4000 x4 fun v2785 => zwr t 9 1600 (t 0 19) v2785 fun t2788 => zrd t2788 39 4000 (x4 + 1) fun v2789 => zwr t2788 10 1600 (t2788 0 19) v2789 fun t2792 => zpt t2792 0 19 ((t2792 0 19) + 1) fun t2793 => zlet (x4 + 2) fun v2794 => k215 x1 x2 v2794 t2793
def lX12_choices_215 (g : GgX12_type) : Nat → Int32 → Int32 → Int32 → zS → zR
  | 0, _, _, _, _ => none
  | fu + 1, x1, x2, x4, t => bX12_choices_215 g (lX12_choices_215 g fu) x1 x2 x4 t
def bX12_choices_49 (g : GgX12_type) (k49 : Int32 → Int32 → Int32 → zS → zR) (x1 : Int32) (x2 : Int32) (x3 : Int32) (t : zS) : zR := if x3 = 0 then zbd (mX12_closes 125 t) fun r2795 t2796 => zwr t2796 7 3100 x1 (t2796 0 19) fun t2799 => zwr t2799 8 3100 x1 (((t2799 0 59) - x2) / 2) fun t2801 => lX12_choices_215 g zFU x1 x2 x2 t2801 else if (t 0 5) = 2 then if (t 0 9) < 0 then lX12_choices_80 g k49 zFU x1 x2 x2 t else bX12_choices_68 g  t else bX12_choices_68 g  t
def lX12_choices_49 (g : GgX12_type) : Nat → Int32 → Int32 → Int32 → zS → zR
  | 0, _, _, _, _ => none
  | fu + 1, x1, x2, x3, t => bX12_choices_49 g (lX12_choices_49 g fu) x1 x2 x3 t
def bX12_choices_17 (g : GgX12_type) (y0 : Int32) (t : zS) : zR := zbd (mX12_node y0 (-1) (-1) t) fun r2802 t2803 => zbd (mX12_next  t2803) fun r2805 t2806 => zbd (mX12_isSign 123 t2806) fun r2808 t2809 => zbd (mX12_opens r2808 t2809) fun r2811 t2812 => if r2811 = 0 then some ((-1), t2812) else zlet (t2812 0 59) fun v2814 => lX12_choices_49 g zFU r2802 v2814 1 t2812
def mX12_choices (g : GgX12_type) (t : zS) : zR := zbd (mX12_isSign 43 t) fun r2815 t2816 => if r2815 = 0 then bX12_choices_17 g 8 t2816 else bX12_choices_17 g 7 t2816
set_option maxHeartbeats 4000000 in
set_option maxRecDepth 20000 in
theorem wbX12_choices_68 {E : zE} {C : zC} {f : Nat} {ro : Int32 × zS} (hf : 6 ≤ f) {g : GgX12_type} (hg : HgX12_type E (f - 1) g) (t : zS) (hF : bX12_choices_68 g  t = some ro) : zJ E shM C cX12_choices RX12 5 f (some .int) ro t 68 [(0, .ref (za E 0))] [] := by
  unfold bX12_choices_68 at hF
  refine z_aload_n 0 dX12_choices_68 rfl rfl ?_
  refine z_aload_n 0 dX12_choices_69 rfl rfl ?_
  refine z_geti fi_RX12_227 dX12_choices_70 ?_
  obtain ⟨r2757, t2758, hc2759, hF⟩ := zbd_at hF
  refine z_callVi (ctX12_fails (E := E) (f := f - 1) (by omega) hc2759) yy_X12_fails yv_X12_fails ob_M_0 lk_RX12_270 (by omega) rfl rfl (Nat.le_of_ble_eq_true rfl) dX12_choices_73 ?_
  exact z_iret hF dX12_choices_76
set_option maxHeartbeats 4000000 in
set_option maxRecDepth 20000 in
theorem wbX12_choices_179 {E : zE} {C : zC} {f : Nat} {ro : Int32 × zS} (hf : 6 ≤ f) {g : GgX12_type} (hg : HgX12_type E (f - 1) g) (k49 : Int32 → Int32 → Int32 → zS → zR) (hk49 : ∀ (x1 x2 x3 : Int32) (t : zS), k49 x1 x2 x3 t = some ro → zJ E shM C cX12_choices RX12 5 f (some .int) ro t 49 [(0, .ref (za E 0)), (1, .int x1), (2, .int x2), (3, .int x3)] []) (x1 : Int32) (x2 : Int32) (x3 : Int32) (t : zS) (hF : bX12_choices_179 g k49 x1 x2 x3 t = some ro) : zJ E shM C cX12_choices RX12 5 f (some .int) ro t 179 [(0, .ref (za E 0)), (1, .int x1), (2, .int x2), (3, .int x3)] [] := by
  unfold bX12_choices_179 at hF
  refine z_goto (tgt := 49) dX12_choices_179 (by decide) ?_
  exact hk49 x1 x2 x3 _ hF
set_option maxHeartbeats 4000000 in
set_option maxRecDepth 20000 in
theorem wbX12_choices_80 {E : zE} {C : zC} {f : Nat} {ro : Int32 × zS} (hf : 6 ≤ f) {g : GgX12_type} (hg : HgX12_type E (f - 1) g) (k49 : Int32 → Int32 → Int32 → zS → zR) (hk49 : ∀ (x1 x2 x3 : Int32) (t : zS), k49 x1 x2 x3 t = some ro → zJ E shM C cX12_choices RX12 5 f (some .int) ro t 49 [(0, .ref (za E 0)), (1, .int x1), (2, .int x2), (3, .int x3)] []) (k80 : Int32 → Int32 → Int32 → zS → zR) (hk80 : ∀ (x1 x2 x4 : Int32) (t : zS), k80 x1 x2 x4 t = some ro → zJ E shM C cX12_choices RX12 5 f (some .int) ro t 80 [(0, .ref (za E 0)), (1, .int x1), (2, .int x2), (4, .int x4)] []) (x1 : Int32) (x2 : Int32) (x4 : Int32) (t : zS) (hF : bX12_choices_80 g k49 k80 x1 x2 x4 t = some ro) : zJ E shM C cX12_choices RX12 5 f (some .int) ro t 80 [(0, .ref (za E 0)), (1, .int x1), (2, .int x2), (4, .int x4)] [] := by
  unfold bX12_choices_80 at hF
  refine z_iload 3 dX12_choices_80 rfl ?_
  refine z_aload_n 0 dX12_choices_82 rfl rfl ?_
  refine z_geti fi_RX12_316 dX12_choices_83 ?_
  refine z_icmp_ge (tgt := 118) dX12_choices_86 (by decide) (fun hc => ?_) (fun hc => ?_)
  · have hF := zif_t hc hF
    refine z_aload_n 0 dX12_choices_118 rfl rfl ?_
    refine z_getr fr_RX12_125 dX12_choices_119 ?_
    refine z_aload_n 0 dX12_choices_122 rfl rfl ?_
    refine z_geti fi_RX12_316 dX12_choices_123 ?_
    refine z_aload_n 0 dX12_choices_126 rfl rfl ?_
    refine z_geti fi_RX12_240 dX12_choices_127 ?_
    obtain ⟨hi2760, hF⟩ := zwr_at hF
    refine z_iast (n := 4000) rfl hi2760 dX12_choices_130 (fun t2761 et2761 => ?_)
    have hF := hF t2761 et2761
    refine z_aload_n 0 dX12_choices_131 rfl rfl ?_
    refine z_dup dX12_choices_132 rfl ?_
    refine z_geti fi_RX12_316 dX12_choices_133 ?_
    refine z_iconst (v := 2) dX12_choices_136 (by decide) ?_
    refine z_iadd dX12_choices_137 ?_
    refine z_puti fw_RX12_316 dX12_choices_138 (fun t2762 et2762 => ?_)
    have hF := zpt_at hF t2762 et2762
    refine z_aload_n 0 dX12_choices_141 rfl rfl ?_
    refine z_geti fi_RX12_316 dX12_choices_142 ?_
    refine z_iconst (v := 1) dX12_choices_145 (by decide) ?_
    refine z_isub dX12_choices_146 ?_
    refine z_topi (fun v2763 ev2763 => ?_)
    have hF := zlet_at ev2763 hF
    refine z_istore (lv' := [(4, .int v2763), (0, .ref (za E 0)), (1, .int x1), (2, .int x2)]) dX12_choices_147 (by decide) rfl ?_
    refine z_aload_n 1 dX12_choices_149 rfl rfl ?_
    obtain ⟨r2764, t2765, hc2766, hF⟩ := zbd_at hF
    refine z_callVv (ctX12_next (E := E) (f := f - 1) (by omega) hc2766) yy_X12_next yv_X12_next ob_M_0 lk_RX12_273 (by omega) rfl rfl (Nat.le_of_ble_eq_true rfl) dX12_choices_150 ?_
    refine z_aload_n 1 dX12_choices_153 rfl rfl ?_
    refine z_getr fr_RX12_125 dX12_choices_154 ?_
    refine z_iload 0 dX12_choices_157 rfl ?_
    refine z_aload_n 1 dX12_choices_159 rfl rfl ?_
    obtain ⟨r2767, t2768, hc2769, hF⟩ := zbd_at hF
    refine z_callVi (z_hgX12_type hg hc2769) yy_X12_type yv_X12_type ob_M_0 lk_RX12_302 (by omega) rfl rfl (Nat.le_of_ble_eq_true rfl) dX12_choices_160 ?_
    obtain ⟨hi2770, hF⟩ := zwr_at hF
    refine z_iast (n := 4000) rfl hi2770 dX12_choices_163 (fun t2771 et2771 => ?_)
    have hF := hF t2771 et2771
    refine z_aload_n 1 dX12_choices_164 rfl rfl ?_
    refine z_bipush (v := 59) dX12_choices_165 (by decide) ?_
    obtain ⟨r2772, t2773, hc2774, hF⟩ := zbd_at hF
    refine z_callVi (ctX12_isSign (E := E) (f := f - 1) (by omega) hc2774) yy_X12_isSign yv_X12_isSign ob_M_0 lk_RX12_279 (by omega) rfl rfl (Nat.le_of_ble_eq_true rfl) dX12_choices_167 ?_
    refine z_istore_n (lv' := [(3, .int r2772), (4, .int v2763), (0, .ref (za E 0)), (1, .int x1), (2, .int x2)]) dX12_choices_170 rfl (by decide) rfl ?_
    refine z_iload_n 0 dX12_choices_171 rfl rfl ?_
    refine z_if_eq (tgt := 179) dX12_choices_172 (by decide) (fun hc => ?_) (fun hc => ?_)
    · have hF := zif_t hc hF
      refine z_sub [2, 3, 4, 0] rfl ?_
      exact wbX12_choices_179 hf hg k49 hk49 x1 x2 r2772 _ hF
    · have hF := zif_f hc hF
      refine z_aload_n 2 dX12_choices_175 rfl rfl ?_
      obtain ⟨r2775, t2776, hc2777, hF⟩ := zbd_at hF
      refine z_callVv (ctX12_next (E := E) (f := f - 1) (by omega) hc2777) yy_X12_next yv_X12_next ob_M_0 lk_RX12_273 (by omega) rfl rfl (Nat.le_of_ble_eq_true rfl) dX12_choices_176 ?_
      refine z_sub [2, 3, 4, 0] rfl ?_
      exact wbX12_choices_179 hf hg k49 hk49 x1 x2 r2772 _ hF
  · have hF := zif_f hc hF
    refine z_aload_n 0 dX12_choices_89 rfl rfl ?_
    refine z_getr fr_RX12_125 dX12_choices_90 ?_
    refine z_iload 3 dX12_choices_93 rfl ?_
    obtain ⟨hi2779, hF⟩ := zrd_at hF
    refine z_iald (n := 4000) rfl hi2779 dX12_choices_95 ?_
    generalize t 39 (Int32.toNatClampNeg x4) = v2778 at hF ⊢
    refine z_aload_n 0 dX12_choices_96 rfl rfl ?_
    refine z_geti fi_RX12_240 dX12_choices_97 ?_
    refine z_icmp_ne (tgt := 112) dX12_choices_100 (by decide) (fun hc => ?_) (fun hc => ?_)
    · have hF := zif_f hc hF
      obtain ⟨v2780, ev2780⟩ : ∃ y : Int32, y = (x4 + 2) := ⟨_, rfl⟩
      have hF := zlet_at ev2780 hF
      refine z_iinc (v := v2780) (lv' := [(4, .int v2780), (0, .ref (za E 0)), (1, .int x1), (2, .int x2)]) (k := 3) dX12_choices_112 rfl (by rw [ev2780]; rfl) (by decide) rfl ?_
      refine z_goto (tgt := 80) dX12_choices_115 (by decide) ?_
      refine z_sub [1, 2, 3, 0] rfl ?_
      exact hk80 x1 x2 v2780 _ hF
    · have hF := zif_t hc hF
      refine z_aload_n 0 dX12_choices_103 rfl rfl ?_
      refine z_aload_n 0 dX12_choices_104 rfl rfl ?_
      refine z_geti fi_RX12_227 dX12_choices_105 ?_
      obtain ⟨r2781, t2782, hc2783, hF⟩ := zbd_at hF
      refine z_callVi (ctX12_fails (E := E) (f := f - 1) (by omega) hc2783) yy_X12_fails yv_X12_fails ob_M_0 lk_RX12_270 (by omega) rfl rfl (Nat.le_of_ble_eq_true rfl) dX12_choices_108 ?_
      exact z_iret hF dX12_choices_111
set_option maxHeartbeats 4000000 in
set_option maxRecDepth 20000 in
theorem wlX12_choices_80 {E : zE} {C : zC} {f : Nat} {ro : Int32 × zS} (hf : 6 ≤ f) {g : GgX12_type} (hg : HgX12_type E (f - 1) g) (k49 : Int32 → Int32 → Int32 → zS → zR) (hk49 : ∀ (x1 x2 x3 : Int32) (t : zS), k49 x1 x2 x3 t = some ro → zJ E shM C cX12_choices RX12 5 f (some .int) ro t 49 [(0, .ref (za E 0)), (1, .int x1), (2, .int x2), (3, .int x3)] []) (fu : Nat) : ∀ (x1 x2 x4 : Int32) (t : zS), lX12_choices_80 g k49 fu x1 x2 x4 t = some ro → zJ E shM C cX12_choices RX12 5 f (some .int) ro t 80 [(0, .ref (za E 0)), (1, .int x1), (2, .int x2), (4, .int x4)] [] := by
  induction fu with
  | zero => intro x1 x2 x4 t hF; cases hF
  | succ fu ih => intro x1 x2 x4 t hF; exact wbX12_choices_80 hf hg k49 hk49 (lX12_choices_80 g k49 fu) ih x1 x2 x4 t hF
set_option maxHeartbeats 4000000 in
set_option maxRecDepth 20000 in
theorem wbX12_choices_215 {E : zE} {C : zC} {f : Nat} {ro : Int32 × zS} (hf : 6 ≤ f) {g : GgX12_type} (hg : HgX12_type E (f - 1) g) (k215 : Int32 → Int32 → Int32 → zS → zR) (hk215 : ∀ (x1 x2 x4 : Int32) (t : zS), k215 x1 x2 x4 t = some ro → zJ E shM C cX12_choices RX12 5 f (some .int) ro t 215 [(0, .ref (za E 0)), (1, .int x1), (2, .int x2), (4, .int x4)] []) (x1 : Int32) (x2 : Int32) (x4 : Int32) (t : zS) (hF : bX12_choices_215 g k215 x1 x2 x4 t = some ro) : zJ E shM C cX12_choices RX12 5 f (some .int) ro t 215 [(0, .ref (za E 0)), (1, .int x1), (2, .int x2), (4, .int x4)] [] := by
  unfold bX12_choices_215 at hF
  refine z_iload 3 dX12_choices_215 rfl ?_
  refine z_aload_n 0 dX12_choices_217 rfl rfl ?_
  refine z_geti fi_RX12_316 dX12_choices_218 ?_
  refine z_icmp_ge (tgt := 274) dX12_choices_221 (by decide) (fun hc => ?_) (fun hc => ?_)
  · have hF := zif_t hc hF
    refine z_aload_n 0 dX12_choices_274 rfl rfl ?_
    refine z_iload_n 2 dX12_choices_275 rfl rfl ?_
    refine z_puti fw_RX12_316 dX12_choices_276 (fun t2784 et2784 => ?_)
    have hF := zpt_at hF t2784 et2784
    refine z_iload_n 1 dX12_choices_279 rfl rfl ?_
    exact z_iret hF dX12_choices_280
  · have hF := zif_f hc hF
    refine z_aload_n 0 dX12_choices_224 rfl rfl ?_
    refine z_getr fr_RX12_34 dX12_choices_225 ?_
    refine z_aload_n 0 dX12_choices_228 rfl rfl ?_
    refine z_geti fi_RX12_319 dX12_choices_229 ?_
    refine z_aload_n 0 dX12_choices_232 rfl rfl ?_
    refine z_getr fr_RX12_125 dX12_choices_233 ?_
    refine z_iload 3 dX12_choices_236 rfl ?_
    obtain ⟨hi2786, hF⟩ := zrd_at hF
    refine z_iald (n := 4000) rfl hi2786 dX12_choices_238 ?_
    generalize t 39 (Int32.toNatClampNeg x4) = v2785 at hF ⊢
    obtain ⟨hi2787, hF⟩ := zwr_at hF
    refine z_iast (n := 1600) rfl hi2787 dX12_choices_239 (fun t2788 et2788 => ?_)
    have hF := hF t2788 et2788
    refine z_aload_n 0 dX12_choices_240 rfl rfl ?_
    refine z_getr fr_RX12_37 dX12_choices_241 ?_
    refine z_aload_n 0 dX12_choices_244 rfl rfl ?_
    refine z_geti fi_RX12_319 dX12_choices_245 ?_
    refine z_aload_n 0 dX12_choices_248 rfl rfl ?_
    refine z_getr fr_RX12_125 dX12_choices_249 ?_
    refine z_iload 3 dX12_choices_252 rfl ?_
    refine z_iconst (v := 1) dX12_choices_254 (by decide) ?_
    refine z_iadd dX12_choices_255 ?_
    obtain ⟨hi2790, hF⟩ := zrd_at hF
    refine z_iald (n := 4000) rfl hi2790 dX12_choices_256 ?_
    generalize t2788 39 (Int32.toNatClampNeg (x4 + 1)) = v2789 at hF ⊢
    obtain ⟨hi2791, hF⟩ := zwr_at hF
    refine z_iast (n := 1600) rfl hi2791 dX12_choices_257 (fun t2792 et2792 => ?_)
    have hF := hF t2792 et2792
    refine z_aload_n 0 dX12_choices_258 rfl rfl ?_
    refine z_dup dX12_choices_259 rfl ?_
    refine z_geti fi_RX12_319 dX12_choices_260 ?_
    refine z_iconst (v := 1) dX12_choices_263 (by decide) ?_
    refine z_iadd dX12_choices_264 ?_
    refine z_puti fw_RX12_319 dX12_choices_265 (fun t2793 et2793 => ?_)
    have hF := zpt_at hF t2793 et2793
    obtain ⟨v2794, ev2794⟩ : ∃ y : Int32, y = (x4 + 2) := ⟨_, rfl⟩
    have hF := zlet_at ev2794 hF
    refine z_iinc (v := v2794) (lv' := [(4, .int v2794), (0, .ref (za E 0)), (1, .int x1), (2, .int x2)]) (k := 3) dX12_choices_268 rfl (by rw [ev2794]; rfl) (by decide) rfl ?_
    refine z_goto (tgt := 215) dX12_choices_271 (by decide) ?_
    refine z_sub [1, 2, 3, 0] rfl ?_
    exact hk215 x1 x2 v2794 _ hF
set_option maxHeartbeats 4000000 in
set_option maxRecDepth 20000 in
theorem wlX12_choices_215 {E : zE} {C : zC} {f : Nat} {ro : Int32 × zS} (hf : 6 ≤ f) {g : GgX12_type} (hg : HgX12_type E (f - 1) g) (fu : Nat) : ∀ (x1 x2 x4 : Int32) (t : zS), lX12_choices_215 g fu x1 x2 x4 t = some ro → zJ E shM C cX12_choices RX12 5 f (some .int) ro t 215 [(0, .ref (za E 0)), (1, .int x1), (2, .int x2), (4, .int x4)] [] := by
  induction fu with
  | zero => intro x1 x2 x4 t hF; cases hF
  | succ fu ih => intro x1 x2 x4 t hF; exact wbX12_choices_215 hf hg (lX12_choices_215 g fu) ih x1 x2 x4 t hF
set_option maxHeartbeats 4000000 in
set_option maxRecDepth 20000 in
theorem wbX12_choices_49 {E : zE} {C : zC} {f : Nat} {ro : Int32 × zS} (hf : 6 ≤ f) {g : GgX12_type} (hg : HgX12_type E (f - 1) g) (k49 : Int32 → Int32 → Int32 → zS → zR) (hk49 : ∀ (x1 x2 x3 : Int32) (t : zS), k49 x1 x2 x3 t = some ro → zJ E shM C cX12_choices RX12 5 f (some .int) ro t 49 [(0, .ref (za E 0)), (1, .int x1), (2, .int x2), (3, .int x3)] []) (x1 : Int32) (x2 : Int32) (x3 : Int32) (t : zS) (hF : bX12_choices_49 g k49 x1 x2 x3 t = some ro) : zJ E shM C cX12_choices RX12 5 f (some .int) ro t 49 [(0, .ref (za E 0)), (1, .int x1), (2, .int x2), (3, .int x3)] [] := by
  unfold bX12_choices_49 at hF
  refine z_iload_n 3 dX12_choices_49 rfl rfl ?_
  refine z_if_eq (tgt := 182) dX12_choices_50 (by decide) (fun hc => ?_) (fun hc => ?_)
  · have hF := zif_t hc hF
    refine z_aload_n 0 dX12_choices_182 rfl rfl ?_
    refine z_bipush (v := 125) dX12_choices_183 (by decide) ?_
    obtain ⟨r2795, t2796, hc2797, hF⟩ := zbd_at hF
    refine z_callVv (ctX12_closes (E := E) (f := f - 1) (by omega) hc2797) yy_X12_closes yv_X12_closes ob_M_0 lk_RX12_305 (by omega) rfl rfl (Nat.le_of_ble_eq_true rfl) dX12_choices_185 ?_
    refine z_aload_n 0 dX12_choices_188 rfl rfl ?_
    refine z_getr fr_RX12_28 dX12_choices_189 ?_
    refine z_iload_n 1 dX12_choices_192 rfl rfl ?_
    refine z_aload_n 0 dX12_choices_193 rfl rfl ?_
    refine z_geti fi_RX12_319 dX12_choices_194 ?_
    obtain ⟨hi2798, hF⟩ := zwr_at hF
    refine z_iast (n := 3100) rfl hi2798 dX12_choices_197 (fun t2799 et2799 => ?_)
    have hF := hF t2799 et2799
    refine z_aload_n 0 dX12_choices_198 rfl rfl ?_
    refine z_getr fr_RX12_31 dX12_choices_199 ?_
    refine z_iload_n 1 dX12_choices_202 rfl rfl ?_
    refine z_aload_n 0 dX12_choices_203 rfl rfl ?_
    refine z_geti fi_RX12_316 dX12_choices_204 ?_
    refine z_iload_n 2 dX12_choices_207 rfl rfl ?_
    refine z_isub dX12_choices_208 ?_
    refine z_iconst (v := 2) dX12_choices_209 (by decide) ?_
    refine z_idiv dX12_choices_210 (by decide) ?_
    obtain ⟨hi2800, hF⟩ := zwr_at hF
    refine z_iast (n := 3100) rfl hi2800 dX12_choices_211 (fun t2801 et2801 => ?_)
    have hF := hF t2801 et2801
    refine z_iload_n 2 dX12_choices_212 rfl rfl ?_
    refine z_istore (lv' := [(4, .int x2), (0, .ref (za E 0)), (1, .int x1), (2, .int x2), (3, .int x3)]) dX12_choices_213 (by decide) rfl ?_
    refine z_sub [1, 2, 3, 0] rfl ?_
    exact wlX12_choices_215 hf hg zFU x1 x2 x2 _ hF
  · have hF := zif_f hc hF
    refine z_aload_n 0 dX12_choices_53 rfl rfl ?_
    refine z_geti fi_RX12_247 dX12_choices_54 ?_
    refine z_iconst (v := 2) dX12_choices_57 (by decide) ?_
    refine z_icmp_ne (tgt := 68) dX12_choices_58 (by decide) (fun hc => ?_) (fun hc => ?_)
    · have hF := zif_f hc hF
      refine z_sub [0] rfl ?_
      exact wbX12_choices_68 hf hg  _ hF
    · have hF := zif_t hc hF
      refine z_aload_n 0 dX12_choices_61 rfl rfl ?_
      refine z_geti fi_RX12_267 dX12_choices_62 ?_
      refine z_if_lt (tgt := 77) dX12_choices_65 (by decide) (fun hc => ?_) (fun hc => ?_)
      · have hF := zif_t hc hF
        refine z_iload_n 2 dX12_choices_77 rfl rfl ?_
        refine z_istore (lv' := [(4, .int x2), (0, .ref (za E 0)), (1, .int x1), (2, .int x2), (3, .int x3)]) dX12_choices_78 (by decide) rfl ?_
        refine z_sub [1, 2, 3, 0] rfl ?_
        exact wlX12_choices_80 hf hg k49 hk49 zFU x1 x2 x2 _ hF
      · have hF := zif_f hc hF
        refine z_sub [0] rfl ?_
        exact wbX12_choices_68 hf hg  _ hF
set_option maxHeartbeats 4000000 in
set_option maxRecDepth 20000 in
theorem wlX12_choices_49 {E : zE} {C : zC} {f : Nat} {ro : Int32 × zS} (hf : 6 ≤ f) {g : GgX12_type} (hg : HgX12_type E (f - 1) g) (fu : Nat) : ∀ (x1 x2 x3 : Int32) (t : zS), lX12_choices_49 g fu x1 x2 x3 t = some ro → zJ E shM C cX12_choices RX12 5 f (some .int) ro t 49 [(0, .ref (za E 0)), (1, .int x1), (2, .int x2), (3, .int x3)] [] := by
  induction fu with
  | zero => intro x1 x2 x3 t hF; cases hF
  | succ fu ih => intro x1 x2 x3 t hF; exact wbX12_choices_49 hf hg (lX12_choices_49 g fu) ih x1 x2 x3 t hF
set_option maxHeartbeats 4000000 in
set_option maxRecDepth 20000 in
theorem wbX12_choices_17 {E : zE} {C : zC} {f : Nat} {ro : Int32 × zS} (hf : 6 ≤ f) {g : GgX12_type} (hg : HgX12_type E (f - 1) g) (y0 : Int32) (t : zS) (hF : bX12_choices_17 g y0 t = some ro) : zJ E shM C cX12_choices RX12 5 f (some .int) ro t 17 [(0, .ref (za E 0))] [.int y0, .ref (za E 0)] := by
  unfold bX12_choices_17 at hF
  refine z_iconst (v := (-1)) dX12_choices_17 (by decide) ?_
  refine z_iconst (v := (-1)) dX12_choices_18 (by decide) ?_
  obtain ⟨r2802, t2803, hc2804, hF⟩ := zbd_at hF
  refine z_callVi (ctX12_node (E := E) (f := f - 1) (by omega) hc2804) yy_X12_node yv_X12_node ob_M_0 lk_RX12_295 (by omega) rfl rfl (Nat.le_of_ble_eq_true rfl) dX12_choices_19 ?_
  refine z_istore_n (lv' := [(1, .int r2802), (0, .ref (za E 0))]) dX12_choices_22 rfl (by decide) rfl ?_
  refine z_aload_n 1 dX12_choices_23 rfl rfl ?_
  obtain ⟨r2805, t2806, hc2807, hF⟩ := zbd_at hF
  refine z_callVv (ctX12_next (E := E) (f := f - 1) (by omega) hc2807) yy_X12_next yv_X12_next ob_M_0 lk_RX12_273 (by omega) rfl rfl (Nat.le_of_ble_eq_true rfl) dX12_choices_24 ?_
  refine z_aload_n 1 dX12_choices_27 rfl rfl ?_
  refine z_aload_n 1 dX12_choices_28 rfl rfl ?_
  refine z_bipush (v := 123) dX12_choices_29 (by decide) ?_
  obtain ⟨r2808, t2809, hc2810, hF⟩ := zbd_at hF
  refine z_callVi (ctX12_isSign (E := E) (f := f - 1) (by omega) hc2810) yy_X12_isSign yv_X12_isSign ob_M_0 lk_RX12_279 (by omega) rfl rfl (Nat.le_of_ble_eq_true rfl) dX12_choices_31 ?_
  obtain ⟨r2811, t2812, hc2813, hF⟩ := zbd_at hF
  refine z_callVi (ctX12_opens (E := E) (f := f - 1) (by omega) hc2813) yy_X12_opens yv_X12_opens ob_M_0 lk_RX12_299 (by omega) rfl rfl (Nat.le_of_ble_eq_true rfl) dX12_choices_34 ?_
  refine z_if_ne (tgt := 42) dX12_choices_37 (by decide) (fun hc => ?_) (fun hc => ?_)
  · have hF := zif_f hc hF
    refine z_aload_n 1 dX12_choices_42 rfl rfl ?_
    refine z_geti fi_RX12_316 dX12_choices_43 ?_
    refine z_topi (fun v2814 ev2814 => ?_)
    have hF := zlet_at ev2814 hF
    refine z_istore_n (lv' := [(2, .int v2814), (1, .int r2802), (0, .ref (za E 0))]) dX12_choices_46 rfl (by decide) rfl ?_
    refine z_iconst (v := 1) dX12_choices_47 (by decide) ?_
    refine z_istore_n (lv' := [(3, .int 1), (2, .int v2814), (1, .int r2802), (0, .ref (za E 0))]) dX12_choices_48 rfl (by decide) rfl ?_
    refine z_sub [3, 2, 1, 0] rfl ?_
    exact wlX12_choices_49 hf hg zFU r2802 v2814 1 _ hF
  · have hF := zif_t hc hF
    refine z_iconst (v := (-1)) dX12_choices_40 (by decide) ?_
    exact z_iret hF dX12_choices_41
set_option maxHeartbeats 4000000 in
set_option maxRecDepth 20000 in
theorem ctX12_choices {E : zE} {f : Nat} (hf : 6 ≤ f) {g : GgX12_type} (hg : HgX12_type E (f - 1) g) {t : zS} {ro : Int32 × zS} (hF : mX12_choices g  t = some ro) : zM E shM f yX12_choices cX12_choices 5 (some .int) [.ref (za E 0)] t ro := by
  refine zM_of (by decide) (Nat.le_of_ble_eq_true rfl) (fun C => ?_)
  show zJ E shM C cX12_choices RX12 5 f (some .int) ro t 0 [(0, .ref (za E 0))] []
  unfold mX12_choices at hF
  refine z_aload_n 0 dX12_choices_0 rfl rfl ?_
  refine z_aload_n 0 dX12_choices_1 rfl rfl ?_
  refine z_bipush (v := 43) dX12_choices_2 (by decide) ?_
  obtain ⟨r2815, t2816, hc2817, hF⟩ := zbd_at hF
  refine z_callVi (ctX12_isSign (E := E) (f := f - 1) (by omega) hc2817) yy_X12_isSign yv_X12_isSign ob_M_0 lk_RX12_279 (by omega) rfl rfl (Nat.le_of_ble_eq_true rfl) dX12_choices_4 ?_
  refine z_if_eq (tgt := 15) dX12_choices_7 (by decide) (fun hc => ?_) (fun hc => ?_)
  · have hF := zif_t hc hF
    refine z_bipush (v := 8) dX12_choices_15 (by decide) ?_
    exact wbX12_choices_17 hf hg 8 _ hF
  · have hF := zif_f hc hF
    refine z_bipush (v := 7) dX12_choices_10 (by decide) ?_
    refine z_goto (tgt := 17) dX12_choices_12 (by decide) ?_
    exact wbX12_choices_17 hf hg 7 _ hF
def grgX12_type : Nat → GgX12_type
  | 0 => (fun _ => none, fun _ => none)
  | d + 1 => (mX12_type (grgX12_type d), mX12_choices (grgX12_type d))
theorem hrgX12_type {E : zE} : ∀ (d f : Nat), 6 + d ≤ f → HgX12_type E f (grgX12_type d) := by
  intro d
  induction d with
  | zero => intro f hf; exact ⟨fun _ _ h => (by cases h), fun _ _ h => (by cases h)⟩
  | succ d ih => intro f hf; exact ⟨fun _ _ h => ctX12_type (by omega) (ih (f - 1) (by omega)) h, fun _ _ h => ctX12_choices (by omega) (ih (f - 1) (by omega)) h⟩
def mX12_typer (t : zS) : zR := (grgX12_type 300).1  t
theorem ctX12_typer {E : zE} {f : Nat} (hf : 306 ≤ f) {t : zS} {ro : Int32 × zS} (h : mX12_typer  t = some ro) : zM E shM f yX12_type cX12_type 7 (some .int) [.ref (za E 0)] t ro := z_hgX12_type (hrgX12_type 300 f (by omega)) h
def mX12_choicesr (t : zS) : zR := (grgX12_type 300).2  t
theorem ctX12_choicesr {E : zE} {f : Nat} (hf : 306 ≤ f) {t : zS} {ro : Int32 × zS} (h : mX12_choicesr  t = some ro) : zM E shM f yX12_choices cX12_choices 5 (some .int) [.ref (za E 0)] t ro := z_hgX12_choices (hrgX12_type 300 f (by omega)) h
-- SessionHouseModel.ownOf(I)I
theorem dX12_ownOf_0 : decode cX12_ownOf 0 = .ok (.aload_n 0, 1) := by decide +kernel
theorem dX12_ownOf_1 : decode cX12_ownOf 1 = .ok (.getfield 100, 3) := by decide +kernel
theorem dX12_ownOf_4 : decode cX12_ownOf 4 = .ok (.aload_n 0, 1) := by decide +kernel
theorem dX12_ownOf_5 : decode cX12_ownOf 5 = .ok (.getfield 322, 3) := by decide +kernel
theorem dX12_ownOf_8 : decode cX12_ownOf 8 = .ok (.iaload, 1) := by decide +kernel
theorem dX12_ownOf_9 : decode cX12_ownOf 9 = .ok (.istore_n 2, 1) := by decide +kernel
theorem dX12_ownOf_10 : decode cX12_ownOf 10 = .ok (.iload_n 2, 1) := by decide +kernel
theorem dX12_ownOf_11 : decode cX12_ownOf 11 = .ok (.aload_n 0, 1) := by decide +kernel
theorem dX12_ownOf_12 : decode cX12_ownOf 12 = .ok (.getfield 100, 3) := by decide +kernel
theorem dX12_ownOf_15 : decode cX12_ownOf 15 = .ok (.aload_n 0, 1) := by decide +kernel
theorem dX12_ownOf_16 : decode cX12_ownOf 16 = .ok (.getfield 322, 3) := by decide +kernel
theorem dX12_ownOf_19 : decode cX12_ownOf 19 = .ok (.iconst 1, 1) := by decide +kernel
theorem dX12_ownOf_20 : decode cX12_ownOf 20 = .ok (.iadd, 1) := by decide +kernel
theorem dX12_ownOf_21 : decode cX12_ownOf 21 = .ok (.iaload, 1) := by decide +kernel
theorem dX12_ownOf_22 : decode cX12_ownOf 22 = .ok (.if_icmp .ge 31, 3) := by decide +kernel
theorem dX12_ownOf_25 : decode cX12_ownOf 25 = .ok (.aload_n 0, 1) := by decide +kernel
theorem dX12_ownOf_26 : decode cX12_ownOf 26 = .ok (.getfield 106, 3) := by decide +kernel
theorem dX12_ownOf_29 : decode cX12_ownOf 29 = .ok (.iload_n 2, 1) := by decide +kernel
theorem dX12_ownOf_30 : decode cX12_ownOf 30 = .ok (.iaload, 1) := by decide +kernel
theorem dX12_ownOf_31 : decode cX12_ownOf 31 = .ok (.iload_n 1, 1) := by decide +kernel
theorem dX12_ownOf_32 : decode cX12_ownOf 32 = .ok (.if_icmp .ne 15, 3) := by decide +kernel
theorem dX12_ownOf_35 : decode cX12_ownOf 35 = .ok (.iload_n 2, 1) := by decide +kernel
theorem dX12_ownOf_36 : decode cX12_ownOf 36 = .ok (.aload_n 0, 1) := by decide +kernel
theorem dX12_ownOf_37 : decode cX12_ownOf 37 = .ok (.getfield 100, 3) := by decide +kernel
theorem dX12_ownOf_40 : decode cX12_ownOf 40 = .ok (.aload_n 0, 1) := by decide +kernel
theorem dX12_ownOf_41 : decode cX12_ownOf 41 = .ok (.getfield 322, 3) := by decide +kernel
theorem dX12_ownOf_44 : decode cX12_ownOf 44 = .ok (.iaload, 1) := by decide +kernel
theorem dX12_ownOf_45 : decode cX12_ownOf 45 = .ok (.isub, 1) := by decide +kernel
theorem dX12_ownOf_46 : decode cX12_ownOf 46 = .ok (.ireturn, 1) := by decide +kernel
theorem dX12_ownOf_47 : decode cX12_ownOf 47 = .ok (.iinc 2 1, 3) := by decide +kernel
theorem dX12_ownOf_50 : decode cX12_ownOf 50 = .ok (.goto (-40), 3) := by decide +kernel
theorem dX12_ownOf_53 : decode cX12_ownOf 53 = .ok (.aload_n 0, 1) := by decide +kernel
theorem dX12_ownOf_54 : decode cX12_ownOf 54 = .ok (.getfield 106, 3) := by decide +kernel
theorem dX12_ownOf_57 : decode cX12_ownOf 57 = .ok (.aload_n 0, 1) := by decide +kernel
theorem dX12_ownOf_58 : decode cX12_ownOf 58 = .ok (.getfield 100, 3) := by decide +kernel
theorem dX12_ownOf_61 : decode cX12_ownOf 61 = .ok (.aload_n 0, 1) := by decide +kernel
theorem dX12_ownOf_62 : decode cX12_ownOf 62 = .ok (.getfield 322, 3) := by decide +kernel
theorem dX12_ownOf_65 : decode cX12_ownOf 65 = .ok (.iconst 1, 1) := by decide +kernel
theorem dX12_ownOf_66 : decode cX12_ownOf 66 = .ok (.iadd, 1) := by decide +kernel
theorem dX12_ownOf_67 : decode cX12_ownOf 67 = .ok (.iaload, 1) := by decide +kernel
theorem dX12_ownOf_68 : decode cX12_ownOf 68 = .ok (.iload_n 1, 1) := by decide +kernel
theorem dX12_ownOf_69 : decode cX12_ownOf 69 = .ok (.iastore, 1) := by decide +kernel
theorem dX12_ownOf_70 : decode cX12_ownOf 70 = .ok (.aload_n 0, 1) := by decide +kernel
theorem dX12_ownOf_71 : decode cX12_ownOf 71 = .ok (.getfield 100, 3) := by decide +kernel
theorem dX12_ownOf_74 : decode cX12_ownOf 74 = .ok (.aload_n 0, 1) := by decide +kernel
theorem dX12_ownOf_75 : decode cX12_ownOf 75 = .ok (.getfield 322, 3) := by decide +kernel
theorem dX12_ownOf_78 : decode cX12_ownOf 78 = .ok (.iconst 1, 1) := by decide +kernel
theorem dX12_ownOf_79 : decode cX12_ownOf 79 = .ok (.iadd, 1) := by decide +kernel
theorem dX12_ownOf_80 : decode cX12_ownOf 80 = .ok (.dup2, 1) := by decide +kernel
theorem dX12_ownOf_81 : decode cX12_ownOf 81 = .ok (.iaload, 1) := by decide +kernel
theorem dX12_ownOf_82 : decode cX12_ownOf 82 = .ok (.iconst 1, 1) := by decide +kernel
theorem dX12_ownOf_83 : decode cX12_ownOf 83 = .ok (.iadd, 1) := by decide +kernel
theorem dX12_ownOf_84 : decode cX12_ownOf 84 = .ok (.iastore, 1) := by decide +kernel
theorem dX12_ownOf_85 : decode cX12_ownOf 85 = .ok (.aload_n 0, 1) := by decide +kernel
theorem dX12_ownOf_86 : decode cX12_ownOf 86 = .ok (.getfield 100, 3) := by decide +kernel
theorem dX12_ownOf_89 : decode cX12_ownOf 89 = .ok (.aload_n 0, 1) := by decide +kernel
theorem dX12_ownOf_90 : decode cX12_ownOf 90 = .ok (.getfield 322, 3) := by decide +kernel
theorem dX12_ownOf_93 : decode cX12_ownOf 93 = .ok (.iconst 1, 1) := by decide +kernel
theorem dX12_ownOf_94 : decode cX12_ownOf 94 = .ok (.iadd, 1) := by decide +kernel
theorem dX12_ownOf_95 : decode cX12_ownOf 95 = .ok (.iaload, 1) := by decide +kernel
theorem dX12_ownOf_96 : decode cX12_ownOf 96 = .ok (.iconst 1, 1) := by decide +kernel
theorem dX12_ownOf_97 : decode cX12_ownOf 97 = .ok (.isub, 1) := by decide +kernel
theorem dX12_ownOf_98 : decode cX12_ownOf 98 = .ok (.aload_n 0, 1) := by decide +kernel
theorem dX12_ownOf_99 : decode cX12_ownOf 99 = .ok (.getfield 100, 3) := by decide +kernel
theorem dX12_ownOf_102 : decode cX12_ownOf 102 = .ok (.aload_n 0, 1) := by decide +kernel
theorem dX12_ownOf_103 : decode cX12_ownOf 103 = .ok (.getfield 322, 3) := by decide +kernel
theorem dX12_ownOf_106 : decode cX12_ownOf 106 = .ok (.iaload, 1) := by decide +kernel
theorem dX12_ownOf_107 : decode cX12_ownOf 107 = .ok (.isub, 1) := by decide +kernel
theorem dX12_ownOf_108 : decode cX12_ownOf 108 = .ok (.ireturn, 1) := by decide +kernel
def bX12_ownOf_10 (k10 : Int32 → Int32 → zS → zR) (x1 : Int32) (x2 : Int32) (t : zS) : zR := zrd t 31 301 ((t 0 60) + 1) fun v2818 => if v2818 ≤ x2 then zrd t 31 301 ((t 0 60) + 1) fun v2820 => zwr t 33 3000 v2820 x1 fun t2823 => zrd t2823 31 301 ((t2823 0 60) + 1) fun v2824 => zwr t2823 31 301 ((t2823 0 60) + 1) (v2824 + 1) fun t2827 => zrd t2827 31 301 ((t2827 0 60) + 1) fun v2828 => zrd t2827 31 301 (t2827 0 60) fun v2830 => some (((v2828 - 1) - v2830), t2827) else zrd t 33 3000 x2 fun v2832 => if v2832 = x1 then zrd t 31 301 (t 0 60) fun v2835 => some ((x2 - v2835), t) else zlet (x2 + 1) fun v2834 => k10 x1 v2834 t
def lX12_ownOf_10 : Nat → Int32 → Int32 → zS → zR
  | 0, _, _, _ => none
  | fu + 1, x1, x2, t => bX12_ownOf_10 (lX12_ownOf_10  fu) x1 x2 t
def mX12_ownOf (x1 : Int32) (t : zS) : zR := zrd t 31 301 (t 0 60) fun v2837 => lX12_ownOf_10  zFU x1 v2837 t
set_option maxHeartbeats 4000000 in
set_option maxRecDepth 20000 in
theorem wbX12_ownOf_10 {E : zE} {C : zC} {f : Nat} {ro : Int32 × zS} (hf : 1 ≤ f) (k10 : Int32 → Int32 → zS → zR) (hk10 : ∀ (x1 x2 : Int32) (t : zS), k10 x1 x2 t = some ro → zJ E shM C cX12_ownOf RX12 3 f (some .int) ro t 10 [(0, .ref (za E 0)), (1, .int x1), (2, .int x2)] []) (x1 : Int32) (x2 : Int32) (t : zS) (hF : bX12_ownOf_10 k10 x1 x2 t = some ro) : zJ E shM C cX12_ownOf RX12 3 f (some .int) ro t 10 [(0, .ref (za E 0)), (1, .int x1), (2, .int x2)] [] := by
  unfold bX12_ownOf_10 at hF
  refine z_iload_n 2 dX12_ownOf_10 rfl rfl ?_
  refine z_aload_n 0 dX12_ownOf_11 rfl rfl ?_
  refine z_getr fr_RX12_100 dX12_ownOf_12 ?_
  refine z_aload_n 0 dX12_ownOf_15 rfl rfl ?_
  refine z_geti fi_RX12_322 dX12_ownOf_16 ?_
  refine z_iconst (v := 1) dX12_ownOf_19 (by decide) ?_
  refine z_iadd dX12_ownOf_20 ?_
  obtain ⟨hi2819, hF⟩ := zrd_at hF
  refine z_iald (n := 301) rfl hi2819 dX12_ownOf_21 ?_
  generalize t 31 (Int32.toNatClampNeg ((t 0 60) + 1)) = v2818 at hF ⊢
  refine z_icmp_ge (tgt := 53) dX12_ownOf_22 (by decide) (fun hc => ?_) (fun hc => ?_)
  · have hF := zif_t hc hF
    refine z_aload_n 0 dX12_ownOf_53 rfl rfl ?_
    refine z_getr fr_RX12_106 dX12_ownOf_54 ?_
    refine z_aload_n 0 dX12_ownOf_57 rfl rfl ?_
    refine z_getr fr_RX12_100 dX12_ownOf_58 ?_
    refine z_aload_n 0 dX12_ownOf_61 rfl rfl ?_
    refine z_geti fi_RX12_322 dX12_ownOf_62 ?_
    refine z_iconst (v := 1) dX12_ownOf_65 (by decide) ?_
    refine z_iadd dX12_ownOf_66 ?_
    obtain ⟨hi2821, hF⟩ := zrd_at hF
    refine z_iald (n := 301) rfl hi2821 dX12_ownOf_67 ?_
    generalize t 31 (Int32.toNatClampNeg ((t 0 60) + 1)) = v2820 at hF ⊢
    refine z_iload_n 1 dX12_ownOf_68 rfl rfl ?_
    obtain ⟨hi2822, hF⟩ := zwr_at hF
    refine z_iast (n := 3000) rfl hi2822 dX12_ownOf_69 (fun t2823 et2823 => ?_)
    have hF := hF t2823 et2823
    refine z_aload_n 0 dX12_ownOf_70 rfl rfl ?_
    refine z_getr fr_RX12_100 dX12_ownOf_71 ?_
    refine z_aload_n 0 dX12_ownOf_74 rfl rfl ?_
    refine z_geti fi_RX12_322 dX12_ownOf_75 ?_
    refine z_iconst (v := 1) dX12_ownOf_78 (by decide) ?_
    refine z_iadd dX12_ownOf_79 ?_
    refine z_dup2 dX12_ownOf_80 rfl rfl ?_
    obtain ⟨hi2825, hF⟩ := zrd_at hF
    refine z_iald (n := 301) rfl hi2825 dX12_ownOf_81 ?_
    generalize t2823 31 (Int32.toNatClampNeg ((t2823 0 60) + 1)) = v2824 at hF ⊢
    refine z_iconst (v := 1) dX12_ownOf_82 (by decide) ?_
    refine z_iadd dX12_ownOf_83 ?_
    obtain ⟨hi2826, hF⟩ := zwr_at hF
    refine z_iast (n := 301) rfl hi2826 dX12_ownOf_84 (fun t2827 et2827 => ?_)
    have hF := hF t2827 et2827
    refine z_aload_n 0 dX12_ownOf_85 rfl rfl ?_
    refine z_getr fr_RX12_100 dX12_ownOf_86 ?_
    refine z_aload_n 0 dX12_ownOf_89 rfl rfl ?_
    refine z_geti fi_RX12_322 dX12_ownOf_90 ?_
    refine z_iconst (v := 1) dX12_ownOf_93 (by decide) ?_
    refine z_iadd dX12_ownOf_94 ?_
    obtain ⟨hi2829, hF⟩ := zrd_at hF
    refine z_iald (n := 301) rfl hi2829 dX12_ownOf_95 ?_
    generalize t2827 31 (Int32.toNatClampNeg ((t2827 0 60) + 1)) = v2828 at hF ⊢
    refine z_iconst (v := 1) dX12_ownOf_96 (by decide) ?_
    refine z_isub dX12_ownOf_97 ?_
    refine z_aload_n 0 dX12_ownOf_98 rfl rfl ?_
    refine z_getr fr_RX12_100 dX12_ownOf_99 ?_
    refine z_aload_n 0 dX12_ownOf_102 rfl rfl ?_
    refine z_geti fi_RX12_322 dX12_ownOf_103 ?_
    obtain ⟨hi2831, hF⟩ := zrd_at hF
    refine z_iald (n := 301) rfl hi2831 dX12_ownOf_106 ?_
    generalize t2827 31 (Int32.toNatClampNeg (t2827 0 60)) = v2830 at hF ⊢
    refine z_isub dX12_ownOf_107 ?_
    exact z_iret hF dX12_ownOf_108
  · have hF := zif_f hc hF
    refine z_aload_n 0 dX12_ownOf_25 rfl rfl ?_
    refine z_getr fr_RX12_106 dX12_ownOf_26 ?_
    refine z_iload_n 2 dX12_ownOf_29 rfl rfl ?_
    obtain ⟨hi2833, hF⟩ := zrd_at hF
    refine z_iald (n := 3000) rfl hi2833 dX12_ownOf_30 ?_
    generalize t 33 (Int32.toNatClampNeg x2) = v2832 at hF ⊢
    refine z_iload_n 1 dX12_ownOf_31 rfl rfl ?_
    refine z_icmp_ne (tgt := 47) dX12_ownOf_32 (by decide) (fun hc => ?_) (fun hc => ?_)
    · have hF := zif_f hc hF
      obtain ⟨v2834, ev2834⟩ : ∃ y : Int32, y = (x2 + 1) := ⟨_, rfl⟩
      have hF := zlet_at ev2834 hF
      refine z_iinc (v := v2834) (lv' := [(2, .int v2834), (0, .ref (za E 0)), (1, .int x1)]) (k := 2) dX12_ownOf_47 rfl (by rw [ev2834]; rfl) (by decide) rfl ?_
      refine z_goto (tgt := 10) dX12_ownOf_50 (by decide) ?_
      refine z_sub [1, 2, 0] rfl ?_
      exact hk10 x1 v2834 _ hF
    · have hF := zif_t hc hF
      refine z_iload_n 2 dX12_ownOf_35 rfl rfl ?_
      refine z_aload_n 0 dX12_ownOf_36 rfl rfl ?_
      refine z_getr fr_RX12_100 dX12_ownOf_37 ?_
      refine z_aload_n 0 dX12_ownOf_40 rfl rfl ?_
      refine z_geti fi_RX12_322 dX12_ownOf_41 ?_
      obtain ⟨hi2836, hF⟩ := zrd_at hF
      refine z_iald (n := 301) rfl hi2836 dX12_ownOf_44 ?_
      generalize t 31 (Int32.toNatClampNeg (t 0 60)) = v2835 at hF ⊢
      refine z_isub dX12_ownOf_45 ?_
      exact z_iret hF dX12_ownOf_46
set_option maxHeartbeats 4000000 in
set_option maxRecDepth 20000 in
theorem wlX12_ownOf_10 {E : zE} {C : zC} {f : Nat} {ro : Int32 × zS} (hf : 1 ≤ f) (fu : Nat) : ∀ (x1 x2 : Int32) (t : zS), lX12_ownOf_10  fu x1 x2 t = some ro → zJ E shM C cX12_ownOf RX12 3 f (some .int) ro t 10 [(0, .ref (za E 0)), (1, .int x1), (2, .int x2)] [] := by
  induction fu with
  | zero => intro x1 x2 t hF; cases hF
  | succ fu ih => intro x1 x2 t hF; exact wbX12_ownOf_10 hf (lX12_ownOf_10  fu) ih x1 x2 t hF
set_option maxHeartbeats 4000000 in
set_option maxRecDepth 20000 in
theorem ctX12_ownOf {E : zE} {f : Nat} (hf : 1 ≤ f) {x1 : Int32} {t : zS} {ro : Int32 × zS} (hF : mX12_ownOf  x1 t = some ro) : zM E shM f yX12_ownOf cX12_ownOf 3 (some .int) [.ref (za E 0), .int x1] t ro := by
  refine zM_of (by decide) (Nat.le_of_ble_eq_true rfl) (fun C => ?_)
  show zJ E shM C cX12_ownOf RX12 3 f (some .int) ro t 0 [(0, .ref (za E 0)), (1, .int x1)] []
  unfold mX12_ownOf at hF
  refine z_aload_n 0 dX12_ownOf_0 rfl rfl ?_
  refine z_getr fr_RX12_100 dX12_ownOf_1 ?_
  refine z_aload_n 0 dX12_ownOf_4 rfl rfl ?_
  refine z_geti fi_RX12_322 dX12_ownOf_5 ?_
  obtain ⟨hi2838, hF⟩ := zrd_at hF
  refine z_iald (n := 301) rfl hi2838 dX12_ownOf_8 ?_
  generalize t 31 (Int32.toNatClampNeg (t 0 60)) = v2837 at hF ⊢
  refine z_istore_n (lv' := [(2, .int v2837), (0, .ref (za E 0)), (1, .int x1)]) dX12_ownOf_9 rfl (by decide) rfl ?_
  refine z_sub [1, 2, 0] rfl ?_
  exact wlX12_ownOf_10 hf  zFU x1 v2837 _ hF
-- SessionHouseModel.own()I
theorem dX12_own_0 : decode cX12_own 0 = .ok (.aload_n 0, 1) := by decide +kernel
theorem dX12_own_1 : decode cX12_own 1 = .ok (.getfield 247, 3) := by decide +kernel
theorem dX12_own_4 : decode cX12_own 4 = .ok (.iconst 2, 1) := by decide +kernel
theorem dX12_own_5 : decode cX12_own 5 = .ok (.if_icmp .ne 10, 3) := by decide +kernel
theorem dX12_own_8 : decode cX12_own 8 = .ok (.aload_n 0, 1) := by decide +kernel
theorem dX12_own_9 : decode cX12_own 9 = .ok (.getfield 267, 3) := by decide +kernel
theorem dX12_own_12 : decode cX12_own 12 = .ok (.ifCond .lt 12, 3) := by decide +kernel
theorem dX12_own_15 : decode cX12_own 15 = .ok (.aload_n 0, 1) := by decide +kernel
theorem dX12_own_16 : decode cX12_own 16 = .ok (.aload_n 0, 1) := by decide +kernel
theorem dX12_own_17 : decode cX12_own 17 = .ok (.getfield 227, 3) := by decide +kernel
theorem dX12_own_20 : decode cX12_own 20 = .ok (.invokevirtual 270, 3) := by decide +kernel
theorem dX12_own_23 : decode cX12_own 23 = .ok (.ireturn, 1) := by decide +kernel
theorem dX12_own_24 : decode cX12_own 24 = .ok (.aload_n 0, 1) := by decide +kernel
theorem dX12_own_25 : decode cX12_own 25 = .ok (.aload_n 0, 1) := by decide +kernel
theorem dX12_own_26 : decode cX12_own 26 = .ok (.getfield 240, 3) := by decide +kernel
theorem dX12_own_29 : decode cX12_own 29 = .ok (.invokevirtual 325, 3) := by decide +kernel
theorem dX12_own_32 : decode cX12_own 32 = .ok (.istore_n 1, 1) := by decide +kernel
theorem dX12_own_33 : decode cX12_own 33 = .ok (.aload_n 0, 1) := by decide +kernel
theorem dX12_own_34 : decode cX12_own 34 = .ok (.invokevirtual 273, 3) := by decide +kernel
theorem dX12_own_37 : decode cX12_own 37 = .ok (.iload_n 1, 1) := by decide +kernel
theorem dX12_own_38 : decode cX12_own 38 = .ok (.ireturn, 1) := by decide +kernel
def bX12_own_15 (t : zS) : zR := zbd (mX12_fails (t 0 6) t) fun r2839 t2840 => some (r2839, t2840)
def mX12_own (t : zS) : zR := if (t 0 5) = 2 then if (t 0 9) < 0 then zbd (mX12_ownOf (t 0 8) t) fun r2842 t2843 => zbd (mX12_next  t2843) fun r2845 t2846 => some (r2842, t2846) else bX12_own_15   t else bX12_own_15   t
set_option maxHeartbeats 4000000 in
set_option maxRecDepth 20000 in
theorem wbX12_own_15 {E : zE} {C : zC} {f : Nat} {ro : Int32 × zS} (hf : 4 ≤ f) (t : zS) (hF : bX12_own_15   t = some ro) : zJ E shM C cX12_own RX12 2 f (some .int) ro t 15 [(0, .ref (za E 0))] [] := by
  unfold bX12_own_15 at hF
  refine z_aload_n 0 dX12_own_15 rfl rfl ?_
  refine z_aload_n 0 dX12_own_16 rfl rfl ?_
  refine z_geti fi_RX12_227 dX12_own_17 ?_
  obtain ⟨r2839, t2840, hc2841, hF⟩ := zbd_at hF
  refine z_callVi (ctX12_fails (E := E) (f := f - 1) (by omega) hc2841) yy_X12_fails yv_X12_fails ob_M_0 lk_RX12_270 (by omega) rfl rfl (Nat.le_of_ble_eq_true rfl) dX12_own_20 ?_
  exact z_iret hF dX12_own_23
set_option maxHeartbeats 4000000 in
set_option maxRecDepth 20000 in
theorem ctX12_own {E : zE} {f : Nat} (hf : 4 ≤ f) {t : zS} {ro : Int32 × zS} (hF : mX12_own   t = some ro) : zM E shM f yX12_own cX12_own 2 (some .int) [.ref (za E 0)] t ro := by
  refine zM_of (by decide) (Nat.le_of_ble_eq_true rfl) (fun C => ?_)
  show zJ E shM C cX12_own RX12 2 f (some .int) ro t 0 [(0, .ref (za E 0))] []
  unfold mX12_own at hF
  refine z_aload_n 0 dX12_own_0 rfl rfl ?_
  refine z_geti fi_RX12_247 dX12_own_1 ?_
  refine z_iconst (v := 2) dX12_own_4 (by decide) ?_
  refine z_icmp_ne (tgt := 15) dX12_own_5 (by decide) (fun hc => ?_) (fun hc => ?_)
  · have hF := zif_f hc hF
    exact wbX12_own_15 hf   _ hF
  · have hF := zif_t hc hF
    refine z_aload_n 0 dX12_own_8 rfl rfl ?_
    refine z_geti fi_RX12_267 dX12_own_9 ?_
    refine z_if_lt (tgt := 24) dX12_own_12 (by decide) (fun hc => ?_) (fun hc => ?_)
    · have hF := zif_t hc hF
      refine z_aload_n 0 dX12_own_24 rfl rfl ?_
      refine z_aload_n 0 dX12_own_25 rfl rfl ?_
      refine z_geti fi_RX12_240 dX12_own_26 ?_
      obtain ⟨r2842, t2843, hc2844, hF⟩ := zbd_at hF
      refine z_callVi (ctX12_ownOf (E := E) (f := f - 1) (by omega) hc2844) yy_X12_ownOf yv_X12_ownOf ob_M_0 lk_RX12_325 (by omega) rfl rfl (Nat.le_of_ble_eq_true rfl) dX12_own_29 ?_
      refine z_istore_n (lv' := [(1, .int r2842), (0, .ref (za E 0))]) dX12_own_32 rfl (by decide) rfl ?_
      refine z_aload_n 1 dX12_own_33 rfl rfl ?_
      obtain ⟨r2845, t2846, hc2847, hF⟩ := zbd_at hF
      refine z_callVv (ctX12_next (E := E) (f := f - 1) (by omega) hc2847) yy_X12_next yv_X12_next ob_M_0 lk_RX12_273 (by omega) rfl rfl (Nat.le_of_ble_eq_true rfl) dX12_own_34 ?_
      refine z_iload_n 0 dX12_own_37 rfl rfl ?_
      exact z_iret hF dX12_own_38
    · have hF := zif_f hc hF
      exact wbX12_own_15 hf   _ hF
-- SessionHouseModel.begun(I)I
theorem dX12_begun_0 : decode cX12_begun 0 = .ok (.aload_n 0, 1) := by decide +kernel
theorem dX12_begun_1 : decode cX12_begun 1 = .ok (.getfield 343, 3) := by decide +kernel
theorem dX12_begun_4 : decode cX12_begun 4 = .ok (.istore_n 2, 1) := by decide +kernel
theorem dX12_begun_5 : decode cX12_begun 5 = .ok (.aload_n 0, 1) := by decide +kernel
theorem dX12_begun_6 : decode cX12_begun 6 = .ok (.getfield 49, 3) := by decide +kernel
theorem dX12_begun_9 : decode cX12_begun 9 = .ok (.iload_n 2, 1) := by decide +kernel
theorem dX12_begun_10 : decode cX12_begun 10 = .ok (.iload_n 1, 1) := by decide +kernel
theorem dX12_begun_11 : decode cX12_begun 11 = .ok (.iastore, 1) := by decide +kernel
theorem dX12_begun_12 : decode cX12_begun 12 = .ok (.aload_n 0, 1) := by decide +kernel
theorem dX12_begun_13 : decode cX12_begun 13 = .ok (.getfield 52, 3) := by decide +kernel
theorem dX12_begun_16 : decode cX12_begun 16 = .ok (.iload_n 2, 1) := by decide +kernel
theorem dX12_begun_17 : decode cX12_begun 17 = .ok (.aload_n 0, 1) := by decide +kernel
theorem dX12_begun_18 : decode cX12_begun 18 = .ok (.getfield 227, 3) := by decide +kernel
theorem dX12_begun_21 : decode cX12_begun 21 = .ok (.iastore, 1) := by decide +kernel
theorem dX12_begun_22 : decode cX12_begun 22 = .ok (.aload_n 0, 1) := by decide +kernel
theorem dX12_begun_23 : decode cX12_begun 23 = .ok (.getfield 55, 3) := by decide +kernel
theorem dX12_begun_26 : decode cX12_begun 26 = .ok (.iload_n 2, 1) := by decide +kernel
theorem dX12_begun_27 : decode cX12_begun 27 = .ok (.iconst (-1), 1) := by decide +kernel
theorem dX12_begun_28 : decode cX12_begun 28 = .ok (.iastore, 1) := by decide +kernel
theorem dX12_begun_29 : decode cX12_begun 29 = .ok (.aload_n 0, 1) := by decide +kernel
theorem dX12_begun_30 : decode cX12_begun 30 = .ok (.getfield 58, 3) := by decide +kernel
theorem dX12_begun_33 : decode cX12_begun 33 = .ok (.iload_n 2, 1) := by decide +kernel
theorem dX12_begun_34 : decode cX12_begun 34 = .ok (.iconst (-1), 1) := by decide +kernel
theorem dX12_begun_35 : decode cX12_begun 35 = .ok (.iastore, 1) := by decide +kernel
theorem dX12_begun_36 : decode cX12_begun 36 = .ok (.aload_n 0, 1) := by decide +kernel
theorem dX12_begun_37 : decode cX12_begun 37 = .ok (.getfield 61, 3) := by decide +kernel
theorem dX12_begun_40 : decode cX12_begun 40 = .ok (.iload_n 2, 1) := by decide +kernel
theorem dX12_begun_41 : decode cX12_begun 41 = .ok (.iconst (-1), 1) := by decide +kernel
theorem dX12_begun_42 : decode cX12_begun 42 = .ok (.iastore, 1) := by decide +kernel
theorem dX12_begun_43 : decode cX12_begun 43 = .ok (.aload_n 0, 1) := by decide +kernel
theorem dX12_begun_44 : decode cX12_begun 44 = .ok (.getfield 64, 3) := by decide +kernel
theorem dX12_begun_47 : decode cX12_begun 47 = .ok (.iload_n 2, 1) := by decide +kernel
theorem dX12_begun_48 : decode cX12_begun 48 = .ok (.iconst (-1), 1) := by decide +kernel
theorem dX12_begun_49 : decode cX12_begun 49 = .ok (.iastore, 1) := by decide +kernel
theorem dX12_begun_50 : decode cX12_begun 50 = .ok (.aload_n 0, 1) := by decide +kernel
theorem dX12_begun_51 : decode cX12_begun 51 = .ok (.getfield 67, 3) := by decide +kernel
theorem dX12_begun_54 : decode cX12_begun 54 = .ok (.iload_n 2, 1) := by decide +kernel
theorem dX12_begun_55 : decode cX12_begun 55 = .ok (.iconst (-1), 1) := by decide +kernel
theorem dX12_begun_56 : decode cX12_begun 56 = .ok (.iastore, 1) := by decide +kernel
theorem dX12_begun_57 : decode cX12_begun 57 = .ok (.aload_n 0, 1) := by decide +kernel
theorem dX12_begun_58 : decode cX12_begun 58 = .ok (.dup, 1) := by decide +kernel
theorem dX12_begun_59 : decode cX12_begun 59 = .ok (.getfield 343, 3) := by decide +kernel
theorem dX12_begun_62 : decode cX12_begun 62 = .ok (.iconst 1, 1) := by decide +kernel
theorem dX12_begun_63 : decode cX12_begun 63 = .ok (.iadd, 1) := by decide +kernel
theorem dX12_begun_64 : decode cX12_begun 64 = .ok (.putfield 343, 3) := by decide +kernel
theorem dX12_begun_67 : decode cX12_begun 67 = .ok (.iload_n 2, 1) := by decide +kernel
theorem dX12_begun_68 : decode cX12_begun 68 = .ok (.ireturn, 1) := by decide +kernel
def mX12_begun (x1 : Int32) (t : zS) : zR := zlet (t 0 26) fun v2848 => zwr t 14 1600 v2848 x1 fun t2850 => zwr t2850 15 1600 v2848 (t2850 0 6) fun t2852 => zwr t2852 16 1600 v2848 (-1) fun t2854 => zwr t2854 17 1600 v2848 (-1) fun t2856 => zwr t2856 18 1600 v2848 (-1) fun t2858 => zwr t2858 19 1600 v2848 (-1) fun t2860 => zwr t2860 20 1600 v2848 (-1) fun t2862 => zpt t2862 0 26 ((t2862 0 26) + 1) fun t2863 => some (v2848, t2863)
set_option maxHeartbeats 4000000 in
set_option maxRecDepth 20000 in
theorem ctX12_begun {E : zE} {f : Nat} (hf : 1 ≤ f) {x1 : Int32} {t : zS} {ro : Int32 × zS} (hF : mX12_begun  x1 t = some ro) : zM E shM f yX12_begun cX12_begun 3 (some .int) [.ref (za E 0), .int x1] t ro := by
  refine zM_of (by decide) (Nat.le_of_ble_eq_true rfl) (fun C => ?_)
  show zJ E shM C cX12_begun RX12 3 f (some .int) ro t 0 [(0, .ref (za E 0)), (1, .int x1)] []
  unfold mX12_begun at hF
  refine z_aload_n 0 dX12_begun_0 rfl rfl ?_
  refine z_geti fi_RX12_343 dX12_begun_1 ?_
  refine z_topi (fun v2848 ev2848 => ?_)
  have hF := zlet_at ev2848 hF
  refine z_istore_n (lv' := [(2, .int v2848), (0, .ref (za E 0)), (1, .int x1)]) dX12_begun_4 rfl (by decide) rfl ?_
  refine z_aload_n 1 dX12_begun_5 rfl rfl ?_
  refine z_getr fr_RX12_49 dX12_begun_6 ?_
  refine z_iload_n 0 dX12_begun_9 rfl rfl ?_
  refine z_iload_n 2 dX12_begun_10 rfl rfl ?_
  obtain ⟨hi2849, hF⟩ := zwr_at hF
  refine z_iast (n := 1600) rfl hi2849 dX12_begun_11 (fun t2850 et2850 => ?_)
  have hF := hF t2850 et2850
  refine z_aload_n 1 dX12_begun_12 rfl rfl ?_
  refine z_getr fr_RX12_52 dX12_begun_13 ?_
  refine z_iload_n 0 dX12_begun_16 rfl rfl ?_
  refine z_aload_n 1 dX12_begun_17 rfl rfl ?_
  refine z_geti fi_RX12_227 dX12_begun_18 ?_
  obtain ⟨hi2851, hF⟩ := zwr_at hF
  refine z_iast (n := 1600) rfl hi2851 dX12_begun_21 (fun t2852 et2852 => ?_)
  have hF := hF t2852 et2852
  refine z_aload_n 1 dX12_begun_22 rfl rfl ?_
  refine z_getr fr_RX12_55 dX12_begun_23 ?_
  refine z_iload_n 0 dX12_begun_26 rfl rfl ?_
  refine z_iconst (v := (-1)) dX12_begun_27 (by decide) ?_
  obtain ⟨hi2853, hF⟩ := zwr_at hF
  refine z_iast (n := 1600) rfl hi2853 dX12_begun_28 (fun t2854 et2854 => ?_)
  have hF := hF t2854 et2854
  refine z_aload_n 1 dX12_begun_29 rfl rfl ?_
  refine z_getr fr_RX12_58 dX12_begun_30 ?_
  refine z_iload_n 0 dX12_begun_33 rfl rfl ?_
  refine z_iconst (v := (-1)) dX12_begun_34 (by decide) ?_
  obtain ⟨hi2855, hF⟩ := zwr_at hF
  refine z_iast (n := 1600) rfl hi2855 dX12_begun_35 (fun t2856 et2856 => ?_)
  have hF := hF t2856 et2856
  refine z_aload_n 1 dX12_begun_36 rfl rfl ?_
  refine z_getr fr_RX12_61 dX12_begun_37 ?_
  refine z_iload_n 0 dX12_begun_40 rfl rfl ?_
  refine z_iconst (v := (-1)) dX12_begun_41 (by decide) ?_
  obtain ⟨hi2857, hF⟩ := zwr_at hF
  refine z_iast (n := 1600) rfl hi2857 dX12_begun_42 (fun t2858 et2858 => ?_)
  have hF := hF t2858 et2858
  refine z_aload_n 1 dX12_begun_43 rfl rfl ?_
  refine z_getr fr_RX12_64 dX12_begun_44 ?_
  refine z_iload_n 0 dX12_begun_47 rfl rfl ?_
  refine z_iconst (v := (-1)) dX12_begun_48 (by decide) ?_
  obtain ⟨hi2859, hF⟩ := zwr_at hF
  refine z_iast (n := 1600) rfl hi2859 dX12_begun_49 (fun t2860 et2860 => ?_)
  have hF := hF t2860 et2860
  refine z_aload_n 1 dX12_begun_50 rfl rfl ?_
  refine z_getr fr_RX12_67 dX12_begun_51 ?_
  refine z_iload_n 0 dX12_begun_54 rfl rfl ?_
  refine z_iconst (v := (-1)) dX12_begun_55 (by decide) ?_
  obtain ⟨hi2861, hF⟩ := zwr_at hF
  refine z_iast (n := 1600) rfl hi2861 dX12_begun_56 (fun t2862 et2862 => ?_)
  have hF := hF t2862 et2862
  refine z_aload_n 1 dX12_begun_57 rfl rfl ?_
  refine z_dup dX12_begun_58 rfl ?_
  refine z_geti fi_RX12_343 dX12_begun_59 ?_
  refine z_iconst (v := 1) dX12_begun_62 (by decide) ?_
  refine z_iadd dX12_begun_63 ?_
  refine z_puti fw_RX12_343 dX12_begun_64 (fun t2863 et2863 => ?_)
  have hF := zpt_at hF t2863 et2863
  refine z_iload_n 0 dX12_begun_67 rfl rfl ?_
  exact z_iret hF dX12_begun_68
-- SessionHouseModel.put(I)V
theorem dX12_put_0 : decode cX12_put 0 = .ok (.aload_n 0, 1) := by decide +kernel
theorem dX12_put_1 : decode cX12_put 1 = .ok (.getfield 88, 3) := by decide +kernel
theorem dX12_put_4 : decode cX12_put 4 = .ok (.aload_n 0, 1) := by decide +kernel
theorem dX12_put_5 : decode cX12_put 5 = .ok (.getfield 370, 3) := by decide +kernel
theorem dX12_put_8 : decode cX12_put 8 = .ok (.iload_n 1, 1) := by decide +kernel
theorem dX12_put_9 : decode cX12_put 9 = .ok (.iastore, 1) := by decide +kernel
theorem dX12_put_10 : decode cX12_put 10 = .ok (.aload_n 0, 1) := by decide +kernel
theorem dX12_put_11 : decode cX12_put 11 = .ok (.dup, 1) := by decide +kernel
theorem dX12_put_12 : decode cX12_put 12 = .ok (.getfield 370, 3) := by decide +kernel
theorem dX12_put_15 : decode cX12_put 15 = .ok (.iconst 1, 1) := by decide +kernel
theorem dX12_put_16 : decode cX12_put 16 = .ok (.iadd, 1) := by decide +kernel
theorem dX12_put_17 : decode cX12_put 17 = .ok (.putfield 370, 3) := by decide +kernel
theorem dX12_put_20 : decode cX12_put 20 = .ok (.return_, 1) := by decide +kernel
def mX12_put (x1 : Int32) (t : zS) : zR := zwr t 27 9000 (t 0 42) x1 fun t2865 => zpt t2865 0 42 ((t2865 0 42) + 1) fun t2866 => some (0, t2866)
set_option maxHeartbeats 4000000 in
set_option maxRecDepth 20000 in
theorem ctX12_put {E : zE} {f : Nat} (hf : 1 ≤ f) {x1 : Int32} {t : zS} {ro : Int32 × zS} (hF : mX12_put  x1 t = some ro) : zM E shM f yX12_put cX12_put 2 none [.ref (za E 0), .int x1] t ro := by
  refine zM_of (by decide) (Nat.le_of_ble_eq_true rfl) (fun C => ?_)
  show zJ E shM C cX12_put RX12 2 f none ro t 0 [(0, .ref (za E 0)), (1, .int x1)] []
  unfold mX12_put at hF
  refine z_aload_n 0 dX12_put_0 rfl rfl ?_
  refine z_getr fr_RX12_88 dX12_put_1 ?_
  refine z_aload_n 0 dX12_put_4 rfl rfl ?_
  refine z_geti fi_RX12_370 dX12_put_5 ?_
  refine z_iload_n 1 dX12_put_8 rfl rfl ?_
  obtain ⟨hi2864, hF⟩ := zwr_at hF
  refine z_iast (n := 9000) rfl hi2864 dX12_put_9 (fun t2865 et2865 => ?_)
  have hF := hF t2865 et2865
  refine z_aload_n 0 dX12_put_10 rfl rfl ?_
  refine z_dup dX12_put_11 rfl ?_
  refine z_geti fi_RX12_370 dX12_put_12 ?_
  refine z_iconst (v := 1) dX12_put_15 (by decide) ?_
  refine z_iadd dX12_put_16 ?_
  refine z_puti fw_RX12_370 dX12_put_17 (fun t2866 et2866 => ?_)
  have hF := zpt_at hF t2866 et2866
  exact z_vret hF dX12_put_20
