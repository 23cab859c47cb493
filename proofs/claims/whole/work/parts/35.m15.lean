-- SessionHouseModel.thenOf(I)I
theorem dX12_thenOf_0 : decode cX12_thenOf 0 = .ok (.aload_n 0, 1) := by decide +kernel
theorem dX12_thenOf_1 : decode cX12_thenOf 1 = .ok (.iconst 2, 1) := by decide +kernel
theorem dX12_thenOf_2 : decode cX12_thenOf 2 = .ok (.aload_n 0, 1) := by decide +kernel
theorem dX12_thenOf_3 : decode cX12_thenOf 3 = .ok (.getfield 25, 3) := by decide +kernel
theorem dX12_thenOf_6 : decode cX12_thenOf 6 = .ok (.iload_n 1, 1) := by decide +kernel
theorem dX12_thenOf_7 : decode cX12_thenOf 7 = .ok (.iconst 2, 1) := by decide +kernel
theorem dX12_thenOf_8 : decode cX12_thenOf 8 = .ok (.idiv, 1) := by decide +kernel
theorem dX12_thenOf_9 : decode cX12_thenOf 9 = .ok (.iaload, 1) := by decide +kernel
theorem dX12_thenOf_10 : decode cX12_thenOf 10 = .ok (.imul, 1) := by decide +kernel
theorem dX12_thenOf_11 : decode cX12_thenOf 11 = .ok (.iload_n 1, 1) := by decide +kernel
theorem dX12_thenOf_12 : decode cX12_thenOf 12 = .ok (.iconst 2, 1) := by decide +kernel
theorem dX12_thenOf_13 : decode cX12_thenOf 13 = .ok (.irem, 1) := by decide +kernel
theorem dX12_thenOf_14 : decode cX12_thenOf 14 = .ok (.iadd, 1) := by decide +kernel
theorem dX12_thenOf_15 : decode cX12_thenOf 15 = .ok (.invokevirtual 432, 3) := by decide +kernel
theorem dX12_thenOf_18 : decode cX12_thenOf 18 = .ok (.ireturn, 1) := by decide +kernel
def mX12_thenOf (x1 : Int32) (t : zS) : zR := zrd t 6 3100 (x1 / 2) fun v3587 => zbd (mX12_plain ((2 * v3587) + (x1 - x1 / 2 * 2)) t) fun r3589 t3590 => some (r3589, t3590)
set_option maxHeartbeats 4000000 in
set_option maxRecDepth 20000 in
theorem ctX12_thenOf {E : zE} {f : Nat} (hf : 2 ≤ f) {x1 : Int32} {t : zS} {ro : Int32 × zS} (hF : mX12_thenOf  x1 t = some ro) : zM E shM f yX12_thenOf cX12_thenOf 2 (some .int) [.ref (za E 0), .int x1] t ro := by
  refine zM_of (by decide) (Nat.le_of_ble_eq_true rfl) (fun C => ?_)
  show zJ E shM C cX12_thenOf RX12 2 f (some .int) ro t 0 [(0, .ref (za E 0)), (1, .int x1)] []
  unfold mX12_thenOf at hF
  refine z_aload_n 0 dX12_thenOf_0 rfl rfl ?_
  refine z_iconst (v := 2) dX12_thenOf_1 (by decide) ?_
  refine z_aload_n 0 dX12_thenOf_2 rfl rfl ?_
  refine z_getr fr_RX12_25 dX12_thenOf_3 ?_
  refine z_iload_n 1 dX12_thenOf_6 rfl rfl ?_
  refine z_iconst (v := 2) dX12_thenOf_7 (by decide) ?_
  refine z_idiv dX12_thenOf_8 (by decide) ?_
  obtain ⟨hi3588, hF⟩ := zrd_at hF
  refine z_iald (n := 3100) rfl hi3588 dX12_thenOf_9 ?_
  generalize t 6 (Int32.toNatClampNeg (x1 / 2)) = v3587 at hF ⊢
  refine z_imul dX12_thenOf_10 ?_
  refine z_iload_n 1 dX12_thenOf_11 rfl rfl ?_
  refine z_iconst (v := 2) dX12_thenOf_12 (by decide) ?_
  refine z_irem dX12_thenOf_13 (by decide) ?_
  refine z_iadd dX12_thenOf_14 ?_
  obtain ⟨r3589, t3590, hc3591, hF⟩ := zbd_at hF
  refine z_callVi (ctX12_plain (E := E) (f := f - 1) (by omega) hc3591) yy_X12_plain yv_X12_plain ob_M_0 lk_RX12_432 (by omega) rfl rfl (Nat.le_of_ble_eq_true rfl) dX12_thenOf_15 ?_
  exact z_iret hF dX12_thenOf_18
-- SessionHouseModel.givenOf(I)I
theorem dX12_givenOf_0 : decode cX12_givenOf 0 = .ok (.aload_n 0, 1) := by decide +kernel
theorem dX12_givenOf_1 : decode cX12_givenOf 1 = .ok (.iconst 2, 1) := by decide +kernel
theorem dX12_givenOf_2 : decode cX12_givenOf 2 = .ok (.aload_n 0, 1) := by decide +kernel
theorem dX12_givenOf_3 : decode cX12_givenOf 3 = .ok (.getfield 28, 3) := by decide +kernel
theorem dX12_givenOf_6 : decode cX12_givenOf 6 = .ok (.iload_n 1, 1) := by decide +kernel
theorem dX12_givenOf_7 : decode cX12_givenOf 7 = .ok (.iconst 2, 1) := by decide +kernel
theorem dX12_givenOf_8 : decode cX12_givenOf 8 = .ok (.idiv, 1) := by decide +kernel
theorem dX12_givenOf_9 : decode cX12_givenOf 9 = .ok (.iaload, 1) := by decide +kernel
theorem dX12_givenOf_10 : decode cX12_givenOf 10 = .ok (.imul, 1) := by decide +kernel
theorem dX12_givenOf_11 : decode cX12_givenOf 11 = .ok (.invokevirtual 432, 3) := by decide +kernel
theorem dX12_givenOf_14 : decode cX12_givenOf 14 = .ok (.ireturn, 1) := by decide +kernel
def mX12_givenOf (x1 : Int32) (t : zS) : zR := zrd t 7 3100 (x1 / 2) fun v3592 => zbd (mX12_plain (2 * v3592) t) fun r3594 t3595 => some (r3594, t3595)
set_option maxHeartbeats 4000000 in
set_option maxRecDepth 20000 in
theorem ctX12_givenOf {E : zE} {f : Nat} (hf : 2 ≤ f) {x1 : Int32} {t : zS} {ro : Int32 × zS} (hF : mX12_givenOf  x1 t = some ro) : zM E shM f yX12_givenOf cX12_givenOf 2 (some .int) [.ref (za E 0), .int x1] t ro := by
  refine zM_of (by decide) (Nat.le_of_ble_eq_true rfl) (fun C => ?_)
  show zJ E shM C cX12_givenOf RX12 2 f (some .int) ro t 0 [(0, .ref (za E 0)), (1, .int x1)] []
  unfold mX12_givenOf at hF
  refine z_aload_n 0 dX12_givenOf_0 rfl rfl ?_
  refine z_iconst (v := 2) dX12_givenOf_1 (by decide) ?_
  refine z_aload_n 0 dX12_givenOf_2 rfl rfl ?_
  refine z_getr fr_RX12_28 dX12_givenOf_3 ?_
  refine z_iload_n 1 dX12_givenOf_6 rfl rfl ?_
  refine z_iconst (v := 2) dX12_givenOf_7 (by decide) ?_
  refine z_idiv dX12_givenOf_8 (by decide) ?_
  obtain ⟨hi3593, hF⟩ := zrd_at hF
  refine z_iald (n := 3100) rfl hi3593 dX12_givenOf_9 ?_
  generalize t 7 (Int32.toNatClampNeg (x1 / 2)) = v3592 at hF ⊢
  refine z_imul dX12_givenOf_10 ?_
  obtain ⟨r3594, t3595, hc3596, hF⟩ := zbd_at hF
  refine z_callVi (ctX12_plain (E := E) (f := f - 1) (by omega) hc3596) yy_X12_plain yv_X12_plain ob_M_0 lk_RX12_432 (by omega) rfl rfl (Nat.le_of_ble_eq_true rfl) dX12_givenOf_11 ?_
  exact z_iret hF dX12_givenOf_14
-- SessionHouseModel.pair(II)V
theorem dX12_pair_0 : decode cX12_pair 0 = .ok (.aload_n 0, 1) := by decide +kernel
theorem dX12_pair_1 : decode cX12_pair 1 = .ok (.getfield 131, 3) := by decide +kernel
theorem dX12_pair_4 : decode cX12_pair 4 = .ok (.aload_n 0, 1) := by decide +kernel
theorem dX12_pair_5 : decode cX12_pair 5 = .ok (.getfield 435, 3) := by decide +kernel
theorem dX12_pair_8 : decode cX12_pair 8 = .ok (.iload_n 1, 1) := by decide +kernel
theorem dX12_pair_9 : decode cX12_pair 9 = .ok (.iastore, 1) := by decide +kernel
theorem dX12_pair_10 : decode cX12_pair 10 = .ok (.aload_n 0, 1) := by decide +kernel
theorem dX12_pair_11 : decode cX12_pair 11 = .ok (.getfield 131, 3) := by decide +kernel
theorem dX12_pair_14 : decode cX12_pair 14 = .ok (.aload_n 0, 1) := by decide +kernel
theorem dX12_pair_15 : decode cX12_pair 15 = .ok (.getfield 435, 3) := by decide +kernel
theorem dX12_pair_18 : decode cX12_pair 18 = .ok (.iconst 1, 1) := by decide +kernel
theorem dX12_pair_19 : decode cX12_pair 19 = .ok (.iadd, 1) := by decide +kernel
theorem dX12_pair_20 : decode cX12_pair 20 = .ok (.iload_n 2, 1) := by decide +kernel
theorem dX12_pair_21 : decode cX12_pair 21 = .ok (.iastore, 1) := by decide +kernel
theorem dX12_pair_22 : decode cX12_pair 22 = .ok (.aload_n 0, 1) := by decide +kernel
theorem dX12_pair_23 : decode cX12_pair 23 = .ok (.dup, 1) := by decide +kernel
theorem dX12_pair_24 : decode cX12_pair 24 = .ok (.getfield 435, 3) := by decide +kernel
theorem dX12_pair_27 : decode cX12_pair 27 = .ok (.iconst 2, 1) := by decide +kernel
theorem dX12_pair_28 : decode cX12_pair 28 = .ok (.iadd, 1) := by decide +kernel
theorem dX12_pair_29 : decode cX12_pair 29 = .ok (.putfield 435, 3) := by decide +kernel
theorem dX12_pair_32 : decode cX12_pair 32 = .ok (.return_, 1) := by decide +kernel
def mX12_pair (x1 : Int32) (x2 : Int32) (t : zS) : zR := zwr t 41 30000 (t 0 65) x1 fun t3598 => zwr t3598 41 30000 ((t3598 0 65) + 1) x2 fun t3600 => zpt t3600 0 65 ((t3600 0 65) + 2) fun t3601 => some (0, t3601)
set_option maxHeartbeats 4000000 in
set_option maxRecDepth 20000 in
theorem ctX12_pair {E : zE} {f : Nat} (hf : 1 ≤ f) {x1 : Int32} {x2 : Int32} {t : zS} {ro : Int32 × zS} (hF : mX12_pair  x1 x2 t = some ro) : zM E shM f yX12_pair cX12_pair 3 none [.ref (za E 0), .int x1, .int x2] t ro := by
  refine zM_of (by decide) (Nat.le_of_ble_eq_true rfl) (fun C => ?_)
  show zJ E shM C cX12_pair RX12 3 f none ro t 0 [(0, .ref (za E 0)), (1, .int x1), (2, .int x2)] []
  unfold mX12_pair at hF
  refine z_aload_n 0 dX12_pair_0 rfl rfl ?_
  refine z_getr fr_RX12_131 dX12_pair_1 ?_
  refine z_aload_n 0 dX12_pair_4 rfl rfl ?_
  refine z_geti fi_RX12_435 dX12_pair_5 ?_
  refine z_iload_n 1 dX12_pair_8 rfl rfl ?_
  obtain ⟨hi3597, hF⟩ := zwr_at hF
  refine z_iast (n := 30000) rfl hi3597 dX12_pair_9 (fun t3598 et3598 => ?_)
  have hF := hF t3598 et3598
  refine z_aload_n 0 dX12_pair_10 rfl rfl ?_
  refine z_getr fr_RX12_131 dX12_pair_11 ?_
  refine z_aload_n 0 dX12_pair_14 rfl rfl ?_
  refine z_geti fi_RX12_435 dX12_pair_15 ?_
  refine z_iconst (v := 1) dX12_pair_18 (by decide) ?_
  refine z_iadd dX12_pair_19 ?_
  refine z_iload_n 2 dX12_pair_20 rfl rfl ?_
  obtain ⟨hi3599, hF⟩ := zwr_at hF
  refine z_iast (n := 30000) rfl hi3599 dX12_pair_21 (fun t3600 et3600 => ?_)
  have hF := hF t3600 et3600
  refine z_aload_n 0 dX12_pair_22 rfl rfl ?_
  refine z_dup dX12_pair_23 rfl ?_
  refine z_geti fi_RX12_435 dX12_pair_24 ?_
  refine z_iconst (v := 2) dX12_pair_27 (by decide) ?_
  refine z_iadd dX12_pair_28 ?_
  refine z_puti fw_RX12_435 dX12_pair_29 (fun t3601 et3601 => ?_)
  have hF := zpt_at hF t3601 et3601
  exact z_vret hF dX12_pair_32
-- SessionHouseModel.root(I)I
theorem dX12_root_0 : decode cX12_root 0 = .ok (.iload_n 1, 1) := by decide +kernel
theorem dX12_root_1 : decode cX12_root 1 = .ok (.istore_n 2, 1) := by decide +kernel
theorem dX12_root_2 : decode cX12_root 2 = .ok (.aload_n 0, 1) := by decide +kernel
theorem dX12_root_3 : decode cX12_root 3 = .ok (.getfield 128, 3) := by decide +kernel
theorem dX12_root_6 : decode cX12_root 6 = .ok (.iload_n 2, 1) := by decide +kernel
theorem dX12_root_7 : decode cX12_root 7 = .ok (.iaload, 1) := by decide +kernel
theorem dX12_root_8 : decode cX12_root 8 = .ok (.iload_n 2, 1) := by decide +kernel
theorem dX12_root_9 : decode cX12_root 9 = .ok (.if_icmp .eq 13, 3) := by decide +kernel
theorem dX12_root_12 : decode cX12_root 12 = .ok (.aload_n 0, 1) := by decide +kernel
theorem dX12_root_13 : decode cX12_root 13 = .ok (.getfield 128, 3) := by decide +kernel
theorem dX12_root_16 : decode cX12_root 16 = .ok (.iload_n 2, 1) := by decide +kernel
theorem dX12_root_17 : decode cX12_root 17 = .ok (.iaload, 1) := by decide +kernel
theorem dX12_root_18 : decode cX12_root 18 = .ok (.istore_n 2, 1) := by decide +kernel
theorem dX12_root_19 : decode cX12_root 19 = .ok (.goto (-17), 3) := by decide +kernel
theorem dX12_root_22 : decode cX12_root 22 = .ok (.iload_n 2, 1) := by decide +kernel
theorem dX12_root_23 : decode cX12_root 23 = .ok (.ireturn, 1) := by decide +kernel
def bX12_root_2 (k2 : Int32 → zS → zR) (x2 : Int32) (t : zS) : zR := zrd t 40 6200 x2 fun v3602 => if v3602 = x2 then some (x2, t) else zrd t 40 6200 x2 fun v3604 => k2 v3604 t
def lX12_root_2 : Nat → Int32 → zS → zR
  | 0, _, _ => none
  | fu + 1, x2, t => bX12_root_2 (lX12_root_2  fu) x2 t
def mX12_root (x1 : Int32) (t : zS) : zR := lX12_root_2  zFU x1 t
set_option maxHeartbeats 4000000 in
set_option maxRecDepth 20000 in
theorem wbX12_root_2 {E : zE} {C : zC} {f : Nat} {ro : Int32 × zS} (hf : 1 ≤ f) (k2 : Int32 → zS → zR) (hk2 : ∀ (x2 : Int32) (t : zS), k2 x2 t = some ro → zJ E shM C cX12_root RX12 3 f (some .int) ro t 2 [(0, .ref (za E 0)), (2, .int x2)] []) (x2 : Int32) (t : zS) (hF : bX12_root_2 k2 x2 t = some ro) : zJ E shM C cX12_root RX12 3 f (some .int) ro t 2 [(0, .ref (za E 0)), (2, .int x2)] [] := by
  unfold bX12_root_2 at hF
  refine z_aload_n 0 dX12_root_2 rfl rfl ?_
  refine z_getr fr_RX12_128 dX12_root_3 ?_
  refine z_iload_n 1 dX12_root_6 rfl rfl ?_
  obtain ⟨hi3603, hF⟩ := zrd_at hF
  refine z_iald (n := 6200) rfl hi3603 dX12_root_7 ?_
  generalize t 40 (Int32.toNatClampNeg x2) = v3602 at hF ⊢
  refine z_iload_n 1 dX12_root_8 rfl rfl ?_
  refine z_icmp_eq (tgt := 22) dX12_root_9 (by decide) (fun hc => ?_) (fun hc => ?_)
  · have hF := zif_t hc hF
    refine z_iload_n 1 dX12_root_22 rfl rfl ?_
    exact z_iret hF dX12_root_23
  · have hF := zif_f hc hF
    refine z_aload_n 0 dX12_root_12 rfl rfl ?_
    refine z_getr fr_RX12_128 dX12_root_13 ?_
    refine z_iload_n 1 dX12_root_16 rfl rfl ?_
    obtain ⟨hi3605, hF⟩ := zrd_at hF
    refine z_iald (n := 6200) rfl hi3605 dX12_root_17 ?_
    generalize t 40 (Int32.toNatClampNeg x2) = v3604 at hF ⊢
    refine z_istore_n (lv' := [(2, .int v3604), (0, .ref (za E 0))]) dX12_root_18 rfl (by decide) rfl ?_
    refine z_goto (tgt := 2) dX12_root_19 (by decide) ?_
    refine z_sub [1, 0] rfl ?_
    exact hk2 v3604 _ hF
set_option maxHeartbeats 4000000 in
set_option maxRecDepth 20000 in
theorem wlX12_root_2 {E : zE} {C : zC} {f : Nat} {ro : Int32 × zS} (hf : 1 ≤ f) (fu : Nat) : ∀ (x2 : Int32) (t : zS), lX12_root_2  fu x2 t = some ro → zJ E shM C cX12_root RX12 3 f (some .int) ro t 2 [(0, .ref (za E 0)), (2, .int x2)] [] := by
  induction fu with
  | zero => intro x2 t hF; cases hF
  | succ fu ih => intro x2 t hF; exact wbX12_root_2 hf (lX12_root_2  fu) ih x2 t hF
set_option maxHeartbeats 4000000 in
set_option maxRecDepth 20000 in
theorem ctX12_root {E : zE} {f : Nat} (hf : 1 ≤ f) {x1 : Int32} {t : zS} {ro : Int32 × zS} (hF : mX12_root  x1 t = some ro) : zM E shM f yX12_root cX12_root 3 (some .int) [.ref (za E 0), .int x1] t ro := by
  refine zM_of (by decide) (Nat.le_of_ble_eq_true rfl) (fun C => ?_)
  show zJ E shM C cX12_root RX12 3 f (some .int) ro t 0 [(0, .ref (za E 0)), (1, .int x1)] []
  unfold mX12_root at hF
  refine z_iload_n 1 dX12_root_0 rfl rfl ?_
  refine z_istore_n (lv' := [(2, .int x1), (0, .ref (za E 0)), (1, .int x1)]) dX12_root_1 rfl (by decide) rfl ?_
  refine z_sub [1, 0] rfl ?_
  exact wlX12_root_2 hf  zFU x1 _ hF
-- SessionHouseModel.byLabel(II)I
theorem dX12_byLabel_0 : decode cX12_byLabel 0 = .ok (.iload_n 1, 1) := by decide +kernel
theorem dX12_byLabel_1 : decode cX12_byLabel 1 = .ok (.iconst 2, 1) := by decide +kernel
theorem dX12_byLabel_2 : decode cX12_byLabel 2 = .ok (.idiv, 1) := by decide +kernel
theorem dX12_byLabel_3 : decode cX12_byLabel 3 = .ok (.istore_n 3, 1) := by decide +kernel
theorem dX12_byLabel_4 : decode cX12_byLabel 4 = .ok (.aload_n 0, 1) := by decide +kernel
theorem dX12_byLabel_5 : decode cX12_byLabel 5 = .ok (.getfield 28, 3) := by decide +kernel
theorem dX12_byLabel_8 : decode cX12_byLabel 8 = .ok (.iload_n 3, 1) := by decide +kernel
theorem dX12_byLabel_9 : decode cX12_byLabel 9 = .ok (.iaload, 1) := by decide +kernel
theorem dX12_byLabel_10 : decode cX12_byLabel 10 = .ok (.istore 4, 2) := by decide +kernel
theorem dX12_byLabel_12 : decode cX12_byLabel 12 = .ok (.iload 4, 2) := by decide +kernel
theorem dX12_byLabel_14 : decode cX12_byLabel 14 = .ok (.aload_n 0, 1) := by decide +kernel
theorem dX12_byLabel_15 : decode cX12_byLabel 15 = .ok (.getfield 28, 3) := by decide +kernel
theorem dX12_byLabel_18 : decode cX12_byLabel 18 = .ok (.iload_n 3, 1) := by decide +kernel
theorem dX12_byLabel_19 : decode cX12_byLabel 19 = .ok (.iaload, 1) := by decide +kernel
theorem dX12_byLabel_20 : decode cX12_byLabel 20 = .ok (.aload_n 0, 1) := by decide +kernel
theorem dX12_byLabel_21 : decode cX12_byLabel 21 = .ok (.getfield 31, 3) := by decide +kernel
theorem dX12_byLabel_24 : decode cX12_byLabel 24 = .ok (.iload_n 3, 1) := by decide +kernel
theorem dX12_byLabel_25 : decode cX12_byLabel 25 = .ok (.iaload, 1) := by decide +kernel
theorem dX12_byLabel_26 : decode cX12_byLabel 26 = .ok (.iadd, 1) := by decide +kernel
theorem dX12_byLabel_27 : decode cX12_byLabel 27 = .ok (.if_icmp .ge 38, 3) := by decide +kernel
theorem dX12_byLabel_30 : decode cX12_byLabel 30 = .ok (.aload_n 0, 1) := by decide +kernel
theorem dX12_byLabel_31 : decode cX12_byLabel 31 = .ok (.getfield 34, 3) := by decide +kernel
theorem dX12_byLabel_34 : decode cX12_byLabel 34 = .ok (.iload 4, 2) := by decide +kernel
theorem dX12_byLabel_36 : decode cX12_byLabel 36 = .ok (.iaload, 1) := by decide +kernel
theorem dX12_byLabel_37 : decode cX12_byLabel 37 = .ok (.iload_n 2, 1) := by decide +kernel
theorem dX12_byLabel_38 : decode cX12_byLabel 38 = .ok (.if_icmp .ne 21, 3) := by decide +kernel
theorem dX12_byLabel_41 : decode cX12_byLabel 41 = .ok (.aload_n 0, 1) := by decide +kernel
theorem dX12_byLabel_42 : decode cX12_byLabel 42 = .ok (.iconst 2, 1) := by decide +kernel
theorem dX12_byLabel_43 : decode cX12_byLabel 43 = .ok (.aload_n 0, 1) := by decide +kernel
theorem dX12_byLabel_44 : decode cX12_byLabel 44 = .ok (.getfield 37, 3) := by decide +kernel
theorem dX12_byLabel_47 : decode cX12_byLabel 47 = .ok (.iload 4, 2) := by decide +kernel
theorem dX12_byLabel_49 : decode cX12_byLabel 49 = .ok (.iaload, 1) := by decide +kernel
theorem dX12_byLabel_50 : decode cX12_byLabel 50 = .ok (.imul, 1) := by decide +kernel
theorem dX12_byLabel_51 : decode cX12_byLabel 51 = .ok (.iload_n 1, 1) := by decide +kernel
theorem dX12_byLabel_52 : decode cX12_byLabel 52 = .ok (.iconst 2, 1) := by decide +kernel
theorem dX12_byLabel_53 : decode cX12_byLabel 53 = .ok (.irem, 1) := by decide +kernel
theorem dX12_byLabel_54 : decode cX12_byLabel 54 = .ok (.iadd, 1) := by decide +kernel
theorem dX12_byLabel_55 : decode cX12_byLabel 55 = .ok (.invokevirtual 432, 3) := by decide +kernel
theorem dX12_byLabel_58 : decode cX12_byLabel 58 = .ok (.ireturn, 1) := by decide +kernel
theorem dX12_byLabel_59 : decode cX12_byLabel 59 = .ok (.iinc 4 1, 3) := by decide +kernel
theorem dX12_byLabel_62 : decode cX12_byLabel 62 = .ok (.goto (-50), 3) := by decide +kernel
theorem dX12_byLabel_65 : decode cX12_byLabel 65 = .ok (.iconst (-1), 1) := by decide +kernel
theorem dX12_byLabel_66 : decode cX12_byLabel 66 = .ok (.ireturn, 1) := by decide +kernel
def bX12_byLabel_12 (k12 : Int32 → Int32 → Int32 → Int32 → zS → zR) (x1 : Int32) (x2 : Int32) (x3 : Int32) (x4 : Int32) (t : zS) : zR := zrd t 7 3100 x3 fun v3606 => zrd t 8 3100 x3 fun v3608 => if (v3606 + v3608) ≤ x4 then some ((-1), t) else zrd t 9 1600 x4 fun v3610 => if v3610 = x2 then zrd t 10 1600 x4 fun v3613 => zbd (mX12_plain ((2 * v3613) + (x1 - x1 / 2 * 2)) t) fun r3615 t3616 => some (r3615, t3616) else zlet (x4 + 1) fun v3612 => k12 x1 x2 x3 v3612 t
def lX12_byLabel_12 : Nat → Int32 → Int32 → Int32 → Int32 → zS → zR
  | 0, _, _, _, _, _ => none
  | fu + 1, x1, x2, x3, x4, t => bX12_byLabel_12 (lX12_byLabel_12  fu) x1 x2 x3 x4 t
def mX12_byLabel (x1 : Int32) (x2 : Int32) (t : zS) : zR := zlet (x1 / 2) fun v3618 => zrd t 7 3100 v3618 fun v3619 => lX12_byLabel_12  zFU x1 x2 v3618 v3619 t
set_option maxHeartbeats 4000000 in
set_option maxRecDepth 20000 in
theorem wbX12_byLabel_12 {E : zE} {C : zC} {f : Nat} {ro : Int32 × zS} (hf : 2 ≤ f) (k12 : Int32 → Int32 → Int32 → Int32 → zS → zR) (hk12 : ∀ (x1 x2 x3 x4 : Int32) (t : zS), k12 x1 x2 x3 x4 t = some ro → zJ E shM C cX12_byLabel RX12 5 f (some .int) ro t 12 [(0, .ref (za E 0)), (1, .int x1), (2, .int x2), (3, .int x3), (4, .int x4)] []) (x1 : Int32) (x2 : Int32) (x3 : Int32) (x4 : Int32) (t : zS) (hF : bX12_byLabel_12 k12 x1 x2 x3 x4 t = some ro) : zJ E shM C cX12_byLabel RX12 5 f (some .int) ro t 12 [(0, .ref (za E 0)), (1, .int x1), (2, .int x2), (3, .int x3), (4, .int x4)] [] := by
  unfold bX12_byLabel_12 at hF
  refine z_iload 4 dX12_byLabel_12 rfl ?_
  refine z_aload_n 0 dX12_byLabel_14 rfl rfl ?_
  refine z_getr fr_RX12_28 dX12_byLabel_15 ?_
  refine z_iload_n 3 dX12_byLabel_18 rfl rfl ?_
  obtain ⟨hi3607, hF⟩ := zrd_at hF
  refine z_iald (n := 3100) rfl hi3607 dX12_byLabel_19 ?_
  generalize t 7 (Int32.toNatClampNeg x3) = v3606 at hF ⊢
  refine z_aload_n 0 dX12_byLabel_20 rfl rfl ?_
  refine z_getr fr_RX12_31 dX12_byLabel_21 ?_
  refine z_iload_n 3 dX12_byLabel_24 rfl rfl ?_
  obtain ⟨hi3609, hF⟩ := zrd_at hF
  refine z_iald (n := 3100) rfl hi3609 dX12_byLabel_25 ?_
  generalize t 8 (Int32.toNatClampNeg x3) = v3608 at hF ⊢
  refine z_iadd dX12_byLabel_26 ?_
  refine z_icmp_ge (tgt := 65) dX12_byLabel_27 (by decide) (fun hc => ?_) (fun hc => ?_)
  · have hF := zif_t hc hF
    refine z_iconst (v := (-1)) dX12_byLabel_65 (by decide) ?_
    exact z_iret hF dX12_byLabel_66
  · have hF := zif_f hc hF
    refine z_aload_n 0 dX12_byLabel_30 rfl rfl ?_
    refine z_getr fr_RX12_34 dX12_byLabel_31 ?_
    refine z_iload 4 dX12_byLabel_34 rfl ?_
    obtain ⟨hi3611, hF⟩ := zrd_at hF
    refine z_iald (n := 1600) rfl hi3611 dX12_byLabel_36 ?_
    generalize t 9 (Int32.toNatClampNeg x4) = v3610 at hF ⊢
    refine z_iload_n 2 dX12_byLabel_37 rfl rfl ?_
    refine z_icmp_ne (tgt := 59) dX12_byLabel_38 (by decide) (fun hc => ?_) (fun hc => ?_)
    · have hF := zif_f hc hF
      obtain ⟨v3612, ev3612⟩ : ∃ y : Int32, y = (x4 + 1) := ⟨_, rfl⟩
      have hF := zlet_at ev3612 hF
      refine z_iinc (v := v3612) (lv' := [(4, .int v3612), (0, .ref (za E 0)), (1, .int x1), (2, .int x2), (3, .int x3)]) (k := 4) dX12_byLabel_59 rfl (by rw [ev3612]; rfl) (by decide) rfl ?_
      refine z_goto (tgt := 12) dX12_byLabel_62 (by decide) ?_
      refine z_sub [1, 2, 3, 4, 0] rfl ?_
      exact hk12 x1 x2 x3 v3612 _ hF
    · have hF := zif_t hc hF
      refine z_aload_n 0 dX12_byLabel_41 rfl rfl ?_
      refine z_iconst (v := 2) dX12_byLabel_42 (by decide) ?_
      refine z_aload_n 0 dX12_byLabel_43 rfl rfl ?_
      refine z_getr fr_RX12_37 dX12_byLabel_44 ?_
      refine z_iload 4 dX12_byLabel_47 rfl ?_
      obtain ⟨hi3614, hF⟩ := zrd_at hF
      refine z_iald (n := 1600) rfl hi3614 dX12_byLabel_49 ?_
      generalize t 10 (Int32.toNatClampNeg x4) = v3613 at hF ⊢
      refine z_imul dX12_byLabel_50 ?_
      refine z_iload_n 1 dX12_byLabel_51 rfl rfl ?_
      refine z_iconst (v := 2) dX12_byLabel_52 (by decide) ?_
      refine z_irem dX12_byLabel_53 (by decide) ?_
      refine z_iadd dX12_byLabel_54 ?_
      obtain ⟨r3615, t3616, hc3617, hF⟩ := zbd_at hF
      refine z_callVi (ctX12_plain (E := E) (f := f - 1) (by omega) hc3617) yy_X12_plain yv_X12_plain ob_M_0 lk_RX12_432 (by omega) rfl rfl (Nat.le_of_ble_eq_true rfl) dX12_byLabel_55 ?_
      exact z_iret hF dX12_byLabel_58
set_option maxHeartbeats 4000000 in
set_option maxRecDepth 20000 in
theorem wlX12_byLabel_12 {E : zE} {C : zC} {f : Nat} {ro : Int32 × zS} (hf : 2 ≤ f) (fu : Nat) : ∀ (x1 x2 x3 x4 : Int32) (t : zS), lX12_byLabel_12  fu x1 x2 x3 x4 t = some ro → zJ E shM C cX12_byLabel RX12 5 f (some .int) ro t 12 [(0, .ref (za E 0)), (1, .int x1), (2, .int x2), (3, .int x3), (4, .int x4)] [] := by
  induction fu with
  | zero => intro x1 x2 x3 x4 t hF; cases hF
  | succ fu ih => intro x1 x2 x3 x4 t hF; exact wbX12_byLabel_12 hf (lX12_byLabel_12  fu) ih x1 x2 x3 x4 t hF
set_option maxHeartbeats 4000000 in
set_option maxRecDepth 20000 in
theorem ctX12_byLabel {E : zE} {f : Nat} (hf : 2 ≤ f) {x1 : Int32} {x2 : Int32} {t : zS} {ro : Int32 × zS} (hF : mX12_byLabel  x1 x2 t = some ro) : zM E shM f yX12_byLabel cX12_byLabel 5 (some .int) [.ref (za E 0), .int x1, .int x2] t ro := by
  refine zM_of (by decide) (Nat.le_of_ble_eq_true rfl) (fun C => ?_)
  show zJ E shM C cX12_byLabel RX12 5 f (some .int) ro t 0 [(0, .ref (za E 0)), (1, .int x1), (2, .int x2)] []
  unfold mX12_byLabel at hF
  refine z_iload_n 1 dX12_byLabel_0 rfl rfl ?_
  refine z_iconst (v := 2) dX12_byLabel_1 (by decide) ?_
  refine z_idiv dX12_byLabel_2 (by decide) ?_
  refine z_topi (fun v3618 ev3618 => ?_)
  have hF := zlet_at ev3618 hF
  refine z_istore_n (lv' := [(3, .int v3618), (0, .ref (za E 0)), (1, .int x1), (2, .int x2)]) dX12_byLabel_3 rfl (by decide) rfl ?_
  refine z_aload_n 1 dX12_byLabel_4 rfl rfl ?_
  refine z_getr fr_RX12_28 dX12_byLabel_5 ?_
  refine z_iload_n 0 dX12_byLabel_8 rfl rfl ?_
  obtain ⟨hi3620, hF⟩ := zrd_at hF
  refine z_iald (n := 3100) rfl hi3620 dX12_byLabel_9 ?_
  generalize t 7 (Int32.toNatClampNeg v3618) = v3619 at hF ⊢
  refine z_istore (lv' := [(4, .int v3619), (3, .int v3618), (0, .ref (za E 0)), (1, .int x1), (2, .int x2)]) dX12_byLabel_10 (by decide) rfl ?_
  refine z_sub [2, 3, 4, 1, 0] rfl ?_
  exact wlX12_byLabel_12 hf  zFU x1 x2 v3618 v3619 _ hF
-- SessionHouseModel.areEqual(II)Z
theorem dX12_areEqual_0 : decode cX12_areEqual 0 = .ok (.iconst 0, 1) := by decide +kernel
theorem dX12_areEqual_1 : decode cX12_areEqual 1 = .ok (.istore_n 3, 1) := by decide +kernel
theorem dX12_areEqual_2 : decode cX12_areEqual 2 = .ok (.iload_n 3, 1) := by decide +kernel
theorem dX12_areEqual_3 : decode cX12_areEqual 3 = .ok (.iconst 2, 1) := by decide +kernel
theorem dX12_areEqual_4 : decode cX12_areEqual 4 = .ok (.aload_n 0, 1) := by decide +kernel
theorem dX12_areEqual_5 : decode cX12_areEqual 5 = .ok (.getfield 286, 3) := by decide +kernel
theorem dX12_areEqual_8 : decode cX12_areEqual 8 = .ok (.imul, 1) := by decide +kernel
theorem dX12_areEqual_9 : decode cX12_areEqual 9 = .ok (.if_icmp .ge 16, 3) := by decide +kernel
theorem dX12_areEqual_12 : decode cX12_areEqual 12 = .ok (.aload_n 0, 1) := by decide +kernel
theorem dX12_areEqual_13 : decode cX12_areEqual 13 = .ok (.getfield 128, 3) := by decide +kernel
theorem dX12_areEqual_16 : decode cX12_areEqual 16 = .ok (.iload_n 3, 1) := by decide +kernel
theorem dX12_areEqual_17 : decode cX12_areEqual 17 = .ok (.iload_n 3, 1) := by decide +kernel
theorem dX12_areEqual_18 : decode cX12_areEqual 18 = .ok (.iastore, 1) := by decide +kernel
theorem dX12_areEqual_19 : decode cX12_areEqual 19 = .ok (.iinc 3 1, 3) := by decide +kernel
theorem dX12_areEqual_22 : decode cX12_areEqual 22 = .ok (.goto (-20), 3) := by decide +kernel
theorem dX12_areEqual_25 : decode cX12_areEqual 25 = .ok (.aload_n 0, 1) := by decide +kernel
theorem dX12_areEqual_26 : decode cX12_areEqual 26 = .ok (.iconst 0, 1) := by decide +kernel
theorem dX12_areEqual_27 : decode cX12_areEqual 27 = .ok (.putfield 435, 3) := by decide +kernel
theorem dX12_areEqual_30 : decode cX12_areEqual 30 = .ok (.aload_n 0, 1) := by decide +kernel
theorem dX12_areEqual_31 : decode cX12_areEqual 31 = .ok (.aload_n 0, 1) := by decide +kernel
theorem dX12_areEqual_32 : decode cX12_areEqual 32 = .ok (.iload_n 1, 1) := by decide +kernel
theorem dX12_areEqual_33 : decode cX12_areEqual 33 = .ok (.invokevirtual 432, 3) := by decide +kernel
theorem dX12_areEqual_36 : decode cX12_areEqual 36 = .ok (.aload_n 0, 1) := by decide +kernel
theorem dX12_areEqual_37 : decode cX12_areEqual 37 = .ok (.iload_n 2, 1) := by decide +kernel
theorem dX12_areEqual_38 : decode cX12_areEqual 38 = .ok (.invokevirtual 432, 3) := by decide +kernel
theorem dX12_areEqual_41 : decode cX12_areEqual 41 = .ok (.invokevirtual 438, 3) := by decide +kernel
theorem dX12_areEqual_44 : decode cX12_areEqual 44 = .ok (.aload_n 0, 1) := by decide +kernel
theorem dX12_areEqual_45 : decode cX12_areEqual 45 = .ok (.getfield 435, 3) := by decide +kernel
theorem dX12_areEqual_48 : decode cX12_areEqual 48 = .ok (.ifCond .le 263, 3) := by decide +kernel
theorem dX12_areEqual_51 : decode cX12_areEqual 51 = .ok (.aload_n 0, 1) := by decide +kernel
theorem dX12_areEqual_52 : decode cX12_areEqual 52 = .ok (.dup, 1) := by decide +kernel
theorem dX12_areEqual_53 : decode cX12_areEqual 53 = .ok (.getfield 435, 3) := by decide +kernel
theorem dX12_areEqual_56 : decode cX12_areEqual 56 = .ok (.iconst 2, 1) := by decide +kernel
theorem dX12_areEqual_57 : decode cX12_areEqual 57 = .ok (.isub, 1) := by decide +kernel
theorem dX12_areEqual_58 : decode cX12_areEqual 58 = .ok (.putfield 435, 3) := by decide +kernel
theorem dX12_areEqual_61 : decode cX12_areEqual 61 = .ok (.aload_n 0, 1) := by decide +kernel
theorem dX12_areEqual_62 : decode cX12_areEqual 62 = .ok (.getfield 131, 3) := by decide +kernel
theorem dX12_areEqual_65 : decode cX12_areEqual 65 = .ok (.aload_n 0, 1) := by decide +kernel
theorem dX12_areEqual_66 : decode cX12_areEqual 66 = .ok (.getfield 435, 3) := by decide +kernel
theorem dX12_areEqual_69 : decode cX12_areEqual 69 = .ok (.iaload, 1) := by decide +kernel
theorem dX12_areEqual_70 : decode cX12_areEqual 70 = .ok (.istore_n 3, 1) := by decide +kernel
theorem dX12_areEqual_71 : decode cX12_areEqual 71 = .ok (.aload_n 0, 1) := by decide +kernel
theorem dX12_areEqual_72 : decode cX12_areEqual 72 = .ok (.getfield 131, 3) := by decide +kernel
theorem dX12_areEqual_75 : decode cX12_areEqual 75 = .ok (.aload_n 0, 1) := by decide +kernel
theorem dX12_areEqual_76 : decode cX12_areEqual 76 = .ok (.getfield 435, 3) := by decide +kernel
theorem dX12_areEqual_79 : decode cX12_areEqual 79 = .ok (.iconst 1, 1) := by decide +kernel
theorem dX12_areEqual_80 : decode cX12_areEqual 80 = .ok (.iadd, 1) := by decide +kernel
theorem dX12_areEqual_81 : decode cX12_areEqual 81 = .ok (.iaload, 1) := by decide +kernel
theorem dX12_areEqual_82 : decode cX12_areEqual 82 = .ok (.istore 4, 2) := by decide +kernel
theorem dX12_areEqual_84 : decode cX12_areEqual 84 = .ok (.aload_n 0, 1) := by decide +kernel
theorem dX12_areEqual_85 : decode cX12_areEqual 85 = .ok (.iload_n 3, 1) := by decide +kernel
theorem dX12_areEqual_86 : decode cX12_areEqual 86 = .ok (.invokevirtual 442, 3) := by decide +kernel
theorem dX12_areEqual_89 : decode cX12_areEqual 89 = .ok (.istore 5, 2) := by decide +kernel
theorem dX12_areEqual_91 : decode cX12_areEqual 91 = .ok (.aload_n 0, 1) := by decide +kernel
theorem dX12_areEqual_92 : decode cX12_areEqual 92 = .ok (.iload 4, 2) := by decide +kernel
theorem dX12_areEqual_94 : decode cX12_areEqual 94 = .ok (.invokevirtual 442, 3) := by decide +kernel
theorem dX12_areEqual_97 : decode cX12_areEqual 97 = .ok (.istore 6, 2) := by decide +kernel
theorem dX12_areEqual_99 : decode cX12_areEqual 99 = .ok (.iload 5, 2) := by decide +kernel
theorem dX12_areEqual_101 : decode cX12_areEqual 101 = .ok (.iload 6, 2) := by decide +kernel
theorem dX12_areEqual_103 : decode cX12_areEqual 103 = .ok (.if_icmp .ne 6, 3) := by decide +kernel
theorem dX12_areEqual_106 : decode cX12_areEqual 106 = .ok (.goto (-62), 3) := by decide +kernel
theorem dX12_areEqual_109 : decode cX12_areEqual 109 = .ok (.aload_n 0, 1) := by decide +kernel
theorem dX12_areEqual_110 : decode cX12_areEqual 110 = .ok (.iload_n 3, 1) := by decide +kernel
theorem dX12_areEqual_111 : decode cX12_areEqual 111 = .ok (.invokevirtual 445, 3) := by decide +kernel
theorem dX12_areEqual_114 : decode cX12_areEqual 114 = .ok (.istore 7, 2) := by decide +kernel
theorem dX12_areEqual_116 : decode cX12_areEqual 116 = .ok (.iload 7, 2) := by decide +kernel
theorem dX12_areEqual_118 : decode cX12_areEqual 118 = .ok (.aload_n 0, 1) := by decide +kernel
theorem dX12_areEqual_119 : decode cX12_areEqual 119 = .ok (.iload 4, 2) := by decide +kernel
theorem dX12_areEqual_121 : decode cX12_areEqual 121 = .ok (.invokevirtual 445, 3) := by decide +kernel
theorem dX12_areEqual_124 : decode cX12_areEqual 124 = .ok (.if_icmp .eq 5, 3) := by decide +kernel
theorem dX12_areEqual_127 : decode cX12_areEqual 127 = .ok (.iconst 0, 1) := by decide +kernel
theorem dX12_areEqual_128 : decode cX12_areEqual 128 = .ok (.ireturn, 1) := by decide +kernel
theorem dX12_areEqual_129 : decode cX12_areEqual 129 = .ok (.aload_n 0, 1) := by decide +kernel
theorem dX12_areEqual_130 : decode cX12_areEqual 130 = .ok (.getfield 128, 3) := by decide +kernel
theorem dX12_areEqual_133 : decode cX12_areEqual 133 = .ok (.iload 5, 2) := by decide +kernel
theorem dX12_areEqual_135 : decode cX12_areEqual 135 = .ok (.iload 6, 2) := by decide +kernel
theorem dX12_areEqual_137 : decode cX12_areEqual 137 = .ok (.iastore, 1) := by decide +kernel
theorem dX12_areEqual_138 : decode cX12_areEqual 138 = .ok (.iload 7, 2) := by decide +kernel
theorem dX12_areEqual_140 : decode cX12_areEqual 140 = .ok (.bipush 7, 2) := by decide +kernel
theorem dX12_areEqual_142 : decode cX12_areEqual 142 = .ok (.if_icmp .eq 10, 3) := by decide +kernel
theorem dX12_areEqual_145 : decode cX12_areEqual 145 = .ok (.iload 7, 2) := by decide +kernel
theorem dX12_areEqual_147 : decode cX12_areEqual 147 = .ok (.bipush 8, 2) := by decide +kernel
theorem dX12_areEqual_149 : decode cX12_areEqual 149 = .ok (.if_icmp .ne 111, 3) := by decide +kernel
theorem dX12_areEqual_152 : decode cX12_areEqual 152 = .ok (.aload_n 0, 1) := by decide +kernel
theorem dX12_areEqual_153 : decode cX12_areEqual 153 = .ok (.getfield 31, 3) := by decide +kernel
theorem dX12_areEqual_156 : decode cX12_areEqual 156 = .ok (.iload_n 3, 1) := by decide +kernel
theorem dX12_areEqual_157 : decode cX12_areEqual 157 = .ok (.iconst 2, 1) := by decide +kernel
theorem dX12_areEqual_158 : decode cX12_areEqual 158 = .ok (.idiv, 1) := by decide +kernel
theorem dX12_areEqual_159 : decode cX12_areEqual 159 = .ok (.iaload, 1) := by decide +kernel
theorem dX12_areEqual_160 : decode cX12_areEqual 160 = .ok (.aload_n 0, 1) := by decide +kernel
theorem dX12_areEqual_161 : decode cX12_areEqual 161 = .ok (.getfield 31, 3) := by decide +kernel
theorem dX12_areEqual_164 : decode cX12_areEqual 164 = .ok (.iload 4, 2) := by decide +kernel
theorem dX12_areEqual_166 : decode cX12_areEqual 166 = .ok (.iconst 2, 1) := by decide +kernel
theorem dX12_areEqual_167 : decode cX12_areEqual 167 = .ok (.idiv, 1) := by decide +kernel
theorem dX12_areEqual_168 : decode cX12_areEqual 168 = .ok (.iaload, 1) := by decide +kernel
theorem dX12_areEqual_169 : decode cX12_areEqual 169 = .ok (.if_icmp .eq 5, 3) := by decide +kernel
theorem dX12_areEqual_172 : decode cX12_areEqual 172 = .ok (.iconst 0, 1) := by decide +kernel
theorem dX12_areEqual_173 : decode cX12_areEqual 173 = .ok (.ireturn, 1) := by decide +kernel
theorem dX12_areEqual_174 : decode cX12_areEqual 174 = .ok (.aload_n 0, 1) := by decide +kernel
theorem dX12_areEqual_175 : decode cX12_areEqual 175 = .ok (.getfield 28, 3) := by decide +kernel
theorem dX12_areEqual_178 : decode cX12_areEqual 178 = .ok (.iload_n 3, 1) := by decide +kernel
theorem dX12_areEqual_179 : decode cX12_areEqual 179 = .ok (.iconst 2, 1) := by decide +kernel
theorem dX12_areEqual_180 : decode cX12_areEqual 180 = .ok (.idiv, 1) := by decide +kernel
theorem dX12_areEqual_181 : decode cX12_areEqual 181 = .ok (.iaload, 1) := by decide +kernel
theorem dX12_areEqual_182 : decode cX12_areEqual 182 = .ok (.istore 8, 2) := by decide +kernel
theorem dX12_areEqual_184 : decode cX12_areEqual 184 = .ok (.iload 8, 2) := by decide +kernel
theorem dX12_areEqual_186 : decode cX12_areEqual 186 = .ok (.aload_n 0, 1) := by decide +kernel
theorem dX12_areEqual_187 : decode cX12_areEqual 187 = .ok (.getfield 28, 3) := by decide +kernel
theorem dX12_areEqual_190 : decode cX12_areEqual 190 = .ok (.iload_n 3, 1) := by decide +kernel
theorem dX12_areEqual_191 : decode cX12_areEqual 191 = .ok (.iconst 2, 1) := by decide +kernel
theorem dX12_areEqual_192 : decode cX12_areEqual 192 = .ok (.idiv, 1) := by decide +kernel
theorem dX12_areEqual_193 : decode cX12_areEqual 193 = .ok (.iaload, 1) := by decide +kernel
theorem dX12_areEqual_194 : decode cX12_areEqual 194 = .ok (.aload_n 0, 1) := by decide +kernel
theorem dX12_areEqual_195 : decode cX12_areEqual 195 = .ok (.getfield 31, 3) := by decide +kernel
theorem dX12_areEqual_198 : decode cX12_areEqual 198 = .ok (.iload_n 3, 1) := by decide +kernel
theorem dX12_areEqual_199 : decode cX12_areEqual 199 = .ok (.iconst 2, 1) := by decide +kernel
theorem dX12_areEqual_200 : decode cX12_areEqual 200 = .ok (.idiv, 1) := by decide +kernel
theorem dX12_areEqual_201 : decode cX12_areEqual 201 = .ok (.iaload, 1) := by decide +kernel
theorem dX12_areEqual_202 : decode cX12_areEqual 202 = .ok (.iadd, 1) := by decide +kernel
theorem dX12_areEqual_203 : decode cX12_areEqual 203 = .ok (.if_icmp .ge 54, 3) := by decide +kernel
theorem dX12_areEqual_206 : decode cX12_areEqual 206 = .ok (.aload_n 0, 1) := by decide +kernel
theorem dX12_areEqual_207 : decode cX12_areEqual 207 = .ok (.iload 4, 2) := by decide +kernel
theorem dX12_areEqual_209 : decode cX12_areEqual 209 = .ok (.aload_n 0, 1) := by decide +kernel
theorem dX12_areEqual_210 : decode cX12_areEqual 210 = .ok (.getfield 34, 3) := by decide +kernel
theorem dX12_areEqual_213 : decode cX12_areEqual 213 = .ok (.iload 8, 2) := by decide +kernel
theorem dX12_areEqual_215 : decode cX12_areEqual 215 = .ok (.iaload, 1) := by decide +kernel
theorem dX12_areEqual_216 : decode cX12_areEqual 216 = .ok (.invokevirtual 448, 3) := by decide +kernel
theorem dX12_areEqual_219 : decode cX12_areEqual 219 = .ok (.istore 9, 2) := by decide +kernel
theorem dX12_areEqual_221 : decode cX12_areEqual 221 = .ok (.iload 9, 2) := by decide +kernel
theorem dX12_areEqual_223 : decode cX12_areEqual 223 = .ok (.ifCond .ge 5, 3) := by decide +kernel
theorem dX12_areEqual_226 : decode cX12_areEqual 226 = .ok (.iconst 0, 1) := by decide +kernel
theorem dX12_areEqual_227 : decode cX12_areEqual 227 = .ok (.ireturn, 1) := by decide +kernel
theorem dX12_areEqual_228 : decode cX12_areEqual 228 = .ok (.aload_n 0, 1) := by decide +kernel
theorem dX12_areEqual_229 : decode cX12_areEqual 229 = .ok (.aload_n 0, 1) := by decide +kernel
theorem dX12_areEqual_230 : decode cX12_areEqual 230 = .ok (.iconst 2, 1) := by decide +kernel
theorem dX12_areEqual_231 : decode cX12_areEqual 231 = .ok (.aload_n 0, 1) := by decide +kernel
theorem dX12_areEqual_232 : decode cX12_areEqual 232 = .ok (.getfield 37, 3) := by decide +kernel
theorem dX12_areEqual_235 : decode cX12_areEqual 235 = .ok (.iload 8, 2) := by decide +kernel
theorem dX12_areEqual_237 : decode cX12_areEqual 237 = .ok (.iaload, 1) := by decide +kernel
theorem dX12_areEqual_238 : decode cX12_areEqual 238 = .ok (.imul, 1) := by decide +kernel
theorem dX12_areEqual_239 : decode cX12_areEqual 239 = .ok (.iload_n 3, 1) := by decide +kernel
theorem dX12_areEqual_240 : decode cX12_areEqual 240 = .ok (.iconst 2, 1) := by decide +kernel
theorem dX12_areEqual_241 : decode cX12_areEqual 241 = .ok (.irem, 1) := by decide +kernel
theorem dX12_areEqual_242 : decode cX12_areEqual 242 = .ok (.iadd, 1) := by decide +kernel
theorem dX12_areEqual_243 : decode cX12_areEqual 243 = .ok (.invokevirtual 432, 3) := by decide +kernel
theorem dX12_areEqual_246 : decode cX12_areEqual 246 = .ok (.iload 9, 2) := by decide +kernel
theorem dX12_areEqual_248 : decode cX12_areEqual 248 = .ok (.invokevirtual 438, 3) := by decide +kernel
theorem dX12_areEqual_251 : decode cX12_areEqual 251 = .ok (.iinc 8 1, 3) := by decide +kernel
theorem dX12_areEqual_254 : decode cX12_areEqual 254 = .ok (.goto (-70), 3) := by decide +kernel
theorem dX12_areEqual_257 : decode cX12_areEqual 257 = .ok (.goto 51, 3) := by decide +kernel
theorem dX12_areEqual_260 : decode cX12_areEqual 260 = .ok (.iload 7, 2) := by decide +kernel
theorem dX12_areEqual_262 : decode cX12_areEqual 262 = .ok (.ifCond .eq 46, 3) := by decide +kernel
theorem dX12_areEqual_265 : decode cX12_areEqual 265 = .ok (.iload 7, 2) := by decide +kernel
theorem dX12_areEqual_267 : decode cX12_areEqual 267 = .ok (.iconst 5, 1) := by decide +kernel
theorem dX12_areEqual_268 : decode cX12_areEqual 268 = .ok (.if_icmp .eq 10, 3) := by decide +kernel
theorem dX12_areEqual_271 : decode cX12_areEqual 271 = .ok (.iload 7, 2) := by decide +kernel
theorem dX12_areEqual_273 : decode cX12_areEqual 273 = .ok (.bipush 6, 2) := by decide +kernel
theorem dX12_areEqual_275 : decode cX12_areEqual 275 = .ok (.if_icmp .ne 18, 3) := by decide +kernel
theorem dX12_areEqual_278 : decode cX12_areEqual 278 = .ok (.aload_n 0, 1) := by decide +kernel
theorem dX12_areEqual_279 : decode cX12_areEqual 279 = .ok (.aload_n 0, 1) := by decide +kernel
theorem dX12_areEqual_280 : decode cX12_areEqual 280 = .ok (.iload_n 3, 1) := by decide +kernel
theorem dX12_areEqual_281 : decode cX12_areEqual 281 = .ok (.invokevirtual 452, 3) := by decide +kernel
theorem dX12_areEqual_284 : decode cX12_areEqual 284 = .ok (.aload_n 0, 1) := by decide +kernel
theorem dX12_areEqual_285 : decode cX12_areEqual 285 = .ok (.iload 4, 2) := by decide +kernel
theorem dX12_areEqual_287 : decode cX12_areEqual 287 = .ok (.invokevirtual 452, 3) := by decide +kernel
theorem dX12_areEqual_290 : decode cX12_areEqual 290 = .ok (.invokevirtual 438, 3) := by decide +kernel
theorem dX12_areEqual_293 : decode cX12_areEqual 293 = .ok (.aload_n 0, 1) := by decide +kernel
theorem dX12_areEqual_294 : decode cX12_areEqual 294 = .ok (.aload_n 0, 1) := by decide +kernel
theorem dX12_areEqual_295 : decode cX12_areEqual 295 = .ok (.iload_n 3, 1) := by decide +kernel
theorem dX12_areEqual_296 : decode cX12_areEqual 296 = .ok (.invokevirtual 455, 3) := by decide +kernel
theorem dX12_areEqual_299 : decode cX12_areEqual 299 = .ok (.aload_n 0, 1) := by decide +kernel
theorem dX12_areEqual_300 : decode cX12_areEqual 300 = .ok (.iload 4, 2) := by decide +kernel
theorem dX12_areEqual_302 : decode cX12_areEqual 302 = .ok (.invokevirtual 455, 3) := by decide +kernel
theorem dX12_areEqual_305 : decode cX12_areEqual 305 = .ok (.invokevirtual 438, 3) := by decide +kernel
theorem dX12_areEqual_308 : decode cX12_areEqual 308 = .ok (.goto (-264), 3) := by decide +kernel
theorem dX12_areEqual_311 : decode cX12_areEqual 311 = .ok (.iconst 1, 1) := by decide +kernel
theorem dX12_areEqual_312 : decode cX12_areEqual 312 = .ok (.ireturn, 1) := by decide +kernel
def bX12_areEqual_308 (k44 : zS → zR) (t : zS) : zR := k44  t
def bX12_areEqual_184 (k44 : zS → zR) (k184 : Int32 → Int32 → Int32 → zS → zR) (x3 : Int32) (x4 : Int32) (x8 : Int32) (t : zS) : zR := zrd t 7 3100 (x3 / 2) fun v3621 => zrd t 8 3100 (x3 / 2) fun v3623 => if (v3621 + v3623) ≤ x8 then bX12_areEqual_308 k44  t else zrd t 9 1600 x8 fun v3625 => zbd (mX12_byLabel x4 v3625 t) fun r3627 t3628 => if 0 ≤ r3627 then zrd t3628 10 1600 x8 fun v3630 => zbd (mX12_plain ((2 * v3630) + (x3 - x3 / 2 * 2)) t3628) fun r3632 t3633 => zbd (mX12_pair r3632 r3627 t3633) fun r3635 t3636 => zlet (x8 + 1) fun v3638 => k184 x3 x4 v3638 t3636 else some (0, t3628)
def lX12_areEqual_184 (k44 : zS → zR) : Nat → Int32 → Int32 → Int32 → zS → zR
  | 0, _, _, _, _ => none
  | fu + 1, x3, x4, x8, t => bX12_areEqual_184 k44 (lX12_areEqual_184 k44 fu) x3 x4 x8 t
def bX12_areEqual_152 (k44 : zS → zR) (x3 : Int32) (x4 : Int32) (t : zS) : zR := zrd t 8 3100 (x3 / 2) fun v3639 => zrd t 8 3100 (x4 / 2) fun v3641 => if v3639 = v3641 then zrd t 7 3100 (x3 / 2) fun v3643 => lX12_areEqual_184 k44 zFU x3 x4 v3643 t else some (0, t)
def bX12_areEqual_293 (k44 : zS → zR) (x3 : Int32) (x4 : Int32) (t : zS) : zR := zbd (mX12_thenOf x3 t) fun r3645 t3646 => zbd (mX12_thenOf x4 t3646) fun r3648 t3649 => zbd (mX12_pair r3645 r3648 t3649) fun r3651 t3652 => bX12_areEqual_308 k44  t3652
def bX12_areEqual_278 (k44 : zS → zR) (x3 : Int32) (x4 : Int32) (t : zS) : zR := zbd (mX12_givenOf x3 t) fun r3654 t3655 => zbd (mX12_givenOf x4 t3655) fun r3657 t3658 => zbd (mX12_pair r3654 r3657 t3658) fun r3660 t3661 => bX12_areEqual_293 k44 x3 x4 t3661
def bX12_areEqual_44 (k44 : zS → zR) (t : zS) : zR := if (t 0 65) ≤ 0 then some (1, t) else zpt t 0 65 ((t 0 65) - 2) fun t3663 => zrd t3663 41 30000 (t3663 0 65) fun v3664 => zrd t3663 41 30000 ((t3663 0 65) + 1) fun v3666 => zbd (mX12_root v3664 t3663) fun r3668 t3669 => zbd (mX12_root v3666 t3669) fun r3671 t3672 => if r3668 = r3671 then k44  t3672 else zbd (mX12_isOf v3664 t3672) fun r3674 t3675 => zbd (mX12_isOf v3666 t3675) fun r3677 t3678 => if r3674 = r3677 then zwr t3678 40 6200 r3668 r3671 fun t3681 => if r3674 = 7 then bX12_areEqual_152 k44 v3664 v3666 t3681 else if r3674 = 8 then bX12_areEqual_152 k44 v3664 v3666 t3681 else if r3674 = 0 then bX12_areEqual_308 k44  t3681 else if r3674 = 5 then bX12_areEqual_278 k44 v3664 v3666 t3681 else if r3674 = 6 then bX12_areEqual_278 k44 v3664 v3666 t3681 else bX12_areEqual_293 k44 v3664 v3666 t3681 else some (0, t3678)
def lX12_areEqual_44 : Nat → zS → zR
  | 0, _ => none
  | fu + 1, t => bX12_areEqual_44 (lX12_areEqual_44  fu)  t
def bX12_areEqual_2 (k2 : Int32 → Int32 → Int32 → zS → zR) (x1 : Int32) (x2 : Int32) (x3 : Int32) (t : zS) : zR := if (2 * (t 0 14)) ≤ x3 then zpt t 0 65 0 fun t3682 => zbd (mX12_plain x1 t3682) fun r3683 t3684 => zbd (mX12_plain x2 t3684) fun r3686 t3687 => zbd (mX12_pair r3683 r3686 t3687) fun r3689 t3690 => lX12_areEqual_44  zFU  t3690 else zwr t 40 6200 x3 x3 fun t3693 => zlet (x3 + 1) fun v3694 => k2 x1 x2 v3694 t3693
def lX12_areEqual_2 : Nat → Int32 → Int32 → Int32 → zS → zR
  | 0, _, _, _, _ => none
  | fu + 1, x1, x2, x3, t => bX12_areEqual_2 (lX12_areEqual_2  fu) x1 x2 x3 t
def mX12_areEqual (x1 : Int32) (x2 : Int32) (t : zS) : zR := lX12_areEqual_2  zFU x1 x2 0 t
set_option maxHeartbeats 4000000 in
set_option maxRecDepth 20000 in
theorem wbX12_areEqual_308 {E : zE} {C : zC} {f : Nat} {ro : Int32 × zS} (hf : 3 ≤ f) (k44 : zS → zR) (hk44 : ∀ (t : zS), k44  t = some ro → zJ E shM C cX12_areEqual RX12 10 f (some .boolean) ro t 44 [(0, .ref (za E 0))] []) (t : zS) (hF : bX12_areEqual_308 k44  t = some ro) : zJ E shM C cX12_areEqual RX12 10 f (some .boolean) ro t 308 [(0, .ref (za E 0))] [] := by
  unfold bX12_areEqual_308 at hF
  refine z_goto (tgt := 44) dX12_areEqual_308 (by decide) ?_
  exact hk44  _ hF
set_option maxHeartbeats 4000000 in
set_option maxRecDepth 20000 in
theorem wbX12_areEqual_184 {E : zE} {C : zC} {f : Nat} {ro : Int32 × zS} (hf : 3 ≤ f) (k44 : zS → zR) (hk44 : ∀ (t : zS), k44  t = some ro → zJ E shM C cX12_areEqual RX12 10 f (some .boolean) ro t 44 [(0, .ref (za E 0))] []) (k184 : Int32 → Int32 → Int32 → zS → zR) (hk184 : ∀ (x3 x4 x8 : Int32) (t : zS), k184 x3 x4 x8 t = some ro → zJ E shM C cX12_areEqual RX12 10 f (some .boolean) ro t 184 [(0, .ref (za E 0)), (3, .int x3), (4, .int x4), (8, .int x8)] []) (x3 : Int32) (x4 : Int32) (x8 : Int32) (t : zS) (hF : bX12_areEqual_184 k44 k184 x3 x4 x8 t = some ro) : zJ E shM C cX12_areEqual RX12 10 f (some .boolean) ro t 184 [(0, .ref (za E 0)), (3, .int x3), (4, .int x4), (8, .int x8)] [] := by
  unfold bX12_areEqual_184 at hF
  refine z_iload 3 dX12_areEqual_184 rfl ?_
  refine z_aload_n 0 dX12_areEqual_186 rfl rfl ?_
  refine z_getr fr_RX12_28 dX12_areEqual_187 ?_
  refine z_iload_n 1 dX12_areEqual_190 rfl rfl ?_
  refine z_iconst (v := 2) dX12_areEqual_191 (by decide) ?_
  refine z_idiv dX12_areEqual_192 (by decide) ?_
  obtain ⟨hi3622, hF⟩ := zrd_at hF
  refine z_iald (n := 3100) rfl hi3622 dX12_areEqual_193 ?_
  generalize t 7 (Int32.toNatClampNeg (x3 / 2)) = v3621 at hF ⊢
  refine z_aload_n 0 dX12_areEqual_194 rfl rfl ?_
  refine z_getr fr_RX12_31 dX12_areEqual_195 ?_
  refine z_iload_n 1 dX12_areEqual_198 rfl rfl ?_
  refine z_iconst (v := 2) dX12_areEqual_199 (by decide) ?_
  refine z_idiv dX12_areEqual_200 (by decide) ?_
  obtain ⟨hi3624, hF⟩ := zrd_at hF
  refine z_iald (n := 3100) rfl hi3624 dX12_areEqual_201 ?_
  generalize t 8 (Int32.toNatClampNeg (x3 / 2)) = v3623 at hF ⊢
  refine z_iadd dX12_areEqual_202 ?_
  refine z_icmp_ge (tgt := 257) dX12_areEqual_203 (by decide) (fun hc => ?_) (fun hc => ?_)
  · have hF := zif_t hc hF
    refine z_goto (tgt := 308) dX12_areEqual_257 (by decide) ?_
    refine z_sub [0] rfl ?_
    exact wbX12_areEqual_308 hf k44 hk44  _ hF
  · have hF := zif_f hc hF
    refine z_aload_n 0 dX12_areEqual_206 rfl rfl ?_
    refine z_iload 2 dX12_areEqual_207 rfl ?_
    refine z_aload_n 0 dX12_areEqual_209 rfl rfl ?_
    refine z_getr fr_RX12_34 dX12_areEqual_210 ?_
    refine z_iload 3 dX12_areEqual_213 rfl ?_
    obtain ⟨hi3626, hF⟩ := zrd_at hF
    refine z_iald (n := 1600) rfl hi3626 dX12_areEqual_215 ?_
    generalize t 9 (Int32.toNatClampNeg x8) = v3625 at hF ⊢
    obtain ⟨r3627, t3628, hc3629, hF⟩ := zbd_at hF
    refine z_callVi (ctX12_byLabel (E := E) (f := f - 1) (by omega) hc3629) yy_X12_byLabel yv_X12_byLabel ob_M_0 lk_RX12_448 (by omega) rfl rfl (Nat.le_of_ble_eq_true rfl) dX12_areEqual_216 ?_
    refine z_istore (lv' := [(9, .int r3627), (0, .ref (za E 0)), (3, .int x3), (4, .int x4), (8, .int x8)]) dX12_areEqual_219 (by decide) rfl ?_
    refine z_iload 0 dX12_areEqual_221 rfl ?_
    refine z_if_ge (tgt := 228) dX12_areEqual_223 (by decide) (fun hc => ?_) (fun hc => ?_)
    · have hF := zif_t hc hF
      refine z_aload_n 1 dX12_areEqual_228 rfl rfl ?_
      refine z_aload_n 1 dX12_areEqual_229 rfl rfl ?_
      refine z_iconst (v := 2) dX12_areEqual_230 (by decide) ?_
      refine z_aload_n 1 dX12_areEqual_231 rfl rfl ?_
      refine z_getr fr_RX12_37 dX12_areEqual_232 ?_
      refine z_iload 4 dX12_areEqual_235 rfl ?_
      obtain ⟨hi3631, hF⟩ := zrd_at hF
      refine z_iald (n := 1600) rfl hi3631 dX12_areEqual_237 ?_
      generalize t3628 10 (Int32.toNatClampNeg x8) = v3630 at hF ⊢
      refine z_imul dX12_areEqual_238 ?_
      refine z_iload_n 2 dX12_areEqual_239 rfl rfl ?_
      refine z_iconst (v := 2) dX12_areEqual_240 (by decide) ?_
      refine z_irem dX12_areEqual_241 (by decide) ?_
      refine z_iadd dX12_areEqual_242 ?_
      obtain ⟨r3632, t3633, hc3634, hF⟩ := zbd_at hF
      refine z_callVi (ctX12_plain (E := E) (f := f - 1) (by omega) hc3634) yy_X12_plain yv_X12_plain ob_M_0 lk_RX12_432 (by omega) rfl rfl (Nat.le_of_ble_eq_true rfl) dX12_areEqual_243 ?_
      refine z_iload 0 dX12_areEqual_246 rfl ?_
      obtain ⟨r3635, t3636, hc3637, hF⟩ := zbd_at hF
      refine z_callVv (ctX12_pair (E := E) (f := f - 1) (by omega) hc3637) yy_X12_pair yv_X12_pair ob_M_0 lk_RX12_438 (by omega) rfl rfl (Nat.le_of_ble_eq_true rfl) dX12_areEqual_248 ?_
      obtain ⟨v3638, ev3638⟩ : ∃ y : Int32, y = (x8 + 1) := ⟨_, rfl⟩
      have hF := zlet_at ev3638 hF
      refine z_iinc (v := v3638) (lv' := [(8, .int v3638), (9, .int r3627), (0, .ref (za E 0)), (3, .int x3), (4, .int x4)]) (k := 4) dX12_areEqual_251 rfl (by rw [ev3638]; rfl) (by decide) rfl ?_
      refine z_goto (tgt := 184) dX12_areEqual_254 (by decide) ?_
      refine z_sub [2, 3, 4, 0] rfl ?_
      exact hk184 x3 x4 v3638 _ hF
    · have hF := zif_f hc hF
      refine z_iconst (v := 0) dX12_areEqual_226 (by decide) ?_
      exact z_zret hF (by decide) dX12_areEqual_227
set_option maxHeartbeats 4000000 in
set_option maxRecDepth 20000 in
theorem wlX12_areEqual_184 {E : zE} {C : zC} {f : Nat} {ro : Int32 × zS} (hf : 3 ≤ f) (k44 : zS → zR) (hk44 : ∀ (t : zS), k44  t = some ro → zJ E shM C cX12_areEqual RX12 10 f (some .boolean) ro t 44 [(0, .ref (za E 0))] []) (fu : Nat) : ∀ (x3 x4 x8 : Int32) (t : zS), lX12_areEqual_184 k44 fu x3 x4 x8 t = some ro → zJ E shM C cX12_areEqual RX12 10 f (some .boolean) ro t 184 [(0, .ref (za E 0)), (3, .int x3), (4, .int x4), (8, .int x8)] [] := by
  induction fu with
  | zero => intro x3 x4 x8 t hF; cases hF
  | succ fu ih => intro x3 x4 x8 t hF; exact wbX12_areEqual_184 hf k44 hk44 (lX12_areEqual_184 k44 fu) ih x3 x4 x8 t hF
set_option maxHeartbeats 4000000 in
set_option maxRecDepth 20000 in
theorem wbX12_areEqual_152 {E : zE} {C : zC} {f : Nat} {ro : Int32 × zS} (hf : 3 ≤ f) (k44 : zS → zR) (hk44 : ∀ (t : zS), k44  t = some ro → zJ E shM C cX12_areEqual RX12 10 f (some .boolean) ro t 44 [(0, .ref (za E 0))] []) (x3 : Int32) (x4 : Int32) (t : zS) (hF : bX12_areEqual_152 k44 x3 x4 t = some ro) : zJ E shM C cX12_areEqual RX12 10 f (some .boolean) ro t 152 [(0, .ref (za E 0)), (3, .int x3), (4, .int x4)] [] := by
  unfold bX12_areEqual_152 at hF
  refine z_aload_n 0 dX12_areEqual_152 rfl rfl ?_
  refine z_getr fr_RX12_31 dX12_areEqual_153 ?_
  refine z_iload_n 1 dX12_areEqual_156 rfl rfl ?_
  refine z_iconst (v := 2) dX12_areEqual_157 (by decide) ?_
  refine z_idiv dX12_areEqual_158 (by decide) ?_
  obtain ⟨hi3640, hF⟩ := zrd_at hF
  refine z_iald (n := 3100) rfl hi3640 dX12_areEqual_159 ?_
  generalize t 8 (Int32.toNatClampNeg (x3 / 2)) = v3639 at hF ⊢
  refine z_aload_n 0 dX12_areEqual_160 rfl rfl ?_
  refine z_getr fr_RX12_31 dX12_areEqual_161 ?_
  refine z_iload 2 dX12_areEqual_164 rfl ?_
  refine z_iconst (v := 2) dX12_areEqual_166 (by decide) ?_
  refine z_idiv dX12_areEqual_167 (by decide) ?_
  obtain ⟨hi3642, hF⟩ := zrd_at hF
  refine z_iald (n := 3100) rfl hi3642 dX12_areEqual_168 ?_
  generalize t 8 (Int32.toNatClampNeg (x4 / 2)) = v3641 at hF ⊢
  refine z_icmp_eq (tgt := 174) dX12_areEqual_169 (by decide) (fun hc => ?_) (fun hc => ?_)
  · have hF := zif_t hc hF
    refine z_aload_n 0 dX12_areEqual_174 rfl rfl ?_
    refine z_getr fr_RX12_28 dX12_areEqual_175 ?_
    refine z_iload_n 1 dX12_areEqual_178 rfl rfl ?_
    refine z_iconst (v := 2) dX12_areEqual_179 (by decide) ?_
    refine z_idiv dX12_areEqual_180 (by decide) ?_
    obtain ⟨hi3644, hF⟩ := zrd_at hF
    refine z_iald (n := 3100) rfl hi3644 dX12_areEqual_181 ?_
    generalize t 7 (Int32.toNatClampNeg (x3 / 2)) = v3643 at hF ⊢
    refine z_istore (lv' := [(8, .int v3643), (0, .ref (za E 0)), (3, .int x3), (4, .int x4)]) dX12_areEqual_182 (by decide) rfl ?_
    refine z_sub [1, 2, 3, 0] rfl ?_
    exact wlX12_areEqual_184 hf k44 hk44 zFU x3 x4 v3643 _ hF
  · have hF := zif_f hc hF
    refine z_iconst (v := 0) dX12_areEqual_172 (by decide) ?_
    exact z_zret hF (by decide) dX12_areEqual_173
set_option maxHeartbeats 4000000 in
set_option maxRecDepth 20000 in
theorem wbX12_areEqual_293 {E : zE} {C : zC} {f : Nat} {ro : Int32 × zS} (hf : 3 ≤ f) (k44 : zS → zR) (hk44 : ∀ (t : zS), k44  t = some ro → zJ E shM C cX12_areEqual RX12 10 f (some .boolean) ro t 44 [(0, .ref (za E 0))] []) (x3 : Int32) (x4 : Int32) (t : zS) (hF : bX12_areEqual_293 k44 x3 x4 t = some ro) : zJ E shM C cX12_areEqual RX12 10 f (some .boolean) ro t 293 [(0, .ref (za E 0)), (3, .int x3), (4, .int x4)] [] := by
  unfold bX12_areEqual_293 at hF
  refine z_aload_n 0 dX12_areEqual_293 rfl rfl ?_
  refine z_aload_n 0 dX12_areEqual_294 rfl rfl ?_
  refine z_iload_n 1 dX12_areEqual_295 rfl rfl ?_
  obtain ⟨r3645, t3646, hc3647, hF⟩ := zbd_at hF
  refine z_callVi (ctX12_thenOf (E := E) (f := f - 1) (by omega) hc3647) yy_X12_thenOf yv_X12_thenOf ob_M_0 lk_RX12_455 (by omega) rfl rfl (Nat.le_of_ble_eq_true rfl) dX12_areEqual_296 ?_
  refine z_aload_n 0 dX12_areEqual_299 rfl rfl ?_
  refine z_iload 2 dX12_areEqual_300 rfl ?_
  obtain ⟨r3648, t3649, hc3650, hF⟩ := zbd_at hF
  refine z_callVi (ctX12_thenOf (E := E) (f := f - 1) (by omega) hc3650) yy_X12_thenOf yv_X12_thenOf ob_M_0 lk_RX12_455 (by omega) rfl rfl (Nat.le_of_ble_eq_true rfl) dX12_areEqual_302 ?_
  obtain ⟨r3651, t3652, hc3653, hF⟩ := zbd_at hF
  refine z_callVv (ctX12_pair (E := E) (f := f - 1) (by omega) hc3653) yy_X12_pair yv_X12_pair ob_M_0 lk_RX12_438 (by omega) rfl rfl (Nat.le_of_ble_eq_true rfl) dX12_areEqual_305 ?_
  refine z_sub [0] rfl ?_
  exact wbX12_areEqual_308 hf k44 hk44  _ hF
set_option maxHeartbeats 4000000 in
set_option maxRecDepth 20000 in
theorem wbX12_areEqual_278 {E : zE} {C : zC} {f : Nat} {ro : Int32 × zS} (hf : 3 ≤ f) (k44 : zS → zR) (hk44 : ∀ (t : zS), k44  t = some ro → zJ E shM C cX12_areEqual RX12 10 f (some .boolean) ro t 44 [(0, .ref (za E 0))] []) (x3 : Int32) (x4 : Int32) (t : zS) (hF : bX12_areEqual_278 k44 x3 x4 t = some ro) : zJ E shM C cX12_areEqual RX12 10 f (some .boolean) ro t 278 [(0, .ref (za E 0)), (3, .int x3), (4, .int x4)] [] := by
  unfold bX12_areEqual_278 at hF
  refine z_aload_n 0 dX12_areEqual_278 rfl rfl ?_
  refine z_aload_n 0 dX12_areEqual_279 rfl rfl ?_
  refine z_iload_n 1 dX12_areEqual_280 rfl rfl ?_
  obtain ⟨r3654, t3655, hc3656, hF⟩ := zbd_at hF
  refine z_callVi (ctX12_givenOf (E := E) (f := f - 1) (by omega) hc3656) yy_X12_givenOf yv_X12_givenOf ob_M_0 lk_RX12_452 (by omega) rfl rfl (Nat.le_of_ble_eq_true rfl) dX12_areEqual_281 ?_
  refine z_aload_n 0 dX12_areEqual_284 rfl rfl ?_
  refine z_iload 2 dX12_areEqual_285 rfl ?_
  obtain ⟨r3657, t3658, hc3659, hF⟩ := zbd_at hF
  refine z_callVi (ctX12_givenOf (E := E) (f := f - 1) (by omega) hc3659) yy_X12_givenOf yv_X12_givenOf ob_M_0 lk_RX12_452 (by omega) rfl rfl (Nat.le_of_ble_eq_true rfl) dX12_areEqual_287 ?_
  obtain ⟨r3660, t3661, hc3662, hF⟩ := zbd_at hF
  refine z_callVv (ctX12_pair (E := E) (f := f - 1) (by omega) hc3662) yy_X12_pair yv_X12_pair ob_M_0 lk_RX12_438 (by omega) rfl rfl (Nat.le_of_ble_eq_true rfl) dX12_areEqual_290 ?_
  exact wbX12_areEqual_293 hf k44 hk44 x3 x4 _ hF
set_option maxHeartbeats 4000000 in
set_option maxRecDepth 20000 in
theorem wbX12_areEqual_44 {E : zE} {C : zC} {f : Nat} {ro : Int32 × zS} (hf : 3 ≤ f) (k44 : zS → zR) (hk44 : ∀ (t : zS), k44  t = some ro → zJ E shM C cX12_areEqual RX12 10 f (some .boolean) ro t 44 [(0, .ref (za E 0))] []) (t : zS) (hF : bX12_areEqual_44 k44  t = some ro) : zJ E shM C cX12_areEqual RX12 10 f (some .boolean) ro t 44 [(0, .ref (za E 0))] [] := by
  unfold bX12_areEqual_44 at hF
  refine z_aload_n 0 dX12_areEqual_44 rfl rfl ?_
  refine z_geti fi_RX12_435 dX12_areEqual_45 ?_
  refine z_if_le (tgt := 311) dX12_areEqual_48 (by decide) (fun hc => ?_) (fun hc => ?_)
  · have hF := zif_t hc hF
    refine z_iconst (v := 1) dX12_areEqual_311 (by decide) ?_
    exact z_zret hF (by decide) dX12_areEqual_312
  · have hF := zif_f hc hF
    refine z_aload_n 0 dX12_areEqual_51 rfl rfl ?_
    refine z_dup dX12_areEqual_52 rfl ?_
    refine z_geti fi_RX12_435 dX12_areEqual_53 ?_
    refine z_iconst (v := 2) dX12_areEqual_56 (by decide) ?_
    refine z_isub dX12_areEqual_57 ?_
    refine z_puti fw_RX12_435 dX12_areEqual_58 (fun t3663 et3663 => ?_)
    have hF := zpt_at hF t3663 et3663
    refine z_aload_n 0 dX12_areEqual_61 rfl rfl ?_
    refine z_getr fr_RX12_131 dX12_areEqual_62 ?_
    refine z_aload_n 0 dX12_areEqual_65 rfl rfl ?_
    refine z_geti fi_RX12_435 dX12_areEqual_66 ?_
    obtain ⟨hi3665, hF⟩ := zrd_at hF
    refine z_iald (n := 30000) rfl hi3665 dX12_areEqual_69 ?_
    generalize t3663 41 (Int32.toNatClampNeg (t3663 0 65)) = v3664 at hF ⊢
    refine z_istore_n (lv' := [(3, .int v3664), (0, .ref (za E 0))]) dX12_areEqual_70 rfl (by decide) rfl ?_
    refine z_aload_n 1 dX12_areEqual_71 rfl rfl ?_
    refine z_getr fr_RX12_131 dX12_areEqual_72 ?_
    refine z_aload_n 1 dX12_areEqual_75 rfl rfl ?_
    refine z_geti fi_RX12_435 dX12_areEqual_76 ?_
    refine z_iconst (v := 1) dX12_areEqual_79 (by decide) ?_
    refine z_iadd dX12_areEqual_80 ?_
    obtain ⟨hi3667, hF⟩ := zrd_at hF
    refine z_iald (n := 30000) rfl hi3667 dX12_areEqual_81 ?_
    generalize t3663 41 (Int32.toNatClampNeg ((t3663 0 65) + 1)) = v3666 at hF ⊢
    refine z_istore (lv' := [(4, .int v3666), (3, .int v3664), (0, .ref (za E 0))]) dX12_areEqual_82 (by decide) rfl ?_
    refine z_aload_n 2 dX12_areEqual_84 rfl rfl ?_
    refine z_iload_n 1 dX12_areEqual_85 rfl rfl ?_
    obtain ⟨r3668, t3669, hc3670, hF⟩ := zbd_at hF
    refine z_callVi (ctX12_root (E := E) (f := f - 1) (by omega) hc3670) yy_X12_root yv_X12_root ob_M_0 lk_RX12_442 (by omega) rfl rfl (Nat.le_of_ble_eq_true rfl) dX12_areEqual_86 ?_
    refine z_istore (lv' := [(5, .int r3668), (4, .int v3666), (3, .int v3664), (0, .ref (za E 0))]) dX12_areEqual_89 (by decide) rfl ?_
    refine z_aload_n 3 dX12_areEqual_91 rfl rfl ?_
    refine z_iload 1 dX12_areEqual_92 rfl ?_
    obtain ⟨r3671, t3672, hc3673, hF⟩ := zbd_at hF
    refine z_callVi (ctX12_root (E := E) (f := f - 1) (by omega) hc3673) yy_X12_root yv_X12_root ob_M_0 lk_RX12_442 (by omega) rfl rfl (Nat.le_of_ble_eq_true rfl) dX12_areEqual_94 ?_
    refine z_istore (lv' := [(6, .int r3671), (5, .int r3668), (4, .int v3666), (3, .int v3664), (0, .ref (za E 0))]) dX12_areEqual_97 (by decide) rfl ?_
    refine z_iload 1 dX12_areEqual_99 rfl ?_
    refine z_iload 0 dX12_areEqual_101 rfl ?_
    refine z_icmp_ne (tgt := 109) dX12_areEqual_103 (by decide) (fun hc => ?_) (fun hc => ?_)
    · have hF := zif_f hc hF
      refine z_aload_n 4 dX12_areEqual_109 rfl rfl ?_
      refine z_iload_n 3 dX12_areEqual_110 rfl rfl ?_
      obtain ⟨r3674, t3675, hc3676, hF⟩ := zbd_at hF
      refine z_callVi (ctX12_isOf (E := E) (f := f - 1) (by omega) hc3676) yy_X12_isOf yv_X12_isOf ob_M_0 lk_RX12_445 (by omega) rfl rfl (Nat.le_of_ble_eq_true rfl) dX12_areEqual_111 ?_
      refine z_istore (lv' := [(7, .int r3674), (6, .int r3671), (5, .int r3668), (4, .int v3666), (3, .int v3664), (0, .ref (za E 0))]) dX12_areEqual_114 (by decide) rfl ?_
      refine z_iload 0 dX12_areEqual_116 rfl ?_
      refine z_aload_n 5 dX12_areEqual_118 rfl rfl ?_
      refine z_iload 3 dX12_areEqual_119 rfl ?_
      obtain ⟨r3677, t3678, hc3679, hF⟩ := zbd_at hF
      refine z_callVi (ctX12_isOf (E := E) (f := f - 1) (by omega) hc3679) yy_X12_isOf yv_X12_isOf ob_M_0 lk_RX12_445 (by omega) rfl rfl (Nat.le_of_ble_eq_true rfl) dX12_areEqual_121 ?_
      refine z_icmp_eq (tgt := 129) dX12_areEqual_124 (by decide) (fun hc => ?_) (fun hc => ?_)
      · have hF := zif_t hc hF
        refine z_aload_n 5 dX12_areEqual_129 rfl rfl ?_
        refine z_getr fr_RX12_128 dX12_areEqual_130 ?_
        refine z_iload 2 dX12_areEqual_133 rfl ?_
        refine z_iload 1 dX12_areEqual_135 rfl ?_
        obtain ⟨hi3680, hF⟩ := zwr_at hF
        refine z_iast (n := 6200) rfl hi3680 dX12_areEqual_137 (fun t3681 et3681 => ?_)
        have hF := hF t3681 et3681
        refine z_iload 0 dX12_areEqual_138 rfl ?_
        refine z_bipush (v := 7) dX12_areEqual_140 (by decide) ?_
        refine z_icmp_eq (tgt := 152) dX12_areEqual_142 (by decide) (fun hc => ?_) (fun hc => ?_)
        · have hF := zif_t hc hF
          refine z_sub [5, 4, 3] rfl ?_
          exact wbX12_areEqual_152 hf k44 hk44 v3664 v3666 _ hF
        · have hF := zif_f hc hF
          refine z_iload 0 dX12_areEqual_145 rfl ?_
          refine z_bipush (v := 8) dX12_areEqual_147 (by decide) ?_
          refine z_icmp_ne (tgt := 260) dX12_areEqual_149 (by decide) (fun hc => ?_) (fun hc => ?_)
          · have hF := zif_f hc hF
            refine z_iload 0 dX12_areEqual_260 rfl ?_
            refine z_if_eq (tgt := 308) dX12_areEqual_262 (by decide) (fun hc => ?_) (fun hc => ?_)
            · have hF := zif_t hc hF
              refine z_sub [5] rfl ?_
              exact wbX12_areEqual_308 hf k44 hk44  _ hF
            · have hF := zif_f hc hF
              refine z_iload 0 dX12_areEqual_265 rfl ?_
              refine z_iconst (v := 5) dX12_areEqual_267 (by decide) ?_
              refine z_icmp_eq (tgt := 278) dX12_areEqual_268 (by decide) (fun hc => ?_) (fun hc => ?_)
              · have hF := zif_t hc hF
                refine z_sub [5, 4, 3] rfl ?_
                exact wbX12_areEqual_278 hf k44 hk44 v3664 v3666 _ hF
              · have hF := zif_f hc hF
                refine z_iload 0 dX12_areEqual_271 rfl ?_
                refine z_bipush (v := 6) dX12_areEqual_273 (by decide) ?_
                refine z_icmp_ne (tgt := 293) dX12_areEqual_275 (by decide) (fun hc => ?_) (fun hc => ?_)
                · have hF := zif_f hc hF
                  refine z_sub [5, 4, 3] rfl ?_
                  exact wbX12_areEqual_293 hf k44 hk44 v3664 v3666 _ hF
                · have hF := zif_t hc hF
                  refine z_sub [5, 4, 3] rfl ?_
                  exact wbX12_areEqual_278 hf k44 hk44 v3664 v3666 _ hF
          · have hF := zif_t hc hF
            refine z_sub [5, 4, 3] rfl ?_
            exact wbX12_areEqual_152 hf k44 hk44 v3664 v3666 _ hF
      · have hF := zif_f hc hF
        refine z_iconst (v := 0) dX12_areEqual_127 (by decide) ?_
        exact z_zret hF (by decide) dX12_areEqual_128
    · have hF := zif_t hc hF
      refine z_goto (tgt := 44) dX12_areEqual_106 (by decide) ?_
      refine z_sub [4] rfl ?_
      exact hk44  _ hF
set_option maxHeartbeats 4000000 in
set_option maxRecDepth 20000 in
theorem wlX12_areEqual_44 {E : zE} {C : zC} {f : Nat} {ro : Int32 × zS} (hf : 3 ≤ f) (fu : Nat) : ∀ (t : zS), lX12_areEqual_44  fu  t = some ro → zJ E shM C cX12_areEqual RX12 10 f (some .boolean) ro t 44 [(0, .ref (za E 0))] [] := by
  induction fu with
  | zero => intro  t hF; cases hF
  | succ fu ih => intro  t hF; exact wbX12_areEqual_44 hf (lX12_areEqual_44  fu) ih  t hF
set_option maxHeartbeats 4000000 in
set_option maxRecDepth 20000 in
theorem wbX12_areEqual_2 {E : zE} {C : zC} {f : Nat} {ro : Int32 × zS} (hf : 3 ≤ f) (k2 : Int32 → Int32 → Int32 → zS → zR) (hk2 : ∀ (x1 x2 x3 : Int32) (t : zS), k2 x1 x2 x3 t = some ro → zJ E shM C cX12_areEqual RX12 10 f (some .boolean) ro t 2 [(0, .ref (za E 0)), (1, .int x1), (2, .int x2), (3, .int x3)] []) (x1 : Int32) (x2 : Int32) (x3 : Int32) (t : zS) (hF : bX12_areEqual_2 k2 x1 x2 x3 t = some ro) : zJ E shM C cX12_areEqual RX12 10 f (some .boolean) ro t 2 [(0, .ref (za E 0)), (1, .int x1), (2, .int x2), (3, .int x3)] [] := by
  unfold bX12_areEqual_2 at hF
  refine z_iload_n 3 dX12_areEqual_2 rfl rfl ?_
  refine z_iconst (v := 2) dX12_areEqual_3 (by decide) ?_
  refine z_aload_n 0 dX12_areEqual_4 rfl rfl ?_
  refine z_geti fi_RX12_286 dX12_areEqual_5 ?_
  refine z_imul dX12_areEqual_8 ?_
  refine z_icmp_ge (tgt := 25) dX12_areEqual_9 (by decide) (fun hc => ?_) (fun hc => ?_)
  · have hF := zif_t hc hF
    refine z_aload_n 0 dX12_areEqual_25 rfl rfl ?_
    refine z_iconst (v := 0) dX12_areEqual_26 (by decide) ?_
    refine z_puti fw_RX12_435 dX12_areEqual_27 (fun t3682 et3682 => ?_)
    have hF := zpt_at hF t3682 et3682
    refine z_aload_n 0 dX12_areEqual_30 rfl rfl ?_
    refine z_aload_n 0 dX12_areEqual_31 rfl rfl ?_
    refine z_iload_n 1 dX12_areEqual_32 rfl rfl ?_
    obtain ⟨r3683, t3684, hc3685, hF⟩ := zbd_at hF
    refine z_callVi (ctX12_plain (E := E) (f := f - 1) (by omega) hc3685) yy_X12_plain yv_X12_plain ob_M_0 lk_RX12_432 (by omega) rfl rfl (Nat.le_of_ble_eq_true rfl) dX12_areEqual_33 ?_
    refine z_aload_n 0 dX12_areEqual_36 rfl rfl ?_
    refine z_iload_n 2 dX12_areEqual_37 rfl rfl ?_
    obtain ⟨r3686, t3687, hc3688, hF⟩ := zbd_at hF
    refine z_callVi (ctX12_plain (E := E) (f := f - 1) (by omega) hc3688) yy_X12_plain yv_X12_plain ob_M_0 lk_RX12_432 (by omega) rfl rfl (Nat.le_of_ble_eq_true rfl) dX12_areEqual_38 ?_
    obtain ⟨r3689, t3690, hc3691, hF⟩ := zbd_at hF
    refine z_callVv (ctX12_pair (E := E) (f := f - 1) (by omega) hc3691) yy_X12_pair yv_X12_pair ob_M_0 lk_RX12_438 (by omega) rfl rfl (Nat.le_of_ble_eq_true rfl) dX12_areEqual_41 ?_
    refine z_sub [0] rfl ?_
    exact wlX12_areEqual_44 hf  zFU  _ hF
  · have hF := zif_f hc hF
    refine z_aload_n 0 dX12_areEqual_12 rfl rfl ?_
    refine z_getr fr_RX12_128 dX12_areEqual_13 ?_
    refine z_iload_n 3 dX12_areEqual_16 rfl rfl ?_
    refine z_iload_n 3 dX12_areEqual_17 rfl rfl ?_
    obtain ⟨hi3692, hF⟩ := zwr_at hF
    refine z_iast (n := 6200) rfl hi3692 dX12_areEqual_18 (fun t3693 et3693 => ?_)
    have hF := hF t3693 et3693
    obtain ⟨v3694, ev3694⟩ : ∃ y : Int32, y = (x3 + 1) := ⟨_, rfl⟩
    have hF := zlet_at ev3694 hF
    refine z_iinc (v := v3694) (lv' := [(3, .int v3694), (0, .ref (za E 0)), (1, .int x1), (2, .int x2)]) (k := 3) dX12_areEqual_19 rfl (by rw [ev3694]; rfl) (by decide) rfl ?_
    refine z_goto (tgt := 2) dX12_areEqual_22 (by decide) ?_
    refine z_sub [1, 2, 3, 0] rfl ?_
    exact hk2 x1 x2 v3694 _ hF
set_option maxHeartbeats 4000000 in
set_option maxRecDepth 20000 in
theorem wlX12_areEqual_2 {E : zE} {C : zC} {f : Nat} {ro : Int32 × zS} (hf : 3 ≤ f) (fu : Nat) : ∀ (x1 x2 x3 : Int32) (t : zS), lX12_areEqual_2  fu x1 x2 x3 t = some ro → zJ E shM C cX12_areEqual RX12 10 f (some .boolean) ro t 2 [(0, .ref (za E 0)), (1, .int x1), (2, .int x2), (3, .int x3)] [] := by
  induction fu with
  | zero => intro x1 x2 x3 t hF; cases hF
  | succ fu ih => intro x1 x2 x3 t hF; exact wbX12_areEqual_2 hf (lX12_areEqual_2  fu) ih x1 x2 x3 t hF
set_option maxHeartbeats 4000000 in
set_option maxRecDepth 20000 in
theorem ctX12_areEqual {E : zE} {f : Nat} (hf : 3 ≤ f) {x1 : Int32} {x2 : Int32} {t : zS} {ro : Int32 × zS} (hF : mX12_areEqual  x1 x2 t = some ro) : zM E shM f yX12_areEqual cX12_areEqual 10 (some .boolean) [.ref (za E 0), .int x1, .int x2] t ro := by
  refine zM_of (by decide) (Nat.le_of_ble_eq_true rfl) (fun C => ?_)
  show zJ E shM C cX12_areEqual RX12 10 f (some .boolean) ro t 0 [(0, .ref (za E 0)), (1, .int x1), (2, .int x2)] []
  unfold mX12_areEqual at hF
  refine z_iconst (v := 0) dX12_areEqual_0 (by decide) ?_
  refine z_istore_n (lv' := [(3, .int 0), (0, .ref (za E 0)), (1, .int x1), (2, .int x2)]) dX12_areEqual_1 rfl (by decide) rfl ?_
  refine z_sub [1, 2, 3, 0] rfl ?_
  exact wlX12_areEqual_2 hf  zFU x1 x2 0 _ hF
-- SessionHouseModel.isBad(I)V
theorem dX12_isBad_0 : decode cX12_isBad 0 = .ok (.aload_n 0, 1) := by decide +kernel
theorem dX12_isBad_1 : decode cX12_isBad 1 = .ok (.getfield 423, 3) := by decide +kernel
theorem dX12_isBad_4 : decode cX12_isBad 4 = .ok (.ifCond .ge 8, 3) := by decide +kernel
theorem dX12_isBad_7 : decode cX12_isBad 7 = .ok (.aload_n 0, 1) := by decide +kernel
theorem dX12_isBad_8 : decode cX12_isBad 8 = .ok (.iload_n 1, 1) := by decide +kernel
theorem dX12_isBad_9 : decode cX12_isBad 9 = .ok (.putfield 423, 3) := by decide +kernel
theorem dX12_isBad_12 : decode cX12_isBad 12 = .ok (.return_, 1) := by decide +kernel
def mX12_isBad (x1 : Int32) (t : zS) : zR := if 0 ≤ (t 0 67) then some (0, t) else zpt t 0 67 x1 fun t3695 => some (0, t3695)
set_option maxHeartbeats 4000000 in
set_option maxRecDepth 20000 in
theorem ctX12_isBad {E : zE} {f : Nat} (hf : 1 ≤ f) {x1 : Int32} {t : zS} {ro : Int32 × zS} (hF : mX12_isBad  x1 t = some ro) : zM E shM f yX12_isBad cX12_isBad 2 none [.ref (za E 0), .int x1] t ro := by
  refine zM_of (by decide) (Nat.le_of_ble_eq_true rfl) (fun C => ?_)
  show zJ E shM C cX12_isBad RX12 2 f none ro t 0 [(0, .ref (za E 0)), (1, .int x1)] []
  unfold mX12_isBad at hF
  refine z_aload_n 0 dX12_isBad_0 rfl rfl ?_
  refine z_geti fi_RX12_423 dX12_isBad_1 ?_
  refine z_if_ge (tgt := 12) dX12_isBad_4 (by decide) (fun hc => ?_) (fun hc => ?_)
  · have hF := zif_t hc hF
    exact z_vret hF dX12_isBad_12
  · have hF := zif_f hc hF
    refine z_aload_n 0 dX12_isBad_7 rfl rfl ?_
    refine z_iload_n 1 dX12_isBad_8 rfl rfl ?_
    refine z_puti fw_RX12_423 dX12_isBad_9 (fun t3695 et3695 => ?_)
    have hF := zpt_at hF t3695 et3695
    exact z_vret hF dX12_isBad_12
-- SessionHouseModel.keptFrom()I
theorem dX12_keptFrom_0 : decode cX12_keptFrom 0 = .ok (.aload_n 0, 1) := by decide +kernel
theorem dX12_keptFrom_1 : decode cX12_keptFrom 1 = .ok (.getfield 464, 3) := by decide +kernel
theorem dX12_keptFrom_4 : decode cX12_keptFrom 4 = .ok (.istore_n 1, 1) := by decide +kernel
theorem dX12_keptFrom_5 : decode cX12_keptFrom 5 = .ok (.aload_n 0, 1) := by decide +kernel
theorem dX12_keptFrom_6 : decode cX12_keptFrom 6 = .ok (.dup, 1) := by decide +kernel
theorem dX12_keptFrom_7 : decode cX12_keptFrom 7 = .ok (.getfield 464, 3) := by decide +kernel
theorem dX12_keptFrom_10 : decode cX12_keptFrom 10 = .ok (.aload_n 0, 1) := by decide +kernel
theorem dX12_keptFrom_11 : decode cX12_keptFrom 11 = .ok (.aload_n 0, 1) := by decide +kernel
theorem dX12_keptFrom_12 : decode cX12_keptFrom 12 = .ok (.getfield 461, 3) := by decide +kernel
theorem dX12_keptFrom_15 : decode cX12_keptFrom 15 = .ok (.invokevirtual 458, 3) := by decide +kernel
theorem dX12_keptFrom_18 : decode cX12_keptFrom 18 = .ok (.iadd, 1) := by decide +kernel
theorem dX12_keptFrom_19 : decode cX12_keptFrom 19 = .ok (.putfield 464, 3) := by decide +kernel
theorem dX12_keptFrom_22 : decode cX12_keptFrom 22 = .ok (.iload_n 1, 1) := by decide +kernel
theorem dX12_keptFrom_23 : decode cX12_keptFrom 23 = .ok (.ireturn, 1) := by decide +kernel
def mX12_keptFrom (t : zS) : zR := zlet (t 0 70) fun v3696 => zbd (mX12_ownMany (t 0 68) t) fun r3697 t3698 => zpt t3698 0 70 ((t 0 70) + r3697) fun t3700 => some (v3696, t3700)
set_option maxHeartbeats 4000000 in
set_option maxRecDepth 20000 in
theorem ctX12_keptFrom {E : zE} {f : Nat} (hf : 2 ≤ f) {t : zS} {ro : Int32 × zS} (hF : mX12_keptFrom   t = some ro) : zM E shM f yX12_keptFrom cX12_keptFrom 2 (some .int) [.ref (za E 0)] t ro := by
  refine zM_of (by decide) (Nat.le_of_ble_eq_true rfl) (fun C => ?_)
  show zJ E shM C cX12_keptFrom RX12 2 f (some .int) ro t 0 [(0, .ref (za E 0))] []
  unfold mX12_keptFrom at hF
  refine z_aload_n 0 dX12_keptFrom_0 rfl rfl ?_
  refine z_geti fi_RX12_464 dX12_keptFrom_1 ?_
  refine z_topi (fun v3696 ev3696 => ?_)
  have hF := zlet_at ev3696 hF
  refine z_istore_n (lv' := [(1, .int v3696), (0, .ref (za E 0))]) dX12_keptFrom_4 rfl (by decide) rfl ?_
  refine z_aload_n 1 dX12_keptFrom_5 rfl rfl ?_
  refine z_dup dX12_keptFrom_6 rfl ?_
  refine z_geti fi_RX12_464 dX12_keptFrom_7 ?_
  refine z_aload_n 1 dX12_keptFrom_10 rfl rfl ?_
  refine z_aload_n 1 dX12_keptFrom_11 rfl rfl ?_
  refine z_geti fi_RX12_461 dX12_keptFrom_12 ?_
  obtain ⟨r3697, t3698, hc3699, hF⟩ := zbd_at hF
  refine z_callVi (ctX12_ownMany (E := E) (f := f - 1) (by omega) hc3699) yy_X12_ownMany yv_X12_ownMany ob_M_0 lk_RX12_458 (by omega) rfl rfl (Nat.le_of_ble_eq_true rfl) dX12_keptFrom_15 ?_
  refine z_iadd dX12_keptFrom_18 ?_
  refine z_puti fw_RX12_464 dX12_keptFrom_19 (fun t3700 et3700 => ?_)
  have hF := zpt_at hF t3700 et3700
  refine z_iload_n 0 dX12_keptFrom_22 rfl rfl ?_
  exact z_iret hF dX12_keptFrom_23
-- SessionHouseModel.copyDown(I)V
theorem dX12_copyDown_0 : decode cX12_copyDown 0 = .ok (.iconst 0, 1) := by decide +kernel
theorem dX12_copyDown_1 : decode cX12_copyDown 1 = .ok (.istore_n 2, 1) := by decide +kernel
theorem dX12_copyDown_2 : decode cX12_copyDown 2 = .ok (.iload_n 2, 1) := by decide +kernel
theorem dX12_copyDown_3 : decode cX12_copyDown 3 = .ok (.aload_n 0, 1) := by decide +kernel
theorem dX12_copyDown_4 : decode cX12_copyDown 4 = .ok (.aload_n 0, 1) := by decide +kernel
theorem dX12_copyDown_5 : decode cX12_copyDown 5 = .ok (.getfield 461, 3) := by decide +kernel
theorem dX12_copyDown_8 : decode cX12_copyDown 8 = .ok (.invokevirtual 458, 3) := by decide +kernel
theorem dX12_copyDown_11 : decode cX12_copyDown 11 = .ok (.if_icmp .ge 35, 3) := by decide +kernel
theorem dX12_copyDown_14 : decode cX12_copyDown 14 = .ok (.aload_n 0, 1) := by decide +kernel
theorem dX12_copyDown_15 : decode cX12_copyDown 15 = .ok (.getfield 135, 3) := by decide +kernel
theorem dX12_copyDown_18 : decode cX12_copyDown 18 = .ok (.sipush 1500, 3) := by decide +kernel
theorem dX12_copyDown_21 : decode cX12_copyDown 21 = .ok (.iload_n 1, 1) := by decide +kernel
theorem dX12_copyDown_22 : decode cX12_copyDown 22 = .ok (.iconst 1, 1) := by decide +kernel
theorem dX12_copyDown_23 : decode cX12_copyDown 23 = .ok (.iadd, 1) := by decide +kernel
theorem dX12_copyDown_24 : decode cX12_copyDown 24 = .ok (.imul, 1) := by decide +kernel
theorem dX12_copyDown_25 : decode cX12_copyDown 25 = .ok (.iload_n 2, 1) := by decide +kernel
theorem dX12_copyDown_26 : decode cX12_copyDown 26 = .ok (.iadd, 1) := by decide +kernel
theorem dX12_copyDown_27 : decode cX12_copyDown 27 = .ok (.aload_n 0, 1) := by decide +kernel
theorem dX12_copyDown_28 : decode cX12_copyDown 28 = .ok (.getfield 135, 3) := by decide +kernel
theorem dX12_copyDown_31 : decode cX12_copyDown 31 = .ok (.sipush 1500, 3) := by decide +kernel
theorem dX12_copyDown_34 : decode cX12_copyDown 34 = .ok (.iload_n 1, 1) := by decide +kernel
theorem dX12_copyDown_35 : decode cX12_copyDown 35 = .ok (.imul, 1) := by decide +kernel
theorem dX12_copyDown_36 : decode cX12_copyDown 36 = .ok (.iload_n 2, 1) := by decide +kernel
theorem dX12_copyDown_37 : decode cX12_copyDown 37 = .ok (.iadd, 1) := by decide +kernel
theorem dX12_copyDown_38 : decode cX12_copyDown 38 = .ok (.iaload, 1) := by decide +kernel
theorem dX12_copyDown_39 : decode cX12_copyDown 39 = .ok (.iastore, 1) := by decide +kernel
theorem dX12_copyDown_40 : decode cX12_copyDown 40 = .ok (.iinc 2 1, 3) := by decide +kernel
theorem dX12_copyDown_43 : decode cX12_copyDown 43 = .ok (.goto (-41), 3) := by decide +kernel
theorem dX12_copyDown_46 : decode cX12_copyDown 46 = .ok (.return_, 1) := by decide +kernel
def bX12_copyDown_2 (k2 : Int32 → Int32 → zS → zR) (x1 : Int32) (x2 : Int32) (t : zS) : zR := zbd (mX12_ownMany (t 0 68) t) fun r3701 t3702 => if r3701 ≤ x2 then some (0, t3702) else zrd t3702 42 66000 ((1500 * x1) + x2) fun v3704 => zwr t3702 42 66000 ((1500 * (x1 + 1)) + x2) v3704 fun t3707 => zlet (x2 + 1) fun v3708 => k2 x1 v3708 t3707
def lX12_copyDown_2 : Nat → Int32 → Int32 → zS → zR
  | 0, _, _, _ => none
  | fu + 1, x1, x2, t => bX12_copyDown_2 (lX12_copyDown_2  fu) x1 x2 t
def mX12_copyDown (x1 : Int32) (t : zS) : zR := lX12_copyDown_2  zFU x1 0 t
set_option maxHeartbeats 4000000 in
set_option maxRecDepth 20000 in
theorem wbX12_copyDown_2 {E : zE} {C : zC} {f : Nat} {ro : Int32 × zS} (hf : 2 ≤ f) (k2 : Int32 → Int32 → zS → zR) (hk2 : ∀ (x1 x2 : Int32) (t : zS), k2 x1 x2 t = some ro → zJ E shM C cX12_copyDown RX12 3 f none ro t 2 [(0, .ref (za E 0)), (1, .int x1), (2, .int x2)] []) (x1 : Int32) (x2 : Int32) (t : zS) (hF : bX12_copyDown_2 k2 x1 x2 t = some ro) : zJ E shM C cX12_copyDown RX12 3 f none ro t 2 [(0, .ref (za E 0)), (1, .int x1), (2, .int x2)] [] := by
  unfold bX12_copyDown_2 at hF
  refine z_iload_n 2 dX12_copyDown_2 rfl rfl ?_
  refine z_aload_n 0 dX12_copyDown_3 rfl rfl ?_
  refine z_aload_n 0 dX12_copyDown_4 rfl rfl ?_
  refine z_geti fi_RX12_461 dX12_copyDown_5 ?_
  obtain ⟨r3701, t3702, hc3703, hF⟩ := zbd_at hF
  refine z_callVi (ctX12_ownMany (E := E) (f := f - 1) (by omega) hc3703) yy_X12_ownMany yv_X12_ownMany ob_M_0 lk_RX12_458 (by omega) rfl rfl (Nat.le_of_ble_eq_true rfl) dX12_copyDown_8 ?_
  refine z_icmp_ge (tgt := 46) dX12_copyDown_11 (by decide) (fun hc => ?_) (fun hc => ?_)
  · have hF := zif_t hc hF
    exact z_vret hF dX12_copyDown_46
  · have hF := zif_f hc hF
    refine z_aload_n 0 dX12_copyDown_14 rfl rfl ?_
    refine z_getr fr_RX12_135 dX12_copyDown_15 ?_
    refine z_sipush (v := 1500) dX12_copyDown_18 (by decide) ?_
    refine z_iload_n 1 dX12_copyDown_21 rfl rfl ?_
    refine z_iconst (v := 1) dX12_copyDown_22 (by decide) ?_
    refine z_iadd dX12_copyDown_23 ?_
    refine z_imul dX12_copyDown_24 ?_
    refine z_iload_n 2 dX12_copyDown_25 rfl rfl ?_
    refine z_iadd dX12_copyDown_26 ?_
    refine z_aload_n 0 dX12_copyDown_27 rfl rfl ?_
    refine z_getr fr_RX12_135 dX12_copyDown_28 ?_
    refine z_sipush (v := 1500) dX12_copyDown_31 (by decide) ?_
    refine z_iload_n 1 dX12_copyDown_34 rfl rfl ?_
    refine z_imul dX12_copyDown_35 ?_
    refine z_iload_n 2 dX12_copyDown_36 rfl rfl ?_
    refine z_iadd dX12_copyDown_37 ?_
    obtain ⟨hi3705, hF⟩ := zrd_at hF
    refine z_iald (n := 66000) rfl hi3705 dX12_copyDown_38 ?_
    generalize t3702 42 (Int32.toNatClampNeg ((1500 * x1) + x2)) = v3704 at hF ⊢
    obtain ⟨hi3706, hF⟩ := zwr_at hF
    refine z_iast (n := 66000) rfl hi3706 dX12_copyDown_39 (fun t3707 et3707 => ?_)
    have hF := hF t3707 et3707
    obtain ⟨v3708, ev3708⟩ : ∃ y : Int32, y = (x2 + 1) := ⟨_, rfl⟩
    have hF := zlet_at ev3708 hF
    refine z_iinc (v := v3708) (lv' := [(2, .int v3708), (0, .ref (za E 0)), (1, .int x1)]) (k := 2) dX12_copyDown_40 rfl (by rw [ev3708]; rfl) (by decide) rfl ?_
    refine z_goto (tgt := 2) dX12_copyDown_43 (by decide) ?_
    refine z_sub [1, 2, 0] rfl ?_
    exact hk2 x1 v3708 _ hF
set_option maxHeartbeats 4000000 in
set_option maxRecDepth 20000 in
theorem wlX12_copyDown_2 {E : zE} {C : zC} {f : Nat} {ro : Int32 × zS} (hf : 2 ≤ f) (fu : Nat) : ∀ (x1 x2 : Int32) (t : zS), lX12_copyDown_2  fu x1 x2 t = some ro → zJ E shM C cX12_copyDown RX12 3 f none ro t 2 [(0, .ref (za E 0)), (1, .int x1), (2, .int x2)] [] := by
  induction fu with
  | zero => intro x1 x2 t hF; cases hF
  | succ fu ih => intro x1 x2 t hF; exact wbX12_copyDown_2 hf (lX12_copyDown_2  fu) ih x1 x2 t hF
set_option maxHeartbeats 4000000 in
set_option maxRecDepth 20000 in
theorem ctX12_copyDown {E : zE} {f : Nat} (hf : 2 ≤ f) {x1 : Int32} {t : zS} {ro : Int32 × zS} (hF : mX12_copyDown  x1 t = some ro) : zM E shM f yX12_copyDown cX12_copyDown 3 none [.ref (za E 0), .int x1] t ro := by
  refine zM_of (by decide) (Nat.le_of_ble_eq_true rfl) (fun C => ?_)
  show zJ E shM C cX12_copyDown RX12 3 f none ro t 0 [(0, .ref (za E 0)), (1, .int x1)] []
  unfold mX12_copyDown at hF
  refine z_iconst (v := 0) dX12_copyDown_0 (by decide) ?_
  refine z_istore_n (lv' := [(2, .int 0), (0, .ref (za E 0)), (1, .int x1)]) dX12_copyDown_1 rfl (by decide) rfl ?_
  refine z_sub [1, 2, 0] rfl ?_
  exact wlX12_copyDown_2 hf  zFU x1 0 _ hF
-- SessionHouseModel.isKept(II)Z
theorem dX12_isKept_0 : decode cX12_isKept 0 = .ok (.iconst 1, 1) := by decide +kernel
theorem dX12_isKept_1 : decode cX12_isKept 1 = .ok (.istore_n 3, 1) := by decide +kernel
theorem dX12_isKept_2 : decode cX12_isKept 2 = .ok (.iconst 0, 1) := by decide +kernel
theorem dX12_isKept_3 : decode cX12_isKept 3 = .ok (.istore 4, 2) := by decide +kernel
theorem dX12_isKept_5 : decode cX12_isKept 5 = .ok (.iload 4, 2) := by decide +kernel
theorem dX12_isKept_7 : decode cX12_isKept 7 = .ok (.aload_n 0, 1) := by decide +kernel
theorem dX12_isKept_8 : decode cX12_isKept 8 = .ok (.aload_n 0, 1) := by decide +kernel
theorem dX12_isKept_9 : decode cX12_isKept 9 = .ok (.getfield 461, 3) := by decide +kernel
theorem dX12_isKept_12 : decode cX12_isKept 12 = .ok (.invokevirtual 458, 3) := by decide +kernel
theorem dX12_isKept_15 : decode cX12_isKept 15 = .ok (.if_icmp .ge 73, 3) := by decide +kernel
theorem dX12_isKept_18 : decode cX12_isKept 18 = .ok (.iload_n 3, 1) := by decide +kernel
theorem dX12_isKept_19 : decode cX12_isKept 19 = .ok (.ifCond .eq 69, 3) := by decide +kernel
theorem dX12_isKept_22 : decode cX12_isKept 22 = .ok (.aload_n 0, 1) := by decide +kernel
theorem dX12_isKept_23 : decode cX12_isKept 23 = .ok (.iload_n 1, 1) := by decide +kernel
theorem dX12_isKept_24 : decode cX12_isKept 24 = .ok (.iload 4, 2) := by decide +kernel
theorem dX12_isKept_26 : decode cX12_isKept 26 = .ok (.invokevirtual 484, 3) := by decide +kernel
theorem dX12_isKept_29 : decode cX12_isKept 29 = .ok (.istore 5, 2) := by decide +kernel
theorem dX12_isKept_31 : decode cX12_isKept 31 = .ok (.aload_n 0, 1) := by decide +kernel
theorem dX12_isKept_32 : decode cX12_isKept 32 = .ok (.getfield 138, 3) := by decide +kernel
theorem dX12_isKept_35 : decode cX12_isKept 35 = .ok (.iload_n 2, 1) := by decide +kernel
theorem dX12_isKept_36 : decode cX12_isKept 36 = .ok (.iload 4, 2) := by decide +kernel
theorem dX12_isKept_38 : decode cX12_isKept 38 = .ok (.iadd, 1) := by decide +kernel
theorem dX12_isKept_39 : decode cX12_isKept 39 = .ok (.iaload, 1) := by decide +kernel
theorem dX12_isKept_40 : decode cX12_isKept 40 = .ok (.istore 6, 2) := by decide +kernel
theorem dX12_isKept_42 : decode cX12_isKept 42 = .ok (.iload 5, 2) := by decide +kernel
theorem dX12_isKept_44 : decode cX12_isKept 44 = .ok (.ifCond .ge 16, 3) := by decide +kernel
theorem dX12_isKept_47 : decode cX12_isKept 47 = .ok (.iload 6, 2) := by decide +kernel
theorem dX12_isKept_49 : decode cX12_isKept 49 = .ok (.ifCond .ge 7, 3) := by decide +kernel
theorem dX12_isKept_52 : decode cX12_isKept 52 = .ok (.iconst 1, 1) := by decide +kernel
theorem dX12_isKept_53 : decode cX12_isKept 53 = .ok (.goto 28, 3) := by decide +kernel
theorem dX12_isKept_56 : decode cX12_isKept 56 = .ok (.iconst 0, 1) := by decide +kernel
theorem dX12_isKept_57 : decode cX12_isKept 57 = .ok (.goto 24, 3) := by decide +kernel
theorem dX12_isKept_60 : decode cX12_isKept 60 = .ok (.iload 6, 2) := by decide +kernel
theorem dX12_isKept_62 : decode cX12_isKept 62 = .ok (.ifCond .lt 18, 3) := by decide +kernel
theorem dX12_isKept_65 : decode cX12_isKept 65 = .ok (.aload_n 0, 1) := by decide +kernel
theorem dX12_isKept_66 : decode cX12_isKept 66 = .ok (.iload 5, 2) := by decide +kernel
theorem dX12_isKept_68 : decode cX12_isKept 68 = .ok (.iload 6, 2) := by decide +kernel
theorem dX12_isKept_70 : decode cX12_isKept 70 = .ok (.invokevirtual 494, 3) := by decide +kernel
theorem dX12_isKept_73 : decode cX12_isKept 73 = .ok (.ifCond .eq 7, 3) := by decide +kernel
theorem dX12_isKept_76 : decode cX12_isKept 76 = .ok (.iconst 1, 1) := by decide +kernel
theorem dX12_isKept_77 : decode cX12_isKept 77 = .ok (.goto 4, 3) := by decide +kernel
theorem dX12_isKept_80 : decode cX12_isKept 80 = .ok (.iconst 0, 1) := by decide +kernel
theorem dX12_isKept_81 : decode cX12_isKept 81 = .ok (.istore_n 3, 1) := by decide +kernel
theorem dX12_isKept_82 : decode cX12_isKept 82 = .ok (.iinc 4 1, 3) := by decide +kernel
theorem dX12_isKept_85 : decode cX12_isKept 85 = .ok (.goto (-80), 3) := by decide +kernel
theorem dX12_isKept_88 : decode cX12_isKept 88 = .ok (.iload_n 3, 1) := by decide +kernel
theorem dX12_isKept_89 : decode cX12_isKept 89 = .ok (.ireturn, 1) := by decide +kernel
def bX12_isKept_81 (k5 : Int32 → Int32 → Int32 → Int32 → zS → zR) (x1 : Int32) (x2 : Int32) (x4 : Int32) (y0 : Int32) (t : zS) : zR := zlet (x4 + 1) fun v3709 => k5 x1 x2 y0 v3709 t
def bX12_isKept_80 (k5 : Int32 → Int32 → Int32 → Int32 → zS → zR) (x1 : Int32) (x2 : Int32) (x4 : Int32) (t : zS) : zR := bX12_isKept_81 k5 x1 x2 x4 0 t
def bX12_isKept_5 (k5 : Int32 → Int32 → Int32 → Int32 → zS → zR) (x1 : Int32) (x2 : Int32) (x3 : Int32) (x4 : Int32) (t : zS) : zR := zbd (mX12_ownMany (t 0 68) t) fun r3710 t3711 => if r3710 ≤ x4 then z01 x3 (some (x3, t3711)) else if x3 = 0 then z01 x3 (some (x3, t3711)) else zbd (mX12_channel x1 x4 t3711) fun r3715 t3716 => zrd t3716 43 66000 (x2 + x4) fun v3718 => if 0 ≤ r3715 then if v3718 < 0 then bX12_isKept_80 k5 x1 x2 x4 t3716 else zbd (mX12_areEqual r3715 v3718 t3716) fun r3720 t3721 => if r3720 = 0 then bX12_isKept_80 k5 x1 x2 x4 t3721 else bX12_isKept_81 k5 x1 x2 x4 1 t3721 else if 0 ≤ v3718 then bX12_isKept_81 k5 x1 x2 x4 0 t3716 else bX12_isKept_81 k5 x1 x2 x4 1 t3716
def lX12_isKept_5 : Nat → Int32 → Int32 → Int32 → Int32 → zS → zR
  | 0, _, _, _, _, _ => none
  | fu + 1, x1, x2, x3, x4, t => bX12_isKept_5 (lX12_isKept_5  fu) x1 x2 x3 x4 t
def mX12_isKept (x1 : Int32) (x2 : Int32) (t : zS) : zR := lX12_isKept_5  zFU x1 x2 1 0 t
set_option maxHeartbeats 4000000 in
set_option maxRecDepth 20000 in
theorem wbX12_isKept_81 {E : zE} {C : zC} {f : Nat} {ro : Int32 × zS} (hf : 4 ≤ f) (k5 : Int32 → Int32 → Int32 → Int32 → zS → zR) (hk5 : ∀ (x1 x2 x3 x4 : Int32) (t : zS), k5 x1 x2 x3 x4 t = some ro → zJ E shM C cX12_isKept RX12 7 f (some .boolean) ro t 5 [(0, .ref (za E 0)), (1, .int x1), (2, .int x2), (3, .int x3), (4, .int x4)] []) (x1 : Int32) (x2 : Int32) (x4 : Int32) (y0 : Int32) (t : zS) (hF : bX12_isKept_81 k5 x1 x2 x4 y0 t = some ro) : zJ E shM C cX12_isKept RX12 7 f (some .boolean) ro t 81 [(0, .ref (za E 0)), (1, .int x1), (2, .int x2), (4, .int x4)] [.int y0] := by
  unfold bX12_isKept_81 at hF
  refine z_istore_n (lv' := [(3, .int y0), (0, .ref (za E 0)), (1, .int x1), (2, .int x2), (4, .int x4)]) dX12_isKept_81 rfl (by decide) rfl ?_
  obtain ⟨v3709, ev3709⟩ : ∃ y : Int32, y = (x4 + 1) := ⟨_, rfl⟩
  have hF := zlet_at ev3709 hF
  refine z_iinc (v := v3709) (lv' := [(4, .int v3709), (3, .int y0), (0, .ref (za E 0)), (1, .int x1), (2, .int x2)]) (k := 4) dX12_isKept_82 rfl (by rw [ev3709]; rfl) (by decide) rfl ?_
  refine z_goto (tgt := 5) dX12_isKept_85 (by decide) ?_
  refine z_sub [2, 3, 4, 1, 0] rfl ?_
  exact hk5 x1 x2 y0 v3709 _ hF
set_option maxHeartbeats 4000000 in
set_option maxRecDepth 20000 in
theorem wbX12_isKept_80 {E : zE} {C : zC} {f : Nat} {ro : Int32 × zS} (hf : 4 ≤ f) (k5 : Int32 → Int32 → Int32 → Int32 → zS → zR) (hk5 : ∀ (x1 x2 x3 x4 : Int32) (t : zS), k5 x1 x2 x3 x4 t = some ro → zJ E shM C cX12_isKept RX12 7 f (some .boolean) ro t 5 [(0, .ref (za E 0)), (1, .int x1), (2, .int x2), (3, .int x3), (4, .int x4)] []) (x1 : Int32) (x2 : Int32) (x4 : Int32) (t : zS) (hF : bX12_isKept_80 k5 x1 x2 x4 t = some ro) : zJ E shM C cX12_isKept RX12 7 f (some .boolean) ro t 80 [(0, .ref (za E 0)), (1, .int x1), (2, .int x2), (4, .int x4)] [] := by
  unfold bX12_isKept_80 at hF
  refine z_iconst (v := 0) dX12_isKept_80 (by decide) ?_
  exact wbX12_isKept_81 hf k5 hk5 x1 x2 x4 0 _ hF
set_option maxHeartbeats 4000000 in
set_option maxRecDepth 20000 in
theorem wbX12_isKept_5 {E : zE} {C : zC} {f : Nat} {ro : Int32 × zS} (hf : 4 ≤ f) (k5 : Int32 → Int32 → Int32 → Int32 → zS → zR) (hk5 : ∀ (x1 x2 x3 x4 : Int32) (t : zS), k5 x1 x2 x3 x4 t = some ro → zJ E shM C cX12_isKept RX12 7 f (some .boolean) ro t 5 [(0, .ref (za E 0)), (1, .int x1), (2, .int x2), (3, .int x3), (4, .int x4)] []) (x1 : Int32) (x2 : Int32) (x3 : Int32) (x4 : Int32) (t : zS) (hF : bX12_isKept_5 k5 x1 x2 x3 x4 t = some ro) : zJ E shM C cX12_isKept RX12 7 f (some .boolean) ro t 5 [(0, .ref (za E 0)), (1, .int x1), (2, .int x2), (3, .int x3), (4, .int x4)] [] := by
  unfold bX12_isKept_5 at hF
  refine z_iload 4 dX12_isKept_5 rfl ?_
  refine z_aload_n 0 dX12_isKept_7 rfl rfl ?_
  refine z_aload_n 0 dX12_isKept_8 rfl rfl ?_
  refine z_geti fi_RX12_461 dX12_isKept_9 ?_
  obtain ⟨r3710, t3711, hc3712, hF⟩ := zbd_at hF
  refine z_callVi (ctX12_ownMany (E := E) (f := f - 1) (by omega) hc3712) yy_X12_ownMany yv_X12_ownMany ob_M_0 lk_RX12_458 (by omega) rfl rfl (Nat.le_of_ble_eq_true rfl) dX12_isKept_12 ?_
  refine z_icmp_ge (tgt := 88) dX12_isKept_15 (by decide) (fun hc => ?_) (fun hc => ?_)
  · have hF := zif_t hc hF
    refine z_iload_n 3 dX12_isKept_88 rfl rfl ?_
    obtain ⟨hz3713, hF⟩ := z01_at hF
    exact z_zret hF hz3713 dX12_isKept_89
  · have hF := zif_f hc hF
    refine z_iload_n 3 dX12_isKept_18 rfl rfl ?_
    refine z_if_eq (tgt := 88) dX12_isKept_19 (by decide) (fun hc => ?_) (fun hc => ?_)
    · have hF := zif_t hc hF
      refine z_iload_n 3 dX12_isKept_88 rfl rfl ?_
      obtain ⟨hz3714, hF⟩ := z01_at hF
      exact z_zret hF hz3714 dX12_isKept_89
    · have hF := zif_f hc hF
      refine z_aload_n 0 dX12_isKept_22 rfl rfl ?_
      refine z_iload_n 1 dX12_isKept_23 rfl rfl ?_
      refine z_iload 4 dX12_isKept_24 rfl ?_
      obtain ⟨r3715, t3716, hc3717, hF⟩ := zbd_at hF
      refine z_callVi (ctX12_channel (E := E) (f := f - 1) (by omega) hc3717) yy_X12_channel yv_X12_channel ob_M_0 lk_RX12_484 (by omega) rfl rfl (Nat.le_of_ble_eq_true rfl) dX12_isKept_26 ?_
      refine z_istore (lv' := [(5, .int r3715), (0, .ref (za E 0)), (1, .int x1), (2, .int x2), (3, .int x3), (4, .int x4)]) dX12_isKept_29 (by decide) rfl ?_
      refine z_aload_n 1 dX12_isKept_31 rfl rfl ?_
      refine z_getr fr_RX12_138 dX12_isKept_32 ?_
      refine z_iload_n 3 dX12_isKept_35 rfl rfl ?_
      refine z_iload 5 dX12_isKept_36 rfl ?_
      refine z_iadd dX12_isKept_38 ?_
      obtain ⟨hi3719, hF⟩ := zrd_at hF
      refine z_iald (n := 66000) rfl hi3719 dX12_isKept_39 ?_
      generalize t3716 43 (Int32.toNatClampNeg (x2 + x4)) = v3718 at hF ⊢
      refine z_istore (lv' := [(6, .int v3718), (5, .int r3715), (0, .ref (za E 0)), (1, .int x1), (2, .int x2), (3, .int x3), (4, .int x4)]) dX12_isKept_40 (by decide) rfl ?_
      refine z_iload 1 dX12_isKept_42 rfl ?_
      refine z_if_ge (tgt := 60) dX12_isKept_44 (by decide) (fun hc => ?_) (fun hc => ?_)
      · have hF := zif_t hc hF
        refine z_iload 0 dX12_isKept_60 rfl ?_
        refine z_if_lt (tgt := 80) dX12_isKept_62 (by decide) (fun hc => ?_) (fun hc => ?_)
        · have hF := zif_t hc hF
          refine z_sub [2, 3, 4, 6] rfl ?_
          exact wbX12_isKept_80 hf k5 hk5 x1 x2 x4 _ hF
        · have hF := zif_f hc hF
          refine z_aload_n 2 dX12_isKept_65 rfl rfl ?_
          refine z_iload 1 dX12_isKept_66 rfl ?_
          refine z_iload 0 dX12_isKept_68 rfl ?_
          obtain ⟨r3720, t3721, hc3722, hF⟩ := zbd_at hF
          refine z_callVi (ctX12_areEqual (E := E) (f := f - 1) (by omega) hc3722) yy_X12_areEqual yv_X12_areEqual ob_M_0 lk_RX12_494 (by omega) rfl rfl (Nat.le_of_ble_eq_true rfl) dX12_isKept_70 ?_
          refine z_if_eq (tgt := 80) dX12_isKept_73 (by decide) (fun hc => ?_) (fun hc => ?_)
          · have hF := zif_t hc hF
            refine z_sub [2, 3, 4, 6] rfl ?_
            exact wbX12_isKept_80 hf k5 hk5 x1 x2 x4 _ hF
          · have hF := zif_f hc hF
            refine z_iconst (v := 1) dX12_isKept_76 (by decide) ?_
            refine z_goto (tgt := 81) dX12_isKept_77 (by decide) ?_
            refine z_sub [2, 3, 4, 6] rfl ?_
            exact wbX12_isKept_81 hf k5 hk5 x1 x2 x4 1 _ hF
      · have hF := zif_f hc hF
        refine z_iload 0 dX12_isKept_47 rfl ?_
        refine z_if_ge (tgt := 56) dX12_isKept_49 (by decide) (fun hc => ?_) (fun hc => ?_)
        · have hF := zif_t hc hF
          refine z_iconst (v := 0) dX12_isKept_56 (by decide) ?_
          refine z_goto (tgt := 81) dX12_isKept_57 (by decide) ?_
          refine z_sub [2, 3, 4, 6] rfl ?_
          exact wbX12_isKept_81 hf k5 hk5 x1 x2 x4 0 _ hF
        · have hF := zif_f hc hF
          refine z_iconst (v := 1) dX12_isKept_52 (by decide) ?_
          refine z_goto (tgt := 81) dX12_isKept_53 (by decide) ?_
          refine z_sub [2, 3, 4, 6] rfl ?_
          exact wbX12_isKept_81 hf k5 hk5 x1 x2 x4 1 _ hF
set_option maxHeartbeats 4000000 in
set_option maxRecDepth 20000 in
theorem wlX12_isKept_5 {E : zE} {C : zC} {f : Nat} {ro : Int32 × zS} (hf : 4 ≤ f) (fu : Nat) : ∀ (x1 x2 x3 x4 : Int32) (t : zS), lX12_isKept_5  fu x1 x2 x3 x4 t = some ro → zJ E shM C cX12_isKept RX12 7 f (some .boolean) ro t 5 [(0, .ref (za E 0)), (1, .int x1), (2, .int x2), (3, .int x3), (4, .int x4)] [] := by
  induction fu with
  | zero => intro x1 x2 x3 x4 t hF; cases hF
  | succ fu ih => intro x1 x2 x3 x4 t hF; exact wbX12_isKept_5 hf (lX12_isKept_5  fu) ih x1 x2 x3 x4 t hF
set_option maxHeartbeats 4000000 in
set_option maxRecDepth 20000 in
theorem ctX12_isKept {E : zE} {f : Nat} (hf : 4 ≤ f) {x1 : Int32} {x2 : Int32} {t : zS} {ro : Int32 × zS} (hF : mX12_isKept  x1 x2 t = some ro) : zM E shM f yX12_isKept cX12_isKept 7 (some .boolean) [.ref (za E 0), .int x1, .int x2] t ro := by
  refine zM_of (by decide) (Nat.le_of_ble_eq_true rfl) (fun C => ?_)
  show zJ E shM C cX12_isKept RX12 7 f (some .boolean) ro t 0 [(0, .ref (za E 0)), (1, .int x1), (2, .int x2)] []
  unfold mX12_isKept at hF
  refine z_iconst (v := 1) dX12_isKept_0 (by decide) ?_
  refine z_istore_n (lv' := [(3, .int 1), (0, .ref (za E 0)), (1, .int x1), (2, .int x2)]) dX12_isKept_1 rfl (by decide) rfl ?_
  refine z_iconst (v := 0) dX12_isKept_2 (by decide) ?_
  refine z_istore (lv' := [(4, .int 0), (3, .int 1), (0, .ref (za E 0)), (1, .int x1), (2, .int x2)]) dX12_isKept_3 (by decide) rfl ?_
  refine z_sub [2, 3, 4, 1, 0] rfl ?_
  exact wlX12_isKept_5 hf  zFU x1 x2 1 0 _ hF
-- SessionHouseModel.keepAll(II)V
theorem dX12_keepAll_0 : decode cX12_keepAll 0 = .ok (.iconst 0, 1) := by decide +kernel
theorem dX12_keepAll_1 : decode cX12_keepAll 1 = .ok (.istore_n 3, 1) := by decide +kernel
theorem dX12_keepAll_2 : decode cX12_keepAll 2 = .ok (.iload_n 3, 1) := by decide +kernel
theorem dX12_keepAll_3 : decode cX12_keepAll 3 = .ok (.aload_n 0, 1) := by decide +kernel
theorem dX12_keepAll_4 : decode cX12_keepAll 4 = .ok (.aload_n 0, 1) := by decide +kernel
theorem dX12_keepAll_5 : decode cX12_keepAll 5 = .ok (.getfield 461, 3) := by decide +kernel
theorem dX12_keepAll_8 : decode cX12_keepAll 8 = .ok (.invokevirtual 458, 3) := by decide +kernel
theorem dX12_keepAll_11 : decode cX12_keepAll 11 = .ok (.if_icmp .ge 23, 3) := by decide +kernel
theorem dX12_keepAll_14 : decode cX12_keepAll 14 = .ok (.aload_n 0, 1) := by decide +kernel
theorem dX12_keepAll_15 : decode cX12_keepAll 15 = .ok (.getfield 138, 3) := by decide +kernel
theorem dX12_keepAll_18 : decode cX12_keepAll 18 = .ok (.iload_n 2, 1) := by decide +kernel
theorem dX12_keepAll_19 : decode cX12_keepAll 19 = .ok (.iload_n 3, 1) := by decide +kernel
theorem dX12_keepAll_20 : decode cX12_keepAll 20 = .ok (.iadd, 1) := by decide +kernel
theorem dX12_keepAll_21 : decode cX12_keepAll 21 = .ok (.aload_n 0, 1) := by decide +kernel
theorem dX12_keepAll_22 : decode cX12_keepAll 22 = .ok (.iload_n 1, 1) := by decide +kernel
theorem dX12_keepAll_23 : decode cX12_keepAll 23 = .ok (.iload_n 3, 1) := by decide +kernel
theorem dX12_keepAll_24 : decode cX12_keepAll 24 = .ok (.invokevirtual 484, 3) := by decide +kernel
theorem dX12_keepAll_27 : decode cX12_keepAll 27 = .ok (.iastore, 1) := by decide +kernel
theorem dX12_keepAll_28 : decode cX12_keepAll 28 = .ok (.iinc 3 1, 3) := by decide +kernel
theorem dX12_keepAll_31 : decode cX12_keepAll 31 = .ok (.goto (-29), 3) := by decide +kernel
theorem dX12_keepAll_34 : decode cX12_keepAll 34 = .ok (.return_, 1) := by decide +kernel
def bX12_keepAll_2 (k2 : Int32 → Int32 → Int32 → zS → zR) (x1 : Int32) (x2 : Int32) (x3 : Int32) (t : zS) : zR := zbd (mX12_ownMany (t 0 68) t) fun r3723 t3724 => if r3723 ≤ x3 then some (0, t3724) else zbd (mX12_channel x1 x3 t3724) fun r3726 t3727 => zwr t3727 43 66000 (x2 + x3) r3726 fun t3730 => zlet (x3 + 1) fun v3731 => k2 x1 x2 v3731 t3730
def lX12_keepAll_2 : Nat → Int32 → Int32 → Int32 → zS → zR
  | 0, _, _, _, _ => none
  | fu + 1, x1, x2, x3, t => bX12_keepAll_2 (lX12_keepAll_2  fu) x1 x2 x3 t
def mX12_keepAll (x1 : Int32) (x2 : Int32) (t : zS) : zR := lX12_keepAll_2  zFU x1 x2 0 t
set_option maxHeartbeats 4000000 in
set_option maxRecDepth 20000 in
theorem wbX12_keepAll_2 {E : zE} {C : zC} {f : Nat} {ro : Int32 × zS} (hf : 2 ≤ f) (k2 : Int32 → Int32 → Int32 → zS → zR) (hk2 : ∀ (x1 x2 x3 : Int32) (t : zS), k2 x1 x2 x3 t = some ro → zJ E shM C cX12_keepAll RX12 4 f none ro t 2 [(0, .ref (za E 0)), (1, .int x1), (2, .int x2), (3, .int x3)] []) (x1 : Int32) (x2 : Int32) (x3 : Int32) (t : zS) (hF : bX12_keepAll_2 k2 x1 x2 x3 t = some ro) : zJ E shM C cX12_keepAll RX12 4 f none ro t 2 [(0, .ref (za E 0)), (1, .int x1), (2, .int x2), (3, .int x3)] [] := by
  unfold bX12_keepAll_2 at hF
  refine z_iload_n 3 dX12_keepAll_2 rfl rfl ?_
  refine z_aload_n 0 dX12_keepAll_3 rfl rfl ?_
  refine z_aload_n 0 dX12_keepAll_4 rfl rfl ?_
  refine z_geti fi_RX12_461 dX12_keepAll_5 ?_
  obtain ⟨r3723, t3724, hc3725, hF⟩ := zbd_at hF
  refine z_callVi (ctX12_ownMany (E := E) (f := f - 1) (by omega) hc3725) yy_X12_ownMany yv_X12_ownMany ob_M_0 lk_RX12_458 (by omega) rfl rfl (Nat.le_of_ble_eq_true rfl) dX12_keepAll_8 ?_
  refine z_icmp_ge (tgt := 34) dX12_keepAll_11 (by decide) (fun hc => ?_) (fun hc => ?_)
  · have hF := zif_t hc hF
    exact z_vret hF dX12_keepAll_34
  · have hF := zif_f hc hF
    refine z_aload_n 0 dX12_keepAll_14 rfl rfl ?_
    refine z_getr fr_RX12_138 dX12_keepAll_15 ?_
    refine z_iload_n 2 dX12_keepAll_18 rfl rfl ?_
    refine z_iload_n 3 dX12_keepAll_19 rfl rfl ?_
    refine z_iadd dX12_keepAll_20 ?_
    refine z_aload_n 0 dX12_keepAll_21 rfl rfl ?_
    refine z_iload_n 1 dX12_keepAll_22 rfl rfl ?_
    refine z_iload_n 3 dX12_keepAll_23 rfl rfl ?_
    obtain ⟨r3726, t3727, hc3728, hF⟩ := zbd_at hF
    refine z_callVi (ctX12_channel (E := E) (f := f - 1) (by omega) hc3728) yy_X12_channel yv_X12_channel ob_M_0 lk_RX12_484 (by omega) rfl rfl (Nat.le_of_ble_eq_true rfl) dX12_keepAll_24 ?_
    obtain ⟨hi3729, hF⟩ := zwr_at hF
    refine z_iast (n := 66000) rfl hi3729 dX12_keepAll_27 (fun t3730 et3730 => ?_)
    have hF := hF t3730 et3730
    obtain ⟨v3731, ev3731⟩ : ∃ y : Int32, y = (x3 + 1) := ⟨_, rfl⟩
    have hF := zlet_at ev3731 hF
    refine z_iinc (v := v3731) (lv' := [(3, .int v3731), (0, .ref (za E 0)), (1, .int x1), (2, .int x2)]) (k := 3) dX12_keepAll_28 rfl (by rw [ev3731]; rfl) (by decide) rfl ?_
    refine z_goto (tgt := 2) dX12_keepAll_31 (by decide) ?_
    refine z_sub [1, 2, 3, 0] rfl ?_
    exact hk2 x1 x2 v3731 _ hF
set_option maxHeartbeats 4000000 in
set_option maxRecDepth 20000 in
theorem wlX12_keepAll_2 {E : zE} {C : zC} {f : Nat} {ro : Int32 × zS} (hf : 2 ≤ f) (fu : Nat) : ∀ (x1 x2 x3 : Int32) (t : zS), lX12_keepAll_2  fu x1 x2 x3 t = some ro → zJ E shM C cX12_keepAll RX12 4 f none ro t 2 [(0, .ref (za E 0)), (1, .int x1), (2, .int x2), (3, .int x3)] [] := by
  induction fu with
  | zero => intro x1 x2 x3 t hF; cases hF
  | succ fu ih => intro x1 x2 x3 t hF; exact wbX12_keepAll_2 hf (lX12_keepAll_2  fu) ih x1 x2 x3 t hF
set_option maxHeartbeats 4000000 in
set_option maxRecDepth 20000 in
theorem ctX12_keepAll {E : zE} {f : Nat} (hf : 2 ≤ f) {x1 : Int32} {x2 : Int32} {t : zS} {ro : Int32 × zS} (hF : mX12_keepAll  x1 x2 t = some ro) : zM E shM f yX12_keepAll cX12_keepAll 4 none [.ref (za E 0), .int x1, .int x2] t ro := by
  refine zM_of (by decide) (Nat.le_of_ble_eq_true rfl) (fun C => ?_)
  show zJ E shM C cX12_keepAll RX12 4 f none ro t 0 [(0, .ref (za E 0)), (1, .int x1), (2, .int x2)] []
  unfold mX12_keepAll at hF
  refine z_iconst (v := 0) dX12_keepAll_0 (by decide) ?_
  refine z_istore_n (lv' := [(3, .int 0), (0, .ref (za E 0)), (1, .int x1), (2, .int x2)]) dX12_keepAll_1 rfl (by decide) rfl ?_
  refine z_sub [1, 2, 3, 0] rfl ?_
  exact wlX12_keepAll_2 hf  zFU x1 x2 0 _ hF
-- SessionHouseModel.backAll(II)V
theorem dX12_backAll_0 : decode cX12_backAll 0 = .ok (.iconst 0, 1) := by decide +kernel
theorem dX12_backAll_1 : decode cX12_backAll 1 = .ok (.istore_n 3, 1) := by decide +kernel
theorem dX12_backAll_2 : decode cX12_backAll 2 = .ok (.iload_n 3, 1) := by decide +kernel
theorem dX12_backAll_3 : decode cX12_backAll 3 = .ok (.aload_n 0, 1) := by decide +kernel
theorem dX12_backAll_4 : decode cX12_backAll 4 = .ok (.aload_n 0, 1) := by decide +kernel
theorem dX12_backAll_5 : decode cX12_backAll 5 = .ok (.getfield 461, 3) := by decide +kernel
theorem dX12_backAll_8 : decode cX12_backAll 8 = .ok (.invokevirtual 458, 3) := by decide +kernel
theorem dX12_backAll_11 : decode cX12_backAll 11 = .ok (.if_icmp .ge 29, 3) := by decide +kernel
theorem dX12_backAll_14 : decode cX12_backAll 14 = .ok (.aload_n 0, 1) := by decide +kernel
theorem dX12_backAll_15 : decode cX12_backAll 15 = .ok (.getfield 135, 3) := by decide +kernel
theorem dX12_backAll_18 : decode cX12_backAll 18 = .ok (.sipush 1500, 3) := by decide +kernel
theorem dX12_backAll_21 : decode cX12_backAll 21 = .ok (.iload_n 2, 1) := by decide +kernel
theorem dX12_backAll_22 : decode cX12_backAll 22 = .ok (.imul, 1) := by decide +kernel
theorem dX12_backAll_23 : decode cX12_backAll 23 = .ok (.iload_n 3, 1) := by decide +kernel
theorem dX12_backAll_24 : decode cX12_backAll 24 = .ok (.iadd, 1) := by decide +kernel
theorem dX12_backAll_25 : decode cX12_backAll 25 = .ok (.aload_n 0, 1) := by decide +kernel
theorem dX12_backAll_26 : decode cX12_backAll 26 = .ok (.getfield 138, 3) := by decide +kernel
theorem dX12_backAll_29 : decode cX12_backAll 29 = .ok (.iload_n 1, 1) := by decide +kernel
theorem dX12_backAll_30 : decode cX12_backAll 30 = .ok (.iload_n 3, 1) := by decide +kernel
theorem dX12_backAll_31 : decode cX12_backAll 31 = .ok (.iadd, 1) := by decide +kernel
theorem dX12_backAll_32 : decode cX12_backAll 32 = .ok (.iaload, 1) := by decide +kernel
theorem dX12_backAll_33 : decode cX12_backAll 33 = .ok (.iastore, 1) := by decide +kernel
theorem dX12_backAll_34 : decode cX12_backAll 34 = .ok (.iinc 3 1, 3) := by decide +kernel
theorem dX12_backAll_37 : decode cX12_backAll 37 = .ok (.goto (-35), 3) := by decide +kernel
theorem dX12_backAll_40 : decode cX12_backAll 40 = .ok (.return_, 1) := by decide +kernel
def bX12_backAll_2 (k2 : Int32 → Int32 → Int32 → zS → zR) (x1 : Int32) (x2 : Int32) (x3 : Int32) (t : zS) : zR := zbd (mX12_ownMany (t 0 68) t) fun r3732 t3733 => if r3732 ≤ x3 then some (0, t3733) else zrd t3733 43 66000 (x1 + x3) fun v3735 => zwr t3733 42 66000 ((1500 * x2) + x3) v3735 fun t3738 => zlet (x3 + 1) fun v3739 => k2 x1 x2 v3739 t3738
def lX12_backAll_2 : Nat → Int32 → Int32 → Int32 → zS → zR
  | 0, _, _, _, _ => none
  | fu + 1, x1, x2, x3, t => bX12_backAll_2 (lX12_backAll_2  fu) x1 x2 x3 t
def mX12_backAll (x1 : Int32) (x2 : Int32) (t : zS) : zR := lX12_backAll_2  zFU x1 x2 0 t
set_option maxHeartbeats 4000000 in
set_option maxRecDepth 20000 in
theorem wbX12_backAll_2 {E : zE} {C : zC} {f : Nat} {ro : Int32 × zS} (hf : 2 ≤ f) (k2 : Int32 → Int32 → Int32 → zS → zR) (hk2 : ∀ (x1 x2 x3 : Int32) (t : zS), k2 x1 x2 x3 t = some ro → zJ E shM C cX12_backAll RX12 4 f none ro t 2 [(0, .ref (za E 0)), (1, .int x1), (2, .int x2), (3, .int x3)] []) (x1 : Int32) (x2 : Int32) (x3 : Int32) (t : zS) (hF : bX12_backAll_2 k2 x1 x2 x3 t = some ro) : zJ E shM C cX12_backAll RX12 4 f none ro t 2 [(0, .ref (za E 0)), (1, .int x1), (2, .int x2), (3, .int x3)] [] := by
  unfold bX12_backAll_2 at hF
  refine z_iload_n 3 dX12_backAll_2 rfl rfl ?_
  refine z_aload_n 0 dX12_backAll_3 rfl rfl ?_
  refine z_aload_n 0 dX12_backAll_4 rfl rfl ?_
  refine z_geti fi_RX12_461 dX12_backAll_5 ?_
  obtain ⟨r3732, t3733, hc3734, hF⟩ := zbd_at hF
  refine z_callVi (ctX12_ownMany (E := E) (f := f - 1) (by omega) hc3734) yy_X12_ownMany yv_X12_ownMany ob_M_0 lk_RX12_458 (by omega) rfl rfl (Nat.le_of_ble_eq_true rfl) dX12_backAll_8 ?_
  refine z_icmp_ge (tgt := 40) dX12_backAll_11 (by decide) (fun hc => ?_) (fun hc => ?_)
  · have hF := zif_t hc hF
    exact z_vret hF dX12_backAll_40
  · have hF := zif_f hc hF
    refine z_aload_n 0 dX12_backAll_14 rfl rfl ?_
    refine z_getr fr_RX12_135 dX12_backAll_15 ?_
    refine z_sipush (v := 1500) dX12_backAll_18 (by decide) ?_
    refine z_iload_n 2 dX12_backAll_21 rfl rfl ?_
    refine z_imul dX12_backAll_22 ?_
    refine z_iload_n 3 dX12_backAll_23 rfl rfl ?_
    refine z_iadd dX12_backAll_24 ?_
    refine z_aload_n 0 dX12_backAll_25 rfl rfl ?_
    refine z_getr fr_RX12_138 dX12_backAll_26 ?_
    refine z_iload_n 1 dX12_backAll_29 rfl rfl ?_
    refine z_iload_n 3 dX12_backAll_30 rfl rfl ?_
    refine z_iadd dX12_backAll_31 ?_
    obtain ⟨hi3736, hF⟩ := zrd_at hF
    refine z_iald (n := 66000) rfl hi3736 dX12_backAll_32 ?_
    generalize t3733 43 (Int32.toNatClampNeg (x1 + x3)) = v3735 at hF ⊢
    obtain ⟨hi3737, hF⟩ := zwr_at hF
    refine z_iast (n := 66000) rfl hi3737 dX12_backAll_33 (fun t3738 et3738 => ?_)
    have hF := hF t3738 et3738
    obtain ⟨v3739, ev3739⟩ : ∃ y : Int32, y = (x3 + 1) := ⟨_, rfl⟩
    have hF := zlet_at ev3739 hF
    refine z_iinc (v := v3739) (lv' := [(3, .int v3739), (0, .ref (za E 0)), (1, .int x1), (2, .int x2)]) (k := 3) dX12_backAll_34 rfl (by rw [ev3739]; rfl) (by decide) rfl ?_
    refine z_goto (tgt := 2) dX12_backAll_37 (by decide) ?_
    refine z_sub [1, 2, 3, 0] rfl ?_
    exact hk2 x1 x2 v3739 _ hF
set_option maxHeartbeats 4000000 in
set_option maxRecDepth 20000 in
theorem wlX12_backAll_2 {E : zE} {C : zC} {f : Nat} {ro : Int32 × zS} (hf : 2 ≤ f) (fu : Nat) : ∀ (x1 x2 x3 : Int32) (t : zS), lX12_backAll_2  fu x1 x2 x3 t = some ro → zJ E shM C cX12_backAll RX12 4 f none ro t 2 [(0, .ref (za E 0)), (1, .int x1), (2, .int x2), (3, .int x3)] [] := by
  induction fu with
  | zero => intro x1 x2 x3 t hF; cases hF
  | succ fu ih => intro x1 x2 x3 t hF; exact wbX12_backAll_2 hf (lX12_backAll_2  fu) ih x1 x2 x3 t hF
set_option maxHeartbeats 4000000 in
set_option maxRecDepth 20000 in
theorem ctX12_backAll {E : zE} {f : Nat} (hf : 2 ≤ f) {x1 : Int32} {x2 : Int32} {t : zS} {ro : Int32 × zS} (hF : mX12_backAll  x1 x2 t = some ro) : zM E shM f yX12_backAll cX12_backAll 4 none [.ref (za E 0), .int x1, .int x2] t ro := by
  refine zM_of (by decide) (Nat.le_of_ble_eq_true rfl) (fun C => ?_)
  show zJ E shM C cX12_backAll RX12 4 f none ro t 0 [(0, .ref (za E 0)), (1, .int x1), (2, .int x2)] []
  unfold mX12_backAll at hF
  refine z_iconst (v := 0) dX12_backAll_0 (by decide) ?_
  refine z_istore_n (lv' := [(3, .int 0), (0, .ref (za E 0)), (1, .int x1), (2, .int x2)]) dX12_backAll_1 rfl (by decide) rfl ?_
  refine z_sub [1, 2, 3, 0] rfl ?_
  exact wlX12_backAll_2 hf  zFU x1 x2 0 _ hF
-- SessionHouseModel.copyUp(II)V
theorem dX12_copyUp_0 : decode cX12_copyUp 0 = .ok (.iconst 0, 1) := by decide +kernel
theorem dX12_copyUp_1 : decode cX12_copyUp 1 = .ok (.istore_n 3, 1) := by decide +kernel
theorem dX12_copyUp_2 : decode cX12_copyUp 2 = .ok (.iload_n 3, 1) := by decide +kernel
theorem dX12_copyUp_3 : decode cX12_copyUp 3 = .ok (.aload_n 0, 1) := by decide +kernel
theorem dX12_copyUp_4 : decode cX12_copyUp 4 = .ok (.aload_n 0, 1) := by decide +kernel
theorem dX12_copyUp_5 : decode cX12_copyUp 5 = .ok (.getfield 461, 3) := by decide +kernel
theorem dX12_copyUp_8 : decode cX12_copyUp 8 = .ok (.invokevirtual 458, 3) := by decide +kernel
theorem dX12_copyUp_11 : decode cX12_copyUp 11 = .ok (.if_icmp .ge 33, 3) := by decide +kernel
theorem dX12_copyUp_14 : decode cX12_copyUp 14 = .ok (.aload_n 0, 1) := by decide +kernel
theorem dX12_copyUp_15 : decode cX12_copyUp 15 = .ok (.getfield 135, 3) := by decide +kernel
theorem dX12_copyUp_18 : decode cX12_copyUp 18 = .ok (.sipush 1500, 3) := by decide +kernel
theorem dX12_copyUp_21 : decode cX12_copyUp 21 = .ok (.iload_n 2, 1) := by decide +kernel
theorem dX12_copyUp_22 : decode cX12_copyUp 22 = .ok (.imul, 1) := by decide +kernel
theorem dX12_copyUp_23 : decode cX12_copyUp 23 = .ok (.iload_n 3, 1) := by decide +kernel
theorem dX12_copyUp_24 : decode cX12_copyUp 24 = .ok (.iadd, 1) := by decide +kernel
theorem dX12_copyUp_25 : decode cX12_copyUp 25 = .ok (.aload_n 0, 1) := by decide +kernel
theorem dX12_copyUp_26 : decode cX12_copyUp 26 = .ok (.getfield 135, 3) := by decide +kernel
theorem dX12_copyUp_29 : decode cX12_copyUp 29 = .ok (.sipush 1500, 3) := by decide +kernel
theorem dX12_copyUp_32 : decode cX12_copyUp 32 = .ok (.iload_n 1, 1) := by decide +kernel
theorem dX12_copyUp_33 : decode cX12_copyUp 33 = .ok (.imul, 1) := by decide +kernel
theorem dX12_copyUp_34 : decode cX12_copyUp 34 = .ok (.iload_n 3, 1) := by decide +kernel
theorem dX12_copyUp_35 : decode cX12_copyUp 35 = .ok (.iadd, 1) := by decide +kernel
theorem dX12_copyUp_36 : decode cX12_copyUp 36 = .ok (.iaload, 1) := by decide +kernel
theorem dX12_copyUp_37 : decode cX12_copyUp 37 = .ok (.iastore, 1) := by decide +kernel
theorem dX12_copyUp_38 : decode cX12_copyUp 38 = .ok (.iinc 3 1, 3) := by decide +kernel
theorem dX12_copyUp_41 : decode cX12_copyUp 41 = .ok (.goto (-39), 3) := by decide +kernel
theorem dX12_copyUp_44 : decode cX12_copyUp 44 = .ok (.return_, 1) := by decide +kernel
def bX12_copyUp_2 (k2 : Int32 → Int32 → Int32 → zS → zR) (x1 : Int32) (x2 : Int32) (x3 : Int32) (t : zS) : zR := zbd (mX12_ownMany (t 0 68) t) fun r3740 t3741 => if r3740 ≤ x3 then some (0, t3741) else zrd t3741 42 66000 ((1500 * x1) + x3) fun v3743 => zwr t3741 42 66000 ((1500 * x2) + x3) v3743 fun t3746 => zlet (x3 + 1) fun v3747 => k2 x1 x2 v3747 t3746
def lX12_copyUp_2 : Nat → Int32 → Int32 → Int32 → zS → zR
  | 0, _, _, _, _ => none
  | fu + 1, x1, x2, x3, t => bX12_copyUp_2 (lX12_copyUp_2  fu) x1 x2 x3 t
def mX12_copyUp (x1 : Int32) (x2 : Int32) (t : zS) : zR := lX12_copyUp_2  zFU x1 x2 0 t
set_option maxHeartbeats 4000000 in
set_option maxRecDepth 20000 in
theorem wbX12_copyUp_2 {E : zE} {C : zC} {f : Nat} {ro : Int32 × zS} (hf : 2 ≤ f) (k2 : Int32 → Int32 → Int32 → zS → zR) (hk2 : ∀ (x1 x2 x3 : Int32) (t : zS), k2 x1 x2 x3 t = some ro → zJ E shM C cX12_copyUp RX12 4 f none ro t 2 [(0, .ref (za E 0)), (1, .int x1), (2, .int x2), (3, .int x3)] []) (x1 : Int32) (x2 : Int32) (x3 : Int32) (t : zS) (hF : bX12_copyUp_2 k2 x1 x2 x3 t = some ro) : zJ E shM C cX12_copyUp RX12 4 f none ro t 2 [(0, .ref (za E 0)), (1, .int x1), (2, .int x2), (3, .int x3)] [] := by
  unfold bX12_copyUp_2 at hF
  refine z_iload_n 3 dX12_copyUp_2 rfl rfl ?_
  refine z_aload_n 0 dX12_copyUp_3 rfl rfl ?_
  refine z_aload_n 0 dX12_copyUp_4 rfl rfl ?_
  refine z_geti fi_RX12_461 dX12_copyUp_5 ?_
  obtain ⟨r3740, t3741, hc3742, hF⟩ := zbd_at hF
  refine z_callVi (ctX12_ownMany (E := E) (f := f - 1) (by omega) hc3742) yy_X12_ownMany yv_X12_ownMany ob_M_0 lk_RX12_458 (by omega) rfl rfl (Nat.le_of_ble_eq_true rfl) dX12_copyUp_8 ?_
  refine z_icmp_ge (tgt := 44) dX12_copyUp_11 (by decide) (fun hc => ?_) (fun hc => ?_)
  · have hF := zif_t hc hF
    exact z_vret hF dX12_copyUp_44
  · have hF := zif_f hc hF
    refine z_aload_n 0 dX12_copyUp_14 rfl rfl ?_
    refine z_getr fr_RX12_135 dX12_copyUp_15 ?_
    refine z_sipush (v := 1500) dX12_copyUp_18 (by decide) ?_
    refine z_iload_n 2 dX12_copyUp_21 rfl rfl ?_
    refine z_imul dX12_copyUp_22 ?_
    refine z_iload_n 3 dX12_copyUp_23 rfl rfl ?_
    refine z_iadd dX12_copyUp_24 ?_
    refine z_aload_n 0 dX12_copyUp_25 rfl rfl ?_
    refine z_getr fr_RX12_135 dX12_copyUp_26 ?_
    refine z_sipush (v := 1500) dX12_copyUp_29 (by decide) ?_
    refine z_iload_n 1 dX12_copyUp_32 rfl rfl ?_
    refine z_imul dX12_copyUp_33 ?_
    refine z_iload_n 3 dX12_copyUp_34 rfl rfl ?_
    refine z_iadd dX12_copyUp_35 ?_
    obtain ⟨hi3744, hF⟩ := zrd_at hF
    refine z_iald (n := 66000) rfl hi3744 dX12_copyUp_36 ?_
    generalize t3741 42 (Int32.toNatClampNeg ((1500 * x1) + x3)) = v3743 at hF ⊢
    obtain ⟨hi3745, hF⟩ := zwr_at hF
    refine z_iast (n := 66000) rfl hi3745 dX12_copyUp_37 (fun t3746 et3746 => ?_)
    have hF := hF t3746 et3746
    obtain ⟨v3747, ev3747⟩ : ∃ y : Int32, y = (x3 + 1) := ⟨_, rfl⟩
    have hF := zlet_at ev3747 hF
    refine z_iinc (v := v3747) (lv' := [(3, .int v3747), (0, .ref (za E 0)), (1, .int x1), (2, .int x2)]) (k := 3) dX12_copyUp_38 rfl (by rw [ev3747]; rfl) (by decide) rfl ?_
    refine z_goto (tgt := 2) dX12_copyUp_41 (by decide) ?_
    refine z_sub [1, 2, 3, 0] rfl ?_
    exact hk2 x1 x2 v3747 _ hF
set_option maxHeartbeats 4000000 in
set_option maxRecDepth 20000 in
theorem wlX12_copyUp_2 {E : zE} {C : zC} {f : Nat} {ro : Int32 × zS} (hf : 2 ≤ f) (fu : Nat) : ∀ (x1 x2 x3 : Int32) (t : zS), lX12_copyUp_2  fu x1 x2 x3 t = some ro → zJ E shM C cX12_copyUp RX12 4 f none ro t 2 [(0, .ref (za E 0)), (1, .int x1), (2, .int x2), (3, .int x3)] [] := by
  induction fu with
  | zero => intro x1 x2 x3 t hF; cases hF
  | succ fu ih => intro x1 x2 x3 t hF; exact wbX12_copyUp_2 hf (lX12_copyUp_2  fu) ih x1 x2 x3 t hF
set_option maxHeartbeats 4000000 in
set_option maxRecDepth 20000 in
theorem ctX12_copyUp {E : zE} {f : Nat} (hf : 2 ≤ f) {x1 : Int32} {x2 : Int32} {t : zS} {ro : Int32 × zS} (hF : mX12_copyUp  x1 x2 t = some ro) : zM E shM f yX12_copyUp cX12_copyUp 4 none [.ref (za E 0), .int x1, .int x2] t ro := by
  refine zM_of (by decide) (Nat.le_of_ble_eq_true rfl) (fun C => ?_)
  show zJ E shM C cX12_copyUp RX12 4 f none ro t 0 [(0, .ref (za E 0)), (1, .int x1), (2, .int x2)] []
  unfold mX12_copyUp at hF
  refine z_iconst (v := 0) dX12_copyUp_0 (by decide) ?_
  refine z_istore_n (lv' := [(3, .int 0), (0, .ref (za E 0)), (1, .int x1), (2, .int x2)]) dX12_copyUp_1 rfl (by decide) rfl ?_
  refine z_sub [1, 2, 3, 0] rfl ?_
  exact wlX12_copyUp_2 hf  zFU x1 x2 0 _ hF
-- SessionHouseModel.areSame(II)Z
theorem dX12_areSame_0 : decode cX12_areSame 0 = .ok (.iconst 1, 1) := by decide +kernel
theorem dX12_areSame_1 : decode cX12_areSame 1 = .ok (.istore_n 3, 1) := by decide +kernel
theorem dX12_areSame_2 : decode cX12_areSame 2 = .ok (.iconst 0, 1) := by decide +kernel
theorem dX12_areSame_3 : decode cX12_areSame 3 = .ok (.istore 4, 2) := by decide +kernel
theorem dX12_areSame_5 : decode cX12_areSame 5 = .ok (.iload 4, 2) := by decide +kernel
theorem dX12_areSame_7 : decode cX12_areSame 7 = .ok (.aload_n 0, 1) := by decide +kernel
theorem dX12_areSame_8 : decode cX12_areSame 8 = .ok (.aload_n 0, 1) := by decide +kernel
theorem dX12_areSame_9 : decode cX12_areSame 9 = .ok (.getfield 461, 3) := by decide +kernel
theorem dX12_areSame_12 : decode cX12_areSame 12 = .ok (.invokevirtual 458, 3) := by decide +kernel
theorem dX12_areSame_15 : decode cX12_areSame 15 = .ok (.if_icmp .ge 71, 3) := by decide +kernel
theorem dX12_areSame_18 : decode cX12_areSame 18 = .ok (.iload_n 3, 1) := by decide +kernel
theorem dX12_areSame_19 : decode cX12_areSame 19 = .ok (.ifCond .eq 67, 3) := by decide +kernel
theorem dX12_areSame_22 : decode cX12_areSame 22 = .ok (.aload_n 0, 1) := by decide +kernel
theorem dX12_areSame_23 : decode cX12_areSame 23 = .ok (.iload_n 1, 1) := by decide +kernel
theorem dX12_areSame_24 : decode cX12_areSame 24 = .ok (.iload 4, 2) := by decide +kernel
theorem dX12_areSame_26 : decode cX12_areSame 26 = .ok (.invokevirtual 484, 3) := by decide +kernel
theorem dX12_areSame_29 : decode cX12_areSame 29 = .ok (.istore 5, 2) := by decide +kernel
theorem dX12_areSame_31 : decode cX12_areSame 31 = .ok (.aload_n 0, 1) := by decide +kernel
theorem dX12_areSame_32 : decode cX12_areSame 32 = .ok (.iload_n 2, 1) := by decide +kernel
theorem dX12_areSame_33 : decode cX12_areSame 33 = .ok (.iload 4, 2) := by decide +kernel
theorem dX12_areSame_35 : decode cX12_areSame 35 = .ok (.invokevirtual 484, 3) := by decide +kernel
theorem dX12_areSame_38 : decode cX12_areSame 38 = .ok (.istore 6, 2) := by decide +kernel
theorem dX12_areSame_40 : decode cX12_areSame 40 = .ok (.iload 5, 2) := by decide +kernel
theorem dX12_areSame_42 : decode cX12_areSame 42 = .ok (.ifCond .ge 16, 3) := by decide +kernel
theorem dX12_areSame_45 : decode cX12_areSame 45 = .ok (.iload 6, 2) := by decide +kernel
theorem dX12_areSame_47 : decode cX12_areSame 47 = .ok (.ifCond .ge 7, 3) := by decide +kernel
theorem dX12_areSame_50 : decode cX12_areSame 50 = .ok (.iconst 1, 1) := by decide +kernel
theorem dX12_areSame_51 : decode cX12_areSame 51 = .ok (.goto 28, 3) := by decide +kernel
theorem dX12_areSame_54 : decode cX12_areSame 54 = .ok (.iconst 0, 1) := by decide +kernel
theorem dX12_areSame_55 : decode cX12_areSame 55 = .ok (.goto 24, 3) := by decide +kernel
theorem dX12_areSame_58 : decode cX12_areSame 58 = .ok (.iload 6, 2) := by decide +kernel
theorem dX12_areSame_60 : decode cX12_areSame 60 = .ok (.ifCond .lt 18, 3) := by decide +kernel
theorem dX12_areSame_63 : decode cX12_areSame 63 = .ok (.aload_n 0, 1) := by decide +kernel
theorem dX12_areSame_64 : decode cX12_areSame 64 = .ok (.iload 5, 2) := by decide +kernel
theorem dX12_areSame_66 : decode cX12_areSame 66 = .ok (.iload 6, 2) := by decide +kernel
theorem dX12_areSame_68 : decode cX12_areSame 68 = .ok (.invokevirtual 494, 3) := by decide +kernel
theorem dX12_areSame_71 : decode cX12_areSame 71 = .ok (.ifCond .eq 7, 3) := by decide +kernel
theorem dX12_areSame_74 : decode cX12_areSame 74 = .ok (.iconst 1, 1) := by decide +kernel
theorem dX12_areSame_75 : decode cX12_areSame 75 = .ok (.goto 4, 3) := by decide +kernel
theorem dX12_areSame_78 : decode cX12_areSame 78 = .ok (.iconst 0, 1) := by decide +kernel
theorem dX12_areSame_79 : decode cX12_areSame 79 = .ok (.istore_n 3, 1) := by decide +kernel
theorem dX12_areSame_80 : decode cX12_areSame 80 = .ok (.iinc 4 1, 3) := by decide +kernel
theorem dX12_areSame_83 : decode cX12_areSame 83 = .ok (.goto (-78), 3) := by decide +kernel
theorem dX12_areSame_86 : decode cX12_areSame 86 = .ok (.iload_n 3, 1) := by decide +kernel
theorem dX12_areSame_87 : decode cX12_areSame 87 = .ok (.ireturn, 1) := by decide +kernel
def bX12_areSame_79 (k5 : Int32 → Int32 → Int32 → Int32 → zS → zR) (x1 : Int32) (x2 : Int32) (x4 : Int32) (y0 : Int32) (t : zS) : zR := zlet (x4 + 1) fun v3748 => k5 x1 x2 y0 v3748 t
def bX12_areSame_78 (k5 : Int32 → Int32 → Int32 → Int32 → zS → zR) (x1 : Int32) (x2 : Int32) (x4 : Int32) (t : zS) : zR := bX12_areSame_79 k5 x1 x2 x4 0 t
def bX12_areSame_5 (k5 : Int32 → Int32 → Int32 → Int32 → zS → zR) (x1 : Int32) (x2 : Int32) (x3 : Int32) (x4 : Int32) (t : zS) : zR := zbd (mX12_ownMany (t 0 68) t) fun r3749 t3750 => if r3749 ≤ x4 then z01 x3 (some (x3, t3750)) else if x3 = 0 then z01 x3 (some (x3, t3750)) else zbd (mX12_channel x1 x4 t3750) fun r3754 t3755 => zbd (mX12_channel x2 x4 t3755) fun r3757 t3758 => if 0 ≤ r3754 then if r3757 < 0 then bX12_areSame_78 k5 x1 x2 x4 t3758 else zbd (mX12_areEqual r3754 r3757 t3758) fun r3760 t3761 => if r3760 = 0 then bX12_areSame_78 k5 x1 x2 x4 t3761 else bX12_areSame_79 k5 x1 x2 x4 1 t3761 else if 0 ≤ r3757 then bX12_areSame_79 k5 x1 x2 x4 0 t3758 else bX12_areSame_79 k5 x1 x2 x4 1 t3758
def lX12_areSame_5 : Nat → Int32 → Int32 → Int32 → Int32 → zS → zR
  | 0, _, _, _, _, _ => none
  | fu + 1, x1, x2, x3, x4, t => bX12_areSame_5 (lX12_areSame_5  fu) x1 x2 x3 x4 t
def mX12_areSame (x1 : Int32) (x2 : Int32) (t : zS) : zR := lX12_areSame_5  zFU x1 x2 1 0 t
set_option maxHeartbeats 4000000 in
set_option maxRecDepth 20000 in
theorem wbX12_areSame_79 {E : zE} {C : zC} {f : Nat} {ro : Int32 × zS} (hf : 4 ≤ f) (k5 : Int32 → Int32 → Int32 → Int32 → zS → zR) (hk5 : ∀ (x1 x2 x3 x4 : Int32) (t : zS), k5 x1 x2 x3 x4 t = some ro → zJ E shM C cX12_areSame RX12 7 f (some .boolean) ro t 5 [(0, .ref (za E 0)), (1, .int x1), (2, .int x2), (3, .int x3), (4, .int x4)] []) (x1 : Int32) (x2 : Int32) (x4 : Int32) (y0 : Int32) (t : zS) (hF : bX12_areSame_79 k5 x1 x2 x4 y0 t = some ro) : zJ E shM C cX12_areSame RX12 7 f (some .boolean) ro t 79 [(0, .ref (za E 0)), (1, .int x1), (2, .int x2), (4, .int x4)] [.int y0] := by
  unfold bX12_areSame_79 at hF
  refine z_istore_n (lv' := [(3, .int y0), (0, .ref (za E 0)), (1, .int x1), (2, .int x2), (4, .int x4)]) dX12_areSame_79 rfl (by decide) rfl ?_
  obtain ⟨v3748, ev3748⟩ : ∃ y : Int32, y = (x4 + 1) := ⟨_, rfl⟩
  have hF := zlet_at ev3748 hF
  refine z_iinc (v := v3748) (lv' := [(4, .int v3748), (3, .int y0), (0, .ref (za E 0)), (1, .int x1), (2, .int x2)]) (k := 4) dX12_areSame_80 rfl (by rw [ev3748]; rfl) (by decide) rfl ?_
  refine z_goto (tgt := 5) dX12_areSame_83 (by decide) ?_
  refine z_sub [2, 3, 4, 1, 0] rfl ?_
  exact hk5 x1 x2 y0 v3748 _ hF
set_option maxHeartbeats 4000000 in
set_option maxRecDepth 20000 in
theorem wbX12_areSame_78 {E : zE} {C : zC} {f : Nat} {ro : Int32 × zS} (hf : 4 ≤ f) (k5 : Int32 → Int32 → Int32 → Int32 → zS → zR) (hk5 : ∀ (x1 x2 x3 x4 : Int32) (t : zS), k5 x1 x2 x3 x4 t = some ro → zJ E shM C cX12_areSame RX12 7 f (some .boolean) ro t 5 [(0, .ref (za E 0)), (1, .int x1), (2, .int x2), (3, .int x3), (4, .int x4)] []) (x1 : Int32) (x2 : Int32) (x4 : Int32) (t : zS) (hF : bX12_areSame_78 k5 x1 x2 x4 t = some ro) : zJ E shM C cX12_areSame RX12 7 f (some .boolean) ro t 78 [(0, .ref (za E 0)), (1, .int x1), (2, .int x2), (4, .int x4)] [] := by
  unfold bX12_areSame_78 at hF
  refine z_iconst (v := 0) dX12_areSame_78 (by decide) ?_
  exact wbX12_areSame_79 hf k5 hk5 x1 x2 x4 0 _ hF
set_option maxHeartbeats 4000000 in
set_option maxRecDepth 20000 in
theorem wbX12_areSame_5 {E : zE} {C : zC} {f : Nat} {ro : Int32 × zS} (hf : 4 ≤ f) (k5 : Int32 → Int32 → Int32 → Int32 → zS → zR) (hk5 : ∀ (x1 x2 x3 x4 : Int32) (t : zS), k5 x1 x2 x3 x4 t = some ro → zJ E shM C cX12_areSame RX12 7 f (some .boolean) ro t 5 [(0, .ref (za E 0)), (1, .int x1), (2, .int x2), (3, .int x3), (4, .int x4)] []) (x1 : Int32) (x2 : Int32) (x3 : Int32) (x4 : Int32) (t : zS) (hF : bX12_areSame_5 k5 x1 x2 x3 x4 t = some ro) : zJ E shM C cX12_areSame RX12 7 f (some .boolean) ro t 5 [(0, .ref (za E 0)), (1, .int x1), (2, .int x2), (3, .int x3), (4, .int x4)] [] := by
  unfold bX12_areSame_5 at hF
  refine z_iload 4 dX12_areSame_5 rfl ?_
  refine z_aload_n 0 dX12_areSame_7 rfl rfl ?_
  refine z_aload_n 0 dX12_areSame_8 rfl rfl ?_
  refine z_geti fi_RX12_461 dX12_areSame_9 ?_
  obtain ⟨r3749, t3750, hc3751, hF⟩ := zbd_at hF
  refine z_callVi (ctX12_ownMany (E := E) (f := f - 1) (by omega) hc3751) yy_X12_ownMany yv_X12_ownMany ob_M_0 lk_RX12_458 (by omega) rfl rfl (Nat.le_of_ble_eq_true rfl) dX12_areSame_12 ?_
  refine z_icmp_ge (tgt := 86) dX12_areSame_15 (by decide) (fun hc => ?_) (fun hc => ?_)
  · have hF := zif_t hc hF
    refine z_iload_n 3 dX12_areSame_86 rfl rfl ?_
    obtain ⟨hz3752, hF⟩ := z01_at hF
    exact z_zret hF hz3752 dX12_areSame_87
  · have hF := zif_f hc hF
    refine z_iload_n 3 dX12_areSame_18 rfl rfl ?_
    refine z_if_eq (tgt := 86) dX12_areSame_19 (by decide) (fun hc => ?_) (fun hc => ?_)
    · have hF := zif_t hc hF
      refine z_iload_n 3 dX12_areSame_86 rfl rfl ?_
      obtain ⟨hz3753, hF⟩ := z01_at hF
      exact z_zret hF hz3753 dX12_areSame_87
    · have hF := zif_f hc hF
      refine z_aload_n 0 dX12_areSame_22 rfl rfl ?_
      refine z_iload_n 1 dX12_areSame_23 rfl rfl ?_
      refine z_iload 4 dX12_areSame_24 rfl ?_
      obtain ⟨r3754, t3755, hc3756, hF⟩ := zbd_at hF
      refine z_callVi (ctX12_channel (E := E) (f := f - 1) (by omega) hc3756) yy_X12_channel yv_X12_channel ob_M_0 lk_RX12_484 (by omega) rfl rfl (Nat.le_of_ble_eq_true rfl) dX12_areSame_26 ?_
      refine z_istore (lv' := [(5, .int r3754), (0, .ref (za E 0)), (1, .int x1), (2, .int x2), (3, .int x3), (4, .int x4)]) dX12_areSame_29 (by decide) rfl ?_
      refine z_aload_n 1 dX12_areSame_31 rfl rfl ?_
      refine z_iload_n 3 dX12_areSame_32 rfl rfl ?_
      refine z_iload 5 dX12_areSame_33 rfl ?_
      obtain ⟨r3757, t3758, hc3759, hF⟩ := zbd_at hF
      refine z_callVi (ctX12_channel (E := E) (f := f - 1) (by omega) hc3759) yy_X12_channel yv_X12_channel ob_M_0 lk_RX12_484 (by omega) rfl rfl (Nat.le_of_ble_eq_true rfl) dX12_areSame_35 ?_
      refine z_istore (lv' := [(6, .int r3757), (5, .int r3754), (0, .ref (za E 0)), (1, .int x1), (2, .int x2), (3, .int x3), (4, .int x4)]) dX12_areSame_38 (by decide) rfl ?_
      refine z_iload 1 dX12_areSame_40 rfl ?_
      refine z_if_ge (tgt := 58) dX12_areSame_42 (by decide) (fun hc => ?_) (fun hc => ?_)
      · have hF := zif_t hc hF
        refine z_iload 0 dX12_areSame_58 rfl ?_
        refine z_if_lt (tgt := 78) dX12_areSame_60 (by decide) (fun hc => ?_) (fun hc => ?_)
        · have hF := zif_t hc hF
          refine z_sub [2, 3, 4, 6] rfl ?_
          exact wbX12_areSame_78 hf k5 hk5 x1 x2 x4 _ hF
        · have hF := zif_f hc hF
          refine z_aload_n 2 dX12_areSame_63 rfl rfl ?_
          refine z_iload 1 dX12_areSame_64 rfl ?_
          refine z_iload 0 dX12_areSame_66 rfl ?_
          obtain ⟨r3760, t3761, hc3762, hF⟩ := zbd_at hF
          refine z_callVi (ctX12_areEqual (E := E) (f := f - 1) (by omega) hc3762) yy_X12_areEqual yv_X12_areEqual ob_M_0 lk_RX12_494 (by omega) rfl rfl (Nat.le_of_ble_eq_true rfl) dX12_areSame_68 ?_
          refine z_if_eq (tgt := 78) dX12_areSame_71 (by decide) (fun hc => ?_) (fun hc => ?_)
          · have hF := zif_t hc hF
            refine z_sub [2, 3, 4, 6] rfl ?_
            exact wbX12_areSame_78 hf k5 hk5 x1 x2 x4 _ hF
          · have hF := zif_f hc hF
            refine z_iconst (v := 1) dX12_areSame_74 (by decide) ?_
            refine z_goto (tgt := 79) dX12_areSame_75 (by decide) ?_
            refine z_sub [2, 3, 4, 6] rfl ?_
            exact wbX12_areSame_79 hf k5 hk5 x1 x2 x4 1 _ hF
      · have hF := zif_f hc hF
        refine z_iload 0 dX12_areSame_45 rfl ?_
        refine z_if_ge (tgt := 54) dX12_areSame_47 (by decide) (fun hc => ?_) (fun hc => ?_)
        · have hF := zif_t hc hF
          refine z_iconst (v := 0) dX12_areSame_54 (by decide) ?_
          refine z_goto (tgt := 79) dX12_areSame_55 (by decide) ?_
          refine z_sub [2, 3, 4, 6] rfl ?_
          exact wbX12_areSame_79 hf k5 hk5 x1 x2 x4 0 _ hF
        · have hF := zif_f hc hF
          refine z_iconst (v := 1) dX12_areSame_50 (by decide) ?_
          refine z_goto (tgt := 79) dX12_areSame_51 (by decide) ?_
          refine z_sub [2, 3, 4, 6] rfl ?_
          exact wbX12_areSame_79 hf k5 hk5 x1 x2 x4 1 _ hF
set_option maxHeartbeats 4000000 in
set_option maxRecDepth 20000 in
theorem wlX12_areSame_5 {E : zE} {C : zC} {f : Nat} {ro : Int32 × zS} (hf : 4 ≤ f) (fu : Nat) : ∀ (x1 x2 x3 x4 : Int32) (t : zS), lX12_areSame_5  fu x1 x2 x3 x4 t = some ro → zJ E shM C cX12_areSame RX12 7 f (some .boolean) ro t 5 [(0, .ref (za E 0)), (1, .int x1), (2, .int x2), (3, .int x3), (4, .int x4)] [] := by
  induction fu with
  | zero => intro x1 x2 x3 x4 t hF; cases hF
  | succ fu ih => intro x1 x2 x3 x4 t hF; exact wbX12_areSame_5 hf (lX12_areSame_5  fu) ih x1 x2 x3 x4 t hF
set_option maxHeartbeats 4000000 in
set_option maxRecDepth 20000 in
theorem ctX12_areSame {E : zE} {f : Nat} (hf : 4 ≤ f) {x1 : Int32} {x2 : Int32} {t : zS} {ro : Int32 × zS} (hF : mX12_areSame  x1 x2 t = some ro) : zM E shM f yX12_areSame cX12_areSame 7 (some .boolean) [.ref (za E 0), .int x1, .int x2] t ro := by
  refine zM_of (by decide) (Nat.le_of_ble_eq_true rfl) (fun C => ?_)
  show zJ E shM C cX12_areSame RX12 7 f (some .boolean) ro t 0 [(0, .ref (za E 0)), (1, .int x1), (2, .int x2)] []
  unfold mX12_areSame at hF
  refine z_iconst (v := 1) dX12_areSame_0 (by decide) ?_
  refine z_istore_n (lv' := [(3, .int 1), (0, .ref (za E 0)), (1, .int x1), (2, .int x2)]) dX12_areSame_1 rfl (by decide) rfl ?_
  refine z_iconst (v := 0) dX12_areSame_2 (by decide) ?_
  refine z_istore (lv' := [(4, .int 0), (3, .int 1), (0, .ref (za E 0)), (1, .int x1), (2, .int x2)]) dX12_areSame_3 (by decide) rfl ?_
  refine z_sub [2, 3, 4, 1, 0] rfl ?_
  exact wlX12_areSame_5 hf  zFU x1 x2 1 0 _ hF
-- SessionHouseModel.hasAny(I)Z
theorem dX12_hasAny_0 : decode cX12_hasAny 0 = .ok (.iconst 0, 1) := by decide +kernel
theorem dX12_hasAny_1 : decode cX12_hasAny 1 = .ok (.istore_n 2, 1) := by decide +kernel
theorem dX12_hasAny_2 : decode cX12_hasAny 2 = .ok (.iconst 0, 1) := by decide +kernel
theorem dX12_hasAny_3 : decode cX12_hasAny 3 = .ok (.istore_n 3, 1) := by decide +kernel
theorem dX12_hasAny_4 : decode cX12_hasAny 4 = .ok (.iload_n 3, 1) := by decide +kernel
theorem dX12_hasAny_5 : decode cX12_hasAny 5 = .ok (.aload_n 0, 1) := by decide +kernel
theorem dX12_hasAny_6 : decode cX12_hasAny 6 = .ok (.aload_n 0, 1) := by decide +kernel
theorem dX12_hasAny_7 : decode cX12_hasAny 7 = .ok (.getfield 461, 3) := by decide +kernel
theorem dX12_hasAny_10 : decode cX12_hasAny 10 = .ok (.invokevirtual 458, 3) := by decide +kernel
theorem dX12_hasAny_13 : decode cX12_hasAny 13 = .ok (.if_icmp .ge 34, 3) := by decide +kernel
theorem dX12_hasAny_16 : decode cX12_hasAny 16 = .ok (.iload_n 2, 1) := by decide +kernel
theorem dX12_hasAny_17 : decode cX12_hasAny 17 = .ok (.ifCond .ne 18, 3) := by decide +kernel
theorem dX12_hasAny_20 : decode cX12_hasAny 20 = .ok (.aload_n 0, 1) := by decide +kernel
theorem dX12_hasAny_21 : decode cX12_hasAny 21 = .ok (.getfield 135, 3) := by decide +kernel
theorem dX12_hasAny_24 : decode cX12_hasAny 24 = .ok (.sipush 1500, 3) := by decide +kernel
theorem dX12_hasAny_27 : decode cX12_hasAny 27 = .ok (.iload_n 1, 1) := by decide +kernel
theorem dX12_hasAny_28 : decode cX12_hasAny 28 = .ok (.imul, 1) := by decide +kernel
theorem dX12_hasAny_29 : decode cX12_hasAny 29 = .ok (.iload_n 3, 1) := by decide +kernel
theorem dX12_hasAny_30 : decode cX12_hasAny 30 = .ok (.iadd, 1) := by decide +kernel
theorem dX12_hasAny_31 : decode cX12_hasAny 31 = .ok (.iaload, 1) := by decide +kernel
theorem dX12_hasAny_32 : decode cX12_hasAny 32 = .ok (.ifCond .lt 7, 3) := by decide +kernel
theorem dX12_hasAny_35 : decode cX12_hasAny 35 = .ok (.iconst 1, 1) := by decide +kernel
theorem dX12_hasAny_36 : decode cX12_hasAny 36 = .ok (.goto 4, 3) := by decide +kernel
theorem dX12_hasAny_39 : decode cX12_hasAny 39 = .ok (.iconst 0, 1) := by decide +kernel
theorem dX12_hasAny_40 : decode cX12_hasAny 40 = .ok (.istore_n 2, 1) := by decide +kernel
theorem dX12_hasAny_41 : decode cX12_hasAny 41 = .ok (.iinc 3 1, 3) := by decide +kernel
theorem dX12_hasAny_44 : decode cX12_hasAny 44 = .ok (.goto (-40), 3) := by decide +kernel
theorem dX12_hasAny_47 : decode cX12_hasAny 47 = .ok (.iload_n 2, 1) := by decide +kernel
theorem dX12_hasAny_48 : decode cX12_hasAny 48 = .ok (.ireturn, 1) := by decide +kernel
def bX12_hasAny_40 (k4 : Int32 → Int32 → Int32 → zS → zR) (x1 : Int32) (x3 : Int32) (y0 : Int32) (t : zS) : zR := zlet (x3 + 1) fun v3763 => k4 x1 y0 v3763 t
def bX12_hasAny_35 (k4 : Int32 → Int32 → Int32 → zS → zR) (x1 : Int32) (x3 : Int32) (t : zS) : zR := bX12_hasAny_40 k4 x1 x3 1 t
def bX12_hasAny_4 (k4 : Int32 → Int32 → Int32 → zS → zR) (x1 : Int32) (x2 : Int32) (x3 : Int32) (t : zS) : zR := zbd (mX12_ownMany (t 0 68) t) fun r3764 t3765 => if r3764 ≤ x3 then z01 x2 (some (x2, t3765)) else if x2 = 0 then zrd t3765 42 66000 ((1500 * x1) + x3) fun v3768 => if v3768 < 0 then bX12_hasAny_40 k4 x1 x3 0 t3765 else bX12_hasAny_35 k4 x1 x3 t3765 else bX12_hasAny_35 k4 x1 x3 t3765
def lX12_hasAny_4 : Nat → Int32 → Int32 → Int32 → zS → zR
  | 0, _, _, _, _ => none
  | fu + 1, x1, x2, x3, t => bX12_hasAny_4 (lX12_hasAny_4  fu) x1 x2 x3 t
def mX12_hasAny (x1 : Int32) (t : zS) : zR := lX12_hasAny_4  zFU x1 0 0 t
set_option maxHeartbeats 4000000 in
set_option maxRecDepth 20000 in
theorem wbX12_hasAny_40 {E : zE} {C : zC} {f : Nat} {ro : Int32 × zS} (hf : 2 ≤ f) (k4 : Int32 → Int32 → Int32 → zS → zR) (hk4 : ∀ (x1 x2 x3 : Int32) (t : zS), k4 x1 x2 x3 t = some ro → zJ E shM C cX12_hasAny RX12 4 f (some .boolean) ro t 4 [(0, .ref (za E 0)), (1, .int x1), (2, .int x2), (3, .int x3)] []) (x1 : Int32) (x3 : Int32) (y0 : Int32) (t : zS) (hF : bX12_hasAny_40 k4 x1 x3 y0 t = some ro) : zJ E shM C cX12_hasAny RX12 4 f (some .boolean) ro t 40 [(0, .ref (za E 0)), (1, .int x1), (3, .int x3)] [.int y0] := by
  unfold bX12_hasAny_40 at hF
  refine z_istore_n (lv' := [(2, .int y0), (0, .ref (za E 0)), (1, .int x1), (3, .int x3)]) dX12_hasAny_40 rfl (by decide) rfl ?_
  obtain ⟨v3763, ev3763⟩ : ∃ y : Int32, y = (x3 + 1) := ⟨_, rfl⟩
  have hF := zlet_at ev3763 hF
  refine z_iinc (v := v3763) (lv' := [(3, .int v3763), (2, .int y0), (0, .ref (za E 0)), (1, .int x1)]) (k := 3) dX12_hasAny_41 rfl (by rw [ev3763]; rfl) (by decide) rfl ?_
  refine z_goto (tgt := 4) dX12_hasAny_44 (by decide) ?_
  refine z_sub [2, 3, 1, 0] rfl ?_
  exact hk4 x1 y0 v3763 _ hF
set_option maxHeartbeats 4000000 in
set_option maxRecDepth 20000 in
theorem wbX12_hasAny_35 {E : zE} {C : zC} {f : Nat} {ro : Int32 × zS} (hf : 2 ≤ f) (k4 : Int32 → Int32 → Int32 → zS → zR) (hk4 : ∀ (x1 x2 x3 : Int32) (t : zS), k4 x1 x2 x3 t = some ro → zJ E shM C cX12_hasAny RX12 4 f (some .boolean) ro t 4 [(0, .ref (za E 0)), (1, .int x1), (2, .int x2), (3, .int x3)] []) (x1 : Int32) (x3 : Int32) (t : zS) (hF : bX12_hasAny_35 k4 x1 x3 t = some ro) : zJ E shM C cX12_hasAny RX12 4 f (some .boolean) ro t 35 [(0, .ref (za E 0)), (1, .int x1), (3, .int x3)] [] := by
  unfold bX12_hasAny_35 at hF
  refine z_iconst (v := 1) dX12_hasAny_35 (by decide) ?_
  refine z_goto (tgt := 40) dX12_hasAny_36 (by decide) ?_
  exact wbX12_hasAny_40 hf k4 hk4 x1 x3 1 _ hF
set_option maxHeartbeats 4000000 in
set_option maxRecDepth 20000 in
theorem wbX12_hasAny_4 {E : zE} {C : zC} {f : Nat} {ro : Int32 × zS} (hf : 2 ≤ f) (k4 : Int32 → Int32 → Int32 → zS → zR) (hk4 : ∀ (x1 x2 x3 : Int32) (t : zS), k4 x1 x2 x3 t = some ro → zJ E shM C cX12_hasAny RX12 4 f (some .boolean) ro t 4 [(0, .ref (za E 0)), (1, .int x1), (2, .int x2), (3, .int x3)] []) (x1 : Int32) (x2 : Int32) (x3 : Int32) (t : zS) (hF : bX12_hasAny_4 k4 x1 x2 x3 t = some ro) : zJ E shM C cX12_hasAny RX12 4 f (some .boolean) ro t 4 [(0, .ref (za E 0)), (1, .int x1), (2, .int x2), (3, .int x3)] [] := by
  unfold bX12_hasAny_4 at hF
  refine z_iload_n 3 dX12_hasAny_4 rfl rfl ?_
  refine z_aload_n 0 dX12_hasAny_5 rfl rfl ?_
  refine z_aload_n 0 dX12_hasAny_6 rfl rfl ?_
  refine z_geti fi_RX12_461 dX12_hasAny_7 ?_
  obtain ⟨r3764, t3765, hc3766, hF⟩ := zbd_at hF
  refine z_callVi (ctX12_ownMany (E := E) (f := f - 1) (by omega) hc3766) yy_X12_ownMany yv_X12_ownMany ob_M_0 lk_RX12_458 (by omega) rfl rfl (Nat.le_of_ble_eq_true rfl) dX12_hasAny_10 ?_
  refine z_icmp_ge (tgt := 47) dX12_hasAny_13 (by decide) (fun hc => ?_) (fun hc => ?_)
  · have hF := zif_t hc hF
    refine z_iload_n 2 dX12_hasAny_47 rfl rfl ?_
    obtain ⟨hz3767, hF⟩ := z01_at hF
    exact z_zret hF hz3767 dX12_hasAny_48
  · have hF := zif_f hc hF
    refine z_iload_n 2 dX12_hasAny_16 rfl rfl ?_
    refine z_if_ne (tgt := 35) dX12_hasAny_17 (by decide) (fun hc => ?_) (fun hc => ?_)
    · have hF := zif_f hc hF
      refine z_sub [0, 1, 3] rfl ?_
      exact wbX12_hasAny_35 hf k4 hk4 x1 x3 _ hF
    · have hF := zif_t hc hF
      refine z_aload_n 0 dX12_hasAny_20 rfl rfl ?_
      refine z_getr fr_RX12_135 dX12_hasAny_21 ?_
      refine z_sipush (v := 1500) dX12_hasAny_24 (by decide) ?_
      refine z_iload_n 1 dX12_hasAny_27 rfl rfl ?_
      refine z_imul dX12_hasAny_28 ?_
      refine z_iload_n 3 dX12_hasAny_29 rfl rfl ?_
      refine z_iadd dX12_hasAny_30 ?_
      obtain ⟨hi3769, hF⟩ := zrd_at hF
      refine z_iald (n := 66000) rfl hi3769 dX12_hasAny_31 ?_
      generalize t3765 42 (Int32.toNatClampNeg ((1500 * x1) + x3)) = v3768 at hF ⊢
      refine z_if_lt (tgt := 39) dX12_hasAny_32 (by decide) (fun hc => ?_) (fun hc => ?_)
      · have hF := zif_t hc hF
        refine z_iconst (v := 0) dX12_hasAny_39 (by decide) ?_
        refine z_sub [0, 1, 3] rfl ?_
        exact wbX12_hasAny_40 hf k4 hk4 x1 x3 0 _ hF
      · have hF := zif_f hc hF
        refine z_sub [0, 1, 3] rfl ?_
        exact wbX12_hasAny_35 hf k4 hk4 x1 x3 _ hF
set_option maxHeartbeats 4000000 in
set_option maxRecDepth 20000 in
theorem wlX12_hasAny_4 {E : zE} {C : zC} {f : Nat} {ro : Int32 × zS} (hf : 2 ≤ f) (fu : Nat) : ∀ (x1 x2 x3 : Int32) (t : zS), lX12_hasAny_4  fu x1 x2 x3 t = some ro → zJ E shM C cX12_hasAny RX12 4 f (some .boolean) ro t 4 [(0, .ref (za E 0)), (1, .int x1), (2, .int x2), (3, .int x3)] [] := by
  induction fu with
  | zero => intro x1 x2 x3 t hF; cases hF
  | succ fu ih => intro x1 x2 x3 t hF; exact wbX12_hasAny_4 hf (lX12_hasAny_4  fu) ih x1 x2 x3 t hF
set_option maxHeartbeats 4000000 in
set_option maxRecDepth 20000 in
theorem ctX12_hasAny {E : zE} {f : Nat} (hf : 2 ≤ f) {x1 : Int32} {t : zS} {ro : Int32 × zS} (hF : mX12_hasAny  x1 t = some ro) : zM E shM f yX12_hasAny cX12_hasAny 4 (some .boolean) [.ref (za E 0), .int x1] t ro := by
  refine zM_of (by decide) (Nat.le_of_ble_eq_true rfl) (fun C => ?_)
  show zJ E shM C cX12_hasAny RX12 4 f (some .boolean) ro t 0 [(0, .ref (za E 0)), (1, .int x1)] []
  unfold mX12_hasAny at hF
  refine z_iconst (v := 0) dX12_hasAny_0 (by decide) ?_
  refine z_istore_n (lv' := [(2, .int 0), (0, .ref (za E 0)), (1, .int x1)]) dX12_hasAny_1 rfl (by decide) rfl ?_
  refine z_iconst (v := 0) dX12_hasAny_2 (by decide) ?_
  refine z_istore_n (lv' := [(3, .int 0), (2, .int 0), (0, .ref (za E 0)), (1, .int x1)]) dX12_hasAny_3 rfl (by decide) rfl ?_
  refine z_sub [2, 3, 1, 0] rfl ?_
  exact wlX12_hasAny_4 hf  zFU x1 0 0 _ hF
