-- SessionHouse$Procs.slotFor(I)I
theorem dX6_slotFor_0 : decode cX6_slotFor 0 = .ok (.aload_n 0, 1) := by decide +kernel
theorem dX6_slotFor_1 : decode cX6_slotFor 1 = .ok (.getfield 44, 3) := by decide +kernel
theorem dX6_slotFor_4 : decode cX6_slotFor 4 = .ok (.iconst 1, 1) := by decide +kernel
theorem dX6_slotFor_5 : decode cX6_slotFor 5 = .ok (.isub, 1) := by decide +kernel
theorem dX6_slotFor_6 : decode cX6_slotFor 6 = .ok (.istore_n 2, 1) := by decide +kernel
theorem dX6_slotFor_7 : decode cX6_slotFor 7 = .ok (.aload_n 0, 1) := by decide +kernel
theorem dX6_slotFor_8 : decode cX6_slotFor 8 = .ok (.getfield 41, 3) := by decide +kernel
theorem dX6_slotFor_11 : decode cX6_slotFor 11 = .ok (.iload_n 1, 1) := by decide +kernel
theorem dX6_slotFor_12 : decode cX6_slotFor 12 = .ok (.invokevirtual 55, 3) := by decide +kernel
theorem dX6_slotFor_15 : decode cX6_slotFor 15 = .ok (.iload_n 2, 1) := by decide +kernel
theorem dX6_slotFor_16 : decode cX6_slotFor 16 = .ok (.if_icmp .eq 46, 3) := by decide +kernel
theorem dX6_slotFor_19 : decode cX6_slotFor 19 = .ok (.aload_n 0, 1) := by decide +kernel
theorem dX6_slotFor_20 : decode cX6_slotFor 20 = .ok (.getfield 41, 3) := by decide +kernel
theorem dX6_slotFor_23 : decode cX6_slotFor 23 = .ok (.iload_n 1, 1) := by decide +kernel
theorem dX6_slotFor_24 : decode cX6_slotFor 24 = .ok (.iload_n 2, 1) := by decide +kernel
theorem dX6_slotFor_25 : decode cX6_slotFor 25 = .ok (.invokevirtual 59, 3) := by decide +kernel
theorem dX6_slotFor_28 : decode cX6_slotFor 28 = .ok (.aload_n 0, 1) := by decide +kernel
theorem dX6_slotFor_29 : decode cX6_slotFor 29 = .ok (.getfield 38, 3) := by decide +kernel
theorem dX6_slotFor_32 : decode cX6_slotFor 32 = .ok (.iload_n 1, 1) := by decide +kernel
theorem dX6_slotFor_33 : decode cX6_slotFor 33 = .ok (.aload_n 0, 1) := by decide +kernel
theorem dX6_slotFor_34 : decode cX6_slotFor 34 = .ok (.getfield 26, 3) := by decide +kernel
theorem dX6_slotFor_37 : decode cX6_slotFor 37 = .ok (.iload_n 2, 1) := by decide +kernel
theorem dX6_slotFor_38 : decode cX6_slotFor 38 = .ok (.invokevirtual 55, 3) := by decide +kernel
theorem dX6_slotFor_41 : decode cX6_slotFor 41 = .ok (.invokevirtual 59, 3) := by decide +kernel
theorem dX6_slotFor_44 : decode cX6_slotFor 44 = .ok (.aload_n 0, 1) := by decide +kernel
theorem dX6_slotFor_45 : decode cX6_slotFor 45 = .ok (.getfield 26, 3) := by decide +kernel
theorem dX6_slotFor_48 : decode cX6_slotFor 48 = .ok (.iload_n 2, 1) := by decide +kernel
theorem dX6_slotFor_49 : decode cX6_slotFor 49 = .ok (.aload_n 0, 1) := by decide +kernel
theorem dX6_slotFor_50 : decode cX6_slotFor 50 = .ok (.getfield 26, 3) := by decide +kernel
theorem dX6_slotFor_53 : decode cX6_slotFor 53 = .ok (.iload_n 2, 1) := by decide +kernel
theorem dX6_slotFor_54 : decode cX6_slotFor 54 = .ok (.invokevirtual 55, 3) := by decide +kernel
theorem dX6_slotFor_57 : decode cX6_slotFor 57 = .ok (.iconst 1, 1) := by decide +kernel
theorem dX6_slotFor_58 : decode cX6_slotFor 58 = .ok (.iadd, 1) := by decide +kernel
theorem dX6_slotFor_59 : decode cX6_slotFor 59 = .ok (.invokevirtual 59, 3) := by decide +kernel
theorem dX6_slotFor_62 : decode cX6_slotFor 62 = .ok (.aload_n 0, 1) := by decide +kernel
theorem dX6_slotFor_63 : decode cX6_slotFor 63 = .ok (.getfield 38, 3) := by decide +kernel
theorem dX6_slotFor_66 : decode cX6_slotFor 66 = .ok (.iload_n 1, 1) := by decide +kernel
theorem dX6_slotFor_67 : decode cX6_slotFor 67 = .ok (.invokevirtual 55, 3) := by decide +kernel
theorem dX6_slotFor_70 : decode cX6_slotFor 70 = .ok (.ireturn, 1) := by decide +kernel
def bX6_slotFor_62 (x1 : Int32) (t : zS) : zR := zbd (mX5_get 46 1600 x1 t) fun r489 t490 => some (r489, t490)
def mX6_slotFor (x1 : Int32) (t : zS) : zR := zlet ((t 4 10) - 1) fun v492 => zbd (mX5_get 48 1600 x1 t) fun r493 t494 => if r493 = v492 then bX6_slotFor_62  x1 t494 else zbd (mX5_set 48 1600 x1 v492 t494) fun r496 t497 => zbd (mX5_get 38 400 v492 t497) fun r499 t500 => zbd (mX5_set 46 1600 x1 r499 t500) fun r502 t503 => zbd (mX5_get 38 400 v492 t503) fun r505 t506 => zbd (mX5_set 38 400 v492 (r505 + 1) t506) fun r508 t509 => bX6_slotFor_62  x1 t509
set_option maxHeartbeats 4000000 in
set_option maxRecDepth 20000 in
theorem wbX6_slotFor_62 {E : zE} {C : zC} {f : Nat} {ro : Int32 × zS} (hf : 2 ≤ f) (x1 : Int32) (t : zS) (hF : bX6_slotFor_62  x1 t = some ro) : zJ E shC C cX6_slotFor RX6 3 f (some .int) ro t 62 [(0, .ref (za E 4)), (1, .int x1)] [] := by
  unfold bX6_slotFor_62 at hF
  refine z_aload_n 0 dX6_slotFor_62 rfl rfl ?_
  refine z_getr fr_RX6_38 dX6_slotFor_63 ?_
  refine z_iload_n 1 dX6_slotFor_66 rfl rfl ?_
  obtain ⟨r489, t490, hc491, hF⟩ := zbd_at hF
  refine z_callVi (ctX5_get (E := E) (sh := shC) (f := f - 1) (by omega) (k := 46) (n := 1600) rfl rfl hc491) yy_X5_get yv_X5_get ob_C_46 lk_RX6_55 (by omega) rfl rfl (Nat.le_of_ble_eq_true rfl) dX6_slotFor_67 ?_
  exact z_iret hF dX6_slotFor_70
set_option maxHeartbeats 4000000 in
set_option maxRecDepth 20000 in
theorem ctX6_slotFor {E : zE} {f : Nat} (hf : 2 ≤ f) {x1 : Int32} {t : zS} {ro : Int32 × zS} (hF : mX6_slotFor  x1 t = some ro) : zM E shC f yX6_slotFor cX6_slotFor 3 (some .int) [.ref (za E 4), .int x1] t ro := by
  refine zM_of (by decide) (Nat.le_of_ble_eq_true rfl) (fun C => ?_)
  show zJ E shC C cX6_slotFor RX6 3 f (some .int) ro t 0 [(0, .ref (za E 4)), (1, .int x1)] []
  unfold mX6_slotFor at hF
  refine z_aload_n 0 dX6_slotFor_0 rfl rfl ?_
  refine z_geti fi_RX6_44 dX6_slotFor_1 ?_
  refine z_iconst (v := 1) dX6_slotFor_4 (by decide) ?_
  refine z_isub dX6_slotFor_5 ?_
  refine z_topi (fun v492 ev492 => ?_)
  have hF := zlet_at ev492 hF
  refine z_istore_n (lv' := [(2, .int v492), (0, .ref (za E 4)), (1, .int x1)]) dX6_slotFor_6 rfl (by decide) rfl ?_
  refine z_aload_n 1 dX6_slotFor_7 rfl rfl ?_
  refine z_getr fr_RX6_41 dX6_slotFor_8 ?_
  refine z_iload_n 2 dX6_slotFor_11 rfl rfl ?_
  obtain ⟨r493, t494, hc495, hF⟩ := zbd_at hF
  refine z_callVi (ctX5_get (E := E) (sh := shC) (f := f - 1) (by omega) (k := 48) (n := 1600) rfl rfl hc495) yy_X5_get yv_X5_get ob_C_48 lk_RX6_55 (by omega) rfl rfl (Nat.le_of_ble_eq_true rfl) dX6_slotFor_12 ?_
  refine z_iload_n 0 dX6_slotFor_15 rfl rfl ?_
  refine z_icmp_eq (tgt := 62) dX6_slotFor_16 (by decide) (fun hc => ?_) (fun hc => ?_)
  · have hF := zif_t hc hF
    refine z_sub [1, 2] rfl ?_
    exact wbX6_slotFor_62 hf  x1 _ hF
  · have hF := zif_f hc hF
    refine z_aload_n 1 dX6_slotFor_19 rfl rfl ?_
    refine z_getr fr_RX6_41 dX6_slotFor_20 ?_
    refine z_iload_n 2 dX6_slotFor_23 rfl rfl ?_
    refine z_iload_n 0 dX6_slotFor_24 rfl rfl ?_
    obtain ⟨r496, t497, hc498, hF⟩ := zbd_at hF
    refine z_callVv (ctX5_set (E := E) (sh := shC) (f := f - 1) (by omega) (k := 48) (n := 1600) rfl rfl hc498) yy_X5_set yv_X5_set ob_C_48 lk_RX6_59 (by omega) rfl rfl (Nat.le_of_ble_eq_true rfl) dX6_slotFor_25 ?_
    refine z_aload_n 1 dX6_slotFor_28 rfl rfl ?_
    refine z_getr fr_RX6_38 dX6_slotFor_29 ?_
    refine z_iload_n 2 dX6_slotFor_32 rfl rfl ?_
    refine z_aload_n 1 dX6_slotFor_33 rfl rfl ?_
    refine z_getr fr_RX6_26 dX6_slotFor_34 ?_
    refine z_iload_n 0 dX6_slotFor_37 rfl rfl ?_
    obtain ⟨r499, t500, hc501, hF⟩ := zbd_at hF
    refine z_callVi (ctX5_get (E := E) (sh := shC) (f := f - 1) (by omega) (k := 38) (n := 400) rfl rfl hc501) yy_X5_get yv_X5_get ob_C_38 lk_RX6_55 (by omega) rfl rfl (Nat.le_of_ble_eq_true rfl) dX6_slotFor_38 ?_
    obtain ⟨r502, t503, hc504, hF⟩ := zbd_at hF
    refine z_callVv (ctX5_set (E := E) (sh := shC) (f := f - 1) (by omega) (k := 46) (n := 1600) rfl rfl hc504) yy_X5_set yv_X5_set ob_C_46 lk_RX6_59 (by omega) rfl rfl (Nat.le_of_ble_eq_true rfl) dX6_slotFor_41 ?_
    refine z_aload_n 1 dX6_slotFor_44 rfl rfl ?_
    refine z_getr fr_RX6_26 dX6_slotFor_45 ?_
    refine z_iload_n 0 dX6_slotFor_48 rfl rfl ?_
    refine z_aload_n 1 dX6_slotFor_49 rfl rfl ?_
    refine z_getr fr_RX6_26 dX6_slotFor_50 ?_
    refine z_iload_n 0 dX6_slotFor_53 rfl rfl ?_
    obtain ⟨r505, t506, hc507, hF⟩ := zbd_at hF
    refine z_callVi (ctX5_get (E := E) (sh := shC) (f := f - 1) (by omega) (k := 38) (n := 400) rfl rfl hc507) yy_X5_get yv_X5_get ob_C_38 lk_RX6_55 (by omega) rfl rfl (Nat.le_of_ble_eq_true rfl) dX6_slotFor_54 ?_
    refine z_iconst (v := 1) dX6_slotFor_57 (by decide) ?_
    refine z_iadd dX6_slotFor_58 ?_
    obtain ⟨r508, t509, hc510, hF⟩ := zbd_at hF
    refine z_callVv (ctX5_set (E := E) (sh := shC) (f := f - 1) (by omega) (k := 38) (n := 400) rfl rfl hc510) yy_X5_set yv_X5_set ob_C_38 lk_RX6_59 (by omega) rfl rfl (Nat.le_of_ble_eq_true rfl) dX6_slotFor_59 ?_
    refine z_sub [1, 2] rfl ?_
    exact wbX6_slotFor_62 hf  x1 _ hF
-- SessionHouse$Procs.addParameter(I)V
theorem dX6_addParameter_0 : decode cX6_addParameter 0 = .ok (.aload_n 0, 1) := by decide +kernel
theorem dX6_addParameter_1 : decode cX6_addParameter 1 = .ok (.getfield 35, 3) := by decide +kernel
theorem dX6_addParameter_4 : decode cX6_addParameter 4 = .ok (.aload_n 0, 1) := by decide +kernel
theorem dX6_addParameter_5 : decode cX6_addParameter 5 = .ok (.getfield 48, 3) := by decide +kernel
theorem dX6_addParameter_8 : decode cX6_addParameter 8 = .ok (.iload_n 1, 1) := by decide +kernel
theorem dX6_addParameter_9 : decode cX6_addParameter 9 = .ok (.ifCond .ge 7, 3) := by decide +kernel
theorem dX6_addParameter_12 : decode cX6_addParameter 12 = .ok (.iconst (-1), 1) := by decide +kernel
theorem dX6_addParameter_13 : decode cX6_addParameter 13 = .ok (.goto 6, 3) := by decide +kernel
theorem dX6_addParameter_16 : decode cX6_addParameter 16 = .ok (.iconst 2, 1) := by decide +kernel
theorem dX6_addParameter_17 : decode cX6_addParameter 17 = .ok (.iload_n 1, 1) := by decide +kernel
theorem dX6_addParameter_18 : decode cX6_addParameter 18 = .ok (.imul, 1) := by decide +kernel
theorem dX6_addParameter_19 : decode cX6_addParameter 19 = .ok (.invokevirtual 59, 3) := by decide +kernel
theorem dX6_addParameter_22 : decode cX6_addParameter 22 = .ok (.aload_n 0, 1) := by decide +kernel
theorem dX6_addParameter_23 : decode cX6_addParameter 23 = .ok (.getfield 23, 3) := by decide +kernel
theorem dX6_addParameter_26 : decode cX6_addParameter 26 = .ok (.aload_n 0, 1) := by decide +kernel
theorem dX6_addParameter_27 : decode cX6_addParameter 27 = .ok (.getfield 44, 3) := by decide +kernel
theorem dX6_addParameter_30 : decode cX6_addParameter 30 = .ok (.iconst 1, 1) := by decide +kernel
theorem dX6_addParameter_31 : decode cX6_addParameter 31 = .ok (.isub, 1) := by decide +kernel
theorem dX6_addParameter_32 : decode cX6_addParameter 32 = .ok (.aload_n 0, 1) := by decide +kernel
theorem dX6_addParameter_33 : decode cX6_addParameter 33 = .ok (.getfield 23, 3) := by decide +kernel
theorem dX6_addParameter_36 : decode cX6_addParameter 36 = .ok (.aload_n 0, 1) := by decide +kernel
theorem dX6_addParameter_37 : decode cX6_addParameter 37 = .ok (.getfield 44, 3) := by decide +kernel
theorem dX6_addParameter_40 : decode cX6_addParameter 40 = .ok (.iconst 1, 1) := by decide +kernel
theorem dX6_addParameter_41 : decode cX6_addParameter 41 = .ok (.isub, 1) := by decide +kernel
theorem dX6_addParameter_42 : decode cX6_addParameter 42 = .ok (.invokevirtual 55, 3) := by decide +kernel
theorem dX6_addParameter_45 : decode cX6_addParameter 45 = .ok (.iconst 1, 1) := by decide +kernel
theorem dX6_addParameter_46 : decode cX6_addParameter 46 = .ok (.iadd, 1) := by decide +kernel
theorem dX6_addParameter_47 : decode cX6_addParameter 47 = .ok (.invokevirtual 59, 3) := by decide +kernel
theorem dX6_addParameter_50 : decode cX6_addParameter 50 = .ok (.aload_n 0, 1) := by decide +kernel
theorem dX6_addParameter_51 : decode cX6_addParameter 51 = .ok (.dup, 1) := by decide +kernel
theorem dX6_addParameter_52 : decode cX6_addParameter 52 = .ok (.getfield 48, 3) := by decide +kernel
theorem dX6_addParameter_55 : decode cX6_addParameter 55 = .ok (.iconst 1, 1) := by decide +kernel
theorem dX6_addParameter_56 : decode cX6_addParameter 56 = .ok (.iadd, 1) := by decide +kernel
theorem dX6_addParameter_57 : decode cX6_addParameter 57 = .ok (.putfield 48, 3) := by decide +kernel
theorem dX6_addParameter_60 : decode cX6_addParameter 60 = .ok (.return_, 1) := by decide +kernel
def bX6_addParameter_19 (y0 : Int32) (y1 : Int32) (t : zS) : zR := zbd (mX5_set 44 1600 y1 y0 t) fun r511 t512 => zbd (mX5_get 36 400 ((t512 4 10) - 1) t512) fun r514 t515 => zbd (mX5_set 36 400 ((t512 4 10) - 1) (r514 + 1) t515) fun r517 t518 => zpt t518 4 9 ((t518 4 9) + 1) fun t520 => some (0, t520)
def mX6_addParameter (x1 : Int32) (t : zS) : zR := if 0 ≤ x1 then bX6_addParameter_19  (2 * x1) (t 4 9) t else bX6_addParameter_19  (-1) (t 4 9) t
set_option maxHeartbeats 4000000 in
set_option maxRecDepth 20000 in
theorem wbX6_addParameter_19 {E : zE} {C : zC} {f : Nat} {ro : Int32 × zS} (hf : 2 ≤ f) (y0 : Int32) (y1 : Int32) (t : zS) (hF : bX6_addParameter_19  y0 y1 t = some ro) : zJ E shC C cX6_addParameter RX6 2 f none ro t 19 [(0, .ref (za E 4))] [.int y0, .int y1, .ref (za E 44)] := by
  unfold bX6_addParameter_19 at hF
  obtain ⟨r511, t512, hc513, hF⟩ := zbd_at hF
  refine z_callVv (ctX5_set (E := E) (sh := shC) (f := f - 1) (by omega) (k := 44) (n := 1600) rfl rfl hc513) yy_X5_set yv_X5_set ob_C_44 lk_RX6_59 (by omega) rfl rfl (Nat.le_of_ble_eq_true rfl) dX6_addParameter_19 ?_
  refine z_aload_n 0 dX6_addParameter_22 rfl rfl ?_
  refine z_getr fr_RX6_23 dX6_addParameter_23 ?_
  refine z_aload_n 0 dX6_addParameter_26 rfl rfl ?_
  refine z_geti fi_RX6_44 dX6_addParameter_27 ?_
  refine z_iconst (v := 1) dX6_addParameter_30 (by decide) ?_
  refine z_isub dX6_addParameter_31 ?_
  refine z_aload_n 0 dX6_addParameter_32 rfl rfl ?_
  refine z_getr fr_RX6_23 dX6_addParameter_33 ?_
  refine z_aload_n 0 dX6_addParameter_36 rfl rfl ?_
  refine z_geti fi_RX6_44 dX6_addParameter_37 ?_
  refine z_iconst (v := 1) dX6_addParameter_40 (by decide) ?_
  refine z_isub dX6_addParameter_41 ?_
  obtain ⟨r514, t515, hc516, hF⟩ := zbd_at hF
  refine z_callVi (ctX5_get (E := E) (sh := shC) (f := f - 1) (by omega) (k := 36) (n := 400) rfl rfl hc516) yy_X5_get yv_X5_get ob_C_36 lk_RX6_55 (by omega) rfl rfl (Nat.le_of_ble_eq_true rfl) dX6_addParameter_42 ?_
  refine z_iconst (v := 1) dX6_addParameter_45 (by decide) ?_
  refine z_iadd dX6_addParameter_46 ?_
  obtain ⟨r517, t518, hc519, hF⟩ := zbd_at hF
  refine z_callVv (ctX5_set (E := E) (sh := shC) (f := f - 1) (by omega) (k := 36) (n := 400) rfl rfl hc519) yy_X5_set yv_X5_set ob_C_36 lk_RX6_59 (by omega) rfl rfl (Nat.le_of_ble_eq_true rfl) dX6_addParameter_47 ?_
  refine z_aload_n 0 dX6_addParameter_50 rfl rfl ?_
  refine z_dup dX6_addParameter_51 rfl ?_
  refine z_geti fi_RX6_48 dX6_addParameter_52 ?_
  refine z_iconst (v := 1) dX6_addParameter_55 (by decide) ?_
  refine z_iadd dX6_addParameter_56 ?_
  refine z_puti fw_RX6_48 dX6_addParameter_57 (fun t520 et520 => ?_)
  have hF := zpt_at hF t520 et520
  exact z_vret hF dX6_addParameter_60
set_option maxHeartbeats 4000000 in
set_option maxRecDepth 20000 in
theorem ctX6_addParameter {E : zE} {f : Nat} (hf : 2 ≤ f) {x1 : Int32} {t : zS} {ro : Int32 × zS} (hF : mX6_addParameter  x1 t = some ro) : zM E shC f yX6_addParameter cX6_addParameter 2 none [.ref (za E 4), .int x1] t ro := by
  refine zM_of (by decide) (Nat.le_of_ble_eq_true rfl) (fun C => ?_)
  show zJ E shC C cX6_addParameter RX6 2 f none ro t 0 [(0, .ref (za E 4)), (1, .int x1)] []
  unfold mX6_addParameter at hF
  refine z_aload_n 0 dX6_addParameter_0 rfl rfl ?_
  refine z_getr fr_RX6_35 dX6_addParameter_1 ?_
  refine z_aload_n 0 dX6_addParameter_4 rfl rfl ?_
  refine z_geti fi_RX6_48 dX6_addParameter_5 ?_
  refine z_iload_n 1 dX6_addParameter_8 rfl rfl ?_
  refine z_if_ge (tgt := 16) dX6_addParameter_9 (by decide) (fun hc => ?_) (fun hc => ?_)
  · have hF := zif_t hc hF
    refine z_iconst (v := 2) dX6_addParameter_16 (by decide) ?_
    refine z_iload_n 1 dX6_addParameter_17 rfl rfl ?_
    refine z_imul dX6_addParameter_18 ?_
    refine z_sub [0] rfl ?_
    exact wbX6_addParameter_19 hf  (2 * x1) (t 4 9) _ hF
  · have hF := zif_f hc hF
    refine z_iconst (v := (-1)) dX6_addParameter_12 (by decide) ?_
    refine z_goto (tgt := 19) dX6_addParameter_13 (by decide) ?_
    refine z_sub [0] rfl ?_
    exact wbX6_addParameter_19 hf  (-1) (t 4 9) _ hF
-- SessionHouse$Reader.readParameters()V
theorem dX7_readParameters_0 : decode cX7_readParameters 0 = .ok (.aload_n 0, 1) := by decide +kernel
theorem dX7_readParameters_1 : decode cX7_readParameters 1 = .ok (.bipush 40, 2) := by decide +kernel
theorem dX7_readParameters_3 : decode cX7_readParameters 3 = .ok (.invokevirtual 169, 3) := by decide +kernel
theorem dX7_readParameters_6 : decode cX7_readParameters 6 = .ok (.ifCond .ne 4, 3) := by decide +kernel
theorem dX7_readParameters_9 : decode cX7_readParameters 9 = .ok (.return_, 1) := by decide +kernel
theorem dX7_readParameters_10 : decode cX7_readParameters 10 = .ok (.iconst 0, 1) := by decide +kernel
theorem dX7_readParameters_11 : decode cX7_readParameters 11 = .ok (.istore_n 1, 1) := by decide +kernel
theorem dX7_readParameters_12 : decode cX7_readParameters 12 = .ok (.iload_n 1, 1) := by decide +kernel
theorem dX7_readParameters_13 : decode cX7_readParameters 13 = .ok (.sipush 3000, 3) := by decide +kernel
theorem dX7_readParameters_16 : decode cX7_readParameters 16 = .ok (.if_icmp .ge 119, 3) := by decide +kernel
theorem dX7_readParameters_19 : decode cX7_readParameters 19 = .ok (.aload_n 0, 1) := by decide +kernel
theorem dX7_readParameters_20 : decode cX7_readParameters 20 = .ok (.getfield 68, 3) := by decide +kernel
theorem dX7_readParameters_23 : decode cX7_readParameters 23 = .ok (.ifCond .ge 112, 3) := by decide +kernel
theorem dX7_readParameters_26 : decode cX7_readParameters 26 = .ok (.iload_n 1, 1) := by decide +kernel
theorem dX7_readParameters_27 : decode cX7_readParameters 27 = .ok (.ifCond .gt 12, 3) := by decide +kernel
theorem dX7_readParameters_30 : decode cX7_readParameters 30 = .ok (.aload_n 0, 1) := by decide +kernel
theorem dX7_readParameters_31 : decode cX7_readParameters 31 = .ok (.getfield 80, 3) := by decide +kernel
theorem dX7_readParameters_34 : decode cX7_readParameters 34 = .ok (.bipush 41, 2) := by decide +kernel
theorem dX7_readParameters_36 : decode cX7_readParameters 36 = .ok (.if_icmp .eq 99, 3) := by decide +kernel
theorem dX7_readParameters_39 : decode cX7_readParameters 39 = .ok (.aload_n 0, 1) := by decide +kernel
theorem dX7_readParameters_40 : decode cX7_readParameters 40 = .ok (.getfield 80, 3) := by decide +kernel
theorem dX7_readParameters_43 : decode cX7_readParameters 43 = .ok (.bipush 17, 2) := by decide +kernel
theorem dX7_readParameters_45 : decode cX7_readParameters 45 = .ok (.if_icmp .ne 17, 3) := by decide +kernel
theorem dX7_readParameters_48 : decode cX7_readParameters 48 = .ok (.aload_n 0, 1) := by decide +kernel
theorem dX7_readParameters_49 : decode cX7_readParameters 49 = .ok (.getfield 42, 3) := by decide +kernel
theorem dX7_readParameters_52 : decode cX7_readParameters 52 = .ok (.aload_n 0, 1) := by decide +kernel
theorem dX7_readParameters_53 : decode cX7_readParameters 53 = .ok (.getfield 121, 3) := by decide +kernel
theorem dX7_readParameters_56 : decode cX7_readParameters 56 = .ok (.invokevirtual 194, 3) := by decide +kernel
theorem dX7_readParameters_59 : decode cX7_readParameters 59 = .ok (.ifCond .eq 10, 3) := by decide +kernel
theorem dX7_readParameters_62 : decode cX7_readParameters 62 = .ok (.aload_n 0, 1) := by decide +kernel
theorem dX7_readParameters_63 : decode cX7_readParameters 63 = .ok (.invokevirtual 89, 3) := by decide +kernel
theorem dX7_readParameters_66 : decode cX7_readParameters 66 = .ok (.goto 69, 3) := by decide +kernel
theorem dX7_readParameters_69 : decode cX7_readParameters 69 = .ok (.aload_n 0, 1) := by decide +kernel
theorem dX7_readParameters_70 : decode cX7_readParameters 70 = .ok (.getfield 42, 3) := by decide +kernel
theorem dX7_readParameters_73 : decode cX7_readParameters 73 = .ok (.aload_n 0, 1) := by decide +kernel
theorem dX7_readParameters_74 : decode cX7_readParameters 74 = .ok (.getfield 121, 3) := by decide +kernel
theorem dX7_readParameters_77 : decode cX7_readParameters 77 = .ok (.invokevirtual 197, 3) := by decide +kernel
theorem dX7_readParameters_80 : decode cX7_readParameters 80 = .ok (.pop, 1) := by decide +kernel
theorem dX7_readParameters_81 : decode cX7_readParameters 81 = .ok (.aload_n 0, 1) := by decide +kernel
theorem dX7_readParameters_82 : decode cX7_readParameters 82 = .ok (.invokevirtual 77, 3) := by decide +kernel
theorem dX7_readParameters_85 : decode cX7_readParameters 85 = .ok (.iconst (-1), 1) := by decide +kernel
theorem dX7_readParameters_86 : decode cX7_readParameters 86 = .ok (.istore_n 2, 1) := by decide +kernel
theorem dX7_readParameters_87 : decode cX7_readParameters 87 = .ok (.aload_n 0, 1) := by decide +kernel
theorem dX7_readParameters_88 : decode cX7_readParameters 88 = .ok (.getfield 80, 3) := by decide +kernel
theorem dX7_readParameters_91 : decode cX7_readParameters 91 = .ok (.bipush 58, 2) := by decide +kernel
theorem dX7_readParameters_93 : decode cX7_readParameters 93 = .ok (.if_icmp .ne 12, 3) := by decide +kernel
theorem dX7_readParameters_96 : decode cX7_readParameters 96 = .ok (.aload_n 0, 1) := by decide +kernel
theorem dX7_readParameters_97 : decode cX7_readParameters 97 = .ok (.invokevirtual 77, 3) := by decide +kernel
theorem dX7_readParameters_100 : decode cX7_readParameters 100 = .ok (.aload_n 0, 1) := by decide +kernel
theorem dX7_readParameters_101 : decode cX7_readParameters 101 = .ok (.invokevirtual 138, 3) := by decide +kernel
theorem dX7_readParameters_104 : decode cX7_readParameters 104 = .ok (.istore_n 2, 1) := by decide +kernel
theorem dX7_readParameters_105 : decode cX7_readParameters 105 = .ok (.aload_n 0, 1) := by decide +kernel
theorem dX7_readParameters_106 : decode cX7_readParameters 106 = .ok (.getfield 42, 3) := by decide +kernel
theorem dX7_readParameters_109 : decode cX7_readParameters 109 = .ok (.iload_n 2, 1) := by decide +kernel
theorem dX7_readParameters_110 : decode cX7_readParameters 110 = .ok (.invokevirtual 200, 3) := by decide +kernel
theorem dX7_readParameters_113 : decode cX7_readParameters 113 = .ok (.aload_n 0, 1) := by decide +kernel
theorem dX7_readParameters_114 : decode cX7_readParameters 114 = .ok (.getfield 80, 3) := by decide +kernel
theorem dX7_readParameters_117 : decode cX7_readParameters 117 = .ok (.bipush 44, 2) := by decide +kernel
theorem dX7_readParameters_119 : decode cX7_readParameters 119 = .ok (.if_icmp .eq 6, 3) := by decide +kernel
theorem dX7_readParameters_122 : decode cX7_readParameters 122 = .ok (.goto 13, 3) := by decide +kernel
theorem dX7_readParameters_125 : decode cX7_readParameters 125 = .ok (.aload_n 0, 1) := by decide +kernel
theorem dX7_readParameters_126 : decode cX7_readParameters 126 = .ok (.invokevirtual 77, 3) := by decide +kernel
theorem dX7_readParameters_129 : decode cX7_readParameters 129 = .ok (.iinc 1 1, 3) := by decide +kernel
theorem dX7_readParameters_132 : decode cX7_readParameters 132 = .ok (.goto (-120), 3) := by decide +kernel
theorem dX7_readParameters_135 : decode cX7_readParameters 135 = .ok (.aload_n 0, 1) := by decide +kernel
theorem dX7_readParameters_136 : decode cX7_readParameters 136 = .ok (.bipush 41, 2) := by decide +kernel
theorem dX7_readParameters_138 : decode cX7_readParameters 138 = .ok (.invokevirtual 172, 3) := by decide +kernel
theorem dX7_readParameters_141 : decode cX7_readParameters 141 = .ok (.return_, 1) := by decide +kernel
def bX7_readParameters_135 (t : zS) : zR := zbd (mX7_leave 41 t) fun r521 t522 => some (0, t522)
def bX7_readParameters_62 (t : zS) : zR := zbd (mX7_refuse  t) fun r524 t525 => bX7_readParameters_135   t525
def bX7_readParameters_105 (k12 : Int32 → zS → zR) (x1 : Int32) (x2 : Int32) (t : zS) : zR := zbd (mX6_addParameter x2 t) fun r527 t528 => if (t528 5 9) = 44 then zbd (mX7_step  t528) fun r530 t531 => zlet (x1 + 1) fun v533 => k12 v533 t531 else bX7_readParameters_135   t528
def bX7_readParameters_39 (k12 : Int32 → zS → zR) (x1 : Int32) (t : zS) : zR := if (t 5 9) = 17 then zbd (mX6_hasSlot (t 5 11) t) fun r534 t535 => if r534 = 0 then zbd (mX6_slotFor (t535 5 11) t535) fun r537 t538 => zbd (mX7_step  t538) fun r540 t541 => if (t541 5 9) = 58 then zbd (mX7_step  t541) fun r543 t544 => zbd (mX7_readFormr  t544) fun r546 t547 => bX7_readParameters_105 k12 x1 r546 t547 else bX7_readParameters_105 k12 x1 (-1) t541 else bX7_readParameters_62   t535 else bX7_readParameters_62   t
def bX7_readParameters_12 (k12 : Int32 → zS → zR) (x1 : Int32) (t : zS) : zR := if 3000 ≤ x1 then bX7_readParameters_135   t else if 0 ≤ (t 5 12) then bX7_readParameters_135   t else if 0 < x1 then bX7_readParameters_39 k12 x1 t else if (t 5 9) = 41 then bX7_readParameters_135   t else bX7_readParameters_39 k12 x1 t
def lX7_readParameters_12 : Nat → Int32 → zS → zR
  | 0, _, _ => none
  | fu + 1, x1, t => bX7_readParameters_12 (lX7_readParameters_12  fu) x1 t
def mX7_readParameters (t : zS) : zR := zbd (mX7_enter 40 t) fun r549 t550 => if r549 = 0 then some (0, t550) else lX7_readParameters_12  zFU 0 t550
set_option maxHeartbeats 4000000 in
set_option maxRecDepth 20000 in
theorem wbX7_readParameters_135 {E : zE} {C : zC} {f : Nat} {ro : Int32 × zS} (hf : 305 ≤ f) (t : zS) (hF : bX7_readParameters_135   t = some ro) : zJ E shC C cX7_readParameters RX7 3 f none ro t 135 [(0, .ref (za E 5))] [] := by
  unfold bX7_readParameters_135 at hF
  refine z_aload_n 0 dX7_readParameters_135 rfl rfl ?_
  refine z_bipush (v := 41) dX7_readParameters_136 (by decide) ?_
  obtain ⟨r521, t522, hc523, hF⟩ := zbd_at hF
  refine z_callVv (ctX7_leave (E := E) (f := f - 1) (by omega) hc523) yy_X7_leave yv_X7_leave ob_C_5 lk_RX7_172 (by omega) rfl rfl (Nat.le_of_ble_eq_true rfl) dX7_readParameters_138 ?_
  exact z_vret hF dX7_readParameters_141
set_option maxHeartbeats 4000000 in
set_option maxRecDepth 20000 in
theorem wbX7_readParameters_62 {E : zE} {C : zC} {f : Nat} {ro : Int32 × zS} (hf : 305 ≤ f) (t : zS) (hF : bX7_readParameters_62   t = some ro) : zJ E shC C cX7_readParameters RX7 3 f none ro t 62 [(0, .ref (za E 5))] [] := by
  unfold bX7_readParameters_62 at hF
  refine z_aload_n 0 dX7_readParameters_62 rfl rfl ?_
  obtain ⟨r524, t525, hc526, hF⟩ := zbd_at hF
  refine z_callVv (ctX7_refuse (E := E) (f := f - 1) (by omega) hc526) yy_X7_refuse yv_X7_refuse ob_C_5 lk_RX7_89 (by omega) rfl rfl (Nat.le_of_ble_eq_true rfl) dX7_readParameters_63 ?_
  refine z_goto (tgt := 135) dX7_readParameters_66 (by decide) ?_
  exact wbX7_readParameters_135 hf   _ hF
set_option maxHeartbeats 4000000 in
set_option maxRecDepth 20000 in
theorem wbX7_readParameters_105 {E : zE} {C : zC} {f : Nat} {ro : Int32 × zS} (hf : 305 ≤ f) (k12 : Int32 → zS → zR) (hk12 : ∀ (x1 : Int32) (t : zS), k12 x1 t = some ro → zJ E shC C cX7_readParameters RX7 3 f none ro t 12 [(0, .ref (za E 5)), (1, .int x1)] []) (x1 : Int32) (x2 : Int32) (t : zS) (hF : bX7_readParameters_105 k12 x1 x2 t = some ro) : zJ E shC C cX7_readParameters RX7 3 f none ro t 105 [(0, .ref (za E 5)), (1, .int x1), (2, .int x2)] [] := by
  unfold bX7_readParameters_105 at hF
  refine z_aload_n 0 dX7_readParameters_105 rfl rfl ?_
  refine z_getr fr_RX7_42 dX7_readParameters_106 ?_
  refine z_iload_n 2 dX7_readParameters_109 rfl rfl ?_
  obtain ⟨r527, t528, hc529, hF⟩ := zbd_at hF
  refine z_callVv (ctX6_addParameter (E := E) (f := f - 1) (by omega) hc529) yy_X6_addParameter yv_X6_addParameter ob_C_4 lk_RX7_200 (by omega) rfl rfl (Nat.le_of_ble_eq_true rfl) dX7_readParameters_110 ?_
  refine z_aload_n 0 dX7_readParameters_113 rfl rfl ?_
  refine z_geti fi_RX7_80 dX7_readParameters_114 ?_
  refine z_bipush (v := 44) dX7_readParameters_117 (by decide) ?_
  refine z_icmp_eq (tgt := 125) dX7_readParameters_119 (by decide) (fun hc => ?_) (fun hc => ?_)
  · have hF := zif_t hc hF
    refine z_aload_n 0 dX7_readParameters_125 rfl rfl ?_
    obtain ⟨r530, t531, hc532, hF⟩ := zbd_at hF
    refine z_callVv (ctX7_step (E := E) (f := f - 1) (by omega) hc532) yy_X7_step yv_X7_step ob_C_5 lk_RX7_77 (by omega) rfl rfl (Nat.le_of_ble_eq_true rfl) dX7_readParameters_126 ?_
    obtain ⟨v533, ev533⟩ : ∃ y : Int32, y = (x1 + 1) := ⟨_, rfl⟩
    have hF := zlet_at ev533 hF
    refine z_iinc (v := v533) (lv' := [(1, .int v533), (0, .ref (za E 5)), (2, .int x2)]) (k := 1) dX7_readParameters_129 rfl (by rw [ev533]; rfl) (by decide) rfl ?_
    refine z_goto (tgt := 12) dX7_readParameters_132 (by decide) ?_
    refine z_sub [1, 0] rfl ?_
    exact hk12 v533 _ hF
  · have hF := zif_f hc hF
    refine z_goto (tgt := 135) dX7_readParameters_122 (by decide) ?_
    refine z_sub [0] rfl ?_
    exact wbX7_readParameters_135 hf   _ hF
set_option maxHeartbeats 4000000 in
set_option maxRecDepth 20000 in
theorem wbX7_readParameters_39 {E : zE} {C : zC} {f : Nat} {ro : Int32 × zS} (hf : 305 ≤ f) (k12 : Int32 → zS → zR) (hk12 : ∀ (x1 : Int32) (t : zS), k12 x1 t = some ro → zJ E shC C cX7_readParameters RX7 3 f none ro t 12 [(0, .ref (za E 5)), (1, .int x1)] []) (x1 : Int32) (t : zS) (hF : bX7_readParameters_39 k12 x1 t = some ro) : zJ E shC C cX7_readParameters RX7 3 f none ro t 39 [(0, .ref (za E 5)), (1, .int x1)] [] := by
  unfold bX7_readParameters_39 at hF
  refine z_aload_n 0 dX7_readParameters_39 rfl rfl ?_
  refine z_geti fi_RX7_80 dX7_readParameters_40 ?_
  refine z_bipush (v := 17) dX7_readParameters_43 (by decide) ?_
  refine z_icmp_ne (tgt := 62) dX7_readParameters_45 (by decide) (fun hc => ?_) (fun hc => ?_)
  · have hF := zif_f hc hF
    refine z_sub [0] rfl ?_
    exact wbX7_readParameters_62 hf   _ hF
  · have hF := zif_t hc hF
    refine z_aload_n 0 dX7_readParameters_48 rfl rfl ?_
    refine z_getr fr_RX7_42 dX7_readParameters_49 ?_
    refine z_aload_n 0 dX7_readParameters_52 rfl rfl ?_
    refine z_geti fi_RX7_121 dX7_readParameters_53 ?_
    obtain ⟨r534, t535, hc536, hF⟩ := zbd_at hF
    refine z_callVi (ctX6_hasSlot (E := E) (f := f - 1) (by omega) hc536) yy_X6_hasSlot yv_X6_hasSlot ob_C_4 lk_RX7_194 (by omega) rfl rfl (Nat.le_of_ble_eq_true rfl) dX7_readParameters_56 ?_
    refine z_if_eq (tgt := 69) dX7_readParameters_59 (by decide) (fun hc => ?_) (fun hc => ?_)
    · have hF := zif_t hc hF
      refine z_aload_n 0 dX7_readParameters_69 rfl rfl ?_
      refine z_getr fr_RX7_42 dX7_readParameters_70 ?_
      refine z_aload_n 0 dX7_readParameters_73 rfl rfl ?_
      refine z_geti fi_RX7_121 dX7_readParameters_74 ?_
      obtain ⟨r537, t538, hc539, hF⟩ := zbd_at hF
      refine z_callVi (ctX6_slotFor (E := E) (f := f - 1) (by omega) hc539) yy_X6_slotFor yv_X6_slotFor ob_C_4 lk_RX7_197 (by omega) rfl rfl (Nat.le_of_ble_eq_true rfl) dX7_readParameters_77 ?_
      refine z_pop dX7_readParameters_80 rfl ?_
      refine z_aload_n 0 dX7_readParameters_81 rfl rfl ?_
      obtain ⟨r540, t541, hc542, hF⟩ := zbd_at hF
      refine z_callVv (ctX7_step (E := E) (f := f - 1) (by omega) hc542) yy_X7_step yv_X7_step ob_C_5 lk_RX7_77 (by omega) rfl rfl (Nat.le_of_ble_eq_true rfl) dX7_readParameters_82 ?_
      refine z_iconst (v := (-1)) dX7_readParameters_85 (by decide) ?_
      refine z_istore_n (lv' := [(2, .int (-1)), (0, .ref (za E 5)), (1, .int x1)]) dX7_readParameters_86 rfl (by decide) rfl ?_
      refine z_aload_n 1 dX7_readParameters_87 rfl rfl ?_
      refine z_geti fi_RX7_80 dX7_readParameters_88 ?_
      refine z_bipush (v := 58) dX7_readParameters_91 (by decide) ?_
      refine z_icmp_ne (tgt := 105) dX7_readParameters_93 (by decide) (fun hc => ?_) (fun hc => ?_)
      · have hF := zif_f hc hF
        refine z_sub [1, 2, 0] rfl ?_
        exact wbX7_readParameters_105 hf k12 hk12 x1 (-1) _ hF
      · have hF := zif_t hc hF
        refine z_aload_n 1 dX7_readParameters_96 rfl rfl ?_
        obtain ⟨r543, t544, hc545, hF⟩ := zbd_at hF
        refine z_callVv (ctX7_step (E := E) (f := f - 1) (by omega) hc545) yy_X7_step yv_X7_step ob_C_5 lk_RX7_77 (by omega) rfl rfl (Nat.le_of_ble_eq_true rfl) dX7_readParameters_97 ?_
        refine z_aload_n 1 dX7_readParameters_100 rfl rfl ?_
        obtain ⟨r546, t547, hc548, hF⟩ := zbd_at hF
        refine z_callVi (ctX7_readFormr (E := E) (f := f - 1) (by omega) hc548) yy_X7_readForm yv_X7_readForm ob_C_5 lk_RX7_138 (by omega) rfl rfl (Nat.le_of_ble_eq_true rfl) dX7_readParameters_101 ?_
        refine z_istore_n (lv' := [(2, .int r546), (0, .ref (za E 5)), (1, .int x1)]) dX7_readParameters_104 rfl (by decide) rfl ?_
        refine z_sub [1, 2, 0] rfl ?_
        exact wbX7_readParameters_105 hf k12 hk12 x1 r546 _ hF
    · have hF := zif_f hc hF
      refine z_sub [0] rfl ?_
      exact wbX7_readParameters_62 hf   _ hF
set_option maxHeartbeats 4000000 in
set_option maxRecDepth 20000 in
theorem wbX7_readParameters_12 {E : zE} {C : zC} {f : Nat} {ro : Int32 × zS} (hf : 305 ≤ f) (k12 : Int32 → zS → zR) (hk12 : ∀ (x1 : Int32) (t : zS), k12 x1 t = some ro → zJ E shC C cX7_readParameters RX7 3 f none ro t 12 [(0, .ref (za E 5)), (1, .int x1)] []) (x1 : Int32) (t : zS) (hF : bX7_readParameters_12 k12 x1 t = some ro) : zJ E shC C cX7_readParameters RX7 3 f none ro t 12 [(0, .ref (za E 5)), (1, .int x1)] [] := by
  unfold bX7_readParameters_12 at hF
  refine z_iload_n 1 dX7_readParameters_12 rfl rfl ?_
  refine z_sipush (v := 3000) dX7_readParameters_13 (by decide) ?_
  refine z_icmp_ge (tgt := 135) dX7_readParameters_16 (by decide) (fun hc => ?_) (fun hc => ?_)
  · have hF := zif_t hc hF
    refine z_sub [0] rfl ?_
    exact wbX7_readParameters_135 hf   _ hF
  · have hF := zif_f hc hF
    refine z_aload_n 0 dX7_readParameters_19 rfl rfl ?_
    refine z_geti fi_RX7_68 dX7_readParameters_20 ?_
    refine z_if_ge (tgt := 135) dX7_readParameters_23 (by decide) (fun hc => ?_) (fun hc => ?_)
    · have hF := zif_t hc hF
      refine z_sub [0] rfl ?_
      exact wbX7_readParameters_135 hf   _ hF
    · have hF := zif_f hc hF
      refine z_iload_n 1 dX7_readParameters_26 rfl rfl ?_
      refine z_if_gt (tgt := 39) dX7_readParameters_27 (by decide) (fun hc => ?_) (fun hc => ?_)
      · have hF := zif_t hc hF
        exact wbX7_readParameters_39 hf k12 hk12 x1 _ hF
      · have hF := zif_f hc hF
        refine z_aload_n 0 dX7_readParameters_30 rfl rfl ?_
        refine z_geti fi_RX7_80 dX7_readParameters_31 ?_
        refine z_bipush (v := 41) dX7_readParameters_34 (by decide) ?_
        refine z_icmp_eq (tgt := 135) dX7_readParameters_36 (by decide) (fun hc => ?_) (fun hc => ?_)
        · have hF := zif_t hc hF
          refine z_sub [0] rfl ?_
          exact wbX7_readParameters_135 hf   _ hF
        · have hF := zif_f hc hF
          exact wbX7_readParameters_39 hf k12 hk12 x1 _ hF
set_option maxHeartbeats 4000000 in
set_option maxRecDepth 20000 in
theorem wlX7_readParameters_12 {E : zE} {C : zC} {f : Nat} {ro : Int32 × zS} (hf : 305 ≤ f) (fu : Nat) : ∀ (x1 : Int32) (t : zS), lX7_readParameters_12  fu x1 t = some ro → zJ E shC C cX7_readParameters RX7 3 f none ro t 12 [(0, .ref (za E 5)), (1, .int x1)] [] := by
  induction fu with
  | zero => intro x1 t hF; cases hF
  | succ fu ih => intro x1 t hF; exact wbX7_readParameters_12 hf (lX7_readParameters_12  fu) ih x1 t hF
set_option maxHeartbeats 4000000 in
set_option maxRecDepth 20000 in
theorem ctX7_readParameters {E : zE} {f : Nat} (hf : 305 ≤ f) {t : zS} {ro : Int32 × zS} (hF : mX7_readParameters   t = some ro) : zM E shC f yX7_readParameters cX7_readParameters 3 none [.ref (za E 5)] t ro := by
  refine zM_of (by decide) (Nat.le_of_ble_eq_true rfl) (fun C => ?_)
  show zJ E shC C cX7_readParameters RX7 3 f none ro t 0 [(0, .ref (za E 5))] []
  unfold mX7_readParameters at hF
  refine z_aload_n 0 dX7_readParameters_0 rfl rfl ?_
  refine z_bipush (v := 40) dX7_readParameters_1 (by decide) ?_
  obtain ⟨r549, t550, hc551, hF⟩ := zbd_at hF
  refine z_callVi (ctX7_enter (E := E) (f := f - 1) (by omega) hc551) yy_X7_enter yv_X7_enter ob_C_5 lk_RX7_169 (by omega) rfl rfl (Nat.le_of_ble_eq_true rfl) dX7_readParameters_3 ?_
  refine z_if_ne (tgt := 10) dX7_readParameters_6 (by decide) (fun hc => ?_) (fun hc => ?_)
  · have hF := zif_f hc hF
    refine z_iconst (v := 0) dX7_readParameters_10 (by decide) ?_
    refine z_istore_n (lv' := [(1, .int 0), (0, .ref (za E 5))]) dX7_readParameters_11 rfl (by decide) rfl ?_
    refine z_sub [1, 0] rfl ?_
    exact wlX7_readParameters_12 hf  zFU 0 _ hF
  · have hF := zif_t hc hF
    exact z_vret hF dX7_readParameters_9
-- SessionHouse$Statements.add(III)I
theorem dX9_add_0 : decode cX9_add 0 = .ok (.aload_n 0, 1) := by decide +kernel
theorem dX9_add_1 : decode cX9_add 1 = .ok (.getfield 14, 3) := by decide +kernel
theorem dX9_add_4 : decode cX9_add 4 = .ok (.aload_n 0, 1) := by decide +kernel
theorem dX9_add_5 : decode cX9_add 5 = .ok (.getfield 62, 3) := by decide +kernel
theorem dX9_add_8 : decode cX9_add 8 = .ok (.iload_n 1, 1) := by decide +kernel
theorem dX9_add_9 : decode cX9_add 9 = .ok (.invokevirtual 69, 3) := by decide +kernel
theorem dX9_add_12 : decode cX9_add 12 = .ok (.aload_n 0, 1) := by decide +kernel
theorem dX9_add_13 : decode cX9_add 13 = .ok (.getfield 20, 3) := by decide +kernel
theorem dX9_add_16 : decode cX9_add 16 = .ok (.aload_n 0, 1) := by decide +kernel
theorem dX9_add_17 : decode cX9_add 17 = .ok (.getfield 62, 3) := by decide +kernel
theorem dX9_add_20 : decode cX9_add 20 = .ok (.iload_n 2, 1) := by decide +kernel
theorem dX9_add_21 : decode cX9_add 21 = .ok (.invokevirtual 69, 3) := by decide +kernel
theorem dX9_add_24 : decode cX9_add 24 = .ok (.aload_n 0, 1) := by decide +kernel
theorem dX9_add_25 : decode cX9_add 25 = .ok (.getfield 23, 3) := by decide +kernel
theorem dX9_add_28 : decode cX9_add 28 = .ok (.aload_n 0, 1) := by decide +kernel
theorem dX9_add_29 : decode cX9_add 29 = .ok (.getfield 62, 3) := by decide +kernel
theorem dX9_add_32 : decode cX9_add 32 = .ok (.iconst (-1), 1) := by decide +kernel
theorem dX9_add_33 : decode cX9_add 33 = .ok (.invokevirtual 69, 3) := by decide +kernel
theorem dX9_add_36 : decode cX9_add 36 = .ok (.aload_n 0, 1) := by decide +kernel
theorem dX9_add_37 : decode cX9_add 37 = .ok (.getfield 26, 3) := by decide +kernel
theorem dX9_add_40 : decode cX9_add 40 = .ok (.aload_n 0, 1) := by decide +kernel
theorem dX9_add_41 : decode cX9_add 41 = .ok (.getfield 62, 3) := by decide +kernel
theorem dX9_add_44 : decode cX9_add 44 = .ok (.iconst (-1), 1) := by decide +kernel
theorem dX9_add_45 : decode cX9_add 45 = .ok (.invokevirtual 69, 3) := by decide +kernel
theorem dX9_add_48 : decode cX9_add 48 = .ok (.aload_n 0, 1) := by decide +kernel
theorem dX9_add_49 : decode cX9_add 49 = .ok (.getfield 29, 3) := by decide +kernel
theorem dX9_add_52 : decode cX9_add 52 = .ok (.aload_n 0, 1) := by decide +kernel
theorem dX9_add_53 : decode cX9_add 53 = .ok (.getfield 62, 3) := by decide +kernel
theorem dX9_add_56 : decode cX9_add 56 = .ok (.iconst 0, 1) := by decide +kernel
theorem dX9_add_57 : decode cX9_add 57 = .ok (.invokevirtual 69, 3) := by decide +kernel
theorem dX9_add_60 : decode cX9_add 60 = .ok (.aload_n 0, 1) := by decide +kernel
theorem dX9_add_61 : decode cX9_add 61 = .ok (.getfield 32, 3) := by decide +kernel
theorem dX9_add_64 : decode cX9_add 64 = .ok (.aload_n 0, 1) := by decide +kernel
theorem dX9_add_65 : decode cX9_add 65 = .ok (.getfield 62, 3) := by decide +kernel
theorem dX9_add_68 : decode cX9_add 68 = .ok (.iconst 0, 1) := by decide +kernel
theorem dX9_add_69 : decode cX9_add 69 = .ok (.invokevirtual 69, 3) := by decide +kernel
theorem dX9_add_72 : decode cX9_add 72 = .ok (.aload_n 0, 1) := by decide +kernel
theorem dX9_add_73 : decode cX9_add 73 = .ok (.getfield 35, 3) := by decide +kernel
theorem dX9_add_76 : decode cX9_add 76 = .ok (.aload_n 0, 1) := by decide +kernel
theorem dX9_add_77 : decode cX9_add 77 = .ok (.getfield 62, 3) := by decide +kernel
theorem dX9_add_80 : decode cX9_add 80 = .ok (.iconst (-1), 1) := by decide +kernel
theorem dX9_add_81 : decode cX9_add 81 = .ok (.invokevirtual 69, 3) := by decide +kernel
theorem dX9_add_84 : decode cX9_add 84 = .ok (.aload_n 0, 1) := by decide +kernel
theorem dX9_add_85 : decode cX9_add 85 = .ok (.getfield 38, 3) := by decide +kernel
theorem dX9_add_88 : decode cX9_add 88 = .ok (.aload_n 0, 1) := by decide +kernel
theorem dX9_add_89 : decode cX9_add 89 = .ok (.getfield 62, 3) := by decide +kernel
theorem dX9_add_92 : decode cX9_add 92 = .ok (.iload_n 3, 1) := by decide +kernel
theorem dX9_add_93 : decode cX9_add 93 = .ok (.invokevirtual 69, 3) := by decide +kernel
theorem dX9_add_96 : decode cX9_add 96 = .ok (.aload_n 0, 1) := by decide +kernel
theorem dX9_add_97 : decode cX9_add 97 = .ok (.getfield 44, 3) := by decide +kernel
theorem dX9_add_100 : decode cX9_add 100 = .ok (.aload_n 0, 1) := by decide +kernel
theorem dX9_add_101 : decode cX9_add 101 = .ok (.getfield 62, 3) := by decide +kernel
theorem dX9_add_104 : decode cX9_add 104 = .ok (.iconst (-1), 1) := by decide +kernel
theorem dX9_add_105 : decode cX9_add 105 = .ok (.invokevirtual 69, 3) := by decide +kernel
theorem dX9_add_108 : decode cX9_add 108 = .ok (.aload_n 0, 1) := by decide +kernel
theorem dX9_add_109 : decode cX9_add 109 = .ok (.getfield 47, 3) := by decide +kernel
theorem dX9_add_112 : decode cX9_add 112 = .ok (.aload_n 0, 1) := by decide +kernel
theorem dX9_add_113 : decode cX9_add 113 = .ok (.getfield 62, 3) := by decide +kernel
theorem dX9_add_116 : decode cX9_add 116 = .ok (.iconst 0, 1) := by decide +kernel
theorem dX9_add_117 : decode cX9_add 117 = .ok (.invokevirtual 69, 3) := by decide +kernel
theorem dX9_add_120 : decode cX9_add 120 = .ok (.aload_n 0, 1) := by decide +kernel
theorem dX9_add_121 : decode cX9_add 121 = .ok (.dup, 1) := by decide +kernel
theorem dX9_add_122 : decode cX9_add 122 = .ok (.getfield 62, 3) := by decide +kernel
theorem dX9_add_125 : decode cX9_add 125 = .ok (.iconst 1, 1) := by decide +kernel
theorem dX9_add_126 : decode cX9_add 126 = .ok (.iadd, 1) := by decide +kernel
theorem dX9_add_127 : decode cX9_add 127 = .ok (.putfield 62, 3) := by decide +kernel
theorem dX9_add_130 : decode cX9_add 130 = .ok (.aload_n 0, 1) := by decide +kernel
theorem dX9_add_131 : decode cX9_add 131 = .ok (.getfield 62, 3) := by decide +kernel
theorem dX9_add_134 : decode cX9_add 134 = .ok (.iconst 1, 1) := by decide +kernel
theorem dX9_add_135 : decode cX9_add 135 = .ok (.isub, 1) := by decide +kernel
theorem dX9_add_136 : decode cX9_add 136 = .ok (.ireturn, 1) := by decide +kernel
def mX9_add (x1 : Int32) (x2 : Int32) (x3 : Int32) (t : zS) : zR := zbd (mX5_set 86 1000 (t 52 15) x1 t) fun r552 t553 => zbd (mX5_set 88 1000 (t553 52 15) x2 t553) fun r555 t556 => zbd (mX5_set 90 1000 (t556 52 15) (-1) t556) fun r558 t559 => zbd (mX5_set 92 1000 (t559 52 15) (-1) t559) fun r561 t562 => zbd (mX5_set 94 1000 (t562 52 15) 0 t562) fun r564 t565 => zbd (mX5_set 96 1000 (t565 52 15) 0 t565) fun r567 t568 => zbd (mX5_set 98 1000 (t568 52 15) (-1) t568) fun r570 t571 => zbd (mX5_set 100 1000 (t571 52 15) x3 t571) fun r573 t574 => zbd (mX5_set 104 1000 (t574 52 15) (-1) t574) fun r576 t577 => zbd (mX5_set 106 1000 (t577 52 15) 0 t577) fun r579 t580 => zpt t580 52 15 ((t580 52 15) + 1) fun t582 => some (((t582 52 15) - 1), t582)
set_option maxHeartbeats 4000000 in
set_option maxRecDepth 20000 in
theorem ctX9_add {E : zE} {f : Nat} (hf : 2 ≤ f) {x1 : Int32} {x2 : Int32} {x3 : Int32} {t : zS} {ro : Int32 × zS} (hF : mX9_add  x1 x2 x3 t = some ro) : zM E shC f yX9_add cX9_add 4 (some .int) [.ref (za E 52), .int x1, .int x2, .int x3] t ro := by
  refine zM_of (by decide) (Nat.le_of_ble_eq_true rfl) (fun C => ?_)
  show zJ E shC C cX9_add RX9 4 f (some .int) ro t 0 [(0, .ref (za E 52)), (1, .int x1), (2, .int x2), (3, .int x3)] []
  unfold mX9_add at hF
  refine z_aload_n 0 dX9_add_0 rfl rfl ?_
  refine z_getr fr_RX9_14 dX9_add_1 ?_
  refine z_aload_n 0 dX9_add_4 rfl rfl ?_
  refine z_geti fi_RX9_62 dX9_add_5 ?_
  refine z_iload_n 1 dX9_add_8 rfl rfl ?_
  obtain ⟨r552, t553, hc554, hF⟩ := zbd_at hF
  refine z_callVv (ctX5_set (E := E) (sh := shC) (f := f - 1) (by omega) (k := 86) (n := 1000) rfl rfl hc554) yy_X5_set yv_X5_set ob_C_86 lk_RX9_69 (by omega) rfl rfl (Nat.le_of_ble_eq_true rfl) dX9_add_9 ?_
  refine z_aload_n 0 dX9_add_12 rfl rfl ?_
  refine z_getr fr_RX9_20 dX9_add_13 ?_
  refine z_aload_n 0 dX9_add_16 rfl rfl ?_
  refine z_geti fi_RX9_62 dX9_add_17 ?_
  refine z_iload_n 2 dX9_add_20 rfl rfl ?_
  obtain ⟨r555, t556, hc557, hF⟩ := zbd_at hF
  refine z_callVv (ctX5_set (E := E) (sh := shC) (f := f - 1) (by omega) (k := 88) (n := 1000) rfl rfl hc557) yy_X5_set yv_X5_set ob_C_88 lk_RX9_69 (by omega) rfl rfl (Nat.le_of_ble_eq_true rfl) dX9_add_21 ?_
  refine z_aload_n 0 dX9_add_24 rfl rfl ?_
  refine z_getr fr_RX9_23 dX9_add_25 ?_
  refine z_aload_n 0 dX9_add_28 rfl rfl ?_
  refine z_geti fi_RX9_62 dX9_add_29 ?_
  refine z_iconst (v := (-1)) dX9_add_32 (by decide) ?_
  obtain ⟨r558, t559, hc560, hF⟩ := zbd_at hF
  refine z_callVv (ctX5_set (E := E) (sh := shC) (f := f - 1) (by omega) (k := 90) (n := 1000) rfl rfl hc560) yy_X5_set yv_X5_set ob_C_90 lk_RX9_69 (by omega) rfl rfl (Nat.le_of_ble_eq_true rfl) dX9_add_33 ?_
  refine z_aload_n 0 dX9_add_36 rfl rfl ?_
  refine z_getr fr_RX9_26 dX9_add_37 ?_
  refine z_aload_n 0 dX9_add_40 rfl rfl ?_
  refine z_geti fi_RX9_62 dX9_add_41 ?_
  refine z_iconst (v := (-1)) dX9_add_44 (by decide) ?_
  obtain ⟨r561, t562, hc563, hF⟩ := zbd_at hF
  refine z_callVv (ctX5_set (E := E) (sh := shC) (f := f - 1) (by omega) (k := 92) (n := 1000) rfl rfl hc563) yy_X5_set yv_X5_set ob_C_92 lk_RX9_69 (by omega) rfl rfl (Nat.le_of_ble_eq_true rfl) dX9_add_45 ?_
  refine z_aload_n 0 dX9_add_48 rfl rfl ?_
  refine z_getr fr_RX9_29 dX9_add_49 ?_
  refine z_aload_n 0 dX9_add_52 rfl rfl ?_
  refine z_geti fi_RX9_62 dX9_add_53 ?_
  refine z_iconst (v := 0) dX9_add_56 (by decide) ?_
  obtain ⟨r564, t565, hc566, hF⟩ := zbd_at hF
  refine z_callVv (ctX5_set (E := E) (sh := shC) (f := f - 1) (by omega) (k := 94) (n := 1000) rfl rfl hc566) yy_X5_set yv_X5_set ob_C_94 lk_RX9_69 (by omega) rfl rfl (Nat.le_of_ble_eq_true rfl) dX9_add_57 ?_
  refine z_aload_n 0 dX9_add_60 rfl rfl ?_
  refine z_getr fr_RX9_32 dX9_add_61 ?_
  refine z_aload_n 0 dX9_add_64 rfl rfl ?_
  refine z_geti fi_RX9_62 dX9_add_65 ?_
  refine z_iconst (v := 0) dX9_add_68 (by decide) ?_
  obtain ⟨r567, t568, hc569, hF⟩ := zbd_at hF
  refine z_callVv (ctX5_set (E := E) (sh := shC) (f := f - 1) (by omega) (k := 96) (n := 1000) rfl rfl hc569) yy_X5_set yv_X5_set ob_C_96 lk_RX9_69 (by omega) rfl rfl (Nat.le_of_ble_eq_true rfl) dX9_add_69 ?_
  refine z_aload_n 0 dX9_add_72 rfl rfl ?_
  refine z_getr fr_RX9_35 dX9_add_73 ?_
  refine z_aload_n 0 dX9_add_76 rfl rfl ?_
  refine z_geti fi_RX9_62 dX9_add_77 ?_
  refine z_iconst (v := (-1)) dX9_add_80 (by decide) ?_
  obtain ⟨r570, t571, hc572, hF⟩ := zbd_at hF
  refine z_callVv (ctX5_set (E := E) (sh := shC) (f := f - 1) (by omega) (k := 98) (n := 1000) rfl rfl hc572) yy_X5_set yv_X5_set ob_C_98 lk_RX9_69 (by omega) rfl rfl (Nat.le_of_ble_eq_true rfl) dX9_add_81 ?_
  refine z_aload_n 0 dX9_add_84 rfl rfl ?_
  refine z_getr fr_RX9_38 dX9_add_85 ?_
  refine z_aload_n 0 dX9_add_88 rfl rfl ?_
  refine z_geti fi_RX9_62 dX9_add_89 ?_
  refine z_iload_n 3 dX9_add_92 rfl rfl ?_
  obtain ⟨r573, t574, hc575, hF⟩ := zbd_at hF
  refine z_callVv (ctX5_set (E := E) (sh := shC) (f := f - 1) (by omega) (k := 100) (n := 1000) rfl rfl hc575) yy_X5_set yv_X5_set ob_C_100 lk_RX9_69 (by omega) rfl rfl (Nat.le_of_ble_eq_true rfl) dX9_add_93 ?_
  refine z_aload_n 0 dX9_add_96 rfl rfl ?_
  refine z_getr fr_RX9_44 dX9_add_97 ?_
  refine z_aload_n 0 dX9_add_100 rfl rfl ?_
  refine z_geti fi_RX9_62 dX9_add_101 ?_
  refine z_iconst (v := (-1)) dX9_add_104 (by decide) ?_
  obtain ⟨r576, t577, hc578, hF⟩ := zbd_at hF
  refine z_callVv (ctX5_set (E := E) (sh := shC) (f := f - 1) (by omega) (k := 104) (n := 1000) rfl rfl hc578) yy_X5_set yv_X5_set ob_C_104 lk_RX9_69 (by omega) rfl rfl (Nat.le_of_ble_eq_true rfl) dX9_add_105 ?_
  refine z_aload_n 0 dX9_add_108 rfl rfl ?_
  refine z_getr fr_RX9_47 dX9_add_109 ?_
  refine z_aload_n 0 dX9_add_112 rfl rfl ?_
  refine z_geti fi_RX9_62 dX9_add_113 ?_
  refine z_iconst (v := 0) dX9_add_116 (by decide) ?_
  obtain ⟨r579, t580, hc581, hF⟩ := zbd_at hF
  refine z_callVv (ctX5_set (E := E) (sh := shC) (f := f - 1) (by omega) (k := 106) (n := 1000) rfl rfl hc581) yy_X5_set yv_X5_set ob_C_106 lk_RX9_69 (by omega) rfl rfl (Nat.le_of_ble_eq_true rfl) dX9_add_117 ?_
  refine z_aload_n 0 dX9_add_120 rfl rfl ?_
  refine z_dup dX9_add_121 rfl ?_
  refine z_geti fi_RX9_62 dX9_add_122 ?_
  refine z_iconst (v := 1) dX9_add_125 (by decide) ?_
  refine z_iadd dX9_add_126 ?_
  refine z_puti fw_RX9_62 dX9_add_127 (fun t582 et582 => ?_)
  have hF := zpt_at hF t582 et582
  refine z_aload_n 0 dX9_add_130 rfl rfl ?_
  refine z_geti fi_RX9_62 dX9_add_131 ?_
  refine z_iconst (v := 1) dX9_add_134 (by decide) ?_
  refine z_isub dX9_add_135 ?_
  exact z_iret hF dX9_add_136
-- SessionHouse$Words.kindAt(I)I
theorem dX10_kindAt_0 : decode cX10_kindAt 0 = .ok (.iload_n 1, 1) := by decide +kernel
theorem dX10_kindAt_1 : decode cX10_kindAt 1 = .ok (.ifCond .lt 33, 3) := by decide +kernel
theorem dX10_kindAt_4 : decode cX10_kindAt 4 = .ok (.iload_n 1, 1) := by decide +kernel
theorem dX10_kindAt_5 : decode cX10_kindAt 5 = .ok (.aload_n 0, 1) := by decide +kernel
theorem dX10_kindAt_6 : decode cX10_kindAt 6 = .ok (.getfield 58, 3) := by decide +kernel
theorem dX10_kindAt_9 : decode cX10_kindAt 9 = .ok (.if_icmp .ge 25, 3) := by decide +kernel
theorem dX10_kindAt_12 : decode cX10_kindAt 12 = .ok (.iconst 3, 1) := by decide +kernel
theorem dX10_kindAt_13 : decode cX10_kindAt 13 = .ok (.iload_n 1, 1) := by decide +kernel
theorem dX10_kindAt_14 : decode cX10_kindAt 14 = .ok (.imul, 1) := by decide +kernel
theorem dX10_kindAt_15 : decode cX10_kindAt 15 = .ok (.aload_n 0, 1) := by decide +kernel
theorem dX10_kindAt_16 : decode cX10_kindAt 16 = .ok (.getfield 9, 3) := by decide +kernel
theorem dX10_kindAt_19 : decode cX10_kindAt 19 = .ok (.arraylength, 1) := by decide +kernel
theorem dX10_kindAt_20 : decode cX10_kindAt 20 = .ok (.if_icmp .ge 14, 3) := by decide +kernel
theorem dX10_kindAt_23 : decode cX10_kindAt 23 = .ok (.aload_n 0, 1) := by decide +kernel
theorem dX10_kindAt_24 : decode cX10_kindAt 24 = .ok (.getfield 9, 3) := by decide +kernel
theorem dX10_kindAt_27 : decode cX10_kindAt 27 = .ok (.iconst 3, 1) := by decide +kernel
theorem dX10_kindAt_28 : decode cX10_kindAt 28 = .ok (.iload_n 1, 1) := by decide +kernel
theorem dX10_kindAt_29 : decode cX10_kindAt 29 = .ok (.imul, 1) := by decide +kernel
theorem dX10_kindAt_30 : decode cX10_kindAt 30 = .ok (.iaload, 1) := by decide +kernel
theorem dX10_kindAt_31 : decode cX10_kindAt 31 = .ok (.goto 5, 3) := by decide +kernel
theorem dX10_kindAt_34 : decode cX10_kindAt 34 = .ok (.bipush 19, 2) := by decide +kernel
theorem dX10_kindAt_36 : decode cX10_kindAt 36 = .ok (.ireturn, 1) := by decide +kernel
def mX10_kindAt (x1 : Int32) (t : zS) : zR := if x1 < 0 then some (19, t) else if (t 50 4) ≤ x1 then some (19, t) else if 9003 ≤ (3 * x1) then some (19, t) else zrd t 67 9003 (3 * x1) fun v583 => some (v583, t)
set_option maxHeartbeats 4000000 in
set_option maxRecDepth 20000 in
theorem ctX10_kindAt {E : zE} {f : Nat} (hf : 6 ≤ f) {x1 : Int32} {t : zS} {ro : Int32 × zS} (hF : mX10_kindAt  x1 t = some ro) : zM E shC f yX10_kindAt cX10_kindAt 2 (some .int) [.ref (za E 50), .int x1] t ro := by
  refine zM_of (by decide) (Nat.le_of_ble_eq_true rfl) (fun C => ?_)
  show zJ E shC C cX10_kindAt RX10 2 f (some .int) ro t 0 [(0, .ref (za E 50)), (1, .int x1)] []
  unfold mX10_kindAt at hF
  refine z_iload_n 1 dX10_kindAt_0 rfl rfl ?_
  refine z_if_lt (tgt := 34) dX10_kindAt_1 (by decide) (fun hc => ?_) (fun hc => ?_)
  · have hF := zif_t hc hF
    refine z_bipush (v := 19) dX10_kindAt_34 (by decide) ?_
    exact z_iret hF dX10_kindAt_36
  · have hF := zif_f hc hF
    refine z_iload_n 1 dX10_kindAt_4 rfl rfl ?_
    refine z_aload_n 0 dX10_kindAt_5 rfl rfl ?_
    refine z_geti fi_RX10_58 dX10_kindAt_6 ?_
    refine z_icmp_ge (tgt := 34) dX10_kindAt_9 (by decide) (fun hc => ?_) (fun hc => ?_)
    · have hF := zif_t hc hF
      refine z_bipush (v := 19) dX10_kindAt_34 (by decide) ?_
      exact z_iret hF dX10_kindAt_36
    · have hF := zif_f hc hF
      refine z_iconst (v := 3) dX10_kindAt_12 (by decide) ?_
      refine z_iload_n 1 dX10_kindAt_13 rfl rfl ?_
      refine z_imul dX10_kindAt_14 ?_
      refine z_aload_n 0 dX10_kindAt_15 rfl rfl ?_
      refine z_getr fr_RX10_9 dX10_kindAt_16 ?_
      refine z_alen (n := 9003) (v := 9003) rfl rfl (by decide) dX10_kindAt_19 ?_
      refine z_icmp_ge (tgt := 34) dX10_kindAt_20 (by decide) (fun hc => ?_) (fun hc => ?_)
      · have hF := zif_t hc hF
        refine z_bipush (v := 19) dX10_kindAt_34 (by decide) ?_
        exact z_iret hF dX10_kindAt_36
      · have hF := zif_f hc hF
        refine z_aload_n 0 dX10_kindAt_23 rfl rfl ?_
        refine z_getr fr_RX10_9 dX10_kindAt_24 ?_
        refine z_iconst (v := 3) dX10_kindAt_27 (by decide) ?_
        refine z_iload_n 1 dX10_kindAt_28 rfl rfl ?_
        refine z_imul dX10_kindAt_29 ?_
        obtain ⟨hi584, hF⟩ := zrd_at hF
        refine z_iald (n := 9003) rfl hi584 dX10_kindAt_30 ?_
        generalize t 67 (Int32.toNatClampNeg (3 * x1)) = v583 at hF ⊢
        refine z_goto (tgt := 36) dX10_kindAt_31 (by decide) ?_
        exact z_iret hF dX10_kindAt_36
-- SessionHouse$Reader.readSlot(I)V
theorem dX7_readSlot_0 : decode cX7_readSlot 0 = .ok (.aload_n 0, 1) := by decide +kernel
theorem dX7_readSlot_1 : decode cX7_readSlot 1 = .ok (.getfield 80, 3) := by decide +kernel
theorem dX7_readSlot_4 : decode cX7_readSlot 4 = .ok (.bipush 17, 2) := by decide +kernel
theorem dX7_readSlot_6 : decode cX7_readSlot 6 = .ok (.if_icmp .eq 8, 3) := by decide +kernel
theorem dX7_readSlot_9 : decode cX7_readSlot 9 = .ok (.aload_n 0, 1) := by decide +kernel
theorem dX7_readSlot_10 : decode cX7_readSlot 10 = .ok (.invokevirtual 89, 3) := by decide +kernel
theorem dX7_readSlot_13 : decode cX7_readSlot 13 = .ok (.return_, 1) := by decide +kernel
theorem dX7_readSlot_14 : decode cX7_readSlot 14 = .ok (.aload_n 0, 1) := by decide +kernel
theorem dX7_readSlot_15 : decode cX7_readSlot 15 = .ok (.getfield 38, 3) := by decide +kernel
theorem dX7_readSlot_18 : decode cX7_readSlot 18 = .ok (.getfield 235, 3) := by decide +kernel
theorem dX7_readSlot_21 : decode cX7_readSlot 21 = .ok (.iload_n 1, 1) := by decide +kernel
theorem dX7_readSlot_22 : decode cX7_readSlot 22 = .ok (.aload_n 0, 1) := by decide +kernel
theorem dX7_readSlot_23 : decode cX7_readSlot 23 = .ok (.getfield 42, 3) := by decide +kernel
theorem dX7_readSlot_26 : decode cX7_readSlot 26 = .ok (.aload_n 0, 1) := by decide +kernel
theorem dX7_readSlot_27 : decode cX7_readSlot 27 = .ok (.getfield 121, 3) := by decide +kernel
theorem dX7_readSlot_30 : decode cX7_readSlot 30 = .ok (.invokevirtual 197, 3) := by decide +kernel
theorem dX7_readSlot_33 : decode cX7_readSlot 33 = .ok (.invokevirtual 127, 3) := by decide +kernel
theorem dX7_readSlot_36 : decode cX7_readSlot 36 = .ok (.aload_n 0, 1) := by decide +kernel
theorem dX7_readSlot_37 : decode cX7_readSlot 37 = .ok (.invokevirtual 77, 3) := by decide +kernel
theorem dX7_readSlot_40 : decode cX7_readSlot 40 = .ok (.return_, 1) := by decide +kernel
def mX7_readSlot (x1 : Int32) (t : zS) : zR := if (t 5 9) = 17 then zbd (mX6_slotFor (t 5 11) t) fun r585 t586 => zbd (mX5_set 90 1000 x1 r585 t586) fun r588 t589 => zbd (mX7_step  t589) fun r591 t592 => some (0, t592) else zbd (mX7_refuse  t) fun r594 t595 => some (0, t595)
set_option maxHeartbeats 4000000 in
set_option maxRecDepth 20000 in
theorem ctX7_readSlot {E : zE} {f : Nat} (hf : 3 ≤ f) {x1 : Int32} {t : zS} {ro : Int32 × zS} (hF : mX7_readSlot  x1 t = some ro) : zM E shC f yX7_readSlot cX7_readSlot 2 none [.ref (za E 5), .int x1] t ro := by
  refine zM_of (by decide) (Nat.le_of_ble_eq_true rfl) (fun C => ?_)
  show zJ E shC C cX7_readSlot RX7 2 f none ro t 0 [(0, .ref (za E 5)), (1, .int x1)] []
  unfold mX7_readSlot at hF
  refine z_aload_n 0 dX7_readSlot_0 rfl rfl ?_
  refine z_geti fi_RX7_80 dX7_readSlot_1 ?_
  refine z_bipush (v := 17) dX7_readSlot_4 (by decide) ?_
  refine z_icmp_eq (tgt := 14) dX7_readSlot_6 (by decide) (fun hc => ?_) (fun hc => ?_)
  · have hF := zif_t hc hF
    refine z_aload_n 0 dX7_readSlot_14 rfl rfl ?_
    refine z_getr fr_RX7_38 dX7_readSlot_15 ?_
    refine z_getr fr_RX7_235 dX7_readSlot_18 ?_
    refine z_iload_n 1 dX7_readSlot_21 rfl rfl ?_
    refine z_aload_n 0 dX7_readSlot_22 rfl rfl ?_
    refine z_getr fr_RX7_42 dX7_readSlot_23 ?_
    refine z_aload_n 0 dX7_readSlot_26 rfl rfl ?_
    refine z_geti fi_RX7_121 dX7_readSlot_27 ?_
    obtain ⟨r585, t586, hc587, hF⟩ := zbd_at hF
    refine z_callVi (ctX6_slotFor (E := E) (f := f - 1) (by omega) hc587) yy_X6_slotFor yv_X6_slotFor ob_C_4 lk_RX7_197 (by omega) rfl rfl (Nat.le_of_ble_eq_true rfl) dX7_readSlot_30 ?_
    obtain ⟨r588, t589, hc590, hF⟩ := zbd_at hF
    refine z_callVv (ctX5_set (E := E) (sh := shC) (f := f - 1) (by omega) (k := 90) (n := 1000) rfl rfl hc590) yy_X5_set yv_X5_set ob_C_90 lk_RX7_127 (by omega) rfl rfl (Nat.le_of_ble_eq_true rfl) dX7_readSlot_33 ?_
    refine z_aload_n 0 dX7_readSlot_36 rfl rfl ?_
    obtain ⟨r591, t592, hc593, hF⟩ := zbd_at hF
    refine z_callVv (ctX7_step (E := E) (f := f - 1) (by omega) hc593) yy_X7_step yv_X7_step ob_C_5 lk_RX7_77 (by omega) rfl rfl (Nat.le_of_ble_eq_true rfl) dX7_readSlot_37 ?_
    exact z_vret hF dX7_readSlot_40
  · have hF := zif_f hc hF
    refine z_aload_n 0 dX7_readSlot_9 rfl rfl ?_
    obtain ⟨r594, t595, hc596, hF⟩ := zbd_at hF
    refine z_callVv (ctX7_refuse (E := E) (f := f - 1) (by omega) hc596) yy_X7_refuse yv_X7_refuse ob_C_5 lk_RX7_89 (by omega) rfl rfl (Nat.le_of_ble_eq_true rfl) dX7_readSlot_10 ?_
    exact z_vret hF dX7_readSlot_13
-- SessionHouse$Formulas.add(II)V
theorem dX3_add_0 : decode cX3_add 0 = .ok (.aload_n 0, 1) := by decide +kernel
theorem dX3_add_1 : decode cX3_add 1 = .ok (.getfield 14, 3) := by decide +kernel
theorem dX3_add_4 : decode cX3_add 4 = .ok (.aload_n 0, 1) := by decide +kernel
theorem dX3_add_5 : decode cX3_add 5 = .ok (.getfield 35, 3) := by decide +kernel
theorem dX3_add_8 : decode cX3_add 8 = .ok (.iload_n 1, 1) := by decide +kernel
theorem dX3_add_9 : decode cX3_add 9 = .ok (.invokevirtual 42, 3) := by decide +kernel
theorem dX3_add_12 : decode cX3_add 12 = .ok (.aload_n 0, 1) := by decide +kernel
theorem dX3_add_13 : decode cX3_add 13 = .ok (.getfield 20, 3) := by decide +kernel
theorem dX3_add_16 : decode cX3_add 16 = .ok (.aload_n 0, 1) := by decide +kernel
theorem dX3_add_17 : decode cX3_add 17 = .ok (.getfield 35, 3) := by decide +kernel
theorem dX3_add_20 : decode cX3_add 20 = .ok (.iload_n 2, 1) := by decide +kernel
theorem dX3_add_21 : decode cX3_add 21 = .ok (.invokevirtual 42, 3) := by decide +kernel
theorem dX3_add_24 : decode cX3_add 24 = .ok (.aload_n 0, 1) := by decide +kernel
theorem dX3_add_25 : decode cX3_add 25 = .ok (.dup, 1) := by decide +kernel
theorem dX3_add_26 : decode cX3_add 26 = .ok (.getfield 35, 3) := by decide +kernel
theorem dX3_add_29 : decode cX3_add 29 = .ok (.iconst 1, 1) := by decide +kernel
theorem dX3_add_30 : decode cX3_add 30 = .ok (.iadd, 1) := by decide +kernel
theorem dX3_add_31 : decode cX3_add 31 = .ok (.putfield 35, 3) := by decide +kernel
theorem dX3_add_34 : decode cX3_add 34 = .ok (.return_, 1) := by decide +kernel
def mX3_add (x1 : Int32) (x2 : Int32) (t : zS) : zR := zbd (mX5_set 74 3000 (t 51 6) x1 t) fun r597 t598 => zbd (mX5_set 76 3000 (t598 51 6) x2 t598) fun r600 t601 => zpt t601 51 6 ((t601 51 6) + 1) fun t603 => some (0, t603)
set_option maxHeartbeats 4000000 in
set_option maxRecDepth 20000 in
theorem ctX3_add {E : zE} {f : Nat} (hf : 2 ≤ f) {x1 : Int32} {x2 : Int32} {t : zS} {ro : Int32 × zS} (hF : mX3_add  x1 x2 t = some ro) : zM E shC f yX3_add cX3_add 3 none [.ref (za E 51), .int x1, .int x2] t ro := by
  refine zM_of (by decide) (Nat.le_of_ble_eq_true rfl) (fun C => ?_)
  show zJ E shC C cX3_add RX3 3 f none ro t 0 [(0, .ref (za E 51)), (1, .int x1), (2, .int x2)] []
  unfold mX3_add at hF
  refine z_aload_n 0 dX3_add_0 rfl rfl ?_
  refine z_getr fr_RX3_14 dX3_add_1 ?_
  refine z_aload_n 0 dX3_add_4 rfl rfl ?_
  refine z_geti fi_RX3_35 dX3_add_5 ?_
  refine z_iload_n 1 dX3_add_8 rfl rfl ?_
  obtain ⟨r597, t598, hc599, hF⟩ := zbd_at hF
  refine z_callVv (ctX5_set (E := E) (sh := shC) (f := f - 1) (by omega) (k := 74) (n := 3000) rfl rfl hc599) yy_X5_set yv_X5_set ob_C_74 lk_RX3_42 (by omega) rfl rfl (Nat.le_of_ble_eq_true rfl) dX3_add_9 ?_
  refine z_aload_n 0 dX3_add_12 rfl rfl ?_
  refine z_getr fr_RX3_20 dX3_add_13 ?_
  refine z_aload_n 0 dX3_add_16 rfl rfl ?_
  refine z_geti fi_RX3_35 dX3_add_17 ?_
  refine z_iload_n 2 dX3_add_20 rfl rfl ?_
  obtain ⟨r600, t601, hc602, hF⟩ := zbd_at hF
  refine z_callVv (ctX5_set (E := E) (sh := shC) (f := f - 1) (by omega) (k := 76) (n := 3000) rfl rfl hc602) yy_X5_set yv_X5_set ob_C_76 lk_RX3_42 (by omega) rfl rfl (Nat.le_of_ble_eq_true rfl) dX3_add_21 ?_
  refine z_aload_n 0 dX3_add_24 rfl rfl ?_
  refine z_dup dX3_add_25 rfl ?_
  refine z_geti fi_RX3_35 dX3_add_26 ?_
  refine z_iconst (v := 1) dX3_add_29 (by decide) ?_
  refine z_iadd dX3_add_30 ?_
  refine z_puti fw_RX3_35 dX3_add_31 (fun t603 et603 => ?_)
  have hF := zpt_at hF t603 et603
  exact z_vret hF dX3_add_34
abbrev GgX7_readExpression : Type := (zS → zR) × (zS → zR) × (zS → zR) × (zS → zR)
def HgX7_readExpression (E : zE) (f : Nat) (g : GgX7_readExpression) : Prop := (∀ (t : zS) (ro : Int32 × zS), g.1  t = some ro → zM E shC f yX7_readExpression cX7_readExpression 2 none [.ref (za E 5)] t ro) ∧ (∀ (t : zS) (ro : Int32 × zS), g.2.1  t = some ro → zM E shC f yX7_readSum cX7_readSum 3 none [.ref (za E 5)] t ro) ∧ (∀ (t : zS) (ro : Int32 × zS), g.2.2.1  t = some ro → zM E shC f yX7_readProduct cX7_readProduct 3 none [.ref (za E 5)] t ro) ∧ (∀ (t : zS) (ro : Int32 × zS), g.2.2.2  t = some ro → zM E shC f yX7_readAtom cX7_readAtom 1 none [.ref (za E 5)] t ro)
theorem z_hgX7_readExpression {E : zE} {f : Nat} {g : GgX7_readExpression} (hg : HgX7_readExpression E f g) {t : zS} {ro : Int32 × zS} (h : g.1  t = some ro) : zM E shC f yX7_readExpression cX7_readExpression 2 none [.ref (za E 5)] t ro := hg.1  _ _ h
theorem z_hgX7_readSum {E : zE} {f : Nat} {g : GgX7_readExpression} (hg : HgX7_readExpression E f g) {t : zS} {ro : Int32 × zS} (h : g.2.1  t = some ro) : zM E shC f yX7_readSum cX7_readSum 3 none [.ref (za E 5)] t ro := hg.2.1  _ _ h
theorem z_hgX7_readProduct {E : zE} {f : Nat} {g : GgX7_readExpression} (hg : HgX7_readExpression E f g) {t : zS} {ro : Int32 × zS} (h : g.2.2.1  t = some ro) : zM E shC f yX7_readProduct cX7_readProduct 3 none [.ref (za E 5)] t ro := hg.2.2.1  _ _ h
theorem z_hgX7_readAtom {E : zE} {f : Nat} {g : GgX7_readExpression} (hg : HgX7_readExpression E f g) {t : zS} {ro : Int32 × zS} (h : g.2.2.2  t = some ro) : zM E shC f yX7_readAtom cX7_readAtom 1 none [.ref (za E 5)] t ro := hg.2.2.2  _ _ h
-- SessionHouse$Reader.readExpression()V
theorem dX7_readExpression_0 : decode cX7_readExpression 0 = .ok (.aload_n 0, 1) := by decide +kernel
theorem dX7_readExpression_1 : decode cX7_readExpression 1 = .ok (.invokevirtual 265, 3) := by decide +kernel
theorem dX7_readExpression_4 : decode cX7_readExpression 4 = .ok (.aload_n 0, 1) := by decide +kernel
theorem dX7_readExpression_5 : decode cX7_readExpression 5 = .ok (.getfield 80, 3) := by decide +kernel
theorem dX7_readExpression_8 : decode cX7_readExpression 8 = .ok (.bipush 60, 2) := by decide +kernel
theorem dX7_readExpression_10 : decode cX7_readExpression 10 = .ok (.if_icmp .eq 13, 3) := by decide +kernel
theorem dX7_readExpression_13 : decode cX7_readExpression 13 = .ok (.aload_n 0, 1) := by decide +kernel
theorem dX7_readExpression_14 : decode cX7_readExpression 14 = .ok (.getfield 80, 3) := by decide +kernel
theorem dX7_readExpression_17 : decode cX7_readExpression 17 = .ok (.sipush 256, 3) := by decide +kernel
theorem dX7_readExpression_20 : decode cX7_readExpression 20 = .ok (.if_icmp .ne 25, 3) := by decide +kernel
theorem dX7_readExpression_23 : decode cX7_readExpression 23 = .ok (.aload_n 0, 1) := by decide +kernel
theorem dX7_readExpression_24 : decode cX7_readExpression 24 = .ok (.getfield 80, 3) := by decide +kernel
theorem dX7_readExpression_27 : decode cX7_readExpression 27 = .ok (.istore_n 1, 1) := by decide +kernel
theorem dX7_readExpression_28 : decode cX7_readExpression 28 = .ok (.aload_n 0, 1) := by decide +kernel
theorem dX7_readExpression_29 : decode cX7_readExpression 29 = .ok (.invokevirtual 77, 3) := by decide +kernel
theorem dX7_readExpression_32 : decode cX7_readExpression 32 = .ok (.aload_n 0, 1) := by decide +kernel
theorem dX7_readExpression_33 : decode cX7_readExpression 33 = .ok (.invokevirtual 265, 3) := by decide +kernel
theorem dX7_readExpression_36 : decode cX7_readExpression 36 = .ok (.aload_n 0, 1) := by decide +kernel
theorem dX7_readExpression_37 : decode cX7_readExpression 37 = .ok (.getfield 34, 3) := by decide +kernel
theorem dX7_readExpression_40 : decode cX7_readExpression 40 = .ok (.iload_n 1, 1) := by decide +kernel
theorem dX7_readExpression_41 : decode cX7_readExpression 41 = .ok (.iconst 0, 1) := by decide +kernel
theorem dX7_readExpression_42 : decode cX7_readExpression 42 = .ok (.invokevirtual 268, 3) := by decide +kernel
theorem dX7_readExpression_45 : decode cX7_readExpression 45 = .ok (.return_, 1) := by decide +kernel
def bX7_readExpression_23 (g : GgX7_readExpression) (t : zS) : zR := zlet (t 5 9) fun v604 => zbd (mX7_step  t) fun r605 t606 => zbd (g.2.1  t606) fun r608 t609 => zbd (mX3_add v604 0 t609) fun r611 t612 => some (0, t612)
def mX7_readExpression (g : GgX7_readExpression) (t : zS) : zR := zbd (g.2.1  t) fun r614 t615 => if (t615 5 9) = 60 then bX7_readExpression_23 g  t615 else if (t615 5 9) = 256 then bX7_readExpression_23 g  t615 else some (0, t615)
set_option maxHeartbeats 4000000 in
set_option maxRecDepth 20000 in
theorem wbX7_readExpression_23 {E : zE} {C : zC} {f : Nat} {ro : Int32 × zS} (hf : 3 ≤ f) {g : GgX7_readExpression} (hg : HgX7_readExpression E (f - 1) g) (t : zS) (hF : bX7_readExpression_23 g  t = some ro) : zJ E shC C cX7_readExpression RX7 2 f none ro t 23 [(0, .ref (za E 5))] [] := by
  unfold bX7_readExpression_23 at hF
  refine z_aload_n 0 dX7_readExpression_23 rfl rfl ?_
  refine z_geti fi_RX7_80 dX7_readExpression_24 ?_
  refine z_topi (fun v604 ev604 => ?_)
  have hF := zlet_at ev604 hF
  refine z_istore_n (lv' := [(1, .int v604), (0, .ref (za E 5))]) dX7_readExpression_27 rfl (by decide) rfl ?_
  refine z_aload_n 1 dX7_readExpression_28 rfl rfl ?_
  obtain ⟨r605, t606, hc607, hF⟩ := zbd_at hF
  refine z_callVv (ctX7_step (E := E) (f := f - 1) (by omega) hc607) yy_X7_step yv_X7_step ob_C_5 lk_RX7_77 (by omega) rfl rfl (Nat.le_of_ble_eq_true rfl) dX7_readExpression_29 ?_
  refine z_aload_n 1 dX7_readExpression_32 rfl rfl ?_
  obtain ⟨r608, t609, hc610, hF⟩ := zbd_at hF
  refine z_callVv (z_hgX7_readSum hg hc610) yy_X7_readSum yv_X7_readSum ob_C_5 lk_RX7_265 (by omega) rfl rfl (Nat.le_of_ble_eq_true rfl) dX7_readExpression_33 ?_
  refine z_aload_n 1 dX7_readExpression_36 rfl rfl ?_
  refine z_getr fr_RX7_34 dX7_readExpression_37 ?_
  refine z_iload_n 0 dX7_readExpression_40 rfl rfl ?_
  refine z_iconst (v := 0) dX7_readExpression_41 (by decide) ?_
  obtain ⟨r611, t612, hc613, hF⟩ := zbd_at hF
  refine z_callVv (ctX3_add (E := E) (f := f - 1) (by omega) hc613) yy_X3_add yv_X3_add ob_C_51 lk_RX7_268 (by omega) rfl rfl (Nat.le_of_ble_eq_true rfl) dX7_readExpression_42 ?_
  exact z_vret hF dX7_readExpression_45
set_option maxHeartbeats 4000000 in
set_option maxRecDepth 20000 in
theorem ctX7_readExpression {E : zE} {f : Nat} (hf : 3 ≤ f) {g : GgX7_readExpression} (hg : HgX7_readExpression E (f - 1) g) {t : zS} {ro : Int32 × zS} (hF : mX7_readExpression g  t = some ro) : zM E shC f yX7_readExpression cX7_readExpression 2 none [.ref (za E 5)] t ro := by
  refine zM_of (by decide) (Nat.le_of_ble_eq_true rfl) (fun C => ?_)
  show zJ E shC C cX7_readExpression RX7 2 f none ro t 0 [(0, .ref (za E 5))] []
  unfold mX7_readExpression at hF
  refine z_aload_n 0 dX7_readExpression_0 rfl rfl ?_
  obtain ⟨r614, t615, hc616, hF⟩ := zbd_at hF
  refine z_callVv (z_hgX7_readSum hg hc616) yy_X7_readSum yv_X7_readSum ob_C_5 lk_RX7_265 (by omega) rfl rfl (Nat.le_of_ble_eq_true rfl) dX7_readExpression_1 ?_
  refine z_aload_n 0 dX7_readExpression_4 rfl rfl ?_
  refine z_geti fi_RX7_80 dX7_readExpression_5 ?_
  refine z_bipush (v := 60) dX7_readExpression_8 (by decide) ?_
  refine z_icmp_eq (tgt := 23) dX7_readExpression_10 (by decide) (fun hc => ?_) (fun hc => ?_)
  · have hF := zif_t hc hF
    exact wbX7_readExpression_23 hf hg  _ hF
  · have hF := zif_f hc hF
    refine z_aload_n 0 dX7_readExpression_13 rfl rfl ?_
    refine z_geti fi_RX7_80 dX7_readExpression_14 ?_
    refine z_sipush (v := 256) dX7_readExpression_17 (by decide) ?_
    refine z_icmp_ne (tgt := 45) dX7_readExpression_20 (by decide) (fun hc => ?_) (fun hc => ?_)
    · have hF := zif_f hc hF
      exact z_vret hF dX7_readExpression_45
    · have hF := zif_t hc hF
      exact wbX7_readExpression_23 hf hg  _ hF
-- SessionHouse$Reader.readSum()V
theorem dX7_readSum_0 : decode cX7_readSum 0 = .ok (.aload_n 0, 1) := by decide +kernel
theorem dX7_readSum_1 : decode cX7_readSum 1 = .ok (.invokevirtual 270, 3) := by decide +kernel
theorem dX7_readSum_4 : decode cX7_readSum 4 = .ok (.iconst 0, 1) := by decide +kernel
theorem dX7_readSum_5 : decode cX7_readSum 5 = .ok (.istore_n 1, 1) := by decide +kernel
theorem dX7_readSum_6 : decode cX7_readSum 6 = .ok (.iload_n 1, 1) := by decide +kernel
theorem dX7_readSum_7 : decode cX7_readSum 7 = .ok (.sipush 3000, 3) := by decide +kernel
theorem dX7_readSum_10 : decode cX7_readSum 10 = .ok (.if_icmp .ge 49, 3) := by decide +kernel
theorem dX7_readSum_13 : decode cX7_readSum 13 = .ok (.aload_n 0, 1) := by decide +kernel
theorem dX7_readSum_14 : decode cX7_readSum 14 = .ok (.getfield 80, 3) := by decide +kernel
theorem dX7_readSum_17 : decode cX7_readSum 17 = .ok (.bipush 43, 2) := by decide +kernel
theorem dX7_readSum_19 : decode cX7_readSum 19 = .ok (.if_icmp .eq 12, 3) := by decide +kernel
theorem dX7_readSum_22 : decode cX7_readSum 22 = .ok (.aload_n 0, 1) := by decide +kernel
theorem dX7_readSum_23 : decode cX7_readSum 23 = .ok (.getfield 80, 3) := by decide +kernel
theorem dX7_readSum_26 : decode cX7_readSum 26 = .ok (.bipush 45, 2) := by decide +kernel
theorem dX7_readSum_28 : decode cX7_readSum 28 = .ok (.if_icmp .ne 31, 3) := by decide +kernel
theorem dX7_readSum_31 : decode cX7_readSum 31 = .ok (.aload_n 0, 1) := by decide +kernel
theorem dX7_readSum_32 : decode cX7_readSum 32 = .ok (.getfield 80, 3) := by decide +kernel
theorem dX7_readSum_35 : decode cX7_readSum 35 = .ok (.istore_n 2, 1) := by decide +kernel
theorem dX7_readSum_36 : decode cX7_readSum 36 = .ok (.aload_n 0, 1) := by decide +kernel
theorem dX7_readSum_37 : decode cX7_readSum 37 = .ok (.invokevirtual 77, 3) := by decide +kernel
theorem dX7_readSum_40 : decode cX7_readSum 40 = .ok (.aload_n 0, 1) := by decide +kernel
theorem dX7_readSum_41 : decode cX7_readSum 41 = .ok (.invokevirtual 270, 3) := by decide +kernel
theorem dX7_readSum_44 : decode cX7_readSum 44 = .ok (.aload_n 0, 1) := by decide +kernel
theorem dX7_readSum_45 : decode cX7_readSum 45 = .ok (.getfield 34, 3) := by decide +kernel
theorem dX7_readSum_48 : decode cX7_readSum 48 = .ok (.iload_n 2, 1) := by decide +kernel
theorem dX7_readSum_49 : decode cX7_readSum 49 = .ok (.iconst 0, 1) := by decide +kernel
theorem dX7_readSum_50 : decode cX7_readSum 50 = .ok (.invokevirtual 268, 3) := by decide +kernel
theorem dX7_readSum_53 : decode cX7_readSum 53 = .ok (.iinc 1 1, 3) := by decide +kernel
theorem dX7_readSum_56 : decode cX7_readSum 56 = .ok (.goto (-50), 3) := by decide +kernel
theorem dX7_readSum_59 : decode cX7_readSum 59 = .ok (.return_, 1) := by decide +kernel
def bX7_readSum_31 (g : GgX7_readExpression) (k6 : Int32 → zS → zR) (x1 : Int32) (t : zS) : zR := zlet (t 5 9) fun v617 => zbd (mX7_step  t) fun r618 t619 => zbd (g.2.2.1  t619) fun r621 t622 => zbd (mX3_add v617 0 t622) fun r624 t625 => zlet (x1 + 1) fun v627 => k6 v627 t625
def bX7_readSum_6 (g : GgX7_readExpression) (k6 : Int32 → zS → zR) (x1 : Int32) (t : zS) : zR := if 3000 ≤ x1 then some (0, t) else if (t 5 9) = 43 then bX7_readSum_31 g k6 x1 t else if (t 5 9) = 45 then bX7_readSum_31 g k6 x1 t else some (0, t)
def lX7_readSum_6 (g : GgX7_readExpression) : Nat → Int32 → zS → zR
  | 0, _, _ => none
  | fu + 1, x1, t => bX7_readSum_6 g (lX7_readSum_6 g fu) x1 t
def mX7_readSum (g : GgX7_readExpression) (t : zS) : zR := zbd (g.2.2.1  t) fun r628 t629 => lX7_readSum_6 g zFU 0 t629
set_option maxHeartbeats 4000000 in
set_option maxRecDepth 20000 in
theorem wbX7_readSum_31 {E : zE} {C : zC} {f : Nat} {ro : Int32 × zS} (hf : 3 ≤ f) {g : GgX7_readExpression} (hg : HgX7_readExpression E (f - 1) g) (k6 : Int32 → zS → zR) (hk6 : ∀ (x1 : Int32) (t : zS), k6 x1 t = some ro → zJ E shC C cX7_readSum RX7 3 f none ro t 6 [(0, .ref (za E 5)), (1, .int x1)] []) (x1 : Int32) (t : zS) (hF : bX7_readSum_31 g k6 x1 t = some ro) : zJ E shC C cX7_readSum RX7 3 f none ro t 31 [(0, .ref (za E 5)), (1, .int x1)] [] := by
  unfold bX7_readSum_31 at hF
  refine z_aload_n 0 dX7_readSum_31 rfl rfl ?_
  refine z_geti fi_RX7_80 dX7_readSum_32 ?_
  refine z_topi (fun v617 ev617 => ?_)
  have hF := zlet_at ev617 hF
  refine z_istore_n (lv' := [(2, .int v617), (0, .ref (za E 5)), (1, .int x1)]) dX7_readSum_35 rfl (by decide) rfl ?_
  refine z_aload_n 1 dX7_readSum_36 rfl rfl ?_
  obtain ⟨r618, t619, hc620, hF⟩ := zbd_at hF
  refine z_callVv (ctX7_step (E := E) (f := f - 1) (by omega) hc620) yy_X7_step yv_X7_step ob_C_5 lk_RX7_77 (by omega) rfl rfl (Nat.le_of_ble_eq_true rfl) dX7_readSum_37 ?_
  refine z_aload_n 1 dX7_readSum_40 rfl rfl ?_
  obtain ⟨r621, t622, hc623, hF⟩ := zbd_at hF
  refine z_callVv (z_hgX7_readProduct hg hc623) yy_X7_readProduct yv_X7_readProduct ob_C_5 lk_RX7_270 (by omega) rfl rfl (Nat.le_of_ble_eq_true rfl) dX7_readSum_41 ?_
  refine z_aload_n 1 dX7_readSum_44 rfl rfl ?_
  refine z_getr fr_RX7_34 dX7_readSum_45 ?_
  refine z_iload_n 0 dX7_readSum_48 rfl rfl ?_
  refine z_iconst (v := 0) dX7_readSum_49 (by decide) ?_
  obtain ⟨r624, t625, hc626, hF⟩ := zbd_at hF
  refine z_callVv (ctX3_add (E := E) (f := f - 1) (by omega) hc626) yy_X3_add yv_X3_add ob_C_51 lk_RX7_268 (by omega) rfl rfl (Nat.le_of_ble_eq_true rfl) dX7_readSum_50 ?_
  obtain ⟨v627, ev627⟩ : ∃ y : Int32, y = (x1 + 1) := ⟨_, rfl⟩
  have hF := zlet_at ev627 hF
  refine z_iinc (v := v627) (lv' := [(1, .int v627), (2, .int v617), (0, .ref (za E 5))]) (k := 2) dX7_readSum_53 rfl (by rw [ev627]; rfl) (by decide) rfl ?_
  refine z_goto (tgt := 6) dX7_readSum_56 (by decide) ?_
  refine z_sub [2, 0] rfl ?_
  exact hk6 v627 _ hF
set_option maxHeartbeats 4000000 in
set_option maxRecDepth 20000 in
theorem wbX7_readSum_6 {E : zE} {C : zC} {f : Nat} {ro : Int32 × zS} (hf : 3 ≤ f) {g : GgX7_readExpression} (hg : HgX7_readExpression E (f - 1) g) (k6 : Int32 → zS → zR) (hk6 : ∀ (x1 : Int32) (t : zS), k6 x1 t = some ro → zJ E shC C cX7_readSum RX7 3 f none ro t 6 [(0, .ref (za E 5)), (1, .int x1)] []) (x1 : Int32) (t : zS) (hF : bX7_readSum_6 g k6 x1 t = some ro) : zJ E shC C cX7_readSum RX7 3 f none ro t 6 [(0, .ref (za E 5)), (1, .int x1)] [] := by
  unfold bX7_readSum_6 at hF
  refine z_iload_n 1 dX7_readSum_6 rfl rfl ?_
  refine z_sipush (v := 3000) dX7_readSum_7 (by decide) ?_
  refine z_icmp_ge (tgt := 59) dX7_readSum_10 (by decide) (fun hc => ?_) (fun hc => ?_)
  · have hF := zif_t hc hF
    exact z_vret hF dX7_readSum_59
  · have hF := zif_f hc hF
    refine z_aload_n 0 dX7_readSum_13 rfl rfl ?_
    refine z_geti fi_RX7_80 dX7_readSum_14 ?_
    refine z_bipush (v := 43) dX7_readSum_17 (by decide) ?_
    refine z_icmp_eq (tgt := 31) dX7_readSum_19 (by decide) (fun hc => ?_) (fun hc => ?_)
    · have hF := zif_t hc hF
      exact wbX7_readSum_31 hf hg k6 hk6 x1 _ hF
    · have hF := zif_f hc hF
      refine z_aload_n 0 dX7_readSum_22 rfl rfl ?_
      refine z_geti fi_RX7_80 dX7_readSum_23 ?_
      refine z_bipush (v := 45) dX7_readSum_26 (by decide) ?_
      refine z_icmp_ne (tgt := 59) dX7_readSum_28 (by decide) (fun hc => ?_) (fun hc => ?_)
      · have hF := zif_f hc hF
        exact z_vret hF dX7_readSum_59
      · have hF := zif_t hc hF
        exact wbX7_readSum_31 hf hg k6 hk6 x1 _ hF
set_option maxHeartbeats 4000000 in
set_option maxRecDepth 20000 in
theorem wlX7_readSum_6 {E : zE} {C : zC} {f : Nat} {ro : Int32 × zS} (hf : 3 ≤ f) {g : GgX7_readExpression} (hg : HgX7_readExpression E (f - 1) g) (fu : Nat) : ∀ (x1 : Int32) (t : zS), lX7_readSum_6 g fu x1 t = some ro → zJ E shC C cX7_readSum RX7 3 f none ro t 6 [(0, .ref (za E 5)), (1, .int x1)] [] := by
  induction fu with
  | zero => intro x1 t hF; cases hF
  | succ fu ih => intro x1 t hF; exact wbX7_readSum_6 hf hg (lX7_readSum_6 g fu) ih x1 t hF
set_option maxHeartbeats 4000000 in
set_option maxRecDepth 20000 in
theorem ctX7_readSum {E : zE} {f : Nat} (hf : 3 ≤ f) {g : GgX7_readExpression} (hg : HgX7_readExpression E (f - 1) g) {t : zS} {ro : Int32 × zS} (hF : mX7_readSum g  t = some ro) : zM E shC f yX7_readSum cX7_readSum 3 none [.ref (za E 5)] t ro := by
  refine zM_of (by decide) (Nat.le_of_ble_eq_true rfl) (fun C => ?_)
  show zJ E shC C cX7_readSum RX7 3 f none ro t 0 [(0, .ref (za E 5))] []
  unfold mX7_readSum at hF
  refine z_aload_n 0 dX7_readSum_0 rfl rfl ?_
  obtain ⟨r628, t629, hc630, hF⟩ := zbd_at hF
  refine z_callVv (z_hgX7_readProduct hg hc630) yy_X7_readProduct yv_X7_readProduct ob_C_5 lk_RX7_270 (by omega) rfl rfl (Nat.le_of_ble_eq_true rfl) dX7_readSum_1 ?_
  refine z_iconst (v := 0) dX7_readSum_4 (by decide) ?_
  refine z_istore_n (lv' := [(1, .int 0), (0, .ref (za E 5))]) dX7_readSum_5 rfl (by decide) rfl ?_
  refine z_sub [1, 0] rfl ?_
  exact wlX7_readSum_6 hf hg zFU 0 _ hF
-- SessionHouse$Reader.readProduct()V
theorem dX7_readProduct_0 : decode cX7_readProduct 0 = .ok (.aload_n 0, 1) := by decide +kernel
theorem dX7_readProduct_1 : decode cX7_readProduct 1 = .ok (.invokevirtual 273, 3) := by decide +kernel
theorem dX7_readProduct_4 : decode cX7_readProduct 4 = .ok (.iconst 0, 1) := by decide +kernel
theorem dX7_readProduct_5 : decode cX7_readProduct 5 = .ok (.istore_n 1, 1) := by decide +kernel
theorem dX7_readProduct_6 : decode cX7_readProduct 6 = .ok (.iload_n 1, 1) := by decide +kernel
theorem dX7_readProduct_7 : decode cX7_readProduct 7 = .ok (.sipush 3000, 3) := by decide +kernel
theorem dX7_readProduct_10 : decode cX7_readProduct 10 = .ok (.if_icmp .ge 58, 3) := by decide +kernel
theorem dX7_readProduct_13 : decode cX7_readProduct 13 = .ok (.aload_n 0, 1) := by decide +kernel
theorem dX7_readProduct_14 : decode cX7_readProduct 14 = .ok (.getfield 80, 3) := by decide +kernel
theorem dX7_readProduct_17 : decode cX7_readProduct 17 = .ok (.bipush 42, 2) := by decide +kernel
theorem dX7_readProduct_19 : decode cX7_readProduct 19 = .ok (.if_icmp .eq 21, 3) := by decide +kernel
theorem dX7_readProduct_22 : decode cX7_readProduct 22 = .ok (.aload_n 0, 1) := by decide +kernel
theorem dX7_readProduct_23 : decode cX7_readProduct 23 = .ok (.getfield 80, 3) := by decide +kernel
theorem dX7_readProduct_26 : decode cX7_readProduct 26 = .ok (.bipush 47, 2) := by decide +kernel
theorem dX7_readProduct_28 : decode cX7_readProduct 28 = .ok (.if_icmp .eq 12, 3) := by decide +kernel
theorem dX7_readProduct_31 : decode cX7_readProduct 31 = .ok (.aload_n 0, 1) := by decide +kernel
theorem dX7_readProduct_32 : decode cX7_readProduct 32 = .ok (.getfield 80, 3) := by decide +kernel
theorem dX7_readProduct_35 : decode cX7_readProduct 35 = .ok (.bipush 37, 2) := by decide +kernel
theorem dX7_readProduct_37 : decode cX7_readProduct 37 = .ok (.if_icmp .ne 31, 3) := by decide +kernel
theorem dX7_readProduct_40 : decode cX7_readProduct 40 = .ok (.aload_n 0, 1) := by decide +kernel
theorem dX7_readProduct_41 : decode cX7_readProduct 41 = .ok (.getfield 80, 3) := by decide +kernel
theorem dX7_readProduct_44 : decode cX7_readProduct 44 = .ok (.istore_n 2, 1) := by decide +kernel
theorem dX7_readProduct_45 : decode cX7_readProduct 45 = .ok (.aload_n 0, 1) := by decide +kernel
theorem dX7_readProduct_46 : decode cX7_readProduct 46 = .ok (.invokevirtual 77, 3) := by decide +kernel
theorem dX7_readProduct_49 : decode cX7_readProduct 49 = .ok (.aload_n 0, 1) := by decide +kernel
theorem dX7_readProduct_50 : decode cX7_readProduct 50 = .ok (.invokevirtual 273, 3) := by decide +kernel
theorem dX7_readProduct_53 : decode cX7_readProduct 53 = .ok (.aload_n 0, 1) := by decide +kernel
theorem dX7_readProduct_54 : decode cX7_readProduct 54 = .ok (.getfield 34, 3) := by decide +kernel
theorem dX7_readProduct_57 : decode cX7_readProduct 57 = .ok (.iload_n 2, 1) := by decide +kernel
theorem dX7_readProduct_58 : decode cX7_readProduct 58 = .ok (.iconst 0, 1) := by decide +kernel
theorem dX7_readProduct_59 : decode cX7_readProduct 59 = .ok (.invokevirtual 268, 3) := by decide +kernel
theorem dX7_readProduct_62 : decode cX7_readProduct 62 = .ok (.iinc 1 1, 3) := by decide +kernel
theorem dX7_readProduct_65 : decode cX7_readProduct 65 = .ok (.goto (-59), 3) := by decide +kernel
theorem dX7_readProduct_68 : decode cX7_readProduct 68 = .ok (.return_, 1) := by decide +kernel
def bX7_readProduct_40 (g : GgX7_readExpression) (k6 : Int32 → zS → zR) (x1 : Int32) (t : zS) : zR := zlet (t 5 9) fun v631 => zbd (mX7_step  t) fun r632 t633 => zbd (g.2.2.2  t633) fun r635 t636 => zbd (mX3_add v631 0 t636) fun r638 t639 => zlet (x1 + 1) fun v641 => k6 v641 t639
def bX7_readProduct_6 (g : GgX7_readExpression) (k6 : Int32 → zS → zR) (x1 : Int32) (t : zS) : zR := if 3000 ≤ x1 then some (0, t) else if (t 5 9) = 42 then bX7_readProduct_40 g k6 x1 t else if (t 5 9) = 47 then bX7_readProduct_40 g k6 x1 t else if (t 5 9) = 37 then bX7_readProduct_40 g k6 x1 t else some (0, t)
def lX7_readProduct_6 (g : GgX7_readExpression) : Nat → Int32 → zS → zR
  | 0, _, _ => none
  | fu + 1, x1, t => bX7_readProduct_6 g (lX7_readProduct_6 g fu) x1 t
def mX7_readProduct (g : GgX7_readExpression) (t : zS) : zR := zbd (g.2.2.2  t) fun r642 t643 => lX7_readProduct_6 g zFU 0 t643
set_option maxHeartbeats 4000000 in
set_option maxRecDepth 20000 in
theorem wbX7_readProduct_40 {E : zE} {C : zC} {f : Nat} {ro : Int32 × zS} (hf : 3 ≤ f) {g : GgX7_readExpression} (hg : HgX7_readExpression E (f - 1) g) (k6 : Int32 → zS → zR) (hk6 : ∀ (x1 : Int32) (t : zS), k6 x1 t = some ro → zJ E shC C cX7_readProduct RX7 3 f none ro t 6 [(0, .ref (za E 5)), (1, .int x1)] []) (x1 : Int32) (t : zS) (hF : bX7_readProduct_40 g k6 x1 t = some ro) : zJ E shC C cX7_readProduct RX7 3 f none ro t 40 [(0, .ref (za E 5)), (1, .int x1)] [] := by
  unfold bX7_readProduct_40 at hF
  refine z_aload_n 0 dX7_readProduct_40 rfl rfl ?_
  refine z_geti fi_RX7_80 dX7_readProduct_41 ?_
  refine z_topi (fun v631 ev631 => ?_)
  have hF := zlet_at ev631 hF
  refine z_istore_n (lv' := [(2, .int v631), (0, .ref (za E 5)), (1, .int x1)]) dX7_readProduct_44 rfl (by decide) rfl ?_
  refine z_aload_n 1 dX7_readProduct_45 rfl rfl ?_
  obtain ⟨r632, t633, hc634, hF⟩ := zbd_at hF
  refine z_callVv (ctX7_step (E := E) (f := f - 1) (by omega) hc634) yy_X7_step yv_X7_step ob_C_5 lk_RX7_77 (by omega) rfl rfl (Nat.le_of_ble_eq_true rfl) dX7_readProduct_46 ?_
  refine z_aload_n 1 dX7_readProduct_49 rfl rfl ?_
  obtain ⟨r635, t636, hc637, hF⟩ := zbd_at hF
  refine z_callVv (z_hgX7_readAtom hg hc637) yy_X7_readAtom yv_X7_readAtom ob_C_5 lk_RX7_273 (by omega) rfl rfl (Nat.le_of_ble_eq_true rfl) dX7_readProduct_50 ?_
  refine z_aload_n 1 dX7_readProduct_53 rfl rfl ?_
  refine z_getr fr_RX7_34 dX7_readProduct_54 ?_
  refine z_iload_n 0 dX7_readProduct_57 rfl rfl ?_
  refine z_iconst (v := 0) dX7_readProduct_58 (by decide) ?_
  obtain ⟨r638, t639, hc640, hF⟩ := zbd_at hF
  refine z_callVv (ctX3_add (E := E) (f := f - 1) (by omega) hc640) yy_X3_add yv_X3_add ob_C_51 lk_RX7_268 (by omega) rfl rfl (Nat.le_of_ble_eq_true rfl) dX7_readProduct_59 ?_
  obtain ⟨v641, ev641⟩ : ∃ y : Int32, y = (x1 + 1) := ⟨_, rfl⟩
  have hF := zlet_at ev641 hF
  refine z_iinc (v := v641) (lv' := [(1, .int v641), (2, .int v631), (0, .ref (za E 5))]) (k := 2) dX7_readProduct_62 rfl (by rw [ev641]; rfl) (by decide) rfl ?_
  refine z_goto (tgt := 6) dX7_readProduct_65 (by decide) ?_
  refine z_sub [2, 0] rfl ?_
  exact hk6 v641 _ hF
set_option maxHeartbeats 4000000 in
set_option maxRecDepth 20000 in
theorem wbX7_readProduct_6 {E : zE} {C : zC} {f : Nat} {ro : Int32 × zS} (hf : 3 ≤ f) {g : GgX7_readExpression} (hg : HgX7_readExpression E (f - 1) g) (k6 : Int32 → zS → zR) (hk6 : ∀ (x1 : Int32) (t : zS), k6 x1 t = some ro → zJ E shC C cX7_readProduct RX7 3 f none ro t 6 [(0, .ref (za E 5)), (1, .int x1)] []) (x1 : Int32) (t : zS) (hF : bX7_readProduct_6 g k6 x1 t = some ro) : zJ E shC C cX7_readProduct RX7 3 f none ro t 6 [(0, .ref (za E 5)), (1, .int x1)] [] := by
  unfold bX7_readProduct_6 at hF
  refine z_iload_n 1 dX7_readProduct_6 rfl rfl ?_
  refine z_sipush (v := 3000) dX7_readProduct_7 (by decide) ?_
  refine z_icmp_ge (tgt := 68) dX7_readProduct_10 (by decide) (fun hc => ?_) (fun hc => ?_)
  · have hF := zif_t hc hF
    exact z_vret hF dX7_readProduct_68
  · have hF := zif_f hc hF
    refine z_aload_n 0 dX7_readProduct_13 rfl rfl ?_
    refine z_geti fi_RX7_80 dX7_readProduct_14 ?_
    refine z_bipush (v := 42) dX7_readProduct_17 (by decide) ?_
    refine z_icmp_eq (tgt := 40) dX7_readProduct_19 (by decide) (fun hc => ?_) (fun hc => ?_)
    · have hF := zif_t hc hF
      exact wbX7_readProduct_40 hf hg k6 hk6 x1 _ hF
    · have hF := zif_f hc hF
      refine z_aload_n 0 dX7_readProduct_22 rfl rfl ?_
      refine z_geti fi_RX7_80 dX7_readProduct_23 ?_
      refine z_bipush (v := 47) dX7_readProduct_26 (by decide) ?_
      refine z_icmp_eq (tgt := 40) dX7_readProduct_28 (by decide) (fun hc => ?_) (fun hc => ?_)
      · have hF := zif_t hc hF
        exact wbX7_readProduct_40 hf hg k6 hk6 x1 _ hF
      · have hF := zif_f hc hF
        refine z_aload_n 0 dX7_readProduct_31 rfl rfl ?_
        refine z_geti fi_RX7_80 dX7_readProduct_32 ?_
        refine z_bipush (v := 37) dX7_readProduct_35 (by decide) ?_
        refine z_icmp_ne (tgt := 68) dX7_readProduct_37 (by decide) (fun hc => ?_) (fun hc => ?_)
        · have hF := zif_f hc hF
          exact z_vret hF dX7_readProduct_68
        · have hF := zif_t hc hF
          exact wbX7_readProduct_40 hf hg k6 hk6 x1 _ hF
set_option maxHeartbeats 4000000 in
set_option maxRecDepth 20000 in
theorem wlX7_readProduct_6 {E : zE} {C : zC} {f : Nat} {ro : Int32 × zS} (hf : 3 ≤ f) {g : GgX7_readExpression} (hg : HgX7_readExpression E (f - 1) g) (fu : Nat) : ∀ (x1 : Int32) (t : zS), lX7_readProduct_6 g fu x1 t = some ro → zJ E shC C cX7_readProduct RX7 3 f none ro t 6 [(0, .ref (za E 5)), (1, .int x1)] [] := by
  induction fu with
  | zero => intro x1 t hF; cases hF
  | succ fu ih => intro x1 t hF; exact wbX7_readProduct_6 hf hg (lX7_readProduct_6 g fu) ih x1 t hF
set_option maxHeartbeats 4000000 in
set_option maxRecDepth 20000 in
theorem ctX7_readProduct {E : zE} {f : Nat} (hf : 3 ≤ f) {g : GgX7_readExpression} (hg : HgX7_readExpression E (f - 1) g) {t : zS} {ro : Int32 × zS} (hF : mX7_readProduct g  t = some ro) : zM E shC f yX7_readProduct cX7_readProduct 3 none [.ref (za E 5)] t ro := by
  refine zM_of (by decide) (Nat.le_of_ble_eq_true rfl) (fun C => ?_)
  show zJ E shC C cX7_readProduct RX7 3 f none ro t 0 [(0, .ref (za E 5))] []
  unfold mX7_readProduct at hF
  refine z_aload_n 0 dX7_readProduct_0 rfl rfl ?_
  obtain ⟨r642, t643, hc644, hF⟩ := zbd_at hF
  refine z_callVv (z_hgX7_readAtom hg hc644) yy_X7_readAtom yv_X7_readAtom ob_C_5 lk_RX7_273 (by omega) rfl rfl (Nat.le_of_ble_eq_true rfl) dX7_readProduct_1 ?_
  refine z_iconst (v := 0) dX7_readProduct_4 (by decide) ?_
  refine z_istore_n (lv' := [(1, .int 0), (0, .ref (za E 5))]) dX7_readProduct_5 rfl (by decide) rfl ?_
  refine z_sub [1, 0] rfl ?_
  exact wlX7_readProduct_6 hf hg zFU 0 _ hF
-- SessionHouse$Reader.readAtom()V
theorem dX7_readAtom_0 : decode cX7_readAtom 0 = .ok (.aload_n 0, 1) := by decide +kernel
theorem dX7_readAtom_1 : decode cX7_readAtom 1 = .ok (.getfield 80, 3) := by decide +kernel
theorem dX7_readAtom_4 : decode cX7_readAtom 4 = .ok (.bipush 18, 2) := by decide +kernel
theorem dX7_readAtom_6 : decode cX7_readAtom 6 = .ok (.if_icmp .ne 23, 3) := by decide +kernel
theorem dX7_readAtom_9 : decode cX7_readAtom 9 = .ok (.aload_n 0, 1) := by decide +kernel
theorem dX7_readAtom_10 : decode cX7_readAtom 10 = .ok (.getfield 34, 3) := by decide +kernel
theorem dX7_readAtom_13 : decode cX7_readAtom 13 = .ok (.bipush 18, 2) := by decide +kernel
theorem dX7_readAtom_15 : decode cX7_readAtom 15 = .ok (.aload_n 0, 1) := by decide +kernel
theorem dX7_readAtom_16 : decode cX7_readAtom 16 = .ok (.getfield 121, 3) := by decide +kernel
theorem dX7_readAtom_19 : decode cX7_readAtom 19 = .ok (.invokevirtual 268, 3) := by decide +kernel
theorem dX7_readAtom_22 : decode cX7_readAtom 22 = .ok (.aload_n 0, 1) := by decide +kernel
theorem dX7_readAtom_23 : decode cX7_readAtom 23 = .ok (.invokevirtual 77, 3) := by decide +kernel
theorem dX7_readAtom_26 : decode cX7_readAtom 26 = .ok (.goto 104, 3) := by decide +kernel
theorem dX7_readAtom_29 : decode cX7_readAtom 29 = .ok (.aload_n 0, 1) := by decide +kernel
theorem dX7_readAtom_30 : decode cX7_readAtom 30 = .ok (.getfield 80, 3) := by decide +kernel
theorem dX7_readAtom_33 : decode cX7_readAtom 33 = .ok (.bipush 17, 2) := by decide +kernel
theorem dX7_readAtom_35 : decode cX7_readAtom 35 = .ok (.if_icmp .ne 30, 3) := by decide +kernel
theorem dX7_readAtom_38 : decode cX7_readAtom 38 = .ok (.aload_n 0, 1) := by decide +kernel
theorem dX7_readAtom_39 : decode cX7_readAtom 39 = .ok (.getfield 34, 3) := by decide +kernel
theorem dX7_readAtom_42 : decode cX7_readAtom 42 = .ok (.bipush 17, 2) := by decide +kernel
theorem dX7_readAtom_44 : decode cX7_readAtom 44 = .ok (.aload_n 0, 1) := by decide +kernel
theorem dX7_readAtom_45 : decode cX7_readAtom 45 = .ok (.getfield 42, 3) := by decide +kernel
theorem dX7_readAtom_48 : decode cX7_readAtom 48 = .ok (.aload_n 0, 1) := by decide +kernel
theorem dX7_readAtom_49 : decode cX7_readAtom 49 = .ok (.getfield 121, 3) := by decide +kernel
theorem dX7_readAtom_52 : decode cX7_readAtom 52 = .ok (.invokevirtual 197, 3) := by decide +kernel
theorem dX7_readAtom_55 : decode cX7_readAtom 55 = .ok (.invokevirtual 268, 3) := by decide +kernel
theorem dX7_readAtom_58 : decode cX7_readAtom 58 = .ok (.aload_n 0, 1) := by decide +kernel
theorem dX7_readAtom_59 : decode cX7_readAtom 59 = .ok (.invokevirtual 77, 3) := by decide +kernel
theorem dX7_readAtom_62 : decode cX7_readAtom 62 = .ok (.goto 68, 3) := by decide +kernel
theorem dX7_readAtom_65 : decode cX7_readAtom 65 = .ok (.aload_n 0, 1) := by decide +kernel
theorem dX7_readAtom_66 : decode cX7_readAtom 66 = .ok (.getfield 80, 3) := by decide +kernel
theorem dX7_readAtom_69 : decode cX7_readAtom 69 = .ok (.bipush 45, 2) := by decide +kernel
theorem dX7_readAtom_71 : decode cX7_readAtom 71 = .ok (.if_icmp .ne 40, 3) := by decide +kernel
theorem dX7_readAtom_74 : decode cX7_readAtom 74 = .ok (.aload_n 0, 1) := by decide +kernel
theorem dX7_readAtom_75 : decode cX7_readAtom 75 = .ok (.bipush 45, 2) := by decide +kernel
theorem dX7_readAtom_77 : decode cX7_readAtom 77 = .ok (.invokevirtual 169, 3) := by decide +kernel
theorem dX7_readAtom_80 : decode cX7_readAtom 80 = .ok (.ifCond .eq 50, 3) := by decide +kernel
theorem dX7_readAtom_83 : decode cX7_readAtom 83 = .ok (.aload_n 0, 1) := by decide +kernel
theorem dX7_readAtom_84 : decode cX7_readAtom 84 = .ok (.invokevirtual 273, 3) := by decide +kernel
theorem dX7_readAtom_87 : decode cX7_readAtom 87 = .ok (.aload_n 0, 1) := by decide +kernel
theorem dX7_readAtom_88 : decode cX7_readAtom 88 = .ok (.dup, 1) := by decide +kernel
theorem dX7_readAtom_89 : decode cX7_readAtom 89 = .ok (.getfield 71, 3) := by decide +kernel
theorem dX7_readAtom_92 : decode cX7_readAtom 92 = .ok (.iconst 1, 1) := by decide +kernel
theorem dX7_readAtom_93 : decode cX7_readAtom 93 = .ok (.isub, 1) := by decide +kernel
theorem dX7_readAtom_94 : decode cX7_readAtom 94 = .ok (.putfield 71, 3) := by decide +kernel
theorem dX7_readAtom_97 : decode cX7_readAtom 97 = .ok (.aload_n 0, 1) := by decide +kernel
theorem dX7_readAtom_98 : decode cX7_readAtom 98 = .ok (.getfield 34, 3) := by decide +kernel
theorem dX7_readAtom_101 : decode cX7_readAtom 101 = .ok (.sipush 257, 3) := by decide +kernel
theorem dX7_readAtom_104 : decode cX7_readAtom 104 = .ok (.iconst 0, 1) := by decide +kernel
theorem dX7_readAtom_105 : decode cX7_readAtom 105 = .ok (.invokevirtual 268, 3) := by decide +kernel
theorem dX7_readAtom_108 : decode cX7_readAtom 108 = .ok (.goto 22, 3) := by decide +kernel
theorem dX7_readAtom_111 : decode cX7_readAtom 111 = .ok (.aload_n 0, 1) := by decide +kernel
theorem dX7_readAtom_112 : decode cX7_readAtom 112 = .ok (.bipush 40, 2) := by decide +kernel
theorem dX7_readAtom_114 : decode cX7_readAtom 114 = .ok (.invokevirtual 169, 3) := by decide +kernel
theorem dX7_readAtom_117 : decode cX7_readAtom 117 = .ok (.ifCond .eq 13, 3) := by decide +kernel
theorem dX7_readAtom_120 : decode cX7_readAtom 120 = .ok (.aload_n 0, 1) := by decide +kernel
theorem dX7_readAtom_121 : decode cX7_readAtom 121 = .ok (.invokevirtual 247, 3) := by decide +kernel
theorem dX7_readAtom_124 : decode cX7_readAtom 124 = .ok (.aload_n 0, 1) := by decide +kernel
theorem dX7_readAtom_125 : decode cX7_readAtom 125 = .ok (.bipush 41, 2) := by decide +kernel
theorem dX7_readAtom_127 : decode cX7_readAtom 127 = .ok (.invokevirtual 172, 3) := by decide +kernel
theorem dX7_readAtom_130 : decode cX7_readAtom 130 = .ok (.return_, 1) := by decide +kernel
def mX7_readAtom (g : GgX7_readExpression) (t : zS) : zR := if (t 5 9) = 18 then zbd (mX3_add 18 (t 5 11) t) fun r673 t674 => zbd (mX7_step  t674) fun r676 t677 => some (0, t677) else if (t 5 9) = 17 then zbd (mX6_slotFor (t 5 11) t) fun r664 t665 => zbd (mX3_add 17 r664 t665) fun r667 t668 => zbd (mX7_step  t668) fun r670 t671 => some (0, t671) else if (t 5 9) = 45 then zbd (mX7_enter 45 t) fun r654 t655 => if r654 = 0 then some (0, t655) else zbd (g.2.2.2  t655) fun r657 t658 => zpt t658 5 13 ((t658 5 13) - 1) fun t660 => zbd (mX3_add 257 0 t660) fun r661 t662 => some (0, t662) else zbd (mX7_enter 40 t) fun r645 t646 => if r645 = 0 then some (0, t646) else zbd (g.1  t646) fun r648 t649 => zbd (mX7_leave 41 t649) fun r651 t652 => some (0, t652)
set_option maxHeartbeats 4000000 in
set_option maxRecDepth 20000 in
theorem ctX7_readAtom {E : zE} {f : Nat} (hf : 3 ≤ f) {g : GgX7_readExpression} (hg : HgX7_readExpression E (f - 1) g) {t : zS} {ro : Int32 × zS} (hF : mX7_readAtom g  t = some ro) : zM E shC f yX7_readAtom cX7_readAtom 1 none [.ref (za E 5)] t ro := by
  refine zM_of (by decide) (Nat.le_of_ble_eq_true rfl) (fun C => ?_)
  show zJ E shC C cX7_readAtom RX7 1 f none ro t 0 [(0, .ref (za E 5))] []
  unfold mX7_readAtom at hF
  refine z_aload_n 0 dX7_readAtom_0 rfl rfl ?_
  refine z_geti fi_RX7_80 dX7_readAtom_1 ?_
  refine z_bipush (v := 18) dX7_readAtom_4 (by decide) ?_
  refine z_icmp_ne (tgt := 29) dX7_readAtom_6 (by decide) (fun hc => ?_) (fun hc => ?_)
  · have hF := zif_f hc hF
    refine z_aload_n 0 dX7_readAtom_29 rfl rfl ?_
    refine z_geti fi_RX7_80 dX7_readAtom_30 ?_
    refine z_bipush (v := 17) dX7_readAtom_33 (by decide) ?_
    refine z_icmp_ne (tgt := 65) dX7_readAtom_35 (by decide) (fun hc => ?_) (fun hc => ?_)
    · have hF := zif_f hc hF
      refine z_aload_n 0 dX7_readAtom_65 rfl rfl ?_
      refine z_geti fi_RX7_80 dX7_readAtom_66 ?_
      refine z_bipush (v := 45) dX7_readAtom_69 (by decide) ?_
      refine z_icmp_ne (tgt := 111) dX7_readAtom_71 (by decide) (fun hc => ?_) (fun hc => ?_)
      · have hF := zif_f hc hF
        refine z_aload_n 0 dX7_readAtom_111 rfl rfl ?_
        refine z_bipush (v := 40) dX7_readAtom_112 (by decide) ?_
        obtain ⟨r645, t646, hc647, hF⟩ := zbd_at hF
        refine z_callVi (ctX7_enter (E := E) (f := f - 1) (by omega) hc647) yy_X7_enter yv_X7_enter ob_C_5 lk_RX7_169 (by omega) rfl rfl (Nat.le_of_ble_eq_true rfl) dX7_readAtom_114 ?_
        refine z_if_eq (tgt := 130) dX7_readAtom_117 (by decide) (fun hc => ?_) (fun hc => ?_)
        · have hF := zif_t hc hF
          exact z_vret hF dX7_readAtom_130
        · have hF := zif_f hc hF
          refine z_aload_n 0 dX7_readAtom_120 rfl rfl ?_
          obtain ⟨r648, t649, hc650, hF⟩ := zbd_at hF
          refine z_callVv (z_hgX7_readExpression hg hc650) yy_X7_readExpression yv_X7_readExpression ob_C_5 lk_RX7_247 (by omega) rfl rfl (Nat.le_of_ble_eq_true rfl) dX7_readAtom_121 ?_
          refine z_aload_n 0 dX7_readAtom_124 rfl rfl ?_
          refine z_bipush (v := 41) dX7_readAtom_125 (by decide) ?_
          obtain ⟨r651, t652, hc653, hF⟩ := zbd_at hF
          refine z_callVv (ctX7_leave (E := E) (f := f - 1) (by omega) hc653) yy_X7_leave yv_X7_leave ob_C_5 lk_RX7_172 (by omega) rfl rfl (Nat.le_of_ble_eq_true rfl) dX7_readAtom_127 ?_
          exact z_vret hF dX7_readAtom_130
      · have hF := zif_t hc hF
        refine z_aload_n 0 dX7_readAtom_74 rfl rfl ?_
        refine z_bipush (v := 45) dX7_readAtom_75 (by decide) ?_
        obtain ⟨r654, t655, hc656, hF⟩ := zbd_at hF
        refine z_callVi (ctX7_enter (E := E) (f := f - 1) (by omega) hc656) yy_X7_enter yv_X7_enter ob_C_5 lk_RX7_169 (by omega) rfl rfl (Nat.le_of_ble_eq_true rfl) dX7_readAtom_77 ?_
        refine z_if_eq (tgt := 130) dX7_readAtom_80 (by decide) (fun hc => ?_) (fun hc => ?_)
        · have hF := zif_t hc hF
          exact z_vret hF dX7_readAtom_130
        · have hF := zif_f hc hF
          refine z_aload_n 0 dX7_readAtom_83 rfl rfl ?_
          obtain ⟨r657, t658, hc659, hF⟩ := zbd_at hF
          refine z_callVv (z_hgX7_readAtom hg hc659) yy_X7_readAtom yv_X7_readAtom ob_C_5 lk_RX7_273 (by omega) rfl rfl (Nat.le_of_ble_eq_true rfl) dX7_readAtom_84 ?_
          refine z_aload_n 0 dX7_readAtom_87 rfl rfl ?_
          refine z_dup dX7_readAtom_88 rfl ?_
          refine z_geti fi_RX7_71 dX7_readAtom_89 ?_
          refine z_iconst (v := 1) dX7_readAtom_92 (by decide) ?_
          refine z_isub dX7_readAtom_93 ?_
          refine z_puti fw_RX7_71 dX7_readAtom_94 (fun t660 et660 => ?_)
          have hF := zpt_at hF t660 et660
          refine z_aload_n 0 dX7_readAtom_97 rfl rfl ?_
          refine z_getr fr_RX7_34 dX7_readAtom_98 ?_
          refine z_sipush (v := 257) dX7_readAtom_101 (by decide) ?_
          refine z_iconst (v := 0) dX7_readAtom_104 (by decide) ?_
          obtain ⟨r661, t662, hc663, hF⟩ := zbd_at hF
          refine z_callVv (ctX3_add (E := E) (f := f - 1) (by omega) hc663) yy_X3_add yv_X3_add ob_C_51 lk_RX7_268 (by omega) rfl rfl (Nat.le_of_ble_eq_true rfl) dX7_readAtom_105 ?_
          refine z_goto (tgt := 130) dX7_readAtom_108 (by decide) ?_
          exact z_vret hF dX7_readAtom_130
    · have hF := zif_t hc hF
      refine z_aload_n 0 dX7_readAtom_38 rfl rfl ?_
      refine z_getr fr_RX7_34 dX7_readAtom_39 ?_
      refine z_bipush (v := 17) dX7_readAtom_42 (by decide) ?_
      refine z_aload_n 0 dX7_readAtom_44 rfl rfl ?_
      refine z_getr fr_RX7_42 dX7_readAtom_45 ?_
      refine z_aload_n 0 dX7_readAtom_48 rfl rfl ?_
      refine z_geti fi_RX7_121 dX7_readAtom_49 ?_
      obtain ⟨r664, t665, hc666, hF⟩ := zbd_at hF
      refine z_callVi (ctX6_slotFor (E := E) (f := f - 1) (by omega) hc666) yy_X6_slotFor yv_X6_slotFor ob_C_4 lk_RX7_197 (by omega) rfl rfl (Nat.le_of_ble_eq_true rfl) dX7_readAtom_52 ?_
      obtain ⟨r667, t668, hc669, hF⟩ := zbd_at hF
      refine z_callVv (ctX3_add (E := E) (f := f - 1) (by omega) hc669) yy_X3_add yv_X3_add ob_C_51 lk_RX7_268 (by omega) rfl rfl (Nat.le_of_ble_eq_true rfl) dX7_readAtom_55 ?_
      refine z_aload_n 0 dX7_readAtom_58 rfl rfl ?_
      obtain ⟨r670, t671, hc672, hF⟩ := zbd_at hF
      refine z_callVv (ctX7_step (E := E) (f := f - 1) (by omega) hc672) yy_X7_step yv_X7_step ob_C_5 lk_RX7_77 (by omega) rfl rfl (Nat.le_of_ble_eq_true rfl) dX7_readAtom_59 ?_
      refine z_goto (tgt := 130) dX7_readAtom_62 (by decide) ?_
      exact z_vret hF dX7_readAtom_130
  · have hF := zif_t hc hF
    refine z_aload_n 0 dX7_readAtom_9 rfl rfl ?_
    refine z_getr fr_RX7_34 dX7_readAtom_10 ?_
    refine z_bipush (v := 18) dX7_readAtom_13 (by decide) ?_
    refine z_aload_n 0 dX7_readAtom_15 rfl rfl ?_
    refine z_geti fi_RX7_121 dX7_readAtom_16 ?_
    obtain ⟨r673, t674, hc675, hF⟩ := zbd_at hF
    refine z_callVv (ctX3_add (E := E) (f := f - 1) (by omega) hc675) yy_X3_add yv_X3_add ob_C_51 lk_RX7_268 (by omega) rfl rfl (Nat.le_of_ble_eq_true rfl) dX7_readAtom_19 ?_
    refine z_aload_n 0 dX7_readAtom_22 rfl rfl ?_
    obtain ⟨r676, t677, hc678, hF⟩ := zbd_at hF
    refine z_callVv (ctX7_step (E := E) (f := f - 1) (by omega) hc678) yy_X7_step yv_X7_step ob_C_5 lk_RX7_77 (by omega) rfl rfl (Nat.le_of_ble_eq_true rfl) dX7_readAtom_23 ?_
    refine z_goto (tgt := 130) dX7_readAtom_26 (by decide) ?_
    exact z_vret hF dX7_readAtom_130
def grgX7_readExpression : Nat → GgX7_readExpression
  | 0 => (fun _ => none, fun _ => none, fun _ => none, fun _ => none)
  | d + 1 => (mX7_readExpression (grgX7_readExpression d), mX7_readSum (grgX7_readExpression d), mX7_readProduct (grgX7_readExpression d), mX7_readAtom (grgX7_readExpression d))
theorem hrgX7_readExpression {E : zE} : ∀ (d f : Nat), 3 + d ≤ f → HgX7_readExpression E f (grgX7_readExpression d) := by
  intro d
  induction d with
  | zero => intro f hf; exact ⟨fun _ _ h => (by cases h), fun _ _ h => (by cases h), fun _ _ h => (by cases h), fun _ _ h => (by cases h)⟩
  | succ d ih => intro f hf; exact ⟨fun _ _ h => ctX7_readExpression (by omega) (ih (f - 1) (by omega)) h, fun _ _ h => ctX7_readSum (by omega) (ih (f - 1) (by omega)) h, fun _ _ h => ctX7_readProduct (by omega) (ih (f - 1) (by omega)) h, fun _ _ h => ctX7_readAtom (by omega) (ih (f - 1) (by omega)) h⟩
def mX7_readExpressionr (t : zS) : zR := (grgX7_readExpression 300).1  t
theorem ctX7_readExpressionr {E : zE} {f : Nat} (hf : 303 ≤ f) {t : zS} {ro : Int32 × zS} (h : mX7_readExpressionr  t = some ro) : zM E shC f yX7_readExpression cX7_readExpression 2 none [.ref (za E 5)] t ro := z_hgX7_readExpression (hrgX7_readExpression 300 f (by omega)) h
def mX7_readSumr (t : zS) : zR := (grgX7_readExpression 300).2.1  t
theorem ctX7_readSumr {E : zE} {f : Nat} (hf : 303 ≤ f) {t : zS} {ro : Int32 × zS} (h : mX7_readSumr  t = some ro) : zM E shC f yX7_readSum cX7_readSum 3 none [.ref (za E 5)] t ro := z_hgX7_readSum (hrgX7_readExpression 300 f (by omega)) h
def mX7_readProductr (t : zS) : zR := (grgX7_readExpression 300).2.2.1  t
theorem ctX7_readProductr {E : zE} {f : Nat} (hf : 303 ≤ f) {t : zS} {ro : Int32 × zS} (h : mX7_readProductr  t = some ro) : zM E shC f yX7_readProduct cX7_readProduct 3 none [.ref (za E 5)] t ro := z_hgX7_readProduct (hrgX7_readExpression 300 f (by omega)) h
def mX7_readAtomr (t : zS) : zR := (grgX7_readExpression 300).2.2.2  t
theorem ctX7_readAtomr {E : zE} {f : Nat} (hf : 303 ≤ f) {t : zS} {ro : Int32 × zS} (h : mX7_readAtomr  t = some ro) : zM E shC f yX7_readAtom cX7_readAtom 1 none [.ref (za E 5)] t ro := z_hgX7_readAtom (hrgX7_readExpression 300 f (by omega)) h
-- SessionHouse$Formulas.addArgument(IZ)V
theorem dX3_addArgument_0 : decode cX3_addArgument 0 = .ok (.aload_n 0, 1) := by decide +kernel
theorem dX3_addArgument_1 : decode cX3_addArgument 1 = .ok (.getfield 23, 3) := by decide +kernel
theorem dX3_addArgument_4 : decode cX3_addArgument 4 = .ok (.aload_n 0, 1) := by decide +kernel
theorem dX3_addArgument_5 : decode cX3_addArgument 5 = .ok (.getfield 39, 3) := by decide +kernel
theorem dX3_addArgument_8 : decode cX3_addArgument 8 = .ok (.iload_n 1, 1) := by decide +kernel
theorem dX3_addArgument_9 : decode cX3_addArgument 9 = .ok (.invokevirtual 42, 3) := by decide +kernel
theorem dX3_addArgument_12 : decode cX3_addArgument 12 = .ok (.aload_n 0, 1) := by decide +kernel
theorem dX3_addArgument_13 : decode cX3_addArgument 13 = .ok (.getfield 26, 3) := by decide +kernel
theorem dX3_addArgument_16 : decode cX3_addArgument 16 = .ok (.aload_n 0, 1) := by decide +kernel
theorem dX3_addArgument_17 : decode cX3_addArgument 17 = .ok (.getfield 39, 3) := by decide +kernel
theorem dX3_addArgument_20 : decode cX3_addArgument 20 = .ok (.aload_n 0, 1) := by decide +kernel
theorem dX3_addArgument_21 : decode cX3_addArgument 21 = .ok (.getfield 35, 3) := by decide +kernel
theorem dX3_addArgument_24 : decode cX3_addArgument 24 = .ok (.invokevirtual 42, 3) := by decide +kernel
theorem dX3_addArgument_27 : decode cX3_addArgument 27 = .ok (.aload_n 0, 1) := by decide +kernel
theorem dX3_addArgument_28 : decode cX3_addArgument 28 = .ok (.getfield 29, 3) := by decide +kernel
theorem dX3_addArgument_31 : decode cX3_addArgument 31 = .ok (.aload_n 0, 1) := by decide +kernel
theorem dX3_addArgument_32 : decode cX3_addArgument 32 = .ok (.getfield 39, 3) := by decide +kernel
theorem dX3_addArgument_35 : decode cX3_addArgument 35 = .ok (.iload_n 2, 1) := by decide +kernel
theorem dX3_addArgument_36 : decode cX3_addArgument 36 = .ok (.ifCond .eq 14, 3) := by decide +kernel
theorem dX3_addArgument_39 : decode cX3_addArgument 39 = .ok (.aload_n 0, 1) := by decide +kernel
theorem dX3_addArgument_40 : decode cX3_addArgument 40 = .ok (.getfield 20, 3) := by decide +kernel
theorem dX3_addArgument_43 : decode cX3_addArgument 43 = .ok (.iload_n 1, 1) := by decide +kernel
theorem dX3_addArgument_44 : decode cX3_addArgument 44 = .ok (.invokevirtual 46, 3) := by decide +kernel
theorem dX3_addArgument_47 : decode cX3_addArgument 47 = .ok (.goto 4, 3) := by decide +kernel
theorem dX3_addArgument_50 : decode cX3_addArgument 50 = .ok (.iconst (-1), 1) := by decide +kernel
theorem dX3_addArgument_51 : decode cX3_addArgument 51 = .ok (.invokevirtual 42, 3) := by decide +kernel
theorem dX3_addArgument_54 : decode cX3_addArgument 54 = .ok (.aload_n 0, 1) := by decide +kernel
theorem dX3_addArgument_55 : decode cX3_addArgument 55 = .ok (.dup, 1) := by decide +kernel
theorem dX3_addArgument_56 : decode cX3_addArgument 56 = .ok (.getfield 39, 3) := by decide +kernel
theorem dX3_addArgument_59 : decode cX3_addArgument 59 = .ok (.iconst 1, 1) := by decide +kernel
theorem dX3_addArgument_60 : decode cX3_addArgument 60 = .ok (.iadd, 1) := by decide +kernel
theorem dX3_addArgument_61 : decode cX3_addArgument 61 = .ok (.putfield 39, 3) := by decide +kernel
theorem dX3_addArgument_64 : decode cX3_addArgument 64 = .ok (.return_, 1) := by decide +kernel
def bX3_addArgument_51 (y0 : Int32) (y1 : Int32) (t : zS) : zR := zbd (mX5_set 82 1600 y1 y0 t) fun r679 t680 => zpt t680 51 7 ((t680 51 7) + 1) fun t682 => some (0, t682)
def mX3_addArgument (x1 : Int32) (x2 : Int32) (t : zS) : zR := zbd (mX5_set 78 1600 (t 51 7) x1 t) fun r683 t684 => zbd (mX5_set 80 1600 (t684 51 7) (t684 51 6) t684) fun r686 t687 => if x2 = 0 then bX3_addArgument_51  (-1) (t687 51 7) t687 else zbd (mX5_get 76 3000 x1 t687) fun r689 t690 => bX3_addArgument_51  r689 (t687 51 7) t690
set_option maxHeartbeats 4000000 in
set_option maxRecDepth 20000 in
theorem wbX3_addArgument_51 {E : zE} {C : zC} {f : Nat} {ro : Int32 × zS} (hf : 2 ≤ f) (y0 : Int32) (y1 : Int32) (t : zS) (hF : bX3_addArgument_51  y0 y1 t = some ro) : zJ E shC C cX3_addArgument RX3 3 f none ro t 51 [(0, .ref (za E 51))] [.int y0, .int y1, .ref (za E 82)] := by
  unfold bX3_addArgument_51 at hF
  obtain ⟨r679, t680, hc681, hF⟩ := zbd_at hF
  refine z_callVv (ctX5_set (E := E) (sh := shC) (f := f - 1) (by omega) (k := 82) (n := 1600) rfl rfl hc681) yy_X5_set yv_X5_set ob_C_82 lk_RX3_42 (by omega) rfl rfl (Nat.le_of_ble_eq_true rfl) dX3_addArgument_51 ?_
  refine z_aload_n 0 dX3_addArgument_54 rfl rfl ?_
  refine z_dup dX3_addArgument_55 rfl ?_
  refine z_geti fi_RX3_39 dX3_addArgument_56 ?_
  refine z_iconst (v := 1) dX3_addArgument_59 (by decide) ?_
  refine z_iadd dX3_addArgument_60 ?_
  refine z_puti fw_RX3_39 dX3_addArgument_61 (fun t682 et682 => ?_)
  have hF := zpt_at hF t682 et682
  exact z_vret hF dX3_addArgument_64
set_option maxHeartbeats 4000000 in
set_option maxRecDepth 20000 in
theorem ctX3_addArgument {E : zE} {f : Nat} (hf : 2 ≤ f) {x1 : Int32} {x2 : Int32} {t : zS} {ro : Int32 × zS} (hF : mX3_addArgument  x1 x2 t = some ro) : zM E shC f yX3_addArgument cX3_addArgument 3 none [.ref (za E 51), .int x1, .int x2] t ro := by
  refine zM_of (by decide) (Nat.le_of_ble_eq_true rfl) (fun C => ?_)
  show zJ E shC C cX3_addArgument RX3 3 f none ro t 0 [(0, .ref (za E 51)), (1, .int x1), (2, .int x2)] []
  unfold mX3_addArgument at hF
  refine z_aload_n 0 dX3_addArgument_0 rfl rfl ?_
  refine z_getr fr_RX3_23 dX3_addArgument_1 ?_
  refine z_aload_n 0 dX3_addArgument_4 rfl rfl ?_
  refine z_geti fi_RX3_39 dX3_addArgument_5 ?_
  refine z_iload_n 1 dX3_addArgument_8 rfl rfl ?_
  obtain ⟨r683, t684, hc685, hF⟩ := zbd_at hF
  refine z_callVv (ctX5_set (E := E) (sh := shC) (f := f - 1) (by omega) (k := 78) (n := 1600) rfl rfl hc685) yy_X5_set yv_X5_set ob_C_78 lk_RX3_42 (by omega) rfl rfl (Nat.le_of_ble_eq_true rfl) dX3_addArgument_9 ?_
  refine z_aload_n 0 dX3_addArgument_12 rfl rfl ?_
  refine z_getr fr_RX3_26 dX3_addArgument_13 ?_
  refine z_aload_n 0 dX3_addArgument_16 rfl rfl ?_
  refine z_geti fi_RX3_39 dX3_addArgument_17 ?_
  refine z_aload_n 0 dX3_addArgument_20 rfl rfl ?_
  refine z_geti fi_RX3_35 dX3_addArgument_21 ?_
  obtain ⟨r686, t687, hc688, hF⟩ := zbd_at hF
  refine z_callVv (ctX5_set (E := E) (sh := shC) (f := f - 1) (by omega) (k := 80) (n := 1600) rfl rfl hc688) yy_X5_set yv_X5_set ob_C_80 lk_RX3_42 (by omega) rfl rfl (Nat.le_of_ble_eq_true rfl) dX3_addArgument_24 ?_
  refine z_aload_n 0 dX3_addArgument_27 rfl rfl ?_
  refine z_getr fr_RX3_29 dX3_addArgument_28 ?_
  refine z_aload_n 0 dX3_addArgument_31 rfl rfl ?_
  refine z_geti fi_RX3_39 dX3_addArgument_32 ?_
  refine z_iload_n 2 dX3_addArgument_35 rfl rfl ?_
  refine z_if_eq (tgt := 50) dX3_addArgument_36 (by decide) (fun hc => ?_) (fun hc => ?_)
  · have hF := zif_t hc hF
    refine z_iconst (v := (-1)) dX3_addArgument_50 (by decide) ?_
    refine z_sub [0] rfl ?_
    exact wbX3_addArgument_51 hf  (-1) (t687 51 7) _ hF
  · have hF := zif_f hc hF
    refine z_aload_n 0 dX3_addArgument_39 rfl rfl ?_
    refine z_getr fr_RX3_20 dX3_addArgument_40 ?_
    refine z_iload_n 1 dX3_addArgument_43 rfl rfl ?_
    obtain ⟨r689, t690, hc691, hF⟩ := zbd_at hF
    refine z_callVi (ctX5_get (E := E) (sh := shC) (f := f - 1) (by omega) (k := 76) (n := 3000) rfl rfl hc691) yy_X5_get yv_X5_get ob_C_76 lk_RX3_46 (by omega) rfl rfl (Nat.le_of_ble_eq_true rfl) dX3_addArgument_44 ?_
    refine z_goto (tgt := 51) dX3_addArgument_47 (by decide) ?_
    refine z_sub [0] rfl ?_
    exact wbX3_addArgument_51 hf  r689 (t687 51 7) _ hF
-- SessionHouse$Reader.readCall(II)V
theorem dX7_readCall_0 : decode cX7_readCall 0 = .ok (.iload_n 2, 1) := by decide +kernel
theorem dX7_readCall_1 : decode cX7_readCall 1 = .ok (.bipush 8, 2) := by decide +kernel
theorem dX7_readCall_3 : decode cX7_readCall 3 = .ok (.if_icmp .ne 26, 3) := by decide +kernel
theorem dX7_readCall_6 : decode cX7_readCall 6 = .ok (.aload_n 0, 1) := by decide +kernel
theorem dX7_readCall_7 : decode cX7_readCall 7 = .ok (.getfield 12, 3) := by decide +kernel
theorem dX7_readCall_10 : decode cX7_readCall 10 = .ok (.aload_n 0, 1) := by decide +kernel
theorem dX7_readCall_11 : decode cX7_readCall 11 = .ok (.getfield 74, 3) := by decide +kernel
theorem dX7_readCall_14 : decode cX7_readCall 14 = .ok (.iconst 1, 1) := by decide +kernel
theorem dX7_readCall_15 : decode cX7_readCall 15 = .ok (.iadd, 1) := by decide +kernel
theorem dX7_readCall_16 : decode cX7_readCall 16 = .ok (.invokevirtual 256, 3) := by decide +kernel
theorem dX7_readCall_19 : decode cX7_readCall 19 = .ok (.bipush 17, 2) := by decide +kernel
theorem dX7_readCall_21 : decode cX7_readCall 21 = .ok (.if_icmp .ne 8, 3) := by decide +kernel
theorem dX7_readCall_24 : decode cX7_readCall 24 = .ok (.aload_n 0, 1) := by decide +kernel
theorem dX7_readCall_25 : decode cX7_readCall 25 = .ok (.iload_n 1, 1) := by decide +kernel
theorem dX7_readCall_26 : decode cX7_readCall 26 = .ok (.invokevirtual 216, 3) := by decide +kernel
theorem dX7_readCall_29 : decode cX7_readCall 29 = .ok (.aload_n 0, 1) := by decide +kernel
theorem dX7_readCall_30 : decode cX7_readCall 30 = .ok (.getfield 80, 3) := by decide +kernel
theorem dX7_readCall_33 : decode cX7_readCall 33 = .ok (.bipush 17, 2) := by decide +kernel
theorem dX7_readCall_35 : decode cX7_readCall 35 = .ok (.if_icmp .eq 8, 3) := by decide +kernel
theorem dX7_readCall_38 : decode cX7_readCall 38 = .ok (.aload_n 0, 1) := by decide +kernel
theorem dX7_readCall_39 : decode cX7_readCall 39 = .ok (.invokevirtual 89, 3) := by decide +kernel
theorem dX7_readCall_42 : decode cX7_readCall 42 = .ok (.return_, 1) := by decide +kernel
theorem dX7_readCall_43 : decode cX7_readCall 43 = .ok (.aload_n 0, 1) := by decide +kernel
theorem dX7_readCall_44 : decode cX7_readCall 44 = .ok (.iconst 1, 1) := by decide +kernel
theorem dX7_readCall_45 : decode cX7_readCall 45 = .ok (.invokevirtual 166, 3) := by decide +kernel
theorem dX7_readCall_48 : decode cX7_readCall 48 = .ok (.aload_n 0, 1) := by decide +kernel
theorem dX7_readCall_49 : decode cX7_readCall 49 = .ok (.getfield 38, 3) := by decide +kernel
theorem dX7_readCall_52 : decode cX7_readCall 52 = .ok (.getfield 238, 3) := by decide +kernel
theorem dX7_readCall_55 : decode cX7_readCall 55 = .ok (.iload_n 1, 1) := by decide +kernel
theorem dX7_readCall_56 : decode cX7_readCall 56 = .ok (.aload_n 0, 1) := by decide +kernel
theorem dX7_readCall_57 : decode cX7_readCall 57 = .ok (.getfield 121, 3) := by decide +kernel
theorem dX7_readCall_60 : decode cX7_readCall 60 = .ok (.invokevirtual 127, 3) := by decide +kernel
theorem dX7_readCall_63 : decode cX7_readCall 63 = .ok (.aload_n 0, 1) := by decide +kernel
theorem dX7_readCall_64 : decode cX7_readCall 64 = .ok (.invokevirtual 77, 3) := by decide +kernel
theorem dX7_readCall_67 : decode cX7_readCall 67 = .ok (.aload_n 0, 1) := by decide +kernel
theorem dX7_readCall_68 : decode cX7_readCall 68 = .ok (.bipush 40, 2) := by decide +kernel
theorem dX7_readCall_70 : decode cX7_readCall 70 = .ok (.invokevirtual 169, 3) := by decide +kernel
theorem dX7_readCall_73 : decode cX7_readCall 73 = .ok (.ifCond .ne 4, 3) := by decide +kernel
theorem dX7_readCall_76 : decode cX7_readCall 76 = .ok (.return_, 1) := by decide +kernel
theorem dX7_readCall_77 : decode cX7_readCall 77 = .ok (.aload_n 0, 1) := by decide +kernel
theorem dX7_readCall_78 : decode cX7_readCall 78 = .ok (.getfield 38, 3) := by decide +kernel
theorem dX7_readCall_81 : decode cX7_readCall 81 = .ok (.getfield 241, 3) := by decide +kernel
theorem dX7_readCall_84 : decode cX7_readCall 84 = .ok (.iload_n 1, 1) := by decide +kernel
theorem dX7_readCall_85 : decode cX7_readCall 85 = .ok (.aload_n 0, 1) := by decide +kernel
theorem dX7_readCall_86 : decode cX7_readCall 86 = .ok (.getfield 34, 3) := by decide +kernel
theorem dX7_readCall_89 : decode cX7_readCall 89 = .ok (.getfield 259, 3) := by decide +kernel
theorem dX7_readCall_92 : decode cX7_readCall 92 = .ok (.invokevirtual 127, 3) := by decide +kernel
theorem dX7_readCall_95 : decode cX7_readCall 95 = .ok (.iconst 0, 1) := by decide +kernel
theorem dX7_readCall_96 : decode cX7_readCall 96 = .ok (.istore_n 3, 1) := by decide +kernel
theorem dX7_readCall_97 : decode cX7_readCall 97 = .ok (.iload_n 3, 1) := by decide +kernel
theorem dX7_readCall_98 : decode cX7_readCall 98 = .ok (.sipush 3000, 3) := by decide +kernel
theorem dX7_readCall_101 : decode cX7_readCall 101 = .ok (.if_icmp .ge 110, 3) := by decide +kernel
theorem dX7_readCall_104 : decode cX7_readCall 104 = .ok (.aload_n 0, 1) := by decide +kernel
theorem dX7_readCall_105 : decode cX7_readCall 105 = .ok (.getfield 68, 3) := by decide +kernel
theorem dX7_readCall_108 : decode cX7_readCall 108 = .ok (.ifCond .ge 103, 3) := by decide +kernel
theorem dX7_readCall_111 : decode cX7_readCall 111 = .ok (.iload_n 3, 1) := by decide +kernel
theorem dX7_readCall_112 : decode cX7_readCall 112 = .ok (.ifCond .gt 12, 3) := by decide +kernel
theorem dX7_readCall_115 : decode cX7_readCall 115 = .ok (.aload_n 0, 1) := by decide +kernel
theorem dX7_readCall_116 : decode cX7_readCall 116 = .ok (.getfield 80, 3) := by decide +kernel
theorem dX7_readCall_119 : decode cX7_readCall 119 = .ok (.bipush 41, 2) := by decide +kernel
theorem dX7_readCall_121 : decode cX7_readCall 121 = .ok (.if_icmp .eq 90, 3) := by decide +kernel
theorem dX7_readCall_124 : decode cX7_readCall 124 = .ok (.aload_n 0, 1) := by decide +kernel
theorem dX7_readCall_125 : decode cX7_readCall 125 = .ok (.getfield 34, 3) := by decide +kernel
theorem dX7_readCall_128 : decode cX7_readCall 128 = .ok (.getfield 244, 3) := by decide +kernel
theorem dX7_readCall_131 : decode cX7_readCall 131 = .ok (.istore 4, 2) := by decide +kernel
theorem dX7_readCall_133 : decode cX7_readCall 133 = .ok (.aload_n 0, 1) := by decide +kernel
theorem dX7_readCall_134 : decode cX7_readCall 134 = .ok (.getfield 80, 3) := by decide +kernel
theorem dX7_readCall_137 : decode cX7_readCall 137 = .ok (.bipush 17, 2) := by decide +kernel
theorem dX7_readCall_139 : decode cX7_readCall 139 = .ok (.if_icmp .ne 7, 3) := by decide +kernel
theorem dX7_readCall_142 : decode cX7_readCall 142 = .ok (.iconst 1, 1) := by decide +kernel
theorem dX7_readCall_143 : decode cX7_readCall 143 = .ok (.goto 4, 3) := by decide +kernel
theorem dX7_readCall_146 : decode cX7_readCall 146 = .ok (.iconst 0, 1) := by decide +kernel
theorem dX7_readCall_147 : decode cX7_readCall 147 = .ok (.istore 5, 2) := by decide +kernel
theorem dX7_readCall_149 : decode cX7_readCall 149 = .ok (.aload_n 0, 1) := by decide +kernel
theorem dX7_readCall_150 : decode cX7_readCall 150 = .ok (.getfield 74, 3) := by decide +kernel
theorem dX7_readCall_153 : decode cX7_readCall 153 = .ok (.istore 6, 2) := by decide +kernel
theorem dX7_readCall_155 : decode cX7_readCall 155 = .ok (.aload_n 0, 1) := by decide +kernel
theorem dX7_readCall_156 : decode cX7_readCall 156 = .ok (.invokevirtual 247, 3) := by decide +kernel
theorem dX7_readCall_159 : decode cX7_readCall 159 = .ok (.aload_n 0, 1) := by decide +kernel
theorem dX7_readCall_160 : decode cX7_readCall 160 = .ok (.getfield 34, 3) := by decide +kernel
theorem dX7_readCall_163 : decode cX7_readCall 163 = .ok (.iload 4, 2) := by decide +kernel
theorem dX7_readCall_165 : decode cX7_readCall 165 = .ok (.iload 5, 2) := by decide +kernel
theorem dX7_readCall_167 : decode cX7_readCall 167 = .ok (.ifCond .eq 18, 3) := by decide +kernel
theorem dX7_readCall_170 : decode cX7_readCall 170 = .ok (.aload_n 0, 1) := by decide +kernel
theorem dX7_readCall_171 : decode cX7_readCall 171 = .ok (.getfield 74, 3) := by decide +kernel
theorem dX7_readCall_174 : decode cX7_readCall 174 = .ok (.iload 6, 2) := by decide +kernel
theorem dX7_readCall_176 : decode cX7_readCall 176 = .ok (.iconst 1, 1) := by decide +kernel
theorem dX7_readCall_177 : decode cX7_readCall 177 = .ok (.iadd, 1) := by decide +kernel
theorem dX7_readCall_178 : decode cX7_readCall 178 = .ok (.if_icmp .ne 7, 3) := by decide +kernel
theorem dX7_readCall_181 : decode cX7_readCall 181 = .ok (.iconst 1, 1) := by decide +kernel
theorem dX7_readCall_182 : decode cX7_readCall 182 = .ok (.goto 4, 3) := by decide +kernel
theorem dX7_readCall_185 : decode cX7_readCall 185 = .ok (.iconst 0, 1) := by decide +kernel
theorem dX7_readCall_186 : decode cX7_readCall 186 = .ok (.invokevirtual 262, 3) := by decide +kernel
theorem dX7_readCall_189 : decode cX7_readCall 189 = .ok (.aload_n 0, 1) := by decide +kernel
theorem dX7_readCall_190 : decode cX7_readCall 190 = .ok (.getfield 80, 3) := by decide +kernel
theorem dX7_readCall_193 : decode cX7_readCall 193 = .ok (.bipush 44, 2) := by decide +kernel
theorem dX7_readCall_195 : decode cX7_readCall 195 = .ok (.if_icmp .eq 6, 3) := by decide +kernel
theorem dX7_readCall_198 : decode cX7_readCall 198 = .ok (.goto 13, 3) := by decide +kernel
theorem dX7_readCall_201 : decode cX7_readCall 201 = .ok (.aload_n 0, 1) := by decide +kernel
theorem dX7_readCall_202 : decode cX7_readCall 202 = .ok (.invokevirtual 77, 3) := by decide +kernel
theorem dX7_readCall_205 : decode cX7_readCall 205 = .ok (.iinc 3 1, 3) := by decide +kernel
theorem dX7_readCall_208 : decode cX7_readCall 208 = .ok (.goto (-111), 3) := by decide +kernel
theorem dX7_readCall_211 : decode cX7_readCall 211 = .ok (.aload_n 0, 1) := by decide +kernel
theorem dX7_readCall_212 : decode cX7_readCall 212 = .ok (.getfield 38, 3) := by decide +kernel
theorem dX7_readCall_215 : decode cX7_readCall 215 = .ok (.getfield 250, 3) := by decide +kernel
theorem dX7_readCall_218 : decode cX7_readCall 218 = .ok (.iload_n 1, 1) := by decide +kernel
theorem dX7_readCall_219 : decode cX7_readCall 219 = .ok (.aload_n 0, 1) := by decide +kernel
theorem dX7_readCall_220 : decode cX7_readCall 220 = .ok (.getfield 34, 3) := by decide +kernel
theorem dX7_readCall_223 : decode cX7_readCall 223 = .ok (.getfield 259, 3) := by decide +kernel
theorem dX7_readCall_226 : decode cX7_readCall 226 = .ok (.invokevirtual 127, 3) := by decide +kernel
theorem dX7_readCall_229 : decode cX7_readCall 229 = .ok (.aload_n 0, 1) := by decide +kernel
theorem dX7_readCall_230 : decode cX7_readCall 230 = .ok (.bipush 41, 2) := by decide +kernel
theorem dX7_readCall_232 : decode cX7_readCall 232 = .ok (.invokevirtual 172, 3) := by decide +kernel
theorem dX7_readCall_235 : decode cX7_readCall 235 = .ok (.aload_n 0, 1) := by decide +kernel
theorem dX7_readCall_236 : decode cX7_readCall 236 = .ok (.bipush 59, 2) := by decide +kernel
theorem dX7_readCall_238 : decode cX7_readCall 238 = .ok (.invokevirtual 135, 3) := by decide +kernel
theorem dX7_readCall_241 : decode cX7_readCall 241 = .ok (.return_, 1) := by decide +kernel
def bX7_readCall_211 (x1 : Int32) (t : zS) : zR := zbd (mX5_set 96 1000 x1 (t 51 7) t) fun r692 t693 => zbd (mX7_leave 41 t693) fun r695 t696 => zbd (mX7_expect 59 t696) fun r698 t699 => some (0, t699)
def bX7_readCall_186 (k97 : Int32 → Int32 → zS → zR) (x1 : Int32) (x3 : Int32) (y0 : Int32) (y1 : Int32) (t : zS) : zR := zbd (mX3_addArgument y1 y0 t) fun r701 t702 => if (t702 5 9) = 44 then zbd (mX7_step  t702) fun r704 t705 => zlet (x3 + 1) fun v707 => k97 x1 v707 t705 else bX7_readCall_211  x1 t702
def bX7_readCall_185 (k97 : Int32 → Int32 → zS → zR) (x1 : Int32) (x3 : Int32) (y0 : Int32) (t : zS) : zR := bX7_readCall_186 k97 x1 x3 0 y0 t
def bX7_readCall_147 (k97 : Int32 → Int32 → zS → zR) (x1 : Int32) (x3 : Int32) (x4 : Int32) (y0 : Int32) (t : zS) : zR := zlet (t 5 8) fun v708 => zbd (mX7_readExpressionr  t) fun r709 t710 => if y0 = 0 then bX7_readCall_185 k97 x1 x3 x4 t710 else if (t710 5 8) = (v708 + 1) then bX7_readCall_186 k97 x1 x3 1 x4 t710 else bX7_readCall_185 k97 x1 x3 x4 t710
def bX7_readCall_124 (k97 : Int32 → Int32 → zS → zR) (x1 : Int32) (x3 : Int32) (t : zS) : zR := zlet (t 51 6) fun v712 => if (t 5 9) = 17 then bX7_readCall_147 k97 x1 x3 v712 1 t else bX7_readCall_147 k97 x1 x3 v712 0 t
def bX7_readCall_97 (k97 : Int32 → Int32 → zS → zR) (x1 : Int32) (x3 : Int32) (t : zS) : zR := if 3000 ≤ x3 then bX7_readCall_211  x1 t else if 0 ≤ (t 5 12) then bX7_readCall_211  x1 t else if 0 < x3 then bX7_readCall_124 k97 x1 x3 t else if (t 5 9) = 41 then bX7_readCall_211  x1 t else bX7_readCall_124 k97 x1 x3 t
def lX7_readCall_97 : Nat → Int32 → Int32 → zS → zR
  | 0, _, _, _ => none
  | fu + 1, x1, x3, t => bX7_readCall_97 (lX7_readCall_97  fu) x1 x3 t
def bX7_readCall_29 (x1 : Int32) (t : zS) : zR := if (t 5 9) = 17 then zbd (mX7_mentionName 1 t) fun r713 t714 => zbd (mX5_set 92 1000 x1 (t714 5 11) t714) fun r716 t717 => zbd (mX7_step  t717) fun r719 t720 => zbd (mX7_enter 40 t720) fun r722 t723 => if r722 = 0 then some (0, t723) else zbd (mX5_set 94 1000 x1 (t723 51 7) t723) fun r725 t726 => lX7_readCall_97  zFU x1 0 t726 else zbd (mX7_refuse  t) fun r728 t729 => some (0, t729)
def mX7_readCall (x1 : Int32) (x2 : Int32) (t : zS) : zR := if x2 = 8 then zbd (mX10_kindAt ((t 5 8) + 1) t) fun r731 t732 => if r731 = 17 then zbd (mX7_readSlot x1 t732) fun r734 t735 => bX7_readCall_29  x1 t735 else bX7_readCall_29  x1 t732 else bX7_readCall_29  x1 t
set_option maxHeartbeats 4000000 in
set_option maxRecDepth 20000 in
theorem wbX7_readCall_211 {E : zE} {C : zC} {f : Nat} {ro : Int32 × zS} (hf : 304 ≤ f) (x1 : Int32) (t : zS) (hF : bX7_readCall_211  x1 t = some ro) : zJ E shC C cX7_readCall RX7 7 f none ro t 211 [(0, .ref (za E 5)), (1, .int x1)] [] := by
  unfold bX7_readCall_211 at hF
  refine z_aload_n 0 dX7_readCall_211 rfl rfl ?_
  refine z_getr fr_RX7_38 dX7_readCall_212 ?_
  refine z_getr fr_RX7_250 dX7_readCall_215 ?_
  refine z_iload_n 1 dX7_readCall_218 rfl rfl ?_
  refine z_aload_n 0 dX7_readCall_219 rfl rfl ?_
  refine z_getr fr_RX7_34 dX7_readCall_220 ?_
  refine z_geti fi_RX7_259 dX7_readCall_223 ?_
  obtain ⟨r692, t693, hc694, hF⟩ := zbd_at hF
  refine z_callVv (ctX5_set (E := E) (sh := shC) (f := f - 1) (by omega) (k := 96) (n := 1000) rfl rfl hc694) yy_X5_set yv_X5_set ob_C_96 lk_RX7_127 (by omega) rfl rfl (Nat.le_of_ble_eq_true rfl) dX7_readCall_226 ?_
  refine z_aload_n 0 dX7_readCall_229 rfl rfl ?_
  refine z_bipush (v := 41) dX7_readCall_230 (by decide) ?_
  obtain ⟨r695, t696, hc697, hF⟩ := zbd_at hF
  refine z_callVv (ctX7_leave (E := E) (f := f - 1) (by omega) hc697) yy_X7_leave yv_X7_leave ob_C_5 lk_RX7_172 (by omega) rfl rfl (Nat.le_of_ble_eq_true rfl) dX7_readCall_232 ?_
  refine z_aload_n 0 dX7_readCall_235 rfl rfl ?_
  refine z_bipush (v := 59) dX7_readCall_236 (by decide) ?_
  obtain ⟨r698, t699, hc700, hF⟩ := zbd_at hF
  refine z_callVv (ctX7_expect (E := E) (f := f - 1) (by omega) hc700) yy_X7_expect yv_X7_expect ob_C_5 lk_RX7_135 (by omega) rfl rfl (Nat.le_of_ble_eq_true rfl) dX7_readCall_238 ?_
  exact z_vret hF dX7_readCall_241
set_option maxHeartbeats 4000000 in
set_option maxRecDepth 20000 in
theorem wbX7_readCall_186 {E : zE} {C : zC} {f : Nat} {ro : Int32 × zS} (hf : 304 ≤ f) (k97 : Int32 → Int32 → zS → zR) (hk97 : ∀ (x1 x3 : Int32) (t : zS), k97 x1 x3 t = some ro → zJ E shC C cX7_readCall RX7 7 f none ro t 97 [(0, .ref (za E 5)), (1, .int x1), (3, .int x3)] []) (x1 : Int32) (x3 : Int32) (y0 : Int32) (y1 : Int32) (t : zS) (hF : bX7_readCall_186 k97 x1 x3 y0 y1 t = some ro) : zJ E shC C cX7_readCall RX7 7 f none ro t 186 [(0, .ref (za E 5)), (1, .int x1), (3, .int x3)] [.int y0, .int y1, .ref (za E 51)] := by
  unfold bX7_readCall_186 at hF
  obtain ⟨r701, t702, hc703, hF⟩ := zbd_at hF
  refine z_callVv (ctX3_addArgument (E := E) (f := f - 1) (by omega) hc703) yy_X3_addArgument yv_X3_addArgument ob_C_51 lk_RX7_262 (by omega) rfl rfl (Nat.le_of_ble_eq_true rfl) dX7_readCall_186 ?_
  refine z_aload_n 0 dX7_readCall_189 rfl rfl ?_
  refine z_geti fi_RX7_80 dX7_readCall_190 ?_
  refine z_bipush (v := 44) dX7_readCall_193 (by decide) ?_
  refine z_icmp_eq (tgt := 201) dX7_readCall_195 (by decide) (fun hc => ?_) (fun hc => ?_)
  · have hF := zif_t hc hF
    refine z_aload_n 0 dX7_readCall_201 rfl rfl ?_
    obtain ⟨r704, t705, hc706, hF⟩ := zbd_at hF
    refine z_callVv (ctX7_step (E := E) (f := f - 1) (by omega) hc706) yy_X7_step yv_X7_step ob_C_5 lk_RX7_77 (by omega) rfl rfl (Nat.le_of_ble_eq_true rfl) dX7_readCall_202 ?_
    obtain ⟨v707, ev707⟩ : ∃ y : Int32, y = (x3 + 1) := ⟨_, rfl⟩
    have hF := zlet_at ev707 hF
    refine z_iinc (v := v707) (lv' := [(3, .int v707), (0, .ref (za E 5)), (1, .int x1)]) (k := 2) dX7_readCall_205 rfl (by rw [ev707]; rfl) (by decide) rfl ?_
    refine z_goto (tgt := 97) dX7_readCall_208 (by decide) ?_
    refine z_sub [1, 2, 0] rfl ?_
    exact hk97 x1 v707 _ hF
  · have hF := zif_f hc hF
    refine z_goto (tgt := 211) dX7_readCall_198 (by decide) ?_
    refine z_sub [0, 1] rfl ?_
    exact wbX7_readCall_211 hf  x1 _ hF
set_option maxHeartbeats 4000000 in
set_option maxRecDepth 20000 in
theorem wbX7_readCall_185 {E : zE} {C : zC} {f : Nat} {ro : Int32 × zS} (hf : 304 ≤ f) (k97 : Int32 → Int32 → zS → zR) (hk97 : ∀ (x1 x3 : Int32) (t : zS), k97 x1 x3 t = some ro → zJ E shC C cX7_readCall RX7 7 f none ro t 97 [(0, .ref (za E 5)), (1, .int x1), (3, .int x3)] []) (x1 : Int32) (x3 : Int32) (y0 : Int32) (t : zS) (hF : bX7_readCall_185 k97 x1 x3 y0 t = some ro) : zJ E shC C cX7_readCall RX7 7 f none ro t 185 [(0, .ref (za E 5)), (1, .int x1), (3, .int x3)] [.int y0, .ref (za E 51)] := by
  unfold bX7_readCall_185 at hF
  refine z_iconst (v := 0) dX7_readCall_185 (by decide) ?_
  exact wbX7_readCall_186 hf k97 hk97 x1 x3 0 y0 _ hF
set_option maxHeartbeats 4000000 in
set_option maxRecDepth 20000 in
theorem wbX7_readCall_147 {E : zE} {C : zC} {f : Nat} {ro : Int32 × zS} (hf : 304 ≤ f) (k97 : Int32 → Int32 → zS → zR) (hk97 : ∀ (x1 x3 : Int32) (t : zS), k97 x1 x3 t = some ro → zJ E shC C cX7_readCall RX7 7 f none ro t 97 [(0, .ref (za E 5)), (1, .int x1), (3, .int x3)] []) (x1 : Int32) (x3 : Int32) (x4 : Int32) (y0 : Int32) (t : zS) (hF : bX7_readCall_147 k97 x1 x3 x4 y0 t = some ro) : zJ E shC C cX7_readCall RX7 7 f none ro t 147 [(0, .ref (za E 5)), (1, .int x1), (3, .int x3), (4, .int x4)] [.int y0] := by
  unfold bX7_readCall_147 at hF
  refine z_istore (lv' := [(5, .int y0), (0, .ref (za E 5)), (1, .int x1), (3, .int x3), (4, .int x4)]) dX7_readCall_147 (by decide) rfl ?_
  refine z_aload_n 1 dX7_readCall_149 rfl rfl ?_
  refine z_geti fi_RX7_74 dX7_readCall_150 ?_
  refine z_topi (fun v708 ev708 => ?_)
  have hF := zlet_at ev708 hF
  refine z_istore (lv' := [(6, .int v708), (5, .int y0), (0, .ref (za E 5)), (1, .int x1), (3, .int x3), (4, .int x4)]) dX7_readCall_153 (by decide) rfl ?_
  refine z_aload_n 2 dX7_readCall_155 rfl rfl ?_
  obtain ⟨r709, t710, hc711, hF⟩ := zbd_at hF
  refine z_callVv (ctX7_readExpressionr (E := E) (f := f - 1) (by omega) hc711) yy_X7_readExpression yv_X7_readExpression ob_C_5 lk_RX7_247 (by omega) rfl rfl (Nat.le_of_ble_eq_true rfl) dX7_readCall_156 ?_
  refine z_aload_n 2 dX7_readCall_159 rfl rfl ?_
  refine z_getr fr_RX7_34 dX7_readCall_160 ?_
  refine z_iload 5 dX7_readCall_163 rfl ?_
  refine z_iload 1 dX7_readCall_165 rfl ?_
  refine z_if_eq (tgt := 185) dX7_readCall_167 (by decide) (fun hc => ?_) (fun hc => ?_)
  · have hF := zif_t hc hF
    refine z_sub [2, 3, 4] rfl ?_
    exact wbX7_readCall_185 hf k97 hk97 x1 x3 x4 _ hF
  · have hF := zif_f hc hF
    refine z_aload_n 2 dX7_readCall_170 rfl rfl ?_
    refine z_geti fi_RX7_74 dX7_readCall_171 ?_
    refine z_iload 0 dX7_readCall_174 rfl ?_
    refine z_iconst (v := 1) dX7_readCall_176 (by decide) ?_
    refine z_iadd dX7_readCall_177 ?_
    refine z_icmp_ne (tgt := 185) dX7_readCall_178 (by decide) (fun hc => ?_) (fun hc => ?_)
    · have hF := zif_f hc hF
      refine z_sub [2, 3, 4] rfl ?_
      exact wbX7_readCall_185 hf k97 hk97 x1 x3 x4 _ hF
    · have hF := zif_t hc hF
      refine z_iconst (v := 1) dX7_readCall_181 (by decide) ?_
      refine z_goto (tgt := 186) dX7_readCall_182 (by decide) ?_
      refine z_sub [2, 3, 4] rfl ?_
      exact wbX7_readCall_186 hf k97 hk97 x1 x3 1 x4 _ hF
set_option maxHeartbeats 4000000 in
set_option maxRecDepth 20000 in
theorem wbX7_readCall_124 {E : zE} {C : zC} {f : Nat} {ro : Int32 × zS} (hf : 304 ≤ f) (k97 : Int32 → Int32 → zS → zR) (hk97 : ∀ (x1 x3 : Int32) (t : zS), k97 x1 x3 t = some ro → zJ E shC C cX7_readCall RX7 7 f none ro t 97 [(0, .ref (za E 5)), (1, .int x1), (3, .int x3)] []) (x1 : Int32) (x3 : Int32) (t : zS) (hF : bX7_readCall_124 k97 x1 x3 t = some ro) : zJ E shC C cX7_readCall RX7 7 f none ro t 124 [(0, .ref (za E 5)), (1, .int x1), (3, .int x3)] [] := by
  unfold bX7_readCall_124 at hF
  refine z_aload_n 0 dX7_readCall_124 rfl rfl ?_
  refine z_getr fr_RX7_34 dX7_readCall_125 ?_
  refine z_geti fi_RX7_244 dX7_readCall_128 ?_
  refine z_topi (fun v712 ev712 => ?_)
  have hF := zlet_at ev712 hF
  refine z_istore (lv' := [(4, .int v712), (0, .ref (za E 5)), (1, .int x1), (3, .int x3)]) dX7_readCall_131 (by decide) rfl ?_
  refine z_aload_n 1 dX7_readCall_133 rfl rfl ?_
  refine z_geti fi_RX7_80 dX7_readCall_134 ?_
  refine z_bipush (v := 17) dX7_readCall_137 (by decide) ?_
  refine z_icmp_ne (tgt := 146) dX7_readCall_139 (by decide) (fun hc => ?_) (fun hc => ?_)
  · have hF := zif_f hc hF
    refine z_iconst (v := 0) dX7_readCall_146 (by decide) ?_
    refine z_sub [1, 2, 3, 0] rfl ?_
    exact wbX7_readCall_147 hf k97 hk97 x1 x3 v712 0 _ hF
  · have hF := zif_t hc hF
    refine z_iconst (v := 1) dX7_readCall_142 (by decide) ?_
    refine z_goto (tgt := 147) dX7_readCall_143 (by decide) ?_
    refine z_sub [1, 2, 3, 0] rfl ?_
    exact wbX7_readCall_147 hf k97 hk97 x1 x3 v712 1 _ hF
set_option maxHeartbeats 4000000 in
set_option maxRecDepth 20000 in
theorem wbX7_readCall_97 {E : zE} {C : zC} {f : Nat} {ro : Int32 × zS} (hf : 304 ≤ f) (k97 : Int32 → Int32 → zS → zR) (hk97 : ∀ (x1 x3 : Int32) (t : zS), k97 x1 x3 t = some ro → zJ E shC C cX7_readCall RX7 7 f none ro t 97 [(0, .ref (za E 5)), (1, .int x1), (3, .int x3)] []) (x1 : Int32) (x3 : Int32) (t : zS) (hF : bX7_readCall_97 k97 x1 x3 t = some ro) : zJ E shC C cX7_readCall RX7 7 f none ro t 97 [(0, .ref (za E 5)), (1, .int x1), (3, .int x3)] [] := by
  unfold bX7_readCall_97 at hF
  refine z_iload_n 2 dX7_readCall_97 rfl rfl ?_
  refine z_sipush (v := 3000) dX7_readCall_98 (by decide) ?_
  refine z_icmp_ge (tgt := 211) dX7_readCall_101 (by decide) (fun hc => ?_) (fun hc => ?_)
  · have hF := zif_t hc hF
    refine z_sub [0, 1] rfl ?_
    exact wbX7_readCall_211 hf  x1 _ hF
  · have hF := zif_f hc hF
    refine z_aload_n 0 dX7_readCall_104 rfl rfl ?_
    refine z_geti fi_RX7_68 dX7_readCall_105 ?_
    refine z_if_ge (tgt := 211) dX7_readCall_108 (by decide) (fun hc => ?_) (fun hc => ?_)
    · have hF := zif_t hc hF
      refine z_sub [0, 1] rfl ?_
      exact wbX7_readCall_211 hf  x1 _ hF
    · have hF := zif_f hc hF
      refine z_iload_n 2 dX7_readCall_111 rfl rfl ?_
      refine z_if_gt (tgt := 124) dX7_readCall_112 (by decide) (fun hc => ?_) (fun hc => ?_)
      · have hF := zif_t hc hF
        exact wbX7_readCall_124 hf k97 hk97 x1 x3 _ hF
      · have hF := zif_f hc hF
        refine z_aload_n 0 dX7_readCall_115 rfl rfl ?_
        refine z_geti fi_RX7_80 dX7_readCall_116 ?_
        refine z_bipush (v := 41) dX7_readCall_119 (by decide) ?_
        refine z_icmp_eq (tgt := 211) dX7_readCall_121 (by decide) (fun hc => ?_) (fun hc => ?_)
        · have hF := zif_t hc hF
          refine z_sub [0, 1] rfl ?_
          exact wbX7_readCall_211 hf  x1 _ hF
        · have hF := zif_f hc hF
          exact wbX7_readCall_124 hf k97 hk97 x1 x3 _ hF
set_option maxHeartbeats 4000000 in
set_option maxRecDepth 20000 in
theorem wlX7_readCall_97 {E : zE} {C : zC} {f : Nat} {ro : Int32 × zS} (hf : 304 ≤ f) (fu : Nat) : ∀ (x1 x3 : Int32) (t : zS), lX7_readCall_97  fu x1 x3 t = some ro → zJ E shC C cX7_readCall RX7 7 f none ro t 97 [(0, .ref (za E 5)), (1, .int x1), (3, .int x3)] [] := by
  induction fu with
  | zero => intro x1 x3 t hF; cases hF
  | succ fu ih => intro x1 x3 t hF; exact wbX7_readCall_97 hf (lX7_readCall_97  fu) ih x1 x3 t hF
set_option maxHeartbeats 4000000 in
set_option maxRecDepth 20000 in
theorem wbX7_readCall_29 {E : zE} {C : zC} {f : Nat} {ro : Int32 × zS} (hf : 304 ≤ f) (x1 : Int32) (t : zS) (hF : bX7_readCall_29  x1 t = some ro) : zJ E shC C cX7_readCall RX7 7 f none ro t 29 [(0, .ref (za E 5)), (1, .int x1)] [] := by
  unfold bX7_readCall_29 at hF
  refine z_aload_n 0 dX7_readCall_29 rfl rfl ?_
  refine z_geti fi_RX7_80 dX7_readCall_30 ?_
  refine z_bipush (v := 17) dX7_readCall_33 (by decide) ?_
  refine z_icmp_eq (tgt := 43) dX7_readCall_35 (by decide) (fun hc => ?_) (fun hc => ?_)
  · have hF := zif_t hc hF
    refine z_aload_n 0 dX7_readCall_43 rfl rfl ?_
    refine z_iconst (v := 1) dX7_readCall_44 (by decide) ?_
    obtain ⟨r713, t714, hc715, hF⟩ := zbd_at hF
    refine z_callVv (ctX7_mentionName (E := E) (f := f - 1) (by omega) hc715) yy_X7_mentionName yv_X7_mentionName ob_C_5 lk_RX7_166 (by omega) rfl rfl (Nat.le_of_ble_eq_true rfl) dX7_readCall_45 ?_
    refine z_aload_n 0 dX7_readCall_48 rfl rfl ?_
    refine z_getr fr_RX7_38 dX7_readCall_49 ?_
    refine z_getr fr_RX7_238 dX7_readCall_52 ?_
    refine z_iload_n 1 dX7_readCall_55 rfl rfl ?_
    refine z_aload_n 0 dX7_readCall_56 rfl rfl ?_
    refine z_geti fi_RX7_121 dX7_readCall_57 ?_
    obtain ⟨r716, t717, hc718, hF⟩ := zbd_at hF
    refine z_callVv (ctX5_set (E := E) (sh := shC) (f := f - 1) (by omega) (k := 92) (n := 1000) rfl rfl hc718) yy_X5_set yv_X5_set ob_C_92 lk_RX7_127 (by omega) rfl rfl (Nat.le_of_ble_eq_true rfl) dX7_readCall_60 ?_
    refine z_aload_n 0 dX7_readCall_63 rfl rfl ?_
    obtain ⟨r719, t720, hc721, hF⟩ := zbd_at hF
    refine z_callVv (ctX7_step (E := E) (f := f - 1) (by omega) hc721) yy_X7_step yv_X7_step ob_C_5 lk_RX7_77 (by omega) rfl rfl (Nat.le_of_ble_eq_true rfl) dX7_readCall_64 ?_
    refine z_aload_n 0 dX7_readCall_67 rfl rfl ?_
    refine z_bipush (v := 40) dX7_readCall_68 (by decide) ?_
    obtain ⟨r722, t723, hc724, hF⟩ := zbd_at hF
    refine z_callVi (ctX7_enter (E := E) (f := f - 1) (by omega) hc724) yy_X7_enter yv_X7_enter ob_C_5 lk_RX7_169 (by omega) rfl rfl (Nat.le_of_ble_eq_true rfl) dX7_readCall_70 ?_
    refine z_if_ne (tgt := 77) dX7_readCall_73 (by decide) (fun hc => ?_) (fun hc => ?_)
    · have hF := zif_f hc hF
      refine z_aload_n 0 dX7_readCall_77 rfl rfl ?_
      refine z_getr fr_RX7_38 dX7_readCall_78 ?_
      refine z_getr fr_RX7_241 dX7_readCall_81 ?_
      refine z_iload_n 1 dX7_readCall_84 rfl rfl ?_
      refine z_aload_n 0 dX7_readCall_85 rfl rfl ?_
      refine z_getr fr_RX7_34 dX7_readCall_86 ?_
      refine z_geti fi_RX7_259 dX7_readCall_89 ?_
      obtain ⟨r725, t726, hc727, hF⟩ := zbd_at hF
      refine z_callVv (ctX5_set (E := E) (sh := shC) (f := f - 1) (by omega) (k := 94) (n := 1000) rfl rfl hc727) yy_X5_set yv_X5_set ob_C_94 lk_RX7_127 (by omega) rfl rfl (Nat.le_of_ble_eq_true rfl) dX7_readCall_92 ?_
      refine z_iconst (v := 0) dX7_readCall_95 (by decide) ?_
      refine z_istore_n (lv' := [(3, .int 0), (0, .ref (za E 5)), (1, .int x1)]) dX7_readCall_96 rfl (by decide) rfl ?_
      refine z_sub [1, 2, 0] rfl ?_
      exact wlX7_readCall_97 hf  zFU x1 0 _ hF
    · have hF := zif_t hc hF
      exact z_vret hF dX7_readCall_76
  · have hF := zif_f hc hF
    refine z_aload_n 0 dX7_readCall_38 rfl rfl ?_
    obtain ⟨r728, t729, hc730, hF⟩ := zbd_at hF
    refine z_callVv (ctX7_refuse (E := E) (f := f - 1) (by omega) hc730) yy_X7_refuse yv_X7_refuse ob_C_5 lk_RX7_89 (by omega) rfl rfl (Nat.le_of_ble_eq_true rfl) dX7_readCall_39 ?_
    exact z_vret hF dX7_readCall_42
set_option maxHeartbeats 4000000 in
set_option maxRecDepth 20000 in
theorem ctX7_readCall {E : zE} {f : Nat} (hf : 304 ≤ f) {x1 : Int32} {x2 : Int32} {t : zS} {ro : Int32 × zS} (hF : mX7_readCall  x1 x2 t = some ro) : zM E shC f yX7_readCall cX7_readCall 7 none [.ref (za E 5), .int x1, .int x2] t ro := by
  refine zM_of (by decide) (Nat.le_of_ble_eq_true rfl) (fun C => ?_)
  show zJ E shC C cX7_readCall RX7 7 f none ro t 0 [(0, .ref (za E 5)), (1, .int x1), (2, .int x2)] []
  unfold mX7_readCall at hF
  refine z_iload_n 2 dX7_readCall_0 rfl rfl ?_
  refine z_bipush (v := 8) dX7_readCall_1 (by decide) ?_
  refine z_icmp_ne (tgt := 29) dX7_readCall_3 (by decide) (fun hc => ?_) (fun hc => ?_)
  · have hF := zif_f hc hF
    refine z_sub [0, 1] rfl ?_
    exact wbX7_readCall_29 hf  x1 _ hF
  · have hF := zif_t hc hF
    refine z_aload_n 0 dX7_readCall_6 rfl rfl ?_
    refine z_getr fr_RX7_12 dX7_readCall_7 ?_
    refine z_aload_n 0 dX7_readCall_10 rfl rfl ?_
    refine z_geti fi_RX7_74 dX7_readCall_11 ?_
    refine z_iconst (v := 1) dX7_readCall_14 (by decide) ?_
    refine z_iadd dX7_readCall_15 ?_
    obtain ⟨r731, t732, hc733, hF⟩ := zbd_at hF
    refine z_callVi (ctX10_kindAt (E := E) (f := f - 1) (by omega) hc733) yy_X10_kindAt yv_X10_kindAt ob_C_50 lk_RX7_256 (by omega) rfl rfl (Nat.le_of_ble_eq_true rfl) dX7_readCall_16 ?_
    refine z_bipush (v := 17) dX7_readCall_19 (by decide) ?_
    refine z_icmp_ne (tgt := 29) dX7_readCall_21 (by decide) (fun hc => ?_) (fun hc => ?_)
    · have hF := zif_f hc hF
      refine z_sub [0, 1] rfl ?_
      exact wbX7_readCall_29 hf  x1 _ hF
    · have hF := zif_t hc hF
      refine z_aload_n 0 dX7_readCall_24 rfl rfl ?_
      refine z_iload_n 1 dX7_readCall_25 rfl rfl ?_
      obtain ⟨r734, t735, hc736, hF⟩ := zbd_at hF
      refine z_callVv (ctX7_readSlot (E := E) (f := f - 1) (by omega) hc736) yy_X7_readSlot yv_X7_readSlot ob_C_5 lk_RX7_216 (by omega) rfl rfl (Nat.le_of_ble_eq_true rfl) dX7_readCall_26 ?_
      refine z_sub [0, 1] rfl ?_
      exact wbX7_readCall_29 hf  x1 _ hF
-- SessionHouse$Statements.findBranch(II)I
theorem dX9_findBranch_0 : decode cX9_findBranch 0 = .ok (.aload_n 0, 1) := by decide +kernel
theorem dX9_findBranch_1 : decode cX9_findBranch 1 = .ok (.getfield 44, 3) := by decide +kernel
theorem dX9_findBranch_4 : decode cX9_findBranch 4 = .ok (.iload_n 1, 1) := by decide +kernel
theorem dX9_findBranch_5 : decode cX9_findBranch 5 = .ok (.invokevirtual 73, 3) := by decide +kernel
theorem dX9_findBranch_8 : decode cX9_findBranch 8 = .ok (.istore_n 3, 1) := by decide +kernel
theorem dX9_findBranch_9 : decode cX9_findBranch 9 = .ok (.iconst 0, 1) := by decide +kernel
theorem dX9_findBranch_10 : decode cX9_findBranch 10 = .ok (.istore 4, 2) := by decide +kernel
theorem dX9_findBranch_12 : decode cX9_findBranch 12 = .ok (.iload 4, 2) := by decide +kernel
theorem dX9_findBranch_14 : decode cX9_findBranch 14 = .ok (.sipush 1600, 3) := by decide +kernel
theorem dX9_findBranch_17 : decode cX9_findBranch 17 = .ok (.if_icmp .ge 36, 3) := by decide +kernel
theorem dX9_findBranch_20 : decode cX9_findBranch 20 = .ok (.iload_n 3, 1) := by decide +kernel
theorem dX9_findBranch_21 : decode cX9_findBranch 21 = .ok (.ifCond .lt 32, 3) := by decide +kernel
theorem dX9_findBranch_24 : decode cX9_findBranch 24 = .ok (.aload_n 0, 1) := by decide +kernel
theorem dX9_findBranch_25 : decode cX9_findBranch 25 = .ok (.getfield 50, 3) := by decide +kernel
theorem dX9_findBranch_28 : decode cX9_findBranch 28 = .ok (.iload_n 3, 1) := by decide +kernel
theorem dX9_findBranch_29 : decode cX9_findBranch 29 = .ok (.invokevirtual 73, 3) := by decide +kernel
theorem dX9_findBranch_32 : decode cX9_findBranch 32 = .ok (.iload_n 2, 1) := by decide +kernel
theorem dX9_findBranch_33 : decode cX9_findBranch 33 = .ok (.if_icmp .ne 5, 3) := by decide +kernel
theorem dX9_findBranch_36 : decode cX9_findBranch 36 = .ok (.iload_n 3, 1) := by decide +kernel
theorem dX9_findBranch_37 : decode cX9_findBranch 37 = .ok (.ireturn, 1) := by decide +kernel
theorem dX9_findBranch_38 : decode cX9_findBranch 38 = .ok (.aload_n 0, 1) := by decide +kernel
theorem dX9_findBranch_39 : decode cX9_findBranch 39 = .ok (.getfield 59, 3) := by decide +kernel
theorem dX9_findBranch_42 : decode cX9_findBranch 42 = .ok (.iload_n 3, 1) := by decide +kernel
theorem dX9_findBranch_43 : decode cX9_findBranch 43 = .ok (.invokevirtual 73, 3) := by decide +kernel
theorem dX9_findBranch_46 : decode cX9_findBranch 46 = .ok (.istore_n 3, 1) := by decide +kernel
theorem dX9_findBranch_47 : decode cX9_findBranch 47 = .ok (.iinc 4 1, 3) := by decide +kernel
theorem dX9_findBranch_50 : decode cX9_findBranch 50 = .ok (.goto (-38), 3) := by decide +kernel
theorem dX9_findBranch_53 : decode cX9_findBranch 53 = .ok (.iconst (-1), 1) := by decide +kernel
theorem dX9_findBranch_54 : decode cX9_findBranch 54 = .ok (.ireturn, 1) := by decide +kernel
def bX9_findBranch_12 (k12 : Int32 → Int32 → Int32 → zS → zR) (x2 : Int32) (x3 : Int32) (x4 : Int32) (t : zS) : zR := if 1600 ≤ x4 then some ((-1), t) else if x3 < 0 then some ((-1), t) else zbd (mX5_get 108 1600 x3 t) fun r737 t738 => if r737 = x2 then some (x3, t738) else zbd (mX5_get 114 1600 x3 t738) fun r740 t741 => zlet (x4 + 1) fun v743 => k12 x2 r740 v743 t741
def lX9_findBranch_12 : Nat → Int32 → Int32 → Int32 → zS → zR
  | 0, _, _, _, _ => none
  | fu + 1, x2, x3, x4, t => bX9_findBranch_12 (lX9_findBranch_12  fu) x2 x3 x4 t
def mX9_findBranch (x1 : Int32) (x2 : Int32) (t : zS) : zR := zbd (mX5_get 104 1000 x1 t) fun r744 t745 => lX9_findBranch_12  zFU x2 r744 0 t745
set_option maxHeartbeats 4000000 in
set_option maxRecDepth 20000 in
theorem wbX9_findBranch_12 {E : zE} {C : zC} {f : Nat} {ro : Int32 × zS} (hf : 2 ≤ f) (k12 : Int32 → Int32 → Int32 → zS → zR) (hk12 : ∀ (x2 x3 x4 : Int32) (t : zS), k12 x2 x3 x4 t = some ro → zJ E shC C cX9_findBranch RX9 5 f (some .int) ro t 12 [(0, .ref (za E 52)), (2, .int x2), (3, .int x3), (4, .int x4)] []) (x2 : Int32) (x3 : Int32) (x4 : Int32) (t : zS) (hF : bX9_findBranch_12 k12 x2 x3 x4 t = some ro) : zJ E shC C cX9_findBranch RX9 5 f (some .int) ro t 12 [(0, .ref (za E 52)), (2, .int x2), (3, .int x3), (4, .int x4)] [] := by
  unfold bX9_findBranch_12 at hF
  refine z_iload 3 dX9_findBranch_12 rfl ?_
  refine z_sipush (v := 1600) dX9_findBranch_14 (by decide) ?_
  refine z_icmp_ge (tgt := 53) dX9_findBranch_17 (by decide) (fun hc => ?_) (fun hc => ?_)
  · have hF := zif_t hc hF
    refine z_iconst (v := (-1)) dX9_findBranch_53 (by decide) ?_
    exact z_iret hF dX9_findBranch_54
  · have hF := zif_f hc hF
    refine z_iload_n 2 dX9_findBranch_20 rfl rfl ?_
    refine z_if_lt (tgt := 53) dX9_findBranch_21 (by decide) (fun hc => ?_) (fun hc => ?_)
    · have hF := zif_t hc hF
      refine z_iconst (v := (-1)) dX9_findBranch_53 (by decide) ?_
      exact z_iret hF dX9_findBranch_54
    · have hF := zif_f hc hF
      refine z_aload_n 0 dX9_findBranch_24 rfl rfl ?_
      refine z_getr fr_RX9_50 dX9_findBranch_25 ?_
      refine z_iload_n 2 dX9_findBranch_28 rfl rfl ?_
      obtain ⟨r737, t738, hc739, hF⟩ := zbd_at hF
      refine z_callVi (ctX5_get (E := E) (sh := shC) (f := f - 1) (by omega) (k := 108) (n := 1600) rfl rfl hc739) yy_X5_get yv_X5_get ob_C_108 lk_RX9_73 (by omega) rfl rfl (Nat.le_of_ble_eq_true rfl) dX9_findBranch_29 ?_
      refine z_iload_n 1 dX9_findBranch_32 rfl rfl ?_
      refine z_icmp_ne (tgt := 38) dX9_findBranch_33 (by decide) (fun hc => ?_) (fun hc => ?_)
      · have hF := zif_f hc hF
        refine z_aload_n 0 dX9_findBranch_38 rfl rfl ?_
        refine z_getr fr_RX9_59 dX9_findBranch_39 ?_
        refine z_iload_n 2 dX9_findBranch_42 rfl rfl ?_
        obtain ⟨r740, t741, hc742, hF⟩ := zbd_at hF
        refine z_callVi (ctX5_get (E := E) (sh := shC) (f := f - 1) (by omega) (k := 114) (n := 1600) rfl rfl hc742) yy_X5_get yv_X5_get ob_C_114 lk_RX9_73 (by omega) rfl rfl (Nat.le_of_ble_eq_true rfl) dX9_findBranch_43 ?_
        refine z_istore_n (lv' := [(3, .int r740), (0, .ref (za E 52)), (2, .int x2), (4, .int x4)]) dX9_findBranch_46 rfl (by decide) rfl ?_
        obtain ⟨v743, ev743⟩ : ∃ y : Int32, y = (x4 + 1) := ⟨_, rfl⟩
        have hF := zlet_at ev743 hF
        refine z_iinc (v := v743) (lv' := [(4, .int v743), (3, .int r740), (0, .ref (za E 52)), (2, .int x2)]) (k := 3) dX9_findBranch_47 rfl (by rw [ev743]; rfl) (by decide) rfl ?_
        refine z_goto (tgt := 12) dX9_findBranch_50 (by decide) ?_
        refine z_sub [2, 3, 1, 0] rfl ?_
        exact hk12 x2 r740 v743 _ hF
      · have hF := zif_t hc hF
        refine z_iload_n 2 dX9_findBranch_36 rfl rfl ?_
        exact z_iret hF dX9_findBranch_37
set_option maxHeartbeats 4000000 in
set_option maxRecDepth 20000 in
theorem wlX9_findBranch_12 {E : zE} {C : zC} {f : Nat} {ro : Int32 × zS} (hf : 2 ≤ f) (fu : Nat) : ∀ (x2 x3 x4 : Int32) (t : zS), lX9_findBranch_12  fu x2 x3 x4 t = some ro → zJ E shC C cX9_findBranch RX9 5 f (some .int) ro t 12 [(0, .ref (za E 52)), (2, .int x2), (3, .int x3), (4, .int x4)] [] := by
  induction fu with
  | zero => intro x2 x3 x4 t hF; cases hF
  | succ fu ih => intro x2 x3 x4 t hF; exact wbX9_findBranch_12 hf (lX9_findBranch_12  fu) ih x2 x3 x4 t hF
set_option maxHeartbeats 4000000 in
set_option maxRecDepth 20000 in
theorem ctX9_findBranch {E : zE} {f : Nat} (hf : 2 ≤ f) {x1 : Int32} {x2 : Int32} {t : zS} {ro : Int32 × zS} (hF : mX9_findBranch  x1 x2 t = some ro) : zM E shC f yX9_findBranch cX9_findBranch 5 (some .int) [.ref (za E 52), .int x1, .int x2] t ro := by
  refine zM_of (by decide) (Nat.le_of_ble_eq_true rfl) (fun C => ?_)
  show zJ E shC C cX9_findBranch RX9 5 f (some .int) ro t 0 [(0, .ref (za E 52)), (1, .int x1), (2, .int x2)] []
  unfold mX9_findBranch at hF
  refine z_aload_n 0 dX9_findBranch_0 rfl rfl ?_
  refine z_getr fr_RX9_44 dX9_findBranch_1 ?_
  refine z_iload_n 1 dX9_findBranch_4 rfl rfl ?_
  obtain ⟨r744, t745, hc746, hF⟩ := zbd_at hF
  refine z_callVi (ctX5_get (E := E) (sh := shC) (f := f - 1) (by omega) (k := 104) (n := 1000) rfl rfl hc746) yy_X5_get yv_X5_get ob_C_104 lk_RX9_73 (by omega) rfl rfl (Nat.le_of_ble_eq_true rfl) dX9_findBranch_5 ?_
  refine z_istore_n (lv' := [(3, .int r744), (0, .ref (za E 52)), (1, .int x1), (2, .int x2)]) dX9_findBranch_8 rfl (by decide) rfl ?_
  refine z_iconst (v := 0) dX9_findBranch_9 (by decide) ?_
  refine z_istore (lv' := [(4, .int 0), (3, .int r744), (0, .ref (za E 52)), (1, .int x1), (2, .int x2)]) dX9_findBranch_10 (by decide) rfl ?_
  refine z_sub [2, 4, 1, 0] rfl ?_
  exact wlX9_findBranch_12 hf  zFU x2 r744 0 _ hF
