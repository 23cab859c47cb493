-- SessionHouse$Ints.set(II)V
theorem dX5_set_0 : decode cX5_set 0 = .ok (.iload_n 1, 1) := by decide +kernel
theorem dX5_set_1 : decode cX5_set 1 = .ok (.ifCond .lt 19, 3) := by decide +kernel
theorem dX5_set_4 : decode cX5_set 4 = .ok (.iload_n 1, 1) := by decide +kernel
theorem dX5_set_5 : decode cX5_set 5 = .ok (.aload_n 0, 1) := by decide +kernel
theorem dX5_set_6 : decode cX5_set 6 = .ok (.getfield 13, 3) := by decide +kernel
theorem dX5_set_9 : decode cX5_set 9 = .ok (.arraylength, 1) := by decide +kernel
theorem dX5_set_10 : decode cX5_set 10 = .ok (.if_icmp .ge 10, 3) := by decide +kernel
theorem dX5_set_13 : decode cX5_set 13 = .ok (.aload_n 0, 1) := by decide +kernel
theorem dX5_set_14 : decode cX5_set 14 = .ok (.getfield 13, 3) := by decide +kernel
theorem dX5_set_17 : decode cX5_set 17 = .ok (.iload_n 1, 1) := by decide +kernel
theorem dX5_set_18 : decode cX5_set 18 = .ok (.iload_n 2, 1) := by decide +kernel
theorem dX5_set_19 : decode cX5_set 19 = .ok (.iastore, 1) := by decide +kernel
theorem dX5_set_20 : decode cX5_set 20 = .ok (.return_, 1) := by decide +kernel
def mX5_set (k n : Nat) (x1 : Int32) (x2 : Int32) (t : zS) : zR := if x1 < 0 then some (0, t) else if (Int32.ofNat n) ≤ x1 then some (0, t) else zwr t (k + 1) n x1 x2 fun t2 => some (0, t2)
set_option maxHeartbeats 4000000 in
set_option maxRecDepth 20000 in
theorem ctX5_set {E : zE} {sh : zSh} {f : Nat} (hf : 1 ≤ f) {k n : Nat} (hI : sh[k]? = some (.inr (5, [some (k + 1)]))) (hA : sh[k + 1]? = some (.inl (0, n))) {x1 : Int32} {x2 : Int32} {t : zS} {ro : Int32 × zS} (hF : mX5_set k n x1 x2 t = some ro) : zM E sh f yX5_set cX5_set 3 none [.ref (za E k), .int x1, .int x2] t ro := by
  refine zM_of (by decide) (Nat.le_of_ble_eq_true rfl) (fun C => ?_)
  show zJ E sh C cX5_set RX5 3 f none ro t 0 [(0, .ref (za E k)), (1, .int x1), (2, .int x2)] []
  unfold mX5_set at hF
  refine z_iload_n 1 dX5_set_0 rfl rfl ?_
  refine z_if_lt (tgt := 20) dX5_set_1 (by decide) (fun hc => ?_) (fun hc => ?_)
  · have hF := zif_t hc hF
    exact z_vret hF dX5_set_20
  · have hF := zif_f hc hF
    refine z_iload_n 1 dX5_set_4 rfl rfl ?_
    refine z_aload_n 0 dX5_set_5 rfl rfl ?_
    refine z_getr (zFr_ints hI) dX5_set_6 ?_
    refine z_alen hA rfl rfl dX5_set_9 ?_
    refine z_icmp_ge (tgt := 20) dX5_set_10 (by decide) (fun hc => ?_) (fun hc => ?_)
    · have hF := zif_t hc hF
      exact z_vret hF dX5_set_20
    · have hF := zif_f hc hF
      refine z_aload_n 0 dX5_set_13 rfl rfl ?_
      refine z_getr (zFr_ints hI) dX5_set_14 ?_
      refine z_iload_n 1 dX5_set_17 rfl rfl ?_
      refine z_iload_n 2 dX5_set_18 rfl rfl ?_
      obtain ⟨hi1, hF⟩ := zwr_at hF
      refine z_iast (n := n) hA hi1 dX5_set_19 (fun t2 et2 => ?_)
      have hF := hF t2 et2
      exact z_vret hF dX5_set_20
-- SessionHouse.append(I)V
theorem dX11_append_0 : decode cX11_append 0 = .ok (.bipush 24, 2) := by decide +kernel
theorem dX11_append_2 : decode cX11_append 2 = .ok (.istore_n 2, 1) := by decide +kernel
theorem dX11_append_3 : decode cX11_append 3 = .ok (.iload_n 2, 1) := by decide +kernel
theorem dX11_append_4 : decode cX11_append 4 = .ok (.ifCond .lt 37, 3) := by decide +kernel
theorem dX11_append_7 : decode cX11_append 7 = .ok (.aload_n 0, 1) := by decide +kernel
theorem dX11_append_8 : decode cX11_append 8 = .ok (.getfield 14, 3) := by decide +kernel
theorem dX11_append_11 : decode cX11_append 11 = .ok (.aload_n 0, 1) := by decide +kernel
theorem dX11_append_12 : decode cX11_append 12 = .ok (.getfield 70, 3) := by decide +kernel
theorem dX11_append_15 : decode cX11_append 15 = .ok (.iload_n 1, 1) := by decide +kernel
theorem dX11_append_16 : decode cX11_append 16 = .ok (.iload_n 2, 1) := by decide +kernel
theorem dX11_append_17 : decode cX11_append 17 = .ok (.iushr, 1) := by decide +kernel
theorem dX11_append_18 : decode cX11_append 18 = .ok (.sipush 255, 3) := by decide +kernel
theorem dX11_append_21 : decode cX11_append 21 = .ok (.iand, 1) := by decide +kernel
theorem dX11_append_22 : decode cX11_append 22 = .ok (.invokevirtual 76, 3) := by decide +kernel
theorem dX11_append_25 : decode cX11_append 25 = .ok (.aload_n 0, 1) := by decide +kernel
theorem dX11_append_26 : decode cX11_append 26 = .ok (.dup, 1) := by decide +kernel
theorem dX11_append_27 : decode cX11_append 27 = .ok (.getfield 70, 3) := by decide +kernel
theorem dX11_append_30 : decode cX11_append 30 = .ok (.iconst 1, 1) := by decide +kernel
theorem dX11_append_31 : decode cX11_append 31 = .ok (.iadd, 1) := by decide +kernel
theorem dX11_append_32 : decode cX11_append 32 = .ok (.putfield 70, 3) := by decide +kernel
theorem dX11_append_35 : decode cX11_append 35 = .ok (.iinc 2 (-8), 3) := by decide +kernel
theorem dX11_append_38 : decode cX11_append 38 = .ok (.goto (-35), 3) := by decide +kernel
theorem dX11_append_41 : decode cX11_append 41 = .ok (.return_, 1) := by decide +kernel
def bX11_append_3 (k3 : Int32 → Int32 → zS → zR) (x1 : Int32) (x2 : Int32) (t : zS) : zR := if x2 < 0 then some (0, t) else zbd (mX5_set 1 3000 (t 0 6) ((x1.toUInt32 >>> (Int32.toUInt32 x2 &&& Int32.toUInt32 31)).toInt32 &&& 255) t) fun r3 t4 => zpt t4 0 6 ((t4 0 6) + 1) fun t6 => zlet (x2 + (-8)) fun v7 => k3 x1 v7 t6
def lX11_append_3 : Nat → Int32 → Int32 → zS → zR
  | 0, _, _, _ => none
  | fu + 1, x1, x2, t => bX11_append_3 (lX11_append_3  fu) x1 x2 t
def mX11_append (x1 : Int32) (t : zS) : zR := lX11_append_3  zFU x1 24 t
set_option maxHeartbeats 4000000 in
set_option maxRecDepth 20000 in
theorem wbX11_append_3 {E : zE} {C : zC} {f : Nat} {ro : Int32 × zS} (hf : 2 ≤ f) (k3 : Int32 → Int32 → zS → zR) (hk3 : ∀ (x1 x2 : Int32) (t : zS), k3 x1 x2 t = some ro → zJ E shC C cX11_append RX11 3 f none ro t 3 [(0, .ref (za E 0)), (1, .int x1), (2, .int x2)] []) (x1 : Int32) (x2 : Int32) (t : zS) (hF : bX11_append_3 k3 x1 x2 t = some ro) : zJ E shC C cX11_append RX11 3 f none ro t 3 [(0, .ref (za E 0)), (1, .int x1), (2, .int x2)] [] := by
  unfold bX11_append_3 at hF
  refine z_iload_n 2 dX11_append_3 rfl rfl ?_
  refine z_if_lt (tgt := 41) dX11_append_4 (by decide) (fun hc => ?_) (fun hc => ?_)
  · have hF := zif_t hc hF
    exact z_vret hF dX11_append_41
  · have hF := zif_f hc hF
    refine z_aload_n 0 dX11_append_7 rfl rfl ?_
    refine z_getr fr_RX11_14 dX11_append_8 ?_
    refine z_aload_n 0 dX11_append_11 rfl rfl ?_
    refine z_geti fi_RX11_70 dX11_append_12 ?_
    refine z_iload_n 1 dX11_append_15 rfl rfl ?_
    refine z_iload_n 2 dX11_append_16 rfl rfl ?_
    refine z_iushr dX11_append_17 rfl ?_
    refine z_sipush (v := 255) dX11_append_18 (by decide) ?_
    refine z_iand dX11_append_21 ?_
    obtain ⟨r3, t4, hc5, hF⟩ := zbd_at hF
    refine z_callVv (ctX5_set (E := E) (sh := shC) (f := f - 1) (by omega) (k := 1) (n := 3000) rfl rfl hc5) yy_X5_set yv_X5_set ob_C_1 lk_RX11_76 (by omega) rfl rfl (Nat.le_of_ble_eq_true rfl) dX11_append_22 ?_
    refine z_aload_n 0 dX11_append_25 rfl rfl ?_
    refine z_dup dX11_append_26 rfl ?_
    refine z_geti fi_RX11_70 dX11_append_27 ?_
    refine z_iconst (v := 1) dX11_append_30 (by decide) ?_
    refine z_iadd dX11_append_31 ?_
    refine z_puti fw_RX11_70 dX11_append_32 (fun t6 et6 => ?_)
    have hF := zpt_at hF t6 et6
    obtain ⟨v7, ev7⟩ : ∃ y : Int32, y = (x2 + (-8)) := ⟨_, rfl⟩
    have hF := zlet_at ev7 hF
    refine z_iinc (v := v7) (lv' := [(2, .int v7), (0, .ref (za E 0)), (1, .int x1)]) (k := 2) dX11_append_35 rfl (by rw [ev7]; rfl) (by decide) rfl ?_
    refine z_goto (tgt := 3) dX11_append_38 (by decide) ?_
    refine z_sub [1, 2, 0] rfl ?_
    exact hk3 x1 v7 _ hF
set_option maxHeartbeats 4000000 in
set_option maxRecDepth 20000 in
theorem wlX11_append_3 {E : zE} {C : zC} {f : Nat} {ro : Int32 × zS} (hf : 2 ≤ f) (fu : Nat) : ∀ (x1 x2 : Int32) (t : zS), lX11_append_3  fu x1 x2 t = some ro → zJ E shC C cX11_append RX11 3 f none ro t 3 [(0, .ref (za E 0)), (1, .int x1), (2, .int x2)] [] := by
  induction fu with
  | zero => intro x1 x2 t hF; cases hF
  | succ fu ih => intro x1 x2 t hF; exact wbX11_append_3 hf (lX11_append_3  fu) ih x1 x2 t hF
set_option maxHeartbeats 4000000 in
set_option maxRecDepth 20000 in
theorem ctX11_append {E : zE} {f : Nat} (hf : 2 ≤ f) {x1 : Int32} {t : zS} {ro : Int32 × zS} (hF : mX11_append  x1 t = some ro) : zM E shC f yX11_append cX11_append 3 none [.ref (za E 0), .int x1] t ro := by
  refine zM_of (by decide) (Nat.le_of_ble_eq_true rfl) (fun C => ?_)
  show zJ E shC C cX11_append RX11 3 f none ro t 0 [(0, .ref (za E 0)), (1, .int x1)] []
  unfold mX11_append at hF
  refine z_bipush (v := 24) dX11_append_0 (by decide) ?_
  refine z_istore_n (lv' := [(2, .int 24), (0, .ref (za E 0)), (1, .int x1)]) dX11_append_2 rfl (by decide) rfl ?_
  refine z_sub [1, 2, 0] rfl ?_
  exact wlX11_append_3 hf  zFU x1 24 _ hF
-- SessionHouse.feed(IIIII)I
theorem dX11_feed_0 : decode cX11_feed 0 = .ok (.aload_n 0, 1) := by decide +kernel
theorem dX11_feed_1 : decode cX11_feed 1 = .ok (.getfield 70, 3) := by decide +kernel
theorem dX11_feed_4 : decode cX11_feed 4 = .ok (.bipush 20, 2) := by decide +kernel
theorem dX11_feed_6 : decode cX11_feed 6 = .ok (.iadd, 1) := by decide +kernel
theorem dX11_feed_7 : decode cX11_feed 7 = .ok (.sipush 3000, 3) := by decide +kernel
theorem dX11_feed_10 : decode cX11_feed 10 = .ok (.if_icmp .le 5, 3) := by decide +kernel
theorem dX11_feed_13 : decode cX11_feed 13 = .ok (.iconst (-1), 1) := by decide +kernel
theorem dX11_feed_14 : decode cX11_feed 14 = .ok (.ireturn, 1) := by decide +kernel
theorem dX11_feed_15 : decode cX11_feed 15 = .ok (.aload_n 0, 1) := by decide +kernel
theorem dX11_feed_16 : decode cX11_feed 16 = .ok (.iload_n 1, 1) := by decide +kernel
theorem dX11_feed_17 : decode cX11_feed 17 = .ok (.invokevirtual 73, 3) := by decide +kernel
theorem dX11_feed_20 : decode cX11_feed 20 = .ok (.aload_n 0, 1) := by decide +kernel
theorem dX11_feed_21 : decode cX11_feed 21 = .ok (.iload_n 2, 1) := by decide +kernel
theorem dX11_feed_22 : decode cX11_feed 22 = .ok (.invokevirtual 73, 3) := by decide +kernel
theorem dX11_feed_25 : decode cX11_feed 25 = .ok (.aload_n 0, 1) := by decide +kernel
theorem dX11_feed_26 : decode cX11_feed 26 = .ok (.iload_n 3, 1) := by decide +kernel
theorem dX11_feed_27 : decode cX11_feed 27 = .ok (.invokevirtual 73, 3) := by decide +kernel
theorem dX11_feed_30 : decode cX11_feed 30 = .ok (.aload_n 0, 1) := by decide +kernel
theorem dX11_feed_31 : decode cX11_feed 31 = .ok (.iload 4, 2) := by decide +kernel
theorem dX11_feed_33 : decode cX11_feed 33 = .ok (.invokevirtual 73, 3) := by decide +kernel
theorem dX11_feed_36 : decode cX11_feed 36 = .ok (.aload_n 0, 1) := by decide +kernel
theorem dX11_feed_37 : decode cX11_feed 37 = .ok (.iload 5, 2) := by decide +kernel
theorem dX11_feed_39 : decode cX11_feed 39 = .ok (.invokevirtual 73, 3) := by decide +kernel
theorem dX11_feed_42 : decode cX11_feed 42 = .ok (.aload_n 0, 1) := by decide +kernel
theorem dX11_feed_43 : decode cX11_feed 43 = .ok (.getfield 70, 3) := by decide +kernel
theorem dX11_feed_46 : decode cX11_feed 46 = .ok (.ireturn, 1) := by decide +kernel
def mX11_feed (x1 : Int32) (x2 : Int32) (x3 : Int32) (x4 : Int32) (x5 : Int32) (t : zS) : zR := if ((t 0 6) + 20) ≤ 3000 then zbd (mX11_append x1 t) fun r8 t9 => zbd (mX11_append x2 t9) fun r11 t12 => zbd (mX11_append x3 t12) fun r14 t15 => zbd (mX11_append x4 t15) fun r17 t18 => zbd (mX11_append x5 t18) fun r20 t21 => some ((t21 0 6), t21) else some ((-1), t)
set_option maxHeartbeats 4000000 in
set_option maxRecDepth 20000 in
theorem ctX11_feed {E : zE} {f : Nat} (hf : 3 ≤ f) {x1 : Int32} {x2 : Int32} {x3 : Int32} {x4 : Int32} {x5 : Int32} {t : zS} {ro : Int32 × zS} (hF : mX11_feed  x1 x2 x3 x4 x5 t = some ro) : zM E shC f yX11_feed cX11_feed 6 (some .int) [.ref (za E 0), .int x1, .int x2, .int x3, .int x4, .int x5] t ro := by
  refine zM_of (by decide) (Nat.le_of_ble_eq_true rfl) (fun C => ?_)
  show zJ E shC C cX11_feed RX11 6 f (some .int) ro t 0 [(0, .ref (za E 0)), (1, .int x1), (2, .int x2), (3, .int x3), (4, .int x4), (5, .int x5)] []
  unfold mX11_feed at hF
  refine z_aload_n 0 dX11_feed_0 rfl rfl ?_
  refine z_geti fi_RX11_70 dX11_feed_1 ?_
  refine z_bipush (v := 20) dX11_feed_4 (by decide) ?_
  refine z_iadd dX11_feed_6 ?_
  refine z_sipush (v := 3000) dX11_feed_7 (by decide) ?_
  refine z_icmp_le (tgt := 15) dX11_feed_10 (by decide) (fun hc => ?_) (fun hc => ?_)
  · have hF := zif_t hc hF
    refine z_aload_n 0 dX11_feed_15 rfl rfl ?_
    refine z_iload_n 1 dX11_feed_16 rfl rfl ?_
    obtain ⟨r8, t9, hc10, hF⟩ := zbd_at hF
    refine z_callVv (ctX11_append (E := E) (f := f - 1) (by omega) hc10) yy_X11_append yv_X11_append ob_C_0 lk_RX11_73 (by omega) rfl rfl (Nat.le_of_ble_eq_true rfl) dX11_feed_17 ?_
    refine z_aload_n 0 dX11_feed_20 rfl rfl ?_
    refine z_iload_n 2 dX11_feed_21 rfl rfl ?_
    obtain ⟨r11, t12, hc13, hF⟩ := zbd_at hF
    refine z_callVv (ctX11_append (E := E) (f := f - 1) (by omega) hc13) yy_X11_append yv_X11_append ob_C_0 lk_RX11_73 (by omega) rfl rfl (Nat.le_of_ble_eq_true rfl) dX11_feed_22 ?_
    refine z_aload_n 0 dX11_feed_25 rfl rfl ?_
    refine z_iload_n 3 dX11_feed_26 rfl rfl ?_
    obtain ⟨r14, t15, hc16, hF⟩ := zbd_at hF
    refine z_callVv (ctX11_append (E := E) (f := f - 1) (by omega) hc16) yy_X11_append yv_X11_append ob_C_0 lk_RX11_73 (by omega) rfl rfl (Nat.le_of_ble_eq_true rfl) dX11_feed_27 ?_
    refine z_aload_n 0 dX11_feed_30 rfl rfl ?_
    refine z_iload 4 dX11_feed_31 rfl ?_
    obtain ⟨r17, t18, hc19, hF⟩ := zbd_at hF
    refine z_callVv (ctX11_append (E := E) (f := f - 1) (by omega) hc19) yy_X11_append yv_X11_append ob_C_0 lk_RX11_73 (by omega) rfl rfl (Nat.le_of_ble_eq_true rfl) dX11_feed_33 ?_
    refine z_aload_n 0 dX11_feed_36 rfl rfl ?_
    refine z_iload 5 dX11_feed_37 rfl ?_
    obtain ⟨r20, t21, hc22, hF⟩ := zbd_at hF
    refine z_callVv (ctX11_append (E := E) (f := f - 1) (by omega) hc22) yy_X11_append yv_X11_append ob_C_0 lk_RX11_73 (by omega) rfl rfl (Nat.le_of_ble_eq_true rfl) dX11_feed_39 ?_
    refine z_aload_n 0 dX11_feed_42 rfl rfl ?_
    refine z_geti fi_RX11_70 dX11_feed_43 ?_
    exact z_iret hF dX11_feed_46
  · have hF := zif_f hc hF
    refine z_iconst (v := (-1)) dX11_feed_13 (by decide) ?_
    exact z_iret hF dX11_feed_14
-- SessionHouse.end(I)I
theorem dX11_end_0 : decode cX11_end 0 = .ok (.iload_n 1, 1) := by decide +kernel
theorem dX11_end_1 : decode cX11_end 1 = .ok (.ifCond .lt 11, 3) := by decide +kernel
theorem dX11_end_4 : decode cX11_end 4 = .ok (.iload_n 1, 1) := by decide +kernel
theorem dX11_end_5 : decode cX11_end 5 = .ok (.aload_n 0, 1) := by decide +kernel
theorem dX11_end_6 : decode cX11_end 6 = .ok (.getfield 70, 3) := by decide +kernel
theorem dX11_end_9 : decode cX11_end 9 = .ok (.if_icmp .le 5, 3) := by decide +kernel
theorem dX11_end_12 : decode cX11_end 12 = .ok (.iconst (-1), 1) := by decide +kernel
theorem dX11_end_13 : decode cX11_end 13 = .ok (.ireturn, 1) := by decide +kernel
theorem dX11_end_14 : decode cX11_end 14 = .ok (.aload_n 0, 1) := by decide +kernel
theorem dX11_end_15 : decode cX11_end 15 = .ok (.iload_n 1, 1) := by decide +kernel
theorem dX11_end_16 : decode cX11_end 16 = .ok (.putfield 70, 3) := by decide +kernel
theorem dX11_end_19 : decode cX11_end 19 = .ok (.iload_n 1, 1) := by decide +kernel
theorem dX11_end_20 : decode cX11_end 20 = .ok (.ireturn, 1) := by decide +kernel
def mX11_end (x1 : Int32) (t : zS) : zR := if x1 < 0 then some ((-1), t) else if x1 ≤ (t 0 6) then zpt t 0 6 x1 fun t23 => some (x1, t23) else some ((-1), t)
set_option maxHeartbeats 4000000 in
set_option maxRecDepth 20000 in
theorem ctX11_end {E : zE} {f : Nat} (hf : 1 ≤ f) {x1 : Int32} {t : zS} {ro : Int32 × zS} (hF : mX11_end  x1 t = some ro) : zM E shC f yX11_end cX11_end 2 (some .int) [.ref (za E 0), .int x1] t ro := by
  refine zM_of (by decide) (Nat.le_of_ble_eq_true rfl) (fun C => ?_)
  show zJ E shC C cX11_end RX11 2 f (some .int) ro t 0 [(0, .ref (za E 0)), (1, .int x1)] []
  unfold mX11_end at hF
  refine z_iload_n 1 dX11_end_0 rfl rfl ?_
  refine z_if_lt (tgt := 12) dX11_end_1 (by decide) (fun hc => ?_) (fun hc => ?_)
  · have hF := zif_t hc hF
    refine z_iconst (v := (-1)) dX11_end_12 (by decide) ?_
    exact z_iret hF dX11_end_13
  · have hF := zif_f hc hF
    refine z_iload_n 1 dX11_end_4 rfl rfl ?_
    refine z_aload_n 0 dX11_end_5 rfl rfl ?_
    refine z_geti fi_RX11_70 dX11_end_6 ?_
    refine z_icmp_le (tgt := 14) dX11_end_9 (by decide) (fun hc => ?_) (fun hc => ?_)
    · have hF := zif_t hc hF
      refine z_aload_n 0 dX11_end_14 rfl rfl ?_
      refine z_iload_n 1 dX11_end_15 rfl rfl ?_
      refine z_puti fw_RX11_70 dX11_end_16 (fun t23 et23 => ?_)
      have hF := zpt_at hF t23 et23
      refine z_iload_n 1 dX11_end_19 rfl rfl ?_
      exact z_iret hF dX11_end_20
    · have hF := zif_f hc hF
      refine z_iconst (v := (-1)) dX11_end_12 (by decide) ?_
      exact z_iret hF dX11_end_13
-- SessionHouse$Ring.forget()V
theorem dX8_forget_0 : decode cX8_forget 0 = .ok (.aload_n 0, 1) := by decide +kernel
theorem dX8_forget_1 : decode cX8_forget 1 = .ok (.iconst (-1), 1) := by decide +kernel
theorem dX8_forget_2 : decode cX8_forget 2 = .ok (.putfield 47, 3) := by decide +kernel
theorem dX8_forget_5 : decode cX8_forget 5 = .ok (.aload_n 0, 1) := by decide +kernel
theorem dX8_forget_6 : decode cX8_forget 6 = .ok (.iconst (-1), 1) := by decide +kernel
theorem dX8_forget_7 : decode cX8_forget 7 = .ok (.putfield 51, 3) := by decide +kernel
theorem dX8_forget_10 : decode cX8_forget 10 = .ok (.aload_n 0, 1) := by decide +kernel
theorem dX8_forget_11 : decode cX8_forget 11 = .ok (.iconst 0, 1) := by decide +kernel
theorem dX8_forget_12 : decode cX8_forget 12 = .ok (.putfield 54, 3) := by decide +kernel
theorem dX8_forget_15 : decode cX8_forget 15 = .ok (.aload_n 0, 1) := by decide +kernel
theorem dX8_forget_16 : decode cX8_forget 16 = .ok (.iconst 0, 1) := by decide +kernel
theorem dX8_forget_17 : decode cX8_forget 17 = .ok (.putfield 57, 3) := by decide +kernel
theorem dX8_forget_20 : decode cX8_forget 20 = .ok (.aload_n 0, 1) := by decide +kernel
theorem dX8_forget_21 : decode cX8_forget 21 = .ok (.iconst 0, 1) := by decide +kernel
theorem dX8_forget_22 : decode cX8_forget 22 = .ok (.putfield 60, 3) := by decide +kernel
theorem dX8_forget_25 : decode cX8_forget 25 = .ok (.aload_n 0, 1) := by decide +kernel
theorem dX8_forget_26 : decode cX8_forget 26 = .ok (.iconst 0, 1) := by decide +kernel
theorem dX8_forget_27 : decode cX8_forget 27 = .ok (.putfield 63, 3) := by decide +kernel
theorem dX8_forget_30 : decode cX8_forget 30 = .ok (.aload_n 0, 1) := by decide +kernel
theorem dX8_forget_31 : decode cX8_forget 31 = .ok (.iconst 0, 1) := by decide +kernel
theorem dX8_forget_32 : decode cX8_forget 32 = .ok (.putfield 66, 3) := by decide +kernel
theorem dX8_forget_35 : decode cX8_forget 35 = .ok (.aload_n 0, 1) := by decide +kernel
theorem dX8_forget_36 : decode cX8_forget 36 = .ok (.iconst 0, 1) := by decide +kernel
theorem dX8_forget_37 : decode cX8_forget 37 = .ok (.putfield 69, 3) := by decide +kernel
theorem dX8_forget_40 : decode cX8_forget 40 = .ok (.return_, 1) := by decide +kernel
def mX8_forget (t : zS) : zR := zpt t 60 10 (-1) fun t24 => zpt t24 60 11 (-1) fun t25 => zpt t25 60 12 0 fun t26 => zpt t26 60 13 0 fun t27 => zpt t27 60 14 0 fun t28 => zpt t28 60 15 0 fun t29 => zpt t29 60 16 0 fun t30 => zpt t30 60 17 0 fun t31 => some (0, t31)
set_option maxHeartbeats 4000000 in
set_option maxRecDepth 20000 in
theorem ctX8_forget {E : zE} {f : Nat} (hf : 1 ≤ f) {t : zS} {ro : Int32 × zS} (hF : mX8_forget   t = some ro) : zM E shC f yX8_forget cX8_forget 1 none [.ref (za E 60)] t ro := by
  refine zM_of (by decide) (Nat.le_of_ble_eq_true rfl) (fun C => ?_)
  show zJ E shC C cX8_forget RX8 1 f none ro t 0 [(0, .ref (za E 60))] []
  unfold mX8_forget at hF
  refine z_aload_n 0 dX8_forget_0 rfl rfl ?_
  refine z_iconst (v := (-1)) dX8_forget_1 (by decide) ?_
  refine z_puti fw_RX8_47 dX8_forget_2 (fun t24 et24 => ?_)
  have hF := zpt_at hF t24 et24
  refine z_aload_n 0 dX8_forget_5 rfl rfl ?_
  refine z_iconst (v := (-1)) dX8_forget_6 (by decide) ?_
  refine z_puti fw_RX8_51 dX8_forget_7 (fun t25 et25 => ?_)
  have hF := zpt_at hF t25 et25
  refine z_aload_n 0 dX8_forget_10 rfl rfl ?_
  refine z_iconst (v := 0) dX8_forget_11 (by decide) ?_
  refine z_puti fw_RX8_54 dX8_forget_12 (fun t26 et26 => ?_)
  have hF := zpt_at hF t26 et26
  refine z_aload_n 0 dX8_forget_15 rfl rfl ?_
  refine z_iconst (v := 0) dX8_forget_16 (by decide) ?_
  refine z_puti fw_RX8_57 dX8_forget_17 (fun t27 et27 => ?_)
  have hF := zpt_at hF t27 et27
  refine z_aload_n 0 dX8_forget_20 rfl rfl ?_
  refine z_iconst (v := 0) dX8_forget_21 (by decide) ?_
  refine z_puti fw_RX8_60 dX8_forget_22 (fun t28 et28 => ?_)
  have hF := zpt_at hF t28 et28
  refine z_aload_n 0 dX8_forget_25 rfl rfl ?_
  refine z_iconst (v := 0) dX8_forget_26 (by decide) ?_
  refine z_puti fw_RX8_63 dX8_forget_27 (fun t29 et29 => ?_)
  have hF := zpt_at hF t29 et29
  refine z_aload_n 0 dX8_forget_30 rfl rfl ?_
  refine z_iconst (v := 0) dX8_forget_31 (by decide) ?_
  refine z_puti fw_RX8_66 dX8_forget_32 (fun t30 et30 => ?_)
  have hF := zpt_at hF t30 et30
  refine z_aload_n 0 dX8_forget_35 rfl rfl ?_
  refine z_iconst (v := 0) dX8_forget_36 (by decide) ?_
  refine z_puti fw_RX8_69 dX8_forget_37 (fun t31 et31 => ?_)
  have hF := zpt_at hF t31 et31
  exact z_vret hF dX8_forget_40
-- SessionHouse$Channels.forget(I)V
theorem dX0_forget_0 : decode cX0_forget 0 = .ok (.aload_n 0, 1) := by decide +kernel
theorem dX0_forget_1 : decode cX0_forget 1 = .ok (.iload_n 1, 1) := by decide +kernel
theorem dX0_forget_2 : decode cX0_forget 2 = .ok (.putfield 32, 3) := by decide +kernel
theorem dX0_forget_5 : decode cX0_forget 5 = .ok (.aload_n 0, 1) := by decide +kernel
theorem dX0_forget_6 : decode cX0_forget 6 = .ok (.iconst 0, 1) := by decide +kernel
theorem dX0_forget_7 : decode cX0_forget 7 = .ok (.putfield 36, 3) := by decide +kernel
theorem dX0_forget_10 : decode cX0_forget 10 = .ok (.aload_n 0, 1) := by decide +kernel
theorem dX0_forget_11 : decode cX0_forget 11 = .ok (.iconst 0, 1) := by decide +kernel
theorem dX0_forget_12 : decode cX0_forget 12 = .ok (.putfield 39, 3) := by decide +kernel
theorem dX0_forget_15 : decode cX0_forget 15 = .ok (.aload_n 0, 1) := by decide +kernel
theorem dX0_forget_16 : decode cX0_forget 16 = .ok (.iconst 0, 1) := by decide +kernel
theorem dX0_forget_17 : decode cX0_forget 17 = .ok (.putfield 42, 3) := by decide +kernel
theorem dX0_forget_20 : decode cX0_forget 20 = .ok (.aload_n 0, 1) := by decide +kernel
theorem dX0_forget_21 : decode cX0_forget 21 = .ok (.iconst 0, 1) := by decide +kernel
theorem dX0_forget_22 : decode cX0_forget 22 = .ok (.putfield 45, 3) := by decide +kernel
theorem dX0_forget_25 : decode cX0_forget 25 = .ok (.return_, 1) := by decide +kernel
def mX0_forget (x1 : Int32) (t : zS) : zR := zpt t 59 7 x1 fun t32 => zpt t32 59 5 0 fun t33 => zpt t33 59 6 0 fun t34 => zpt t34 59 8 0 fun t35 => zpt t35 59 9 0 fun t36 => some (0, t36)
set_option maxHeartbeats 4000000 in
set_option maxRecDepth 20000 in
theorem ctX0_forget {E : zE} {f : Nat} (hf : 1 ≤ f) {x1 : Int32} {t : zS} {ro : Int32 × zS} (hF : mX0_forget  x1 t = some ro) : zM E shC f yX0_forget cX0_forget 2 none [.ref (za E 59), .int x1] t ro := by
  refine zM_of (by decide) (Nat.le_of_ble_eq_true rfl) (fun C => ?_)
  show zJ E shC C cX0_forget RX0 2 f none ro t 0 [(0, .ref (za E 59)), (1, .int x1)] []
  unfold mX0_forget at hF
  refine z_aload_n 0 dX0_forget_0 rfl rfl ?_
  refine z_iload_n 1 dX0_forget_1 rfl rfl ?_
  refine z_puti fw_RX0_32 dX0_forget_2 (fun t32 et32 => ?_)
  have hF := zpt_at hF t32 et32
  refine z_aload_n 0 dX0_forget_5 rfl rfl ?_
  refine z_iconst (v := 0) dX0_forget_6 (by decide) ?_
  refine z_puti fw_RX0_36 dX0_forget_7 (fun t33 et33 => ?_)
  have hF := zpt_at hF t33 et33
  refine z_aload_n 0 dX0_forget_10 rfl rfl ?_
  refine z_iconst (v := 0) dX0_forget_11 (by decide) ?_
  refine z_puti fw_RX0_39 dX0_forget_12 (fun t34 et34 => ?_)
  have hF := zpt_at hF t34 et34
  refine z_aload_n 0 dX0_forget_15 rfl rfl ?_
  refine z_iconst (v := 0) dX0_forget_16 (by decide) ?_
  refine z_puti fw_RX0_42 dX0_forget_17 (fun t35 et35 => ?_)
  have hF := zpt_at hF t35 et35
  refine z_aload_n 0 dX0_forget_20 rfl rfl ?_
  refine z_iconst (v := 0) dX0_forget_21 (by decide) ?_
  refine z_puti fw_RX0_45 dX0_forget_22 (fun t36 et36 => ?_)
  have hF := zpt_at hF t36 et36
  exact z_vret hF dX0_forget_25
-- SessionHouse$House.forget()V
theorem dX4_forget_0 : decode cX4_forget 0 = .ok (.aload_n 0, 1) := by decide +kernel
theorem dX4_forget_1 : decode cX4_forget 1 = .ok (.iconst (-1), 1) := by decide +kernel
theorem dX4_forget_2 : decode cX4_forget 2 = .ok (.putfield 40, 3) := by decide +kernel
theorem dX4_forget_5 : decode cX4_forget 5 = .ok (.aload_n 0, 1) := by decide +kernel
theorem dX4_forget_6 : decode cX4_forget 6 = .ok (.iconst 0, 1) := by decide +kernel
theorem dX4_forget_7 : decode cX4_forget 7 = .ok (.putfield 66, 3) := by decide +kernel
theorem dX4_forget_10 : decode cX4_forget 10 = .ok (.aload_n 0, 1) := by decide +kernel
theorem dX4_forget_11 : decode cX4_forget 11 = .ok (.iconst 0, 1) := by decide +kernel
theorem dX4_forget_12 : decode cX4_forget 12 = .ok (.putfield 69, 3) := by decide +kernel
theorem dX4_forget_15 : decode cX4_forget 15 = .ok (.aload_n 0, 1) := by decide +kernel
theorem dX4_forget_16 : decode cX4_forget 16 = .ok (.iconst 0, 1) := by decide +kernel
theorem dX4_forget_17 : decode cX4_forget 17 = .ok (.putfield 72, 3) := by decide +kernel
theorem dX4_forget_20 : decode cX4_forget 20 = .ok (.aload_n 0, 1) := by decide +kernel
theorem dX4_forget_21 : decode cX4_forget 21 = .ok (.iconst 0, 1) := by decide +kernel
theorem dX4_forget_22 : decode cX4_forget 22 = .ok (.putfield 75, 3) := by decide +kernel
theorem dX4_forget_25 : decode cX4_forget 25 = .ok (.aload_n 0, 1) := by decide +kernel
theorem dX4_forget_26 : decode cX4_forget 26 = .ok (.getfield 21, 3) := by decide +kernel
theorem dX4_forget_29 : decode cX4_forget 29 = .ok (.invokevirtual 78, 3) := by decide +kernel
theorem dX4_forget_32 : decode cX4_forget 32 = .ok (.aload_n 0, 1) := by decide +kernel
theorem dX4_forget_33 : decode cX4_forget 33 = .ok (.getfield 12, 3) := by decide +kernel
theorem dX4_forget_36 : decode cX4_forget 36 = .ok (.iconst 1, 1) := by decide +kernel
theorem dX4_forget_37 : decode cX4_forget 37 = .ok (.invokevirtual 81, 3) := by decide +kernel
theorem dX4_forget_40 : decode cX4_forget 40 = .ok (.return_, 1) := by decide +kernel
def mX4_forget (t : zS) : zR := zpt t 7 16 (-1) fun t37 => zpt t37 7 10 0 fun t38 => zpt t38 7 11 0 fun t39 => zpt t39 7 12 0 fun t40 => zpt t40 7 14 0 fun t41 => zbd (mX8_forget  t41) fun r42 t43 => zbd (mX0_forget 1 t43) fun r45 t46 => some (0, t46)
set_option maxHeartbeats 4000000 in
set_option maxRecDepth 20000 in
theorem ctX4_forget {E : zE} {f : Nat} (hf : 2 ≤ f) {t : zS} {ro : Int32 × zS} (hF : mX4_forget   t = some ro) : zM E shC f yX4_forget cX4_forget 1 none [.ref (za E 7)] t ro := by
  refine zM_of (by decide) (Nat.le_of_ble_eq_true rfl) (fun C => ?_)
  show zJ E shC C cX4_forget RX4 1 f none ro t 0 [(0, .ref (za E 7))] []
  unfold mX4_forget at hF
  refine z_aload_n 0 dX4_forget_0 rfl rfl ?_
  refine z_iconst (v := (-1)) dX4_forget_1 (by decide) ?_
  refine z_puti fw_RX4_40 dX4_forget_2 (fun t37 et37 => ?_)
  have hF := zpt_at hF t37 et37
  refine z_aload_n 0 dX4_forget_5 rfl rfl ?_
  refine z_iconst (v := 0) dX4_forget_6 (by decide) ?_
  refine z_puti fw_RX4_66 dX4_forget_7 (fun t38 et38 => ?_)
  have hF := zpt_at hF t38 et38
  refine z_aload_n 0 dX4_forget_10 rfl rfl ?_
  refine z_iconst (v := 0) dX4_forget_11 (by decide) ?_
  refine z_puti fw_RX4_69 dX4_forget_12 (fun t39 et39 => ?_)
  have hF := zpt_at hF t39 et39
  refine z_aload_n 0 dX4_forget_15 rfl rfl ?_
  refine z_iconst (v := 0) dX4_forget_16 (by decide) ?_
  refine z_puti fw_RX4_72 dX4_forget_17 (fun t40 et40 => ?_)
  have hF := zpt_at hF t40 et40
  refine z_aload_n 0 dX4_forget_20 rfl rfl ?_
  refine z_iconst (v := 0) dX4_forget_21 (by decide) ?_
  refine z_puti fw_RX4_75 dX4_forget_22 (fun t41 et41 => ?_)
  have hF := zpt_at hF t41 et41
  refine z_aload_n 0 dX4_forget_25 rfl rfl ?_
  refine z_getr fr_RX4_21 dX4_forget_26 ?_
  obtain ⟨r42, t43, hc44, hF⟩ := zbd_at hF
  refine z_callVv (ctX8_forget (E := E) (f := f - 1) (by omega) hc44) yy_X8_forget yv_X8_forget ob_C_60 lk_RX4_78 (by omega) rfl rfl (Nat.le_of_ble_eq_true rfl) dX4_forget_29 ?_
  refine z_aload_n 0 dX4_forget_32 rfl rfl ?_
  refine z_getr fr_RX4_12 dX4_forget_33 ?_
  refine z_iconst (v := 1) dX4_forget_36 (by decide) ?_
  obtain ⟨r45, t46, hc47, hF⟩ := zbd_at hF
  refine z_callVv (ctX0_forget (E := E) (f := f - 1) (by omega) hc47) yy_X0_forget yv_X0_forget ob_C_59 lk_RX4_81 (by omega) rfl rfl (Nat.le_of_ble_eq_true rfl) dX4_forget_37 ?_
  exact z_vret hF dX4_forget_40
-- SessionHouse$Ints.fill(III)V
theorem dX5_fill_0 : decode cX5_fill 0 = .ok (.iload_n 1, 1) := by decide +kernel
theorem dX5_fill_1 : decode cX5_fill 1 = .ok (.iconst 0, 1) := by decide +kernel
theorem dX5_fill_2 : decode cX5_fill 2 = .ok (.invokestatic 7, 3) := by decide +kernel
theorem dX5_fill_5 : decode cX5_fill 5 = .ok (.istore 4, 2) := by decide +kernel
theorem dX5_fill_7 : decode cX5_fill 7 = .ok (.iload 4, 2) := by decide +kernel
theorem dX5_fill_9 : decode cX5_fill 9 = .ok (.iload_n 2, 1) := by decide +kernel
theorem dX5_fill_10 : decode cX5_fill 10 = .ok (.if_icmp .ge 27, 3) := by decide +kernel
theorem dX5_fill_13 : decode cX5_fill 13 = .ok (.iload 4, 2) := by decide +kernel
theorem dX5_fill_15 : decode cX5_fill 15 = .ok (.aload_n 0, 1) := by decide +kernel
theorem dX5_fill_16 : decode cX5_fill 16 = .ok (.getfield 13, 3) := by decide +kernel
theorem dX5_fill_19 : decode cX5_fill 19 = .ok (.arraylength, 1) := by decide +kernel
theorem dX5_fill_20 : decode cX5_fill 20 = .ok (.if_icmp .ge 17, 3) := by decide +kernel
theorem dX5_fill_23 : decode cX5_fill 23 = .ok (.aload_n 0, 1) := by decide +kernel
theorem dX5_fill_24 : decode cX5_fill 24 = .ok (.getfield 13, 3) := by decide +kernel
theorem dX5_fill_27 : decode cX5_fill 27 = .ok (.iload 4, 2) := by decide +kernel
theorem dX5_fill_29 : decode cX5_fill 29 = .ok (.iload_n 3, 1) := by decide +kernel
theorem dX5_fill_30 : decode cX5_fill 30 = .ok (.iastore, 1) := by decide +kernel
theorem dX5_fill_31 : decode cX5_fill 31 = .ok (.iinc 4 1, 3) := by decide +kernel
theorem dX5_fill_34 : decode cX5_fill 34 = .ok (.goto (-27), 3) := by decide +kernel
theorem dX5_fill_37 : decode cX5_fill 37 = .ok (.return_, 1) := by decide +kernel
def bX5_fill_7 (k n : Nat) (k7 : Int32 → Int32 → Int32 → zS → zR) (x2 : Int32) (x3 : Int32) (x4 : Int32) (t : zS) : zR := if x2 ≤ x4 then some (0, t) else if (Int32.ofNat n) ≤ x4 then some (0, t) else zwr t (k + 1) n x4 x3 fun t49 => zlet (x4 + 1) fun v50 => k7 x2 x3 v50 t49
def lX5_fill_7 (k n : Nat) : Nat → Int32 → Int32 → Int32 → zS → zR
  | 0, _, _, _, _ => none
  | fu + 1, x2, x3, x4, t => bX5_fill_7 k n (lX5_fill_7 k n fu) x2 x3 x4 t
def mX5_fill (k n : Nat) (x1 : Int32) (x2 : Int32) (x3 : Int32) (t : zS) : zR := zlet (if x1 < 0 then 0 else x1) fun v51 => lX5_fill_7 k n zFU x2 x3 v51 t
set_option maxHeartbeats 4000000 in
set_option maxRecDepth 20000 in
theorem wbX5_fill_7 {E : zE} {sh : zSh} {C : zC} {f : Nat} {ro : Int32 × zS} (hf : 1 ≤ f) {k n : Nat} (hI : sh[k]? = some (.inr (5, [some (k + 1)]))) (hA : sh[k + 1]? = some (.inl (0, n))) (k7 : Int32 → Int32 → Int32 → zS → zR) (hk7 : ∀ (x2 x3 x4 : Int32) (t : zS), k7 x2 x3 x4 t = some ro → zJ E sh C cX5_fill RX5 5 f none ro t 7 [(0, .ref (za E k)), (2, .int x2), (3, .int x3), (4, .int x4)] []) (x2 : Int32) (x3 : Int32) (x4 : Int32) (t : zS) (hF : bX5_fill_7 k n k7 x2 x3 x4 t = some ro) : zJ E sh C cX5_fill RX5 5 f none ro t 7 [(0, .ref (za E k)), (2, .int x2), (3, .int x3), (4, .int x4)] [] := by
  unfold bX5_fill_7 at hF
  refine z_iload 3 dX5_fill_7 rfl ?_
  refine z_iload_n 1 dX5_fill_9 rfl rfl ?_
  refine z_icmp_ge (tgt := 37) dX5_fill_10 (by decide) (fun hc => ?_) (fun hc => ?_)
  · have hF := zif_t hc hF
    exact z_vret hF dX5_fill_37
  · have hF := zif_f hc hF
    refine z_iload 3 dX5_fill_13 rfl ?_
    refine z_aload_n 0 dX5_fill_15 rfl rfl ?_
    refine z_getr (zFr_ints hI) dX5_fill_16 ?_
    refine z_alen hA rfl rfl dX5_fill_19 ?_
    refine z_icmp_ge (tgt := 37) dX5_fill_20 (by decide) (fun hc => ?_) (fun hc => ?_)
    · have hF := zif_t hc hF
      exact z_vret hF dX5_fill_37
    · have hF := zif_f hc hF
      refine z_aload_n 0 dX5_fill_23 rfl rfl ?_
      refine z_getr (zFr_ints hI) dX5_fill_24 ?_
      refine z_iload 3 dX5_fill_27 rfl ?_
      refine z_iload_n 2 dX5_fill_29 rfl rfl ?_
      obtain ⟨hi48, hF⟩ := zwr_at hF
      refine z_iast (n := n) hA hi48 dX5_fill_30 (fun t49 et49 => ?_)
      have hF := hF t49 et49
      obtain ⟨v50, ev50⟩ : ∃ y : Int32, y = (x4 + 1) := ⟨_, rfl⟩
      have hF := zlet_at ev50 hF
      refine z_iinc (v := v50) (lv' := [(4, .int v50), (0, .ref (za E k)), (2, .int x2), (3, .int x3)]) (k := 3) dX5_fill_31 rfl (by rw [ev50]; rfl) (by decide) rfl ?_
      refine z_goto (tgt := 7) dX5_fill_34 (by decide) ?_
      refine z_sub [1, 2, 3, 0] rfl ?_
      exact hk7 x2 x3 v50 _ hF
set_option maxHeartbeats 4000000 in
set_option maxRecDepth 20000 in
theorem wlX5_fill_7 {E : zE} {sh : zSh} {C : zC} {f : Nat} {ro : Int32 × zS} (hf : 1 ≤ f) {k n : Nat} (hI : sh[k]? = some (.inr (5, [some (k + 1)]))) (hA : sh[k + 1]? = some (.inl (0, n))) (fu : Nat) : ∀ (x2 x3 x4 : Int32) (t : zS), lX5_fill_7 k n fu x2 x3 x4 t = some ro → zJ E sh C cX5_fill RX5 5 f none ro t 7 [(0, .ref (za E k)), (2, .int x2), (3, .int x3), (4, .int x4)] [] := by
  induction fu with
  | zero => intro x2 x3 x4 t hF; cases hF
  | succ fu ih => intro x2 x3 x4 t hF; exact wbX5_fill_7 hf hI hA (lX5_fill_7 k n fu) ih x2 x3 x4 t hF
set_option maxHeartbeats 4000000 in
set_option maxRecDepth 20000 in
theorem ctX5_fill {E : zE} {sh : zSh} {f : Nat} (hf : 1 ≤ f) {k n : Nat} (hI : sh[k]? = some (.inr (5, [some (k + 1)]))) (hA : sh[k + 1]? = some (.inl (0, n))) {x1 : Int32} {x2 : Int32} {x3 : Int32} {t : zS} {ro : Int32 × zS} (hF : mX5_fill k n x1 x2 x3 t = some ro) : zM E sh f yX5_fill cX5_fill 5 none [.ref (za E k), .int x1, .int x2, .int x3] t ro := by
  refine zM_of (by decide) (Nat.le_of_ble_eq_true rfl) (fun C => ?_)
  show zJ E sh C cX5_fill RX5 5 f none ro t 0 [(0, .ref (za E k)), (1, .int x1), (2, .int x2), (3, .int x3)] []
  unfold mX5_fill at hF
  refine z_iload_n 1 dX5_fill_0 rfl rfl ?_
  refine z_iconst (v := 0) dX5_fill_1 (by decide) ?_
  refine z_max lk_RX5_7 mm1_max mm2 mm3_max (by omega) (Nat.le_of_ble_eq_true rfl) dX5_fill_2 ?_
  refine z_topi (fun v51 ev51 => ?_)
  have hF := zlet_at ev51 hF
  refine z_istore (lv' := [(4, .int v51), (0, .ref (za E k)), (1, .int x1), (2, .int x2), (3, .int x3)]) dX5_fill_5 (by decide) rfl ?_
  refine z_sub [1, 3, 4, 0] rfl ?_
  exact wlX5_fill_7 hf hI hA zFU x2 x3 v51 _ hF
-- SessionHouse$Forms.forgetEqual()V
theorem dX2_forgetEqual_0 : decode cX2_forgetEqual 0 = .ok (.iconst 0, 1) := by decide +kernel
theorem dX2_forgetEqual_1 : decode cX2_forgetEqual 1 = .ok (.istore_n 1, 1) := by decide +kernel
theorem dX2_forgetEqual_2 : decode cX2_forgetEqual 2 = .ok (.iload_n 1, 1) := by decide +kernel
theorem dX2_forgetEqual_3 : decode cX2_forgetEqual 3 = .ok (.sipush 6000, 3) := by decide +kernel
theorem dX2_forgetEqual_6 : decode cX2_forgetEqual 6 = .ok (.if_icmp .ge 18, 3) := by decide +kernel
theorem dX2_forgetEqual_9 : decode cX2_forgetEqual 9 = .ok (.aload_n 0, 1) := by decide +kernel
theorem dX2_forgetEqual_10 : decode cX2_forgetEqual 10 = .ok (.getfield 47, 3) := by decide +kernel
theorem dX2_forgetEqual_13 : decode cX2_forgetEqual 13 = .ok (.iload_n 1, 1) := by decide +kernel
theorem dX2_forgetEqual_14 : decode cX2_forgetEqual 14 = .ok (.iload_n 1, 1) := by decide +kernel
theorem dX2_forgetEqual_15 : decode cX2_forgetEqual 15 = .ok (.invokevirtual 70, 3) := by decide +kernel
theorem dX2_forgetEqual_18 : decode cX2_forgetEqual 18 = .ok (.iinc 1 1, 3) := by decide +kernel
theorem dX2_forgetEqual_21 : decode cX2_forgetEqual 21 = .ok (.goto (-19), 3) := by decide +kernel
theorem dX2_forgetEqual_24 : decode cX2_forgetEqual 24 = .ok (.return_, 1) := by decide +kernel
def bX2_forgetEqual_2 (k2 : Int32 → zS → zR) (x1 : Int32) (t : zS) : zR := if 6000 ≤ x1 then some (0, t) else zbd (mX5_set 28 6000 x1 x1 t) fun r52 t53 => zlet (x1 + 1) fun v55 => k2 v55 t53
def lX2_forgetEqual_2 : Nat → Int32 → zS → zR
  | 0, _, _ => none
  | fu + 1, x1, t => bX2_forgetEqual_2 (lX2_forgetEqual_2  fu) x1 t
def mX2_forgetEqual (t : zS) : zR := lX2_forgetEqual_2  zFU 0 t
set_option maxHeartbeats 4000000 in
set_option maxRecDepth 20000 in
theorem wbX2_forgetEqual_2 {E : zE} {C : zC} {f : Nat} {ro : Int32 × zS} (hf : 2 ≤ f) (k2 : Int32 → zS → zR) (hk2 : ∀ (x1 : Int32) (t : zS), k2 x1 t = some ro → zJ E shC C cX2_forgetEqual RX2 2 f none ro t 2 [(0, .ref (za E 3)), (1, .int x1)] []) (x1 : Int32) (t : zS) (hF : bX2_forgetEqual_2 k2 x1 t = some ro) : zJ E shC C cX2_forgetEqual RX2 2 f none ro t 2 [(0, .ref (za E 3)), (1, .int x1)] [] := by
  unfold bX2_forgetEqual_2 at hF
  refine z_iload_n 1 dX2_forgetEqual_2 rfl rfl ?_
  refine z_sipush (v := 6000) dX2_forgetEqual_3 (by decide) ?_
  refine z_icmp_ge (tgt := 24) dX2_forgetEqual_6 (by decide) (fun hc => ?_) (fun hc => ?_)
  · have hF := zif_t hc hF
    exact z_vret hF dX2_forgetEqual_24
  · have hF := zif_f hc hF
    refine z_aload_n 0 dX2_forgetEqual_9 rfl rfl ?_
    refine z_getr fr_RX2_47 dX2_forgetEqual_10 ?_
    refine z_iload_n 1 dX2_forgetEqual_13 rfl rfl ?_
    refine z_iload_n 1 dX2_forgetEqual_14 rfl rfl ?_
    obtain ⟨r52, t53, hc54, hF⟩ := zbd_at hF
    refine z_callVv (ctX5_set (E := E) (sh := shC) (f := f - 1) (by omega) (k := 28) (n := 6000) rfl rfl hc54) yy_X5_set yv_X5_set ob_C_28 lk_RX2_70 (by omega) rfl rfl (Nat.le_of_ble_eq_true rfl) dX2_forgetEqual_15 ?_
    obtain ⟨v55, ev55⟩ : ∃ y : Int32, y = (x1 + 1) := ⟨_, rfl⟩
    have hF := zlet_at ev55 hF
    refine z_iinc (v := v55) (lv' := [(1, .int v55), (0, .ref (za E 3))]) (k := 1) dX2_forgetEqual_18 rfl (by rw [ev55]; rfl) (by decide) rfl ?_
    refine z_goto (tgt := 2) dX2_forgetEqual_21 (by decide) ?_
    refine z_sub [1, 0] rfl ?_
    exact hk2 v55 _ hF
set_option maxHeartbeats 4000000 in
set_option maxRecDepth 20000 in
theorem wlX2_forgetEqual_2 {E : zE} {C : zC} {f : Nat} {ro : Int32 × zS} (hf : 2 ≤ f) (fu : Nat) : ∀ (x1 : Int32) (t : zS), lX2_forgetEqual_2  fu x1 t = some ro → zJ E shC C cX2_forgetEqual RX2 2 f none ro t 2 [(0, .ref (za E 3)), (1, .int x1)] [] := by
  induction fu with
  | zero => intro x1 t hF; cases hF
  | succ fu ih => intro x1 t hF; exact wbX2_forgetEqual_2 hf (lX2_forgetEqual_2  fu) ih x1 t hF
set_option maxHeartbeats 4000000 in
set_option maxRecDepth 20000 in
theorem ctX2_forgetEqual {E : zE} {f : Nat} (hf : 2 ≤ f) {t : zS} {ro : Int32 × zS} (hF : mX2_forgetEqual   t = some ro) : zM E shC f yX2_forgetEqual cX2_forgetEqual 2 none [.ref (za E 3)] t ro := by
  refine zM_of (by decide) (Nat.le_of_ble_eq_true rfl) (fun C => ?_)
  show zJ E shC C cX2_forgetEqual RX2 2 f none ro t 0 [(0, .ref (za E 3))] []
  unfold mX2_forgetEqual at hF
  refine z_iconst (v := 0) dX2_forgetEqual_0 (by decide) ?_
  refine z_istore_n (lv' := [(1, .int 0), (0, .ref (za E 3))]) dX2_forgetEqual_1 rfl (by decide) rfl ?_
  refine z_sub [1, 0] rfl ?_
  exact wlX2_forgetEqual_2 hf  zFU 0 _ hF
-- SessionHouse$Forms.forget()V
theorem dX2_forget_0 : decode cX2_forget 0 = .ok (.aload_n 0, 1) := by decide +kernel
theorem dX2_forget_1 : decode cX2_forget 1 = .ok (.iconst 0, 1) := by decide +kernel
theorem dX2_forget_2 : decode cX2_forget 2 = .ok (.putfield 53, 3) := by decide +kernel
theorem dX2_forget_5 : decode cX2_forget 5 = .ok (.aload_n 0, 1) := by decide +kernel
theorem dX2_forget_6 : decode cX2_forget 6 = .ok (.iconst 0, 1) := by decide +kernel
theorem dX2_forget_7 : decode cX2_forget 7 = .ok (.putfield 57, 3) := by decide +kernel
theorem dX2_forget_10 : decode cX2_forget 10 = .ok (.aload_n 0, 1) := by decide +kernel
theorem dX2_forget_11 : decode cX2_forget 11 = .ok (.iconst 0, 1) := by decide +kernel
theorem dX2_forget_12 : decode cX2_forget 12 = .ok (.putfield 60, 3) := by decide +kernel
theorem dX2_forget_15 : decode cX2_forget 15 = .ok (.aload_n 0, 1) := by decide +kernel
theorem dX2_forget_16 : decode cX2_forget 16 = .ok (.getfield 41, 3) := by decide +kernel
theorem dX2_forget_19 : decode cX2_forget 19 = .ok (.iconst 0, 1) := by decide +kernel
theorem dX2_forget_20 : decode cX2_forget 20 = .ok (.sipush 1600, 3) := by decide +kernel
theorem dX2_forget_23 : decode cX2_forget 23 = .ok (.iconst (-1), 1) := by decide +kernel
theorem dX2_forget_24 : decode cX2_forget 24 = .ok (.invokevirtual 63, 3) := by decide +kernel
theorem dX2_forget_27 : decode cX2_forget 27 = .ok (.aload_n 0, 1) := by decide +kernel
theorem dX2_forget_28 : decode cX2_forget 28 = .ok (.invokevirtual 67, 3) := by decide +kernel
theorem dX2_forget_31 : decode cX2_forget 31 = .ok (.return_, 1) := by decide +kernel
def mX2_forget (t : zS) : zR := zpt t 3 13 0 fun t56 => zpt t56 3 14 0 fun t57 => zpt t57 3 15 0 fun t58 => zbd (mX5_fill 24 1600 0 1600 (-1) t58) fun r59 t60 => zbd (mX2_forgetEqual  t60) fun r62 t63 => some (0, t63)
set_option maxHeartbeats 4000000 in
set_option maxRecDepth 20000 in
theorem ctX2_forget {E : zE} {f : Nat} (hf : 3 ≤ f) {t : zS} {ro : Int32 × zS} (hF : mX2_forget   t = some ro) : zM E shC f yX2_forget cX2_forget 1 none [.ref (za E 3)] t ro := by
  refine zM_of (by decide) (Nat.le_of_ble_eq_true rfl) (fun C => ?_)
  show zJ E shC C cX2_forget RX2 1 f none ro t 0 [(0, .ref (za E 3))] []
  unfold mX2_forget at hF
  refine z_aload_n 0 dX2_forget_0 rfl rfl ?_
  refine z_iconst (v := 0) dX2_forget_1 (by decide) ?_
  refine z_puti fw_RX2_53 dX2_forget_2 (fun t56 et56 => ?_)
  have hF := zpt_at hF t56 et56
  refine z_aload_n 0 dX2_forget_5 rfl rfl ?_
  refine z_iconst (v := 0) dX2_forget_6 (by decide) ?_
  refine z_puti fw_RX2_57 dX2_forget_7 (fun t57 et57 => ?_)
  have hF := zpt_at hF t57 et57
  refine z_aload_n 0 dX2_forget_10 rfl rfl ?_
  refine z_iconst (v := 0) dX2_forget_11 (by decide) ?_
  refine z_puti fw_RX2_60 dX2_forget_12 (fun t58 et58 => ?_)
  have hF := zpt_at hF t58 et58
  refine z_aload_n 0 dX2_forget_15 rfl rfl ?_
  refine z_getr fr_RX2_41 dX2_forget_16 ?_
  refine z_iconst (v := 0) dX2_forget_19 (by decide) ?_
  refine z_sipush (v := 1600) dX2_forget_20 (by decide) ?_
  refine z_iconst (v := (-1)) dX2_forget_23 (by decide) ?_
  obtain ⟨r59, t60, hc61, hF⟩ := zbd_at hF
  refine z_callVv (ctX5_fill (E := E) (sh := shC) (f := f - 1) (by omega) (k := 24) (n := 1600) rfl rfl hc61) yy_X5_fill yv_X5_fill ob_C_24 lk_RX2_63 (by omega) rfl rfl (Nat.le_of_ble_eq_true rfl) dX2_forget_24 ?_
  refine z_aload_n 0 dX2_forget_27 rfl rfl ?_
  obtain ⟨r62, t63, hc64, hF⟩ := zbd_at hF
  refine z_callVv (ctX2_forgetEqual (E := E) (f := f - 1) (by omega) hc64) yy_X2_forgetEqual yv_X2_forgetEqual ob_C_3 lk_RX2_67 (by omega) rfl rfl (Nat.le_of_ble_eq_true rfl) dX2_forget_28 ?_
  exact z_vret hF dX2_forget_31
-- SessionHouse$Formulas.forget()V
theorem dX3_forget_0 : decode cX3_forget 0 = .ok (.aload_n 0, 1) := by decide +kernel
theorem dX3_forget_1 : decode cX3_forget 1 = .ok (.iconst 0, 1) := by decide +kernel
theorem dX3_forget_2 : decode cX3_forget 2 = .ok (.putfield 35, 3) := by decide +kernel
theorem dX3_forget_5 : decode cX3_forget 5 = .ok (.aload_n 0, 1) := by decide +kernel
theorem dX3_forget_6 : decode cX3_forget 6 = .ok (.iconst 0, 1) := by decide +kernel
theorem dX3_forget_7 : decode cX3_forget 7 = .ok (.putfield 39, 3) := by decide +kernel
theorem dX3_forget_10 : decode cX3_forget 10 = .ok (.return_, 1) := by decide +kernel
def mX3_forget (t : zS) : zR := zpt t 51 6 0 fun t65 => zpt t65 51 7 0 fun t66 => some (0, t66)
set_option maxHeartbeats 4000000 in
set_option maxRecDepth 20000 in
theorem ctX3_forget {E : zE} {f : Nat} (hf : 1 ≤ f) {t : zS} {ro : Int32 × zS} (hF : mX3_forget   t = some ro) : zM E shC f yX3_forget cX3_forget 1 none [.ref (za E 51)] t ro := by
  refine zM_of (by decide) (Nat.le_of_ble_eq_true rfl) (fun C => ?_)
  show zJ E shC C cX3_forget RX3 1 f none ro t 0 [(0, .ref (za E 51))] []
  unfold mX3_forget at hF
  refine z_aload_n 0 dX3_forget_0 rfl rfl ?_
  refine z_iconst (v := 0) dX3_forget_1 (by decide) ?_
  refine z_puti fw_RX3_35 dX3_forget_2 (fun t65 et65 => ?_)
  have hF := zpt_at hF t65 et65
  refine z_aload_n 0 dX3_forget_5 rfl rfl ?_
  refine z_iconst (v := 0) dX3_forget_6 (by decide) ?_
  refine z_puti fw_RX3_39 dX3_forget_7 (fun t66 et66 => ?_)
  have hF := zpt_at hF t66 et66
  exact z_vret hF dX3_forget_10
-- SessionHouse$Statements.forget()V
theorem dX9_forget_0 : decode cX9_forget 0 = .ok (.aload_n 0, 1) := by decide +kernel
theorem dX9_forget_1 : decode cX9_forget 1 = .ok (.iconst 0, 1) := by decide +kernel
theorem dX9_forget_2 : decode cX9_forget 2 = .ok (.putfield 62, 3) := by decide +kernel
theorem dX9_forget_5 : decode cX9_forget 5 = .ok (.aload_n 0, 1) := by decide +kernel
theorem dX9_forget_6 : decode cX9_forget 6 = .ok (.iconst 0, 1) := by decide +kernel
theorem dX9_forget_7 : decode cX9_forget 7 = .ok (.putfield 66, 3) := by decide +kernel
theorem dX9_forget_10 : decode cX9_forget 10 = .ok (.return_, 1) := by decide +kernel
def mX9_forget (t : zS) : zR := zpt t 52 15 0 fun t67 => zpt t67 52 16 0 fun t68 => some (0, t68)
set_option maxHeartbeats 4000000 in
set_option maxRecDepth 20000 in
theorem ctX9_forget {E : zE} {f : Nat} (hf : 1 ≤ f) {t : zS} {ro : Int32 × zS} (hF : mX9_forget   t = some ro) : zM E shC f yX9_forget cX9_forget 1 none [.ref (za E 52)] t ro := by
  refine zM_of (by decide) (Nat.le_of_ble_eq_true rfl) (fun C => ?_)
  show zJ E shC C cX9_forget RX9 1 f none ro t 0 [(0, .ref (za E 52))] []
  unfold mX9_forget at hF
  refine z_aload_n 0 dX9_forget_0 rfl rfl ?_
  refine z_iconst (v := 0) dX9_forget_1 (by decide) ?_
  refine z_puti fw_RX9_62 dX9_forget_2 (fun t67 et67 => ?_)
  have hF := zpt_at hF t67 et67
  refine z_aload_n 0 dX9_forget_5 rfl rfl ?_
  refine z_iconst (v := 0) dX9_forget_6 (by decide) ?_
  refine z_puti fw_RX9_66 dX9_forget_7 (fun t68 et68 => ?_)
  have hF := zpt_at hF t68 et68
  exact z_vret hF dX9_forget_10
-- SessionHouse$Procs.forget()V
theorem dX6_forget_0 : decode cX6_forget 0 = .ok (.aload_n 0, 1) := by decide +kernel
theorem dX6_forget_1 : decode cX6_forget 1 = .ok (.iconst 0, 1) := by decide +kernel
theorem dX6_forget_2 : decode cX6_forget 2 = .ok (.putfield 44, 3) := by decide +kernel
theorem dX6_forget_5 : decode cX6_forget 5 = .ok (.aload_n 0, 1) := by decide +kernel
theorem dX6_forget_6 : decode cX6_forget 6 = .ok (.iconst 0, 1) := by decide +kernel
theorem dX6_forget_7 : decode cX6_forget 7 = .ok (.putfield 48, 3) := by decide +kernel
theorem dX6_forget_10 : decode cX6_forget 10 = .ok (.aload_n 0, 1) := by decide +kernel
theorem dX6_forget_11 : decode cX6_forget 11 = .ok (.getfield 14, 3) := by decide +kernel
theorem dX6_forget_14 : decode cX6_forget 14 = .ok (.iconst 0, 1) := by decide +kernel
theorem dX6_forget_15 : decode cX6_forget 15 = .ok (.sipush 1600, 3) := by decide +kernel
theorem dX6_forget_18 : decode cX6_forget 18 = .ok (.iconst (-1), 1) := by decide +kernel
theorem dX6_forget_19 : decode cX6_forget 19 = .ok (.invokevirtual 51, 3) := by decide +kernel
theorem dX6_forget_22 : decode cX6_forget 22 = .ok (.aload_n 0, 1) := by decide +kernel
theorem dX6_forget_23 : decode cX6_forget 23 = .ok (.getfield 41, 3) := by decide +kernel
theorem dX6_forget_26 : decode cX6_forget 26 = .ok (.iconst 0, 1) := by decide +kernel
theorem dX6_forget_27 : decode cX6_forget 27 = .ok (.sipush 1600, 3) := by decide +kernel
theorem dX6_forget_30 : decode cX6_forget 30 = .ok (.iconst (-1), 1) := by decide +kernel
theorem dX6_forget_31 : decode cX6_forget 31 = .ok (.invokevirtual 51, 3) := by decide +kernel
theorem dX6_forget_34 : decode cX6_forget 34 = .ok (.return_, 1) := by decide +kernel
def mX6_forget (t : zS) : zR := zpt t 4 10 0 fun t69 => zpt t69 4 9 0 fun t70 => zbd (mX5_fill 32 1600 0 1600 (-1) t70) fun r71 t72 => zbd (mX5_fill 48 1600 0 1600 (-1) t72) fun r74 t75 => some (0, t75)
set_option maxHeartbeats 4000000 in
set_option maxRecDepth 20000 in
theorem ctX6_forget {E : zE} {f : Nat} (hf : 2 ≤ f) {t : zS} {ro : Int32 × zS} (hF : mX6_forget   t = some ro) : zM E shC f yX6_forget cX6_forget 1 none [.ref (za E 4)] t ro := by
  refine zM_of (by decide) (Nat.le_of_ble_eq_true rfl) (fun C => ?_)
  show zJ E shC C cX6_forget RX6 1 f none ro t 0 [(0, .ref (za E 4))] []
  unfold mX6_forget at hF
  refine z_aload_n 0 dX6_forget_0 rfl rfl ?_
  refine z_iconst (v := 0) dX6_forget_1 (by decide) ?_
  refine z_puti fw_RX6_44 dX6_forget_2 (fun t69 et69 => ?_)
  have hF := zpt_at hF t69 et69
  refine z_aload_n 0 dX6_forget_5 rfl rfl ?_
  refine z_iconst (v := 0) dX6_forget_6 (by decide) ?_
  refine z_puti fw_RX6_48 dX6_forget_7 (fun t70 et70 => ?_)
  have hF := zpt_at hF t70 et70
  refine z_aload_n 0 dX6_forget_10 rfl rfl ?_
  refine z_getr fr_RX6_14 dX6_forget_11 ?_
  refine z_iconst (v := 0) dX6_forget_14 (by decide) ?_
  refine z_sipush (v := 1600) dX6_forget_15 (by decide) ?_
  refine z_iconst (v := (-1)) dX6_forget_18 (by decide) ?_
  obtain ⟨r71, t72, hc73, hF⟩ := zbd_at hF
  refine z_callVv (ctX5_fill (E := E) (sh := shC) (f := f - 1) (by omega) (k := 32) (n := 1600) rfl rfl hc73) yy_X5_fill yv_X5_fill ob_C_32 lk_RX6_51 (by omega) rfl rfl (Nat.le_of_ble_eq_true rfl) dX6_forget_19 ?_
  refine z_aload_n 0 dX6_forget_22 rfl rfl ?_
  refine z_getr fr_RX6_41 dX6_forget_23 ?_
  refine z_iconst (v := 0) dX6_forget_26 (by decide) ?_
  refine z_sipush (v := 1600) dX6_forget_27 (by decide) ?_
  refine z_iconst (v := (-1)) dX6_forget_30 (by decide) ?_
  obtain ⟨r74, t75, hc76, hF⟩ := zbd_at hF
  refine z_callVv (ctX5_fill (E := E) (sh := shC) (f := f - 1) (by omega) (k := 48) (n := 1600) rfl rfl hc76) yy_X5_fill yv_X5_fill ob_C_48 lk_RX6_51 (by omega) rfl rfl (Nat.le_of_ble_eq_true rfl) dX6_forget_31 ?_
  exact z_vret hF dX6_forget_34
-- SessionHouse$Ints.get(I)I
theorem dX5_get_0 : decode cX5_get 0 = .ok (.iload_n 1, 1) := by decide +kernel
theorem dX5_get_1 : decode cX5_get 1 = .ok (.ifCond .lt 21, 3) := by decide +kernel
theorem dX5_get_4 : decode cX5_get 4 = .ok (.iload_n 1, 1) := by decide +kernel
theorem dX5_get_5 : decode cX5_get 5 = .ok (.aload_n 0, 1) := by decide +kernel
theorem dX5_get_6 : decode cX5_get 6 = .ok (.getfield 13, 3) := by decide +kernel
theorem dX5_get_9 : decode cX5_get 9 = .ok (.arraylength, 1) := by decide +kernel
theorem dX5_get_10 : decode cX5_get 10 = .ok (.if_icmp .ge 12, 3) := by decide +kernel
theorem dX5_get_13 : decode cX5_get 13 = .ok (.aload_n 0, 1) := by decide +kernel
theorem dX5_get_14 : decode cX5_get 14 = .ok (.getfield 13, 3) := by decide +kernel
theorem dX5_get_17 : decode cX5_get 17 = .ok (.iload_n 1, 1) := by decide +kernel
theorem dX5_get_18 : decode cX5_get 18 = .ok (.iaload, 1) := by decide +kernel
theorem dX5_get_19 : decode cX5_get 19 = .ok (.goto 4, 3) := by decide +kernel
theorem dX5_get_22 : decode cX5_get 22 = .ok (.iconst (-1), 1) := by decide +kernel
theorem dX5_get_23 : decode cX5_get 23 = .ok (.ireturn, 1) := by decide +kernel
def mX5_get (k n : Nat) (x1 : Int32) (t : zS) : zR := if x1 < 0 then some ((-1), t) else if (Int32.ofNat n) ≤ x1 then some ((-1), t) else zrd t (k + 1) n x1 fun v77 => some (v77, t)
set_option maxHeartbeats 4000000 in
set_option maxRecDepth 20000 in
theorem ctX5_get {E : zE} {sh : zSh} {f : Nat} (hf : 1 ≤ f) {k n : Nat} (hI : sh[k]? = some (.inr (5, [some (k + 1)]))) (hA : sh[k + 1]? = some (.inl (0, n))) {x1 : Int32} {t : zS} {ro : Int32 × zS} (hF : mX5_get k n x1 t = some ro) : zM E sh f yX5_get cX5_get 2 (some .int) [.ref (za E k), .int x1] t ro := by
  refine zM_of (by decide) (Nat.le_of_ble_eq_true rfl) (fun C => ?_)
  show zJ E sh C cX5_get RX5 2 f (some .int) ro t 0 [(0, .ref (za E k)), (1, .int x1)] []
  unfold mX5_get at hF
  refine z_iload_n 1 dX5_get_0 rfl rfl ?_
  refine z_if_lt (tgt := 22) dX5_get_1 (by decide) (fun hc => ?_) (fun hc => ?_)
  · have hF := zif_t hc hF
    refine z_iconst (v := (-1)) dX5_get_22 (by decide) ?_
    exact z_iret hF dX5_get_23
  · have hF := zif_f hc hF
    refine z_iload_n 1 dX5_get_4 rfl rfl ?_
    refine z_aload_n 0 dX5_get_5 rfl rfl ?_
    refine z_getr (zFr_ints hI) dX5_get_6 ?_
    refine z_alen hA rfl rfl dX5_get_9 ?_
    refine z_icmp_ge (tgt := 22) dX5_get_10 (by decide) (fun hc => ?_) (fun hc => ?_)
    · have hF := zif_t hc hF
      refine z_iconst (v := (-1)) dX5_get_22 (by decide) ?_
      exact z_iret hF dX5_get_23
    · have hF := zif_f hc hF
      refine z_aload_n 0 dX5_get_13 rfl rfl ?_
      refine z_getr (zFr_ints hI) dX5_get_14 ?_
      refine z_iload_n 1 dX5_get_17 rfl rfl ?_
      obtain ⟨hi78, hF⟩ := zrd_at hF
      refine z_iald (n := n) hA hi78 dX5_get_18 ?_
      generalize t (k + 1) (Int32.toNatClampNeg x1) = v77 at hF ⊢
      refine z_goto (tgt := 23) dX5_get_19 (by decide) ?_
      exact z_iret hF dX5_get_23
-- SessionHouse$Words.isSame(II)Z
theorem dX10_isSame_0 : decode cX10_isSame 0 = .ok (.aload_n 0, 1) := by decide +kernel
theorem dX10_isSame_1 : decode cX10_isSame 1 = .ok (.getfield 24, 3) := by decide +kernel
theorem dX10_isSame_4 : decode cX10_isSame 4 = .ok (.iload_n 1, 1) := by decide +kernel
theorem dX10_isSame_5 : decode cX10_isSame 5 = .ok (.invokevirtual 33, 3) := by decide +kernel
theorem dX10_isSame_8 : decode cX10_isSame 8 = .ok (.istore_n 3, 1) := by decide +kernel
theorem dX10_isSame_9 : decode cX10_isSame 9 = .ok (.aload_n 0, 1) := by decide +kernel
theorem dX10_isSame_10 : decode cX10_isSame 10 = .ok (.getfield 65, 3) := by decide +kernel
theorem dX10_isSame_13 : decode cX10_isSame 13 = .ok (.iload_n 2, 1) := by decide +kernel
theorem dX10_isSame_14 : decode cX10_isSame 14 = .ok (.isub, 1) := by decide +kernel
theorem dX10_isSame_15 : decode cX10_isSame 15 = .ok (.istore 4, 2) := by decide +kernel
theorem dX10_isSame_17 : decode cX10_isSame 17 = .ok (.aload_n 0, 1) := by decide +kernel
theorem dX10_isSame_18 : decode cX10_isSame 18 = .ok (.getfield 24, 3) := by decide +kernel
theorem dX10_isSame_21 : decode cX10_isSame 21 = .ok (.iload_n 1, 1) := by decide +kernel
theorem dX10_isSame_22 : decode cX10_isSame 22 = .ok (.iconst 1, 1) := by decide +kernel
theorem dX10_isSame_23 : decode cX10_isSame 23 = .ok (.iadd, 1) := by decide +kernel
theorem dX10_isSame_24 : decode cX10_isSame 24 = .ok (.invokevirtual 33, 3) := by decide +kernel
theorem dX10_isSame_27 : decode cX10_isSame 27 = .ok (.iload_n 3, 1) := by decide +kernel
theorem dX10_isSame_28 : decode cX10_isSame 28 = .ok (.isub, 1) := by decide +kernel
theorem dX10_isSame_29 : decode cX10_isSame 29 = .ok (.iload 4, 2) := by decide +kernel
theorem dX10_isSame_31 : decode cX10_isSame 31 = .ok (.if_icmp .eq 5, 3) := by decide +kernel
theorem dX10_isSame_34 : decode cX10_isSame 34 = .ok (.iconst 0, 1) := by decide +kernel
theorem dX10_isSame_35 : decode cX10_isSame 35 = .ok (.ireturn, 1) := by decide +kernel
theorem dX10_isSame_36 : decode cX10_isSame 36 = .ok (.iconst 0, 1) := by decide +kernel
theorem dX10_isSame_37 : decode cX10_isSame 37 = .ok (.istore 5, 2) := by decide +kernel
theorem dX10_isSame_39 : decode cX10_isSame 39 = .ok (.iload 5, 2) := by decide +kernel
theorem dX10_isSame_41 : decode cX10_isSame 41 = .ok (.iload 4, 2) := by decide +kernel
theorem dX10_isSame_43 : decode cX10_isSame 43 = .ok (.if_icmp .ge 36, 3) := by decide +kernel
theorem dX10_isSame_46 : decode cX10_isSame 46 = .ok (.aload_n 0, 1) := by decide +kernel
theorem dX10_isSame_47 : decode cX10_isSame 47 = .ok (.getfield 20, 3) := by decide +kernel
theorem dX10_isSame_50 : decode cX10_isSame 50 = .ok (.iload_n 3, 1) := by decide +kernel
theorem dX10_isSame_51 : decode cX10_isSame 51 = .ok (.iload 5, 2) := by decide +kernel
theorem dX10_isSame_53 : decode cX10_isSame 53 = .ok (.iadd, 1) := by decide +kernel
theorem dX10_isSame_54 : decode cX10_isSame 54 = .ok (.invokevirtual 33, 3) := by decide +kernel
theorem dX10_isSame_57 : decode cX10_isSame 57 = .ok (.aload_n 0, 1) := by decide +kernel
theorem dX10_isSame_58 : decode cX10_isSame 58 = .ok (.getfield 20, 3) := by decide +kernel
theorem dX10_isSame_61 : decode cX10_isSame 61 = .ok (.iload_n 2, 1) := by decide +kernel
theorem dX10_isSame_62 : decode cX10_isSame 62 = .ok (.iload 5, 2) := by decide +kernel
theorem dX10_isSame_64 : decode cX10_isSame 64 = .ok (.iadd, 1) := by decide +kernel
theorem dX10_isSame_65 : decode cX10_isSame 65 = .ok (.invokevirtual 33, 3) := by decide +kernel
theorem dX10_isSame_68 : decode cX10_isSame 68 = .ok (.if_icmp .eq 5, 3) := by decide +kernel
theorem dX10_isSame_71 : decode cX10_isSame 71 = .ok (.iconst 0, 1) := by decide +kernel
theorem dX10_isSame_72 : decode cX10_isSame 72 = .ok (.ireturn, 1) := by decide +kernel
theorem dX10_isSame_73 : decode cX10_isSame 73 = .ok (.iinc 5 1, 3) := by decide +kernel
theorem dX10_isSame_76 : decode cX10_isSame 76 = .ok (.goto (-37), 3) := by decide +kernel
theorem dX10_isSame_79 : decode cX10_isSame 79 = .ok (.iconst 1, 1) := by decide +kernel
theorem dX10_isSame_80 : decode cX10_isSame 80 = .ok (.ireturn, 1) := by decide +kernel
def bX10_isSame_39 (k39 : Int32 → Int32 → Int32 → Int32 → zS → zR) (x2 : Int32) (x3 : Int32) (x4 : Int32) (x5 : Int32) (t : zS) : zR := if x4 ≤ x5 then some (1, t) else zbd (mX5_get 68 3120 (x3 + x5) t) fun r79 t80 => zbd (mX5_get 68 3120 (x2 + x5) t80) fun r82 t83 => if r79 = r82 then zlet (x5 + 1) fun v85 => k39 x2 x3 x4 v85 t83 else some (0, t83)
def lX10_isSame_39 : Nat → Int32 → Int32 → Int32 → Int32 → zS → zR
  | 0, _, _, _, _, _ => none
  | fu + 1, x2, x3, x4, x5, t => bX10_isSame_39 (lX10_isSame_39  fu) x2 x3 x4 x5 t
def mX10_isSame (x1 : Int32) (x2 : Int32) (t : zS) : zR := zbd (mX5_get 70 1602 x1 t) fun r86 t87 => zlet ((t87 50 6) - x2) fun v89 => zbd (mX5_get 70 1602 (x1 + 1) t87) fun r90 t91 => if (r90 - r86) = v89 then lX10_isSame_39  zFU x2 r86 v89 0 t91 else some (0, t91)
set_option maxHeartbeats 4000000 in
set_option maxRecDepth 20000 in
theorem wbX10_isSame_39 {E : zE} {C : zC} {f : Nat} {ro : Int32 × zS} (hf : 6 ≤ f) (k39 : Int32 → Int32 → Int32 → Int32 → zS → zR) (hk39 : ∀ (x2 x3 x4 x5 : Int32) (t : zS), k39 x2 x3 x4 x5 t = some ro → zJ E shC C cX10_isSame RX10 6 f (some .boolean) ro t 39 [(0, .ref (za E 50)), (2, .int x2), (3, .int x3), (4, .int x4), (5, .int x5)] []) (x2 : Int32) (x3 : Int32) (x4 : Int32) (x5 : Int32) (t : zS) (hF : bX10_isSame_39 k39 x2 x3 x4 x5 t = some ro) : zJ E shC C cX10_isSame RX10 6 f (some .boolean) ro t 39 [(0, .ref (za E 50)), (2, .int x2), (3, .int x3), (4, .int x4), (5, .int x5)] [] := by
  unfold bX10_isSame_39 at hF
  refine z_iload 4 dX10_isSame_39 rfl ?_
  refine z_iload 3 dX10_isSame_41 rfl ?_
  refine z_icmp_ge (tgt := 79) dX10_isSame_43 (by decide) (fun hc => ?_) (fun hc => ?_)
  · have hF := zif_t hc hF
    refine z_iconst (v := 1) dX10_isSame_79 (by decide) ?_
    exact z_zret hF (by decide) dX10_isSame_80
  · have hF := zif_f hc hF
    refine z_aload_n 0 dX10_isSame_46 rfl rfl ?_
    refine z_getr fr_RX10_20 dX10_isSame_47 ?_
    refine z_iload_n 2 dX10_isSame_50 rfl rfl ?_
    refine z_iload 4 dX10_isSame_51 rfl ?_
    refine z_iadd dX10_isSame_53 ?_
    obtain ⟨r79, t80, hc81, hF⟩ := zbd_at hF
    refine z_callVi (ctX5_get (E := E) (sh := shC) (f := f - 1) (by omega) (k := 68) (n := 3120) rfl rfl hc81) yy_X5_get yv_X5_get ob_C_68 lk_RX10_33 (by omega) rfl rfl (Nat.le_of_ble_eq_true rfl) dX10_isSame_54 ?_
    refine z_aload_n 0 dX10_isSame_57 rfl rfl ?_
    refine z_getr fr_RX10_20 dX10_isSame_58 ?_
    refine z_iload_n 1 dX10_isSame_61 rfl rfl ?_
    refine z_iload 4 dX10_isSame_62 rfl ?_
    refine z_iadd dX10_isSame_64 ?_
    obtain ⟨r82, t83, hc84, hF⟩ := zbd_at hF
    refine z_callVi (ctX5_get (E := E) (sh := shC) (f := f - 1) (by omega) (k := 68) (n := 3120) rfl rfl hc84) yy_X5_get yv_X5_get ob_C_68 lk_RX10_33 (by omega) rfl rfl (Nat.le_of_ble_eq_true rfl) dX10_isSame_65 ?_
    refine z_icmp_eq (tgt := 73) dX10_isSame_68 (by decide) (fun hc => ?_) (fun hc => ?_)
    · have hF := zif_t hc hF
      obtain ⟨v85, ev85⟩ : ∃ y : Int32, y = (x5 + 1) := ⟨_, rfl⟩
      have hF := zlet_at ev85 hF
      refine z_iinc (v := v85) (lv' := [(5, .int v85), (0, .ref (za E 50)), (2, .int x2), (3, .int x3), (4, .int x4)]) (k := 4) dX10_isSame_73 rfl (by rw [ev85]; rfl) (by decide) rfl ?_
      refine z_goto (tgt := 39) dX10_isSame_76 (by decide) ?_
      refine z_sub [1, 2, 3, 4, 0] rfl ?_
      exact hk39 x2 x3 x4 v85 _ hF
    · have hF := zif_f hc hF
      refine z_iconst (v := 0) dX10_isSame_71 (by decide) ?_
      exact z_zret hF (by decide) dX10_isSame_72
set_option maxHeartbeats 4000000 in
set_option maxRecDepth 20000 in
theorem wlX10_isSame_39 {E : zE} {C : zC} {f : Nat} {ro : Int32 × zS} (hf : 6 ≤ f) (fu : Nat) : ∀ (x2 x3 x4 x5 : Int32) (t : zS), lX10_isSame_39  fu x2 x3 x4 x5 t = some ro → zJ E shC C cX10_isSame RX10 6 f (some .boolean) ro t 39 [(0, .ref (za E 50)), (2, .int x2), (3, .int x3), (4, .int x4), (5, .int x5)] [] := by
  induction fu with
  | zero => intro x2 x3 x4 x5 t hF; cases hF
  | succ fu ih => intro x2 x3 x4 x5 t hF; exact wbX10_isSame_39 hf (lX10_isSame_39  fu) ih x2 x3 x4 x5 t hF
set_option maxHeartbeats 4000000 in
set_option maxRecDepth 20000 in
theorem ctX10_isSame {E : zE} {f : Nat} (hf : 6 ≤ f) {x1 : Int32} {x2 : Int32} {t : zS} {ro : Int32 × zS} (hF : mX10_isSame  x1 x2 t = some ro) : zM E shC f yX10_isSame cX10_isSame 6 (some .boolean) [.ref (za E 50), .int x1, .int x2] t ro := by
  refine zM_of (by decide) (Nat.le_of_ble_eq_true rfl) (fun C => ?_)
  show zJ E shC C cX10_isSame RX10 6 f (some .boolean) ro t 0 [(0, .ref (za E 50)), (1, .int x1), (2, .int x2)] []
  unfold mX10_isSame at hF
  refine z_aload_n 0 dX10_isSame_0 rfl rfl ?_
  refine z_getr fr_RX10_24 dX10_isSame_1 ?_
  refine z_iload_n 1 dX10_isSame_4 rfl rfl ?_
  obtain ⟨r86, t87, hc88, hF⟩ := zbd_at hF
  refine z_callVi (ctX5_get (E := E) (sh := shC) (f := f - 1) (by omega) (k := 70) (n := 1602) rfl rfl hc88) yy_X5_get yv_X5_get ob_C_70 lk_RX10_33 (by omega) rfl rfl (Nat.le_of_ble_eq_true rfl) dX10_isSame_5 ?_
  refine z_istore_n (lv' := [(3, .int r86), (0, .ref (za E 50)), (1, .int x1), (2, .int x2)]) dX10_isSame_8 rfl (by decide) rfl ?_
  refine z_aload_n 1 dX10_isSame_9 rfl rfl ?_
  refine z_geti fi_RX10_65 dX10_isSame_10 ?_
  refine z_iload_n 3 dX10_isSame_13 rfl rfl ?_
  refine z_isub dX10_isSame_14 ?_
  refine z_topi (fun v89 ev89 => ?_)
  have hF := zlet_at ev89 hF
  refine z_istore (lv' := [(4, .int v89), (3, .int r86), (0, .ref (za E 50)), (1, .int x1), (2, .int x2)]) dX10_isSame_15 (by decide) rfl ?_
  refine z_aload_n 2 dX10_isSame_17 rfl rfl ?_
  refine z_getr fr_RX10_24 dX10_isSame_18 ?_
  refine z_iload_n 3 dX10_isSame_21 rfl rfl ?_
  refine z_iconst (v := 1) dX10_isSame_22 (by decide) ?_
  refine z_iadd dX10_isSame_23 ?_
  obtain ⟨r90, t91, hc92, hF⟩ := zbd_at hF
  refine z_callVi (ctX5_get (E := E) (sh := shC) (f := f - 1) (by omega) (k := 70) (n := 1602) rfl rfl hc92) yy_X5_get yv_X5_get ob_C_70 lk_RX10_33 (by omega) rfl rfl (Nat.le_of_ble_eq_true rfl) dX10_isSame_24 ?_
  refine z_iload_n 1 dX10_isSame_27 rfl rfl ?_
  refine z_isub dX10_isSame_28 ?_
  refine z_iload 0 dX10_isSame_29 rfl ?_
  refine z_icmp_eq (tgt := 36) dX10_isSame_31 (by decide) (fun hc => ?_) (fun hc => ?_)
  · have hF := zif_t hc hF
    refine z_iconst (v := 0) dX10_isSame_36 (by decide) ?_
    refine z_istore (lv' := [(5, .int 0), (4, .int v89), (3, .int r86), (0, .ref (za E 50)), (1, .int x1), (2, .int x2)]) dX10_isSame_37 (by decide) rfl ?_
    refine z_sub [3, 5, 2, 1, 0] rfl ?_
    exact wlX10_isSame_39 hf  zFU x2 r86 v89 0 _ hF
  · have hF := zif_f hc hF
    refine z_iconst (v := 0) dX10_isSame_34 (by decide) ?_
    exact z_zret hF (by decide) dX10_isSame_35
-- SessionHouse$Words.nameNumber()I
theorem dX10_nameNumber_0 : decode cX10_nameNumber 0 = .ok (.aload_n 0, 1) := by decide +kernel
theorem dX10_nameNumber_1 : decode cX10_nameNumber 1 = .ok (.getfield 24, 3) := by decide +kernel
theorem dX10_nameNumber_4 : decode cX10_nameNumber 4 = .ok (.aload_n 0, 1) := by decide +kernel
theorem dX10_nameNumber_5 : decode cX10_nameNumber 5 = .ok (.getfield 62, 3) := by decide +kernel
theorem dX10_nameNumber_8 : decode cX10_nameNumber 8 = .ok (.invokevirtual 33, 3) := by decide +kernel
theorem dX10_nameNumber_11 : decode cX10_nameNumber 11 = .ok (.istore_n 1, 1) := by decide +kernel
theorem dX10_nameNumber_12 : decode cX10_nameNumber 12 = .ok (.iconst 0, 1) := by decide +kernel
theorem dX10_nameNumber_13 : decode cX10_nameNumber 13 = .ok (.istore_n 2, 1) := by decide +kernel
theorem dX10_nameNumber_14 : decode cX10_nameNumber 14 = .ok (.iload_n 1, 1) := by decide +kernel
theorem dX10_nameNumber_15 : decode cX10_nameNumber 15 = .ok (.istore_n 3, 1) := by decide +kernel
theorem dX10_nameNumber_16 : decode cX10_nameNumber 16 = .ok (.iload_n 3, 1) := by decide +kernel
theorem dX10_nameNumber_17 : decode cX10_nameNumber 17 = .ok (.aload_n 0, 1) := by decide +kernel
theorem dX10_nameNumber_18 : decode cX10_nameNumber 18 = .ok (.getfield 65, 3) := by decide +kernel
theorem dX10_nameNumber_21 : decode cX10_nameNumber 21 = .ok (.if_icmp .ge 23, 3) := by decide +kernel
theorem dX10_nameNumber_24 : decode cX10_nameNumber 24 = .ok (.iload_n 2, 1) := by decide +kernel
theorem dX10_nameNumber_25 : decode cX10_nameNumber 25 = .ok (.bipush 31, 2) := by decide +kernel
theorem dX10_nameNumber_27 : decode cX10_nameNumber 27 = .ok (.imul, 1) := by decide +kernel
theorem dX10_nameNumber_28 : decode cX10_nameNumber 28 = .ok (.aload_n 0, 1) := by decide +kernel
theorem dX10_nameNumber_29 : decode cX10_nameNumber 29 = .ok (.getfield 20, 3) := by decide +kernel
theorem dX10_nameNumber_32 : decode cX10_nameNumber 32 = .ok (.iload_n 3, 1) := by decide +kernel
theorem dX10_nameNumber_33 : decode cX10_nameNumber 33 = .ok (.invokevirtual 33, 3) := by decide +kernel
theorem dX10_nameNumber_36 : decode cX10_nameNumber 36 = .ok (.iadd, 1) := by decide +kernel
theorem dX10_nameNumber_37 : decode cX10_nameNumber 37 = .ok (.istore_n 2, 1) := by decide +kernel
theorem dX10_nameNumber_38 : decode cX10_nameNumber 38 = .ok (.iinc 3 1, 3) := by decide +kernel
theorem dX10_nameNumber_41 : decode cX10_nameNumber 41 = .ok (.goto (-25), 3) := by decide +kernel
theorem dX10_nameNumber_44 : decode cX10_nameNumber 44 = .ok (.iconst 0, 1) := by decide +kernel
theorem dX10_nameNumber_45 : decode cX10_nameNumber 45 = .ok (.istore_n 3, 1) := by decide +kernel
theorem dX10_nameNumber_46 : decode cX10_nameNumber 46 = .ok (.iload_n 3, 1) := by decide +kernel
theorem dX10_nameNumber_47 : decode cX10_nameNumber 47 = .ok (.sipush 4096, 3) := by decide +kernel
theorem dX10_nameNumber_50 : decode cX10_nameNumber 50 = .ok (.if_icmp .ge 97, 3) := by decide +kernel
theorem dX10_nameNumber_53 : decode cX10_nameNumber 53 = .ok (.iload_n 2, 1) := by decide +kernel
theorem dX10_nameNumber_54 : decode cX10_nameNumber 54 = .ok (.iload_n 3, 1) := by decide +kernel
theorem dX10_nameNumber_55 : decode cX10_nameNumber 55 = .ok (.iadd, 1) := by decide +kernel
theorem dX10_nameNumber_56 : decode cX10_nameNumber 56 = .ok (.sipush 4095, 3) := by decide +kernel
theorem dX10_nameNumber_59 : decode cX10_nameNumber 59 = .ok (.iand, 1) := by decide +kernel
theorem dX10_nameNumber_60 : decode cX10_nameNumber 60 = .ok (.istore 4, 2) := by decide +kernel
theorem dX10_nameNumber_62 : decode cX10_nameNumber 62 = .ok (.aload_n 0, 1) := by decide +kernel
theorem dX10_nameNumber_63 : decode cX10_nameNumber 63 = .ok (.getfield 27, 3) := by decide +kernel
theorem dX10_nameNumber_66 : decode cX10_nameNumber 66 = .ok (.iload 4, 2) := by decide +kernel
theorem dX10_nameNumber_68 : decode cX10_nameNumber 68 = .ok (.invokevirtual 33, 3) := by decide +kernel
theorem dX10_nameNumber_71 : decode cX10_nameNumber 71 = .ok (.istore 5, 2) := by decide +kernel
theorem dX10_nameNumber_73 : decode cX10_nameNumber 73 = .ok (.iload 5, 2) := by decide +kernel
theorem dX10_nameNumber_75 : decode cX10_nameNumber 75 = .ok (.ifCond .ge 48, 3) := by decide +kernel
theorem dX10_nameNumber_78 : decode cX10_nameNumber 78 = .ok (.aload_n 0, 1) := by decide +kernel
theorem dX10_nameNumber_79 : decode cX10_nameNumber 79 = .ok (.getfield 27, 3) := by decide +kernel
theorem dX10_nameNumber_82 : decode cX10_nameNumber 82 = .ok (.iload 4, 2) := by decide +kernel
theorem dX10_nameNumber_84 : decode cX10_nameNumber 84 = .ok (.aload_n 0, 1) := by decide +kernel
theorem dX10_nameNumber_85 : decode cX10_nameNumber 85 = .ok (.getfield 62, 3) := by decide +kernel
theorem dX10_nameNumber_88 : decode cX10_nameNumber 88 = .ok (.invokevirtual 68, 3) := by decide +kernel
theorem dX10_nameNumber_91 : decode cX10_nameNumber 91 = .ok (.aload_n 0, 1) := by decide +kernel
theorem dX10_nameNumber_92 : decode cX10_nameNumber 92 = .ok (.dup, 1) := by decide +kernel
theorem dX10_nameNumber_93 : decode cX10_nameNumber 93 = .ok (.getfield 62, 3) := by decide +kernel
theorem dX10_nameNumber_96 : decode cX10_nameNumber 96 = .ok (.iconst 1, 1) := by decide +kernel
theorem dX10_nameNumber_97 : decode cX10_nameNumber 97 = .ok (.iadd, 1) := by decide +kernel
theorem dX10_nameNumber_98 : decode cX10_nameNumber 98 = .ok (.putfield 62, 3) := by decide +kernel
theorem dX10_nameNumber_101 : decode cX10_nameNumber 101 = .ok (.aload_n 0, 1) := by decide +kernel
theorem dX10_nameNumber_102 : decode cX10_nameNumber 102 = .ok (.getfield 24, 3) := by decide +kernel
theorem dX10_nameNumber_105 : decode cX10_nameNumber 105 = .ok (.aload_n 0, 1) := by decide +kernel
theorem dX10_nameNumber_106 : decode cX10_nameNumber 106 = .ok (.getfield 62, 3) := by decide +kernel
theorem dX10_nameNumber_109 : decode cX10_nameNumber 109 = .ok (.aload_n 0, 1) := by decide +kernel
theorem dX10_nameNumber_110 : decode cX10_nameNumber 110 = .ok (.getfield 65, 3) := by decide +kernel
theorem dX10_nameNumber_113 : decode cX10_nameNumber 113 = .ok (.invokevirtual 68, 3) := by decide +kernel
theorem dX10_nameNumber_116 : decode cX10_nameNumber 116 = .ok (.aload_n 0, 1) := by decide +kernel
theorem dX10_nameNumber_117 : decode cX10_nameNumber 117 = .ok (.getfield 62, 3) := by decide +kernel
theorem dX10_nameNumber_120 : decode cX10_nameNumber 120 = .ok (.iconst 1, 1) := by decide +kernel
theorem dX10_nameNumber_121 : decode cX10_nameNumber 121 = .ok (.isub, 1) := by decide +kernel
theorem dX10_nameNumber_122 : decode cX10_nameNumber 122 = .ok (.ireturn, 1) := by decide +kernel
theorem dX10_nameNumber_123 : decode cX10_nameNumber 123 = .ok (.aload_n 0, 1) := by decide +kernel
theorem dX10_nameNumber_124 : decode cX10_nameNumber 124 = .ok (.iload 5, 2) := by decide +kernel
theorem dX10_nameNumber_126 : decode cX10_nameNumber 126 = .ok (.iload_n 1, 1) := by decide +kernel
theorem dX10_nameNumber_127 : decode cX10_nameNumber 127 = .ok (.invokevirtual 95, 3) := by decide +kernel
theorem dX10_nameNumber_130 : decode cX10_nameNumber 130 = .ok (.ifCond .eq 11, 3) := by decide +kernel
theorem dX10_nameNumber_133 : decode cX10_nameNumber 133 = .ok (.aload_n 0, 1) := by decide +kernel
theorem dX10_nameNumber_134 : decode cX10_nameNumber 134 = .ok (.iload_n 1, 1) := by decide +kernel
theorem dX10_nameNumber_135 : decode cX10_nameNumber 135 = .ok (.putfield 65, 3) := by decide +kernel
theorem dX10_nameNumber_138 : decode cX10_nameNumber 138 = .ok (.iload 5, 2) := by decide +kernel
theorem dX10_nameNumber_140 : decode cX10_nameNumber 140 = .ok (.ireturn, 1) := by decide +kernel
theorem dX10_nameNumber_141 : decode cX10_nameNumber 141 = .ok (.iinc 3 1, 3) := by decide +kernel
theorem dX10_nameNumber_144 : decode cX10_nameNumber 144 = .ok (.goto (-98), 3) := by decide +kernel
theorem dX10_nameNumber_147 : decode cX10_nameNumber 147 = .ok (.iconst (-1), 1) := by decide +kernel
theorem dX10_nameNumber_148 : decode cX10_nameNumber 148 = .ok (.ireturn, 1) := by decide +kernel
def bX10_nameNumber_46 (k46 : Int32 → Int32 → Int32 → zS → zR) (x1 : Int32) (x2 : Int32) (x3 : Int32) (t : zS) : zR := if 4096 ≤ x3 then some ((-1), t) else zlet ((x2 + x3) &&& 4095) fun v93 => zbd (mX5_get 72 4096 v93 t) fun r94 t95 => if 0 ≤ r94 then zbd (mX10_isSame r94 x1 t95) fun r97 t98 => if r97 = 0 then zlet (x3 + 1) fun v100 => k46 x1 x2 v100 t98 else zpt t98 50 6 x1 fun t101 => some (r94, t101) else zbd (mX5_set 72 4096 v93 (t95 50 5) t95) fun r102 t103 => zpt t103 50 5 ((t103 50 5) + 1) fun t105 => zbd (mX5_set 70 1602 (t105 50 5) (t105 50 6) t105) fun r106 t107 => some (((t107 50 5) - 1), t107)
def lX10_nameNumber_46 : Nat → Int32 → Int32 → Int32 → zS → zR
  | 0, _, _, _, _ => none
  | fu + 1, x1, x2, x3, t => bX10_nameNumber_46 (lX10_nameNumber_46  fu) x1 x2 x3 t
def bX10_nameNumber_16 (k16 : Int32 → Int32 → Int32 → zS → zR) (x1 : Int32) (x2 : Int32) (x3 : Int32) (t : zS) : zR := if (t 50 6) ≤ x3 then lX10_nameNumber_46  zFU x1 x2 0 t else zbd (mX5_get 68 3120 x3 t) fun r109 t110 => zlet ((x2 * 31) + r109) fun v112 => zlet (x3 + 1) fun v113 => k16 x1 v112 v113 t110
def lX10_nameNumber_16 : Nat → Int32 → Int32 → Int32 → zS → zR
  | 0, _, _, _, _ => none
  | fu + 1, x1, x2, x3, t => bX10_nameNumber_16 (lX10_nameNumber_16  fu) x1 x2 x3 t
def mX10_nameNumber (t : zS) : zR := zbd (mX5_get 70 1602 (t 50 5) t) fun r114 t115 => lX10_nameNumber_16  zFU r114 0 r114 t115
set_option maxHeartbeats 4000000 in
set_option maxRecDepth 20000 in
theorem wbX10_nameNumber_46 {E : zE} {C : zC} {f : Nat} {ro : Int32 × zS} (hf : 7 ≤ f) (k46 : Int32 → Int32 → Int32 → zS → zR) (hk46 : ∀ (x1 x2 x3 : Int32) (t : zS), k46 x1 x2 x3 t = some ro → zJ E shC C cX10_nameNumber RX10 6 f (some .int) ro t 46 [(0, .ref (za E 50)), (1, .int x1), (2, .int x2), (3, .int x3)] []) (x1 : Int32) (x2 : Int32) (x3 : Int32) (t : zS) (hF : bX10_nameNumber_46 k46 x1 x2 x3 t = some ro) : zJ E shC C cX10_nameNumber RX10 6 f (some .int) ro t 46 [(0, .ref (za E 50)), (1, .int x1), (2, .int x2), (3, .int x3)] [] := by
  unfold bX10_nameNumber_46 at hF
  refine z_iload_n 3 dX10_nameNumber_46 rfl rfl ?_
  refine z_sipush (v := 4096) dX10_nameNumber_47 (by decide) ?_
  refine z_icmp_ge (tgt := 147) dX10_nameNumber_50 (by decide) (fun hc => ?_) (fun hc => ?_)
  · have hF := zif_t hc hF
    refine z_iconst (v := (-1)) dX10_nameNumber_147 (by decide) ?_
    exact z_iret hF dX10_nameNumber_148
  · have hF := zif_f hc hF
    refine z_iload_n 2 dX10_nameNumber_53 rfl rfl ?_
    refine z_iload_n 3 dX10_nameNumber_54 rfl rfl ?_
    refine z_iadd dX10_nameNumber_55 ?_
    refine z_sipush (v := 4095) dX10_nameNumber_56 (by decide) ?_
    refine z_iand dX10_nameNumber_59 ?_
    refine z_topi (fun v93 ev93 => ?_)
    have hF := zlet_at ev93 hF
    refine z_istore (lv' := [(4, .int v93), (0, .ref (za E 50)), (1, .int x1), (2, .int x2), (3, .int x3)]) dX10_nameNumber_60 (by decide) rfl ?_
    refine z_aload_n 1 dX10_nameNumber_62 rfl rfl ?_
    refine z_getr fr_RX10_27 dX10_nameNumber_63 ?_
    refine z_iload 0 dX10_nameNumber_66 rfl ?_
    obtain ⟨r94, t95, hc96, hF⟩ := zbd_at hF
    refine z_callVi (ctX5_get (E := E) (sh := shC) (f := f - 1) (by omega) (k := 72) (n := 4096) rfl rfl hc96) yy_X5_get yv_X5_get ob_C_72 lk_RX10_33 (by omega) rfl rfl (Nat.le_of_ble_eq_true rfl) dX10_nameNumber_68 ?_
    refine z_istore (lv' := [(5, .int r94), (4, .int v93), (0, .ref (za E 50)), (1, .int x1), (2, .int x2), (3, .int x3)]) dX10_nameNumber_71 (by decide) rfl ?_
    refine z_iload 0 dX10_nameNumber_73 rfl ?_
    refine z_if_ge (tgt := 123) dX10_nameNumber_75 (by decide) (fun hc => ?_) (fun hc => ?_)
    · have hF := zif_t hc hF
      refine z_aload_n 2 dX10_nameNumber_123 rfl rfl ?_
      refine z_iload 0 dX10_nameNumber_124 rfl ?_
      refine z_iload_n 3 dX10_nameNumber_126 rfl rfl ?_
      obtain ⟨r97, t98, hc99, hF⟩ := zbd_at hF
      refine z_callVi (ctX10_isSame (E := E) (f := f - 1) (by omega) hc99) yy_X10_isSame yv_X10_isSame ob_C_50 lk_RX10_95 (by omega) rfl rfl (Nat.le_of_ble_eq_true rfl) dX10_nameNumber_127 ?_
      refine z_if_eq (tgt := 141) dX10_nameNumber_130 (by decide) (fun hc => ?_) (fun hc => ?_)
      · have hF := zif_t hc hF
        obtain ⟨v100, ev100⟩ : ∃ y : Int32, y = (x3 + 1) := ⟨_, rfl⟩
        have hF := zlet_at ev100 hF
        refine z_iinc (v := v100) (lv' := [(3, .int v100), (5, .int r94), (4, .int v93), (0, .ref (za E 50)), (1, .int x1), (2, .int x2)]) (k := 5) dX10_nameNumber_141 rfl (by rw [ev100]; rfl) (by decide) rfl ?_
        refine z_goto (tgt := 46) dX10_nameNumber_144 (by decide) ?_
        refine z_sub [3, 4, 5, 0] rfl ?_
        exact hk46 x1 x2 v100 _ hF
      · have hF := zif_f hc hF
        refine z_aload_n 2 dX10_nameNumber_133 rfl rfl ?_
        refine z_iload_n 3 dX10_nameNumber_134 rfl rfl ?_
        refine z_puti fw_RX10_65 dX10_nameNumber_135 (fun t101 et101 => ?_)
        have hF := zpt_at hF t101 et101
        refine z_iload 0 dX10_nameNumber_138 rfl ?_
        exact z_iret hF dX10_nameNumber_140
    · have hF := zif_f hc hF
      refine z_aload_n 2 dX10_nameNumber_78 rfl rfl ?_
      refine z_getr fr_RX10_27 dX10_nameNumber_79 ?_
      refine z_iload 1 dX10_nameNumber_82 rfl ?_
      refine z_aload_n 2 dX10_nameNumber_84 rfl rfl ?_
      refine z_geti fi_RX10_62 dX10_nameNumber_85 ?_
      obtain ⟨r102, t103, hc104, hF⟩ := zbd_at hF
      refine z_callVv (ctX5_set (E := E) (sh := shC) (f := f - 1) (by omega) (k := 72) (n := 4096) rfl rfl hc104) yy_X5_set yv_X5_set ob_C_72 lk_RX10_68 (by omega) rfl rfl (Nat.le_of_ble_eq_true rfl) dX10_nameNumber_88 ?_
      refine z_aload_n 2 dX10_nameNumber_91 rfl rfl ?_
      refine z_dup dX10_nameNumber_92 rfl ?_
      refine z_geti fi_RX10_62 dX10_nameNumber_93 ?_
      refine z_iconst (v := 1) dX10_nameNumber_96 (by decide) ?_
      refine z_iadd dX10_nameNumber_97 ?_
      refine z_puti fw_RX10_62 dX10_nameNumber_98 (fun t105 et105 => ?_)
      have hF := zpt_at hF t105 et105
      refine z_aload_n 2 dX10_nameNumber_101 rfl rfl ?_
      refine z_getr fr_RX10_24 dX10_nameNumber_102 ?_
      refine z_aload_n 2 dX10_nameNumber_105 rfl rfl ?_
      refine z_geti fi_RX10_62 dX10_nameNumber_106 ?_
      refine z_aload_n 2 dX10_nameNumber_109 rfl rfl ?_
      refine z_geti fi_RX10_65 dX10_nameNumber_110 ?_
      obtain ⟨r106, t107, hc108, hF⟩ := zbd_at hF
      refine z_callVv (ctX5_set (E := E) (sh := shC) (f := f - 1) (by omega) (k := 70) (n := 1602) rfl rfl hc108) yy_X5_set yv_X5_set ob_C_70 lk_RX10_68 (by omega) rfl rfl (Nat.le_of_ble_eq_true rfl) dX10_nameNumber_113 ?_
      refine z_aload_n 2 dX10_nameNumber_116 rfl rfl ?_
      refine z_geti fi_RX10_62 dX10_nameNumber_117 ?_
      refine z_iconst (v := 1) dX10_nameNumber_120 (by decide) ?_
      refine z_isub dX10_nameNumber_121 ?_
      exact z_iret hF dX10_nameNumber_122
set_option maxHeartbeats 4000000 in
set_option maxRecDepth 20000 in
theorem wlX10_nameNumber_46 {E : zE} {C : zC} {f : Nat} {ro : Int32 × zS} (hf : 7 ≤ f) (fu : Nat) : ∀ (x1 x2 x3 : Int32) (t : zS), lX10_nameNumber_46  fu x1 x2 x3 t = some ro → zJ E shC C cX10_nameNumber RX10 6 f (some .int) ro t 46 [(0, .ref (za E 50)), (1, .int x1), (2, .int x2), (3, .int x3)] [] := by
  induction fu with
  | zero => intro x1 x2 x3 t hF; cases hF
  | succ fu ih => intro x1 x2 x3 t hF; exact wbX10_nameNumber_46 hf (lX10_nameNumber_46  fu) ih x1 x2 x3 t hF
set_option maxHeartbeats 4000000 in
set_option maxRecDepth 20000 in
theorem wbX10_nameNumber_16 {E : zE} {C : zC} {f : Nat} {ro : Int32 × zS} (hf : 7 ≤ f) (k16 : Int32 → Int32 → Int32 → zS → zR) (hk16 : ∀ (x1 x2 x3 : Int32) (t : zS), k16 x1 x2 x3 t = some ro → zJ E shC C cX10_nameNumber RX10 6 f (some .int) ro t 16 [(0, .ref (za E 50)), (1, .int x1), (2, .int x2), (3, .int x3)] []) (x1 : Int32) (x2 : Int32) (x3 : Int32) (t : zS) (hF : bX10_nameNumber_16 k16 x1 x2 x3 t = some ro) : zJ E shC C cX10_nameNumber RX10 6 f (some .int) ro t 16 [(0, .ref (za E 50)), (1, .int x1), (2, .int x2), (3, .int x3)] [] := by
  unfold bX10_nameNumber_16 at hF
  refine z_iload_n 3 dX10_nameNumber_16 rfl rfl ?_
  refine z_aload_n 0 dX10_nameNumber_17 rfl rfl ?_
  refine z_geti fi_RX10_65 dX10_nameNumber_18 ?_
  refine z_icmp_ge (tgt := 44) dX10_nameNumber_21 (by decide) (fun hc => ?_) (fun hc => ?_)
  · have hF := zif_t hc hF
    refine z_iconst (v := 0) dX10_nameNumber_44 (by decide) ?_
    refine z_istore_n (lv' := [(3, .int 0), (0, .ref (za E 50)), (1, .int x1), (2, .int x2)]) dX10_nameNumber_45 rfl (by decide) rfl ?_
    refine z_sub [1, 2, 3, 0] rfl ?_
    exact wlX10_nameNumber_46 hf  zFU x1 x2 0 _ hF
  · have hF := zif_f hc hF
    refine z_iload_n 2 dX10_nameNumber_24 rfl rfl ?_
    refine z_bipush (v := 31) dX10_nameNumber_25 (by decide) ?_
    refine z_imul dX10_nameNumber_27 ?_
    refine z_aload_n 0 dX10_nameNumber_28 rfl rfl ?_
    refine z_getr fr_RX10_20 dX10_nameNumber_29 ?_
    refine z_iload_n 3 dX10_nameNumber_32 rfl rfl ?_
    obtain ⟨r109, t110, hc111, hF⟩ := zbd_at hF
    refine z_callVi (ctX5_get (E := E) (sh := shC) (f := f - 1) (by omega) (k := 68) (n := 3120) rfl rfl hc111) yy_X5_get yv_X5_get ob_C_68 lk_RX10_33 (by omega) rfl rfl (Nat.le_of_ble_eq_true rfl) dX10_nameNumber_33 ?_
    refine z_iadd dX10_nameNumber_36 ?_
    refine z_topi (fun v112 ev112 => ?_)
    have hF := zlet_at ev112 hF
    refine z_istore_n (lv' := [(2, .int v112), (0, .ref (za E 50)), (1, .int x1), (3, .int x3)]) dX10_nameNumber_37 rfl (by decide) rfl ?_
    obtain ⟨v113, ev113⟩ : ∃ y : Int32, y = (x3 + 1) := ⟨_, rfl⟩
    have hF := zlet_at ev113 hF
    refine z_iinc (v := v113) (lv' := [(3, .int v113), (2, .int v112), (0, .ref (za E 50)), (1, .int x1)]) (k := 3) dX10_nameNumber_38 rfl (by rw [ev113]; rfl) (by decide) rfl ?_
    refine z_goto (tgt := 16) dX10_nameNumber_41 (by decide) ?_
    refine z_sub [2, 3, 1, 0] rfl ?_
    exact hk16 x1 v112 v113 _ hF
set_option maxHeartbeats 4000000 in
set_option maxRecDepth 20000 in
theorem wlX10_nameNumber_16 {E : zE} {C : zC} {f : Nat} {ro : Int32 × zS} (hf : 7 ≤ f) (fu : Nat) : ∀ (x1 x2 x3 : Int32) (t : zS), lX10_nameNumber_16  fu x1 x2 x3 t = some ro → zJ E shC C cX10_nameNumber RX10 6 f (some .int) ro t 16 [(0, .ref (za E 50)), (1, .int x1), (2, .int x2), (3, .int x3)] [] := by
  induction fu with
  | zero => intro x1 x2 x3 t hF; cases hF
  | succ fu ih => intro x1 x2 x3 t hF; exact wbX10_nameNumber_16 hf (lX10_nameNumber_16  fu) ih x1 x2 x3 t hF
set_option maxHeartbeats 4000000 in
set_option maxRecDepth 20000 in
theorem ctX10_nameNumber {E : zE} {f : Nat} (hf : 7 ≤ f) {t : zS} {ro : Int32 × zS} (hF : mX10_nameNumber   t = some ro) : zM E shC f yX10_nameNumber cX10_nameNumber 6 (some .int) [.ref (za E 50)] t ro := by
  refine zM_of (by decide) (Nat.le_of_ble_eq_true rfl) (fun C => ?_)
  show zJ E shC C cX10_nameNumber RX10 6 f (some .int) ro t 0 [(0, .ref (za E 50))] []
  unfold mX10_nameNumber at hF
  refine z_aload_n 0 dX10_nameNumber_0 rfl rfl ?_
  refine z_getr fr_RX10_24 dX10_nameNumber_1 ?_
  refine z_aload_n 0 dX10_nameNumber_4 rfl rfl ?_
  refine z_geti fi_RX10_62 dX10_nameNumber_5 ?_
  obtain ⟨r114, t115, hc116, hF⟩ := zbd_at hF
  refine z_callVi (ctX5_get (E := E) (sh := shC) (f := f - 1) (by omega) (k := 70) (n := 1602) rfl rfl hc116) yy_X5_get yv_X5_get ob_C_70 lk_RX10_33 (by omega) rfl rfl (Nat.le_of_ble_eq_true rfl) dX10_nameNumber_8 ?_
  refine z_istore_n (lv' := [(1, .int r114), (0, .ref (za E 50))]) dX10_nameNumber_11 rfl (by decide) rfl ?_
  refine z_iconst (v := 0) dX10_nameNumber_12 (by decide) ?_
  refine z_istore_n (lv' := [(2, .int 0), (1, .int r114), (0, .ref (za E 50))]) dX10_nameNumber_13 rfl (by decide) rfl ?_
  refine z_iload_n 1 dX10_nameNumber_14 rfl rfl ?_
  refine z_istore_n (lv' := [(3, .int r114), (2, .int 0), (1, .int r114), (0, .ref (za E 50))]) dX10_nameNumber_15 rfl (by decide) rfl ?_
  refine z_sub [3, 2, 1, 0] rfl ?_
  exact wlX10_nameNumber_16 hf  zFU r114 0 r114 _ hF
-- SessionHouse$Words.forget()V
theorem dX10_forget_0 : decode cX10_forget 0 = .ok (.aload_n 0, 1) := by decide +kernel
theorem dX10_forget_1 : decode cX10_forget 1 = .ok (.iconst 0, 1) := by decide +kernel
theorem dX10_forget_2 : decode cX10_forget 2 = .ok (.putfield 58, 3) := by decide +kernel
theorem dX10_forget_5 : decode cX10_forget 5 = .ok (.aload_n 0, 1) := by decide +kernel
theorem dX10_forget_6 : decode cX10_forget 6 = .ok (.iconst 0, 1) := by decide +kernel
theorem dX10_forget_7 : decode cX10_forget 7 = .ok (.putfield 62, 3) := by decide +kernel
theorem dX10_forget_10 : decode cX10_forget 10 = .ok (.aload_n 0, 1) := by decide +kernel
theorem dX10_forget_11 : decode cX10_forget 11 = .ok (.iconst 0, 1) := by decide +kernel
theorem dX10_forget_12 : decode cX10_forget 12 = .ok (.putfield 65, 3) := by decide +kernel
theorem dX10_forget_15 : decode cX10_forget 15 = .ok (.aload_n 0, 1) := by decide +kernel
theorem dX10_forget_16 : decode cX10_forget 16 = .ok (.getfield 24, 3) := by decide +kernel
theorem dX10_forget_19 : decode cX10_forget 19 = .ok (.iconst 0, 1) := by decide +kernel
theorem dX10_forget_20 : decode cX10_forget 20 = .ok (.iconst 0, 1) := by decide +kernel
theorem dX10_forget_21 : decode cX10_forget 21 = .ok (.invokevirtual 68, 3) := by decide +kernel
theorem dX10_forget_24 : decode cX10_forget 24 = .ok (.aload_n 0, 1) := by decide +kernel
theorem dX10_forget_25 : decode cX10_forget 25 = .ok (.getfield 27, 3) := by decide +kernel
theorem dX10_forget_28 : decode cX10_forget 28 = .ok (.iconst 0, 1) := by decide +kernel
theorem dX10_forget_29 : decode cX10_forget 29 = .ok (.sipush 4096, 3) := by decide +kernel
theorem dX10_forget_32 : decode cX10_forget 32 = .ok (.iconst (-1), 1) := by decide +kernel
theorem dX10_forget_33 : decode cX10_forget 33 = .ok (.invokevirtual 72, 3) := by decide +kernel
theorem dX10_forget_36 : decode cX10_forget 36 = .ok (.iconst 0, 1) := by decide +kernel
theorem dX10_forget_37 : decode cX10_forget 37 = .ok (.istore_n 1, 1) := by decide +kernel
theorem dX10_forget_38 : decode cX10_forget 38 = .ok (.iload_n 1, 1) := by decide +kernel
theorem dX10_forget_39 : decode cX10_forget 39 = .ok (.ldc 75, 2) := by decide +kernel
theorem dX10_forget_41 : decode cX10_forget 41 = .ok (.invokevirtual 77, 3) := by decide +kernel
theorem dX10_forget_44 : decode cX10_forget 44 = .ok (.if_icmp .ge 55, 3) := by decide +kernel
theorem dX10_forget_47 : decode cX10_forget 47 = .ok (.ldc 75, 2) := by decide +kernel
theorem dX10_forget_49 : decode cX10_forget 49 = .ok (.iload_n 1, 1) := by decide +kernel
theorem dX10_forget_50 : decode cX10_forget 50 = .ok (.invokevirtual 83, 3) := by decide +kernel
theorem dX10_forget_53 : decode cX10_forget 53 = .ok (.bipush 32, 2) := by decide +kernel
theorem dX10_forget_55 : decode cX10_forget 55 = .ok (.if_icmp .ne 11, 3) := by decide +kernel
theorem dX10_forget_58 : decode cX10_forget 58 = .ok (.aload_n 0, 1) := by decide +kernel
theorem dX10_forget_59 : decode cX10_forget 59 = .ok (.invokevirtual 87, 3) := by decide +kernel
theorem dX10_forget_62 : decode cX10_forget 62 = .ok (.pop, 1) := by decide +kernel
theorem dX10_forget_63 : decode cX10_forget 63 = .ok (.goto 30, 3) := by decide +kernel
theorem dX10_forget_66 : decode cX10_forget 66 = .ok (.aload_n 0, 1) := by decide +kernel
theorem dX10_forget_67 : decode cX10_forget 67 = .ok (.getfield 20, 3) := by decide +kernel
theorem dX10_forget_70 : decode cX10_forget 70 = .ok (.aload_n 0, 1) := by decide +kernel
theorem dX10_forget_71 : decode cX10_forget 71 = .ok (.getfield 65, 3) := by decide +kernel
theorem dX10_forget_74 : decode cX10_forget 74 = .ok (.ldc 75, 2) := by decide +kernel
theorem dX10_forget_76 : decode cX10_forget 76 = .ok (.iload_n 1, 1) := by decide +kernel
theorem dX10_forget_77 : decode cX10_forget 77 = .ok (.invokevirtual 83, 3) := by decide +kernel
theorem dX10_forget_80 : decode cX10_forget 80 = .ok (.invokevirtual 68, 3) := by decide +kernel
theorem dX10_forget_83 : decode cX10_forget 83 = .ok (.aload_n 0, 1) := by decide +kernel
theorem dX10_forget_84 : decode cX10_forget 84 = .ok (.dup, 1) := by decide +kernel
theorem dX10_forget_85 : decode cX10_forget 85 = .ok (.getfield 65, 3) := by decide +kernel
theorem dX10_forget_88 : decode cX10_forget 88 = .ok (.iconst 1, 1) := by decide +kernel
theorem dX10_forget_89 : decode cX10_forget 89 = .ok (.iadd, 1) := by decide +kernel
theorem dX10_forget_90 : decode cX10_forget 90 = .ok (.putfield 65, 3) := by decide +kernel
theorem dX10_forget_93 : decode cX10_forget 93 = .ok (.iinc 1 1, 3) := by decide +kernel
theorem dX10_forget_96 : decode cX10_forget 96 = .ok (.goto (-58), 3) := by decide +kernel
theorem dX10_forget_99 : decode cX10_forget 99 = .ok (.return_, 1) := by decide +kernel
def bX10_forget_93 (k38 : Int32 → zS → zR) (x1 : Int32) (t : zS) : zR := zlet (x1 + 1) fun v117 => k38 v117 t
def bX10_forget_38 (k38 : Int32 → zS → zR) (x1 : Int32) (t : zS) : zR := if 88 ≤ x1 then some (0, t) else zsc 0 x1 fun v120 => if v120 = 32 then zbd (mX10_nameNumber  t) fun r129 t130 => bX10_forget_93 k38 x1 t130 else zsc 0 x1 fun v123 => zbd (mX5_set 68 3120 (t 50 6) v123 t) fun r125 t126 => zpt t126 50 6 ((t126 50 6) + 1) fun t128 => bX10_forget_93 k38 x1 t128
def lX10_forget_38 : Nat → Int32 → zS → zR
  | 0, _, _ => none
  | fu + 1, x1, t => bX10_forget_38 (lX10_forget_38  fu) x1 t
def mX10_forget (t : zS) : zR := zpt t 50 4 0 fun t132 => zpt t132 50 5 0 fun t133 => zpt t133 50 6 0 fun t134 => zbd (mX5_set 70 1602 0 0 t134) fun r135 t136 => zbd (mX5_fill 72 4096 0 4096 (-1) t136) fun r138 t139 => lX10_forget_38  zFU 0 t139
set_option maxHeartbeats 4000000 in
set_option maxRecDepth 20000 in
theorem wbX10_forget_93 {E : zE} {C : zC} {f : Nat} {ro : Int32 × zS} (hf : 8 ≤ f) (k38 : Int32 → zS → zR) (hk38 : ∀ (x1 : Int32) (t : zS), k38 x1 t = some ro → zJ E shC C cX10_forget RX10 2 f none ro t 38 [(0, .ref (za E 50)), (1, .int x1)] []) (x1 : Int32) (t : zS) (hF : bX10_forget_93 k38 x1 t = some ro) : zJ E shC C cX10_forget RX10 2 f none ro t 93 [(0, .ref (za E 50)), (1, .int x1)] [] := by
  unfold bX10_forget_93 at hF
  obtain ⟨v117, ev117⟩ : ∃ y : Int32, y = (x1 + 1) := ⟨_, rfl⟩
  have hF := zlet_at ev117 hF
  refine z_iinc (v := v117) (lv' := [(1, .int v117), (0, .ref (za E 50))]) (k := 1) dX10_forget_93 rfl (by rw [ev117]; rfl) (by decide) rfl ?_
  refine z_goto (tgt := 38) dX10_forget_96 (by decide) ?_
  refine z_sub [1, 0] rfl ?_
  exact hk38 v117 _ hF
set_option maxHeartbeats 4000000 in
set_option maxRecDepth 20000 in
theorem wbX10_forget_38 {E : zE} {C : zC} {f : Nat} {ro : Int32 × zS} (hf : 8 ≤ f) (k38 : Int32 → zS → zR) (hk38 : ∀ (x1 : Int32) (t : zS), k38 x1 t = some ro → zJ E shC C cX10_forget RX10 2 f none ro t 38 [(0, .ref (za E 50)), (1, .int x1)] []) (x1 : Int32) (t : zS) (hF : bX10_forget_38 k38 x1 t = some ro) : zJ E shC C cX10_forget RX10 2 f none ro t 38 [(0, .ref (za E 50)), (1, .int x1)] [] := by
  unfold bX10_forget_38 at hF
  refine z_iload_n 1 dX10_forget_38 rfl rfl ?_
  refine z_ldcS0 rfl dX10_forget_39 ?_
  refine z_callVs (w := 0) (r2 := 88) (by decide) rfl (ctJ0_length (f := f - 1) (by decide) (by omega)) yy_J0_length_8abf5 yv_J0_length_8abf5 lk_X10_77 (by omega) rfl rfl (Nat.le_of_ble_eq_true rfl) dX10_forget_41 ?_
  refine z_icmp_ge (tgt := 99) dX10_forget_44 (by decide) (fun hc => ?_) (fun hc => ?_)
  · have hF := zif_t hc hF
    exact z_vret hF dX10_forget_99
  · have hF := zif_f hc hF
    refine z_ldcS0 rfl dX10_forget_47 ?_
    refine z_iload_n 1 dX10_forget_49 rfl rfl ?_
    obtain ⟨hi121, hF⟩ := zsc_at hF
    refine z_callVs (w := 0) (by decide) rfl (ctJ0_charAt (f := f - 1) (by decide) (by omega) hi121) yy_J0_charAt_5068e yv_J0_charAt_5068e lk_X10_83 (by omega) rfl rfl (Nat.le_of_ble_eq_true rfl) dX10_forget_50 ?_
    generalize (zsb 0).getD (Int32.toNatClampNeg x1) 0 = v120 at hF ⊢
    refine z_bipush (v := 32) dX10_forget_53 (by decide) ?_
    refine z_icmp_ne (tgt := 66) dX10_forget_55 (by decide) (fun hc => ?_) (fun hc => ?_)
    · have hF := zif_f hc hF
      refine z_aload_n 0 dX10_forget_66 rfl rfl ?_
      refine z_getr fr_RX10_20 dX10_forget_67 ?_
      refine z_aload_n 0 dX10_forget_70 rfl rfl ?_
      refine z_geti fi_RX10_65 dX10_forget_71 ?_
      refine z_ldcS0 rfl dX10_forget_74 ?_
      refine z_iload_n 1 dX10_forget_76 rfl rfl ?_
      obtain ⟨hi124, hF⟩ := zsc_at hF
      refine z_callVs (w := 0) (by decide) rfl (ctJ0_charAt (f := f - 1) (by decide) (by omega) hi124) yy_J0_charAt_5068e yv_J0_charAt_5068e lk_X10_83 (by omega) rfl rfl (Nat.le_of_ble_eq_true rfl) dX10_forget_77 ?_
      generalize (zsb 0).getD (Int32.toNatClampNeg x1) 0 = v123 at hF ⊢
      obtain ⟨r125, t126, hc127, hF⟩ := zbd_at hF
      refine z_callVv (ctX5_set (E := E) (sh := shC) (f := f - 1) (by omega) (k := 68) (n := 3120) rfl rfl hc127) yy_X5_set yv_X5_set ob_C_68 lk_RX10_68 (by omega) rfl rfl (Nat.le_of_ble_eq_true rfl) dX10_forget_80 ?_
      refine z_aload_n 0 dX10_forget_83 rfl rfl ?_
      refine z_dup dX10_forget_84 rfl ?_
      refine z_geti fi_RX10_65 dX10_forget_85 ?_
      refine z_iconst (v := 1) dX10_forget_88 (by decide) ?_
      refine z_iadd dX10_forget_89 ?_
      refine z_puti fw_RX10_65 dX10_forget_90 (fun t128 et128 => ?_)
      have hF := zpt_at hF t128 et128
      exact wbX10_forget_93 hf k38 hk38 x1 _ hF
    · have hF := zif_t hc hF
      refine z_aload_n 0 dX10_forget_58 rfl rfl ?_
      obtain ⟨r129, t130, hc131, hF⟩ := zbd_at hF
      refine z_callVi (ctX10_nameNumber (E := E) (f := f - 1) (by omega) hc131) yy_X10_nameNumber yv_X10_nameNumber ob_C_50 lk_RX10_87 (by omega) rfl rfl (Nat.le_of_ble_eq_true rfl) dX10_forget_59 ?_
      refine z_pop dX10_forget_62 rfl ?_
      refine z_goto (tgt := 93) dX10_forget_63 (by decide) ?_
      exact wbX10_forget_93 hf k38 hk38 x1 _ hF
set_option maxHeartbeats 4000000 in
set_option maxRecDepth 20000 in
theorem wlX10_forget_38 {E : zE} {C : zC} {f : Nat} {ro : Int32 × zS} (hf : 8 ≤ f) (fu : Nat) : ∀ (x1 : Int32) (t : zS), lX10_forget_38  fu x1 t = some ro → zJ E shC C cX10_forget RX10 2 f none ro t 38 [(0, .ref (za E 50)), (1, .int x1)] [] := by
  induction fu with
  | zero => intro x1 t hF; cases hF
  | succ fu ih => intro x1 t hF; exact wbX10_forget_38 hf (lX10_forget_38  fu) ih x1 t hF
set_option maxHeartbeats 4000000 in
set_option maxRecDepth 20000 in
theorem ctX10_forget {E : zE} {f : Nat} (hf : 8 ≤ f) {t : zS} {ro : Int32 × zS} (hF : mX10_forget   t = some ro) : zM E shC f yX10_forget cX10_forget 2 none [.ref (za E 50)] t ro := by
  refine zM_of (by decide) (Nat.le_of_ble_eq_true rfl) (fun C => ?_)
  show zJ E shC C cX10_forget RX10 2 f none ro t 0 [(0, .ref (za E 50))] []
  unfold mX10_forget at hF
  refine z_aload_n 0 dX10_forget_0 rfl rfl ?_
  refine z_iconst (v := 0) dX10_forget_1 (by decide) ?_
  refine z_puti fw_RX10_58 dX10_forget_2 (fun t132 et132 => ?_)
  have hF := zpt_at hF t132 et132
  refine z_aload_n 0 dX10_forget_5 rfl rfl ?_
  refine z_iconst (v := 0) dX10_forget_6 (by decide) ?_
  refine z_puti fw_RX10_62 dX10_forget_7 (fun t133 et133 => ?_)
  have hF := zpt_at hF t133 et133
  refine z_aload_n 0 dX10_forget_10 rfl rfl ?_
  refine z_iconst (v := 0) dX10_forget_11 (by decide) ?_
  refine z_puti fw_RX10_65 dX10_forget_12 (fun t134 et134 => ?_)
  have hF := zpt_at hF t134 et134
  refine z_aload_n 0 dX10_forget_15 rfl rfl ?_
  refine z_getr fr_RX10_24 dX10_forget_16 ?_
  refine z_iconst (v := 0) dX10_forget_19 (by decide) ?_
  refine z_iconst (v := 0) dX10_forget_20 (by decide) ?_
  obtain ⟨r135, t136, hc137, hF⟩ := zbd_at hF
  refine z_callVv (ctX5_set (E := E) (sh := shC) (f := f - 1) (by omega) (k := 70) (n := 1602) rfl rfl hc137) yy_X5_set yv_X5_set ob_C_70 lk_RX10_68 (by omega) rfl rfl (Nat.le_of_ble_eq_true rfl) dX10_forget_21 ?_
  refine z_aload_n 0 dX10_forget_24 rfl rfl ?_
  refine z_getr fr_RX10_27 dX10_forget_25 ?_
  refine z_iconst (v := 0) dX10_forget_28 (by decide) ?_
  refine z_sipush (v := 4096) dX10_forget_29 (by decide) ?_
  refine z_iconst (v := (-1)) dX10_forget_32 (by decide) ?_
  obtain ⟨r138, t139, hc140, hF⟩ := zbd_at hF
  refine z_callVv (ctX5_fill (E := E) (sh := shC) (f := f - 1) (by omega) (k := 72) (n := 4096) rfl rfl hc140) yy_X5_fill yv_X5_fill ob_C_72 lk_RX10_72 (by omega) rfl rfl (Nat.le_of_ble_eq_true rfl) dX10_forget_33 ?_
  refine z_iconst (v := 0) dX10_forget_36 (by decide) ?_
  refine z_istore_n (lv' := [(1, .int 0), (0, .ref (za E 50))]) dX10_forget_37 rfl (by decide) rfl ?_
  refine z_sub [1, 0] rfl ?_
  exact wlX10_forget_38 hf  zFU 0 _ hF
-- SessionHouse$Words.isLetter(I)Z
theorem dX10_isLetter_0 : decode cX10_isLetter 0 = .ok (.iload_n 0, 1) := by decide +kernel
theorem dX10_isLetter_1 : decode cX10_isLetter 1 = .ok (.bipush 97, 2) := by decide +kernel
theorem dX10_isLetter_3 : decode cX10_isLetter 3 = .ok (.if_icmp .lt 9, 3) := by decide +kernel
theorem dX10_isLetter_6 : decode cX10_isLetter 6 = .ok (.iload_n 0, 1) := by decide +kernel
theorem dX10_isLetter_7 : decode cX10_isLetter 7 = .ok (.bipush 122, 2) := by decide +kernel
theorem dX10_isLetter_9 : decode cX10_isLetter 9 = .ok (.if_icmp .le 15, 3) := by decide +kernel
theorem dX10_isLetter_12 : decode cX10_isLetter 12 = .ok (.iload_n 0, 1) := by decide +kernel
theorem dX10_isLetter_13 : decode cX10_isLetter 13 = .ok (.bipush 65, 2) := by decide +kernel
theorem dX10_isLetter_15 : decode cX10_isLetter 15 = .ok (.if_icmp .lt 13, 3) := by decide +kernel
theorem dX10_isLetter_18 : decode cX10_isLetter 18 = .ok (.iload_n 0, 1) := by decide +kernel
theorem dX10_isLetter_19 : decode cX10_isLetter 19 = .ok (.bipush 90, 2) := by decide +kernel
theorem dX10_isLetter_21 : decode cX10_isLetter 21 = .ok (.if_icmp .gt 7, 3) := by decide +kernel
theorem dX10_isLetter_24 : decode cX10_isLetter 24 = .ok (.iconst 1, 1) := by decide +kernel
theorem dX10_isLetter_25 : decode cX10_isLetter 25 = .ok (.goto 4, 3) := by decide +kernel
theorem dX10_isLetter_28 : decode cX10_isLetter 28 = .ok (.iconst 0, 1) := by decide +kernel
theorem dX10_isLetter_29 : decode cX10_isLetter 29 = .ok (.ireturn, 1) := by decide +kernel
def bX10_isLetter_24 (t : zS) : zR := some (1, t)
def bX10_isLetter_12 (x0 : Int32) (t : zS) : zR := if x0 < 65 then some (0, t) else if 90 < x0 then some (0, t) else bX10_isLetter_24   t
def mX10_isLetter (x0 : Int32) (t : zS) : zR := if x0 < 97 then bX10_isLetter_12  x0 t else if x0 ≤ 122 then bX10_isLetter_24   t else bX10_isLetter_12  x0 t
set_option maxHeartbeats 4000000 in
set_option maxRecDepth 20000 in
theorem wbX10_isLetter_24 {E : zE} {C : zC} {f : Nat} {ro : Int32 × zS} (hf : 6 ≤ f) (t : zS) (hF : bX10_isLetter_24   t = some ro) : zJ E shC C cX10_isLetter RX10 1 f (some .boolean) ro t 24 [] [] := by
  unfold bX10_isLetter_24 at hF
  refine z_iconst (v := 1) dX10_isLetter_24 (by decide) ?_
  refine z_goto (tgt := 29) dX10_isLetter_25 (by decide) ?_
  exact z_zret hF (by decide) dX10_isLetter_29
set_option maxHeartbeats 4000000 in
set_option maxRecDepth 20000 in
theorem wbX10_isLetter_12 {E : zE} {C : zC} {f : Nat} {ro : Int32 × zS} (hf : 6 ≤ f) (x0 : Int32) (t : zS) (hF : bX10_isLetter_12  x0 t = some ro) : zJ E shC C cX10_isLetter RX10 1 f (some .boolean) ro t 12 [(0, .int x0)] [] := by
  unfold bX10_isLetter_12 at hF
  refine z_iload_n 0 dX10_isLetter_12 rfl rfl ?_
  refine z_bipush (v := 65) dX10_isLetter_13 (by decide) ?_
  refine z_icmp_lt (tgt := 28) dX10_isLetter_15 (by decide) (fun hc => ?_) (fun hc => ?_)
  · have hF := zif_t hc hF
    refine z_iconst (v := 0) dX10_isLetter_28 (by decide) ?_
    exact z_zret hF (by decide) dX10_isLetter_29
  · have hF := zif_f hc hF
    refine z_iload_n 0 dX10_isLetter_18 rfl rfl ?_
    refine z_bipush (v := 90) dX10_isLetter_19 (by decide) ?_
    refine z_icmp_gt (tgt := 28) dX10_isLetter_21 (by decide) (fun hc => ?_) (fun hc => ?_)
    · have hF := zif_t hc hF
      refine z_iconst (v := 0) dX10_isLetter_28 (by decide) ?_
      exact z_zret hF (by decide) dX10_isLetter_29
    · have hF := zif_f hc hF
      refine z_sub [] rfl ?_
      exact wbX10_isLetter_24 hf   _ hF
set_option maxHeartbeats 4000000 in
set_option maxRecDepth 20000 in
theorem ctX10_isLetter {E : zE} {f : Nat} (hf : 6 ≤ f) {x0 : Int32} {t : zS} {ro : Int32 × zS} (hF : mX10_isLetter  x0 t = some ro) : zM E shC f yX10_isLetter cX10_isLetter 1 (some .boolean) [.int x0] t ro := by
  refine zM_of (by decide) (Nat.le_of_ble_eq_true rfl) (fun C => ?_)
  show zJ E shC C cX10_isLetter RX10 1 f (some .boolean) ro t 0 [(0, .int x0)] []
  unfold mX10_isLetter at hF
  refine z_iload_n 0 dX10_isLetter_0 rfl rfl ?_
  refine z_bipush (v := 97) dX10_isLetter_1 (by decide) ?_
  refine z_icmp_lt (tgt := 12) dX10_isLetter_3 (by decide) (fun hc => ?_) (fun hc => ?_)
  · have hF := zif_t hc hF
    exact wbX10_isLetter_12 hf  x0 _ hF
  · have hF := zif_f hc hF
    refine z_iload_n 0 dX10_isLetter_6 rfl rfl ?_
    refine z_bipush (v := 122) dX10_isLetter_7 (by decide) ?_
    refine z_icmp_le (tgt := 24) dX10_isLetter_9 (by decide) (fun hc => ?_) (fun hc => ?_)
    · have hF := zif_t hc hF
      refine z_sub [] rfl ?_
      exact wbX10_isLetter_24 hf   _ hF
    · have hF := zif_f hc hF
      exact wbX10_isLetter_12 hf  x0 _ hF
-- SessionHouse$Words.isDigit(I)Z
theorem dX10_isDigit_0 : decode cX10_isDigit 0 = .ok (.iload_n 0, 1) := by decide +kernel
theorem dX10_isDigit_1 : decode cX10_isDigit 1 = .ok (.bipush 48, 2) := by decide +kernel
theorem dX10_isDigit_3 : decode cX10_isDigit 3 = .ok (.if_icmp .lt 13, 3) := by decide +kernel
theorem dX10_isDigit_6 : decode cX10_isDigit 6 = .ok (.iload_n 0, 1) := by decide +kernel
theorem dX10_isDigit_7 : decode cX10_isDigit 7 = .ok (.bipush 57, 2) := by decide +kernel
theorem dX10_isDigit_9 : decode cX10_isDigit 9 = .ok (.if_icmp .gt 7, 3) := by decide +kernel
theorem dX10_isDigit_12 : decode cX10_isDigit 12 = .ok (.iconst 1, 1) := by decide +kernel
theorem dX10_isDigit_13 : decode cX10_isDigit 13 = .ok (.goto 4, 3) := by decide +kernel
theorem dX10_isDigit_16 : decode cX10_isDigit 16 = .ok (.iconst 0, 1) := by decide +kernel
theorem dX10_isDigit_17 : decode cX10_isDigit 17 = .ok (.ireturn, 1) := by decide +kernel
def mX10_isDigit (x0 : Int32) (t : zS) : zR := if x0 < 48 then some (0, t) else if 57 < x0 then some (0, t) else some (1, t)
set_option maxHeartbeats 4000000 in
set_option maxRecDepth 20000 in
theorem ctX10_isDigit {E : zE} {f : Nat} (hf : 6 ≤ f) {x0 : Int32} {t : zS} {ro : Int32 × zS} (hF : mX10_isDigit  x0 t = some ro) : zM E shC f yX10_isDigit cX10_isDigit 1 (some .boolean) [.int x0] t ro := by
  refine zM_of (by decide) (Nat.le_of_ble_eq_true rfl) (fun C => ?_)
  show zJ E shC C cX10_isDigit RX10 1 f (some .boolean) ro t 0 [(0, .int x0)] []
  unfold mX10_isDigit at hF
  refine z_iload_n 0 dX10_isDigit_0 rfl rfl ?_
  refine z_bipush (v := 48) dX10_isDigit_1 (by decide) ?_
  refine z_icmp_lt (tgt := 16) dX10_isDigit_3 (by decide) (fun hc => ?_) (fun hc => ?_)
  · have hF := zif_t hc hF
    refine z_iconst (v := 0) dX10_isDigit_16 (by decide) ?_
    exact z_zret hF (by decide) dX10_isDigit_17
  · have hF := zif_f hc hF
    refine z_iload_n 0 dX10_isDigit_6 rfl rfl ?_
    refine z_bipush (v := 57) dX10_isDigit_7 (by decide) ?_
    refine z_icmp_gt (tgt := 16) dX10_isDigit_9 (by decide) (fun hc => ?_) (fun hc => ?_)
    · have hF := zif_t hc hF
      refine z_iconst (v := 0) dX10_isDigit_16 (by decide) ?_
      exact z_zret hF (by decide) dX10_isDigit_17
    · have hF := zif_f hc hF
      refine z_iconst (v := 1) dX10_isDigit_12 (by decide) ?_
      refine z_goto (tgt := 17) dX10_isDigit_13 (by decide) ?_
      exact z_zret hF (by decide) dX10_isDigit_17
-- SessionHouse$Words.add(III)V
theorem dX10_add_0 : decode cX10_add 0 = .ok (.iconst 3, 1) := by decide +kernel
theorem dX10_add_1 : decode cX10_add 1 = .ok (.aload_n 0, 1) := by decide +kernel
theorem dX10_add_2 : decode cX10_add 2 = .ok (.getfield 58, 3) := by decide +kernel
theorem dX10_add_5 : decode cX10_add 5 = .ok (.imul, 1) := by decide +kernel
theorem dX10_add_6 : decode cX10_add 6 = .ok (.istore 4, 2) := by decide +kernel
theorem dX10_add_8 : decode cX10_add 8 = .ok (.iload 4, 2) := by decide +kernel
theorem dX10_add_10 : decode cX10_add 10 = .ok (.ifCond .lt 53, 3) := by decide +kernel
theorem dX10_add_13 : decode cX10_add 13 = .ok (.iload 4, 2) := by decide +kernel
theorem dX10_add_15 : decode cX10_add 15 = .ok (.iconst 2, 1) := by decide +kernel
theorem dX10_add_16 : decode cX10_add 16 = .ok (.iadd, 1) := by decide +kernel
theorem dX10_add_17 : decode cX10_add 17 = .ok (.aload_n 0, 1) := by decide +kernel
theorem dX10_add_18 : decode cX10_add 18 = .ok (.getfield 9, 3) := by decide +kernel
theorem dX10_add_21 : decode cX10_add 21 = .ok (.arraylength, 1) := by decide +kernel
theorem dX10_add_22 : decode cX10_add 22 = .ok (.if_icmp .ge 41, 3) := by decide +kernel
theorem dX10_add_25 : decode cX10_add 25 = .ok (.aload_n 0, 1) := by decide +kernel
theorem dX10_add_26 : decode cX10_add 26 = .ok (.getfield 9, 3) := by decide +kernel
theorem dX10_add_29 : decode cX10_add 29 = .ok (.iload 4, 2) := by decide +kernel
theorem dX10_add_31 : decode cX10_add 31 = .ok (.iload_n 1, 1) := by decide +kernel
theorem dX10_add_32 : decode cX10_add 32 = .ok (.iastore, 1) := by decide +kernel
theorem dX10_add_33 : decode cX10_add 33 = .ok (.aload_n 0, 1) := by decide +kernel
theorem dX10_add_34 : decode cX10_add 34 = .ok (.getfield 9, 3) := by decide +kernel
theorem dX10_add_37 : decode cX10_add 37 = .ok (.iload 4, 2) := by decide +kernel
theorem dX10_add_39 : decode cX10_add 39 = .ok (.iconst 1, 1) := by decide +kernel
theorem dX10_add_40 : decode cX10_add 40 = .ok (.iadd, 1) := by decide +kernel
theorem dX10_add_41 : decode cX10_add 41 = .ok (.iload_n 2, 1) := by decide +kernel
theorem dX10_add_42 : decode cX10_add 42 = .ok (.iastore, 1) := by decide +kernel
theorem dX10_add_43 : decode cX10_add 43 = .ok (.aload_n 0, 1) := by decide +kernel
theorem dX10_add_44 : decode cX10_add 44 = .ok (.getfield 9, 3) := by decide +kernel
theorem dX10_add_47 : decode cX10_add 47 = .ok (.iload 4, 2) := by decide +kernel
theorem dX10_add_49 : decode cX10_add 49 = .ok (.iconst 2, 1) := by decide +kernel
theorem dX10_add_50 : decode cX10_add 50 = .ok (.iadd, 1) := by decide +kernel
theorem dX10_add_51 : decode cX10_add 51 = .ok (.iload_n 3, 1) := by decide +kernel
theorem dX10_add_52 : decode cX10_add 52 = .ok (.iastore, 1) := by decide +kernel
theorem dX10_add_53 : decode cX10_add 53 = .ok (.aload_n 0, 1) := by decide +kernel
theorem dX10_add_54 : decode cX10_add 54 = .ok (.dup, 1) := by decide +kernel
theorem dX10_add_55 : decode cX10_add 55 = .ok (.getfield 58, 3) := by decide +kernel
theorem dX10_add_58 : decode cX10_add 58 = .ok (.iconst 1, 1) := by decide +kernel
theorem dX10_add_59 : decode cX10_add 59 = .ok (.iadd, 1) := by decide +kernel
theorem dX10_add_60 : decode cX10_add 60 = .ok (.putfield 58, 3) := by decide +kernel
theorem dX10_add_63 : decode cX10_add 63 = .ok (.return_, 1) := by decide +kernel
def mX10_add (x1 : Int32) (x2 : Int32) (x3 : Int32) (t : zS) : zR := zlet (3 * (t 50 4)) fun v141 => if v141 < 0 then some (0, t) else if 9003 ≤ (v141 + 2) then some (0, t) else zwr t 67 9003 v141 x1 fun t143 => zwr t143 67 9003 (v141 + 1) x2 fun t145 => zwr t145 67 9003 (v141 + 2) x3 fun t147 => zpt t147 50 4 ((t147 50 4) + 1) fun t148 => some (0, t148)
set_option maxHeartbeats 4000000 in
set_option maxRecDepth 20000 in
theorem ctX10_add {E : zE} {f : Nat} (hf : 6 ≤ f) {x1 : Int32} {x2 : Int32} {x3 : Int32} {t : zS} {ro : Int32 × zS} (hF : mX10_add  x1 x2 x3 t = some ro) : zM E shC f yX10_add cX10_add 5 none [.ref (za E 50), .int x1, .int x2, .int x3] t ro := by
  refine zM_of (by decide) (Nat.le_of_ble_eq_true rfl) (fun C => ?_)
  show zJ E shC C cX10_add RX10 5 f none ro t 0 [(0, .ref (za E 50)), (1, .int x1), (2, .int x2), (3, .int x3)] []
  unfold mX10_add at hF
  refine z_iconst (v := 3) dX10_add_0 (by decide) ?_
  refine z_aload_n 0 dX10_add_1 rfl rfl ?_
  refine z_geti fi_RX10_58 dX10_add_2 ?_
  refine z_imul dX10_add_5 ?_
  refine z_topi (fun v141 ev141 => ?_)
  have hF := zlet_at ev141 hF
  refine z_istore (lv' := [(4, .int v141), (0, .ref (za E 50)), (1, .int x1), (2, .int x2), (3, .int x3)]) dX10_add_6 (by decide) rfl ?_
  refine z_iload 0 dX10_add_8 rfl ?_
  refine z_if_lt (tgt := 63) dX10_add_10 (by decide) (fun hc => ?_) (fun hc => ?_)
  · have hF := zif_t hc hF
    exact z_vret hF dX10_add_63
  · have hF := zif_f hc hF
    refine z_iload 0 dX10_add_13 rfl ?_
    refine z_iconst (v := 2) dX10_add_15 (by decide) ?_
    refine z_iadd dX10_add_16 ?_
    refine z_aload_n 1 dX10_add_17 rfl rfl ?_
    refine z_getr fr_RX10_9 dX10_add_18 ?_
    refine z_alen (n := 9003) (v := 9003) rfl rfl (by decide) dX10_add_21 ?_
    refine z_icmp_ge (tgt := 63) dX10_add_22 (by decide) (fun hc => ?_) (fun hc => ?_)
    · have hF := zif_t hc hF
      exact z_vret hF dX10_add_63
    · have hF := zif_f hc hF
      refine z_aload_n 1 dX10_add_25 rfl rfl ?_
      refine z_getr fr_RX10_9 dX10_add_26 ?_
      refine z_iload 0 dX10_add_29 rfl ?_
      refine z_iload_n 2 dX10_add_31 rfl rfl ?_
      obtain ⟨hi142, hF⟩ := zwr_at hF
      refine z_iast (n := 9003) rfl hi142 dX10_add_32 (fun t143 et143 => ?_)
      have hF := hF t143 et143
      refine z_aload_n 1 dX10_add_33 rfl rfl ?_
      refine z_getr fr_RX10_9 dX10_add_34 ?_
      refine z_iload 0 dX10_add_37 rfl ?_
      refine z_iconst (v := 1) dX10_add_39 (by decide) ?_
      refine z_iadd dX10_add_40 ?_
      refine z_iload_n 3 dX10_add_41 rfl rfl ?_
      obtain ⟨hi144, hF⟩ := zwr_at hF
      refine z_iast (n := 9003) rfl hi144 dX10_add_42 (fun t145 et145 => ?_)
      have hF := hF t145 et145
      refine z_aload_n 1 dX10_add_43 rfl rfl ?_
      refine z_getr fr_RX10_9 dX10_add_44 ?_
      refine z_iload 0 dX10_add_47 rfl ?_
      refine z_iconst (v := 2) dX10_add_49 (by decide) ?_
      refine z_iadd dX10_add_50 ?_
      refine z_iload_n 4 dX10_add_51 rfl rfl ?_
      obtain ⟨hi146, hF⟩ := zwr_at hF
      refine z_iast (n := 9003) rfl hi146 dX10_add_52 (fun t147 et147 => ?_)
      have hF := hF t147 et147
      refine z_aload_n 1 dX10_add_53 rfl rfl ?_
      refine z_dup dX10_add_54 rfl ?_
      refine z_geti fi_RX10_58 dX10_add_55 ?_
      refine z_iconst (v := 1) dX10_add_58 (by decide) ?_
      refine z_iadd dX10_add_59 ?_
      refine z_puti fw_RX10_58 dX10_add_60 (fun t148 et148 => ?_)
      have hF := zpt_at hF t148 et148
      exact z_vret hF dX10_add_63
-- SessionHouse$Words.cutName(LSessionHouse$Ints;II)I
theorem dX10_cutName_0 : decode cX10_cutName 0 = .ok (.iload_n 2, 1) := by decide +kernel
theorem dX10_cutName_1 : decode cX10_cutName 1 = .ok (.istore 4, 2) := by decide +kernel
theorem dX10_cutName_3 : decode cX10_cutName 3 = .ok (.iload 4, 2) := by decide +kernel
theorem dX10_cutName_5 : decode cX10_cutName 5 = .ok (.iload_n 3, 1) := by decide +kernel
theorem dX10_cutName_6 : decode cX10_cutName 6 = .ok (.if_icmp .ge 60, 3) := by decide +kernel
theorem dX10_cutName_9 : decode cX10_cutName 9 = .ok (.aload_n 1, 1) := by decide +kernel
theorem dX10_cutName_10 : decode cX10_cutName 10 = .ok (.iload 4, 2) := by decide +kernel
theorem dX10_cutName_12 : decode cX10_cutName 12 = .ok (.invokevirtual 33, 3) := by decide +kernel
theorem dX10_cutName_15 : decode cX10_cutName 15 = .ok (.invokestatic 37, 3) := by decide +kernel
theorem dX10_cutName_18 : decode cX10_cutName 18 = .ok (.ifCond .ne 15, 3) := by decide +kernel
theorem dX10_cutName_21 : decode cX10_cutName 21 = .ok (.aload_n 1, 1) := by decide +kernel
theorem dX10_cutName_22 : decode cX10_cutName 22 = .ok (.iload 4, 2) := by decide +kernel
theorem dX10_cutName_24 : decode cX10_cutName 24 = .ok (.invokevirtual 33, 3) := by decide +kernel
theorem dX10_cutName_27 : decode cX10_cutName 27 = .ok (.invokestatic 45, 3) := by decide +kernel
theorem dX10_cutName_30 : decode cX10_cutName 30 = .ok (.ifCond .eq 36, 3) := by decide +kernel
theorem dX10_cutName_33 : decode cX10_cutName 33 = .ok (.aload_n 0, 1) := by decide +kernel
theorem dX10_cutName_34 : decode cX10_cutName 34 = .ok (.getfield 20, 3) := by decide +kernel
theorem dX10_cutName_37 : decode cX10_cutName 37 = .ok (.aload_n 0, 1) := by decide +kernel
theorem dX10_cutName_38 : decode cX10_cutName 38 = .ok (.getfield 65, 3) := by decide +kernel
theorem dX10_cutName_41 : decode cX10_cutName 41 = .ok (.aload_n 1, 1) := by decide +kernel
theorem dX10_cutName_42 : decode cX10_cutName 42 = .ok (.iload 4, 2) := by decide +kernel
theorem dX10_cutName_44 : decode cX10_cutName 44 = .ok (.invokevirtual 33, 3) := by decide +kernel
theorem dX10_cutName_47 : decode cX10_cutName 47 = .ok (.invokevirtual 68, 3) := by decide +kernel
theorem dX10_cutName_50 : decode cX10_cutName 50 = .ok (.aload_n 0, 1) := by decide +kernel
theorem dX10_cutName_51 : decode cX10_cutName 51 = .ok (.dup, 1) := by decide +kernel
theorem dX10_cutName_52 : decode cX10_cutName 52 = .ok (.getfield 65, 3) := by decide +kernel
theorem dX10_cutName_55 : decode cX10_cutName 55 = .ok (.iconst 1, 1) := by decide +kernel
theorem dX10_cutName_56 : decode cX10_cutName 56 = .ok (.iadd, 1) := by decide +kernel
theorem dX10_cutName_57 : decode cX10_cutName 57 = .ok (.putfield 65, 3) := by decide +kernel
theorem dX10_cutName_60 : decode cX10_cutName 60 = .ok (.iinc 4 1, 3) := by decide +kernel
theorem dX10_cutName_63 : decode cX10_cutName 63 = .ok (.goto (-60), 3) := by decide +kernel
theorem dX10_cutName_66 : decode cX10_cutName 66 = .ok (.aload_n 0, 1) := by decide +kernel
theorem dX10_cutName_67 : decode cX10_cutName 67 = .ok (.invokevirtual 87, 3) := by decide +kernel
theorem dX10_cutName_70 : decode cX10_cutName 70 = .ok (.istore 5, 2) := by decide +kernel
theorem dX10_cutName_72 : decode cX10_cutName 72 = .ok (.aload_n 0, 1) := by decide +kernel
theorem dX10_cutName_73 : decode cX10_cutName 73 = .ok (.iload 5, 2) := by decide +kernel
theorem dX10_cutName_75 : decode cX10_cutName 75 = .ok (.bipush 17, 2) := by decide +kernel
theorem dX10_cutName_77 : decode cX10_cutName 77 = .ok (.if_icmp .ge 8, 3) := by decide +kernel
theorem dX10_cutName_80 : decode cX10_cutName 80 = .ok (.iload 5, 2) := by decide +kernel
theorem dX10_cutName_82 : decode cX10_cutName 82 = .ok (.goto 5, 3) := by decide +kernel
theorem dX10_cutName_85 : decode cX10_cutName 85 = .ok (.bipush 17, 2) := by decide +kernel
theorem dX10_cutName_87 : decode cX10_cutName 87 = .ok (.iload_n 2, 1) := by decide +kernel
theorem dX10_cutName_88 : decode cX10_cutName 88 = .ok (.iload 5, 2) := by decide +kernel
theorem dX10_cutName_90 : decode cX10_cutName 90 = .ok (.invokevirtual 54, 3) := by decide +kernel
theorem dX10_cutName_93 : decode cX10_cutName 93 = .ok (.iload 4, 2) := by decide +kernel
theorem dX10_cutName_95 : decode cX10_cutName 95 = .ok (.ireturn, 1) := by decide +kernel
def bX10_cutName_33 (k3 : Int32 → Int32 → Int32 → zS → zR) (x2 : Int32) (x3 : Int32) (x4 : Int32) (t : zS) : zR := zbd (mX5_get 1 3000 x4 t) fun r149 t150 => zbd (mX5_set 68 3120 (t 50 6) r149 t150) fun r152 t153 => zpt t153 50 6 ((t153 50 6) + 1) fun t155 => zlet (x4 + 1) fun v156 => k3 x2 x3 v156 t155
def bX10_cutName_87 (x2 : Int32) (x4 : Int32) (x5 : Int32) (y0 : Int32) (t : zS) : zR := zbd (mX10_add y0 x2 x5 t) fun r157 t158 => some (x4, t158)
def bX10_cutName_66 (x2 : Int32) (x4 : Int32) (t : zS) : zR := zbd (mX10_nameNumber  t) fun r160 t161 => if 17 ≤ r160 then bX10_cutName_87  x2 x4 r160 17 t161 else bX10_cutName_87  x2 x4 r160 r160 t161
def bX10_cutName_3 (k3 : Int32 → Int32 → Int32 → zS → zR) (x2 : Int32) (x3 : Int32) (x4 : Int32) (t : zS) : zR := if x3 ≤ x4 then bX10_cutName_66  x2 x4 t else zbd (mX5_get 1 3000 x4 t) fun r163 t164 => zbd (mX10_isLetter r163 t164) fun r166 t167 => if r166 = 0 then zbd (mX5_get 1 3000 x4 t167) fun r169 t170 => zbd (mX10_isDigit r169 t170) fun r172 t173 => if r172 = 0 then bX10_cutName_66  x2 x4 t173 else bX10_cutName_33 k3 x2 x3 x4 t173 else bX10_cutName_33 k3 x2 x3 x4 t167
def lX10_cutName_3 : Nat → Int32 → Int32 → Int32 → zS → zR
  | 0, _, _, _, _ => none
  | fu + 1, x2, x3, x4, t => bX10_cutName_3 (lX10_cutName_3  fu) x2 x3 x4 t
def mX10_cutName (x2 : Int32) (x3 : Int32) (t : zS) : zR := lX10_cutName_3  zFU x2 x3 x2 t
set_option maxHeartbeats 4000000 in
set_option maxRecDepth 20000 in
theorem wbX10_cutName_33 {E : zE} {C : zC} {f : Nat} {ro : Int32 × zS} (hf : 8 ≤ f) (k3 : Int32 → Int32 → Int32 → zS → zR) (hk3 : ∀ (x2 x3 x4 : Int32) (t : zS), k3 x2 x3 x4 t = some ro → zJ E shC C cX10_cutName RX10 6 f (some .int) ro t 3 [(0, .ref (za E 50)), (1, .ref (za E 1)), (2, .int x2), (3, .int x3), (4, .int x4)] []) (x2 : Int32) (x3 : Int32) (x4 : Int32) (t : zS) (hF : bX10_cutName_33 k3 x2 x3 x4 t = some ro) : zJ E shC C cX10_cutName RX10 6 f (some .int) ro t 33 [(0, .ref (za E 50)), (1, .ref (za E 1)), (2, .int x2), (3, .int x3), (4, .int x4)] [] := by
  unfold bX10_cutName_33 at hF
  refine z_aload_n 0 dX10_cutName_33 rfl rfl ?_
  refine z_getr fr_RX10_20 dX10_cutName_34 ?_
  refine z_aload_n 0 dX10_cutName_37 rfl rfl ?_
  refine z_geti fi_RX10_65 dX10_cutName_38 ?_
  refine z_aload_n 1 dX10_cutName_41 rfl rfl ?_
  refine z_iload 4 dX10_cutName_42 rfl ?_
  obtain ⟨r149, t150, hc151, hF⟩ := zbd_at hF
  refine z_callVi (ctX5_get (E := E) (sh := shC) (f := f - 1) (by omega) (k := 1) (n := 3000) rfl rfl hc151) yy_X5_get yv_X5_get ob_C_1 lk_RX10_33 (by omega) rfl rfl (Nat.le_of_ble_eq_true rfl) dX10_cutName_44 ?_
  obtain ⟨r152, t153, hc154, hF⟩ := zbd_at hF
  refine z_callVv (ctX5_set (E := E) (sh := shC) (f := f - 1) (by omega) (k := 68) (n := 3120) rfl rfl hc154) yy_X5_set yv_X5_set ob_C_68 lk_RX10_68 (by omega) rfl rfl (Nat.le_of_ble_eq_true rfl) dX10_cutName_47 ?_
  refine z_aload_n 0 dX10_cutName_50 rfl rfl ?_
  refine z_dup dX10_cutName_51 rfl ?_
  refine z_geti fi_RX10_65 dX10_cutName_52 ?_
  refine z_iconst (v := 1) dX10_cutName_55 (by decide) ?_
  refine z_iadd dX10_cutName_56 ?_
  refine z_puti fw_RX10_65 dX10_cutName_57 (fun t155 et155 => ?_)
  have hF := zpt_at hF t155 et155
  obtain ⟨v156, ev156⟩ : ∃ y : Int32, y = (x4 + 1) := ⟨_, rfl⟩
  have hF := zlet_at ev156 hF
  refine z_iinc (v := v156) (lv' := [(4, .int v156), (0, .ref (za E 50)), (1, .ref (za E 1)), (2, .int x2), (3, .int x3)]) (k := 4) dX10_cutName_60 rfl (by rw [ev156]; rfl) (by decide) rfl ?_
  refine z_goto (tgt := 3) dX10_cutName_63 (by decide) ?_
  refine z_sub [1, 2, 3, 4, 0] rfl ?_
  exact hk3 x2 x3 v156 _ hF
set_option maxHeartbeats 4000000 in
set_option maxRecDepth 20000 in
theorem wbX10_cutName_87 {E : zE} {C : zC} {f : Nat} {ro : Int32 × zS} (hf : 8 ≤ f) (x2 : Int32) (x4 : Int32) (x5 : Int32) (y0 : Int32) (t : zS) (hF : bX10_cutName_87  x2 x4 x5 y0 t = some ro) : zJ E shC C cX10_cutName RX10 6 f (some .int) ro t 87 [(2, .int x2), (4, .int x4), (5, .int x5)] [.int y0, .ref (za E 50)] := by
  unfold bX10_cutName_87 at hF
  refine z_iload_n 0 dX10_cutName_87 rfl rfl ?_
  refine z_iload 2 dX10_cutName_88 rfl ?_
  obtain ⟨r157, t158, hc159, hF⟩ := zbd_at hF
  refine z_callVv (ctX10_add (E := E) (f := f - 1) (by omega) hc159) yy_X10_add yv_X10_add ob_C_50 lk_RX10_54 (by omega) rfl rfl (Nat.le_of_ble_eq_true rfl) dX10_cutName_90 ?_
  refine z_iload 1 dX10_cutName_93 rfl ?_
  exact z_iret hF dX10_cutName_95
set_option maxHeartbeats 4000000 in
set_option maxRecDepth 20000 in
theorem wbX10_cutName_66 {E : zE} {C : zC} {f : Nat} {ro : Int32 × zS} (hf : 8 ≤ f) (x2 : Int32) (x4 : Int32) (t : zS) (hF : bX10_cutName_66  x2 x4 t = some ro) : zJ E shC C cX10_cutName RX10 6 f (some .int) ro t 66 [(0, .ref (za E 50)), (2, .int x2), (4, .int x4)] [] := by
  unfold bX10_cutName_66 at hF
  refine z_aload_n 0 dX10_cutName_66 rfl rfl ?_
  obtain ⟨r160, t161, hc162, hF⟩ := zbd_at hF
  refine z_callVi (ctX10_nameNumber (E := E) (f := f - 1) (by omega) hc162) yy_X10_nameNumber yv_X10_nameNumber ob_C_50 lk_RX10_87 (by omega) rfl rfl (Nat.le_of_ble_eq_true rfl) dX10_cutName_67 ?_
  refine z_istore (lv' := [(5, .int r160), (0, .ref (za E 50)), (2, .int x2), (4, .int x4)]) dX10_cutName_70 (by decide) rfl ?_
  refine z_aload_n 1 dX10_cutName_72 rfl rfl ?_
  refine z_iload 0 dX10_cutName_73 rfl ?_
  refine z_bipush (v := 17) dX10_cutName_75 (by decide) ?_
  refine z_icmp_ge (tgt := 85) dX10_cutName_77 (by decide) (fun hc => ?_) (fun hc => ?_)
  · have hF := zif_t hc hF
    refine z_bipush (v := 17) dX10_cutName_85 (by decide) ?_
    refine z_sub [2, 3, 0] rfl ?_
    exact wbX10_cutName_87 hf  x2 x4 r160 17 _ hF
  · have hF := zif_f hc hF
    refine z_iload 0 dX10_cutName_80 rfl ?_
    refine z_goto (tgt := 87) dX10_cutName_82 (by decide) ?_
    refine z_sub [2, 3, 0] rfl ?_
    exact wbX10_cutName_87 hf  x2 x4 r160 r160 _ hF
set_option maxHeartbeats 4000000 in
set_option maxRecDepth 20000 in
theorem wbX10_cutName_3 {E : zE} {C : zC} {f : Nat} {ro : Int32 × zS} (hf : 8 ≤ f) (k3 : Int32 → Int32 → Int32 → zS → zR) (hk3 : ∀ (x2 x3 x4 : Int32) (t : zS), k3 x2 x3 x4 t = some ro → zJ E shC C cX10_cutName RX10 6 f (some .int) ro t 3 [(0, .ref (za E 50)), (1, .ref (za E 1)), (2, .int x2), (3, .int x3), (4, .int x4)] []) (x2 : Int32) (x3 : Int32) (x4 : Int32) (t : zS) (hF : bX10_cutName_3 k3 x2 x3 x4 t = some ro) : zJ E shC C cX10_cutName RX10 6 f (some .int) ro t 3 [(0, .ref (za E 50)), (1, .ref (za E 1)), (2, .int x2), (3, .int x3), (4, .int x4)] [] := by
  unfold bX10_cutName_3 at hF
  refine z_iload 4 dX10_cutName_3 rfl ?_
  refine z_iload_n 3 dX10_cutName_5 rfl rfl ?_
  refine z_icmp_ge (tgt := 66) dX10_cutName_6 (by decide) (fun hc => ?_) (fun hc => ?_)
  · have hF := zif_t hc hF
    refine z_sub [0, 2, 4] rfl ?_
    exact wbX10_cutName_66 hf  x2 x4 _ hF
  · have hF := zif_f hc hF
    refine z_aload_n 1 dX10_cutName_9 rfl rfl ?_
    refine z_iload 4 dX10_cutName_10 rfl ?_
    obtain ⟨r163, t164, hc165, hF⟩ := zbd_at hF
    refine z_callVi (ctX5_get (E := E) (sh := shC) (f := f - 1) (by omega) (k := 1) (n := 3000) rfl rfl hc165) yy_X5_get yv_X5_get ob_C_1 lk_RX10_33 (by omega) rfl rfl (Nat.le_of_ble_eq_true rfl) dX10_cutName_12 ?_
    obtain ⟨r166, t167, hc168, hF⟩ := zbd_at hF
    refine z_callSi (ctX10_isLetter (E := E) (f := f - 1) (by omega) hc168) yy_X10_isLetter yv_X10_isLetter lk_RX10_37 (by omega) rfl rfl (Nat.le_of_ble_eq_true rfl) dX10_cutName_15 ?_
    refine z_if_ne (tgt := 33) dX10_cutName_18 (by decide) (fun hc => ?_) (fun hc => ?_)
    · have hF := zif_f hc hF
      exact wbX10_cutName_33 hf k3 hk3 x2 x3 x4 _ hF
    · have hF := zif_t hc hF
      refine z_aload_n 1 dX10_cutName_21 rfl rfl ?_
      refine z_iload 4 dX10_cutName_22 rfl ?_
      obtain ⟨r169, t170, hc171, hF⟩ := zbd_at hF
      refine z_callVi (ctX5_get (E := E) (sh := shC) (f := f - 1) (by omega) (k := 1) (n := 3000) rfl rfl hc171) yy_X5_get yv_X5_get ob_C_1 lk_RX10_33 (by omega) rfl rfl (Nat.le_of_ble_eq_true rfl) dX10_cutName_24 ?_
      obtain ⟨r172, t173, hc174, hF⟩ := zbd_at hF
      refine z_callSi (ctX10_isDigit (E := E) (f := f - 1) (by omega) hc174) yy_X10_isDigit yv_X10_isDigit lk_RX10_45 (by omega) rfl rfl (Nat.le_of_ble_eq_true rfl) dX10_cutName_27 ?_
      refine z_if_eq (tgt := 66) dX10_cutName_30 (by decide) (fun hc => ?_) (fun hc => ?_)
      · have hF := zif_t hc hF
        refine z_sub [0, 2, 4] rfl ?_
        exact wbX10_cutName_66 hf  x2 x4 _ hF
      · have hF := zif_f hc hF
        exact wbX10_cutName_33 hf k3 hk3 x2 x3 x4 _ hF
set_option maxHeartbeats 4000000 in
set_option maxRecDepth 20000 in
theorem wlX10_cutName_3 {E : zE} {C : zC} {f : Nat} {ro : Int32 × zS} (hf : 8 ≤ f) (fu : Nat) : ∀ (x2 x3 x4 : Int32) (t : zS), lX10_cutName_3  fu x2 x3 x4 t = some ro → zJ E shC C cX10_cutName RX10 6 f (some .int) ro t 3 [(0, .ref (za E 50)), (1, .ref (za E 1)), (2, .int x2), (3, .int x3), (4, .int x4)] [] := by
  induction fu with
  | zero => intro x2 x3 x4 t hF; cases hF
  | succ fu ih => intro x2 x3 x4 t hF; exact wbX10_cutName_3 hf (lX10_cutName_3  fu) ih x2 x3 x4 t hF
set_option maxHeartbeats 4000000 in
set_option maxRecDepth 20000 in
theorem ctX10_cutName {E : zE} {f : Nat} (hf : 8 ≤ f) {x2 : Int32} {x3 : Int32} {t : zS} {ro : Int32 × zS} (hF : mX10_cutName  x2 x3 t = some ro) : zM E shC f yX10_cutName cX10_cutName 6 (some .int) [.ref (za E 50), .ref (za E 1), .int x2, .int x3] t ro := by
  refine zM_of (by decide) (Nat.le_of_ble_eq_true rfl) (fun C => ?_)
  show zJ E shC C cX10_cutName RX10 6 f (some .int) ro t 0 [(0, .ref (za E 50)), (1, .ref (za E 1)), (2, .int x2), (3, .int x3)] []
  unfold mX10_cutName at hF
  refine z_iload_n 2 dX10_cutName_0 rfl rfl ?_
  refine z_istore (lv' := [(4, .int x2), (0, .ref (za E 50)), (1, .ref (za E 1)), (2, .int x2), (3, .int x3)]) dX10_cutName_1 (by decide) rfl ?_
  refine z_sub [1, 2, 3, 4, 0] rfl ?_
  exact wlX10_cutName_3 hf  zFU x2 x3 x2 _ hF
-- SessionHouse$Words.cutNumber(LSessionHouse$Ints;II)I
theorem dX10_cutNumber_0 : decode cX10_cutNumber 0 = .ok (.iload_n 2, 1) := by decide +kernel
theorem dX10_cutNumber_1 : decode cX10_cutNumber 1 = .ok (.istore 4, 2) := by decide +kernel
theorem dX10_cutNumber_3 : decode cX10_cutNumber 3 = .ok (.iconst 0, 1) := by decide +kernel
theorem dX10_cutNumber_4 : decode cX10_cutNumber 4 = .ok (.istore 5, 2) := by decide +kernel
theorem dX10_cutNumber_6 : decode cX10_cutNumber 6 = .ok (.iload 4, 2) := by decide +kernel
theorem dX10_cutNumber_8 : decode cX10_cutNumber 8 = .ok (.iload_n 3, 1) := by decide +kernel
theorem dX10_cutNumber_9 : decode cX10_cutNumber 9 = .ok (.if_icmp .ge 38, 3) := by decide +kernel
theorem dX10_cutNumber_12 : decode cX10_cutNumber 12 = .ok (.aload_n 1, 1) := by decide +kernel
theorem dX10_cutNumber_13 : decode cX10_cutNumber 13 = .ok (.iload 4, 2) := by decide +kernel
theorem dX10_cutNumber_15 : decode cX10_cutNumber 15 = .ok (.invokevirtual 33, 3) := by decide +kernel
theorem dX10_cutNumber_18 : decode cX10_cutNumber 18 = .ok (.invokestatic 45, 3) := by decide +kernel
theorem dX10_cutNumber_21 : decode cX10_cutNumber 21 = .ok (.ifCond .eq 26, 3) := by decide +kernel
theorem dX10_cutNumber_24 : decode cX10_cutNumber 24 = .ok (.iload 5, 2) := by decide +kernel
theorem dX10_cutNumber_26 : decode cX10_cutNumber 26 = .ok (.bipush 10, 2) := by decide +kernel
theorem dX10_cutNumber_28 : decode cX10_cutNumber 28 = .ok (.imul, 1) := by decide +kernel
theorem dX10_cutNumber_29 : decode cX10_cutNumber 29 = .ok (.aload_n 1, 1) := by decide +kernel
theorem dX10_cutNumber_30 : decode cX10_cutNumber 30 = .ok (.iload 4, 2) := by decide +kernel
theorem dX10_cutNumber_32 : decode cX10_cutNumber 32 = .ok (.invokevirtual 33, 3) := by decide +kernel
theorem dX10_cutNumber_35 : decode cX10_cutNumber 35 = .ok (.iadd, 1) := by decide +kernel
theorem dX10_cutNumber_36 : decode cX10_cutNumber 36 = .ok (.bipush 48, 2) := by decide +kernel
theorem dX10_cutNumber_38 : decode cX10_cutNumber 38 = .ok (.isub, 1) := by decide +kernel
theorem dX10_cutNumber_39 : decode cX10_cutNumber 39 = .ok (.istore 5, 2) := by decide +kernel
theorem dX10_cutNumber_41 : decode cX10_cutNumber 41 = .ok (.iinc 4 1, 3) := by decide +kernel
theorem dX10_cutNumber_44 : decode cX10_cutNumber 44 = .ok (.goto (-38), 3) := by decide +kernel
theorem dX10_cutNumber_47 : decode cX10_cutNumber 47 = .ok (.aload_n 0, 1) := by decide +kernel
theorem dX10_cutNumber_48 : decode cX10_cutNumber 48 = .ok (.iload 4, 2) := by decide +kernel
theorem dX10_cutNumber_50 : decode cX10_cutNumber 50 = .ok (.iload_n 2, 1) := by decide +kernel
theorem dX10_cutNumber_51 : decode cX10_cutNumber 51 = .ok (.isub, 1) := by decide +kernel
theorem dX10_cutNumber_52 : decode cX10_cutNumber 52 = .ok (.bipush 9, 2) := by decide +kernel
theorem dX10_cutNumber_54 : decode cX10_cutNumber 54 = .ok (.if_icmp .le 8, 3) := by decide +kernel
theorem dX10_cutNumber_57 : decode cX10_cutNumber 57 = .ok (.bipush 20, 2) := by decide +kernel
theorem dX10_cutNumber_59 : decode cX10_cutNumber 59 = .ok (.goto 5, 3) := by decide +kernel
theorem dX10_cutNumber_62 : decode cX10_cutNumber 62 = .ok (.bipush 18, 2) := by decide +kernel
theorem dX10_cutNumber_64 : decode cX10_cutNumber 64 = .ok (.iload_n 2, 1) := by decide +kernel
theorem dX10_cutNumber_65 : decode cX10_cutNumber 65 = .ok (.iload 5, 2) := by decide +kernel
theorem dX10_cutNumber_67 : decode cX10_cutNumber 67 = .ok (.invokevirtual 54, 3) := by decide +kernel
theorem dX10_cutNumber_70 : decode cX10_cutNumber 70 = .ok (.iload 4, 2) := by decide +kernel
theorem dX10_cutNumber_72 : decode cX10_cutNumber 72 = .ok (.ireturn, 1) := by decide +kernel
def bX10_cutNumber_64 (x2 : Int32) (x4 : Int32) (x5 : Int32) (y0 : Int32) (t : zS) : zR := zbd (mX10_add y0 x2 x5 t) fun r175 t176 => some (x4, t176)
def bX10_cutNumber_47 (x2 : Int32) (x4 : Int32) (x5 : Int32) (t : zS) : zR := if (x4 - x2) ≤ 9 then bX10_cutNumber_64  x2 x4 x5 18 t else bX10_cutNumber_64  x2 x4 x5 20 t
def bX10_cutNumber_6 (k6 : Int32 → Int32 → Int32 → Int32 → zS → zR) (x2 : Int32) (x3 : Int32) (x4 : Int32) (x5 : Int32) (t : zS) : zR := if x3 ≤ x4 then bX10_cutNumber_47  x2 x4 x5 t else zbd (mX5_get 1 3000 x4 t) fun r178 t179 => zbd (mX10_isDigit r178 t179) fun r181 t182 => if r181 = 0 then bX10_cutNumber_47  x2 x4 x5 t182 else zbd (mX5_get 1 3000 x4 t182) fun r184 t185 => zlet (((x5 * 10) + r184) - 48) fun v187 => zlet (x4 + 1) fun v188 => k6 x2 x3 v188 v187 t185
def lX10_cutNumber_6 : Nat → Int32 → Int32 → Int32 → Int32 → zS → zR
  | 0, _, _, _, _, _ => none
  | fu + 1, x2, x3, x4, x5, t => bX10_cutNumber_6 (lX10_cutNumber_6  fu) x2 x3 x4 x5 t
def mX10_cutNumber (x2 : Int32) (x3 : Int32) (t : zS) : zR := lX10_cutNumber_6  zFU x2 x3 x2 0 t
set_option maxHeartbeats 4000000 in
set_option maxRecDepth 20000 in
theorem wbX10_cutNumber_64 {E : zE} {C : zC} {f : Nat} {ro : Int32 × zS} (hf : 7 ≤ f) (x2 : Int32) (x4 : Int32) (x5 : Int32) (y0 : Int32) (t : zS) (hF : bX10_cutNumber_64  x2 x4 x5 y0 t = some ro) : zJ E shC C cX10_cutNumber RX10 6 f (some .int) ro t 64 [(2, .int x2), (4, .int x4), (5, .int x5)] [.int y0, .ref (za E 50)] := by
  unfold bX10_cutNumber_64 at hF
  refine z_iload_n 0 dX10_cutNumber_64 rfl rfl ?_
  refine z_iload 2 dX10_cutNumber_65 rfl ?_
  obtain ⟨r175, t176, hc177, hF⟩ := zbd_at hF
  refine z_callVv (ctX10_add (E := E) (f := f - 1) (by omega) hc177) yy_X10_add yv_X10_add ob_C_50 lk_RX10_54 (by omega) rfl rfl (Nat.le_of_ble_eq_true rfl) dX10_cutNumber_67 ?_
  refine z_iload 1 dX10_cutNumber_70 rfl ?_
  exact z_iret hF dX10_cutNumber_72
set_option maxHeartbeats 4000000 in
set_option maxRecDepth 20000 in
theorem wbX10_cutNumber_47 {E : zE} {C : zC} {f : Nat} {ro : Int32 × zS} (hf : 7 ≤ f) (x2 : Int32) (x4 : Int32) (x5 : Int32) (t : zS) (hF : bX10_cutNumber_47  x2 x4 x5 t = some ro) : zJ E shC C cX10_cutNumber RX10 6 f (some .int) ro t 47 [(0, .ref (za E 50)), (2, .int x2), (4, .int x4), (5, .int x5)] [] := by
  unfold bX10_cutNumber_47 at hF
  refine z_aload_n 0 dX10_cutNumber_47 rfl rfl ?_
  refine z_iload 2 dX10_cutNumber_48 rfl ?_
  refine z_iload_n 1 dX10_cutNumber_50 rfl rfl ?_
  refine z_isub dX10_cutNumber_51 ?_
  refine z_bipush (v := 9) dX10_cutNumber_52 (by decide) ?_
  refine z_icmp_le (tgt := 62) dX10_cutNumber_54 (by decide) (fun hc => ?_) (fun hc => ?_)
  · have hF := zif_t hc hF
    refine z_bipush (v := 18) dX10_cutNumber_62 (by decide) ?_
    refine z_sub [1, 2, 3] rfl ?_
    exact wbX10_cutNumber_64 hf  x2 x4 x5 18 _ hF
  · have hF := zif_f hc hF
    refine z_bipush (v := 20) dX10_cutNumber_57 (by decide) ?_
    refine z_goto (tgt := 64) dX10_cutNumber_59 (by decide) ?_
    refine z_sub [1, 2, 3] rfl ?_
    exact wbX10_cutNumber_64 hf  x2 x4 x5 20 _ hF
set_option maxHeartbeats 4000000 in
set_option maxRecDepth 20000 in
theorem wbX10_cutNumber_6 {E : zE} {C : zC} {f : Nat} {ro : Int32 × zS} (hf : 7 ≤ f) (k6 : Int32 → Int32 → Int32 → Int32 → zS → zR) (hk6 : ∀ (x2 x3 x4 x5 : Int32) (t : zS), k6 x2 x3 x4 x5 t = some ro → zJ E shC C cX10_cutNumber RX10 6 f (some .int) ro t 6 [(0, .ref (za E 50)), (1, .ref (za E 1)), (2, .int x2), (3, .int x3), (4, .int x4), (5, .int x5)] []) (x2 : Int32) (x3 : Int32) (x4 : Int32) (x5 : Int32) (t : zS) (hF : bX10_cutNumber_6 k6 x2 x3 x4 x5 t = some ro) : zJ E shC C cX10_cutNumber RX10 6 f (some .int) ro t 6 [(0, .ref (za E 50)), (1, .ref (za E 1)), (2, .int x2), (3, .int x3), (4, .int x4), (5, .int x5)] [] := by
  unfold bX10_cutNumber_6 at hF
  refine z_iload 4 dX10_cutNumber_6 rfl ?_
  refine z_iload_n 3 dX10_cutNumber_8 rfl rfl ?_
  refine z_icmp_ge (tgt := 47) dX10_cutNumber_9 (by decide) (fun hc => ?_) (fun hc => ?_)
  · have hF := zif_t hc hF
    refine z_sub [0, 2, 4, 5] rfl ?_
    exact wbX10_cutNumber_47 hf  x2 x4 x5 _ hF
  · have hF := zif_f hc hF
    refine z_aload_n 1 dX10_cutNumber_12 rfl rfl ?_
    refine z_iload 4 dX10_cutNumber_13 rfl ?_
    obtain ⟨r178, t179, hc180, hF⟩ := zbd_at hF
    refine z_callVi (ctX5_get (E := E) (sh := shC) (f := f - 1) (by omega) (k := 1) (n := 3000) rfl rfl hc180) yy_X5_get yv_X5_get ob_C_1 lk_RX10_33 (by omega) rfl rfl (Nat.le_of_ble_eq_true rfl) dX10_cutNumber_15 ?_
    obtain ⟨r181, t182, hc183, hF⟩ := zbd_at hF
    refine z_callSi (ctX10_isDigit (E := E) (f := f - 1) (by omega) hc183) yy_X10_isDigit yv_X10_isDigit lk_RX10_45 (by omega) rfl rfl (Nat.le_of_ble_eq_true rfl) dX10_cutNumber_18 ?_
    refine z_if_eq (tgt := 47) dX10_cutNumber_21 (by decide) (fun hc => ?_) (fun hc => ?_)
    · have hF := zif_t hc hF
      refine z_sub [0, 2, 4, 5] rfl ?_
      exact wbX10_cutNumber_47 hf  x2 x4 x5 _ hF
    · have hF := zif_f hc hF
      refine z_iload 5 dX10_cutNumber_24 rfl ?_
      refine z_bipush (v := 10) dX10_cutNumber_26 (by decide) ?_
      refine z_imul dX10_cutNumber_28 ?_
      refine z_aload_n 1 dX10_cutNumber_29 rfl rfl ?_
      refine z_iload 4 dX10_cutNumber_30 rfl ?_
      obtain ⟨r184, t185, hc186, hF⟩ := zbd_at hF
      refine z_callVi (ctX5_get (E := E) (sh := shC) (f := f - 1) (by omega) (k := 1) (n := 3000) rfl rfl hc186) yy_X5_get yv_X5_get ob_C_1 lk_RX10_33 (by omega) rfl rfl (Nat.le_of_ble_eq_true rfl) dX10_cutNumber_32 ?_
      refine z_iadd dX10_cutNumber_35 ?_
      refine z_bipush (v := 48) dX10_cutNumber_36 (by decide) ?_
      refine z_isub dX10_cutNumber_38 ?_
      refine z_topi (fun v187 ev187 => ?_)
      have hF := zlet_at ev187 hF
      refine z_istore (lv' := [(5, .int v187), (0, .ref (za E 50)), (1, .ref (za E 1)), (2, .int x2), (3, .int x3), (4, .int x4)]) dX10_cutNumber_39 (by decide) rfl ?_
      obtain ⟨v188, ev188⟩ : ∃ y : Int32, y = (x4 + 1) := ⟨_, rfl⟩
      have hF := zlet_at ev188 hF
      refine z_iinc (v := v188) (lv' := [(4, .int v188), (5, .int v187), (0, .ref (za E 50)), (1, .ref (za E 1)), (2, .int x2), (3, .int x3)]) (k := 5) dX10_cutNumber_41 rfl (by rw [ev188]; rfl) (by decide) rfl ?_
      refine z_goto (tgt := 6) dX10_cutNumber_44 (by decide) ?_
      refine z_sub [2, 3, 4, 5, 0, 1] rfl ?_
      exact hk6 x2 x3 v188 v187 _ hF
set_option maxHeartbeats 4000000 in
set_option maxRecDepth 20000 in
theorem wlX10_cutNumber_6 {E : zE} {C : zC} {f : Nat} {ro : Int32 × zS} (hf : 7 ≤ f) (fu : Nat) : ∀ (x2 x3 x4 x5 : Int32) (t : zS), lX10_cutNumber_6  fu x2 x3 x4 x5 t = some ro → zJ E shC C cX10_cutNumber RX10 6 f (some .int) ro t 6 [(0, .ref (za E 50)), (1, .ref (za E 1)), (2, .int x2), (3, .int x3), (4, .int x4), (5, .int x5)] [] := by
  induction fu with
  | zero => intro x2 x3 x4 x5 t hF; cases hF
  | succ fu ih => intro x2 x3 x4 x5 t hF; exact wbX10_cutNumber_6 hf (lX10_cutNumber_6  fu) ih x2 x3 x4 x5 t hF
set_option maxHeartbeats 4000000 in
set_option maxRecDepth 20000 in
theorem ctX10_cutNumber {E : zE} {f : Nat} (hf : 7 ≤ f) {x2 : Int32} {x3 : Int32} {t : zS} {ro : Int32 × zS} (hF : mX10_cutNumber  x2 x3 t = some ro) : zM E shC f yX10_cutNumber cX10_cutNumber 6 (some .int) [.ref (za E 50), .ref (za E 1), .int x2, .int x3] t ro := by
  refine zM_of (by decide) (Nat.le_of_ble_eq_true rfl) (fun C => ?_)
  show zJ E shC C cX10_cutNumber RX10 6 f (some .int) ro t 0 [(0, .ref (za E 50)), (1, .ref (za E 1)), (2, .int x2), (3, .int x3)] []
  unfold mX10_cutNumber at hF
  refine z_iload_n 2 dX10_cutNumber_0 rfl rfl ?_
  refine z_istore (lv' := [(4, .int x2), (0, .ref (za E 50)), (1, .ref (za E 1)), (2, .int x2), (3, .int x3)]) dX10_cutNumber_1 (by decide) rfl ?_
  refine z_iconst (v := 0) dX10_cutNumber_3 (by decide) ?_
  refine z_istore (lv' := [(5, .int 0), (4, .int x2), (0, .ref (za E 50)), (1, .ref (za E 1)), (2, .int x2), (3, .int x3)]) dX10_cutNumber_4 (by decide) rfl ?_
  refine z_sub [2, 3, 4, 5, 1, 0] rfl ?_
  exact wlX10_cutNumber_6 hf  zFU x2 x3 x2 0 _ hF
-- SessionHouse$Words.cutSign(LSessionHouse$Ints;II)I
theorem dX10_cutSign_0 : decode cX10_cutSign 0 = .ok (.aload_n 1, 1) := by decide +kernel
theorem dX10_cutSign_1 : decode cX10_cutSign 1 = .ok (.iload_n 2, 1) := by decide +kernel
theorem dX10_cutSign_2 : decode cX10_cutSign 2 = .ok (.invokevirtual 33, 3) := by decide +kernel
theorem dX10_cutSign_5 : decode cX10_cutSign 5 = .ok (.istore 4, 2) := by decide +kernel
theorem dX10_cutSign_7 : decode cX10_cutSign 7 = .ok (.iload 4, 2) := by decide +kernel
theorem dX10_cutSign_9 : decode cX10_cutSign 9 = .ok (.bipush 61, 2) := by decide +kernel
theorem dX10_cutSign_11 : decode cX10_cutSign 11 = .ok (.if_icmp .ne 35, 3) := by decide +kernel
theorem dX10_cutSign_14 : decode cX10_cutSign 14 = .ok (.iload_n 2, 1) := by decide +kernel
theorem dX10_cutSign_15 : decode cX10_cutSign 15 = .ok (.iconst 1, 1) := by decide +kernel
theorem dX10_cutSign_16 : decode cX10_cutSign 16 = .ok (.iadd, 1) := by decide +kernel
theorem dX10_cutSign_17 : decode cX10_cutSign 17 = .ok (.iload_n 3, 1) := by decide +kernel
theorem dX10_cutSign_18 : decode cX10_cutSign 18 = .ok (.if_icmp .ge 28, 3) := by decide +kernel
theorem dX10_cutSign_21 : decode cX10_cutSign 21 = .ok (.aload_n 1, 1) := by decide +kernel
theorem dX10_cutSign_22 : decode cX10_cutSign 22 = .ok (.iload_n 2, 1) := by decide +kernel
theorem dX10_cutSign_23 : decode cX10_cutSign 23 = .ok (.iconst 1, 1) := by decide +kernel
theorem dX10_cutSign_24 : decode cX10_cutSign 24 = .ok (.iadd, 1) := by decide +kernel
theorem dX10_cutSign_25 : decode cX10_cutSign 25 = .ok (.invokevirtual 33, 3) := by decide +kernel
theorem dX10_cutSign_28 : decode cX10_cutSign 28 = .ok (.bipush 61, 2) := by decide +kernel
theorem dX10_cutSign_30 : decode cX10_cutSign 30 = .ok (.if_icmp .ne 16, 3) := by decide +kernel
theorem dX10_cutSign_33 : decode cX10_cutSign 33 = .ok (.aload_n 0, 1) := by decide +kernel
theorem dX10_cutSign_34 : decode cX10_cutSign 34 = .ok (.sipush 256, 3) := by decide +kernel
theorem dX10_cutSign_37 : decode cX10_cutSign 37 = .ok (.iload_n 2, 1) := by decide +kernel
theorem dX10_cutSign_38 : decode cX10_cutSign 38 = .ok (.iconst 0, 1) := by decide +kernel
theorem dX10_cutSign_39 : decode cX10_cutSign 39 = .ok (.invokevirtual 54, 3) := by decide +kernel
theorem dX10_cutSign_42 : decode cX10_cutSign 42 = .ok (.iload_n 2, 1) := by decide +kernel
theorem dX10_cutSign_43 : decode cX10_cutSign 43 = .ok (.iconst 2, 1) := by decide +kernel
theorem dX10_cutSign_44 : decode cX10_cutSign 44 = .ok (.iadd, 1) := by decide +kernel
theorem dX10_cutSign_45 : decode cX10_cutSign 45 = .ok (.ireturn, 1) := by decide +kernel
theorem dX10_cutSign_46 : decode cX10_cutSign 46 = .ok (.aload_n 0, 1) := by decide +kernel
theorem dX10_cutSign_47 : decode cX10_cutSign 47 = .ok (.iload 4, 2) := by decide +kernel
theorem dX10_cutSign_49 : decode cX10_cutSign 49 = .ok (.ifCond .lt 19, 3) := by decide +kernel
theorem dX10_cutSign_52 : decode cX10_cutSign 52 = .ok (.ldc 90, 2) := by decide +kernel
theorem dX10_cutSign_54 : decode cX10_cutSign 54 = .ok (.iload 4, 2) := by decide +kernel
theorem dX10_cutSign_56 : decode cX10_cutSign 56 = .ok (.i2c, 1) := by decide +kernel
theorem dX10_cutSign_57 : decode cX10_cutSign 57 = .ok (.invokevirtual 92, 3) := by decide +kernel
theorem dX10_cutSign_60 : decode cX10_cutSign 60 = .ok (.ifCond .lt 8, 3) := by decide +kernel
theorem dX10_cutSign_63 : decode cX10_cutSign 63 = .ok (.iload 4, 2) := by decide +kernel
theorem dX10_cutSign_65 : decode cX10_cutSign 65 = .ok (.goto 5, 3) := by decide +kernel
theorem dX10_cutSign_68 : decode cX10_cutSign 68 = .ok (.bipush 20, 2) := by decide +kernel
theorem dX10_cutSign_70 : decode cX10_cutSign 70 = .ok (.iload_n 2, 1) := by decide +kernel
theorem dX10_cutSign_71 : decode cX10_cutSign 71 = .ok (.iconst 0, 1) := by decide +kernel
theorem dX10_cutSign_72 : decode cX10_cutSign 72 = .ok (.invokevirtual 54, 3) := by decide +kernel
theorem dX10_cutSign_75 : decode cX10_cutSign 75 = .ok (.iload_n 2, 1) := by decide +kernel
theorem dX10_cutSign_76 : decode cX10_cutSign 76 = .ok (.iconst 1, 1) := by decide +kernel
theorem dX10_cutSign_77 : decode cX10_cutSign 77 = .ok (.iadd, 1) := by decide +kernel
theorem dX10_cutSign_78 : decode cX10_cutSign 78 = .ok (.ireturn, 1) := by decide +kernel
def bX10_cutSign_70 (x2 : Int32) (y0 : Int32) (t : zS) : zR := zbd (mX10_add y0 x2 0 t) fun r189 t190 => some ((x2 + 1), t190)
def bX10_cutSign_68 (x2 : Int32) (t : zS) : zR := bX10_cutSign_70  x2 20 t
def bX10_cutSign_46 (x2 : Int32) (x4 : Int32) (t : zS) : zR := if x4 < 0 then bX10_cutSign_68  x2 t else if (zsix 1 (Int32.toUInt32 x4 % 65536).toInt32) < 0 then bX10_cutSign_68  x2 t else bX10_cutSign_70  x2 x4 t
def mX10_cutSign (x2 : Int32) (x3 : Int32) (t : zS) : zR := zbd (mX5_get 1 3000 x2 t) fun r193 t194 => if r193 = 61 then if x3 ≤ (x2 + 1) then bX10_cutSign_46  x2 r193 t194 else zbd (mX5_get 1 3000 (x2 + 1) t194) fun r196 t197 => if r196 = 61 then zbd (mX10_add 256 x2 0 t197) fun r199 t200 => some ((x2 + 2), t200) else bX10_cutSign_46  x2 r193 t197 else bX10_cutSign_46  x2 r193 t194
set_option maxHeartbeats 4000000 in
set_option maxRecDepth 20000 in
theorem wbX10_cutSign_70 {E : zE} {C : zC} {f : Nat} {ro : Int32 × zS} (hf : 7 ≤ f) (x2 : Int32) (y0 : Int32) (t : zS) (hF : bX10_cutSign_70  x2 y0 t = some ro) : zJ E shC C cX10_cutSign RX10 5 f (some .int) ro t 70 [(2, .int x2)] [.int y0, .ref (za E 50)] := by
  unfold bX10_cutSign_70 at hF
  refine z_iload_n 0 dX10_cutSign_70 rfl rfl ?_
  refine z_iconst (v := 0) dX10_cutSign_71 (by decide) ?_
  obtain ⟨r189, t190, hc191, hF⟩ := zbd_at hF
  refine z_callVv (ctX10_add (E := E) (f := f - 1) (by omega) hc191) yy_X10_add yv_X10_add ob_C_50 lk_RX10_54 (by omega) rfl rfl (Nat.le_of_ble_eq_true rfl) dX10_cutSign_72 ?_
  refine z_iload_n 0 dX10_cutSign_75 rfl rfl ?_
  refine z_iconst (v := 1) dX10_cutSign_76 (by decide) ?_
  refine z_iadd dX10_cutSign_77 ?_
  exact z_iret hF dX10_cutSign_78
set_option maxHeartbeats 4000000 in
set_option maxRecDepth 20000 in
theorem wbX10_cutSign_68 {E : zE} {C : zC} {f : Nat} {ro : Int32 × zS} (hf : 7 ≤ f) (x2 : Int32) (t : zS) (hF : bX10_cutSign_68  x2 t = some ro) : zJ E shC C cX10_cutSign RX10 5 f (some .int) ro t 68 [(2, .int x2)] [.ref (za E 50)] := by
  unfold bX10_cutSign_68 at hF
  refine z_bipush (v := 20) dX10_cutSign_68 (by decide) ?_
  exact wbX10_cutSign_70 hf  x2 20 _ hF
set_option maxHeartbeats 4000000 in
set_option maxRecDepth 20000 in
theorem wbX10_cutSign_46 {E : zE} {C : zC} {f : Nat} {ro : Int32 × zS} (hf : 7 ≤ f) (x2 : Int32) (x4 : Int32) (t : zS) (hF : bX10_cutSign_46  x2 x4 t = some ro) : zJ E shC C cX10_cutSign RX10 5 f (some .int) ro t 46 [(0, .ref (za E 50)), (2, .int x2), (4, .int x4)] [] := by
  unfold bX10_cutSign_46 at hF
  refine z_aload_n 0 dX10_cutSign_46 rfl rfl ?_
  refine z_iload 2 dX10_cutSign_47 rfl ?_
  refine z_if_lt (tgt := 68) dX10_cutSign_49 (by decide) (fun hc => ?_) (fun hc => ?_)
  · have hF := zif_t hc hF
    refine z_sub [1] rfl ?_
    exact wbX10_cutSign_68 hf  x2 _ hF
  · have hF := zif_f hc hF
    refine z_ldcS1 rfl dX10_cutSign_52 ?_
    refine z_iload 2 dX10_cutSign_54 rfl ?_
    refine z_i2c dX10_cutSign_56 rfl ?_
    refine z_callVs (w := 1) (by decide) rfl (ctJ0_indexOf (f := f - 1) (by decide) (by omega)) yy_J0_indexOf_0f7a4 yv_J0_indexOf_0f7a4 lk_X10_92 (by omega) rfl rfl (Nat.le_of_ble_eq_true rfl) dX10_cutSign_57 ?_
    refine z_if_lt (tgt := 68) dX10_cutSign_60 (by decide) (fun hc => ?_) (fun hc => ?_)
    · have hF := zif_t hc hF
      refine z_sub [1] rfl ?_
      exact wbX10_cutSign_68 hf  x2 _ hF
    · have hF := zif_f hc hF
      refine z_iload 2 dX10_cutSign_63 rfl ?_
      refine z_goto (tgt := 70) dX10_cutSign_65 (by decide) ?_
      refine z_sub [1] rfl ?_
      exact wbX10_cutSign_70 hf  x2 x4 _ hF
set_option maxHeartbeats 4000000 in
set_option maxRecDepth 20000 in
theorem ctX10_cutSign {E : zE} {f : Nat} (hf : 7 ≤ f) {x2 : Int32} {x3 : Int32} {t : zS} {ro : Int32 × zS} (hF : mX10_cutSign  x2 x3 t = some ro) : zM E shC f yX10_cutSign cX10_cutSign 5 (some .int) [.ref (za E 50), .ref (za E 1), .int x2, .int x3] t ro := by
  refine zM_of (by decide) (Nat.le_of_ble_eq_true rfl) (fun C => ?_)
  show zJ E shC C cX10_cutSign RX10 5 f (some .int) ro t 0 [(0, .ref (za E 50)), (1, .ref (za E 1)), (2, .int x2), (3, .int x3)] []
  unfold mX10_cutSign at hF
  refine z_aload_n 1 dX10_cutSign_0 rfl rfl ?_
  refine z_iload_n 2 dX10_cutSign_1 rfl rfl ?_
  obtain ⟨r193, t194, hc195, hF⟩ := zbd_at hF
  refine z_callVi (ctX5_get (E := E) (sh := shC) (f := f - 1) (by omega) (k := 1) (n := 3000) rfl rfl hc195) yy_X5_get yv_X5_get ob_C_1 lk_RX10_33 (by omega) rfl rfl (Nat.le_of_ble_eq_true rfl) dX10_cutSign_2 ?_
  refine z_istore (lv' := [(4, .int r193), (0, .ref (za E 50)), (1, .ref (za E 1)), (2, .int x2), (3, .int x3)]) dX10_cutSign_5 (by decide) rfl ?_
  refine z_iload 0 dX10_cutSign_7 rfl ?_
  refine z_bipush (v := 61) dX10_cutSign_9 (by decide) ?_
  refine z_icmp_ne (tgt := 46) dX10_cutSign_11 (by decide) (fun hc => ?_) (fun hc => ?_)
  · have hF := zif_f hc hF
    refine z_sub [1, 3, 0] rfl ?_
    exact wbX10_cutSign_46 hf  x2 r193 _ hF
  · have hF := zif_t hc hF
    refine z_iload_n 3 dX10_cutSign_14 rfl rfl ?_
    refine z_iconst (v := 1) dX10_cutSign_15 (by decide) ?_
    refine z_iadd dX10_cutSign_16 ?_
    refine z_iload_n 4 dX10_cutSign_17 rfl rfl ?_
    refine z_icmp_ge (tgt := 46) dX10_cutSign_18 (by decide) (fun hc => ?_) (fun hc => ?_)
    · have hF := zif_t hc hF
      refine z_sub [1, 3, 0] rfl ?_
      exact wbX10_cutSign_46 hf  x2 r193 _ hF
    · have hF := zif_f hc hF
      refine z_aload_n 2 dX10_cutSign_21 rfl rfl ?_
      refine z_iload_n 3 dX10_cutSign_22 rfl rfl ?_
      refine z_iconst (v := 1) dX10_cutSign_23 (by decide) ?_
      refine z_iadd dX10_cutSign_24 ?_
      obtain ⟨r196, t197, hc198, hF⟩ := zbd_at hF
      refine z_callVi (ctX5_get (E := E) (sh := shC) (f := f - 1) (by omega) (k := 1) (n := 3000) rfl rfl hc198) yy_X5_get yv_X5_get ob_C_1 lk_RX10_33 (by omega) rfl rfl (Nat.le_of_ble_eq_true rfl) dX10_cutSign_25 ?_
      refine z_bipush (v := 61) dX10_cutSign_28 (by decide) ?_
      refine z_icmp_ne (tgt := 46) dX10_cutSign_30 (by decide) (fun hc => ?_) (fun hc => ?_)
      · have hF := zif_f hc hF
        refine z_sub [1, 3, 0] rfl ?_
        exact wbX10_cutSign_46 hf  x2 r193 _ hF
      · have hF := zif_t hc hF
        refine z_aload_n 1 dX10_cutSign_33 rfl rfl ?_
        refine z_sipush (v := 256) dX10_cutSign_34 (by decide) ?_
        refine z_iload_n 3 dX10_cutSign_37 rfl rfl ?_
        refine z_iconst (v := 0) dX10_cutSign_38 (by decide) ?_
        obtain ⟨r199, t200, hc201, hF⟩ := zbd_at hF
        refine z_callVv (ctX10_add (E := E) (f := f - 1) (by omega) hc201) yy_X10_add yv_X10_add ob_C_50 lk_RX10_54 (by omega) rfl rfl (Nat.le_of_ble_eq_true rfl) dX10_cutSign_39 ?_
        refine z_iload_n 3 dX10_cutSign_42 rfl rfl ?_
        refine z_iconst (v := 2) dX10_cutSign_43 (by decide) ?_
        refine z_iadd dX10_cutSign_44 ?_
        exact z_iret hF dX10_cutSign_45
