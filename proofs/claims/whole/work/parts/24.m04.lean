-- SessionHouse$Forms.settle()V
theorem dX2_settle_0 : decode cX2_settle 0 = .ok (.iconst 0, 1) := by decide +kernel
theorem dX2_settle_1 : decode cX2_settle 1 = .ok (.istore_n 1, 1) := by decide +kernel
theorem dX2_settle_2 : decode cX2_settle 2 = .ok (.iload_n 1, 1) := by decide +kernel
theorem dX2_settle_3 : decode cX2_settle 3 = .ok (.aload_n 0, 1) := by decide +kernel
theorem dX2_settle_4 : decode cX2_settle 4 = .ok (.getfield 60, 3) := by decide +kernel
theorem dX2_settle_7 : decode cX2_settle 7 = .ok (.if_icmp .ge 95, 3) := by decide +kernel
theorem dX2_settle_10 : decode cX2_settle 10 = .ok (.aload_n 0, 1) := by decide +kernel
theorem dX2_settle_11 : decode cX2_settle 11 = .ok (.getfield 35, 3) := by decide +kernel
theorem dX2_settle_14 : decode cX2_settle 14 = .ok (.iload_n 1, 1) := by decide +kernel
theorem dX2_settle_15 : decode cX2_settle 15 = .ok (.invokevirtual 74, 3) := by decide +kernel
theorem dX2_settle_18 : decode cX2_settle 18 = .ok (.istore_n 2, 1) := by decide +kernel
theorem dX2_settle_19 : decode cX2_settle 19 = .ok (.iconst 0, 1) := by decide +kernel
theorem dX2_settle_20 : decode cX2_settle 20 = .ok (.istore_n 3, 1) := by decide +kernel
theorem dX2_settle_21 : decode cX2_settle 21 = .ok (.iconst 0, 1) := by decide +kernel
theorem dX2_settle_22 : decode cX2_settle 22 = .ok (.istore 4, 2) := by decide +kernel
theorem dX2_settle_24 : decode cX2_settle 24 = .ok (.iload 4, 2) := by decide +kernel
theorem dX2_settle_26 : decode cX2_settle 26 = .ok (.aload_n 0, 1) := by decide +kernel
theorem dX2_settle_27 : decode cX2_settle 27 = .ok (.getfield 60, 3) := by decide +kernel
theorem dX2_settle_30 : decode cX2_settle 30 = .ok (.if_icmp .ge 53, 3) := by decide +kernel
theorem dX2_settle_33 : decode cX2_settle 33 = .ok (.aload_n 0, 1) := by decide +kernel
theorem dX2_settle_34 : decode cX2_settle 34 = .ok (.iload_n 2, 1) := by decide +kernel
theorem dX2_settle_35 : decode cX2_settle 35 = .ok (.invokevirtual 78, 3) := by decide +kernel
theorem dX2_settle_38 : decode cX2_settle 38 = .ok (.ifCond .eq 45, 3) := by decide +kernel
theorem dX2_settle_41 : decode cX2_settle 41 = .ok (.iload_n 3, 1) := by decide +kernel
theorem dX2_settle_42 : decode cX2_settle 42 = .ok (.aload_n 0, 1) := by decide +kernel
theorem dX2_settle_43 : decode cX2_settle 43 = .ok (.getfield 14, 3) := by decide +kernel
theorem dX2_settle_46 : decode cX2_settle 46 = .ok (.iload_n 2, 1) := by decide +kernel
theorem dX2_settle_47 : decode cX2_settle 47 = .ok (.invokevirtual 74, 3) := by decide +kernel
theorem dX2_settle_50 : decode cX2_settle 50 = .ok (.iconst 1, 1) := by decide +kernel
theorem dX2_settle_51 : decode cX2_settle 51 = .ok (.iand, 1) := by decide +kernel
theorem dX2_settle_52 : decode cX2_settle 52 = .ok (.ixor, 1) := by decide +kernel
theorem dX2_settle_53 : decode cX2_settle 53 = .ok (.istore_n 3, 1) := by decide +kernel
theorem dX2_settle_54 : decode cX2_settle 54 = .ok (.aload_n 0, 1) := by decide +kernel
theorem dX2_settle_55 : decode cX2_settle 55 = .ok (.getfield 35, 3) := by decide +kernel
theorem dX2_settle_58 : decode cX2_settle 58 = .ok (.aload_n 0, 1) := by decide +kernel
theorem dX2_settle_59 : decode cX2_settle 59 = .ok (.getfield 41, 3) := by decide +kernel
theorem dX2_settle_62 : decode cX2_settle 62 = .ok (.aload_n 0, 1) := by decide +kernel
theorem dX2_settle_63 : decode cX2_settle 63 = .ok (.getfield 20, 3) := by decide +kernel
theorem dX2_settle_66 : decode cX2_settle 66 = .ok (.iload_n 2, 1) := by decide +kernel
theorem dX2_settle_67 : decode cX2_settle 67 = .ok (.invokevirtual 74, 3) := by decide +kernel
theorem dX2_settle_70 : decode cX2_settle 70 = .ok (.invokevirtual 74, 3) := by decide +kernel
theorem dX2_settle_73 : decode cX2_settle 73 = .ok (.invokevirtual 74, 3) := by decide +kernel
theorem dX2_settle_76 : decode cX2_settle 76 = .ok (.istore_n 2, 1) := by decide +kernel
theorem dX2_settle_77 : decode cX2_settle 77 = .ok (.iinc 4 1, 3) := by decide +kernel
theorem dX2_settle_80 : decode cX2_settle 80 = .ok (.goto (-56), 3) := by decide +kernel
theorem dX2_settle_83 : decode cX2_settle 83 = .ok (.aload_n 0, 1) := by decide +kernel
theorem dX2_settle_84 : decode cX2_settle 84 = .ok (.getfield 44, 3) := by decide +kernel
theorem dX2_settle_87 : decode cX2_settle 87 = .ok (.iload_n 1, 1) := by decide +kernel
theorem dX2_settle_88 : decode cX2_settle 88 = .ok (.iconst 2, 1) := by decide +kernel
theorem dX2_settle_89 : decode cX2_settle 89 = .ok (.iload_n 2, 1) := by decide +kernel
theorem dX2_settle_90 : decode cX2_settle 90 = .ok (.imul, 1) := by decide +kernel
theorem dX2_settle_91 : decode cX2_settle 91 = .ok (.iload_n 3, 1) := by decide +kernel
theorem dX2_settle_92 : decode cX2_settle 92 = .ok (.iadd, 1) := by decide +kernel
theorem dX2_settle_93 : decode cX2_settle 93 = .ok (.invokevirtual 70, 3) := by decide +kernel
theorem dX2_settle_96 : decode cX2_settle 96 = .ok (.iinc 1 1, 3) := by decide +kernel
theorem dX2_settle_99 : decode cX2_settle 99 = .ok (.goto (-97), 3) := by decide +kernel
theorem dX2_settle_102 : decode cX2_settle 102 = .ok (.return_, 1) := by decide +kernel
def bX2_settle_83 (k2 : Int32 → zS → zR) (x1 : Int32) (x2 : Int32) (x3 : Int32) (t : zS) : zR := zbd (mX5_set 26 400 x1 ((2 * x2) + x3) t) fun r981 t982 => zlet (x1 + 1) fun v984 => k2 v984 t982
def bX2_settle_24 (k2 : Int32 → zS → zR) (k24 : Int32 → Int32 → Int32 → Int32 → zS → zR) (x1 : Int32) (x2 : Int32) (x3 : Int32) (x4 : Int32) (t : zS) : zR := if (t 3 15) ≤ x4 then bX2_settle_83 k2 x1 x2 x3 t else zbd (mX2_isName x2 t) fun r985 t986 => if r985 = 0 then bX2_settle_83 k2 x1 x2 x3 t986 else zbd (mX5_get 8 3000 x2 t986) fun r988 t989 => zlet (x3 ^^^ (r988 &&& 1)) fun v991 => zbd (mX5_get 10 3000 x2 t989) fun r992 t993 => zbd (mX5_get 24 1600 r992 t993) fun r995 t996 => zbd (mX5_get 20 400 r995 t996) fun r998 t999 => zlet (x4 + 1) fun v1001 => k24 x1 r998 v991 v1001 t999
def lX2_settle_24 (k2 : Int32 → zS → zR) : Nat → Int32 → Int32 → Int32 → Int32 → zS → zR
  | 0, _, _, _, _, _ => none
  | fu + 1, x1, x2, x3, x4, t => bX2_settle_24 k2 (lX2_settle_24 k2 fu) x1 x2 x3 x4 t
def bX2_settle_2 (k2 : Int32 → zS → zR) (x1 : Int32) (t : zS) : zR := if (t 3 15) ≤ x1 then some (0, t) else zbd (mX5_get 20 400 x1 t) fun r1002 t1003 => lX2_settle_24 k2 zFU x1 r1002 0 0 t1003
def lX2_settle_2 : Nat → Int32 → zS → zR
  | 0, _, _ => none
  | fu + 1, x1, t => bX2_settle_2 (lX2_settle_2  fu) x1 t
def mX2_settle (t : zS) : zR := lX2_settle_2  zFU 0 t
set_option maxHeartbeats 4000000 in
set_option maxRecDepth 20000 in
theorem wbX2_settle_83 {E : zE} {C : zC} {f : Nat} {ro : Int32 × zS} (hf : 3 ≤ f) (k2 : Int32 → zS → zR) (hk2 : ∀ (x1 : Int32) (t : zS), k2 x1 t = some ro → zJ E shC C cX2_settle RX2 5 f none ro t 2 [(0, .ref (za E 3)), (1, .int x1)] []) (x1 : Int32) (x2 : Int32) (x3 : Int32) (t : zS) (hF : bX2_settle_83 k2 x1 x2 x3 t = some ro) : zJ E shC C cX2_settle RX2 5 f none ro t 83 [(0, .ref (za E 3)), (1, .int x1), (2, .int x2), (3, .int x3)] [] := by
  unfold bX2_settle_83 at hF
  refine z_aload_n 0 dX2_settle_83 rfl rfl ?_
  refine z_getr fr_RX2_44 dX2_settle_84 ?_
  refine z_iload_n 1 dX2_settle_87 rfl rfl ?_
  refine z_iconst (v := 2) dX2_settle_88 (by decide) ?_
  refine z_iload_n 2 dX2_settle_89 rfl rfl ?_
  refine z_imul dX2_settle_90 ?_
  refine z_iload_n 3 dX2_settle_91 rfl rfl ?_
  refine z_iadd dX2_settle_92 ?_
  obtain ⟨r981, t982, hc983, hF⟩ := zbd_at hF
  refine z_callVv (ctX5_set (E := E) (sh := shC) (f := f - 1) (by omega) (k := 26) (n := 400) rfl rfl hc983) yy_X5_set yv_X5_set ob_C_26 lk_RX2_70 (by omega) rfl rfl (Nat.le_of_ble_eq_true rfl) dX2_settle_93 ?_
  obtain ⟨v984, ev984⟩ : ∃ y : Int32, y = (x1 + 1) := ⟨_, rfl⟩
  have hF := zlet_at ev984 hF
  refine z_iinc (v := v984) (lv' := [(1, .int v984), (0, .ref (za E 3)), (2, .int x2), (3, .int x3)]) (k := 1) dX2_settle_96 rfl (by rw [ev984]; rfl) (by decide) rfl ?_
  refine z_goto (tgt := 2) dX2_settle_99 (by decide) ?_
  refine z_sub [1, 0] rfl ?_
  exact hk2 v984 _ hF
set_option maxHeartbeats 4000000 in
set_option maxRecDepth 20000 in
theorem wbX2_settle_24 {E : zE} {C : zC} {f : Nat} {ro : Int32 × zS} (hf : 3 ≤ f) (k2 : Int32 → zS → zR) (hk2 : ∀ (x1 : Int32) (t : zS), k2 x1 t = some ro → zJ E shC C cX2_settle RX2 5 f none ro t 2 [(0, .ref (za E 3)), (1, .int x1)] []) (k24 : Int32 → Int32 → Int32 → Int32 → zS → zR) (hk24 : ∀ (x1 x2 x3 x4 : Int32) (t : zS), k24 x1 x2 x3 x4 t = some ro → zJ E shC C cX2_settle RX2 5 f none ro t 24 [(0, .ref (za E 3)), (1, .int x1), (2, .int x2), (3, .int x3), (4, .int x4)] []) (x1 : Int32) (x2 : Int32) (x3 : Int32) (x4 : Int32) (t : zS) (hF : bX2_settle_24 k2 k24 x1 x2 x3 x4 t = some ro) : zJ E shC C cX2_settle RX2 5 f none ro t 24 [(0, .ref (za E 3)), (1, .int x1), (2, .int x2), (3, .int x3), (4, .int x4)] [] := by
  unfold bX2_settle_24 at hF
  refine z_iload 4 dX2_settle_24 rfl ?_
  refine z_aload_n 0 dX2_settle_26 rfl rfl ?_
  refine z_geti fi_RX2_60 dX2_settle_27 ?_
  refine z_icmp_ge (tgt := 83) dX2_settle_30 (by decide) (fun hc => ?_) (fun hc => ?_)
  · have hF := zif_t hc hF
    refine z_sub [0, 1, 2, 3] rfl ?_
    exact wbX2_settle_83 hf k2 hk2 x1 x2 x3 _ hF
  · have hF := zif_f hc hF
    refine z_aload_n 0 dX2_settle_33 rfl rfl ?_
    refine z_iload_n 2 dX2_settle_34 rfl rfl ?_
    obtain ⟨r985, t986, hc987, hF⟩ := zbd_at hF
    refine z_callVi (ctX2_isName (E := E) (f := f - 1) (by omega) hc987) yy_X2_isName yv_X2_isName ob_C_3 lk_RX2_78 (by omega) rfl rfl (Nat.le_of_ble_eq_true rfl) dX2_settle_35 ?_
    refine z_if_eq (tgt := 83) dX2_settle_38 (by decide) (fun hc => ?_) (fun hc => ?_)
    · have hF := zif_t hc hF
      refine z_sub [0, 1, 2, 3] rfl ?_
      exact wbX2_settle_83 hf k2 hk2 x1 x2 x3 _ hF
    · have hF := zif_f hc hF
      refine z_iload_n 3 dX2_settle_41 rfl rfl ?_
      refine z_aload_n 0 dX2_settle_42 rfl rfl ?_
      refine z_getr fr_RX2_14 dX2_settle_43 ?_
      refine z_iload_n 2 dX2_settle_46 rfl rfl ?_
      obtain ⟨r988, t989, hc990, hF⟩ := zbd_at hF
      refine z_callVi (ctX5_get (E := E) (sh := shC) (f := f - 1) (by omega) (k := 8) (n := 3000) rfl rfl hc990) yy_X5_get yv_X5_get ob_C_8 lk_RX2_74 (by omega) rfl rfl (Nat.le_of_ble_eq_true rfl) dX2_settle_47 ?_
      refine z_iconst (v := 1) dX2_settle_50 (by decide) ?_
      refine z_iand dX2_settle_51 ?_
      refine z_ixor dX2_settle_52 ?_
      refine z_topi (fun v991 ev991 => ?_)
      have hF := zlet_at ev991 hF
      refine z_istore_n (lv' := [(3, .int v991), (0, .ref (za E 3)), (1, .int x1), (2, .int x2), (4, .int x4)]) dX2_settle_53 rfl (by decide) rfl ?_
      refine z_aload_n 1 dX2_settle_54 rfl rfl ?_
      refine z_getr fr_RX2_35 dX2_settle_55 ?_
      refine z_aload_n 1 dX2_settle_58 rfl rfl ?_
      refine z_getr fr_RX2_41 dX2_settle_59 ?_
      refine z_aload_n 1 dX2_settle_62 rfl rfl ?_
      refine z_getr fr_RX2_20 dX2_settle_63 ?_
      refine z_iload_n 3 dX2_settle_66 rfl rfl ?_
      obtain ⟨r992, t993, hc994, hF⟩ := zbd_at hF
      refine z_callVi (ctX5_get (E := E) (sh := shC) (f := f - 1) (by omega) (k := 10) (n := 3000) rfl rfl hc994) yy_X5_get yv_X5_get ob_C_10 lk_RX2_74 (by omega) rfl rfl (Nat.le_of_ble_eq_true rfl) dX2_settle_67 ?_
      obtain ⟨r995, t996, hc997, hF⟩ := zbd_at hF
      refine z_callVi (ctX5_get (E := E) (sh := shC) (f := f - 1) (by omega) (k := 24) (n := 1600) rfl rfl hc997) yy_X5_get yv_X5_get ob_C_24 lk_RX2_74 (by omega) rfl rfl (Nat.le_of_ble_eq_true rfl) dX2_settle_70 ?_
      obtain ⟨r998, t999, hc1000, hF⟩ := zbd_at hF
      refine z_callVi (ctX5_get (E := E) (sh := shC) (f := f - 1) (by omega) (k := 20) (n := 400) rfl rfl hc1000) yy_X5_get yv_X5_get ob_C_20 lk_RX2_74 (by omega) rfl rfl (Nat.le_of_ble_eq_true rfl) dX2_settle_73 ?_
      refine z_istore_n (lv' := [(2, .int r998), (3, .int v991), (0, .ref (za E 3)), (1, .int x1), (4, .int x4)]) dX2_settle_76 rfl (by decide) rfl ?_
      obtain ⟨v1001, ev1001⟩ : ∃ y : Int32, y = (x4 + 1) := ⟨_, rfl⟩
      have hF := zlet_at ev1001 hF
      refine z_iinc (v := v1001) (lv' := [(4, .int v1001), (2, .int r998), (3, .int v991), (0, .ref (za E 3)), (1, .int x1)]) (k := 4) dX2_settle_77 rfl (by rw [ev1001]; rfl) (by decide) rfl ?_
      refine z_goto (tgt := 24) dX2_settle_80 (by decide) ?_
      refine z_sub [3, 4, 1, 2, 0] rfl ?_
      exact hk24 x1 r998 v991 v1001 _ hF
set_option maxHeartbeats 4000000 in
set_option maxRecDepth 20000 in
theorem wlX2_settle_24 {E : zE} {C : zC} {f : Nat} {ro : Int32 × zS} (hf : 3 ≤ f) (k2 : Int32 → zS → zR) (hk2 : ∀ (x1 : Int32) (t : zS), k2 x1 t = some ro → zJ E shC C cX2_settle RX2 5 f none ro t 2 [(0, .ref (za E 3)), (1, .int x1)] []) (fu : Nat) : ∀ (x1 x2 x3 x4 : Int32) (t : zS), lX2_settle_24 k2 fu x1 x2 x3 x4 t = some ro → zJ E shC C cX2_settle RX2 5 f none ro t 24 [(0, .ref (za E 3)), (1, .int x1), (2, .int x2), (3, .int x3), (4, .int x4)] [] := by
  induction fu with
  | zero => intro x1 x2 x3 x4 t hF; cases hF
  | succ fu ih => intro x1 x2 x3 x4 t hF; exact wbX2_settle_24 hf k2 hk2 (lX2_settle_24 k2 fu) ih x1 x2 x3 x4 t hF
set_option maxHeartbeats 4000000 in
set_option maxRecDepth 20000 in
theorem wbX2_settle_2 {E : zE} {C : zC} {f : Nat} {ro : Int32 × zS} (hf : 3 ≤ f) (k2 : Int32 → zS → zR) (hk2 : ∀ (x1 : Int32) (t : zS), k2 x1 t = some ro → zJ E shC C cX2_settle RX2 5 f none ro t 2 [(0, .ref (za E 3)), (1, .int x1)] []) (x1 : Int32) (t : zS) (hF : bX2_settle_2 k2 x1 t = some ro) : zJ E shC C cX2_settle RX2 5 f none ro t 2 [(0, .ref (za E 3)), (1, .int x1)] [] := by
  unfold bX2_settle_2 at hF
  refine z_iload_n 1 dX2_settle_2 rfl rfl ?_
  refine z_aload_n 0 dX2_settle_3 rfl rfl ?_
  refine z_geti fi_RX2_60 dX2_settle_4 ?_
  refine z_icmp_ge (tgt := 102) dX2_settle_7 (by decide) (fun hc => ?_) (fun hc => ?_)
  · have hF := zif_t hc hF
    exact z_vret hF dX2_settle_102
  · have hF := zif_f hc hF
    refine z_aload_n 0 dX2_settle_10 rfl rfl ?_
    refine z_getr fr_RX2_35 dX2_settle_11 ?_
    refine z_iload_n 1 dX2_settle_14 rfl rfl ?_
    obtain ⟨r1002, t1003, hc1004, hF⟩ := zbd_at hF
    refine z_callVi (ctX5_get (E := E) (sh := shC) (f := f - 1) (by omega) (k := 20) (n := 400) rfl rfl hc1004) yy_X5_get yv_X5_get ob_C_20 lk_RX2_74 (by omega) rfl rfl (Nat.le_of_ble_eq_true rfl) dX2_settle_15 ?_
    refine z_istore_n (lv' := [(2, .int r1002), (0, .ref (za E 3)), (1, .int x1)]) dX2_settle_18 rfl (by decide) rfl ?_
    refine z_iconst (v := 0) dX2_settle_19 (by decide) ?_
    refine z_istore_n (lv' := [(3, .int 0), (2, .int r1002), (0, .ref (za E 3)), (1, .int x1)]) dX2_settle_20 rfl (by decide) rfl ?_
    refine z_iconst (v := 0) dX2_settle_21 (by decide) ?_
    refine z_istore (lv' := [(4, .int 0), (3, .int 0), (2, .int r1002), (0, .ref (za E 3)), (1, .int x1)]) dX2_settle_22 (by decide) rfl ?_
    refine z_sub [3, 4, 2, 1, 0] rfl ?_
    exact wlX2_settle_24 hf k2 hk2 zFU x1 r1002 0 0 _ hF
set_option maxHeartbeats 4000000 in
set_option maxRecDepth 20000 in
theorem wlX2_settle_2 {E : zE} {C : zC} {f : Nat} {ro : Int32 × zS} (hf : 3 ≤ f) (fu : Nat) : ∀ (x1 : Int32) (t : zS), lX2_settle_2  fu x1 t = some ro → zJ E shC C cX2_settle RX2 5 f none ro t 2 [(0, .ref (za E 3)), (1, .int x1)] [] := by
  induction fu with
  | zero => intro x1 t hF; cases hF
  | succ fu ih => intro x1 t hF; exact wbX2_settle_2 hf (lX2_settle_2  fu) ih x1 t hF
set_option maxHeartbeats 4000000 in
set_option maxRecDepth 20000 in
theorem ctX2_settle {E : zE} {f : Nat} (hf : 3 ≤ f) {t : zS} {ro : Int32 × zS} (hF : mX2_settle   t = some ro) : zM E shC f yX2_settle cX2_settle 5 none [.ref (za E 3)] t ro := by
  refine zM_of (by decide) (Nat.le_of_ble_eq_true rfl) (fun C => ?_)
  show zJ E shC C cX2_settle RX2 5 f none ro t 0 [(0, .ref (za E 3))] []
  unfold mX2_settle at hF
  refine z_iconst (v := 0) dX2_settle_0 (by decide) ?_
  refine z_istore_n (lv' := [(1, .int 0), (0, .ref (za E 3))]) dX2_settle_1 rfl (by decide) rfl ?_
  refine z_sub [1, 0] rfl ?_
  exact wlX2_settle_2 hf  zFU 0 _ hF
-- SessionHouse$Statements.settle()V
theorem dX9_settle_0 : decode cX9_settle 0 = .ok (.iconst 0, 1) := by decide +kernel
theorem dX9_settle_1 : decode cX9_settle 1 = .ok (.istore_n 1, 1) := by decide +kernel
theorem dX9_settle_2 : decode cX9_settle 2 = .ok (.iload_n 1, 1) := by decide +kernel
theorem dX9_settle_3 : decode cX9_settle 3 = .ok (.aload_n 0, 1) := by decide +kernel
theorem dX9_settle_4 : decode cX9_settle 4 = .ok (.getfield 62, 3) := by decide +kernel
theorem dX9_settle_7 : decode cX9_settle 7 = .ok (.if_icmp .ge 101, 3) := by decide +kernel
theorem dX9_settle_10 : decode cX9_settle 10 = .ok (.aload_n 0, 1) := by decide +kernel
theorem dX9_settle_11 : decode cX9_settle 11 = .ok (.getfield 38, 3) := by decide +kernel
theorem dX9_settle_14 : decode cX9_settle 14 = .ok (.iload_n 1, 1) := by decide +kernel
theorem dX9_settle_15 : decode cX9_settle 15 = .ok (.invokevirtual 73, 3) := by decide +kernel
theorem dX9_settle_18 : decode cX9_settle 18 = .ok (.istore_n 2, 1) := by decide +kernel
theorem dX9_settle_19 : decode cX9_settle 19 = .ok (.aload_n 0, 1) := by decide +kernel
theorem dX9_settle_20 : decode cX9_settle 20 = .ok (.getfield 35, 3) := by decide +kernel
theorem dX9_settle_23 : decode cX9_settle 23 = .ok (.iload_n 1, 1) := by decide +kernel
theorem dX9_settle_24 : decode cX9_settle 24 = .ok (.invokevirtual 73, 3) := by decide +kernel
theorem dX9_settle_27 : decode cX9_settle 27 = .ok (.ifCond .lt 22, 3) := by decide +kernel
theorem dX9_settle_30 : decode cX9_settle 30 = .ok (.aload_n 0, 1) := by decide +kernel
theorem dX9_settle_31 : decode cX9_settle 31 = .ok (.getfield 41, 3) := by decide +kernel
theorem dX9_settle_34 : decode cX9_settle 34 = .ok (.iload_n 1, 1) := by decide +kernel
theorem dX9_settle_35 : decode cX9_settle 35 = .ok (.aload_n 0, 1) := by decide +kernel
theorem dX9_settle_36 : decode cX9_settle 36 = .ok (.getfield 35, 3) := by decide +kernel
theorem dX9_settle_39 : decode cX9_settle 39 = .ok (.iload_n 1, 1) := by decide +kernel
theorem dX9_settle_40 : decode cX9_settle 40 = .ok (.invokevirtual 73, 3) := by decide +kernel
theorem dX9_settle_43 : decode cX9_settle 43 = .ok (.invokevirtual 69, 3) := by decide +kernel
theorem dX9_settle_46 : decode cX9_settle 46 = .ok (.goto 56, 3) := by decide +kernel
theorem dX9_settle_49 : decode cX9_settle 49 = .ok (.iload_n 2, 1) := by decide +kernel
theorem dX9_settle_50 : decode cX9_settle 50 = .ok (.ifCond .lt 28, 3) := by decide +kernel
theorem dX9_settle_53 : decode cX9_settle 53 = .ok (.aload_n 0, 1) := by decide +kernel
theorem dX9_settle_54 : decode cX9_settle 54 = .ok (.getfield 14, 3) := by decide +kernel
theorem dX9_settle_57 : decode cX9_settle 57 = .ok (.iload_n 2, 1) := by decide +kernel
theorem dX9_settle_58 : decode cX9_settle 58 = .ok (.invokevirtual 73, 3) := by decide +kernel
theorem dX9_settle_61 : decode cX9_settle 61 = .ok (.bipush 12, 2) := by decide +kernel
theorem dX9_settle_63 : decode cX9_settle 63 = .ok (.if_icmp .ne 15, 3) := by decide +kernel
theorem dX9_settle_66 : decode cX9_settle 66 = .ok (.aload_n 0, 1) := by decide +kernel
theorem dX9_settle_67 : decode cX9_settle 67 = .ok (.getfield 41, 3) := by decide +kernel
theorem dX9_settle_70 : decode cX9_settle 70 = .ok (.iload_n 1, 1) := by decide +kernel
theorem dX9_settle_71 : decode cX9_settle 71 = .ok (.iload_n 2, 1) := by decide +kernel
theorem dX9_settle_72 : decode cX9_settle 72 = .ok (.invokevirtual 69, 3) := by decide +kernel
theorem dX9_settle_75 : decode cX9_settle 75 = .ok (.goto 27, 3) := by decide +kernel
theorem dX9_settle_78 : decode cX9_settle 78 = .ok (.aload_n 0, 1) := by decide +kernel
theorem dX9_settle_79 : decode cX9_settle 79 = .ok (.getfield 41, 3) := by decide +kernel
theorem dX9_settle_82 : decode cX9_settle 82 = .ok (.iload_n 1, 1) := by decide +kernel
theorem dX9_settle_83 : decode cX9_settle 83 = .ok (.iload_n 2, 1) := by decide +kernel
theorem dX9_settle_84 : decode cX9_settle 84 = .ok (.ifCond .ge 7, 3) := by decide +kernel
theorem dX9_settle_87 : decode cX9_settle 87 = .ok (.iconst (-1), 1) := by decide +kernel
theorem dX9_settle_88 : decode cX9_settle 88 = .ok (.goto 11, 3) := by decide +kernel
theorem dX9_settle_91 : decode cX9_settle 91 = .ok (.aload_n 0, 1) := by decide +kernel
theorem dX9_settle_92 : decode cX9_settle 92 = .ok (.getfield 41, 3) := by decide +kernel
theorem dX9_settle_95 : decode cX9_settle 95 = .ok (.iload_n 2, 1) := by decide +kernel
theorem dX9_settle_96 : decode cX9_settle 96 = .ok (.invokevirtual 73, 3) := by decide +kernel
theorem dX9_settle_99 : decode cX9_settle 99 = .ok (.invokevirtual 69, 3) := by decide +kernel
theorem dX9_settle_102 : decode cX9_settle 102 = .ok (.iinc 1 1, 3) := by decide +kernel
theorem dX9_settle_105 : decode cX9_settle 105 = .ok (.goto (-103), 3) := by decide +kernel
theorem dX9_settle_108 : decode cX9_settle 108 = .ok (.return_, 1) := by decide +kernel
def bX9_settle_102 (k2 : Int32 → zS → zR) (x1 : Int32) (t : zS) : zR := zlet (x1 + 1) fun v1005 => k2 v1005 t
def bX9_settle_99 (k2 : Int32 → zS → zR) (x1 : Int32) (y0 : Int32) (y1 : Int32) (t : zS) : zR := zbd (mX5_set 102 1000 y1 y0 t) fun r1006 t1007 => bX9_settle_102 k2 x1 t1007
def bX9_settle_78 (k2 : Int32 → zS → zR) (x1 : Int32) (x2 : Int32) (t : zS) : zR := if 0 ≤ x2 then zbd (mX5_get 102 1000 x2 t) fun r1009 t1010 => bX9_settle_99 k2 x1 r1009 x1 t1010 else bX9_settle_99 k2 x1 (-1) x1 t
def bX9_settle_2 (k2 : Int32 → zS → zR) (x1 : Int32) (t : zS) : zR := if (t 52 15) ≤ x1 then some (0, t) else zbd (mX5_get 100 1000 x1 t) fun r1012 t1013 => zbd (mX5_get 98 1000 x1 t1013) fun r1015 t1016 => if r1015 < 0 then if r1012 < 0 then bX9_settle_78 k2 x1 r1012 t1016 else zbd (mX5_get 86 1000 r1012 t1016) fun r1018 t1019 => if r1018 = 12 then zbd (mX5_set 102 1000 x1 r1012 t1019) fun r1021 t1022 => bX9_settle_102 k2 x1 t1022 else bX9_settle_78 k2 x1 r1012 t1019 else zbd (mX5_get 98 1000 x1 t1016) fun r1024 t1025 => zbd (mX5_set 102 1000 x1 r1024 t1025) fun r1027 t1028 => bX9_settle_102 k2 x1 t1028
def lX9_settle_2 : Nat → Int32 → zS → zR
  | 0, _, _ => none
  | fu + 1, x1, t => bX9_settle_2 (lX9_settle_2  fu) x1 t
def mX9_settle (t : zS) : zR := lX9_settle_2  zFU 0 t
set_option maxHeartbeats 4000000 in
set_option maxRecDepth 20000 in
theorem wbX9_settle_102 {E : zE} {C : zC} {f : Nat} {ro : Int32 × zS} (hf : 2 ≤ f) (k2 : Int32 → zS → zR) (hk2 : ∀ (x1 : Int32) (t : zS), k2 x1 t = some ro → zJ E shC C cX9_settle RX9 3 f none ro t 2 [(0, .ref (za E 52)), (1, .int x1)] []) (x1 : Int32) (t : zS) (hF : bX9_settle_102 k2 x1 t = some ro) : zJ E shC C cX9_settle RX9 3 f none ro t 102 [(0, .ref (za E 52)), (1, .int x1)] [] := by
  unfold bX9_settle_102 at hF
  obtain ⟨v1005, ev1005⟩ : ∃ y : Int32, y = (x1 + 1) := ⟨_, rfl⟩
  have hF := zlet_at ev1005 hF
  refine z_iinc (v := v1005) (lv' := [(1, .int v1005), (0, .ref (za E 52))]) (k := 1) dX9_settle_102 rfl (by rw [ev1005]; rfl) (by decide) rfl ?_
  refine z_goto (tgt := 2) dX9_settle_105 (by decide) ?_
  refine z_sub [1, 0] rfl ?_
  exact hk2 v1005 _ hF
set_option maxHeartbeats 4000000 in
set_option maxRecDepth 20000 in
theorem wbX9_settle_99 {E : zE} {C : zC} {f : Nat} {ro : Int32 × zS} (hf : 2 ≤ f) (k2 : Int32 → zS → zR) (hk2 : ∀ (x1 : Int32) (t : zS), k2 x1 t = some ro → zJ E shC C cX9_settle RX9 3 f none ro t 2 [(0, .ref (za E 52)), (1, .int x1)] []) (x1 : Int32) (y0 : Int32) (y1 : Int32) (t : zS) (hF : bX9_settle_99 k2 x1 y0 y1 t = some ro) : zJ E shC C cX9_settle RX9 3 f none ro t 99 [(0, .ref (za E 52)), (1, .int x1)] [.int y0, .int y1, .ref (za E 102)] := by
  unfold bX9_settle_99 at hF
  obtain ⟨r1006, t1007, hc1008, hF⟩ := zbd_at hF
  refine z_callVv (ctX5_set (E := E) (sh := shC) (f := f - 1) (by omega) (k := 102) (n := 1000) rfl rfl hc1008) yy_X5_set yv_X5_set ob_C_102 lk_RX9_69 (by omega) rfl rfl (Nat.le_of_ble_eq_true rfl) dX9_settle_99 ?_
  exact wbX9_settle_102 hf k2 hk2 x1 _ hF
set_option maxHeartbeats 4000000 in
set_option maxRecDepth 20000 in
theorem wbX9_settle_78 {E : zE} {C : zC} {f : Nat} {ro : Int32 × zS} (hf : 2 ≤ f) (k2 : Int32 → zS → zR) (hk2 : ∀ (x1 : Int32) (t : zS), k2 x1 t = some ro → zJ E shC C cX9_settle RX9 3 f none ro t 2 [(0, .ref (za E 52)), (1, .int x1)] []) (x1 : Int32) (x2 : Int32) (t : zS) (hF : bX9_settle_78 k2 x1 x2 t = some ro) : zJ E shC C cX9_settle RX9 3 f none ro t 78 [(0, .ref (za E 52)), (1, .int x1), (2, .int x2)] [] := by
  unfold bX9_settle_78 at hF
  refine z_aload_n 0 dX9_settle_78 rfl rfl ?_
  refine z_getr fr_RX9_41 dX9_settle_79 ?_
  refine z_iload_n 1 dX9_settle_82 rfl rfl ?_
  refine z_iload_n 2 dX9_settle_83 rfl rfl ?_
  refine z_if_ge (tgt := 91) dX9_settle_84 (by decide) (fun hc => ?_) (fun hc => ?_)
  · have hF := zif_t hc hF
    refine z_aload_n 0 dX9_settle_91 rfl rfl ?_
    refine z_getr fr_RX9_41 dX9_settle_92 ?_
    refine z_iload_n 2 dX9_settle_95 rfl rfl ?_
    obtain ⟨r1009, t1010, hc1011, hF⟩ := zbd_at hF
    refine z_callVi (ctX5_get (E := E) (sh := shC) (f := f - 1) (by omega) (k := 102) (n := 1000) rfl rfl hc1011) yy_X5_get yv_X5_get ob_C_102 lk_RX9_73 (by omega) rfl rfl (Nat.le_of_ble_eq_true rfl) dX9_settle_96 ?_
    refine z_sub [0, 1] rfl ?_
    exact wbX9_settle_99 hf k2 hk2 x1 r1009 x1 _ hF
  · have hF := zif_f hc hF
    refine z_iconst (v := (-1)) dX9_settle_87 (by decide) ?_
    refine z_goto (tgt := 99) dX9_settle_88 (by decide) ?_
    refine z_sub [0, 1] rfl ?_
    exact wbX9_settle_99 hf k2 hk2 x1 (-1) x1 _ hF
set_option maxHeartbeats 4000000 in
set_option maxRecDepth 20000 in
theorem wbX9_settle_2 {E : zE} {C : zC} {f : Nat} {ro : Int32 × zS} (hf : 2 ≤ f) (k2 : Int32 → zS → zR) (hk2 : ∀ (x1 : Int32) (t : zS), k2 x1 t = some ro → zJ E shC C cX9_settle RX9 3 f none ro t 2 [(0, .ref (za E 52)), (1, .int x1)] []) (x1 : Int32) (t : zS) (hF : bX9_settle_2 k2 x1 t = some ro) : zJ E shC C cX9_settle RX9 3 f none ro t 2 [(0, .ref (za E 52)), (1, .int x1)] [] := by
  unfold bX9_settle_2 at hF
  refine z_iload_n 1 dX9_settle_2 rfl rfl ?_
  refine z_aload_n 0 dX9_settle_3 rfl rfl ?_
  refine z_geti fi_RX9_62 dX9_settle_4 ?_
  refine z_icmp_ge (tgt := 108) dX9_settle_7 (by decide) (fun hc => ?_) (fun hc => ?_)
  · have hF := zif_t hc hF
    exact z_vret hF dX9_settle_108
  · have hF := zif_f hc hF
    refine z_aload_n 0 dX9_settle_10 rfl rfl ?_
    refine z_getr fr_RX9_38 dX9_settle_11 ?_
    refine z_iload_n 1 dX9_settle_14 rfl rfl ?_
    obtain ⟨r1012, t1013, hc1014, hF⟩ := zbd_at hF
    refine z_callVi (ctX5_get (E := E) (sh := shC) (f := f - 1) (by omega) (k := 100) (n := 1000) rfl rfl hc1014) yy_X5_get yv_X5_get ob_C_100 lk_RX9_73 (by omega) rfl rfl (Nat.le_of_ble_eq_true rfl) dX9_settle_15 ?_
    refine z_istore_n (lv' := [(2, .int r1012), (0, .ref (za E 52)), (1, .int x1)]) dX9_settle_18 rfl (by decide) rfl ?_
    refine z_aload_n 1 dX9_settle_19 rfl rfl ?_
    refine z_getr fr_RX9_35 dX9_settle_20 ?_
    refine z_iload_n 2 dX9_settle_23 rfl rfl ?_
    obtain ⟨r1015, t1016, hc1017, hF⟩ := zbd_at hF
    refine z_callVi (ctX5_get (E := E) (sh := shC) (f := f - 1) (by omega) (k := 98) (n := 1000) rfl rfl hc1017) yy_X5_get yv_X5_get ob_C_98 lk_RX9_73 (by omega) rfl rfl (Nat.le_of_ble_eq_true rfl) dX9_settle_24 ?_
    refine z_if_lt (tgt := 49) dX9_settle_27 (by decide) (fun hc => ?_) (fun hc => ?_)
    · have hF := zif_t hc hF
      refine z_iload_n 0 dX9_settle_49 rfl rfl ?_
      refine z_if_lt (tgt := 78) dX9_settle_50 (by decide) (fun hc => ?_) (fun hc => ?_)
      · have hF := zif_t hc hF
        refine z_sub [1, 2, 0] rfl ?_
        exact wbX9_settle_78 hf k2 hk2 x1 r1012 _ hF
      · have hF := zif_f hc hF
        refine z_aload_n 1 dX9_settle_53 rfl rfl ?_
        refine z_getr fr_RX9_14 dX9_settle_54 ?_
        refine z_iload_n 0 dX9_settle_57 rfl rfl ?_
        obtain ⟨r1018, t1019, hc1020, hF⟩ := zbd_at hF
        refine z_callVi (ctX5_get (E := E) (sh := shC) (f := f - 1) (by omega) (k := 86) (n := 1000) rfl rfl hc1020) yy_X5_get yv_X5_get ob_C_86 lk_RX9_73 (by omega) rfl rfl (Nat.le_of_ble_eq_true rfl) dX9_settle_58 ?_
        refine z_bipush (v := 12) dX9_settle_61 (by decide) ?_
        refine z_icmp_ne (tgt := 78) dX9_settle_63 (by decide) (fun hc => ?_) (fun hc => ?_)
        · have hF := zif_f hc hF
          refine z_sub [1, 2, 0] rfl ?_
          exact wbX9_settle_78 hf k2 hk2 x1 r1012 _ hF
        · have hF := zif_t hc hF
          refine z_aload_n 1 dX9_settle_66 rfl rfl ?_
          refine z_getr fr_RX9_41 dX9_settle_67 ?_
          refine z_iload_n 2 dX9_settle_70 rfl rfl ?_
          refine z_iload_n 0 dX9_settle_71 rfl rfl ?_
          obtain ⟨r1021, t1022, hc1023, hF⟩ := zbd_at hF
          refine z_callVv (ctX5_set (E := E) (sh := shC) (f := f - 1) (by omega) (k := 102) (n := 1000) rfl rfl hc1023) yy_X5_set yv_X5_set ob_C_102 lk_RX9_69 (by omega) rfl rfl (Nat.le_of_ble_eq_true rfl) dX9_settle_72 ?_
          refine z_goto (tgt := 102) dX9_settle_75 (by decide) ?_
          refine z_sub [1, 2] rfl ?_
          exact wbX9_settle_102 hf k2 hk2 x1 _ hF
    · have hF := zif_f hc hF
      refine z_aload_n 1 dX9_settle_30 rfl rfl ?_
      refine z_getr fr_RX9_41 dX9_settle_31 ?_
      refine z_iload_n 2 dX9_settle_34 rfl rfl ?_
      refine z_aload_n 1 dX9_settle_35 rfl rfl ?_
      refine z_getr fr_RX9_35 dX9_settle_36 ?_
      refine z_iload_n 2 dX9_settle_39 rfl rfl ?_
      obtain ⟨r1024, t1025, hc1026, hF⟩ := zbd_at hF
      refine z_callVi (ctX5_get (E := E) (sh := shC) (f := f - 1) (by omega) (k := 98) (n := 1000) rfl rfl hc1026) yy_X5_get yv_X5_get ob_C_98 lk_RX9_73 (by omega) rfl rfl (Nat.le_of_ble_eq_true rfl) dX9_settle_40 ?_
      obtain ⟨r1027, t1028, hc1029, hF⟩ := zbd_at hF
      refine z_callVv (ctX5_set (E := E) (sh := shC) (f := f - 1) (by omega) (k := 102) (n := 1000) rfl rfl hc1029) yy_X5_set yv_X5_set ob_C_102 lk_RX9_69 (by omega) rfl rfl (Nat.le_of_ble_eq_true rfl) dX9_settle_43 ?_
      refine z_goto (tgt := 102) dX9_settle_46 (by decide) ?_
      refine z_sub [1, 2] rfl ?_
      exact wbX9_settle_102 hf k2 hk2 x1 _ hF
set_option maxHeartbeats 4000000 in
set_option maxRecDepth 20000 in
theorem wlX9_settle_2 {E : zE} {C : zC} {f : Nat} {ro : Int32 × zS} (hf : 2 ≤ f) (fu : Nat) : ∀ (x1 : Int32) (t : zS), lX9_settle_2  fu x1 t = some ro → zJ E shC C cX9_settle RX9 3 f none ro t 2 [(0, .ref (za E 52)), (1, .int x1)] [] := by
  induction fu with
  | zero => intro x1 t hF; cases hF
  | succ fu ih => intro x1 t hF; exact wbX9_settle_2 hf (lX9_settle_2  fu) ih x1 t hF
set_option maxHeartbeats 4000000 in
set_option maxRecDepth 20000 in
theorem ctX9_settle {E : zE} {f : Nat} (hf : 2 ≤ f) {t : zS} {ro : Int32 × zS} (hF : mX9_settle   t = some ro) : zM E shC f yX9_settle cX9_settle 3 none [.ref (za E 52)] t ro := by
  refine zM_of (by decide) (Nat.le_of_ble_eq_true rfl) (fun C => ?_)
  show zJ E shC C cX9_settle RX9 3 f none ro t 0 [(0, .ref (za E 52))] []
  unfold mX9_settle at hF
  refine z_iconst (v := 0) dX9_settle_0 (by decide) ?_
  refine z_istore_n (lv' := [(1, .int 0), (0, .ref (za E 52))]) dX9_settle_1 rfl (by decide) rfl ?_
  refine z_sub [1, 0] rfl ?_
  exact wlX9_settle_2 hf  zFU 0 _ hF
-- SessionHouse$Reader.readAll(LSessionHouse$Ints;I)I
theorem dX7_readAll_0 : decode cX7_readAll 0 = .ok (.aload_n 0, 1) := by decide +kernel
theorem dX7_readAll_1 : decode cX7_readAll 1 = .ok (.getfield 30, 3) := by decide +kernel
theorem dX7_readAll_4 : decode cX7_readAll 4 = .ok (.invokevirtual 46, 3) := by decide +kernel
theorem dX7_readAll_7 : decode cX7_readAll 7 = .ok (.aload_n 0, 1) := by decide +kernel
theorem dX7_readAll_8 : decode cX7_readAll 8 = .ok (.getfield 34, 3) := by decide +kernel
theorem dX7_readAll_11 : decode cX7_readAll 11 = .ok (.invokevirtual 51, 3) := by decide +kernel
theorem dX7_readAll_14 : decode cX7_readAll 14 = .ok (.aload_n 0, 1) := by decide +kernel
theorem dX7_readAll_15 : decode cX7_readAll 15 = .ok (.getfield 38, 3) := by decide +kernel
theorem dX7_readAll_18 : decode cX7_readAll 18 = .ok (.invokevirtual 54, 3) := by decide +kernel
theorem dX7_readAll_21 : decode cX7_readAll 21 = .ok (.aload_n 0, 1) := by decide +kernel
theorem dX7_readAll_22 : decode cX7_readAll 22 = .ok (.getfield 42, 3) := by decide +kernel
theorem dX7_readAll_25 : decode cX7_readAll 25 = .ok (.invokevirtual 57, 3) := by decide +kernel
theorem dX7_readAll_28 : decode cX7_readAll 28 = .ok (.aload_n 0, 1) := by decide +kernel
theorem dX7_readAll_29 : decode cX7_readAll 29 = .ok (.getfield 12, 3) := by decide +kernel
theorem dX7_readAll_32 : decode cX7_readAll 32 = .ok (.aload_n 1, 1) := by decide +kernel
theorem dX7_readAll_33 : decode cX7_readAll 33 = .ok (.iload_n 2, 1) := by decide +kernel
theorem dX7_readAll_34 : decode cX7_readAll 34 = .ok (.invokevirtual 60, 3) := by decide +kernel
theorem dX7_readAll_37 : decode cX7_readAll 37 = .ok (.aload_n 0, 1) := by decide +kernel
theorem dX7_readAll_38 : decode cX7_readAll 38 = .ok (.iconst 0, 1) := by decide +kernel
theorem dX7_readAll_39 : decode cX7_readAll 39 = .ok (.putfield 64, 3) := by decide +kernel
theorem dX7_readAll_42 : decode cX7_readAll 42 = .ok (.aload_n 0, 1) := by decide +kernel
theorem dX7_readAll_43 : decode cX7_readAll 43 = .ok (.iconst (-1), 1) := by decide +kernel
theorem dX7_readAll_44 : decode cX7_readAll 44 = .ok (.putfield 68, 3) := by decide +kernel
theorem dX7_readAll_47 : decode cX7_readAll 47 = .ok (.aload_n 0, 1) := by decide +kernel
theorem dX7_readAll_48 : decode cX7_readAll 48 = .ok (.iconst 0, 1) := by decide +kernel
theorem dX7_readAll_49 : decode cX7_readAll 49 = .ok (.putfield 71, 3) := by decide +kernel
theorem dX7_readAll_52 : decode cX7_readAll 52 = .ok (.aload_n 0, 1) := by decide +kernel
theorem dX7_readAll_53 : decode cX7_readAll 53 = .ok (.iconst (-1), 1) := by decide +kernel
theorem dX7_readAll_54 : decode cX7_readAll 54 = .ok (.putfield 74, 3) := by decide +kernel
theorem dX7_readAll_57 : decode cX7_readAll 57 = .ok (.aload_n 0, 1) := by decide +kernel
theorem dX7_readAll_58 : decode cX7_readAll 58 = .ok (.invokevirtual 77, 3) := by decide +kernel
theorem dX7_readAll_61 : decode cX7_readAll 61 = .ok (.iconst 0, 1) := by decide +kernel
theorem dX7_readAll_62 : decode cX7_readAll 62 = .ok (.istore_n 3, 1) := by decide +kernel
theorem dX7_readAll_63 : decode cX7_readAll 63 = .ok (.iload_n 3, 1) := by decide +kernel
theorem dX7_readAll_64 : decode cX7_readAll 64 = .ok (.sipush 3000, 3) := by decide +kernel
theorem dX7_readAll_67 : decode cX7_readAll 67 = .ok (.if_icmp .ge 62, 3) := by decide +kernel
theorem dX7_readAll_70 : decode cX7_readAll 70 = .ok (.aload_n 0, 1) := by decide +kernel
theorem dX7_readAll_71 : decode cX7_readAll 71 = .ok (.getfield 68, 3) := by decide +kernel
theorem dX7_readAll_74 : decode cX7_readAll 74 = .ok (.ifCond .ge 55, 3) := by decide +kernel
theorem dX7_readAll_77 : decode cX7_readAll 77 = .ok (.iload_n 3, 1) := by decide +kernel
theorem dX7_readAll_78 : decode cX7_readAll 78 = .ok (.ifCond .eq 12, 3) := by decide +kernel
theorem dX7_readAll_81 : decode cX7_readAll 81 = .ok (.aload_n 0, 1) := by decide +kernel
theorem dX7_readAll_82 : decode cX7_readAll 82 = .ok (.getfield 80, 3) := by decide +kernel
theorem dX7_readAll_85 : decode cX7_readAll 85 = .ok (.bipush 19, 2) := by decide +kernel
theorem dX7_readAll_87 : decode cX7_readAll 87 = .ok (.if_icmp .eq 42, 3) := by decide +kernel
theorem dX7_readAll_90 : decode cX7_readAll 90 = .ok (.aload_n 0, 1) := by decide +kernel
theorem dX7_readAll_91 : decode cX7_readAll 91 = .ok (.getfield 80, 3) := by decide +kernel
theorem dX7_readAll_94 : decode cX7_readAll 94 = .ok (.ifCond .ne 10, 3) := by decide +kernel
theorem dX7_readAll_97 : decode cX7_readAll 97 = .ok (.aload_n 0, 1) := by decide +kernel
theorem dX7_readAll_98 : decode cX7_readAll 98 = .ok (.invokevirtual 83, 3) := by decide +kernel
theorem dX7_readAll_101 : decode cX7_readAll 101 = .ok (.goto 22, 3) := by decide +kernel
theorem dX7_readAll_104 : decode cX7_readAll 104 = .ok (.aload_n 0, 1) := by decide +kernel
theorem dX7_readAll_105 : decode cX7_readAll 105 = .ok (.getfield 80, 3) := by decide +kernel
theorem dX7_readAll_108 : decode cX7_readAll 108 = .ok (.iconst 1, 1) := by decide +kernel
theorem dX7_readAll_109 : decode cX7_readAll 109 = .ok (.if_icmp .ne 10, 3) := by decide +kernel
theorem dX7_readAll_112 : decode cX7_readAll 112 = .ok (.aload_n 0, 1) := by decide +kernel
theorem dX7_readAll_113 : decode cX7_readAll 113 = .ok (.invokevirtual 86, 3) := by decide +kernel
theorem dX7_readAll_116 : decode cX7_readAll 116 = .ok (.goto 7, 3) := by decide +kernel
theorem dX7_readAll_119 : decode cX7_readAll 119 = .ok (.aload_n 0, 1) := by decide +kernel
theorem dX7_readAll_120 : decode cX7_readAll 120 = .ok (.invokevirtual 89, 3) := by decide +kernel
theorem dX7_readAll_123 : decode cX7_readAll 123 = .ok (.iinc 3 1, 3) := by decide +kernel
theorem dX7_readAll_126 : decode cX7_readAll 126 = .ok (.goto (-63), 3) := by decide +kernel
theorem dX7_readAll_129 : decode cX7_readAll 129 = .ok (.aload_n 0, 1) := by decide +kernel
theorem dX7_readAll_130 : decode cX7_readAll 130 = .ok (.getfield 68, 3) := by decide +kernel
theorem dX7_readAll_133 : decode cX7_readAll 133 = .ok (.ifCond .ge 12, 3) := by decide +kernel
theorem dX7_readAll_136 : decode cX7_readAll 136 = .ok (.aload_n 0, 1) := by decide +kernel
theorem dX7_readAll_137 : decode cX7_readAll 137 = .ok (.aload_n 0, 1) := by decide +kernel
theorem dX7_readAll_138 : decode cX7_readAll 138 = .ok (.iload_n 2, 1) := by decide +kernel
theorem dX7_readAll_139 : decode cX7_readAll 139 = .ok (.invokevirtual 92, 3) := by decide +kernel
theorem dX7_readAll_142 : decode cX7_readAll 142 = .ok (.putfield 68, 3) := by decide +kernel
theorem dX7_readAll_145 : decode cX7_readAll 145 = .ok (.aload_n 0, 1) := by decide +kernel
theorem dX7_readAll_146 : decode cX7_readAll 146 = .ok (.getfield 68, 3) := by decide +kernel
theorem dX7_readAll_149 : decode cX7_readAll 149 = .ok (.ifCond .ge 17, 3) := by decide +kernel
theorem dX7_readAll_152 : decode cX7_readAll 152 = .ok (.aload_n 0, 1) := by decide +kernel
theorem dX7_readAll_153 : decode cX7_readAll 153 = .ok (.getfield 30, 3) := by decide +kernel
theorem dX7_readAll_156 : decode cX7_readAll 156 = .ok (.invokevirtual 96, 3) := by decide +kernel
theorem dX7_readAll_159 : decode cX7_readAll 159 = .ok (.aload_n 0, 1) := by decide +kernel
theorem dX7_readAll_160 : decode cX7_readAll 160 = .ok (.getfield 38, 3) := by decide +kernel
theorem dX7_readAll_163 : decode cX7_readAll 163 = .ok (.invokevirtual 99, 3) := by decide +kernel
theorem dX7_readAll_166 : decode cX7_readAll 166 = .ok (.aload_n 0, 1) := by decide +kernel
theorem dX7_readAll_167 : decode cX7_readAll 167 = .ok (.getfield 68, 3) := by decide +kernel
theorem dX7_readAll_170 : decode cX7_readAll 170 = .ok (.ireturn, 1) := by decide +kernel
def bX7_readAll_123 (k63 : Int32 → Int32 → zS → zR) (x2 : Int32) (x3 : Int32) (t : zS) : zR := zlet (x3 + 1) fun v1030 => k63 x2 v1030 t
def bX7_readAll_90 (k63 : Int32 → Int32 → zS → zR) (x2 : Int32) (x3 : Int32) (t : zS) : zR := if (t 5 9) = 0 then zbd (mX7_readDefinition  t) fun r1037 t1038 => bX7_readAll_123 k63 x2 x3 t1038 else if (t 5 9) = 1 then zbd (mX7_readProc  t) fun r1034 t1035 => bX7_readAll_123 k63 x2 x3 t1035 else zbd (mX7_refuse  t) fun r1031 t1032 => bX7_readAll_123 k63 x2 x3 t1032
def bX7_readAll_145 (t : zS) : zR := if 0 ≤ (t 5 12) then some ((t 5 12), t) else zbd (mX2_settle  t) fun r1040 t1041 => zbd (mX9_settle  t1041) fun r1043 t1044 => some ((t1044 5 12), t1044)
def bX7_readAll_129 (x2 : Int32) (t : zS) : zR := if 0 ≤ (t 5 12) then bX7_readAll_145   t else zbd (mX7_lackingPlace x2 t) fun r1046 t1047 => zpt t1047 5 12 r1046 fun t1049 => bX7_readAll_145   t1049
def bX7_readAll_63 (k63 : Int32 → Int32 → zS → zR) (x2 : Int32) (x3 : Int32) (t : zS) : zR := if 3000 ≤ x3 then bX7_readAll_129  x2 t else if 0 ≤ (t 5 12) then bX7_readAll_129  x2 t else if x3 = 0 then bX7_readAll_90 k63 x2 x3 t else if (t 5 9) = 19 then bX7_readAll_129  x2 t else bX7_readAll_90 k63 x2 x3 t
def lX7_readAll_63 : Nat → Int32 → Int32 → zS → zR
  | 0, _, _, _ => none
  | fu + 1, x2, x3, t => bX7_readAll_63 (lX7_readAll_63  fu) x2 x3 t
def mX7_readAll (x2 : Int32) (t : zS) : zR := zbd (mX2_forget  t) fun r1050 t1051 => zbd (mX3_forget  t1051) fun r1053 t1054 => zbd (mX9_forget  t1054) fun r1056 t1057 => zbd (mX6_forget  t1057) fun r1059 t1060 => zbd (mX10_cut x2 t1060) fun r1062 t1063 => zpt t1063 5 7 0 fun t1065 => zpt t1065 5 12 (-1) fun t1066 => zpt t1066 5 13 0 fun t1067 => zpt t1067 5 8 (-1) fun t1068 => zbd (mX7_step  t1068) fun r1069 t1070 => lX7_readAll_63  zFU x2 0 t1070
set_option maxHeartbeats 4000000 in
set_option maxRecDepth 20000 in
theorem wbX7_readAll_123 {E : zE} {C : zC} {f : Nat} {ro : Int32 × zS} (hf : 607 ≤ f) (k63 : Int32 → Int32 → zS → zR) (hk63 : ∀ (x2 x3 : Int32) (t : zS), k63 x2 x3 t = some ro → zJ E shC C cX7_readAll RX7 4 f (some .int) ro t 63 [(0, .ref (za E 5)), (2, .int x2), (3, .int x3)] []) (x2 : Int32) (x3 : Int32) (t : zS) (hF : bX7_readAll_123 k63 x2 x3 t = some ro) : zJ E shC C cX7_readAll RX7 4 f (some .int) ro t 123 [(0, .ref (za E 5)), (2, .int x2), (3, .int x3)] [] := by
  unfold bX7_readAll_123 at hF
  obtain ⟨v1030, ev1030⟩ : ∃ y : Int32, y = (x3 + 1) := ⟨_, rfl⟩
  have hF := zlet_at ev1030 hF
  refine z_iinc (v := v1030) (lv' := [(3, .int v1030), (0, .ref (za E 5)), (2, .int x2)]) (k := 2) dX7_readAll_123 rfl (by rw [ev1030]; rfl) (by decide) rfl ?_
  refine z_goto (tgt := 63) dX7_readAll_126 (by decide) ?_
  refine z_sub [1, 2, 0] rfl ?_
  exact hk63 x2 v1030 _ hF
set_option maxHeartbeats 4000000 in
set_option maxRecDepth 20000 in
theorem wbX7_readAll_90 {E : zE} {C : zC} {f : Nat} {ro : Int32 × zS} (hf : 607 ≤ f) (k63 : Int32 → Int32 → zS → zR) (hk63 : ∀ (x2 x3 : Int32) (t : zS), k63 x2 x3 t = some ro → zJ E shC C cX7_readAll RX7 4 f (some .int) ro t 63 [(0, .ref (za E 5)), (2, .int x2), (3, .int x3)] []) (x2 : Int32) (x3 : Int32) (t : zS) (hF : bX7_readAll_90 k63 x2 x3 t = some ro) : zJ E shC C cX7_readAll RX7 4 f (some .int) ro t 90 [(0, .ref (za E 5)), (2, .int x2), (3, .int x3)] [] := by
  unfold bX7_readAll_90 at hF
  refine z_aload_n 0 dX7_readAll_90 rfl rfl ?_
  refine z_geti fi_RX7_80 dX7_readAll_91 ?_
  refine z_if_ne (tgt := 104) dX7_readAll_94 (by decide) (fun hc => ?_) (fun hc => ?_)
  · have hF := zif_f hc hF
    refine z_aload_n 0 dX7_readAll_104 rfl rfl ?_
    refine z_geti fi_RX7_80 dX7_readAll_105 ?_
    refine z_iconst (v := 1) dX7_readAll_108 (by decide) ?_
    refine z_icmp_ne (tgt := 119) dX7_readAll_109 (by decide) (fun hc => ?_) (fun hc => ?_)
    · have hF := zif_f hc hF
      refine z_aload_n 0 dX7_readAll_119 rfl rfl ?_
      obtain ⟨r1031, t1032, hc1033, hF⟩ := zbd_at hF
      refine z_callVv (ctX7_refuse (E := E) (f := f - 1) (by omega) hc1033) yy_X7_refuse yv_X7_refuse ob_C_5 lk_RX7_89 (by omega) rfl rfl (Nat.le_of_ble_eq_true rfl) dX7_readAll_120 ?_
      exact wbX7_readAll_123 hf k63 hk63 x2 x3 _ hF
    · have hF := zif_t hc hF
      refine z_aload_n 0 dX7_readAll_112 rfl rfl ?_
      obtain ⟨r1034, t1035, hc1036, hF⟩ := zbd_at hF
      refine z_callVv (ctX7_readProc (E := E) (f := f - 1) (by omega) hc1036) yy_X7_readProc yv_X7_readProc ob_C_5 lk_RX7_86 (by omega) rfl rfl (Nat.le_of_ble_eq_true rfl) dX7_readAll_113 ?_
      refine z_goto (tgt := 123) dX7_readAll_116 (by decide) ?_
      exact wbX7_readAll_123 hf k63 hk63 x2 x3 _ hF
  · have hF := zif_t hc hF
    refine z_aload_n 0 dX7_readAll_97 rfl rfl ?_
    obtain ⟨r1037, t1038, hc1039, hF⟩ := zbd_at hF
    refine z_callVv (ctX7_readDefinition (E := E) (f := f - 1) (by omega) hc1039) yy_X7_readDefinition yv_X7_readDefinition ob_C_5 lk_RX7_83 (by omega) rfl rfl (Nat.le_of_ble_eq_true rfl) dX7_readAll_98 ?_
    refine z_goto (tgt := 123) dX7_readAll_101 (by decide) ?_
    exact wbX7_readAll_123 hf k63 hk63 x2 x3 _ hF
set_option maxHeartbeats 4000000 in
set_option maxRecDepth 20000 in
theorem wbX7_readAll_145 {E : zE} {C : zC} {f : Nat} {ro : Int32 × zS} (hf : 607 ≤ f) (t : zS) (hF : bX7_readAll_145   t = some ro) : zJ E shC C cX7_readAll RX7 4 f (some .int) ro t 145 [(0, .ref (za E 5))] [] := by
  unfold bX7_readAll_145 at hF
  refine z_aload_n 0 dX7_readAll_145 rfl rfl ?_
  refine z_geti fi_RX7_68 dX7_readAll_146 ?_
  refine z_if_ge (tgt := 166) dX7_readAll_149 (by decide) (fun hc => ?_) (fun hc => ?_)
  · have hF := zif_t hc hF
    refine z_aload_n 0 dX7_readAll_166 rfl rfl ?_
    refine z_geti fi_RX7_68 dX7_readAll_167 ?_
    exact z_iret hF dX7_readAll_170
  · have hF := zif_f hc hF
    refine z_aload_n 0 dX7_readAll_152 rfl rfl ?_
    refine z_getr fr_RX7_30 dX7_readAll_153 ?_
    obtain ⟨r1040, t1041, hc1042, hF⟩ := zbd_at hF
    refine z_callVv (ctX2_settle (E := E) (f := f - 1) (by omega) hc1042) yy_X2_settle yv_X2_settle ob_C_3 lk_RX7_96 (by omega) rfl rfl (Nat.le_of_ble_eq_true rfl) dX7_readAll_156 ?_
    refine z_aload_n 0 dX7_readAll_159 rfl rfl ?_
    refine z_getr fr_RX7_38 dX7_readAll_160 ?_
    obtain ⟨r1043, t1044, hc1045, hF⟩ := zbd_at hF
    refine z_callVv (ctX9_settle (E := E) (f := f - 1) (by omega) hc1045) yy_X9_settle yv_X9_settle ob_C_52 lk_RX7_99 (by omega) rfl rfl (Nat.le_of_ble_eq_true rfl) dX7_readAll_163 ?_
    refine z_aload_n 0 dX7_readAll_166 rfl rfl ?_
    refine z_geti fi_RX7_68 dX7_readAll_167 ?_
    exact z_iret hF dX7_readAll_170
set_option maxHeartbeats 4000000 in
set_option maxRecDepth 20000 in
theorem wbX7_readAll_129 {E : zE} {C : zC} {f : Nat} {ro : Int32 × zS} (hf : 607 ≤ f) (x2 : Int32) (t : zS) (hF : bX7_readAll_129  x2 t = some ro) : zJ E shC C cX7_readAll RX7 4 f (some .int) ro t 129 [(0, .ref (za E 5)), (2, .int x2)] [] := by
  unfold bX7_readAll_129 at hF
  refine z_aload_n 0 dX7_readAll_129 rfl rfl ?_
  refine z_geti fi_RX7_68 dX7_readAll_130 ?_
  refine z_if_ge (tgt := 145) dX7_readAll_133 (by decide) (fun hc => ?_) (fun hc => ?_)
  · have hF := zif_t hc hF
    refine z_sub [0] rfl ?_
    exact wbX7_readAll_145 hf   _ hF
  · have hF := zif_f hc hF
    refine z_aload_n 0 dX7_readAll_136 rfl rfl ?_
    refine z_aload_n 0 dX7_readAll_137 rfl rfl ?_
    refine z_iload_n 1 dX7_readAll_138 rfl rfl ?_
    obtain ⟨r1046, t1047, hc1048, hF⟩ := zbd_at hF
    refine z_callVi (ctX7_lackingPlace (E := E) (f := f - 1) (by omega) hc1048) yy_X7_lackingPlace yv_X7_lackingPlace ob_C_5 lk_RX7_92 (by omega) rfl rfl (Nat.le_of_ble_eq_true rfl) dX7_readAll_139 ?_
    refine z_puti fw_RX7_68 dX7_readAll_142 (fun t1049 et1049 => ?_)
    have hF := zpt_at hF t1049 et1049
    refine z_sub [0] rfl ?_
    exact wbX7_readAll_145 hf   _ hF
set_option maxHeartbeats 4000000 in
set_option maxRecDepth 20000 in
theorem wbX7_readAll_63 {E : zE} {C : zC} {f : Nat} {ro : Int32 × zS} (hf : 607 ≤ f) (k63 : Int32 → Int32 → zS → zR) (hk63 : ∀ (x2 x3 : Int32) (t : zS), k63 x2 x3 t = some ro → zJ E shC C cX7_readAll RX7 4 f (some .int) ro t 63 [(0, .ref (za E 5)), (2, .int x2), (3, .int x3)] []) (x2 : Int32) (x3 : Int32) (t : zS) (hF : bX7_readAll_63 k63 x2 x3 t = some ro) : zJ E shC C cX7_readAll RX7 4 f (some .int) ro t 63 [(0, .ref (za E 5)), (2, .int x2), (3, .int x3)] [] := by
  unfold bX7_readAll_63 at hF
  refine z_iload_n 2 dX7_readAll_63 rfl rfl ?_
  refine z_sipush (v := 3000) dX7_readAll_64 (by decide) ?_
  refine z_icmp_ge (tgt := 129) dX7_readAll_67 (by decide) (fun hc => ?_) (fun hc => ?_)
  · have hF := zif_t hc hF
    refine z_sub [0, 1] rfl ?_
    exact wbX7_readAll_129 hf  x2 _ hF
  · have hF := zif_f hc hF
    refine z_aload_n 0 dX7_readAll_70 rfl rfl ?_
    refine z_geti fi_RX7_68 dX7_readAll_71 ?_
    refine z_if_ge (tgt := 129) dX7_readAll_74 (by decide) (fun hc => ?_) (fun hc => ?_)
    · have hF := zif_t hc hF
      refine z_sub [0, 1] rfl ?_
      exact wbX7_readAll_129 hf  x2 _ hF
    · have hF := zif_f hc hF
      refine z_iload_n 2 dX7_readAll_77 rfl rfl ?_
      refine z_if_eq (tgt := 90) dX7_readAll_78 (by decide) (fun hc => ?_) (fun hc => ?_)
      · have hF := zif_t hc hF
        exact wbX7_readAll_90 hf k63 hk63 x2 x3 _ hF
      · have hF := zif_f hc hF
        refine z_aload_n 0 dX7_readAll_81 rfl rfl ?_
        refine z_geti fi_RX7_80 dX7_readAll_82 ?_
        refine z_bipush (v := 19) dX7_readAll_85 (by decide) ?_
        refine z_icmp_eq (tgt := 129) dX7_readAll_87 (by decide) (fun hc => ?_) (fun hc => ?_)
        · have hF := zif_t hc hF
          refine z_sub [0, 1] rfl ?_
          exact wbX7_readAll_129 hf  x2 _ hF
        · have hF := zif_f hc hF
          exact wbX7_readAll_90 hf k63 hk63 x2 x3 _ hF
set_option maxHeartbeats 4000000 in
set_option maxRecDepth 20000 in
theorem wlX7_readAll_63 {E : zE} {C : zC} {f : Nat} {ro : Int32 × zS} (hf : 607 ≤ f) (fu : Nat) : ∀ (x2 x3 : Int32) (t : zS), lX7_readAll_63  fu x2 x3 t = some ro → zJ E shC C cX7_readAll RX7 4 f (some .int) ro t 63 [(0, .ref (za E 5)), (2, .int x2), (3, .int x3)] [] := by
  induction fu with
  | zero => intro x2 x3 t hF; cases hF
  | succ fu ih => intro x2 x3 t hF; exact wbX7_readAll_63 hf (lX7_readAll_63  fu) ih x2 x3 t hF
set_option maxHeartbeats 4000000 in
set_option maxRecDepth 20000 in
theorem ctX7_readAll {E : zE} {f : Nat} (hf : 607 ≤ f) {x2 : Int32} {t : zS} {ro : Int32 × zS} (hF : mX7_readAll  x2 t = some ro) : zM E shC f yX7_readAll cX7_readAll 4 (some .int) [.ref (za E 5), .ref (za E 1), .int x2] t ro := by
  refine zM_of (by decide) (Nat.le_of_ble_eq_true rfl) (fun C => ?_)
  show zJ E shC C cX7_readAll RX7 4 f (some .int) ro t 0 [(0, .ref (za E 5)), (1, .ref (za E 1)), (2, .int x2)] []
  unfold mX7_readAll at hF
  refine z_aload_n 0 dX7_readAll_0 rfl rfl ?_
  refine z_getr fr_RX7_30 dX7_readAll_1 ?_
  obtain ⟨r1050, t1051, hc1052, hF⟩ := zbd_at hF
  refine z_callVv (ctX2_forget (E := E) (f := f - 1) (by omega) hc1052) yy_X2_forget yv_X2_forget ob_C_3 lk_RX7_46 (by omega) rfl rfl (Nat.le_of_ble_eq_true rfl) dX7_readAll_4 ?_
  refine z_aload_n 0 dX7_readAll_7 rfl rfl ?_
  refine z_getr fr_RX7_34 dX7_readAll_8 ?_
  obtain ⟨r1053, t1054, hc1055, hF⟩ := zbd_at hF
  refine z_callVv (ctX3_forget (E := E) (f := f - 1) (by omega) hc1055) yy_X3_forget yv_X3_forget ob_C_51 lk_RX7_51 (by omega) rfl rfl (Nat.le_of_ble_eq_true rfl) dX7_readAll_11 ?_
  refine z_aload_n 0 dX7_readAll_14 rfl rfl ?_
  refine z_getr fr_RX7_38 dX7_readAll_15 ?_
  obtain ⟨r1056, t1057, hc1058, hF⟩ := zbd_at hF
  refine z_callVv (ctX9_forget (E := E) (f := f - 1) (by omega) hc1058) yy_X9_forget yv_X9_forget ob_C_52 lk_RX7_54 (by omega) rfl rfl (Nat.le_of_ble_eq_true rfl) dX7_readAll_18 ?_
  refine z_aload_n 0 dX7_readAll_21 rfl rfl ?_
  refine z_getr fr_RX7_42 dX7_readAll_22 ?_
  obtain ⟨r1059, t1060, hc1061, hF⟩ := zbd_at hF
  refine z_callVv (ctX6_forget (E := E) (f := f - 1) (by omega) hc1061) yy_X6_forget yv_X6_forget ob_C_4 lk_RX7_57 (by omega) rfl rfl (Nat.le_of_ble_eq_true rfl) dX7_readAll_25 ?_
  refine z_aload_n 0 dX7_readAll_28 rfl rfl ?_
  refine z_getr fr_RX7_12 dX7_readAll_29 ?_
  refine z_aload_n 1 dX7_readAll_32 rfl rfl ?_
  refine z_iload_n 2 dX7_readAll_33 rfl rfl ?_
  obtain ⟨r1062, t1063, hc1064, hF⟩ := zbd_at hF
  refine z_callVv (ctX10_cut (E := E) (f := f - 1) (by omega) hc1064) yy_X10_cut yv_X10_cut ob_C_50 lk_RX7_60 (by omega) rfl rfl (Nat.le_of_ble_eq_true rfl) dX7_readAll_34 ?_
  refine z_aload_n 0 dX7_readAll_37 rfl rfl ?_
  refine z_iconst (v := 0) dX7_readAll_38 (by decide) ?_
  refine z_puti fw_RX7_64 dX7_readAll_39 (fun t1065 et1065 => ?_)
  have hF := zpt_at hF t1065 et1065
  refine z_aload_n 0 dX7_readAll_42 rfl rfl ?_
  refine z_iconst (v := (-1)) dX7_readAll_43 (by decide) ?_
  refine z_puti fw_RX7_68 dX7_readAll_44 (fun t1066 et1066 => ?_)
  have hF := zpt_at hF t1066 et1066
  refine z_aload_n 0 dX7_readAll_47 rfl rfl ?_
  refine z_iconst (v := 0) dX7_readAll_48 (by decide) ?_
  refine z_puti fw_RX7_71 dX7_readAll_49 (fun t1067 et1067 => ?_)
  have hF := zpt_at hF t1067 et1067
  refine z_aload_n 0 dX7_readAll_52 rfl rfl ?_
  refine z_iconst (v := (-1)) dX7_readAll_53 (by decide) ?_
  refine z_puti fw_RX7_74 dX7_readAll_54 (fun t1068 et1068 => ?_)
  have hF := zpt_at hF t1068 et1068
  refine z_aload_n 0 dX7_readAll_57 rfl rfl ?_
  obtain ⟨r1069, t1070, hc1071, hF⟩ := zbd_at hF
  refine z_callVv (ctX7_step (E := E) (f := f - 1) (by omega) hc1071) yy_X7_step yv_X7_step ob_C_5 lk_RX7_77 (by omega) rfl rfl (Nat.le_of_ble_eq_true rfl) dX7_readAll_58 ?_
  refine z_iconst (v := 0) dX7_readAll_61 (by decide) ?_
  refine z_istore_n (lv' := [(3, .int 0), (0, .ref (za E 5)), (1, .ref (za E 1)), (2, .int x2)]) dX7_readAll_62 rfl (by decide) rfl ?_
  refine z_sub [1, 3, 0] rfl ?_
  exact wlX7_readAll_63 hf  zFU x2 0 _ hF
-- SessionHouse$Procs.form(II)I
theorem dX6_form_0 : decode cX6_form 0 = .ok (.aload_n 0, 1) := by decide +kernel
theorem dX6_form_1 : decode cX6_form 1 = .ok (.getfield 35, 3) := by decide +kernel
theorem dX6_form_4 : decode cX6_form 4 = .ok (.aload_n 0, 1) := by decide +kernel
theorem dX6_form_5 : decode cX6_form 5 = .ok (.getfield 20, 3) := by decide +kernel
theorem dX6_form_8 : decode cX6_form 8 = .ok (.iload_n 1, 1) := by decide +kernel
theorem dX6_form_9 : decode cX6_form 9 = .ok (.invokevirtual 55, 3) := by decide +kernel
theorem dX6_form_12 : decode cX6_form 12 = .ok (.iload_n 2, 1) := by decide +kernel
theorem dX6_form_13 : decode cX6_form 13 = .ok (.iadd, 1) := by decide +kernel
theorem dX6_form_14 : decode cX6_form 14 = .ok (.invokevirtual 55, 3) := by decide +kernel
theorem dX6_form_17 : decode cX6_form 17 = .ok (.ireturn, 1) := by decide +kernel
def mX6_form (x1 : Int32) (x2 : Int32) (t : zS) : zR := zbd (mX5_get 34 400 x1 t) fun r1072 t1073 => zbd (mX5_get 44 1600 (r1072 + x2) t1073) fun r1075 t1076 => some (r1075, t1076)
set_option maxHeartbeats 4000000 in
set_option maxRecDepth 20000 in
theorem ctX6_form {E : zE} {f : Nat} (hf : 2 ≤ f) {x1 : Int32} {x2 : Int32} {t : zS} {ro : Int32 × zS} (hF : mX6_form  x1 x2 t = some ro) : zM E shC f yX6_form cX6_form 3 (some .int) [.ref (za E 4), .int x1, .int x2] t ro := by
  refine zM_of (by decide) (Nat.le_of_ble_eq_true rfl) (fun C => ?_)
  show zJ E shC C cX6_form RX6 3 f (some .int) ro t 0 [(0, .ref (za E 4)), (1, .int x1), (2, .int x2)] []
  unfold mX6_form at hF
  refine z_aload_n 0 dX6_form_0 rfl rfl ?_
  refine z_getr fr_RX6_35 dX6_form_1 ?_
  refine z_aload_n 0 dX6_form_4 rfl rfl ?_
  refine z_getr fr_RX6_20 dX6_form_5 ?_
  refine z_iload_n 1 dX6_form_8 rfl rfl ?_
  obtain ⟨r1072, t1073, hc1074, hF⟩ := zbd_at hF
  refine z_callVi (ctX5_get (E := E) (sh := shC) (f := f - 1) (by omega) (k := 34) (n := 400) rfl rfl hc1074) yy_X5_get yv_X5_get ob_C_34 lk_RX6_55 (by omega) rfl rfl (Nat.le_of_ble_eq_true rfl) dX6_form_9 ?_
  refine z_iload_n 2 dX6_form_12 rfl rfl ?_
  refine z_iadd dX6_form_13 ?_
  obtain ⟨r1075, t1076, hc1077, hF⟩ := zbd_at hF
  refine z_callVi (ctX5_get (E := E) (sh := shC) (f := f - 1) (by omega) (k := 44) (n := 1600) rfl rfl hc1077) yy_X5_get yv_X5_get ob_C_44 lk_RX6_55 (by omega) rfl rfl (Nat.le_of_ble_eq_true rfl) dX6_form_14 ?_
  exact z_iret hF dX6_form_17
-- SessionHouse$Forms.settled(I)I
theorem dX2_settled_0 : decode cX2_settled 0 = .ok (.iload_n 1, 1) := by decide +kernel
theorem dX2_settled_1 : decode cX2_settled 1 = .ok (.iconst 1, 1) := by decide +kernel
theorem dX2_settled_2 : decode cX2_settled 2 = .ok (.ishr, 1) := by decide +kernel
theorem dX2_settled_3 : decode cX2_settled 3 = .ok (.istore_n 2, 1) := by decide +kernel
theorem dX2_settled_4 : decode cX2_settled 4 = .ok (.aload_n 0, 1) := by decide +kernel
theorem dX2_settled_5 : decode cX2_settled 5 = .ok (.getfield 14, 3) := by decide +kernel
theorem dX2_settled_8 : decode cX2_settled 8 = .ok (.iload_n 2, 1) := by decide +kernel
theorem dX2_settled_9 : decode cX2_settled 9 = .ok (.invokevirtual 74, 3) := by decide +kernel
theorem dX2_settled_12 : decode cX2_settled 12 = .ok (.istore_n 3, 1) := by decide +kernel
theorem dX2_settled_13 : decode cX2_settled 13 = .ok (.iload_n 3, 1) := by decide +kernel
theorem dX2_settled_14 : decode cX2_settled 14 = .ok (.iconst 2, 1) := by decide +kernel
theorem dX2_settled_15 : decode cX2_settled 15 = .ok (.if_icmp .eq 10, 3) := by decide +kernel
theorem dX2_settled_18 : decode cX2_settled 18 = .ok (.iload_n 3, 1) := by decide +kernel
theorem dX2_settled_19 : decode cX2_settled 19 = .ok (.iconst 3, 1) := by decide +kernel
theorem dX2_settled_20 : decode cX2_settled 20 = .ok (.if_icmp .eq 5, 3) := by decide +kernel
theorem dX2_settled_23 : decode cX2_settled 23 = .ok (.iload_n 1, 1) := by decide +kernel
theorem dX2_settled_24 : decode cX2_settled 24 = .ok (.ireturn, 1) := by decide +kernel
theorem dX2_settled_25 : decode cX2_settled 25 = .ok (.aload_n 0, 1) := by decide +kernel
theorem dX2_settled_26 : decode cX2_settled 26 = .ok (.getfield 44, 3) := by decide +kernel
theorem dX2_settled_29 : decode cX2_settled 29 = .ok (.aload_n 0, 1) := by decide +kernel
theorem dX2_settled_30 : decode cX2_settled 30 = .ok (.getfield 41, 3) := by decide +kernel
theorem dX2_settled_33 : decode cX2_settled 33 = .ok (.aload_n 0, 1) := by decide +kernel
theorem dX2_settled_34 : decode cX2_settled 34 = .ok (.getfield 20, 3) := by decide +kernel
theorem dX2_settled_37 : decode cX2_settled 37 = .ok (.iload_n 2, 1) := by decide +kernel
theorem dX2_settled_38 : decode cX2_settled 38 = .ok (.invokevirtual 74, 3) := by decide +kernel
theorem dX2_settled_41 : decode cX2_settled 41 = .ok (.invokevirtual 74, 3) := by decide +kernel
theorem dX2_settled_44 : decode cX2_settled 44 = .ok (.invokevirtual 74, 3) := by decide +kernel
theorem dX2_settled_47 : decode cX2_settled 47 = .ok (.iload_n 3, 1) := by decide +kernel
theorem dX2_settled_48 : decode cX2_settled 48 = .ok (.iconst 1, 1) := by decide +kernel
theorem dX2_settled_49 : decode cX2_settled 49 = .ok (.iand, 1) := by decide +kernel
theorem dX2_settled_50 : decode cX2_settled 50 = .ok (.ixor, 1) := by decide +kernel
theorem dX2_settled_51 : decode cX2_settled 51 = .ok (.iload_n 1, 1) := by decide +kernel
theorem dX2_settled_52 : decode cX2_settled 52 = .ok (.iconst 1, 1) := by decide +kernel
theorem dX2_settled_53 : decode cX2_settled 53 = .ok (.iand, 1) := by decide +kernel
theorem dX2_settled_54 : decode cX2_settled 54 = .ok (.ixor, 1) := by decide +kernel
theorem dX2_settled_55 : decode cX2_settled 55 = .ok (.ireturn, 1) := by decide +kernel
def bX2_settled_25 (x1 : Int32) (x2 : Int32) (x3 : Int32) (t : zS) : zR := zbd (mX5_get 10 3000 x2 t) fun r1078 t1079 => zbd (mX5_get 24 1600 r1078 t1079) fun r1081 t1082 => zbd (mX5_get 26 400 r1081 t1082) fun r1084 t1085 => some (((r1084 ^^^ (x3 &&& 1)) ^^^ (x1 &&& 1)), t1085)
def mX2_settled (x1 : Int32) (t : zS) : zR := zlet (x1 >>> (1 &&& 31)) fun v1087 => zbd (mX5_get 8 3000 v1087 t) fun r1088 t1089 => if r1088 = 2 then bX2_settled_25  x1 v1087 r1088 t1089 else if r1088 = 3 then bX2_settled_25  x1 v1087 r1088 t1089 else some (x1, t1089)
set_option maxHeartbeats 4000000 in
set_option maxRecDepth 20000 in
theorem wbX2_settled_25 {E : zE} {C : zC} {f : Nat} {ro : Int32 × zS} (hf : 2 ≤ f) (x1 : Int32) (x2 : Int32) (x3 : Int32) (t : zS) (hF : bX2_settled_25  x1 x2 x3 t = some ro) : zJ E shC C cX2_settled RX2 4 f (some .int) ro t 25 [(0, .ref (za E 3)), (1, .int x1), (2, .int x2), (3, .int x3)] [] := by
  unfold bX2_settled_25 at hF
  refine z_aload_n 0 dX2_settled_25 rfl rfl ?_
  refine z_getr fr_RX2_44 dX2_settled_26 ?_
  refine z_aload_n 0 dX2_settled_29 rfl rfl ?_
  refine z_getr fr_RX2_41 dX2_settled_30 ?_
  refine z_aload_n 0 dX2_settled_33 rfl rfl ?_
  refine z_getr fr_RX2_20 dX2_settled_34 ?_
  refine z_iload_n 2 dX2_settled_37 rfl rfl ?_
  obtain ⟨r1078, t1079, hc1080, hF⟩ := zbd_at hF
  refine z_callVi (ctX5_get (E := E) (sh := shC) (f := f - 1) (by omega) (k := 10) (n := 3000) rfl rfl hc1080) yy_X5_get yv_X5_get ob_C_10 lk_RX2_74 (by omega) rfl rfl (Nat.le_of_ble_eq_true rfl) dX2_settled_38 ?_
  obtain ⟨r1081, t1082, hc1083, hF⟩ := zbd_at hF
  refine z_callVi (ctX5_get (E := E) (sh := shC) (f := f - 1) (by omega) (k := 24) (n := 1600) rfl rfl hc1083) yy_X5_get yv_X5_get ob_C_24 lk_RX2_74 (by omega) rfl rfl (Nat.le_of_ble_eq_true rfl) dX2_settled_41 ?_
  obtain ⟨r1084, t1085, hc1086, hF⟩ := zbd_at hF
  refine z_callVi (ctX5_get (E := E) (sh := shC) (f := f - 1) (by omega) (k := 26) (n := 400) rfl rfl hc1086) yy_X5_get yv_X5_get ob_C_26 lk_RX2_74 (by omega) rfl rfl (Nat.le_of_ble_eq_true rfl) dX2_settled_44 ?_
  refine z_iload_n 3 dX2_settled_47 rfl rfl ?_
  refine z_iconst (v := 1) dX2_settled_48 (by decide) ?_
  refine z_iand dX2_settled_49 ?_
  refine z_ixor dX2_settled_50 ?_
  refine z_iload_n 1 dX2_settled_51 rfl rfl ?_
  refine z_iconst (v := 1) dX2_settled_52 (by decide) ?_
  refine z_iand dX2_settled_53 ?_
  refine z_ixor dX2_settled_54 ?_
  exact z_iret hF dX2_settled_55
set_option maxHeartbeats 4000000 in
set_option maxRecDepth 20000 in
theorem ctX2_settled {E : zE} {f : Nat} (hf : 2 ≤ f) {x1 : Int32} {t : zS} {ro : Int32 × zS} (hF : mX2_settled  x1 t = some ro) : zM E shC f yX2_settled cX2_settled 4 (some .int) [.ref (za E 3), .int x1] t ro := by
  refine zM_of (by decide) (Nat.le_of_ble_eq_true rfl) (fun C => ?_)
  show zJ E shC C cX2_settled RX2 4 f (some .int) ro t 0 [(0, .ref (za E 3)), (1, .int x1)] []
  unfold mX2_settled at hF
  refine z_iload_n 1 dX2_settled_0 rfl rfl ?_
  refine z_iconst (v := 1) dX2_settled_1 (by decide) ?_
  refine z_ishr dX2_settled_2 ?_
  refine z_topi (fun v1087 ev1087 => ?_)
  have hF := zlet_at ev1087 hF
  refine z_istore_n (lv' := [(2, .int v1087), (0, .ref (za E 3)), (1, .int x1)]) dX2_settled_3 rfl (by decide) rfl ?_
  refine z_aload_n 1 dX2_settled_4 rfl rfl ?_
  refine z_getr fr_RX2_14 dX2_settled_5 ?_
  refine z_iload_n 0 dX2_settled_8 rfl rfl ?_
  obtain ⟨r1088, t1089, hc1090, hF⟩ := zbd_at hF
  refine z_callVi (ctX5_get (E := E) (sh := shC) (f := f - 1) (by omega) (k := 8) (n := 3000) rfl rfl hc1090) yy_X5_get yv_X5_get ob_C_8 lk_RX2_74 (by omega) rfl rfl (Nat.le_of_ble_eq_true rfl) dX2_settled_9 ?_
  refine z_istore_n (lv' := [(3, .int r1088), (2, .int v1087), (0, .ref (za E 3)), (1, .int x1)]) dX2_settled_12 rfl (by decide) rfl ?_
  refine z_iload_n 0 dX2_settled_13 rfl rfl ?_
  refine z_iconst (v := 2) dX2_settled_14 (by decide) ?_
  refine z_icmp_eq (tgt := 25) dX2_settled_15 (by decide) (fun hc => ?_) (fun hc => ?_)
  · have hF := zif_t hc hF
    refine z_sub [2, 3, 1, 0] rfl ?_
    exact wbX2_settled_25 hf  x1 v1087 r1088 _ hF
  · have hF := zif_f hc hF
    refine z_iload_n 0 dX2_settled_18 rfl rfl ?_
    refine z_iconst (v := 3) dX2_settled_19 (by decide) ?_
    refine z_icmp_eq (tgt := 25) dX2_settled_20 (by decide) (fun hc => ?_) (fun hc => ?_)
    · have hF := zif_t hc hF
      refine z_sub [2, 3, 1, 0] rfl ?_
      exact wbX2_settled_25 hf  x1 v1087 r1088 _ hF
    · have hF := zif_f hc hF
      refine z_iload_n 3 dX2_settled_23 rfl rfl ?_
      exact z_iret hF dX2_settled_24
-- SessionHouse$Forms.kindOf(I)I
theorem dX2_kindOf_0 : decode cX2_kindOf 0 = .ok (.aload_n 0, 1) := by decide +kernel
theorem dX2_kindOf_1 : decode cX2_kindOf 1 = .ok (.getfield 14, 3) := by decide +kernel
theorem dX2_kindOf_4 : decode cX2_kindOf 4 = .ok (.iload_n 1, 1) := by decide +kernel
theorem dX2_kindOf_5 : decode cX2_kindOf 5 = .ok (.iconst 1, 1) := by decide +kernel
theorem dX2_kindOf_6 : decode cX2_kindOf 6 = .ok (.ishr, 1) := by decide +kernel
theorem dX2_kindOf_7 : decode cX2_kindOf 7 = .ok (.invokevirtual 74, 3) := by decide +kernel
theorem dX2_kindOf_10 : decode cX2_kindOf 10 = .ok (.istore_n 2, 1) := by decide +kernel
theorem dX2_kindOf_11 : decode cX2_kindOf 11 = .ok (.iload_n 2, 1) := by decide +kernel
theorem dX2_kindOf_12 : decode cX2_kindOf 12 = .ok (.iconst 4, 1) := by decide +kernel
theorem dX2_kindOf_13 : decode cX2_kindOf 13 = .ok (.if_icmp .lt 11, 3) := by decide +kernel
theorem dX2_kindOf_16 : decode cX2_kindOf 16 = .ok (.iload_n 2, 1) := by decide +kernel
theorem dX2_kindOf_17 : decode cX2_kindOf 17 = .ok (.iload_n 1, 1) := by decide +kernel
theorem dX2_kindOf_18 : decode cX2_kindOf 18 = .ok (.iconst 1, 1) := by decide +kernel
theorem dX2_kindOf_19 : decode cX2_kindOf 19 = .ok (.iand, 1) := by decide +kernel
theorem dX2_kindOf_20 : decode cX2_kindOf 20 = .ok (.ixor, 1) := by decide +kernel
theorem dX2_kindOf_21 : decode cX2_kindOf 21 = .ok (.goto 4, 3) := by decide +kernel
theorem dX2_kindOf_24 : decode cX2_kindOf 24 = .ok (.iload_n 2, 1) := by decide +kernel
theorem dX2_kindOf_25 : decode cX2_kindOf 25 = .ok (.ireturn, 1) := by decide +kernel
def mX2_kindOf (x1 : Int32) (t : zS) : zR := zbd (mX5_get 8 3000 (x1 >>> (1 &&& 31)) t) fun r1091 t1092 => if r1091 < 4 then some (r1091, t1092) else some ((r1091 ^^^ (x1 &&& 1)), t1092)
set_option maxHeartbeats 4000000 in
set_option maxRecDepth 20000 in
theorem ctX2_kindOf {E : zE} {f : Nat} (hf : 2 ≤ f) {x1 : Int32} {t : zS} {ro : Int32 × zS} (hF : mX2_kindOf  x1 t = some ro) : zM E shC f yX2_kindOf cX2_kindOf 3 (some .int) [.ref (za E 3), .int x1] t ro := by
  refine zM_of (by decide) (Nat.le_of_ble_eq_true rfl) (fun C => ?_)
  show zJ E shC C cX2_kindOf RX2 3 f (some .int) ro t 0 [(0, .ref (za E 3)), (1, .int x1)] []
  unfold mX2_kindOf at hF
  refine z_aload_n 0 dX2_kindOf_0 rfl rfl ?_
  refine z_getr fr_RX2_14 dX2_kindOf_1 ?_
  refine z_iload_n 1 dX2_kindOf_4 rfl rfl ?_
  refine z_iconst (v := 1) dX2_kindOf_5 (by decide) ?_
  refine z_ishr dX2_kindOf_6 ?_
  obtain ⟨r1091, t1092, hc1093, hF⟩ := zbd_at hF
  refine z_callVi (ctX5_get (E := E) (sh := shC) (f := f - 1) (by omega) (k := 8) (n := 3000) rfl rfl hc1093) yy_X5_get yv_X5_get ob_C_8 lk_RX2_74 (by omega) rfl rfl (Nat.le_of_ble_eq_true rfl) dX2_kindOf_7 ?_
  refine z_istore_n (lv' := [(2, .int r1091), (0, .ref (za E 3)), (1, .int x1)]) dX2_kindOf_10 rfl (by decide) rfl ?_
  refine z_iload_n 0 dX2_kindOf_11 rfl rfl ?_
  refine z_iconst (v := 4) dX2_kindOf_12 (by decide) ?_
  refine z_icmp_lt (tgt := 24) dX2_kindOf_13 (by decide) (fun hc => ?_) (fun hc => ?_)
  · have hF := zif_t hc hF
    refine z_iload_n 0 dX2_kindOf_24 rfl rfl ?_
    exact z_iret hF dX2_kindOf_25
  · have hF := zif_f hc hF
    refine z_iload_n 0 dX2_kindOf_16 rfl rfl ?_
    refine z_iload_n 2 dX2_kindOf_17 rfl rfl ?_
    refine z_iconst (v := 1) dX2_kindOf_18 (by decide) ?_
    refine z_iand dX2_kindOf_19 ?_
    refine z_ixor dX2_kindOf_20 ?_
    refine z_goto (tgt := 25) dX2_kindOf_21 (by decide) ?_
    exact z_iret hF dX2_kindOf_25
-- SessionHouse$Checker.hold(II)I
theorem dX1_hold_0 : decode cX1_hold 0 = .ok (.aload_n 0, 1) := by decide +kernel
theorem dX1_hold_1 : decode cX1_hold 1 = .ok (.getfield 21, 3) := by decide +kernel
theorem dX1_hold_4 : decode cX1_hold 4 = .ok (.iload_n 2, 1) := by decide +kernel
theorem dX1_hold_5 : decode cX1_hold 5 = .ok (.invokevirtual 80, 3) := by decide +kernel
theorem dX1_hold_8 : decode cX1_hold 8 = .ok (.istore_n 3, 1) := by decide +kernel
theorem dX1_hold_9 : decode cX1_hold 9 = .ok (.aload_n 0, 1) := by decide +kernel
theorem dX1_hold_10 : decode cX1_hold 10 = .ok (.getfield 21, 3) := by decide +kernel
theorem dX1_hold_13 : decode cX1_hold 13 = .ok (.iload_n 3, 1) := by decide +kernel
theorem dX1_hold_14 : decode cX1_hold 14 = .ok (.invokevirtual 85, 3) := by decide +kernel
theorem dX1_hold_17 : decode cX1_hold 17 = .ok (.ifCond .ne 7, 3) := by decide +kernel
theorem dX1_hold_20 : decode cX1_hold 20 = .ok (.iconst 1, 1) := by decide +kernel
theorem dX1_hold_21 : decode cX1_hold 21 = .ok (.goto 4, 3) := by decide +kernel
theorem dX1_hold_24 : decode cX1_hold 24 = .ok (.iconst 0, 1) := by decide +kernel
theorem dX1_hold_25 : decode cX1_hold 25 = .ok (.istore 4, 2) := by decide +kernel
theorem dX1_hold_27 : decode cX1_hold 27 = .ok (.aload_n 0, 1) := by decide +kernel
theorem dX1_hold_28 : decode cX1_hold 28 = .ok (.getfield 15, 3) := by decide +kernel
theorem dX1_hold_31 : decode cX1_hold 31 = .ok (.iload_n 1, 1) := by decide +kernel
theorem dX1_hold_32 : decode cX1_hold 32 = .ok (.iload 4, 2) := by decide +kernel
theorem dX1_hold_34 : decode cX1_hold 34 = .ok (.ifCond .eq 7, 3) := by decide +kernel
theorem dX1_hold_37 : decode cX1_hold 37 = .ok (.iconst (-1), 1) := by decide +kernel
theorem dX1_hold_38 : decode cX1_hold 38 = .ok (.goto 4, 3) := by decide +kernel
theorem dX1_hold_41 : decode cX1_hold 41 = .ok (.iload_n 3, 1) := by decide +kernel
theorem dX1_hold_42 : decode cX1_hold 42 = .ok (.invokevirtual 88, 3) := by decide +kernel
theorem dX1_hold_45 : decode cX1_hold 45 = .ok (.iload 4, 2) := by decide +kernel
theorem dX1_hold_47 : decode cX1_hold 47 = .ok (.ifCond .eq 7, 3) := by decide +kernel
theorem dX1_hold_50 : decode cX1_hold 50 = .ok (.iconst 1, 1) := by decide +kernel
theorem dX1_hold_51 : decode cX1_hold 51 = .ok (.goto 4, 3) := by decide +kernel
theorem dX1_hold_54 : decode cX1_hold 54 = .ok (.iconst 0, 1) := by decide +kernel
theorem dX1_hold_55 : decode cX1_hold 55 = .ok (.ireturn, 1) := by decide +kernel
def bX1_hold_42 (x4 : Int32) (y0 : Int32) (y1 : Int32) (t : zS) : zR := zbd (mX5_set 57 80000 y1 y0 t) fun r1094 t1095 => if x4 = 0 then some (0, t1095) else some (1, t1095)
def bX1_hold_25 (x1 : Int32) (x3 : Int32) (y0 : Int32) (t : zS) : zR := if y0 = 0 then bX1_hold_42  y0 x3 x1 t else bX1_hold_42  y0 (-1) x1 t
def mX1_hold (x1 : Int32) (x2 : Int32) (t : zS) : zR := zbd (mX2_settled x2 t) fun r1097 t1098 => zbd (mX2_kindOf r1097 t1098) fun r1100 t1101 => if r1100 = 0 then bX1_hold_25  x1 r1097 1 t1101 else bX1_hold_25  x1 r1097 0 t1101
set_option maxHeartbeats 4000000 in
set_option maxRecDepth 20000 in
theorem wbX1_hold_42 {E : zE} {C : zC} {f : Nat} {ro : Int32 × zS} (hf : 3 ≤ f) (x4 : Int32) (y0 : Int32) (y1 : Int32) (t : zS) (hF : bX1_hold_42  x4 y0 y1 t = some ro) : zJ E shC C cX1_hold RX1 5 f (some .int) ro t 42 [(4, .int x4)] [.int y0, .int y1, .ref (za E 57)] := by
  unfold bX1_hold_42 at hF
  obtain ⟨r1094, t1095, hc1096, hF⟩ := zbd_at hF
  refine z_callVv (ctX5_set (E := E) (sh := shC) (f := f - 1) (by omega) (k := 57) (n := 80000) rfl rfl hc1096) yy_X5_set yv_X5_set ob_C_57 lk_RX1_88 (by omega) rfl rfl (Nat.le_of_ble_eq_true rfl) dX1_hold_42 ?_
  refine z_iload 0 dX1_hold_45 rfl ?_
  refine z_if_eq (tgt := 54) dX1_hold_47 (by decide) (fun hc => ?_) (fun hc => ?_)
  · have hF := zif_t hc hF
    refine z_iconst (v := 0) dX1_hold_54 (by decide) ?_
    exact z_iret hF dX1_hold_55
  · have hF := zif_f hc hF
    refine z_iconst (v := 1) dX1_hold_50 (by decide) ?_
    refine z_goto (tgt := 55) dX1_hold_51 (by decide) ?_
    exact z_iret hF dX1_hold_55
set_option maxHeartbeats 4000000 in
set_option maxRecDepth 20000 in
theorem wbX1_hold_25 {E : zE} {C : zC} {f : Nat} {ro : Int32 × zS} (hf : 3 ≤ f) (x1 : Int32) (x3 : Int32) (y0 : Int32) (t : zS) (hF : bX1_hold_25  x1 x3 y0 t = some ro) : zJ E shC C cX1_hold RX1 5 f (some .int) ro t 25 [(0, .ref (za E 6)), (1, .int x1), (3, .int x3)] [.int y0] := by
  unfold bX1_hold_25 at hF
  refine z_istore (lv' := [(4, .int y0), (0, .ref (za E 6)), (1, .int x1), (3, .int x3)]) dX1_hold_25 (by decide) rfl ?_
  refine z_aload_n 1 dX1_hold_27 rfl rfl ?_
  refine z_getr fr_RX1_15 dX1_hold_28 ?_
  refine z_iload_n 2 dX1_hold_31 rfl rfl ?_
  refine z_iload 0 dX1_hold_32 rfl ?_
  refine z_if_eq (tgt := 41) dX1_hold_34 (by decide) (fun hc => ?_) (fun hc => ?_)
  · have hF := zif_t hc hF
    refine z_iload_n 3 dX1_hold_41 rfl rfl ?_
    refine z_sub [0] rfl ?_
    exact wbX1_hold_42 hf  y0 x3 x1 _ hF
  · have hF := zif_f hc hF
    refine z_iconst (v := (-1)) dX1_hold_37 (by decide) ?_
    refine z_goto (tgt := 42) dX1_hold_38 (by decide) ?_
    refine z_sub [0] rfl ?_
    exact wbX1_hold_42 hf  y0 (-1) x1 _ hF
set_option maxHeartbeats 4000000 in
set_option maxRecDepth 20000 in
theorem ctX1_hold {E : zE} {f : Nat} (hf : 3 ≤ f) {x1 : Int32} {x2 : Int32} {t : zS} {ro : Int32 × zS} (hF : mX1_hold  x1 x2 t = some ro) : zM E shC f yX1_hold cX1_hold 5 (some .int) [.ref (za E 6), .int x1, .int x2] t ro := by
  refine zM_of (by decide) (Nat.le_of_ble_eq_true rfl) (fun C => ?_)
  show zJ E shC C cX1_hold RX1 5 f (some .int) ro t 0 [(0, .ref (za E 6)), (1, .int x1), (2, .int x2)] []
  unfold mX1_hold at hF
  refine z_aload_n 0 dX1_hold_0 rfl rfl ?_
  refine z_getr fr_RX1_21 dX1_hold_1 ?_
  refine z_iload_n 2 dX1_hold_4 rfl rfl ?_
  obtain ⟨r1097, t1098, hc1099, hF⟩ := zbd_at hF
  refine z_callVi (ctX2_settled (E := E) (f := f - 1) (by omega) hc1099) yy_X2_settled yv_X2_settled ob_C_3 lk_RX1_80 (by omega) rfl rfl (Nat.le_of_ble_eq_true rfl) dX1_hold_5 ?_
  refine z_istore_n (lv' := [(3, .int r1097), (0, .ref (za E 6)), (1, .int x1), (2, .int x2)]) dX1_hold_8 rfl (by decide) rfl ?_
  refine z_aload_n 1 dX1_hold_9 rfl rfl ?_
  refine z_getr fr_RX1_21 dX1_hold_10 ?_
  refine z_iload_n 0 dX1_hold_13 rfl rfl ?_
  obtain ⟨r1100, t1101, hc1102, hF⟩ := zbd_at hF
  refine z_callVi (ctX2_kindOf (E := E) (f := f - 1) (by omega) hc1102) yy_X2_kindOf yv_X2_kindOf ob_C_3 lk_RX1_85 (by omega) rfl rfl (Nat.le_of_ble_eq_true rfl) dX1_hold_14 ?_
  refine z_if_ne (tgt := 24) dX1_hold_17 (by decide) (fun hc => ?_) (fun hc => ?_)
  · have hF := zif_f hc hF
    refine z_iconst (v := 0) dX1_hold_24 (by decide) ?_
    refine z_sub [1, 2, 0] rfl ?_
    exact wbX1_hold_25 hf  x1 r1097 0 _ hF
  · have hF := zif_t hc hF
    refine z_iconst (v := 1) dX1_hold_20 (by decide) ?_
    refine z_goto (tgt := 25) dX1_hold_21 (by decide) ?_
    refine z_sub [1, 2, 0] rfl ?_
    exact wbX1_hold_25 hf  x1 r1097 1 _ hF
-- SessionHouse$Checker.fitsParameters(I)Z
theorem dX1_fitsParameters_0 : decode cX1_fitsParameters 0 = .ok (.aload_n 0, 1) := by decide +kernel
theorem dX1_fitsParameters_1 : decode cX1_fitsParameters 1 = .ok (.getfield 33, 3) := by decide +kernel
theorem dX1_fitsParameters_4 : decode cX1_fitsParameters 4 = .ok (.aload_n 0, 1) := by decide +kernel
theorem dX1_fitsParameters_5 : decode cX1_fitsParameters 5 = .ok (.getfield 29, 3) := by decide +kernel
theorem dX1_fitsParameters_8 : decode cX1_fitsParameters 8 = .ok (.getfield 150, 3) := by decide +kernel
theorem dX1_fitsParameters_11 : decode cX1_fitsParameters 11 = .ok (.iload_n 1, 1) := by decide +kernel
theorem dX1_fitsParameters_12 : decode cX1_fitsParameters 12 = .ok (.invokevirtual 46, 3) := by decide +kernel
theorem dX1_fitsParameters_15 : decode cX1_fitsParameters 15 = .ok (.invokevirtual 180, 3) := by decide +kernel
theorem dX1_fitsParameters_18 : decode cX1_fitsParameters 18 = .ok (.istore_n 2, 1) := by decide +kernel
theorem dX1_fitsParameters_19 : decode cX1_fitsParameters 19 = .ok (.aload_n 0, 1) := by decide +kernel
theorem dX1_fitsParameters_20 : decode cX1_fitsParameters 20 = .ok (.getfield 29, 3) := by decide +kernel
theorem dX1_fitsParameters_23 : decode cX1_fitsParameters 23 = .ok (.getfield 128, 3) := by decide +kernel
theorem dX1_fitsParameters_26 : decode cX1_fitsParameters 26 = .ok (.iload_n 1, 1) := by decide +kernel
theorem dX1_fitsParameters_27 : decode cX1_fitsParameters 27 = .ok (.invokevirtual 46, 3) := by decide +kernel
theorem dX1_fitsParameters_30 : decode cX1_fitsParameters 30 = .ok (.aload_n 0, 1) := by decide +kernel
theorem dX1_fitsParameters_31 : decode cX1_fitsParameters 31 = .ok (.getfield 29, 3) := by decide +kernel
theorem dX1_fitsParameters_34 : decode cX1_fitsParameters 34 = .ok (.getfield 125, 3) := by decide +kernel
theorem dX1_fitsParameters_37 : decode cX1_fitsParameters 37 = .ok (.iload_n 1, 1) := by decide +kernel
theorem dX1_fitsParameters_38 : decode cX1_fitsParameters 38 = .ok (.invokevirtual 46, 3) := by decide +kernel
theorem dX1_fitsParameters_41 : decode cX1_fitsParameters 41 = .ok (.isub, 1) := by decide +kernel
theorem dX1_fitsParameters_42 : decode cX1_fitsParameters 42 = .ok (.istore_n 3, 1) := by decide +kernel
theorem dX1_fitsParameters_43 : decode cX1_fitsParameters 43 = .ok (.aload_n 0, 1) := by decide +kernel
theorem dX1_fitsParameters_44 : decode cX1_fitsParameters 44 = .ok (.getfield 29, 3) := by decide +kernel
theorem dX1_fitsParameters_47 : decode cX1_fitsParameters 47 = .ok (.getfield 147, 3) := by decide +kernel
theorem dX1_fitsParameters_50 : decode cX1_fitsParameters 50 = .ok (.iload_n 1, 1) := by decide +kernel
theorem dX1_fitsParameters_51 : decode cX1_fitsParameters 51 = .ok (.invokevirtual 46, 3) := by decide +kernel
theorem dX1_fitsParameters_54 : decode cX1_fitsParameters 54 = .ok (.ifCond .ge 24, 3) := by decide +kernel
theorem dX1_fitsParameters_57 : decode cX1_fitsParameters 57 = .ok (.iload_n 3, 1) := by decide +kernel
theorem dX1_fitsParameters_58 : decode cX1_fitsParameters 58 = .ok (.aload_n 0, 1) := by decide +kernel
theorem dX1_fitsParameters_59 : decode cX1_fitsParameters 59 = .ok (.getfield 33, 3) := by decide +kernel
theorem dX1_fitsParameters_62 : decode cX1_fitsParameters 62 = .ok (.getfield 56, 3) := by decide +kernel
theorem dX1_fitsParameters_65 : decode cX1_fitsParameters 65 = .ok (.iload_n 2, 1) := by decide +kernel
theorem dX1_fitsParameters_66 : decode cX1_fitsParameters 66 = .ok (.invokevirtual 46, 3) := by decide +kernel
theorem dX1_fitsParameters_69 : decode cX1_fitsParameters 69 = .ok (.if_icmp .ne 7, 3) := by decide +kernel
theorem dX1_fitsParameters_72 : decode cX1_fitsParameters 72 = .ok (.iconst 1, 1) := by decide +kernel
theorem dX1_fitsParameters_73 : decode cX1_fitsParameters 73 = .ok (.goto 4, 3) := by decide +kernel
theorem dX1_fitsParameters_76 : decode cX1_fitsParameters 76 = .ok (.iconst 0, 1) := by decide +kernel
theorem dX1_fitsParameters_77 : decode cX1_fitsParameters 77 = .ok (.ireturn, 1) := by decide +kernel
theorem dX1_fitsParameters_78 : decode cX1_fitsParameters 78 = .ok (.iload_n 3, 1) := by decide +kernel
theorem dX1_fitsParameters_79 : decode cX1_fitsParameters 79 = .ok (.iconst 1, 1) := by decide +kernel
theorem dX1_fitsParameters_80 : decode cX1_fitsParameters 80 = .ok (.iadd, 1) := by decide +kernel
theorem dX1_fitsParameters_81 : decode cX1_fitsParameters 81 = .ok (.aload_n 0, 1) := by decide +kernel
theorem dX1_fitsParameters_82 : decode cX1_fitsParameters 82 = .ok (.getfield 33, 3) := by decide +kernel
theorem dX1_fitsParameters_85 : decode cX1_fitsParameters 85 = .ok (.getfield 56, 3) := by decide +kernel
theorem dX1_fitsParameters_88 : decode cX1_fitsParameters 88 = .ok (.iload_n 2, 1) := by decide +kernel
theorem dX1_fitsParameters_89 : decode cX1_fitsParameters 89 = .ok (.invokevirtual 46, 3) := by decide +kernel
theorem dX1_fitsParameters_92 : decode cX1_fitsParameters 92 = .ok (.if_icmp .ne 19, 3) := by decide +kernel
theorem dX1_fitsParameters_95 : decode cX1_fitsParameters 95 = .ok (.aload_n 0, 1) := by decide +kernel
theorem dX1_fitsParameters_96 : decode cX1_fitsParameters 96 = .ok (.getfield 33, 3) := by decide +kernel
theorem dX1_fitsParameters_99 : decode cX1_fitsParameters 99 = .ok (.iload_n 2, 1) := by decide +kernel
theorem dX1_fitsParameters_100 : decode cX1_fitsParameters 100 = .ok (.iconst 0, 1) := by decide +kernel
theorem dX1_fitsParameters_101 : decode cX1_fitsParameters 101 = .ok (.invokevirtual 59, 3) := by decide +kernel
theorem dX1_fitsParameters_104 : decode cX1_fitsParameters 104 = .ok (.ifCond .lt 7, 3) := by decide +kernel
theorem dX1_fitsParameters_107 : decode cX1_fitsParameters 107 = .ok (.iconst 1, 1) := by decide +kernel
theorem dX1_fitsParameters_108 : decode cX1_fitsParameters 108 = .ok (.goto 4, 3) := by decide +kernel
theorem dX1_fitsParameters_111 : decode cX1_fitsParameters 111 = .ok (.iconst 0, 1) := by decide +kernel
theorem dX1_fitsParameters_112 : decode cX1_fitsParameters 112 = .ok (.ireturn, 1) := by decide +kernel
def mX1_fitsParameters (x1 : Int32) (t : zS) : zR := zbd (mX5_get 92 1000 x1 t) fun r1103 t1104 => zbd (mX6_find r1103 t1104) fun r1106 t1107 => zbd (mX5_get 96 1000 x1 t1107) fun r1109 t1110 => zbd (mX5_get 94 1000 x1 t1110) fun r1112 t1113 => zlet (r1109 - r1112) fun v1115 => zbd (mX5_get 90 1000 x1 t1113) fun r1116 t1117 => if 0 ≤ r1116 then zbd (mX5_get 36 400 r1106 t1117) fun r1119 t1120 => if (v1115 + 1) = r1119 then zbd (mX6_form r1106 0 t1120) fun r1122 t1123 => if r1122 < 0 then some (0, t1123) else some (1, t1123) else some (0, t1120) else zbd (mX5_get 36 400 r1106 t1117) fun r1125 t1126 => if v1115 = r1125 then some (1, t1126) else some (0, t1126)
set_option maxHeartbeats 4000000 in
set_option maxRecDepth 20000 in
theorem ctX1_fitsParameters {E : zE} {f : Nat} (hf : 3 ≤ f) {x1 : Int32} {t : zS} {ro : Int32 × zS} (hF : mX1_fitsParameters  x1 t = some ro) : zM E shC f yX1_fitsParameters cX1_fitsParameters 4 (some .boolean) [.ref (za E 6), .int x1] t ro := by
  refine zM_of (by decide) (Nat.le_of_ble_eq_true rfl) (fun C => ?_)
  show zJ E shC C cX1_fitsParameters RX1 4 f (some .boolean) ro t 0 [(0, .ref (za E 6)), (1, .int x1)] []
  unfold mX1_fitsParameters at hF
  refine z_aload_n 0 dX1_fitsParameters_0 rfl rfl ?_
  refine z_getr fr_RX1_33 dX1_fitsParameters_1 ?_
  refine z_aload_n 0 dX1_fitsParameters_4 rfl rfl ?_
  refine z_getr fr_RX1_29 dX1_fitsParameters_5 ?_
  refine z_getr fr_RX1_150 dX1_fitsParameters_8 ?_
  refine z_iload_n 1 dX1_fitsParameters_11 rfl rfl ?_
  obtain ⟨r1103, t1104, hc1105, hF⟩ := zbd_at hF
  refine z_callVi (ctX5_get (E := E) (sh := shC) (f := f - 1) (by omega) (k := 92) (n := 1000) rfl rfl hc1105) yy_X5_get yv_X5_get ob_C_92 lk_RX1_46 (by omega) rfl rfl (Nat.le_of_ble_eq_true rfl) dX1_fitsParameters_12 ?_
  obtain ⟨r1106, t1107, hc1108, hF⟩ := zbd_at hF
  refine z_callVi (ctX6_find (E := E) (f := f - 1) (by omega) hc1108) yy_X6_find yv_X6_find ob_C_4 lk_RX1_180 (by omega) rfl rfl (Nat.le_of_ble_eq_true rfl) dX1_fitsParameters_15 ?_
  refine z_istore_n (lv' := [(2, .int r1106), (0, .ref (za E 6)), (1, .int x1)]) dX1_fitsParameters_18 rfl (by decide) rfl ?_
  refine z_aload_n 1 dX1_fitsParameters_19 rfl rfl ?_
  refine z_getr fr_RX1_29 dX1_fitsParameters_20 ?_
  refine z_getr fr_RX1_128 dX1_fitsParameters_23 ?_
  refine z_iload_n 2 dX1_fitsParameters_26 rfl rfl ?_
  obtain ⟨r1109, t1110, hc1111, hF⟩ := zbd_at hF
  refine z_callVi (ctX5_get (E := E) (sh := shC) (f := f - 1) (by omega) (k := 96) (n := 1000) rfl rfl hc1111) yy_X5_get yv_X5_get ob_C_96 lk_RX1_46 (by omega) rfl rfl (Nat.le_of_ble_eq_true rfl) dX1_fitsParameters_27 ?_
  refine z_aload_n 1 dX1_fitsParameters_30 rfl rfl ?_
  refine z_getr fr_RX1_29 dX1_fitsParameters_31 ?_
  refine z_getr fr_RX1_125 dX1_fitsParameters_34 ?_
  refine z_iload_n 2 dX1_fitsParameters_37 rfl rfl ?_
  obtain ⟨r1112, t1113, hc1114, hF⟩ := zbd_at hF
  refine z_callVi (ctX5_get (E := E) (sh := shC) (f := f - 1) (by omega) (k := 94) (n := 1000) rfl rfl hc1114) yy_X5_get yv_X5_get ob_C_94 lk_RX1_46 (by omega) rfl rfl (Nat.le_of_ble_eq_true rfl) dX1_fitsParameters_38 ?_
  refine z_isub dX1_fitsParameters_41 ?_
  refine z_topi (fun v1115 ev1115 => ?_)
  have hF := zlet_at ev1115 hF
  refine z_istore_n (lv' := [(3, .int v1115), (2, .int r1106), (0, .ref (za E 6)), (1, .int x1)]) dX1_fitsParameters_42 rfl (by decide) rfl ?_
  refine z_aload_n 2 dX1_fitsParameters_43 rfl rfl ?_
  refine z_getr fr_RX1_29 dX1_fitsParameters_44 ?_
  refine z_getr fr_RX1_147 dX1_fitsParameters_47 ?_
  refine z_iload_n 3 dX1_fitsParameters_50 rfl rfl ?_
  obtain ⟨r1116, t1117, hc1118, hF⟩ := zbd_at hF
  refine z_callVi (ctX5_get (E := E) (sh := shC) (f := f - 1) (by omega) (k := 90) (n := 1000) rfl rfl hc1118) yy_X5_get yv_X5_get ob_C_90 lk_RX1_46 (by omega) rfl rfl (Nat.le_of_ble_eq_true rfl) dX1_fitsParameters_51 ?_
  refine z_if_ge (tgt := 78) dX1_fitsParameters_54 (by decide) (fun hc => ?_) (fun hc => ?_)
  · have hF := zif_t hc hF
    refine z_iload_n 0 dX1_fitsParameters_78 rfl rfl ?_
    refine z_iconst (v := 1) dX1_fitsParameters_79 (by decide) ?_
    refine z_iadd dX1_fitsParameters_80 ?_
    refine z_aload_n 2 dX1_fitsParameters_81 rfl rfl ?_
    refine z_getr fr_RX1_33 dX1_fitsParameters_82 ?_
    refine z_getr fr_RX1_56 dX1_fitsParameters_85 ?_
    refine z_iload_n 1 dX1_fitsParameters_88 rfl rfl ?_
    obtain ⟨r1119, t1120, hc1121, hF⟩ := zbd_at hF
    refine z_callVi (ctX5_get (E := E) (sh := shC) (f := f - 1) (by omega) (k := 36) (n := 400) rfl rfl hc1121) yy_X5_get yv_X5_get ob_C_36 lk_RX1_46 (by omega) rfl rfl (Nat.le_of_ble_eq_true rfl) dX1_fitsParameters_89 ?_
    refine z_icmp_ne (tgt := 111) dX1_fitsParameters_92 (by decide) (fun hc => ?_) (fun hc => ?_)
    · have hF := zif_f hc hF
      refine z_iconst (v := 0) dX1_fitsParameters_111 (by decide) ?_
      exact z_zret hF (by decide) dX1_fitsParameters_112
    · have hF := zif_t hc hF
      refine z_aload_n 2 dX1_fitsParameters_95 rfl rfl ?_
      refine z_getr fr_RX1_33 dX1_fitsParameters_96 ?_
      refine z_iload_n 1 dX1_fitsParameters_99 rfl rfl ?_
      refine z_iconst (v := 0) dX1_fitsParameters_100 (by decide) ?_
      obtain ⟨r1122, t1123, hc1124, hF⟩ := zbd_at hF
      refine z_callVi (ctX6_form (E := E) (f := f - 1) (by omega) hc1124) yy_X6_form yv_X6_form ob_C_4 lk_RX1_59 (by omega) rfl rfl (Nat.le_of_ble_eq_true rfl) dX1_fitsParameters_101 ?_
      refine z_if_lt (tgt := 111) dX1_fitsParameters_104 (by decide) (fun hc => ?_) (fun hc => ?_)
      · have hF := zif_t hc hF
        refine z_iconst (v := 0) dX1_fitsParameters_111 (by decide) ?_
        exact z_zret hF (by decide) dX1_fitsParameters_112
      · have hF := zif_f hc hF
        refine z_iconst (v := 1) dX1_fitsParameters_107 (by decide) ?_
        refine z_goto (tgt := 112) dX1_fitsParameters_108 (by decide) ?_
        exact z_zret hF (by decide) dX1_fitsParameters_112
  · have hF := zif_f hc hF
    refine z_iload_n 0 dX1_fitsParameters_57 rfl rfl ?_
    refine z_aload_n 2 dX1_fitsParameters_58 rfl rfl ?_
    refine z_getr fr_RX1_33 dX1_fitsParameters_59 ?_
    refine z_getr fr_RX1_56 dX1_fitsParameters_62 ?_
    refine z_iload_n 1 dX1_fitsParameters_65 rfl rfl ?_
    obtain ⟨r1125, t1126, hc1127, hF⟩ := zbd_at hF
    refine z_callVi (ctX5_get (E := E) (sh := shC) (f := f - 1) (by omega) (k := 36) (n := 400) rfl rfl hc1127) yy_X5_get yv_X5_get ob_C_36 lk_RX1_46 (by omega) rfl rfl (Nat.le_of_ble_eq_true rfl) dX1_fitsParameters_66 ?_
    refine z_icmp_ne (tgt := 76) dX1_fitsParameters_69 (by decide) (fun hc => ?_) (fun hc => ?_)
    · have hF := zif_f hc hF
      refine z_iconst (v := 0) dX1_fitsParameters_76 (by decide) ?_
      exact z_zret hF (by decide) dX1_fitsParameters_77
    · have hF := zif_t hc hF
      refine z_iconst (v := 1) dX1_fitsParameters_72 (by decide) ?_
      refine z_goto (tgt := 77) dX1_fitsParameters_73 (by decide) ?_
      exact z_zret hF (by decide) dX1_fitsParameters_77
-- SessionHouse$Formulas.isWithout(LSessionHouse$Ints;II)Z
theorem dX3_isWithout_0 : decode cX3_isWithout 0 = .ok (.iload_n 2, 1) := by decide +kernel
theorem dX3_isWithout_1 : decode cX3_isWithout 1 = .ok (.istore 4, 2) := by decide +kernel
theorem dX3_isWithout_3 : decode cX3_isWithout 3 = .ok (.iload 4, 2) := by decide +kernel
theorem dX3_isWithout_5 : decode cX3_isWithout 5 = .ok (.iload_n 3, 1) := by decide +kernel
theorem dX3_isWithout_6 : decode cX3_isWithout 6 = .ok (.if_icmp .ge 41, 3) := by decide +kernel
theorem dX3_isWithout_9 : decode cX3_isWithout 9 = .ok (.aload_n 0, 1) := by decide +kernel
theorem dX3_isWithout_10 : decode cX3_isWithout 10 = .ok (.getfield 14, 3) := by decide +kernel
theorem dX3_isWithout_13 : decode cX3_isWithout 13 = .ok (.iload 4, 2) := by decide +kernel
theorem dX3_isWithout_15 : decode cX3_isWithout 15 = .ok (.invokevirtual 46, 3) := by decide +kernel
theorem dX3_isWithout_18 : decode cX3_isWithout 18 = .ok (.bipush 17, 2) := by decide +kernel
theorem dX3_isWithout_20 : decode cX3_isWithout 20 = .ok (.if_icmp .ne 21, 3) := by decide +kernel
theorem dX3_isWithout_23 : decode cX3_isWithout 23 = .ok (.aload_n 1, 1) := by decide +kernel
theorem dX3_isWithout_24 : decode cX3_isWithout 24 = .ok (.aload_n 0, 1) := by decide +kernel
theorem dX3_isWithout_25 : decode cX3_isWithout 25 = .ok (.getfield 20, 3) := by decide +kernel
theorem dX3_isWithout_28 : decode cX3_isWithout 28 = .ok (.iload 4, 2) := by decide +kernel
theorem dX3_isWithout_30 : decode cX3_isWithout 30 = .ok (.invokevirtual 46, 3) := by decide +kernel
theorem dX3_isWithout_33 : decode cX3_isWithout 33 = .ok (.invokevirtual 46, 3) := by decide +kernel
theorem dX3_isWithout_36 : decode cX3_isWithout 36 = .ok (.ifCond .lt 5, 3) := by decide +kernel
theorem dX3_isWithout_39 : decode cX3_isWithout 39 = .ok (.iconst 0, 1) := by decide +kernel
theorem dX3_isWithout_40 : decode cX3_isWithout 40 = .ok (.ireturn, 1) := by decide +kernel
theorem dX3_isWithout_41 : decode cX3_isWithout 41 = .ok (.iinc 4 1, 3) := by decide +kernel
theorem dX3_isWithout_44 : decode cX3_isWithout 44 = .ok (.goto (-41), 3) := by decide +kernel
theorem dX3_isWithout_47 : decode cX3_isWithout 47 = .ok (.iconst 1, 1) := by decide +kernel
theorem dX3_isWithout_48 : decode cX3_isWithout 48 = .ok (.ireturn, 1) := by decide +kernel
def bX3_isWithout_41 (k3 : Int32 → Int32 → zS → zR) (x3 : Int32) (x4 : Int32) (t : zS) : zR := zlet (x4 + 1) fun v1128 => k3 x3 v1128 t
def bX3_isWithout_3 (k3 : Int32 → Int32 → zS → zR) (x3 : Int32) (x4 : Int32) (t : zS) : zR := if x3 ≤ x4 then some (1, t) else zbd (mX5_get 74 3000 x4 t) fun r1129 t1130 => if r1129 = 17 then zbd (mX5_get 76 3000 x4 t1130) fun r1132 t1133 => zbd (mX5_get 57 80000 r1132 t1133) fun r1135 t1136 => if r1135 < 0 then bX3_isWithout_41 k3 x3 x4 t1136 else some (0, t1136) else bX3_isWithout_41 k3 x3 x4 t1130
def lX3_isWithout_3 : Nat → Int32 → Int32 → zS → zR
  | 0, _, _, _ => none
  | fu + 1, x3, x4, t => bX3_isWithout_3 (lX3_isWithout_3  fu) x3 x4 t
def mX3_isWithout (x2 : Int32) (x3 : Int32) (t : zS) : zR := lX3_isWithout_3  zFU x3 x2 t
set_option maxHeartbeats 4000000 in
set_option maxRecDepth 20000 in
theorem wbX3_isWithout_41 {E : zE} {C : zC} {f : Nat} {ro : Int32 × zS} (hf : 2 ≤ f) (k3 : Int32 → Int32 → zS → zR) (hk3 : ∀ (x3 x4 : Int32) (t : zS), k3 x3 x4 t = some ro → zJ E shC C cX3_isWithout RX3 5 f (some .boolean) ro t 3 [(0, .ref (za E 51)), (1, .ref (za E 57)), (3, .int x3), (4, .int x4)] []) (x3 : Int32) (x4 : Int32) (t : zS) (hF : bX3_isWithout_41 k3 x3 x4 t = some ro) : zJ E shC C cX3_isWithout RX3 5 f (some .boolean) ro t 41 [(0, .ref (za E 51)), (1, .ref (za E 57)), (3, .int x3), (4, .int x4)] [] := by
  unfold bX3_isWithout_41 at hF
  obtain ⟨v1128, ev1128⟩ : ∃ y : Int32, y = (x4 + 1) := ⟨_, rfl⟩
  have hF := zlet_at ev1128 hF
  refine z_iinc (v := v1128) (lv' := [(4, .int v1128), (0, .ref (za E 51)), (1, .ref (za E 57)), (3, .int x3)]) (k := 3) dX3_isWithout_41 rfl (by rw [ev1128]; rfl) (by decide) rfl ?_
  refine z_goto (tgt := 3) dX3_isWithout_44 (by decide) ?_
  refine z_sub [1, 2, 3, 0] rfl ?_
  exact hk3 x3 v1128 _ hF
set_option maxHeartbeats 4000000 in
set_option maxRecDepth 20000 in
theorem wbX3_isWithout_3 {E : zE} {C : zC} {f : Nat} {ro : Int32 × zS} (hf : 2 ≤ f) (k3 : Int32 → Int32 → zS → zR) (hk3 : ∀ (x3 x4 : Int32) (t : zS), k3 x3 x4 t = some ro → zJ E shC C cX3_isWithout RX3 5 f (some .boolean) ro t 3 [(0, .ref (za E 51)), (1, .ref (za E 57)), (3, .int x3), (4, .int x4)] []) (x3 : Int32) (x4 : Int32) (t : zS) (hF : bX3_isWithout_3 k3 x3 x4 t = some ro) : zJ E shC C cX3_isWithout RX3 5 f (some .boolean) ro t 3 [(0, .ref (za E 51)), (1, .ref (za E 57)), (3, .int x3), (4, .int x4)] [] := by
  unfold bX3_isWithout_3 at hF
  refine z_iload 3 dX3_isWithout_3 rfl ?_
  refine z_iload_n 2 dX3_isWithout_5 rfl rfl ?_
  refine z_icmp_ge (tgt := 47) dX3_isWithout_6 (by decide) (fun hc => ?_) (fun hc => ?_)
  · have hF := zif_t hc hF
    refine z_iconst (v := 1) dX3_isWithout_47 (by decide) ?_
    exact z_zret hF (by decide) dX3_isWithout_48
  · have hF := zif_f hc hF
    refine z_aload_n 0 dX3_isWithout_9 rfl rfl ?_
    refine z_getr fr_RX3_14 dX3_isWithout_10 ?_
    refine z_iload 3 dX3_isWithout_13 rfl ?_
    obtain ⟨r1129, t1130, hc1131, hF⟩ := zbd_at hF
    refine z_callVi (ctX5_get (E := E) (sh := shC) (f := f - 1) (by omega) (k := 74) (n := 3000) rfl rfl hc1131) yy_X5_get yv_X5_get ob_C_74 lk_RX3_46 (by omega) rfl rfl (Nat.le_of_ble_eq_true rfl) dX3_isWithout_15 ?_
    refine z_bipush (v := 17) dX3_isWithout_18 (by decide) ?_
    refine z_icmp_ne (tgt := 41) dX3_isWithout_20 (by decide) (fun hc => ?_) (fun hc => ?_)
    · have hF := zif_f hc hF
      exact wbX3_isWithout_41 hf k3 hk3 x3 x4 _ hF
    · have hF := zif_t hc hF
      refine z_aload_n 1 dX3_isWithout_23 rfl rfl ?_
      refine z_aload_n 0 dX3_isWithout_24 rfl rfl ?_
      refine z_getr fr_RX3_20 dX3_isWithout_25 ?_
      refine z_iload 3 dX3_isWithout_28 rfl ?_
      obtain ⟨r1132, t1133, hc1134, hF⟩ := zbd_at hF
      refine z_callVi (ctX5_get (E := E) (sh := shC) (f := f - 1) (by omega) (k := 76) (n := 3000) rfl rfl hc1134) yy_X5_get yv_X5_get ob_C_76 lk_RX3_46 (by omega) rfl rfl (Nat.le_of_ble_eq_true rfl) dX3_isWithout_30 ?_
      obtain ⟨r1135, t1136, hc1137, hF⟩ := zbd_at hF
      refine z_callVi (ctX5_get (E := E) (sh := shC) (f := f - 1) (by omega) (k := 57) (n := 80000) rfl rfl hc1137) yy_X5_get yv_X5_get ob_C_57 lk_RX3_46 (by omega) rfl rfl (Nat.le_of_ble_eq_true rfl) dX3_isWithout_33 ?_
      refine z_if_lt (tgt := 41) dX3_isWithout_36 (by decide) (fun hc => ?_) (fun hc => ?_)
      · have hF := zif_t hc hF
        exact wbX3_isWithout_41 hf k3 hk3 x3 x4 _ hF
      · have hF := zif_f hc hF
        refine z_iconst (v := 0) dX3_isWithout_39 (by decide) ?_
        exact z_zret hF (by decide) dX3_isWithout_40
set_option maxHeartbeats 4000000 in
set_option maxRecDepth 20000 in
theorem wlX3_isWithout_3 {E : zE} {C : zC} {f : Nat} {ro : Int32 × zS} (hf : 2 ≤ f) (fu : Nat) : ∀ (x3 x4 : Int32) (t : zS), lX3_isWithout_3  fu x3 x4 t = some ro → zJ E shC C cX3_isWithout RX3 5 f (some .boolean) ro t 3 [(0, .ref (za E 51)), (1, .ref (za E 57)), (3, .int x3), (4, .int x4)] [] := by
  induction fu with
  | zero => intro x3 x4 t hF; cases hF
  | succ fu ih => intro x3 x4 t hF; exact wbX3_isWithout_3 hf (lX3_isWithout_3  fu) ih x3 x4 t hF
set_option maxHeartbeats 4000000 in
set_option maxRecDepth 20000 in
theorem ctX3_isWithout {E : zE} {f : Nat} (hf : 2 ≤ f) {x2 : Int32} {x3 : Int32} {t : zS} {ro : Int32 × zS} (hF : mX3_isWithout  x2 x3 t = some ro) : zM E shC f yX3_isWithout cX3_isWithout 5 (some .boolean) [.ref (za E 51), .ref (za E 57), .int x2, .int x3] t ro := by
  refine zM_of (by decide) (Nat.le_of_ble_eq_true rfl) (fun C => ?_)
  show zJ E shC C cX3_isWithout RX3 5 f (some .boolean) ro t 0 [(0, .ref (za E 51)), (1, .ref (za E 57)), (2, .int x2), (3, .int x3)] []
  unfold mX3_isWithout at hF
  refine z_iload_n 2 dX3_isWithout_0 rfl rfl ?_
  refine z_istore (lv' := [(4, .int x2), (0, .ref (za E 51)), (1, .ref (za E 57)), (2, .int x2), (3, .int x3)]) dX3_isWithout_1 (by decide) rfl ?_
  refine z_sub [1, 2, 4, 0] rfl ?_
  exact wlX3_isWithout_3 hf  zFU x3 x2 _ hF
-- SessionHouse$Forms.pairUp(II)V
theorem dX2_pairUp_0 : decode cX2_pairUp 0 = .ok (.aload_n 0, 1) := by decide +kernel
theorem dX2_pairUp_1 : decode cX2_pairUp 1 = .ok (.getfield 50, 3) := by decide +kernel
theorem dX2_pairUp_4 : decode cX2_pairUp 4 = .ok (.iconst 2, 1) := by decide +kernel
theorem dX2_pairUp_5 : decode cX2_pairUp 5 = .ok (.aload_n 0, 1) := by decide +kernel
theorem dX2_pairUp_6 : decode cX2_pairUp 6 = .ok (.getfield 86, 3) := by decide +kernel
theorem dX2_pairUp_9 : decode cX2_pairUp 9 = .ok (.imul, 1) := by decide +kernel
theorem dX2_pairUp_10 : decode cX2_pairUp 10 = .ok (.iload_n 1, 1) := by decide +kernel
theorem dX2_pairUp_11 : decode cX2_pairUp 11 = .ok (.invokevirtual 70, 3) := by decide +kernel
theorem dX2_pairUp_14 : decode cX2_pairUp 14 = .ok (.aload_n 0, 1) := by decide +kernel
theorem dX2_pairUp_15 : decode cX2_pairUp 15 = .ok (.getfield 50, 3) := by decide +kernel
theorem dX2_pairUp_18 : decode cX2_pairUp 18 = .ok (.iconst 2, 1) := by decide +kernel
theorem dX2_pairUp_19 : decode cX2_pairUp 19 = .ok (.aload_n 0, 1) := by decide +kernel
theorem dX2_pairUp_20 : decode cX2_pairUp 20 = .ok (.getfield 86, 3) := by decide +kernel
theorem dX2_pairUp_23 : decode cX2_pairUp 23 = .ok (.imul, 1) := by decide +kernel
theorem dX2_pairUp_24 : decode cX2_pairUp 24 = .ok (.iconst 1, 1) := by decide +kernel
theorem dX2_pairUp_25 : decode cX2_pairUp 25 = .ok (.iadd, 1) := by decide +kernel
theorem dX2_pairUp_26 : decode cX2_pairUp 26 = .ok (.iload_n 2, 1) := by decide +kernel
theorem dX2_pairUp_27 : decode cX2_pairUp 27 = .ok (.invokevirtual 70, 3) := by decide +kernel
theorem dX2_pairUp_30 : decode cX2_pairUp 30 = .ok (.aload_n 0, 1) := by decide +kernel
theorem dX2_pairUp_31 : decode cX2_pairUp 31 = .ok (.dup, 1) := by decide +kernel
theorem dX2_pairUp_32 : decode cX2_pairUp 32 = .ok (.getfield 86, 3) := by decide +kernel
theorem dX2_pairUp_35 : decode cX2_pairUp 35 = .ok (.iconst 1, 1) := by decide +kernel
theorem dX2_pairUp_36 : decode cX2_pairUp 36 = .ok (.iadd, 1) := by decide +kernel
theorem dX2_pairUp_37 : decode cX2_pairUp 37 = .ok (.putfield 86, 3) := by decide +kernel
theorem dX2_pairUp_40 : decode cX2_pairUp 40 = .ok (.return_, 1) := by decide +kernel
def mX2_pairUp (x1 : Int32) (x2 : Int32) (t : zS) : zR := zbd (mX5_set 30 12004 (2 * (t 3 12)) x1 t) fun r1138 t1139 => zbd (mX5_set 30 12004 ((2 * (t1139 3 12)) + 1) x2 t1139) fun r1141 t1142 => zpt t1142 3 12 ((t1142 3 12) + 1) fun t1144 => some (0, t1144)
set_option maxHeartbeats 4000000 in
set_option maxRecDepth 20000 in
theorem ctX2_pairUp {E : zE} {f : Nat} (hf : 2 ≤ f) {x1 : Int32} {x2 : Int32} {t : zS} {ro : Int32 × zS} (hF : mX2_pairUp  x1 x2 t = some ro) : zM E shC f yX2_pairUp cX2_pairUp 3 none [.ref (za E 3), .int x1, .int x2] t ro := by
  refine zM_of (by decide) (Nat.le_of_ble_eq_true rfl) (fun C => ?_)
  show zJ E shC C cX2_pairUp RX2 3 f none ro t 0 [(0, .ref (za E 3)), (1, .int x1), (2, .int x2)] []
  unfold mX2_pairUp at hF
  refine z_aload_n 0 dX2_pairUp_0 rfl rfl ?_
  refine z_getr fr_RX2_50 dX2_pairUp_1 ?_
  refine z_iconst (v := 2) dX2_pairUp_4 (by decide) ?_
  refine z_aload_n 0 dX2_pairUp_5 rfl rfl ?_
  refine z_geti fi_RX2_86 dX2_pairUp_6 ?_
  refine z_imul dX2_pairUp_9 ?_
  refine z_iload_n 1 dX2_pairUp_10 rfl rfl ?_
  obtain ⟨r1138, t1139, hc1140, hF⟩ := zbd_at hF
  refine z_callVv (ctX5_set (E := E) (sh := shC) (f := f - 1) (by omega) (k := 30) (n := 12004) rfl rfl hc1140) yy_X5_set yv_X5_set ob_C_30 lk_RX2_70 (by omega) rfl rfl (Nat.le_of_ble_eq_true rfl) dX2_pairUp_11 ?_
  refine z_aload_n 0 dX2_pairUp_14 rfl rfl ?_
  refine z_getr fr_RX2_50 dX2_pairUp_15 ?_
  refine z_iconst (v := 2) dX2_pairUp_18 (by decide) ?_
  refine z_aload_n 0 dX2_pairUp_19 rfl rfl ?_
  refine z_geti fi_RX2_86 dX2_pairUp_20 ?_
  refine z_imul dX2_pairUp_23 ?_
  refine z_iconst (v := 1) dX2_pairUp_24 (by decide) ?_
  refine z_iadd dX2_pairUp_25 ?_
  refine z_iload_n 2 dX2_pairUp_26 rfl rfl ?_
  obtain ⟨r1141, t1142, hc1143, hF⟩ := zbd_at hF
  refine z_callVv (ctX5_set (E := E) (sh := shC) (f := f - 1) (by omega) (k := 30) (n := 12004) rfl rfl hc1143) yy_X5_set yv_X5_set ob_C_30 lk_RX2_70 (by omega) rfl rfl (Nat.le_of_ble_eq_true rfl) dX2_pairUp_27 ?_
  refine z_aload_n 0 dX2_pairUp_30 rfl rfl ?_
  refine z_dup dX2_pairUp_31 rfl ?_
  refine z_geti fi_RX2_86 dX2_pairUp_32 ?_
  refine z_iconst (v := 1) dX2_pairUp_35 (by decide) ?_
  refine z_iadd dX2_pairUp_36 ?_
  refine z_puti fw_RX2_86 dX2_pairUp_37 (fun t1144 et1144 => ?_)
  have hF := zpt_at hF t1144 et1144
  exact z_vret hF dX2_pairUp_40
-- SessionHouse$Forms.highest(I)I
theorem dX2_highest_0 : decode cX2_highest 0 = .ok (.iload_n 1, 1) := by decide +kernel
theorem dX2_highest_1 : decode cX2_highest 1 = .ok (.istore_n 2, 1) := by decide +kernel
theorem dX2_highest_2 : decode cX2_highest 2 = .ok (.iconst 0, 1) := by decide +kernel
theorem dX2_highest_3 : decode cX2_highest 3 = .ok (.istore_n 3, 1) := by decide +kernel
theorem dX2_highest_4 : decode cX2_highest 4 = .ok (.iload_n 3, 1) := by decide +kernel
theorem dX2_highest_5 : decode cX2_highest 5 = .ok (.sipush 6000, 3) := by decide +kernel
theorem dX2_highest_8 : decode cX2_highest 8 = .ok (.if_icmp .ge 53, 3) := by decide +kernel
theorem dX2_highest_11 : decode cX2_highest 11 = .ok (.aload_n 0, 1) := by decide +kernel
theorem dX2_highest_12 : decode cX2_highest 12 = .ok (.getfield 47, 3) := by decide +kernel
theorem dX2_highest_15 : decode cX2_highest 15 = .ok (.iload_n 2, 1) := by decide +kernel
theorem dX2_highest_16 : decode cX2_highest 16 = .ok (.invokevirtual 74, 3) := by decide +kernel
theorem dX2_highest_19 : decode cX2_highest 19 = .ok (.iload_n 2, 1) := by decide +kernel
theorem dX2_highest_20 : decode cX2_highest 20 = .ok (.if_icmp .eq 41, 3) := by decide +kernel
theorem dX2_highest_23 : decode cX2_highest 23 = .ok (.aload_n 0, 1) := by decide +kernel
theorem dX2_highest_24 : decode cX2_highest 24 = .ok (.getfield 47, 3) := by decide +kernel
theorem dX2_highest_27 : decode cX2_highest 27 = .ok (.iload_n 2, 1) := by decide +kernel
theorem dX2_highest_28 : decode cX2_highest 28 = .ok (.aload_n 0, 1) := by decide +kernel
theorem dX2_highest_29 : decode cX2_highest 29 = .ok (.getfield 47, 3) := by decide +kernel
theorem dX2_highest_32 : decode cX2_highest 32 = .ok (.aload_n 0, 1) := by decide +kernel
theorem dX2_highest_33 : decode cX2_highest 33 = .ok (.getfield 47, 3) := by decide +kernel
theorem dX2_highest_36 : decode cX2_highest 36 = .ok (.iload_n 2, 1) := by decide +kernel
theorem dX2_highest_37 : decode cX2_highest 37 = .ok (.invokevirtual 74, 3) := by decide +kernel
theorem dX2_highest_40 : decode cX2_highest 40 = .ok (.invokevirtual 74, 3) := by decide +kernel
theorem dX2_highest_43 : decode cX2_highest 43 = .ok (.invokevirtual 70, 3) := by decide +kernel
theorem dX2_highest_46 : decode cX2_highest 46 = .ok (.aload_n 0, 1) := by decide +kernel
theorem dX2_highest_47 : decode cX2_highest 47 = .ok (.getfield 47, 3) := by decide +kernel
theorem dX2_highest_50 : decode cX2_highest 50 = .ok (.iload_n 2, 1) := by decide +kernel
theorem dX2_highest_51 : decode cX2_highest 51 = .ok (.invokevirtual 74, 3) := by decide +kernel
theorem dX2_highest_54 : decode cX2_highest 54 = .ok (.istore_n 2, 1) := by decide +kernel
theorem dX2_highest_55 : decode cX2_highest 55 = .ok (.iinc 3 1, 3) := by decide +kernel
theorem dX2_highest_58 : decode cX2_highest 58 = .ok (.goto (-54), 3) := by decide +kernel
theorem dX2_highest_61 : decode cX2_highest 61 = .ok (.iload_n 2, 1) := by decide +kernel
theorem dX2_highest_62 : decode cX2_highest 62 = .ok (.ireturn, 1) := by decide +kernel
def bX2_highest_4 (k4 : Int32 → Int32 → zS → zR) (x2 : Int32) (x3 : Int32) (t : zS) : zR := if 6000 ≤ x3 then some (x2, t) else zbd (mX5_get 28 6000 x2 t) fun r1145 t1146 => if r1145 = x2 then some (x2, t1146) else zbd (mX5_get 28 6000 x2 t1146) fun r1148 t1149 => zbd (mX5_get 28 6000 r1148 t1149) fun r1151 t1152 => zbd (mX5_set 28 6000 x2 r1151 t1152) fun r1154 t1155 => zbd (mX5_get 28 6000 x2 t1155) fun r1157 t1158 => zlet (x3 + 1) fun v1160 => k4 r1157 v1160 t1158
def lX2_highest_4 : Nat → Int32 → Int32 → zS → zR
  | 0, _, _, _ => none
  | fu + 1, x2, x3, t => bX2_highest_4 (lX2_highest_4  fu) x2 x3 t
def mX2_highest (x1 : Int32) (t : zS) : zR := lX2_highest_4  zFU x1 0 t
set_option maxHeartbeats 4000000 in
set_option maxRecDepth 20000 in
theorem wbX2_highest_4 {E : zE} {C : zC} {f : Nat} {ro : Int32 × zS} (hf : 2 ≤ f) (k4 : Int32 → Int32 → zS → zR) (hk4 : ∀ (x2 x3 : Int32) (t : zS), k4 x2 x3 t = some ro → zJ E shC C cX2_highest RX2 4 f (some .int) ro t 4 [(0, .ref (za E 3)), (2, .int x2), (3, .int x3)] []) (x2 : Int32) (x3 : Int32) (t : zS) (hF : bX2_highest_4 k4 x2 x3 t = some ro) : zJ E shC C cX2_highest RX2 4 f (some .int) ro t 4 [(0, .ref (za E 3)), (2, .int x2), (3, .int x3)] [] := by
  unfold bX2_highest_4 at hF
  refine z_iload_n 2 dX2_highest_4 rfl rfl ?_
  refine z_sipush (v := 6000) dX2_highest_5 (by decide) ?_
  refine z_icmp_ge (tgt := 61) dX2_highest_8 (by decide) (fun hc => ?_) (fun hc => ?_)
  · have hF := zif_t hc hF
    refine z_iload_n 1 dX2_highest_61 rfl rfl ?_
    exact z_iret hF dX2_highest_62
  · have hF := zif_f hc hF
    refine z_aload_n 0 dX2_highest_11 rfl rfl ?_
    refine z_getr fr_RX2_47 dX2_highest_12 ?_
    refine z_iload_n 1 dX2_highest_15 rfl rfl ?_
    obtain ⟨r1145, t1146, hc1147, hF⟩ := zbd_at hF
    refine z_callVi (ctX5_get (E := E) (sh := shC) (f := f - 1) (by omega) (k := 28) (n := 6000) rfl rfl hc1147) yy_X5_get yv_X5_get ob_C_28 lk_RX2_74 (by omega) rfl rfl (Nat.le_of_ble_eq_true rfl) dX2_highest_16 ?_
    refine z_iload_n 1 dX2_highest_19 rfl rfl ?_
    refine z_icmp_eq (tgt := 61) dX2_highest_20 (by decide) (fun hc => ?_) (fun hc => ?_)
    · have hF := zif_t hc hF
      refine z_iload_n 1 dX2_highest_61 rfl rfl ?_
      exact z_iret hF dX2_highest_62
    · have hF := zif_f hc hF
      refine z_aload_n 0 dX2_highest_23 rfl rfl ?_
      refine z_getr fr_RX2_47 dX2_highest_24 ?_
      refine z_iload_n 1 dX2_highest_27 rfl rfl ?_
      refine z_aload_n 0 dX2_highest_28 rfl rfl ?_
      refine z_getr fr_RX2_47 dX2_highest_29 ?_
      refine z_aload_n 0 dX2_highest_32 rfl rfl ?_
      refine z_getr fr_RX2_47 dX2_highest_33 ?_
      refine z_iload_n 1 dX2_highest_36 rfl rfl ?_
      obtain ⟨r1148, t1149, hc1150, hF⟩ := zbd_at hF
      refine z_callVi (ctX5_get (E := E) (sh := shC) (f := f - 1) (by omega) (k := 28) (n := 6000) rfl rfl hc1150) yy_X5_get yv_X5_get ob_C_28 lk_RX2_74 (by omega) rfl rfl (Nat.le_of_ble_eq_true rfl) dX2_highest_37 ?_
      obtain ⟨r1151, t1152, hc1153, hF⟩ := zbd_at hF
      refine z_callVi (ctX5_get (E := E) (sh := shC) (f := f - 1) (by omega) (k := 28) (n := 6000) rfl rfl hc1153) yy_X5_get yv_X5_get ob_C_28 lk_RX2_74 (by omega) rfl rfl (Nat.le_of_ble_eq_true rfl) dX2_highest_40 ?_
      obtain ⟨r1154, t1155, hc1156, hF⟩ := zbd_at hF
      refine z_callVv (ctX5_set (E := E) (sh := shC) (f := f - 1) (by omega) (k := 28) (n := 6000) rfl rfl hc1156) yy_X5_set yv_X5_set ob_C_28 lk_RX2_70 (by omega) rfl rfl (Nat.le_of_ble_eq_true rfl) dX2_highest_43 ?_
      refine z_aload_n 0 dX2_highest_46 rfl rfl ?_
      refine z_getr fr_RX2_47 dX2_highest_47 ?_
      refine z_iload_n 1 dX2_highest_50 rfl rfl ?_
      obtain ⟨r1157, t1158, hc1159, hF⟩ := zbd_at hF
      refine z_callVi (ctX5_get (E := E) (sh := shC) (f := f - 1) (by omega) (k := 28) (n := 6000) rfl rfl hc1159) yy_X5_get yv_X5_get ob_C_28 lk_RX2_74 (by omega) rfl rfl (Nat.le_of_ble_eq_true rfl) dX2_highest_51 ?_
      refine z_istore_n (lv' := [(2, .int r1157), (0, .ref (za E 3)), (3, .int x3)]) dX2_highest_54 rfl (by decide) rfl ?_
      obtain ⟨v1160, ev1160⟩ : ∃ y : Int32, y = (x3 + 1) := ⟨_, rfl⟩
      have hF := zlet_at ev1160 hF
      refine z_iinc (v := v1160) (lv' := [(3, .int v1160), (2, .int r1157), (0, .ref (za E 3))]) (k := 2) dX2_highest_55 rfl (by rw [ev1160]; rfl) (by decide) rfl ?_
      refine z_goto (tgt := 4) dX2_highest_58 (by decide) ?_
      refine z_sub [2, 1, 0] rfl ?_
      exact hk4 r1157 v1160 _ hF
set_option maxHeartbeats 4000000 in
set_option maxRecDepth 20000 in
theorem wlX2_highest_4 {E : zE} {C : zC} {f : Nat} {ro : Int32 × zS} (hf : 2 ≤ f) (fu : Nat) : ∀ (x2 x3 : Int32) (t : zS), lX2_highest_4  fu x2 x3 t = some ro → zJ E shC C cX2_highest RX2 4 f (some .int) ro t 4 [(0, .ref (za E 3)), (2, .int x2), (3, .int x3)] [] := by
  induction fu with
  | zero => intro x2 x3 t hF; cases hF
  | succ fu ih => intro x2 x3 t hF; exact wbX2_highest_4 hf (lX2_highest_4  fu) ih x2 x3 t hF
set_option maxHeartbeats 4000000 in
set_option maxRecDepth 20000 in
theorem ctX2_highest {E : zE} {f : Nat} (hf : 2 ≤ f) {x1 : Int32} {t : zS} {ro : Int32 × zS} (hF : mX2_highest  x1 t = some ro) : zM E shC f yX2_highest cX2_highest 4 (some .int) [.ref (za E 3), .int x1] t ro := by
  refine zM_of (by decide) (Nat.le_of_ble_eq_true rfl) (fun C => ?_)
  show zJ E shC C cX2_highest RX2 4 f (some .int) ro t 0 [(0, .ref (za E 3)), (1, .int x1)] []
  unfold mX2_highest at hF
  refine z_iload_n 1 dX2_highest_0 rfl rfl ?_
  refine z_istore_n (lv' := [(2, .int x1), (0, .ref (za E 3)), (1, .int x1)]) dX2_highest_1 rfl (by decide) rfl ?_
  refine z_iconst (v := 0) dX2_highest_2 (by decide) ?_
  refine z_istore_n (lv' := [(3, .int 0), (2, .int x1), (0, .ref (za E 3)), (1, .int x1)]) dX2_highest_3 rfl (by decide) rfl ?_
  refine z_sub [2, 1, 0] rfl ?_
  exact wlX2_highest_4 hf  zFU x1 0 _ hF
-- SessionHouse$Forms.choices(I)I
theorem dX2_choices_0 : decode cX2_choices 0 = .ok (.aload_n 0, 1) := by decide +kernel
theorem dX2_choices_1 : decode cX2_choices 1 = .ok (.getfield 23, 3) := by decide +kernel
theorem dX2_choices_4 : decode cX2_choices 4 = .ok (.iload_n 1, 1) := by decide +kernel
theorem dX2_choices_5 : decode cX2_choices 5 = .ok (.iconst 1, 1) := by decide +kernel
theorem dX2_choices_6 : decode cX2_choices 6 = .ok (.ishr, 1) := by decide +kernel
theorem dX2_choices_7 : decode cX2_choices 7 = .ok (.invokevirtual 74, 3) := by decide +kernel
theorem dX2_choices_10 : decode cX2_choices 10 = .ok (.ireturn, 1) := by decide +kernel
def mX2_choices (x1 : Int32) (t : zS) : zR := zbd (mX5_get 12 3000 (x1 >>> (1 &&& 31)) t) fun r1161 t1162 => some (r1161, t1162)
set_option maxHeartbeats 4000000 in
set_option maxRecDepth 20000 in
theorem ctX2_choices {E : zE} {f : Nat} (hf : 2 ≤ f) {x1 : Int32} {t : zS} {ro : Int32 × zS} (hF : mX2_choices  x1 t = some ro) : zM E shC f yX2_choices cX2_choices 2 (some .int) [.ref (za E 3), .int x1] t ro := by
  refine zM_of (by decide) (Nat.le_of_ble_eq_true rfl) (fun C => ?_)
  show zJ E shC C cX2_choices RX2 2 f (some .int) ro t 0 [(0, .ref (za E 3)), (1, .int x1)] []
  unfold mX2_choices at hF
  refine z_aload_n 0 dX2_choices_0 rfl rfl ?_
  refine z_getr fr_RX2_23 dX2_choices_1 ?_
  refine z_iload_n 1 dX2_choices_4 rfl rfl ?_
  refine z_iconst (v := 1) dX2_choices_5 (by decide) ?_
  refine z_ishr dX2_choices_6 ?_
  obtain ⟨r1161, t1162, hc1163, hF⟩ := zbd_at hF
  refine z_callVi (ctX5_get (E := E) (sh := shC) (f := f - 1) (by omega) (k := 12) (n := 3000) rfl rfl hc1163) yy_X5_get yv_X5_get ob_C_12 lk_RX2_74 (by omega) rfl rfl (Nat.le_of_ble_eq_true rfl) dX2_choices_7 ?_
  exact z_iret hF dX2_choices_10
-- SessionHouse$Forms.chooseAlike(II)Z
theorem dX2_chooseAlike_0 : decode cX2_chooseAlike 0 = .ok (.aload_n 0, 1) := by decide +kernel
theorem dX2_chooseAlike_1 : decode cX2_chooseAlike 1 = .ok (.iload_n 1, 1) := by decide +kernel
theorem dX2_chooseAlike_2 : decode cX2_chooseAlike 2 = .ok (.invokevirtual 114, 3) := by decide +kernel
theorem dX2_chooseAlike_5 : decode cX2_chooseAlike 5 = .ok (.aload_n 0, 1) := by decide +kernel
theorem dX2_chooseAlike_6 : decode cX2_chooseAlike 6 = .ok (.iload_n 2, 1) := by decide +kernel
theorem dX2_chooseAlike_7 : decode cX2_chooseAlike 7 = .ok (.invokevirtual 114, 3) := by decide +kernel
theorem dX2_chooseAlike_10 : decode cX2_chooseAlike 10 = .ok (.if_icmp .eq 5, 3) := by decide +kernel
theorem dX2_chooseAlike_13 : decode cX2_chooseAlike 13 = .ok (.iconst 0, 1) := by decide +kernel
theorem dX2_chooseAlike_14 : decode cX2_chooseAlike 14 = .ok (.ireturn, 1) := by decide +kernel
theorem dX2_chooseAlike_15 : decode cX2_chooseAlike 15 = .ok (.aload_n 0, 1) := by decide +kernel
theorem dX2_chooseAlike_16 : decode cX2_chooseAlike 16 = .ok (.getfield 20, 3) := by decide +kernel
theorem dX2_chooseAlike_19 : decode cX2_chooseAlike 19 = .ok (.iload_n 1, 1) := by decide +kernel
theorem dX2_chooseAlike_20 : decode cX2_chooseAlike 20 = .ok (.iconst 1, 1) := by decide +kernel
theorem dX2_chooseAlike_21 : decode cX2_chooseAlike 21 = .ok (.ishr, 1) := by decide +kernel
theorem dX2_chooseAlike_22 : decode cX2_chooseAlike 22 = .ok (.invokevirtual 74, 3) := by decide +kernel
theorem dX2_chooseAlike_25 : decode cX2_chooseAlike 25 = .ok (.istore_n 3, 1) := by decide +kernel
theorem dX2_chooseAlike_26 : decode cX2_chooseAlike 26 = .ok (.iconst 0, 1) := by decide +kernel
theorem dX2_chooseAlike_27 : decode cX2_chooseAlike 27 = .ok (.istore 4, 2) := by decide +kernel
theorem dX2_chooseAlike_29 : decode cX2_chooseAlike 29 = .ok (.iload 4, 2) := by decide +kernel
theorem dX2_chooseAlike_31 : decode cX2_chooseAlike 31 = .ok (.sipush 1600, 3) := by decide +kernel
theorem dX2_chooseAlike_34 : decode cX2_chooseAlike 34 = .ok (.if_icmp .ge 79, 3) := by decide +kernel
theorem dX2_chooseAlike_37 : decode cX2_chooseAlike 37 = .ok (.iload_n 3, 1) := by decide +kernel
theorem dX2_chooseAlike_38 : decode cX2_chooseAlike 38 = .ok (.ifCond .lt 75, 3) := by decide +kernel
theorem dX2_chooseAlike_41 : decode cX2_chooseAlike 41 = .ok (.aload_n 0, 1) := by decide +kernel
theorem dX2_chooseAlike_42 : decode cX2_chooseAlike 42 = .ok (.iload_n 2, 1) := by decide +kernel
theorem dX2_chooseAlike_43 : decode cX2_chooseAlike 43 = .ok (.iconst 1, 1) := by decide +kernel
theorem dX2_chooseAlike_44 : decode cX2_chooseAlike 44 = .ok (.ishr, 1) := by decide +kernel
theorem dX2_chooseAlike_45 : decode cX2_chooseAlike 45 = .ok (.aload_n 0, 1) := by decide +kernel
theorem dX2_chooseAlike_46 : decode cX2_chooseAlike 46 = .ok (.getfield 26, 3) := by decide +kernel
theorem dX2_chooseAlike_49 : decode cX2_chooseAlike 49 = .ok (.iload_n 3, 1) := by decide +kernel
theorem dX2_chooseAlike_50 : decode cX2_chooseAlike 50 = .ok (.invokevirtual 74, 3) := by decide +kernel
theorem dX2_chooseAlike_53 : decode cX2_chooseAlike 53 = .ok (.invokevirtual 82, 3) := by decide +kernel
theorem dX2_chooseAlike_56 : decode cX2_chooseAlike 56 = .ok (.istore 5, 2) := by decide +kernel
theorem dX2_chooseAlike_58 : decode cX2_chooseAlike 58 = .ok (.iload 5, 2) := by decide +kernel
theorem dX2_chooseAlike_60 : decode cX2_chooseAlike 60 = .ok (.ifCond .ge 5, 3) := by decide +kernel
theorem dX2_chooseAlike_63 : decode cX2_chooseAlike 63 = .ok (.iconst 0, 1) := by decide +kernel
theorem dX2_chooseAlike_64 : decode cX2_chooseAlike 64 = .ok (.ireturn, 1) := by decide +kernel
theorem dX2_chooseAlike_65 : decode cX2_chooseAlike 65 = .ok (.aload_n 0, 1) := by decide +kernel
theorem dX2_chooseAlike_66 : decode cX2_chooseAlike 66 = .ok (.iconst 2, 1) := by decide +kernel
theorem dX2_chooseAlike_67 : decode cX2_chooseAlike 67 = .ok (.aload_n 0, 1) := by decide +kernel
theorem dX2_chooseAlike_68 : decode cX2_chooseAlike 68 = .ok (.getfield 29, 3) := by decide +kernel
theorem dX2_chooseAlike_71 : decode cX2_chooseAlike 71 = .ok (.iload_n 3, 1) := by decide +kernel
theorem dX2_chooseAlike_72 : decode cX2_chooseAlike 72 = .ok (.invokevirtual 74, 3) := by decide +kernel
theorem dX2_chooseAlike_75 : decode cX2_chooseAlike 75 = .ok (.imul, 1) := by decide +kernel
theorem dX2_chooseAlike_76 : decode cX2_chooseAlike 76 = .ok (.iload_n 1, 1) := by decide +kernel
theorem dX2_chooseAlike_77 : decode cX2_chooseAlike 77 = .ok (.iconst 1, 1) := by decide +kernel
theorem dX2_chooseAlike_78 : decode cX2_chooseAlike 78 = .ok (.iand, 1) := by decide +kernel
theorem dX2_chooseAlike_79 : decode cX2_chooseAlike 79 = .ok (.iadd, 1) := by decide +kernel
theorem dX2_chooseAlike_80 : decode cX2_chooseAlike 80 = .ok (.iconst 2, 1) := by decide +kernel
theorem dX2_chooseAlike_81 : decode cX2_chooseAlike 81 = .ok (.aload_n 0, 1) := by decide +kernel
theorem dX2_chooseAlike_82 : decode cX2_chooseAlike 82 = .ok (.getfield 29, 3) := by decide +kernel
theorem dX2_chooseAlike_85 : decode cX2_chooseAlike 85 = .ok (.iload 5, 2) := by decide +kernel
theorem dX2_chooseAlike_87 : decode cX2_chooseAlike 87 = .ok (.invokevirtual 74, 3) := by decide +kernel
theorem dX2_chooseAlike_90 : decode cX2_chooseAlike 90 = .ok (.imul, 1) := by decide +kernel
theorem dX2_chooseAlike_91 : decode cX2_chooseAlike 91 = .ok (.iload_n 2, 1) := by decide +kernel
theorem dX2_chooseAlike_92 : decode cX2_chooseAlike 92 = .ok (.iconst 1, 1) := by decide +kernel
theorem dX2_chooseAlike_93 : decode cX2_chooseAlike 93 = .ok (.iand, 1) := by decide +kernel
theorem dX2_chooseAlike_94 : decode cX2_chooseAlike 94 = .ok (.iadd, 1) := by decide +kernel
theorem dX2_chooseAlike_95 : decode cX2_chooseAlike 95 = .ok (.invokevirtual 89, 3) := by decide +kernel
theorem dX2_chooseAlike_98 : decode cX2_chooseAlike 98 = .ok (.aload_n 0, 1) := by decide +kernel
theorem dX2_chooseAlike_99 : decode cX2_chooseAlike 99 = .ok (.getfield 32, 3) := by decide +kernel
theorem dX2_chooseAlike_102 : decode cX2_chooseAlike 102 = .ok (.iload_n 3, 1) := by decide +kernel
theorem dX2_chooseAlike_103 : decode cX2_chooseAlike 103 = .ok (.invokevirtual 74, 3) := by decide +kernel
theorem dX2_chooseAlike_106 : decode cX2_chooseAlike 106 = .ok (.istore_n 3, 1) := by decide +kernel
theorem dX2_chooseAlike_107 : decode cX2_chooseAlike 107 = .ok (.iinc 4 1, 3) := by decide +kernel
theorem dX2_chooseAlike_110 : decode cX2_chooseAlike 110 = .ok (.goto (-81), 3) := by decide +kernel
theorem dX2_chooseAlike_113 : decode cX2_chooseAlike 113 = .ok (.iconst 1, 1) := by decide +kernel
theorem dX2_chooseAlike_114 : decode cX2_chooseAlike 114 = .ok (.ireturn, 1) := by decide +kernel
def bX2_chooseAlike_29 (k29 : Int32 → Int32 → Int32 → Int32 → zS → zR) (x1 : Int32) (x2 : Int32) (x3 : Int32) (x4 : Int32) (t : zS) : zR := if 1600 ≤ x4 then some (1, t) else if x3 < 0 then some (1, t) else zbd (mX5_get 14 1600 x3 t) fun r1164 t1165 => zbd (mX2_findPart (x2 >>> (1 &&& 31)) r1164 t1165) fun r1167 t1168 => if 0 ≤ r1167 then zbd (mX5_get 16 1600 x3 t1168) fun r1170 t1171 => zbd (mX5_get 16 1600 r1167 t1171) fun r1173 t1174 => zbd (mX2_pairUp ((2 * r1170) + (x1 &&& 1)) ((2 * r1173) + (x2 &&& 1)) t1174) fun r1176 t1177 => zbd (mX5_get 18 1600 x3 t1177) fun r1179 t1180 => zlet (x4 + 1) fun v1182 => k29 x1 x2 r1179 v1182 t1180 else some (0, t1168)
def lX2_chooseAlike_29 : Nat → Int32 → Int32 → Int32 → Int32 → zS → zR
  | 0, _, _, _, _, _ => none
  | fu + 1, x1, x2, x3, x4, t => bX2_chooseAlike_29 (lX2_chooseAlike_29  fu) x1 x2 x3 x4 t
def mX2_chooseAlike (x1 : Int32) (x2 : Int32) (t : zS) : zR := zbd (mX2_choices x1 t) fun r1183 t1184 => zbd (mX2_choices x2 t1184) fun r1186 t1187 => if r1183 = r1186 then zbd (mX5_get 10 3000 (x1 >>> (1 &&& 31)) t1187) fun r1189 t1190 => lX2_chooseAlike_29  zFU x1 x2 r1189 0 t1190 else some (0, t1187)
set_option maxHeartbeats 4000000 in
set_option maxRecDepth 20000 in
theorem wbX2_chooseAlike_29 {E : zE} {C : zC} {f : Nat} {ro : Int32 × zS} (hf : 3 ≤ f) (k29 : Int32 → Int32 → Int32 → Int32 → zS → zR) (hk29 : ∀ (x1 x2 x3 x4 : Int32) (t : zS), k29 x1 x2 x3 x4 t = some ro → zJ E shC C cX2_chooseAlike RX2 6 f (some .boolean) ro t 29 [(0, .ref (za E 3)), (1, .int x1), (2, .int x2), (3, .int x3), (4, .int x4)] []) (x1 : Int32) (x2 : Int32) (x3 : Int32) (x4 : Int32) (t : zS) (hF : bX2_chooseAlike_29 k29 x1 x2 x3 x4 t = some ro) : zJ E shC C cX2_chooseAlike RX2 6 f (some .boolean) ro t 29 [(0, .ref (za E 3)), (1, .int x1), (2, .int x2), (3, .int x3), (4, .int x4)] [] := by
  unfold bX2_chooseAlike_29 at hF
  refine z_iload 4 dX2_chooseAlike_29 rfl ?_
  refine z_sipush (v := 1600) dX2_chooseAlike_31 (by decide) ?_
  refine z_icmp_ge (tgt := 113) dX2_chooseAlike_34 (by decide) (fun hc => ?_) (fun hc => ?_)
  · have hF := zif_t hc hF
    refine z_iconst (v := 1) dX2_chooseAlike_113 (by decide) ?_
    exact z_zret hF (by decide) dX2_chooseAlike_114
  · have hF := zif_f hc hF
    refine z_iload_n 3 dX2_chooseAlike_37 rfl rfl ?_
    refine z_if_lt (tgt := 113) dX2_chooseAlike_38 (by decide) (fun hc => ?_) (fun hc => ?_)
    · have hF := zif_t hc hF
      refine z_iconst (v := 1) dX2_chooseAlike_113 (by decide) ?_
      exact z_zret hF (by decide) dX2_chooseAlike_114
    · have hF := zif_f hc hF
      refine z_aload_n 0 dX2_chooseAlike_41 rfl rfl ?_
      refine z_iload_n 2 dX2_chooseAlike_42 rfl rfl ?_
      refine z_iconst (v := 1) dX2_chooseAlike_43 (by decide) ?_
      refine z_ishr dX2_chooseAlike_44 ?_
      refine z_aload_n 0 dX2_chooseAlike_45 rfl rfl ?_
      refine z_getr fr_RX2_26 dX2_chooseAlike_46 ?_
      refine z_iload_n 3 dX2_chooseAlike_49 rfl rfl ?_
      obtain ⟨r1164, t1165, hc1166, hF⟩ := zbd_at hF
      refine z_callVi (ctX5_get (E := E) (sh := shC) (f := f - 1) (by omega) (k := 14) (n := 1600) rfl rfl hc1166) yy_X5_get yv_X5_get ob_C_14 lk_RX2_74 (by omega) rfl rfl (Nat.le_of_ble_eq_true rfl) dX2_chooseAlike_50 ?_
      obtain ⟨r1167, t1168, hc1169, hF⟩ := zbd_at hF
      refine z_callVi (ctX2_findPart (E := E) (f := f - 1) (by omega) hc1169) yy_X2_findPart yv_X2_findPart ob_C_3 lk_RX2_82 (by omega) rfl rfl (Nat.le_of_ble_eq_true rfl) dX2_chooseAlike_53 ?_
      refine z_istore (lv' := [(5, .int r1167), (0, .ref (za E 3)), (1, .int x1), (2, .int x2), (3, .int x3), (4, .int x4)]) dX2_chooseAlike_56 (by decide) rfl ?_
      refine z_iload 0 dX2_chooseAlike_58 rfl ?_
      refine z_if_ge (tgt := 65) dX2_chooseAlike_60 (by decide) (fun hc => ?_) (fun hc => ?_)
      · have hF := zif_t hc hF
        refine z_aload_n 1 dX2_chooseAlike_65 rfl rfl ?_
        refine z_iconst (v := 2) dX2_chooseAlike_66 (by decide) ?_
        refine z_aload_n 1 dX2_chooseAlike_67 rfl rfl ?_
        refine z_getr fr_RX2_29 dX2_chooseAlike_68 ?_
        refine z_iload_n 4 dX2_chooseAlike_71 rfl rfl ?_
        obtain ⟨r1170, t1171, hc1172, hF⟩ := zbd_at hF
        refine z_callVi (ctX5_get (E := E) (sh := shC) (f := f - 1) (by omega) (k := 16) (n := 1600) rfl rfl hc1172) yy_X5_get yv_X5_get ob_C_16 lk_RX2_74 (by omega) rfl rfl (Nat.le_of_ble_eq_true rfl) dX2_chooseAlike_72 ?_
        refine z_imul dX2_chooseAlike_75 ?_
        refine z_iload_n 2 dX2_chooseAlike_76 rfl rfl ?_
        refine z_iconst (v := 1) dX2_chooseAlike_77 (by decide) ?_
        refine z_iand dX2_chooseAlike_78 ?_
        refine z_iadd dX2_chooseAlike_79 ?_
        refine z_iconst (v := 2) dX2_chooseAlike_80 (by decide) ?_
        refine z_aload_n 1 dX2_chooseAlike_81 rfl rfl ?_
        refine z_getr fr_RX2_29 dX2_chooseAlike_82 ?_
        refine z_iload 0 dX2_chooseAlike_85 rfl ?_
        obtain ⟨r1173, t1174, hc1175, hF⟩ := zbd_at hF
        refine z_callVi (ctX5_get (E := E) (sh := shC) (f := f - 1) (by omega) (k := 16) (n := 1600) rfl rfl hc1175) yy_X5_get yv_X5_get ob_C_16 lk_RX2_74 (by omega) rfl rfl (Nat.le_of_ble_eq_true rfl) dX2_chooseAlike_87 ?_
        refine z_imul dX2_chooseAlike_90 ?_
        refine z_iload_n 3 dX2_chooseAlike_91 rfl rfl ?_
        refine z_iconst (v := 1) dX2_chooseAlike_92 (by decide) ?_
        refine z_iand dX2_chooseAlike_93 ?_
        refine z_iadd dX2_chooseAlike_94 ?_
        obtain ⟨r1176, t1177, hc1178, hF⟩ := zbd_at hF
        refine z_callVv (ctX2_pairUp (E := E) (f := f - 1) (by omega) hc1178) yy_X2_pairUp yv_X2_pairUp ob_C_3 lk_RX2_89 (by omega) rfl rfl (Nat.le_of_ble_eq_true rfl) dX2_chooseAlike_95 ?_
        refine z_aload_n 1 dX2_chooseAlike_98 rfl rfl ?_
        refine z_getr fr_RX2_32 dX2_chooseAlike_99 ?_
        refine z_iload_n 4 dX2_chooseAlike_102 rfl rfl ?_
        obtain ⟨r1179, t1180, hc1181, hF⟩ := zbd_at hF
        refine z_callVi (ctX5_get (E := E) (sh := shC) (f := f - 1) (by omega) (k := 18) (n := 1600) rfl rfl hc1181) yy_X5_get yv_X5_get ob_C_18 lk_RX2_74 (by omega) rfl rfl (Nat.le_of_ble_eq_true rfl) dX2_chooseAlike_103 ?_
        refine z_istore_n (lv' := [(3, .int r1179), (5, .int r1167), (0, .ref (za E 3)), (1, .int x1), (2, .int x2), (4, .int x4)]) dX2_chooseAlike_106 rfl (by decide) rfl ?_
        obtain ⟨v1182, ev1182⟩ : ∃ y : Int32, y = (x4 + 1) := ⟨_, rfl⟩
        have hF := zlet_at ev1182 hF
        refine z_iinc (v := v1182) (lv' := [(4, .int v1182), (3, .int r1179), (5, .int r1167), (0, .ref (za E 3)), (1, .int x1), (2, .int x2)]) (k := 5) dX2_chooseAlike_107 rfl (by rw [ev1182]; rfl) (by decide) rfl ?_
        refine z_goto (tgt := 29) dX2_chooseAlike_110 (by decide) ?_
        refine z_sub [3, 4, 5, 1, 0] rfl ?_
        exact hk29 x1 x2 r1179 v1182 _ hF
      · have hF := zif_f hc hF
        refine z_iconst (v := 0) dX2_chooseAlike_63 (by decide) ?_
        exact z_zret hF (by decide) dX2_chooseAlike_64
set_option maxHeartbeats 4000000 in
set_option maxRecDepth 20000 in
theorem wlX2_chooseAlike_29 {E : zE} {C : zC} {f : Nat} {ro : Int32 × zS} (hf : 3 ≤ f) (fu : Nat) : ∀ (x1 x2 x3 x4 : Int32) (t : zS), lX2_chooseAlike_29  fu x1 x2 x3 x4 t = some ro → zJ E shC C cX2_chooseAlike RX2 6 f (some .boolean) ro t 29 [(0, .ref (za E 3)), (1, .int x1), (2, .int x2), (3, .int x3), (4, .int x4)] [] := by
  induction fu with
  | zero => intro x1 x2 x3 x4 t hF; cases hF
  | succ fu ih => intro x1 x2 x3 x4 t hF; exact wbX2_chooseAlike_29 hf (lX2_chooseAlike_29  fu) ih x1 x2 x3 x4 t hF
set_option maxHeartbeats 4000000 in
set_option maxRecDepth 20000 in
theorem ctX2_chooseAlike {E : zE} {f : Nat} (hf : 3 ≤ f) {x1 : Int32} {x2 : Int32} {t : zS} {ro : Int32 × zS} (hF : mX2_chooseAlike  x1 x2 t = some ro) : zM E shC f yX2_chooseAlike cX2_chooseAlike 6 (some .boolean) [.ref (za E 3), .int x1, .int x2] t ro := by
  refine zM_of (by decide) (Nat.le_of_ble_eq_true rfl) (fun C => ?_)
  show zJ E shC C cX2_chooseAlike RX2 6 f (some .boolean) ro t 0 [(0, .ref (za E 3)), (1, .int x1), (2, .int x2)] []
  unfold mX2_chooseAlike at hF
  refine z_aload_n 0 dX2_chooseAlike_0 rfl rfl ?_
  refine z_iload_n 1 dX2_chooseAlike_1 rfl rfl ?_
  obtain ⟨r1183, t1184, hc1185, hF⟩ := zbd_at hF
  refine z_callVi (ctX2_choices (E := E) (f := f - 1) (by omega) hc1185) yy_X2_choices yv_X2_choices ob_C_3 lk_RX2_114 (by omega) rfl rfl (Nat.le_of_ble_eq_true rfl) dX2_chooseAlike_2 ?_
  refine z_aload_n 0 dX2_chooseAlike_5 rfl rfl ?_
  refine z_iload_n 2 dX2_chooseAlike_6 rfl rfl ?_
  obtain ⟨r1186, t1187, hc1188, hF⟩ := zbd_at hF
  refine z_callVi (ctX2_choices (E := E) (f := f - 1) (by omega) hc1188) yy_X2_choices yv_X2_choices ob_C_3 lk_RX2_114 (by omega) rfl rfl (Nat.le_of_ble_eq_true rfl) dX2_chooseAlike_7 ?_
  refine z_icmp_eq (tgt := 15) dX2_chooseAlike_10 (by decide) (fun hc => ?_) (fun hc => ?_)
  · have hF := zif_t hc hF
    refine z_aload_n 0 dX2_chooseAlike_15 rfl rfl ?_
    refine z_getr fr_RX2_20 dX2_chooseAlike_16 ?_
    refine z_iload_n 1 dX2_chooseAlike_19 rfl rfl ?_
    refine z_iconst (v := 1) dX2_chooseAlike_20 (by decide) ?_
    refine z_ishr dX2_chooseAlike_21 ?_
    obtain ⟨r1189, t1190, hc1191, hF⟩ := zbd_at hF
    refine z_callVi (ctX5_get (E := E) (sh := shC) (f := f - 1) (by omega) (k := 10) (n := 3000) rfl rfl hc1191) yy_X5_get yv_X5_get ob_C_10 lk_RX2_74 (by omega) rfl rfl (Nat.le_of_ble_eq_true rfl) dX2_chooseAlike_22 ?_
    refine z_istore_n (lv' := [(3, .int r1189), (0, .ref (za E 3)), (1, .int x1), (2, .int x2)]) dX2_chooseAlike_25 rfl (by decide) rfl ?_
    refine z_iconst (v := 0) dX2_chooseAlike_26 (by decide) ?_
    refine z_istore (lv' := [(4, .int 0), (3, .int r1189), (0, .ref (za E 3)), (1, .int x1), (2, .int x2)]) dX2_chooseAlike_27 (by decide) rfl ?_
    refine z_sub [2, 3, 4, 1, 0] rfl ?_
    exact wlX2_chooseAlike_29 hf  zFU x1 x2 r1189 0 _ hF
  · have hF := zif_f hc hF
    refine z_iconst (v := 0) dX2_chooseAlike_13 (by decide) ?_
    exact z_zret hF (by decide) dX2_chooseAlike_14
-- SessionHouse$Forms.insideOf(I)I
theorem dX2_insideOf_0 : decode cX2_insideOf 0 = .ok (.iconst 2, 1) := by decide +kernel
theorem dX2_insideOf_1 : decode cX2_insideOf 1 = .ok (.aload_n 0, 1) := by decide +kernel
theorem dX2_insideOf_2 : decode cX2_insideOf 2 = .ok (.getfield 20, 3) := by decide +kernel
theorem dX2_insideOf_5 : decode cX2_insideOf 5 = .ok (.iload_n 1, 1) := by decide +kernel
theorem dX2_insideOf_6 : decode cX2_insideOf 6 = .ok (.iconst 1, 1) := by decide +kernel
theorem dX2_insideOf_7 : decode cX2_insideOf 7 = .ok (.ishr, 1) := by decide +kernel
theorem dX2_insideOf_8 : decode cX2_insideOf 8 = .ok (.invokevirtual 74, 3) := by decide +kernel
theorem dX2_insideOf_11 : decode cX2_insideOf 11 = .ok (.imul, 1) := by decide +kernel
theorem dX2_insideOf_12 : decode cX2_insideOf 12 = .ok (.ireturn, 1) := by decide +kernel
def mX2_insideOf (x1 : Int32) (t : zS) : zR := zbd (mX5_get 10 3000 (x1 >>> (1 &&& 31)) t) fun r1192 t1193 => some ((2 * r1192), t1193)
set_option maxHeartbeats 4000000 in
set_option maxRecDepth 20000 in
theorem ctX2_insideOf {E : zE} {f : Nat} (hf : 2 ≤ f) {x1 : Int32} {t : zS} {ro : Int32 × zS} (hF : mX2_insideOf  x1 t = some ro) : zM E shC f yX2_insideOf cX2_insideOf 2 (some .int) [.ref (za E 3), .int x1] t ro := by
  refine zM_of (by decide) (Nat.le_of_ble_eq_true rfl) (fun C => ?_)
  show zJ E shC C cX2_insideOf RX2 2 f (some .int) ro t 0 [(0, .ref (za E 3)), (1, .int x1)] []
  unfold mX2_insideOf at hF
  refine z_iconst (v := 2) dX2_insideOf_0 (by decide) ?_
  refine z_aload_n 0 dX2_insideOf_1 rfl rfl ?_
  refine z_getr fr_RX2_20 dX2_insideOf_2 ?_
  refine z_iload_n 1 dX2_insideOf_5 rfl rfl ?_
  refine z_iconst (v := 1) dX2_insideOf_6 (by decide) ?_
  refine z_ishr dX2_insideOf_7 ?_
  obtain ⟨r1192, t1193, hc1194, hF⟩ := zbd_at hF
  refine z_callVi (ctX5_get (E := E) (sh := shC) (f := f - 1) (by omega) (k := 10) (n := 3000) rfl rfl hc1194) yy_X5_get yv_X5_get ob_C_10 lk_RX2_74 (by omega) rfl rfl (Nat.le_of_ble_eq_true rfl) dX2_insideOf_8 ?_
  refine z_imul dX2_insideOf_11 ?_
  exact z_iret hF dX2_insideOf_12
-- SessionHouse$Forms.behindOf(I)I
theorem dX2_behindOf_0 : decode cX2_behindOf 0 = .ok (.iconst 2, 1) := by decide +kernel
theorem dX2_behindOf_1 : decode cX2_behindOf 1 = .ok (.aload_n 0, 1) := by decide +kernel
theorem dX2_behindOf_2 : decode cX2_behindOf 2 = .ok (.getfield 23, 3) := by decide +kernel
theorem dX2_behindOf_5 : decode cX2_behindOf 5 = .ok (.iload_n 1, 1) := by decide +kernel
theorem dX2_behindOf_6 : decode cX2_behindOf 6 = .ok (.iconst 1, 1) := by decide +kernel
theorem dX2_behindOf_7 : decode cX2_behindOf 7 = .ok (.ishr, 1) := by decide +kernel
theorem dX2_behindOf_8 : decode cX2_behindOf 8 = .ok (.invokevirtual 74, 3) := by decide +kernel
theorem dX2_behindOf_11 : decode cX2_behindOf 11 = .ok (.imul, 1) := by decide +kernel
theorem dX2_behindOf_12 : decode cX2_behindOf 12 = .ok (.iload_n 1, 1) := by decide +kernel
theorem dX2_behindOf_13 : decode cX2_behindOf 13 = .ok (.iconst 1, 1) := by decide +kernel
theorem dX2_behindOf_14 : decode cX2_behindOf 14 = .ok (.iand, 1) := by decide +kernel
theorem dX2_behindOf_15 : decode cX2_behindOf 15 = .ok (.iadd, 1) := by decide +kernel
theorem dX2_behindOf_16 : decode cX2_behindOf 16 = .ok (.ireturn, 1) := by decide +kernel
def mX2_behindOf (x1 : Int32) (t : zS) : zR := zbd (mX5_get 12 3000 (x1 >>> (1 &&& 31)) t) fun r1195 t1196 => some (((2 * r1195) + (x1 &&& 1)), t1196)
set_option maxHeartbeats 4000000 in
set_option maxRecDepth 20000 in
theorem ctX2_behindOf {E : zE} {f : Nat} (hf : 2 ≤ f) {x1 : Int32} {t : zS} {ro : Int32 × zS} (hF : mX2_behindOf  x1 t = some ro) : zM E shC f yX2_behindOf cX2_behindOf 2 (some .int) [.ref (za E 3), .int x1] t ro := by
  refine zM_of (by decide) (Nat.le_of_ble_eq_true rfl) (fun C => ?_)
  show zJ E shC C cX2_behindOf RX2 2 f (some .int) ro t 0 [(0, .ref (za E 3)), (1, .int x1)] []
  unfold mX2_behindOf at hF
  refine z_iconst (v := 2) dX2_behindOf_0 (by decide) ?_
  refine z_aload_n 0 dX2_behindOf_1 rfl rfl ?_
  refine z_getr fr_RX2_23 dX2_behindOf_2 ?_
  refine z_iload_n 1 dX2_behindOf_5 rfl rfl ?_
  refine z_iconst (v := 1) dX2_behindOf_6 (by decide) ?_
  refine z_ishr dX2_behindOf_7 ?_
  obtain ⟨r1195, t1196, hc1197, hF⟩ := zbd_at hF
  refine z_callVi (ctX5_get (E := E) (sh := shC) (f := f - 1) (by omega) (k := 12) (n := 3000) rfl rfl hc1197) yy_X5_get yv_X5_get ob_C_12 lk_RX2_74 (by omega) rfl rfl (Nat.le_of_ble_eq_true rfl) dX2_behindOf_8 ?_
  refine z_imul dX2_behindOf_11 ?_
  refine z_iload_n 1 dX2_behindOf_12 rfl rfl ?_
  refine z_iconst (v := 1) dX2_behindOf_13 (by decide) ?_
  refine z_iand dX2_behindOf_14 ?_
  refine z_iadd dX2_behindOf_15 ?_
  exact z_iret hF dX2_behindOf_16
-- SessionHouse$Forms.goOnAlike(II)Z
theorem dX2_goOnAlike_0 : decode cX2_goOnAlike 0 = .ok (.aload_n 0, 1) := by decide +kernel
theorem dX2_goOnAlike_1 : decode cX2_goOnAlike 1 = .ok (.iload_n 1, 1) := by decide +kernel
theorem dX2_goOnAlike_2 : decode cX2_goOnAlike 2 = .ok (.invokevirtual 98, 3) := by decide +kernel
theorem dX2_goOnAlike_5 : decode cX2_goOnAlike 5 = .ok (.istore_n 3, 1) := by decide +kernel
theorem dX2_goOnAlike_6 : decode cX2_goOnAlike 6 = .ok (.iload_n 3, 1) := by decide +kernel
theorem dX2_goOnAlike_7 : decode cX2_goOnAlike 7 = .ok (.bipush 6, 2) := by decide +kernel
theorem dX2_goOnAlike_9 : decode cX2_goOnAlike 9 = .ok (.if_icmp .eq 9, 3) := by decide +kernel
theorem dX2_goOnAlike_12 : decode cX2_goOnAlike 12 = .ok (.iload_n 3, 1) := by decide +kernel
theorem dX2_goOnAlike_13 : decode cX2_goOnAlike 13 = .ok (.bipush 7, 2) := by decide +kernel
theorem dX2_goOnAlike_15 : decode cX2_goOnAlike 15 = .ok (.if_icmp .ne 17, 3) := by decide +kernel
theorem dX2_goOnAlike_18 : decode cX2_goOnAlike 18 = .ok (.aload_n 0, 1) := by decide +kernel
theorem dX2_goOnAlike_19 : decode cX2_goOnAlike 19 = .ok (.aload_n 0, 1) := by decide +kernel
theorem dX2_goOnAlike_20 : decode cX2_goOnAlike 20 = .ok (.iload_n 1, 1) := by decide +kernel
theorem dX2_goOnAlike_21 : decode cX2_goOnAlike 21 = .ok (.invokevirtual 108, 3) := by decide +kernel
theorem dX2_goOnAlike_24 : decode cX2_goOnAlike 24 = .ok (.aload_n 0, 1) := by decide +kernel
theorem dX2_goOnAlike_25 : decode cX2_goOnAlike 25 = .ok (.iload_n 2, 1) := by decide +kernel
theorem dX2_goOnAlike_26 : decode cX2_goOnAlike 26 = .ok (.invokevirtual 108, 3) := by decide +kernel
theorem dX2_goOnAlike_29 : decode cX2_goOnAlike 29 = .ok (.invokevirtual 89, 3) := by decide +kernel
theorem dX2_goOnAlike_32 : decode cX2_goOnAlike 32 = .ok (.iload_n 3, 1) := by decide +kernel
theorem dX2_goOnAlike_33 : decode cX2_goOnAlike 33 = .ok (.iconst 4, 1) := by decide +kernel
theorem dX2_goOnAlike_34 : decode cX2_goOnAlike 34 = .ok (.if_icmp .lt 17, 3) := by decide +kernel
theorem dX2_goOnAlike_37 : decode cX2_goOnAlike 37 = .ok (.aload_n 0, 1) := by decide +kernel
theorem dX2_goOnAlike_38 : decode cX2_goOnAlike 38 = .ok (.aload_n 0, 1) := by decide +kernel
theorem dX2_goOnAlike_39 : decode cX2_goOnAlike 39 = .ok (.iload_n 1, 1) := by decide +kernel
theorem dX2_goOnAlike_40 : decode cX2_goOnAlike 40 = .ok (.invokevirtual 111, 3) := by decide +kernel
theorem dX2_goOnAlike_43 : decode cX2_goOnAlike 43 = .ok (.aload_n 0, 1) := by decide +kernel
theorem dX2_goOnAlike_44 : decode cX2_goOnAlike 44 = .ok (.iload_n 2, 1) := by decide +kernel
theorem dX2_goOnAlike_45 : decode cX2_goOnAlike 45 = .ok (.invokevirtual 111, 3) := by decide +kernel
theorem dX2_goOnAlike_48 : decode cX2_goOnAlike 48 = .ok (.invokevirtual 89, 3) := by decide +kernel
theorem dX2_goOnAlike_51 : decode cX2_goOnAlike 51 = .ok (.iconst 1, 1) := by decide +kernel
theorem dX2_goOnAlike_52 : decode cX2_goOnAlike 52 = .ok (.ireturn, 1) := by decide +kernel
def bX2_goOnAlike_32 (x1 : Int32) (x2 : Int32) (x3 : Int32) (t : zS) : zR := if x3 < 4 then some (1, t) else zbd (mX2_behindOf x1 t) fun r1198 t1199 => zbd (mX2_behindOf x2 t1199) fun r1201 t1202 => zbd (mX2_pairUp r1198 r1201 t1202) fun r1204 t1205 => some (1, t1205)
def bX2_goOnAlike_18 (x1 : Int32) (x2 : Int32) (x3 : Int32) (t : zS) : zR := zbd (mX2_insideOf x1 t) fun r1207 t1208 => zbd (mX2_insideOf x2 t1208) fun r1210 t1211 => zbd (mX2_pairUp r1207 r1210 t1211) fun r1213 t1214 => bX2_goOnAlike_32  x1 x2 x3 t1214
def mX2_goOnAlike (x1 : Int32) (x2 : Int32) (t : zS) : zR := zbd (mX2_kindOf x1 t) fun r1216 t1217 => if r1216 = 6 then bX2_goOnAlike_18  x1 x2 r1216 t1217 else if r1216 = 7 then bX2_goOnAlike_18  x1 x2 r1216 t1217 else bX2_goOnAlike_32  x1 x2 r1216 t1217
set_option maxHeartbeats 4000000 in
set_option maxRecDepth 20000 in
theorem wbX2_goOnAlike_32 {E : zE} {C : zC} {f : Nat} {ro : Int32 × zS} (hf : 3 ≤ f) (x1 : Int32) (x2 : Int32) (x3 : Int32) (t : zS) (hF : bX2_goOnAlike_32  x1 x2 x3 t = some ro) : zJ E shC C cX2_goOnAlike RX2 4 f (some .boolean) ro t 32 [(0, .ref (za E 3)), (1, .int x1), (2, .int x2), (3, .int x3)] [] := by
  unfold bX2_goOnAlike_32 at hF
  refine z_iload_n 3 dX2_goOnAlike_32 rfl rfl ?_
  refine z_iconst (v := 4) dX2_goOnAlike_33 (by decide) ?_
  refine z_icmp_lt (tgt := 51) dX2_goOnAlike_34 (by decide) (fun hc => ?_) (fun hc => ?_)
  · have hF := zif_t hc hF
    refine z_iconst (v := 1) dX2_goOnAlike_51 (by decide) ?_
    exact z_zret hF (by decide) dX2_goOnAlike_52
  · have hF := zif_f hc hF
    refine z_aload_n 0 dX2_goOnAlike_37 rfl rfl ?_
    refine z_aload_n 0 dX2_goOnAlike_38 rfl rfl ?_
    refine z_iload_n 1 dX2_goOnAlike_39 rfl rfl ?_
    obtain ⟨r1198, t1199, hc1200, hF⟩ := zbd_at hF
    refine z_callVi (ctX2_behindOf (E := E) (f := f - 1) (by omega) hc1200) yy_X2_behindOf yv_X2_behindOf ob_C_3 lk_RX2_111 (by omega) rfl rfl (Nat.le_of_ble_eq_true rfl) dX2_goOnAlike_40 ?_
    refine z_aload_n 0 dX2_goOnAlike_43 rfl rfl ?_
    refine z_iload_n 2 dX2_goOnAlike_44 rfl rfl ?_
    obtain ⟨r1201, t1202, hc1203, hF⟩ := zbd_at hF
    refine z_callVi (ctX2_behindOf (E := E) (f := f - 1) (by omega) hc1203) yy_X2_behindOf yv_X2_behindOf ob_C_3 lk_RX2_111 (by omega) rfl rfl (Nat.le_of_ble_eq_true rfl) dX2_goOnAlike_45 ?_
    obtain ⟨r1204, t1205, hc1206, hF⟩ := zbd_at hF
    refine z_callVv (ctX2_pairUp (E := E) (f := f - 1) (by omega) hc1206) yy_X2_pairUp yv_X2_pairUp ob_C_3 lk_RX2_89 (by omega) rfl rfl (Nat.le_of_ble_eq_true rfl) dX2_goOnAlike_48 ?_
    refine z_iconst (v := 1) dX2_goOnAlike_51 (by decide) ?_
    exact z_zret hF (by decide) dX2_goOnAlike_52
set_option maxHeartbeats 4000000 in
set_option maxRecDepth 20000 in
theorem wbX2_goOnAlike_18 {E : zE} {C : zC} {f : Nat} {ro : Int32 × zS} (hf : 3 ≤ f) (x1 : Int32) (x2 : Int32) (x3 : Int32) (t : zS) (hF : bX2_goOnAlike_18  x1 x2 x3 t = some ro) : zJ E shC C cX2_goOnAlike RX2 4 f (some .boolean) ro t 18 [(0, .ref (za E 3)), (1, .int x1), (2, .int x2), (3, .int x3)] [] := by
  unfold bX2_goOnAlike_18 at hF
  refine z_aload_n 0 dX2_goOnAlike_18 rfl rfl ?_
  refine z_aload_n 0 dX2_goOnAlike_19 rfl rfl ?_
  refine z_iload_n 1 dX2_goOnAlike_20 rfl rfl ?_
  obtain ⟨r1207, t1208, hc1209, hF⟩ := zbd_at hF
  refine z_callVi (ctX2_insideOf (E := E) (f := f - 1) (by omega) hc1209) yy_X2_insideOf yv_X2_insideOf ob_C_3 lk_RX2_108 (by omega) rfl rfl (Nat.le_of_ble_eq_true rfl) dX2_goOnAlike_21 ?_
  refine z_aload_n 0 dX2_goOnAlike_24 rfl rfl ?_
  refine z_iload_n 2 dX2_goOnAlike_25 rfl rfl ?_
  obtain ⟨r1210, t1211, hc1212, hF⟩ := zbd_at hF
  refine z_callVi (ctX2_insideOf (E := E) (f := f - 1) (by omega) hc1212) yy_X2_insideOf yv_X2_insideOf ob_C_3 lk_RX2_108 (by omega) rfl rfl (Nat.le_of_ble_eq_true rfl) dX2_goOnAlike_26 ?_
  obtain ⟨r1213, t1214, hc1215, hF⟩ := zbd_at hF
  refine z_callVv (ctX2_pairUp (E := E) (f := f - 1) (by omega) hc1215) yy_X2_pairUp yv_X2_pairUp ob_C_3 lk_RX2_89 (by omega) rfl rfl (Nat.le_of_ble_eq_true rfl) dX2_goOnAlike_29 ?_
  exact wbX2_goOnAlike_32 hf  x1 x2 x3 _ hF
set_option maxHeartbeats 4000000 in
set_option maxRecDepth 20000 in
theorem ctX2_goOnAlike {E : zE} {f : Nat} (hf : 3 ≤ f) {x1 : Int32} {x2 : Int32} {t : zS} {ro : Int32 × zS} (hF : mX2_goOnAlike  x1 x2 t = some ro) : zM E shC f yX2_goOnAlike cX2_goOnAlike 4 (some .boolean) [.ref (za E 3), .int x1, .int x2] t ro := by
  refine zM_of (by decide) (Nat.le_of_ble_eq_true rfl) (fun C => ?_)
  show zJ E shC C cX2_goOnAlike RX2 4 f (some .boolean) ro t 0 [(0, .ref (za E 3)), (1, .int x1), (2, .int x2)] []
  unfold mX2_goOnAlike at hF
  refine z_aload_n 0 dX2_goOnAlike_0 rfl rfl ?_
  refine z_iload_n 1 dX2_goOnAlike_1 rfl rfl ?_
  obtain ⟨r1216, t1217, hc1218, hF⟩ := zbd_at hF
  refine z_callVi (ctX2_kindOf (E := E) (f := f - 1) (by omega) hc1218) yy_X2_kindOf yv_X2_kindOf ob_C_3 lk_RX2_98 (by omega) rfl rfl (Nat.le_of_ble_eq_true rfl) dX2_goOnAlike_2 ?_
  refine z_istore_n (lv' := [(3, .int r1216), (0, .ref (za E 3)), (1, .int x1), (2, .int x2)]) dX2_goOnAlike_5 rfl (by decide) rfl ?_
  refine z_iload_n 0 dX2_goOnAlike_6 rfl rfl ?_
  refine z_bipush (v := 6) dX2_goOnAlike_7 (by decide) ?_
  refine z_icmp_eq (tgt := 18) dX2_goOnAlike_9 (by decide) (fun hc => ?_) (fun hc => ?_)
  · have hF := zif_t hc hF
    refine z_sub [1, 2, 3, 0] rfl ?_
    exact wbX2_goOnAlike_18 hf  x1 x2 r1216 _ hF
  · have hF := zif_f hc hF
    refine z_iload_n 0 dX2_goOnAlike_12 rfl rfl ?_
    refine z_bipush (v := 7) dX2_goOnAlike_13 (by decide) ?_
    refine z_icmp_ne (tgt := 32) dX2_goOnAlike_15 (by decide) (fun hc => ?_) (fun hc => ?_)
    · have hF := zif_f hc hF
      refine z_sub [1, 2, 3, 0] rfl ?_
      exact wbX2_goOnAlike_32 hf  x1 x2 r1216 _ hF
    · have hF := zif_t hc hF
      refine z_sub [1, 2, 3, 0] rfl ?_
      exact wbX2_goOnAlike_18 hf  x1 x2 r1216 _ hF
