abbrev GgX12_compared : Type := (zS → zR) × (zS → zR) × (zS → zR) × (zS → zR)
def HgX12_compared (E : zE) (f : Nat) (g : GgX12_compared) : Prop := (∀ (t : zS) (ro : Int32 × zS), g.1  t = some ro → zM E shM f yX12_compared cX12_compared 2 none [.ref (za E 0)] t ro) ∧ (∀ (t : zS) (ro : Int32 × zS), g.2.1  t = some ro → zM E shM f yX12_sum cX12_sum 2 none [.ref (za E 0)] t ro) ∧ (∀ (t : zS) (ro : Int32 × zS), g.2.2.1  t = some ro → zM E shM f yX12_product cX12_product 2 none [.ref (za E 0)] t ro) ∧ (∀ (t : zS) (ro : Int32 × zS), g.2.2.2  t = some ro → zM E shM f yX12_atom cX12_atom 2 none [.ref (za E 0)] t ro)
theorem z_hgX12_compared {E : zE} {f : Nat} {g : GgX12_compared} (hg : HgX12_compared E f g) {t : zS} {ro : Int32 × zS} (h : g.1  t = some ro) : zM E shM f yX12_compared cX12_compared 2 none [.ref (za E 0)] t ro := hg.1  _ _ h
theorem z_hgX12_sum {E : zE} {f : Nat} {g : GgX12_compared} (hg : HgX12_compared E f g) {t : zS} {ro : Int32 × zS} (h : g.2.1  t = some ro) : zM E shM f yX12_sum cX12_sum 2 none [.ref (za E 0)] t ro := hg.2.1  _ _ h
theorem z_hgX12_product {E : zE} {f : Nat} {g : GgX12_compared} (hg : HgX12_compared E f g) {t : zS} {ro : Int32 × zS} (h : g.2.2.1  t = some ro) : zM E shM f yX12_product cX12_product 2 none [.ref (za E 0)] t ro := hg.2.2.1  _ _ h
theorem z_hgX12_atom {E : zE} {f : Nat} {g : GgX12_compared} (hg : HgX12_compared E f g) {t : zS} {ro : Int32 × zS} (h : g.2.2.2  t = some ro) : zM E shM f yX12_atom cX12_atom 2 none [.ref (za E 0)] t ro := hg.2.2.2  _ _ h
-- SessionHouseModel.compared()V
theorem dX12_compared_0 : decode cX12_compared 0 = .ok (.aload_n 0, 1) := by decide +kernel
theorem dX12_compared_1 : decode cX12_compared 1 = .ok (.invokevirtual 379, 3) := by decide +kernel
theorem dX12_compared_4 : decode cX12_compared 4 = .ok (.aload_n 0, 1) := by decide +kernel
theorem dX12_compared_5 : decode cX12_compared 5 = .ok (.bipush 60, 2) := by decide +kernel
theorem dX12_compared_7 : decode cX12_compared 7 = .ok (.invokevirtual 279, 3) := by decide +kernel
theorem dX12_compared_10 : decode cX12_compared 10 = .ok (.ifCond .ne 13, 3) := by decide +kernel
theorem dX12_compared_13 : decode cX12_compared 13 = .ok (.aload_n 0, 1) := by decide +kernel
theorem dX12_compared_14 : decode cX12_compared 14 = .ok (.bipush 69, 2) := by decide +kernel
theorem dX12_compared_16 : decode cX12_compared 16 = .ok (.invokevirtual 279, 3) := by decide +kernel
theorem dX12_compared_19 : decode cX12_compared 19 = .ok (.ifCond .ne 4, 3) := by decide +kernel
theorem dX12_compared_22 : decode cX12_compared 22 = .ok (.return_, 1) := by decide +kernel
theorem dX12_compared_23 : decode cX12_compared 23 = .ok (.aload_n 0, 1) := by decide +kernel
theorem dX12_compared_24 : decode cX12_compared 24 = .ok (.getfield 240, 3) := by decide +kernel
theorem dX12_compared_27 : decode cX12_compared 27 = .ok (.istore_n 1, 1) := by decide +kernel
theorem dX12_compared_28 : decode cX12_compared 28 = .ok (.aload_n 0, 1) := by decide +kernel
theorem dX12_compared_29 : decode cX12_compared 29 = .ok (.invokevirtual 273, 3) := by decide +kernel
theorem dX12_compared_32 : decode cX12_compared 32 = .ok (.aload_n 0, 1) := by decide +kernel
theorem dX12_compared_33 : decode cX12_compared 33 = .ok (.invokevirtual 379, 3) := by decide +kernel
theorem dX12_compared_36 : decode cX12_compared 36 = .ok (.aload_n 0, 1) := by decide +kernel
theorem dX12_compared_37 : decode cX12_compared 37 = .ok (.iload_n 1, 1) := by decide +kernel
theorem dX12_compared_38 : decode cX12_compared 38 = .ok (.invokevirtual 376, 3) := by decide +kernel
theorem dX12_compared_41 : decode cX12_compared 41 = .ok (.return_, 1) := by decide +kernel
def bX12_compared_23 (g : GgX12_compared) (t : zS) : zR := zlet (t 0 8) fun v2867 => zbd (mX12_next  t) fun r2868 t2869 => zbd (g.2.1  t2869) fun r2871 t2872 => zbd (mX12_put v2867 t2872) fun r2874 t2875 => some (0, t2875)
def mX12_compared (g : GgX12_compared) (t : zS) : zR := zbd (g.2.1  t) fun r2877 t2878 => zbd (mX12_isSign 60 t2878) fun r2880 t2881 => if r2880 = 0 then zbd (mX12_isSign 69 t2881) fun r2883 t2884 => if r2883 = 0 then some (0, t2884) else bX12_compared_23 g  t2884 else bX12_compared_23 g  t2881
set_option maxHeartbeats 4000000 in
set_option maxRecDepth 20000 in
theorem wbX12_compared_23 {E : zE} {C : zC} {f : Nat} {ro : Int32 × zS} (hf : 6 ≤ f) {g : GgX12_compared} (hg : HgX12_compared E (f - 1) g) (t : zS) (hF : bX12_compared_23 g  t = some ro) : zJ E shM C cX12_compared RX12 2 f none ro t 23 [(0, .ref (za E 0))] [] := by
  unfold bX12_compared_23 at hF
  refine z_aload_n 0 dX12_compared_23 rfl rfl ?_
  refine z_geti fi_RX12_240 dX12_compared_24 ?_
  refine z_topi (fun v2867 ev2867 => ?_)
  have hF := zlet_at ev2867 hF
  refine z_istore_n (lv' := [(1, .int v2867), (0, .ref (za E 0))]) dX12_compared_27 rfl (by decide) rfl ?_
  refine z_aload_n 1 dX12_compared_28 rfl rfl ?_
  obtain ⟨r2868, t2869, hc2870, hF⟩ := zbd_at hF
  refine z_callVv (ctX12_next (E := E) (f := f - 1) (by omega) hc2870) yy_X12_next yv_X12_next ob_M_0 lk_RX12_273 (by omega) rfl rfl (Nat.le_of_ble_eq_true rfl) dX12_compared_29 ?_
  refine z_aload_n 1 dX12_compared_32 rfl rfl ?_
  obtain ⟨r2871, t2872, hc2873, hF⟩ := zbd_at hF
  refine z_callVv (z_hgX12_sum hg hc2873) yy_X12_sum yv_X12_sum ob_M_0 lk_RX12_379 (by omega) rfl rfl (Nat.le_of_ble_eq_true rfl) dX12_compared_33 ?_
  refine z_aload_n 1 dX12_compared_36 rfl rfl ?_
  refine z_iload_n 0 dX12_compared_37 rfl rfl ?_
  obtain ⟨r2874, t2875, hc2876, hF⟩ := zbd_at hF
  refine z_callVv (ctX12_put (E := E) (f := f - 1) (by omega) hc2876) yy_X12_put yv_X12_put ob_M_0 lk_RX12_376 (by omega) rfl rfl (Nat.le_of_ble_eq_true rfl) dX12_compared_38 ?_
  exact z_vret hF dX12_compared_41
set_option maxHeartbeats 4000000 in
set_option maxRecDepth 20000 in
theorem ctX12_compared {E : zE} {f : Nat} (hf : 6 ≤ f) {g : GgX12_compared} (hg : HgX12_compared E (f - 1) g) {t : zS} {ro : Int32 × zS} (hF : mX12_compared g  t = some ro) : zM E shM f yX12_compared cX12_compared 2 none [.ref (za E 0)] t ro := by
  refine zM_of (by decide) (Nat.le_of_ble_eq_true rfl) (fun C => ?_)
  show zJ E shM C cX12_compared RX12 2 f none ro t 0 [(0, .ref (za E 0))] []
  unfold mX12_compared at hF
  refine z_aload_n 0 dX12_compared_0 rfl rfl ?_
  obtain ⟨r2877, t2878, hc2879, hF⟩ := zbd_at hF
  refine z_callVv (z_hgX12_sum hg hc2879) yy_X12_sum yv_X12_sum ob_M_0 lk_RX12_379 (by omega) rfl rfl (Nat.le_of_ble_eq_true rfl) dX12_compared_1 ?_
  refine z_aload_n 0 dX12_compared_4 rfl rfl ?_
  refine z_bipush (v := 60) dX12_compared_5 (by decide) ?_
  obtain ⟨r2880, t2881, hc2882, hF⟩ := zbd_at hF
  refine z_callVi (ctX12_isSign (E := E) (f := f - 1) (by omega) hc2882) yy_X12_isSign yv_X12_isSign ob_M_0 lk_RX12_279 (by omega) rfl rfl (Nat.le_of_ble_eq_true rfl) dX12_compared_7 ?_
  refine z_if_ne (tgt := 23) dX12_compared_10 (by decide) (fun hc => ?_) (fun hc => ?_)
  · have hF := zif_f hc hF
    exact wbX12_compared_23 hf hg  _ hF
  · have hF := zif_t hc hF
    refine z_aload_n 0 dX12_compared_13 rfl rfl ?_
    refine z_bipush (v := 69) dX12_compared_14 (by decide) ?_
    obtain ⟨r2883, t2884, hc2885, hF⟩ := zbd_at hF
    refine z_callVi (ctX12_isSign (E := E) (f := f - 1) (by omega) hc2885) yy_X12_isSign yv_X12_isSign ob_M_0 lk_RX12_279 (by omega) rfl rfl (Nat.le_of_ble_eq_true rfl) dX12_compared_16 ?_
    refine z_if_ne (tgt := 23) dX12_compared_19 (by decide) (fun hc => ?_) (fun hc => ?_)
    · have hF := zif_f hc hF
      exact wbX12_compared_23 hf hg  _ hF
    · have hF := zif_t hc hF
      exact z_vret hF dX12_compared_22
-- SessionHouseModel.sum()V
theorem dX12_sum_0 : decode cX12_sum 0 = .ok (.aload_n 0, 1) := by decide +kernel
theorem dX12_sum_1 : decode cX12_sum 1 = .ok (.invokevirtual 382, 3) := by decide +kernel
theorem dX12_sum_4 : decode cX12_sum 4 = .ok (.aload_n 0, 1) := by decide +kernel
theorem dX12_sum_5 : decode cX12_sum 5 = .ok (.bipush 43, 2) := by decide +kernel
theorem dX12_sum_7 : decode cX12_sum 7 = .ok (.invokevirtual 279, 3) := by decide +kernel
theorem dX12_sum_10 : decode cX12_sum 10 = .ok (.ifCond .ne 12, 3) := by decide +kernel
theorem dX12_sum_13 : decode cX12_sum 13 = .ok (.aload_n 0, 1) := by decide +kernel
theorem dX12_sum_14 : decode cX12_sum 14 = .ok (.bipush 45, 2) := by decide +kernel
theorem dX12_sum_16 : decode cX12_sum 16 = .ok (.invokevirtual 279, 3) := by decide +kernel
theorem dX12_sum_19 : decode cX12_sum 19 = .ok (.ifCond .eq 24, 3) := by decide +kernel
theorem dX12_sum_22 : decode cX12_sum 22 = .ok (.aload_n 0, 1) := by decide +kernel
theorem dX12_sum_23 : decode cX12_sum 23 = .ok (.getfield 240, 3) := by decide +kernel
theorem dX12_sum_26 : decode cX12_sum 26 = .ok (.istore_n 1, 1) := by decide +kernel
theorem dX12_sum_27 : decode cX12_sum 27 = .ok (.aload_n 0, 1) := by decide +kernel
theorem dX12_sum_28 : decode cX12_sum 28 = .ok (.invokevirtual 273, 3) := by decide +kernel
theorem dX12_sum_31 : decode cX12_sum 31 = .ok (.aload_n 0, 1) := by decide +kernel
theorem dX12_sum_32 : decode cX12_sum 32 = .ok (.invokevirtual 382, 3) := by decide +kernel
theorem dX12_sum_35 : decode cX12_sum 35 = .ok (.aload_n 0, 1) := by decide +kernel
theorem dX12_sum_36 : decode cX12_sum 36 = .ok (.iload_n 1, 1) := by decide +kernel
theorem dX12_sum_37 : decode cX12_sum 37 = .ok (.invokevirtual 376, 3) := by decide +kernel
theorem dX12_sum_40 : decode cX12_sum 40 = .ok (.goto (-36), 3) := by decide +kernel
theorem dX12_sum_43 : decode cX12_sum 43 = .ok (.return_, 1) := by decide +kernel
def bX12_sum_22 (g : GgX12_compared) (k4 : zS → zR) (t : zS) : zR := zlet (t 0 8) fun v2886 => zbd (mX12_next  t) fun r2887 t2888 => zbd (g.2.2.1  t2888) fun r2890 t2891 => zbd (mX12_put v2886 t2891) fun r2893 t2894 => k4  t2894
def bX12_sum_4 (g : GgX12_compared) (k4 : zS → zR) (t : zS) : zR := zbd (mX12_isSign 43 t) fun r2896 t2897 => if r2896 = 0 then zbd (mX12_isSign 45 t2897) fun r2899 t2900 => if r2899 = 0 then some (0, t2900) else bX12_sum_22 g k4  t2900 else bX12_sum_22 g k4  t2897
def lX12_sum_4 (g : GgX12_compared) : Nat → zS → zR
  | 0, _ => none
  | fu + 1, t => bX12_sum_4 g (lX12_sum_4 g fu)  t
def mX12_sum (g : GgX12_compared) (t : zS) : zR := zbd (g.2.2.1  t) fun r2902 t2903 => lX12_sum_4 g zFU  t2903
set_option maxHeartbeats 4000000 in
set_option maxRecDepth 20000 in
theorem wbX12_sum_22 {E : zE} {C : zC} {f : Nat} {ro : Int32 × zS} (hf : 6 ≤ f) {g : GgX12_compared} (hg : HgX12_compared E (f - 1) g) (k4 : zS → zR) (hk4 : ∀ (t : zS), k4  t = some ro → zJ E shM C cX12_sum RX12 2 f none ro t 4 [(0, .ref (za E 0))] []) (t : zS) (hF : bX12_sum_22 g k4  t = some ro) : zJ E shM C cX12_sum RX12 2 f none ro t 22 [(0, .ref (za E 0))] [] := by
  unfold bX12_sum_22 at hF
  refine z_aload_n 0 dX12_sum_22 rfl rfl ?_
  refine z_geti fi_RX12_240 dX12_sum_23 ?_
  refine z_topi (fun v2886 ev2886 => ?_)
  have hF := zlet_at ev2886 hF
  refine z_istore_n (lv' := [(1, .int v2886), (0, .ref (za E 0))]) dX12_sum_26 rfl (by decide) rfl ?_
  refine z_aload_n 1 dX12_sum_27 rfl rfl ?_
  obtain ⟨r2887, t2888, hc2889, hF⟩ := zbd_at hF
  refine z_callVv (ctX12_next (E := E) (f := f - 1) (by omega) hc2889) yy_X12_next yv_X12_next ob_M_0 lk_RX12_273 (by omega) rfl rfl (Nat.le_of_ble_eq_true rfl) dX12_sum_28 ?_
  refine z_aload_n 1 dX12_sum_31 rfl rfl ?_
  obtain ⟨r2890, t2891, hc2892, hF⟩ := zbd_at hF
  refine z_callVv (z_hgX12_product hg hc2892) yy_X12_product yv_X12_product ob_M_0 lk_RX12_382 (by omega) rfl rfl (Nat.le_of_ble_eq_true rfl) dX12_sum_32 ?_
  refine z_aload_n 1 dX12_sum_35 rfl rfl ?_
  refine z_iload_n 0 dX12_sum_36 rfl rfl ?_
  obtain ⟨r2893, t2894, hc2895, hF⟩ := zbd_at hF
  refine z_callVv (ctX12_put (E := E) (f := f - 1) (by omega) hc2895) yy_X12_put yv_X12_put ob_M_0 lk_RX12_376 (by omega) rfl rfl (Nat.le_of_ble_eq_true rfl) dX12_sum_37 ?_
  refine z_goto (tgt := 4) dX12_sum_40 (by decide) ?_
  refine z_sub [1] rfl ?_
  exact hk4  _ hF
set_option maxHeartbeats 4000000 in
set_option maxRecDepth 20000 in
theorem wbX12_sum_4 {E : zE} {C : zC} {f : Nat} {ro : Int32 × zS} (hf : 6 ≤ f) {g : GgX12_compared} (hg : HgX12_compared E (f - 1) g) (k4 : zS → zR) (hk4 : ∀ (t : zS), k4  t = some ro → zJ E shM C cX12_sum RX12 2 f none ro t 4 [(0, .ref (za E 0))] []) (t : zS) (hF : bX12_sum_4 g k4  t = some ro) : zJ E shM C cX12_sum RX12 2 f none ro t 4 [(0, .ref (za E 0))] [] := by
  unfold bX12_sum_4 at hF
  refine z_aload_n 0 dX12_sum_4 rfl rfl ?_
  refine z_bipush (v := 43) dX12_sum_5 (by decide) ?_
  obtain ⟨r2896, t2897, hc2898, hF⟩ := zbd_at hF
  refine z_callVi (ctX12_isSign (E := E) (f := f - 1) (by omega) hc2898) yy_X12_isSign yv_X12_isSign ob_M_0 lk_RX12_279 (by omega) rfl rfl (Nat.le_of_ble_eq_true rfl) dX12_sum_7 ?_
  refine z_if_ne (tgt := 22) dX12_sum_10 (by decide) (fun hc => ?_) (fun hc => ?_)
  · have hF := zif_f hc hF
    exact wbX12_sum_22 hf hg k4 hk4  _ hF
  · have hF := zif_t hc hF
    refine z_aload_n 0 dX12_sum_13 rfl rfl ?_
    refine z_bipush (v := 45) dX12_sum_14 (by decide) ?_
    obtain ⟨r2899, t2900, hc2901, hF⟩ := zbd_at hF
    refine z_callVi (ctX12_isSign (E := E) (f := f - 1) (by omega) hc2901) yy_X12_isSign yv_X12_isSign ob_M_0 lk_RX12_279 (by omega) rfl rfl (Nat.le_of_ble_eq_true rfl) dX12_sum_16 ?_
    refine z_if_eq (tgt := 43) dX12_sum_19 (by decide) (fun hc => ?_) (fun hc => ?_)
    · have hF := zif_t hc hF
      exact z_vret hF dX12_sum_43
    · have hF := zif_f hc hF
      exact wbX12_sum_22 hf hg k4 hk4  _ hF
set_option maxHeartbeats 4000000 in
set_option maxRecDepth 20000 in
theorem wlX12_sum_4 {E : zE} {C : zC} {f : Nat} {ro : Int32 × zS} (hf : 6 ≤ f) {g : GgX12_compared} (hg : HgX12_compared E (f - 1) g) (fu : Nat) : ∀ (t : zS), lX12_sum_4 g fu  t = some ro → zJ E shM C cX12_sum RX12 2 f none ro t 4 [(0, .ref (za E 0))] [] := by
  induction fu with
  | zero => intro  t hF; cases hF
  | succ fu ih => intro  t hF; exact wbX12_sum_4 hf hg (lX12_sum_4 g fu) ih  t hF
set_option maxHeartbeats 4000000 in
set_option maxRecDepth 20000 in
theorem ctX12_sum {E : zE} {f : Nat} (hf : 6 ≤ f) {g : GgX12_compared} (hg : HgX12_compared E (f - 1) g) {t : zS} {ro : Int32 × zS} (hF : mX12_sum g  t = some ro) : zM E shM f yX12_sum cX12_sum 2 none [.ref (za E 0)] t ro := by
  refine zM_of (by decide) (Nat.le_of_ble_eq_true rfl) (fun C => ?_)
  show zJ E shM C cX12_sum RX12 2 f none ro t 0 [(0, .ref (za E 0))] []
  unfold mX12_sum at hF
  refine z_aload_n 0 dX12_sum_0 rfl rfl ?_
  obtain ⟨r2902, t2903, hc2904, hF⟩ := zbd_at hF
  refine z_callVv (z_hgX12_product hg hc2904) yy_X12_product yv_X12_product ob_M_0 lk_RX12_382 (by omega) rfl rfl (Nat.le_of_ble_eq_true rfl) dX12_sum_1 ?_
  exact wlX12_sum_4 hf hg zFU  _ hF
-- SessionHouseModel.product()V
theorem dX12_product_0 : decode cX12_product 0 = .ok (.aload_n 0, 1) := by decide +kernel
theorem dX12_product_1 : decode cX12_product 1 = .ok (.invokevirtual 385, 3) := by decide +kernel
theorem dX12_product_4 : decode cX12_product 4 = .ok (.aload_n 0, 1) := by decide +kernel
theorem dX12_product_5 : decode cX12_product 5 = .ok (.bipush 42, 2) := by decide +kernel
theorem dX12_product_7 : decode cX12_product 7 = .ok (.invokevirtual 279, 3) := by decide +kernel
theorem dX12_product_10 : decode cX12_product 10 = .ok (.ifCond .ne 21, 3) := by decide +kernel
theorem dX12_product_13 : decode cX12_product 13 = .ok (.aload_n 0, 1) := by decide +kernel
theorem dX12_product_14 : decode cX12_product 14 = .ok (.bipush 47, 2) := by decide +kernel
theorem dX12_product_16 : decode cX12_product 16 = .ok (.invokevirtual 279, 3) := by decide +kernel
theorem dX12_product_19 : decode cX12_product 19 = .ok (.ifCond .ne 12, 3) := by decide +kernel
theorem dX12_product_22 : decode cX12_product 22 = .ok (.aload_n 0, 1) := by decide +kernel
theorem dX12_product_23 : decode cX12_product 23 = .ok (.bipush 37, 2) := by decide +kernel
theorem dX12_product_25 : decode cX12_product 25 = .ok (.invokevirtual 279, 3) := by decide +kernel
theorem dX12_product_28 : decode cX12_product 28 = .ok (.ifCond .eq 24, 3) := by decide +kernel
theorem dX12_product_31 : decode cX12_product 31 = .ok (.aload_n 0, 1) := by decide +kernel
theorem dX12_product_32 : decode cX12_product 32 = .ok (.getfield 240, 3) := by decide +kernel
theorem dX12_product_35 : decode cX12_product 35 = .ok (.istore_n 1, 1) := by decide +kernel
theorem dX12_product_36 : decode cX12_product 36 = .ok (.aload_n 0, 1) := by decide +kernel
theorem dX12_product_37 : decode cX12_product 37 = .ok (.invokevirtual 273, 3) := by decide +kernel
theorem dX12_product_40 : decode cX12_product 40 = .ok (.aload_n 0, 1) := by decide +kernel
theorem dX12_product_41 : decode cX12_product 41 = .ok (.invokevirtual 385, 3) := by decide +kernel
theorem dX12_product_44 : decode cX12_product 44 = .ok (.aload_n 0, 1) := by decide +kernel
theorem dX12_product_45 : decode cX12_product 45 = .ok (.iload_n 1, 1) := by decide +kernel
theorem dX12_product_46 : decode cX12_product 46 = .ok (.invokevirtual 376, 3) := by decide +kernel
theorem dX12_product_49 : decode cX12_product 49 = .ok (.goto (-45), 3) := by decide +kernel
theorem dX12_product_52 : decode cX12_product 52 = .ok (.return_, 1) := by decide +kernel
def bX12_product_31 (g : GgX12_compared) (k4 : zS → zR) (t : zS) : zR := zlet (t 0 8) fun v2905 => zbd (mX12_next  t) fun r2906 t2907 => zbd (g.2.2.2  t2907) fun r2909 t2910 => zbd (mX12_put v2905 t2910) fun r2912 t2913 => k4  t2913
def bX12_product_4 (g : GgX12_compared) (k4 : zS → zR) (t : zS) : zR := zbd (mX12_isSign 42 t) fun r2915 t2916 => if r2915 = 0 then zbd (mX12_isSign 47 t2916) fun r2918 t2919 => if r2918 = 0 then zbd (mX12_isSign 37 t2919) fun r2921 t2922 => if r2921 = 0 then some (0, t2922) else bX12_product_31 g k4  t2922 else bX12_product_31 g k4  t2919 else bX12_product_31 g k4  t2916
def lX12_product_4 (g : GgX12_compared) : Nat → zS → zR
  | 0, _ => none
  | fu + 1, t => bX12_product_4 g (lX12_product_4 g fu)  t
def mX12_product (g : GgX12_compared) (t : zS) : zR := zbd (g.2.2.2  t) fun r2924 t2925 => lX12_product_4 g zFU  t2925
set_option maxHeartbeats 4000000 in
set_option maxRecDepth 20000 in
theorem wbX12_product_31 {E : zE} {C : zC} {f : Nat} {ro : Int32 × zS} (hf : 6 ≤ f) {g : GgX12_compared} (hg : HgX12_compared E (f - 1) g) (k4 : zS → zR) (hk4 : ∀ (t : zS), k4  t = some ro → zJ E shM C cX12_product RX12 2 f none ro t 4 [(0, .ref (za E 0))] []) (t : zS) (hF : bX12_product_31 g k4  t = some ro) : zJ E shM C cX12_product RX12 2 f none ro t 31 [(0, .ref (za E 0))] [] := by
  unfold bX12_product_31 at hF
  refine z_aload_n 0 dX12_product_31 rfl rfl ?_
  refine z_geti fi_RX12_240 dX12_product_32 ?_
  refine z_topi (fun v2905 ev2905 => ?_)
  have hF := zlet_at ev2905 hF
  refine z_istore_n (lv' := [(1, .int v2905), (0, .ref (za E 0))]) dX12_product_35 rfl (by decide) rfl ?_
  refine z_aload_n 1 dX12_product_36 rfl rfl ?_
  obtain ⟨r2906, t2907, hc2908, hF⟩ := zbd_at hF
  refine z_callVv (ctX12_next (E := E) (f := f - 1) (by omega) hc2908) yy_X12_next yv_X12_next ob_M_0 lk_RX12_273 (by omega) rfl rfl (Nat.le_of_ble_eq_true rfl) dX12_product_37 ?_
  refine z_aload_n 1 dX12_product_40 rfl rfl ?_
  obtain ⟨r2909, t2910, hc2911, hF⟩ := zbd_at hF
  refine z_callVv (z_hgX12_atom hg hc2911) yy_X12_atom yv_X12_atom ob_M_0 lk_RX12_385 (by omega) rfl rfl (Nat.le_of_ble_eq_true rfl) dX12_product_41 ?_
  refine z_aload_n 1 dX12_product_44 rfl rfl ?_
  refine z_iload_n 0 dX12_product_45 rfl rfl ?_
  obtain ⟨r2912, t2913, hc2914, hF⟩ := zbd_at hF
  refine z_callVv (ctX12_put (E := E) (f := f - 1) (by omega) hc2914) yy_X12_put yv_X12_put ob_M_0 lk_RX12_376 (by omega) rfl rfl (Nat.le_of_ble_eq_true rfl) dX12_product_46 ?_
  refine z_goto (tgt := 4) dX12_product_49 (by decide) ?_
  refine z_sub [1] rfl ?_
  exact hk4  _ hF
set_option maxHeartbeats 4000000 in
set_option maxRecDepth 20000 in
theorem wbX12_product_4 {E : zE} {C : zC} {f : Nat} {ro : Int32 × zS} (hf : 6 ≤ f) {g : GgX12_compared} (hg : HgX12_compared E (f - 1) g) (k4 : zS → zR) (hk4 : ∀ (t : zS), k4  t = some ro → zJ E shM C cX12_product RX12 2 f none ro t 4 [(0, .ref (za E 0))] []) (t : zS) (hF : bX12_product_4 g k4  t = some ro) : zJ E shM C cX12_product RX12 2 f none ro t 4 [(0, .ref (za E 0))] [] := by
  unfold bX12_product_4 at hF
  refine z_aload_n 0 dX12_product_4 rfl rfl ?_
  refine z_bipush (v := 42) dX12_product_5 (by decide) ?_
  obtain ⟨r2915, t2916, hc2917, hF⟩ := zbd_at hF
  refine z_callVi (ctX12_isSign (E := E) (f := f - 1) (by omega) hc2917) yy_X12_isSign yv_X12_isSign ob_M_0 lk_RX12_279 (by omega) rfl rfl (Nat.le_of_ble_eq_true rfl) dX12_product_7 ?_
  refine z_if_ne (tgt := 31) dX12_product_10 (by decide) (fun hc => ?_) (fun hc => ?_)
  · have hF := zif_f hc hF
    exact wbX12_product_31 hf hg k4 hk4  _ hF
  · have hF := zif_t hc hF
    refine z_aload_n 0 dX12_product_13 rfl rfl ?_
    refine z_bipush (v := 47) dX12_product_14 (by decide) ?_
    obtain ⟨r2918, t2919, hc2920, hF⟩ := zbd_at hF
    refine z_callVi (ctX12_isSign (E := E) (f := f - 1) (by omega) hc2920) yy_X12_isSign yv_X12_isSign ob_M_0 lk_RX12_279 (by omega) rfl rfl (Nat.le_of_ble_eq_true rfl) dX12_product_16 ?_
    refine z_if_ne (tgt := 31) dX12_product_19 (by decide) (fun hc => ?_) (fun hc => ?_)
    · have hF := zif_f hc hF
      exact wbX12_product_31 hf hg k4 hk4  _ hF
    · have hF := zif_t hc hF
      refine z_aload_n 0 dX12_product_22 rfl rfl ?_
      refine z_bipush (v := 37) dX12_product_23 (by decide) ?_
      obtain ⟨r2921, t2922, hc2923, hF⟩ := zbd_at hF
      refine z_callVi (ctX12_isSign (E := E) (f := f - 1) (by omega) hc2923) yy_X12_isSign yv_X12_isSign ob_M_0 lk_RX12_279 (by omega) rfl rfl (Nat.le_of_ble_eq_true rfl) dX12_product_25 ?_
      refine z_if_eq (tgt := 52) dX12_product_28 (by decide) (fun hc => ?_) (fun hc => ?_)
      · have hF := zif_t hc hF
        exact z_vret hF dX12_product_52
      · have hF := zif_f hc hF
        exact wbX12_product_31 hf hg k4 hk4  _ hF
set_option maxHeartbeats 4000000 in
set_option maxRecDepth 20000 in
theorem wlX12_product_4 {E : zE} {C : zC} {f : Nat} {ro : Int32 × zS} (hf : 6 ≤ f) {g : GgX12_compared} (hg : HgX12_compared E (f - 1) g) (fu : Nat) : ∀ (t : zS), lX12_product_4 g fu  t = some ro → zJ E shM C cX12_product RX12 2 f none ro t 4 [(0, .ref (za E 0))] [] := by
  induction fu with
  | zero => intro  t hF; cases hF
  | succ fu ih => intro  t hF; exact wbX12_product_4 hf hg (lX12_product_4 g fu) ih  t hF
set_option maxHeartbeats 4000000 in
set_option maxRecDepth 20000 in
theorem ctX12_product {E : zE} {f : Nat} (hf : 6 ≤ f) {g : GgX12_compared} (hg : HgX12_compared E (f - 1) g) {t : zS} {ro : Int32 × zS} (hF : mX12_product g  t = some ro) : zM E shM f yX12_product cX12_product 2 none [.ref (za E 0)] t ro := by
  refine zM_of (by decide) (Nat.le_of_ble_eq_true rfl) (fun C => ?_)
  show zJ E shM C cX12_product RX12 2 f none ro t 0 [(0, .ref (za E 0))] []
  unfold mX12_product at hF
  refine z_aload_n 0 dX12_product_0 rfl rfl ?_
  obtain ⟨r2924, t2925, hc2926, hF⟩ := zbd_at hF
  refine z_callVv (z_hgX12_atom hg hc2926) yy_X12_atom yv_X12_atom ob_M_0 lk_RX12_385 (by omega) rfl rfl (Nat.le_of_ble_eq_true rfl) dX12_product_1 ?_
  exact wlX12_product_4 hf hg zFU  _ hF
-- SessionHouseModel.atom()V
theorem dX12_atom_0 : decode cX12_atom 0 = .ok (.aload_n 0, 1) := by decide +kernel
theorem dX12_atom_1 : decode cX12_atom 1 = .ok (.getfield 267, 3) := by decide +kernel
theorem dX12_atom_4 : decode cX12_atom 4 = .ok (.ifCond .lt 4, 3) := by decide +kernel
theorem dX12_atom_7 : decode cX12_atom 7 = .ok (.return_, 1) := by decide +kernel
theorem dX12_atom_8 : decode cX12_atom 8 = .ok (.aload_n 0, 1) := by decide +kernel
theorem dX12_atom_9 : decode cX12_atom 9 = .ok (.getfield 247, 3) := by decide +kernel
theorem dX12_atom_12 : decode cX12_atom 12 = .ok (.iconst 3, 1) := by decide +kernel
theorem dX12_atom_13 : decode cX12_atom 13 = .ok (.if_icmp .ne 23, 3) := by decide +kernel
theorem dX12_atom_16 : decode cX12_atom 16 = .ok (.aload_n 0, 1) := by decide +kernel
theorem dX12_atom_17 : decode cX12_atom 17 = .ok (.iconst 1, 1) := by decide +kernel
theorem dX12_atom_18 : decode cX12_atom 18 = .ok (.invokevirtual 376, 3) := by decide +kernel
theorem dX12_atom_21 : decode cX12_atom 21 = .ok (.aload_n 0, 1) := by decide +kernel
theorem dX12_atom_22 : decode cX12_atom 22 = .ok (.aload_n 0, 1) := by decide +kernel
theorem dX12_atom_23 : decode cX12_atom 23 = .ok (.getfield 240, 3) := by decide +kernel
theorem dX12_atom_26 : decode cX12_atom 26 = .ok (.invokevirtual 376, 3) := by decide +kernel
theorem dX12_atom_29 : decode cX12_atom 29 = .ok (.aload_n 0, 1) := by decide +kernel
theorem dX12_atom_30 : decode cX12_atom 30 = .ok (.invokevirtual 273, 3) := by decide +kernel
theorem dX12_atom_33 : decode cX12_atom 33 = .ok (.goto 122, 3) := by decide +kernel
theorem dX12_atom_36 : decode cX12_atom 36 = .ok (.aload_n 0, 1) := by decide +kernel
theorem dX12_atom_37 : decode cX12_atom 37 = .ok (.getfield 247, 3) := by decide +kernel
theorem dX12_atom_40 : decode cX12_atom 40 = .ok (.iconst 2, 1) := by decide +kernel
theorem dX12_atom_41 : decode cX12_atom 41 = .ok (.if_icmp .ne 27, 3) := by decide +kernel
theorem dX12_atom_44 : decode cX12_atom 44 = .ok (.aload_n 0, 1) := by decide +kernel
theorem dX12_atom_45 : decode cX12_atom 45 = .ok (.iconst 2, 1) := by decide +kernel
theorem dX12_atom_46 : decode cX12_atom 46 = .ok (.invokevirtual 376, 3) := by decide +kernel
theorem dX12_atom_49 : decode cX12_atom 49 = .ok (.aload_n 0, 1) := by decide +kernel
theorem dX12_atom_50 : decode cX12_atom 50 = .ok (.aload_n 0, 1) := by decide +kernel
theorem dX12_atom_51 : decode cX12_atom 51 = .ok (.aload_n 0, 1) := by decide +kernel
theorem dX12_atom_52 : decode cX12_atom 52 = .ok (.getfield 240, 3) := by decide +kernel
theorem dX12_atom_55 : decode cX12_atom 55 = .ok (.invokevirtual 325, 3) := by decide +kernel
theorem dX12_atom_58 : decode cX12_atom 58 = .ok (.invokevirtual 376, 3) := by decide +kernel
theorem dX12_atom_61 : decode cX12_atom 61 = .ok (.aload_n 0, 1) := by decide +kernel
theorem dX12_atom_62 : decode cX12_atom 62 = .ok (.invokevirtual 273, 3) := by decide +kernel
theorem dX12_atom_65 : decode cX12_atom 65 = .ok (.goto 90, 3) := by decide +kernel
theorem dX12_atom_68 : decode cX12_atom 68 = .ok (.aload_n 0, 1) := by decide +kernel
theorem dX12_atom_69 : decode cX12_atom 69 = .ok (.bipush 40, 2) := by decide +kernel
theorem dX12_atom_71 : decode cX12_atom 71 = .ok (.invokevirtual 279, 3) := by decide +kernel
theorem dX12_atom_74 : decode cX12_atom 74 = .ok (.ifCond .eq 25, 3) := by decide +kernel
theorem dX12_atom_77 : decode cX12_atom 77 = .ok (.aload_n 0, 1) := by decide +kernel
theorem dX12_atom_78 : decode cX12_atom 78 = .ok (.iconst 1, 1) := by decide +kernel
theorem dX12_atom_79 : decode cX12_atom 79 = .ok (.invokevirtual 299, 3) := by decide +kernel
theorem dX12_atom_82 : decode cX12_atom 82 = .ok (.ifCond .ne 4, 3) := by decide +kernel
theorem dX12_atom_85 : decode cX12_atom 85 = .ok (.return_, 1) := by decide +kernel
theorem dX12_atom_86 : decode cX12_atom 86 = .ok (.aload_n 0, 1) := by decide +kernel
theorem dX12_atom_87 : decode cX12_atom 87 = .ok (.invokevirtual 373, 3) := by decide +kernel
theorem dX12_atom_90 : decode cX12_atom 90 = .ok (.aload_n 0, 1) := by decide +kernel
theorem dX12_atom_91 : decode cX12_atom 91 = .ok (.bipush 41, 2) := by decide +kernel
theorem dX12_atom_93 : decode cX12_atom 93 = .ok (.invokevirtual 305, 3) := by decide +kernel
theorem dX12_atom_96 : decode cX12_atom 96 = .ok (.goto 59, 3) := by decide +kernel
theorem dX12_atom_99 : decode cX12_atom 99 = .ok (.aload_n 0, 1) := by decide +kernel
theorem dX12_atom_100 : decode cX12_atom 100 = .ok (.bipush 45, 2) := by decide +kernel
theorem dX12_atom_102 : decode cX12_atom 102 = .ok (.invokevirtual 279, 3) := by decide +kernel
theorem dX12_atom_105 : decode cX12_atom 105 = .ok (.ifCond .eq 41, 3) := by decide +kernel
theorem dX12_atom_108 : decode cX12_atom 108 = .ok (.aload_n 0, 1) := by decide +kernel
theorem dX12_atom_109 : decode cX12_atom 109 = .ok (.iconst 1, 1) := by decide +kernel
theorem dX12_atom_110 : decode cX12_atom 110 = .ok (.invokevirtual 299, 3) := by decide +kernel
theorem dX12_atom_113 : decode cX12_atom 113 = .ok (.ifCond .ne 4, 3) := by decide +kernel
theorem dX12_atom_116 : decode cX12_atom 116 = .ok (.return_, 1) := by decide +kernel
theorem dX12_atom_117 : decode cX12_atom 117 = .ok (.aload_n 0, 1) := by decide +kernel
theorem dX12_atom_118 : decode cX12_atom 118 = .ok (.invokevirtual 385, 3) := by decide +kernel
theorem dX12_atom_121 : decode cX12_atom 121 = .ok (.aload_n 0, 1) := by decide +kernel
theorem dX12_atom_122 : decode cX12_atom 122 = .ok (.getfield 267, 3) := by decide +kernel
theorem dX12_atom_125 : decode cX12_atom 125 = .ok (.ifCond .ge 13, 3) := by decide +kernel
theorem dX12_atom_128 : decode cX12_atom 128 = .ok (.aload_n 0, 1) := by decide +kernel
theorem dX12_atom_129 : decode cX12_atom 129 = .ok (.dup, 1) := by decide +kernel
theorem dX12_atom_130 : decode cX12_atom 130 = .ok (.getfield 276, 3) := by decide +kernel
theorem dX12_atom_133 : decode cX12_atom 133 = .ok (.iconst 1, 1) := by decide +kernel
theorem dX12_atom_134 : decode cX12_atom 134 = .ok (.isub, 1) := by decide +kernel
theorem dX12_atom_135 : decode cX12_atom 135 = .ok (.putfield 276, 3) := by decide +kernel
theorem dX12_atom_138 : decode cX12_atom 138 = .ok (.aload_n 0, 1) := by decide +kernel
theorem dX12_atom_139 : decode cX12_atom 139 = .ok (.iconst 3, 1) := by decide +kernel
theorem dX12_atom_140 : decode cX12_atom 140 = .ok (.invokevirtual 376, 3) := by decide +kernel
theorem dX12_atom_143 : decode cX12_atom 143 = .ok (.goto 12, 3) := by decide +kernel
theorem dX12_atom_146 : decode cX12_atom 146 = .ok (.aload_n 0, 1) := by decide +kernel
theorem dX12_atom_147 : decode cX12_atom 147 = .ok (.aload_n 0, 1) := by decide +kernel
theorem dX12_atom_148 : decode cX12_atom 148 = .ok (.getfield 227, 3) := by decide +kernel
theorem dX12_atom_151 : decode cX12_atom 151 = .ok (.invokevirtual 270, 3) := by decide +kernel
theorem dX12_atom_154 : decode cX12_atom 154 = .ok (.istore_n 1, 1) := by decide +kernel
theorem dX12_atom_155 : decode cX12_atom 155 = .ok (.return_, 1) := by decide +kernel
def bX12_atom_138 (g : GgX12_compared) (t : zS) : zR := zbd (mX12_put 3 t) fun r2927 t2928 => some (0, t2928)
def mX12_atom (g : GgX12_compared) (t : zS) : zR := if (t 0 9) < 0 then if (t 0 5) = 3 then zbd (mX12_put 1 t) fun r2967 t2968 => zbd (mX12_put (t2968 0 8) t2968) fun r2970 t2971 => zbd (mX12_next  t2971) fun r2973 t2974 => some (0, t2974) else if (t 0 5) = 2 then zbd (mX12_put 2 t) fun r2955 t2956 => zbd (mX12_ownOf (t2956 0 8) t2956) fun r2958 t2959 => zbd (mX12_put r2958 t2959) fun r2961 t2962 => zbd (mX12_next  t2962) fun r2964 t2965 => some (0, t2965) else zbd (mX12_isSign 40 t) fun r2930 t2931 => if r2930 = 0 then zbd (mX12_isSign 45 t2931) fun r2933 t2934 => if r2933 = 0 then zbd (mX12_fails (t2934 0 6) t2934) fun r2936 t2937 => some (0, t2937) else zbd (mX12_opens 1 t2934) fun r2939 t2940 => if r2939 = 0 then some (0, t2940) else zbd (g.2.2.2  t2940) fun r2942 t2943 => if 0 ≤ (t2943 0 9) then bX12_atom_138 g  t2943 else zpt t2943 0 10 ((t2943 0 10) - 1) fun t2945 => bX12_atom_138 g  t2945 else zbd (mX12_opens 1 t2931) fun r2946 t2947 => if r2946 = 0 then some (0, t2947) else zbd (g.1  t2947) fun r2949 t2950 => zbd (mX12_closes 41 t2950) fun r2952 t2953 => some (0, t2953) else some (0, t)
set_option maxHeartbeats 4000000 in
set_option maxRecDepth 20000 in
theorem wbX12_atom_138 {E : zE} {C : zC} {f : Nat} {ro : Int32 × zS} (hf : 6 ≤ f) {g : GgX12_compared} (hg : HgX12_compared E (f - 1) g) (t : zS) (hF : bX12_atom_138 g  t = some ro) : zJ E shM C cX12_atom RX12 2 f none ro t 138 [(0, .ref (za E 0))] [] := by
  unfold bX12_atom_138 at hF
  refine z_aload_n 0 dX12_atom_138 rfl rfl ?_
  refine z_iconst (v := 3) dX12_atom_139 (by decide) ?_
  obtain ⟨r2927, t2928, hc2929, hF⟩ := zbd_at hF
  refine z_callVv (ctX12_put (E := E) (f := f - 1) (by omega) hc2929) yy_X12_put yv_X12_put ob_M_0 lk_RX12_376 (by omega) rfl rfl (Nat.le_of_ble_eq_true rfl) dX12_atom_140 ?_
  refine z_goto (tgt := 155) dX12_atom_143 (by decide) ?_
  exact z_vret hF dX12_atom_155
set_option maxHeartbeats 4000000 in
set_option maxRecDepth 20000 in
theorem ctX12_atom {E : zE} {f : Nat} (hf : 6 ≤ f) {g : GgX12_compared} (hg : HgX12_compared E (f - 1) g) {t : zS} {ro : Int32 × zS} (hF : mX12_atom g  t = some ro) : zM E shM f yX12_atom cX12_atom 2 none [.ref (za E 0)] t ro := by
  refine zM_of (by decide) (Nat.le_of_ble_eq_true rfl) (fun C => ?_)
  show zJ E shM C cX12_atom RX12 2 f none ro t 0 [(0, .ref (za E 0))] []
  unfold mX12_atom at hF
  refine z_aload_n 0 dX12_atom_0 rfl rfl ?_
  refine z_geti fi_RX12_267 dX12_atom_1 ?_
  refine z_if_lt (tgt := 8) dX12_atom_4 (by decide) (fun hc => ?_) (fun hc => ?_)
  · have hF := zif_t hc hF
    refine z_aload_n 0 dX12_atom_8 rfl rfl ?_
    refine z_geti fi_RX12_247 dX12_atom_9 ?_
    refine z_iconst (v := 3) dX12_atom_12 (by decide) ?_
    refine z_icmp_ne (tgt := 36) dX12_atom_13 (by decide) (fun hc => ?_) (fun hc => ?_)
    · have hF := zif_f hc hF
      refine z_aload_n 0 dX12_atom_36 rfl rfl ?_
      refine z_geti fi_RX12_247 dX12_atom_37 ?_
      refine z_iconst (v := 2) dX12_atom_40 (by decide) ?_
      refine z_icmp_ne (tgt := 68) dX12_atom_41 (by decide) (fun hc => ?_) (fun hc => ?_)
      · have hF := zif_f hc hF
        refine z_aload_n 0 dX12_atom_68 rfl rfl ?_
        refine z_bipush (v := 40) dX12_atom_69 (by decide) ?_
        obtain ⟨r2930, t2931, hc2932, hF⟩ := zbd_at hF
        refine z_callVi (ctX12_isSign (E := E) (f := f - 1) (by omega) hc2932) yy_X12_isSign yv_X12_isSign ob_M_0 lk_RX12_279 (by omega) rfl rfl (Nat.le_of_ble_eq_true rfl) dX12_atom_71 ?_
        refine z_if_eq (tgt := 99) dX12_atom_74 (by decide) (fun hc => ?_) (fun hc => ?_)
        · have hF := zif_t hc hF
          refine z_aload_n 0 dX12_atom_99 rfl rfl ?_
          refine z_bipush (v := 45) dX12_atom_100 (by decide) ?_
          obtain ⟨r2933, t2934, hc2935, hF⟩ := zbd_at hF
          refine z_callVi (ctX12_isSign (E := E) (f := f - 1) (by omega) hc2935) yy_X12_isSign yv_X12_isSign ob_M_0 lk_RX12_279 (by omega) rfl rfl (Nat.le_of_ble_eq_true rfl) dX12_atom_102 ?_
          refine z_if_eq (tgt := 146) dX12_atom_105 (by decide) (fun hc => ?_) (fun hc => ?_)
          · have hF := zif_t hc hF
            refine z_aload_n 0 dX12_atom_146 rfl rfl ?_
            refine z_aload_n 0 dX12_atom_147 rfl rfl ?_
            refine z_geti fi_RX12_227 dX12_atom_148 ?_
            obtain ⟨r2936, t2937, hc2938, hF⟩ := zbd_at hF
            refine z_callVi (ctX12_fails (E := E) (f := f - 1) (by omega) hc2938) yy_X12_fails yv_X12_fails ob_M_0 lk_RX12_270 (by omega) rfl rfl (Nat.le_of_ble_eq_true rfl) dX12_atom_151 ?_
            refine z_istore_n (lv' := [(1, .int r2936), (0, .ref (za E 0))]) dX12_atom_154 rfl (by decide) rfl ?_
            exact z_vret hF dX12_atom_155
          · have hF := zif_f hc hF
            refine z_aload_n 0 dX12_atom_108 rfl rfl ?_
            refine z_iconst (v := 1) dX12_atom_109 (by decide) ?_
            obtain ⟨r2939, t2940, hc2941, hF⟩ := zbd_at hF
            refine z_callVi (ctX12_opens (E := E) (f := f - 1) (by omega) hc2941) yy_X12_opens yv_X12_opens ob_M_0 lk_RX12_299 (by omega) rfl rfl (Nat.le_of_ble_eq_true rfl) dX12_atom_110 ?_
            refine z_if_ne (tgt := 117) dX12_atom_113 (by decide) (fun hc => ?_) (fun hc => ?_)
            · have hF := zif_f hc hF
              refine z_aload_n 0 dX12_atom_117 rfl rfl ?_
              obtain ⟨r2942, t2943, hc2944, hF⟩ := zbd_at hF
              refine z_callVv (z_hgX12_atom hg hc2944) yy_X12_atom yv_X12_atom ob_M_0 lk_RX12_385 (by omega) rfl rfl (Nat.le_of_ble_eq_true rfl) dX12_atom_118 ?_
              refine z_aload_n 0 dX12_atom_121 rfl rfl ?_
              refine z_geti fi_RX12_267 dX12_atom_122 ?_
              refine z_if_ge (tgt := 138) dX12_atom_125 (by decide) (fun hc => ?_) (fun hc => ?_)
              · have hF := zif_t hc hF
                exact wbX12_atom_138 hf hg  _ hF
              · have hF := zif_f hc hF
                refine z_aload_n 0 dX12_atom_128 rfl rfl ?_
                refine z_dup dX12_atom_129 rfl ?_
                refine z_geti fi_RX12_276 dX12_atom_130 ?_
                refine z_iconst (v := 1) dX12_atom_133 (by decide) ?_
                refine z_isub dX12_atom_134 ?_
                refine z_puti fw_RX12_276 dX12_atom_135 (fun t2945 et2945 => ?_)
                have hF := zpt_at hF t2945 et2945
                exact wbX12_atom_138 hf hg  _ hF
            · have hF := zif_t hc hF
              exact z_vret hF dX12_atom_116
        · have hF := zif_f hc hF
          refine z_aload_n 0 dX12_atom_77 rfl rfl ?_
          refine z_iconst (v := 1) dX12_atom_78 (by decide) ?_
          obtain ⟨r2946, t2947, hc2948, hF⟩ := zbd_at hF
          refine z_callVi (ctX12_opens (E := E) (f := f - 1) (by omega) hc2948) yy_X12_opens yv_X12_opens ob_M_0 lk_RX12_299 (by omega) rfl rfl (Nat.le_of_ble_eq_true rfl) dX12_atom_79 ?_
          refine z_if_ne (tgt := 86) dX12_atom_82 (by decide) (fun hc => ?_) (fun hc => ?_)
          · have hF := zif_f hc hF
            refine z_aload_n 0 dX12_atom_86 rfl rfl ?_
            obtain ⟨r2949, t2950, hc2951, hF⟩ := zbd_at hF
            refine z_callVv (z_hgX12_compared hg hc2951) yy_X12_compared yv_X12_compared ob_M_0 lk_RX12_373 (by omega) rfl rfl (Nat.le_of_ble_eq_true rfl) dX12_atom_87 ?_
            refine z_aload_n 0 dX12_atom_90 rfl rfl ?_
            refine z_bipush (v := 41) dX12_atom_91 (by decide) ?_
            obtain ⟨r2952, t2953, hc2954, hF⟩ := zbd_at hF
            refine z_callVv (ctX12_closes (E := E) (f := f - 1) (by omega) hc2954) yy_X12_closes yv_X12_closes ob_M_0 lk_RX12_305 (by omega) rfl rfl (Nat.le_of_ble_eq_true rfl) dX12_atom_93 ?_
            refine z_goto (tgt := 155) dX12_atom_96 (by decide) ?_
            exact z_vret hF dX12_atom_155
          · have hF := zif_t hc hF
            exact z_vret hF dX12_atom_85
      · have hF := zif_t hc hF
        refine z_aload_n 0 dX12_atom_44 rfl rfl ?_
        refine z_iconst (v := 2) dX12_atom_45 (by decide) ?_
        obtain ⟨r2955, t2956, hc2957, hF⟩ := zbd_at hF
        refine z_callVv (ctX12_put (E := E) (f := f - 1) (by omega) hc2957) yy_X12_put yv_X12_put ob_M_0 lk_RX12_376 (by omega) rfl rfl (Nat.le_of_ble_eq_true rfl) dX12_atom_46 ?_
        refine z_aload_n 0 dX12_atom_49 rfl rfl ?_
        refine z_aload_n 0 dX12_atom_50 rfl rfl ?_
        refine z_aload_n 0 dX12_atom_51 rfl rfl ?_
        refine z_geti fi_RX12_240 dX12_atom_52 ?_
        obtain ⟨r2958, t2959, hc2960, hF⟩ := zbd_at hF
        refine z_callVi (ctX12_ownOf (E := E) (f := f - 1) (by omega) hc2960) yy_X12_ownOf yv_X12_ownOf ob_M_0 lk_RX12_325 (by omega) rfl rfl (Nat.le_of_ble_eq_true rfl) dX12_atom_55 ?_
        obtain ⟨r2961, t2962, hc2963, hF⟩ := zbd_at hF
        refine z_callVv (ctX12_put (E := E) (f := f - 1) (by omega) hc2963) yy_X12_put yv_X12_put ob_M_0 lk_RX12_376 (by omega) rfl rfl (Nat.le_of_ble_eq_true rfl) dX12_atom_58 ?_
        refine z_aload_n 0 dX12_atom_61 rfl rfl ?_
        obtain ⟨r2964, t2965, hc2966, hF⟩ := zbd_at hF
        refine z_callVv (ctX12_next (E := E) (f := f - 1) (by omega) hc2966) yy_X12_next yv_X12_next ob_M_0 lk_RX12_273 (by omega) rfl rfl (Nat.le_of_ble_eq_true rfl) dX12_atom_62 ?_
        refine z_goto (tgt := 155) dX12_atom_65 (by decide) ?_
        exact z_vret hF dX12_atom_155
    · have hF := zif_t hc hF
      refine z_aload_n 0 dX12_atom_16 rfl rfl ?_
      refine z_iconst (v := 1) dX12_atom_17 (by decide) ?_
      obtain ⟨r2967, t2968, hc2969, hF⟩ := zbd_at hF
      refine z_callVv (ctX12_put (E := E) (f := f - 1) (by omega) hc2969) yy_X12_put yv_X12_put ob_M_0 lk_RX12_376 (by omega) rfl rfl (Nat.le_of_ble_eq_true rfl) dX12_atom_18 ?_
      refine z_aload_n 0 dX12_atom_21 rfl rfl ?_
      refine z_aload_n 0 dX12_atom_22 rfl rfl ?_
      refine z_geti fi_RX12_240 dX12_atom_23 ?_
      obtain ⟨r2970, t2971, hc2972, hF⟩ := zbd_at hF
      refine z_callVv (ctX12_put (E := E) (f := f - 1) (by omega) hc2972) yy_X12_put yv_X12_put ob_M_0 lk_RX12_376 (by omega) rfl rfl (Nat.le_of_ble_eq_true rfl) dX12_atom_26 ?_
      refine z_aload_n 0 dX12_atom_29 rfl rfl ?_
      obtain ⟨r2973, t2974, hc2975, hF⟩ := zbd_at hF
      refine z_callVv (ctX12_next (E := E) (f := f - 1) (by omega) hc2975) yy_X12_next yv_X12_next ob_M_0 lk_RX12_273 (by omega) rfl rfl (Nat.le_of_ble_eq_true rfl) dX12_atom_30 ?_
      refine z_goto (tgt := 155) dX12_atom_33 (by decide) ?_
      exact z_vret hF dX12_atom_155
  · have hF := zif_f hc hF
    exact z_vret hF dX12_atom_7
def grgX12_compared : Nat → GgX12_compared
  | 0 => (fun _ => none, fun _ => none, fun _ => none, fun _ => none)
  | d + 1 => (mX12_compared (grgX12_compared d), mX12_sum (grgX12_compared d), mX12_product (grgX12_compared d), mX12_atom (grgX12_compared d))
theorem hrgX12_compared {E : zE} : ∀ (d f : Nat), 6 + d ≤ f → HgX12_compared E f (grgX12_compared d) := by
  intro d
  induction d with
  | zero => intro f hf; exact ⟨fun _ _ h => (by cases h), fun _ _ h => (by cases h), fun _ _ h => (by cases h), fun _ _ h => (by cases h)⟩
  | succ d ih => intro f hf; exact ⟨fun _ _ h => ctX12_compared (by omega) (ih (f - 1) (by omega)) h, fun _ _ h => ctX12_sum (by omega) (ih (f - 1) (by omega)) h, fun _ _ h => ctX12_product (by omega) (ih (f - 1) (by omega)) h, fun _ _ h => ctX12_atom (by omega) (ih (f - 1) (by omega)) h⟩
def mX12_comparedr (t : zS) : zR := (grgX12_compared 300).1  t
theorem ctX12_comparedr {E : zE} {f : Nat} (hf : 306 ≤ f) {t : zS} {ro : Int32 × zS} (h : mX12_comparedr  t = some ro) : zM E shM f yX12_compared cX12_compared 2 none [.ref (za E 0)] t ro := z_hgX12_compared (hrgX12_compared 300 f (by omega)) h
def mX12_sumr (t : zS) : zR := (grgX12_compared 300).2.1  t
theorem ctX12_sumr {E : zE} {f : Nat} (hf : 306 ≤ f) {t : zS} {ro : Int32 × zS} (h : mX12_sumr  t = some ro) : zM E shM f yX12_sum cX12_sum 2 none [.ref (za E 0)] t ro := z_hgX12_sum (hrgX12_compared 300 f (by omega)) h
def mX12_productr (t : zS) : zR := (grgX12_compared 300).2.2.1  t
theorem ctX12_productr {E : zE} {f : Nat} (hf : 306 ≤ f) {t : zS} {ro : Int32 × zS} (h : mX12_productr  t = some ro) : zM E shM f yX12_product cX12_product 2 none [.ref (za E 0)] t ro := z_hgX12_product (hrgX12_compared 300 f (by omega)) h
def mX12_atomr (t : zS) : zR := (grgX12_compared 300).2.2.2  t
theorem ctX12_atomr {E : zE} {f : Nat} (hf : 306 ≤ f) {t : zS} {ro : Int32 × zS} (h : mX12_atomr  t = some ro) : zM E shM f yX12_atom cX12_atom 2 none [.ref (za E 0)] t ro := z_hgX12_atom (hrgX12_compared 300 f (by omega)) h
-- SessionHouseModel.told()I
theorem dX12_told_0 : decode cX12_told 0 = .ok (.aload_n 0, 1) := by decide +kernel
theorem dX12_told_1 : decode cX12_told 1 = .ok (.getfield 370, 3) := by decide +kernel
theorem dX12_told_4 : decode cX12_told 4 = .ok (.istore_n 1, 1) := by decide +kernel
theorem dX12_told_5 : decode cX12_told 5 = .ok (.aload_n 0, 1) := by decide +kernel
theorem dX12_told_6 : decode cX12_told 6 = .ok (.invokevirtual 373, 3) := by decide +kernel
theorem dX12_told_9 : decode cX12_told 9 = .ok (.aload_n 0, 1) := by decide +kernel
theorem dX12_told_10 : decode cX12_told 10 = .ok (.iconst 0, 1) := by decide +kernel
theorem dX12_told_11 : decode cX12_told 11 = .ok (.invokevirtual 376, 3) := by decide +kernel
theorem dX12_told_14 : decode cX12_told 14 = .ok (.iload_n 1, 1) := by decide +kernel
theorem dX12_told_15 : decode cX12_told 15 = .ok (.ireturn, 1) := by decide +kernel
def mX12_told (t : zS) : zR := zlet (t 0 42) fun v2976 => zbd (mX12_comparedr  t) fun r2977 t2978 => zbd (mX12_put 0 t2978) fun r2980 t2981 => some (v2976, t2981)
set_option maxHeartbeats 4000000 in
set_option maxRecDepth 20000 in
theorem ctX12_told {E : zE} {f : Nat} (hf : 307 ≤ f) {t : zS} {ro : Int32 × zS} (hF : mX12_told   t = some ro) : zM E shM f yX12_told cX12_told 2 (some .int) [.ref (za E 0)] t ro := by
  refine zM_of (by decide) (Nat.le_of_ble_eq_true rfl) (fun C => ?_)
  show zJ E shM C cX12_told RX12 2 f (some .int) ro t 0 [(0, .ref (za E 0))] []
  unfold mX12_told at hF
  refine z_aload_n 0 dX12_told_0 rfl rfl ?_
  refine z_geti fi_RX12_370 dX12_told_1 ?_
  refine z_topi (fun v2976 ev2976 => ?_)
  have hF := zlet_at ev2976 hF
  refine z_istore_n (lv' := [(1, .int v2976), (0, .ref (za E 0))]) dX12_told_4 rfl (by decide) rfl ?_
  refine z_aload_n 1 dX12_told_5 rfl rfl ?_
  obtain ⟨r2977, t2978, hc2979, hF⟩ := zbd_at hF
  refine z_callVv (ctX12_comparedr (E := E) (f := f - 1) (by omega) hc2979) yy_X12_compared yv_X12_compared ob_M_0 lk_RX12_373 (by omega) rfl rfl (Nat.le_of_ble_eq_true rfl) dX12_told_6 ?_
  refine z_aload_n 1 dX12_told_9 rfl rfl ?_
  refine z_iconst (v := 0) dX12_told_10 (by decide) ?_
  obtain ⟨r2980, t2981, hc2982, hF⟩ := zbd_at hF
  refine z_callVv (ctX12_put (E := E) (f := f - 1) (by omega) hc2982) yy_X12_put yv_X12_put ob_M_0 lk_RX12_376 (by omega) rfl rfl (Nat.le_of_ble_eq_true rfl) dX12_told_11 ?_
  refine z_iload_n 0 dX12_told_14 rfl rfl ?_
  exact z_iret hF dX12_told_15
-- SessionHouseModel.called(I)V
theorem dX12_called_0 : decode cX12_called 0 = .ok (.aload_n 0, 1) := by decide +kernel
theorem dX12_called_1 : decode cX12_called 1 = .ok (.getfield 240, 3) := by decide +kernel
theorem dX12_called_4 : decode cX12_called 4 = .ok (.istore_n 2, 1) := by decide +kernel
theorem dX12_called_5 : decode cX12_called 5 = .ok (.aload_n 0, 1) := by decide +kernel
theorem dX12_called_6 : decode cX12_called 6 = .ok (.getfield 227, 3) := by decide +kernel
theorem dX12_called_9 : decode cX12_called 9 = .ok (.istore_n 3, 1) := by decide +kernel
theorem dX12_called_10 : decode cX12_called 10 = .ok (.aload_n 0, 1) := by decide +kernel
theorem dX12_called_11 : decode cX12_called 11 = .ok (.getfield 247, 3) := by decide +kernel
theorem dX12_called_14 : decode cX12_called 14 = .ok (.iconst 2, 1) := by decide +kernel
theorem dX12_called_15 : decode cX12_called 15 = .ok (.if_icmp .ne 10, 3) := by decide +kernel
theorem dX12_called_18 : decode cX12_called 18 = .ok (.aload_n 0, 1) := by decide +kernel
theorem dX12_called_19 : decode cX12_called 19 = .ok (.getfield 267, 3) := by decide +kernel
theorem dX12_called_22 : decode cX12_called 22 = .ok (.ifCond .lt 14, 3) := by decide +kernel
theorem dX12_called_25 : decode cX12_called 25 = .ok (.aload_n 0, 1) := by decide +kernel
theorem dX12_called_26 : decode cX12_called 26 = .ok (.aload_n 0, 1) := by decide +kernel
theorem dX12_called_27 : decode cX12_called 27 = .ok (.getfield 227, 3) := by decide +kernel
theorem dX12_called_30 : decode cX12_called 30 = .ok (.invokevirtual 270, 3) := by decide +kernel
theorem dX12_called_33 : decode cX12_called 33 = .ok (.istore 4, 2) := by decide +kernel
theorem dX12_called_35 : decode cX12_called 35 = .ok (.return_, 1) := by decide +kernel
theorem dX12_called_36 : decode cX12_called 36 = .ok (.aload_n 0, 1) := by decide +kernel
theorem dX12_called_37 : decode cX12_called 37 = .ok (.invokevirtual 273, 3) := by decide +kernel
theorem dX12_called_40 : decode cX12_called 40 = .ok (.aload_n 0, 1) := by decide +kernel
theorem dX12_called_41 : decode cX12_called 41 = .ok (.getfield 49, 3) := by decide +kernel
theorem dX12_called_44 : decode cX12_called 44 = .ok (.iload_n 1, 1) := by decide +kernel
theorem dX12_called_45 : decode cX12_called 45 = .ok (.iaload, 1) := by decide +kernel
theorem dX12_called_46 : decode cX12_called 46 = .ok (.bipush 7, 2) := by decide +kernel
theorem dX12_called_48 : decode cX12_called 48 = .ok (.if_icmp .ne 44, 3) := by decide +kernel
theorem dX12_called_51 : decode cX12_called 51 = .ok (.aload_n 0, 1) := by decide +kernel
theorem dX12_called_52 : decode cX12_called 52 = .ok (.getfield 247, 3) := by decide +kernel
theorem dX12_called_55 : decode cX12_called 55 = .ok (.iconst 2, 1) := by decide +kernel
theorem dX12_called_56 : decode cX12_called 56 = .ok (.if_icmp .ne 36, 3) := by decide +kernel
theorem dX12_called_59 : decode cX12_called 59 = .ok (.aload_n 0, 1) := by decide +kernel
theorem dX12_called_60 : decode cX12_called 60 = .ok (.getfield 49, 3) := by decide +kernel
theorem dX12_called_63 : decode cX12_called 63 = .ok (.iload_n 1, 1) := by decide +kernel
theorem dX12_called_64 : decode cX12_called 64 = .ok (.bipush 8, 2) := by decide +kernel
theorem dX12_called_66 : decode cX12_called 66 = .ok (.iastore, 1) := by decide +kernel
theorem dX12_called_67 : decode cX12_called 67 = .ok (.aload_n 0, 1) := by decide +kernel
theorem dX12_called_68 : decode cX12_called 68 = .ok (.getfield 55, 3) := by decide +kernel
theorem dX12_called_71 : decode cX12_called 71 = .ok (.iload_n 1, 1) := by decide +kernel
theorem dX12_called_72 : decode cX12_called 72 = .ok (.aload_n 0, 1) := by decide +kernel
theorem dX12_called_73 : decode cX12_called 73 = .ok (.iload_n 2, 1) := by decide +kernel
theorem dX12_called_74 : decode cX12_called 74 = .ok (.invokevirtual 325, 3) := by decide +kernel
theorem dX12_called_77 : decode cX12_called 77 = .ok (.iastore, 1) := by decide +kernel
theorem dX12_called_78 : decode cX12_called 78 = .ok (.aload_n 0, 1) := by decide +kernel
theorem dX12_called_79 : decode cX12_called 79 = .ok (.getfield 240, 3) := by decide +kernel
theorem dX12_called_82 : decode cX12_called 82 = .ok (.istore_n 2, 1) := by decide +kernel
theorem dX12_called_83 : decode cX12_called 83 = .ok (.aload_n 0, 1) := by decide +kernel
theorem dX12_called_84 : decode cX12_called 84 = .ok (.getfield 227, 3) := by decide +kernel
theorem dX12_called_87 : decode cX12_called 87 = .ok (.istore_n 3, 1) := by decide +kernel
theorem dX12_called_88 : decode cX12_called 88 = .ok (.aload_n 0, 1) := by decide +kernel
theorem dX12_called_89 : decode cX12_called 89 = .ok (.invokevirtual 273, 3) := by decide +kernel
theorem dX12_called_92 : decode cX12_called 92 = .ok (.aload_n 0, 1) := by decide +kernel
theorem dX12_called_93 : decode cX12_called 93 = .ok (.getfield 112, 3) := by decide +kernel
theorem dX12_called_96 : decode cX12_called 96 = .ok (.aload_n 0, 1) := by decide +kernel
theorem dX12_called_97 : decode cX12_called 97 = .ok (.getfield 289, 3) := by decide +kernel
theorem dX12_called_100 : decode cX12_called 100 = .ok (.iload_n 2, 1) := by decide +kernel
theorem dX12_called_101 : decode cX12_called 101 = .ok (.iastore, 1) := by decide +kernel
theorem dX12_called_102 : decode cX12_called 102 = .ok (.aload_n 0, 1) := by decide +kernel
theorem dX12_called_103 : decode cX12_called 103 = .ok (.getfield 115, 3) := by decide +kernel
theorem dX12_called_106 : decode cX12_called 106 = .ok (.aload_n 0, 1) := by decide +kernel
theorem dX12_called_107 : decode cX12_called 107 = .ok (.getfield 289, 3) := by decide +kernel
theorem dX12_called_110 : decode cX12_called 110 = .ok (.iload_n 3, 1) := by decide +kernel
theorem dX12_called_111 : decode cX12_called 111 = .ok (.iastore, 1) := by decide +kernel
theorem dX12_called_112 : decode cX12_called 112 = .ok (.aload_n 0, 1) := by decide +kernel
theorem dX12_called_113 : decode cX12_called 113 = .ok (.getfield 118, 3) := by decide +kernel
theorem dX12_called_116 : decode cX12_called 116 = .ok (.aload_n 0, 1) := by decide +kernel
theorem dX12_called_117 : decode cX12_called 117 = .ok (.getfield 289, 3) := by decide +kernel
theorem dX12_called_120 : decode cX12_called 120 = .ok (.iconst 1, 1) := by decide +kernel
theorem dX12_called_121 : decode cX12_called 121 = .ok (.bastore, 1) := by decide +kernel
theorem dX12_called_122 : decode cX12_called 122 = .ok (.aload_n 0, 1) := by decide +kernel
theorem dX12_called_123 : decode cX12_called 123 = .ok (.getfield 122, 3) := by decide +kernel
theorem dX12_called_126 : decode cX12_called 126 = .ok (.aload_n 0, 1) := by decide +kernel
theorem dX12_called_127 : decode cX12_called 127 = .ok (.getfield 289, 3) := by decide +kernel
theorem dX12_called_130 : decode cX12_called 130 = .ok (.iload_n 1, 1) := by decide +kernel
theorem dX12_called_131 : decode cX12_called 131 = .ok (.iastore, 1) := by decide +kernel
theorem dX12_called_132 : decode cX12_called 132 = .ok (.aload_n 0, 1) := by decide +kernel
theorem dX12_called_133 : decode cX12_called 133 = .ok (.dup, 1) := by decide +kernel
theorem dX12_called_134 : decode cX12_called 134 = .ok (.getfield 289, 3) := by decide +kernel
theorem dX12_called_137 : decode cX12_called 137 = .ok (.iconst 1, 1) := by decide +kernel
theorem dX12_called_138 : decode cX12_called 138 = .ok (.iadd, 1) := by decide +kernel
theorem dX12_called_139 : decode cX12_called 139 = .ok (.putfield 289, 3) := by decide +kernel
theorem dX12_called_142 : decode cX12_called 142 = .ok (.aload_n 0, 1) := by decide +kernel
theorem dX12_called_143 : decode cX12_called 143 = .ok (.getfield 64, 3) := by decide +kernel
theorem dX12_called_146 : decode cX12_called 146 = .ok (.iload_n 1, 1) := by decide +kernel
theorem dX12_called_147 : decode cX12_called 147 = .ok (.aload_n 0, 1) := by decide +kernel
theorem dX12_called_148 : decode cX12_called 148 = .ok (.getfield 364, 3) := by decide +kernel
theorem dX12_called_151 : decode cX12_called 151 = .ok (.iastore, 1) := by decide +kernel
theorem dX12_called_152 : decode cX12_called 152 = .ok (.aload_n 0, 1) := by decide +kernel
theorem dX12_called_153 : decode cX12_called 153 = .ok (.getfield 67, 3) := by decide +kernel
theorem dX12_called_156 : decode cX12_called 156 = .ok (.iload_n 1, 1) := by decide +kernel
theorem dX12_called_157 : decode cX12_called 157 = .ok (.iconst 0, 1) := by decide +kernel
theorem dX12_called_158 : decode cX12_called 158 = .ok (.iastore, 1) := by decide +kernel
theorem dX12_called_159 : decode cX12_called 159 = .ok (.aload_n 0, 1) := by decide +kernel
theorem dX12_called_160 : decode cX12_called 160 = .ok (.aload_n 0, 1) := by decide +kernel
theorem dX12_called_161 : decode cX12_called 161 = .ok (.bipush 40, 2) := by decide +kernel
theorem dX12_called_163 : decode cX12_called 163 = .ok (.invokevirtual 279, 3) := by decide +kernel
theorem dX12_called_166 : decode cX12_called 166 = .ok (.invokevirtual 299, 3) := by decide +kernel
theorem dX12_called_169 : decode cX12_called 169 = .ok (.ifCond .ne 4, 3) := by decide +kernel
theorem dX12_called_172 : decode cX12_called 172 = .ok (.return_, 1) := by decide +kernel
theorem dX12_called_173 : decode cX12_called 173 = .ok (.aload_n 0, 1) := by decide +kernel
theorem dX12_called_174 : decode cX12_called 174 = .ok (.bipush 41, 2) := by decide +kernel
theorem dX12_called_176 : decode cX12_called 176 = .ok (.invokevirtual 279, 3) := by decide +kernel
theorem dX12_called_179 : decode cX12_called 179 = .ok (.ifCond .ne 7, 3) := by decide +kernel
theorem dX12_called_182 : decode cX12_called 182 = .ok (.iconst 1, 1) := by decide +kernel
theorem dX12_called_183 : decode cX12_called 183 = .ok (.goto 4, 3) := by decide +kernel
theorem dX12_called_186 : decode cX12_called 186 = .ok (.iconst 0, 1) := by decide +kernel
theorem dX12_called_187 : decode cX12_called 187 = .ok (.istore 4, 2) := by decide +kernel
theorem dX12_called_189 : decode cX12_called 189 = .ok (.aload_n 0, 1) := by decide +kernel
theorem dX12_called_190 : decode cX12_called 190 = .ok (.getfield 364, 3) := by decide +kernel
theorem dX12_called_193 : decode cX12_called 193 = .ok (.istore 5, 2) := by decide +kernel
theorem dX12_called_195 : decode cX12_called 195 = .ok (.iload 4, 2) := by decide +kernel
theorem dX12_called_197 : decode cX12_called 197 = .ok (.ifCond .eq 133, 3) := by decide +kernel
theorem dX12_called_200 : decode cX12_called 200 = .ok (.aload_n 0, 1) := by decide +kernel
theorem dX12_called_201 : decode cX12_called 201 = .ok (.getfield 247, 3) := by decide +kernel
theorem dX12_called_204 : decode cX12_called 204 = .ok (.iconst 2, 1) := by decide +kernel
theorem dX12_called_205 : decode cX12_called 205 = .ok (.if_icmp .ne 7, 3) := by decide +kernel
theorem dX12_called_208 : decode cX12_called 208 = .ok (.iconst 1, 1) := by decide +kernel
theorem dX12_called_209 : decode cX12_called 209 = .ok (.goto 4, 3) := by decide +kernel
theorem dX12_called_212 : decode cX12_called 212 = .ok (.iconst 0, 1) := by decide +kernel
theorem dX12_called_213 : decode cX12_called 213 = .ok (.istore 6, 2) := by decide +kernel
theorem dX12_called_215 : decode cX12_called 215 = .ok (.aload_n 0, 1) := by decide +kernel
theorem dX12_called_216 : decode cX12_called 216 = .ok (.invokevirtual 361, 3) := by decide +kernel
theorem dX12_called_219 : decode cX12_called 219 = .ok (.istore 7, 2) := by decide +kernel
theorem dX12_called_221 : decode cX12_called 221 = .ok (.aload_n 0, 1) := by decide +kernel
theorem dX12_called_222 : decode cX12_called 222 = .ok (.getfield 267, 3) := by decide +kernel
theorem dX12_called_225 : decode cX12_called 225 = .ok (.ifCond .lt 4, 3) := by decide +kernel
theorem dX12_called_228 : decode cX12_called 228 = .ok (.return_, 1) := by decide +kernel
theorem dX12_called_229 : decode cX12_called 229 = .ok (.aload_n 0, 1) := by decide +kernel
theorem dX12_called_230 : decode cX12_called 230 = .ok (.getfield 82, 3) := by decide +kernel
theorem dX12_called_233 : decode cX12_called 233 = .ok (.aload_n 0, 1) := by decide +kernel
theorem dX12_called_234 : decode cX12_called 234 = .ok (.getfield 364, 3) := by decide +kernel
theorem dX12_called_237 : decode cX12_called 237 = .ok (.iload 7, 2) := by decide +kernel
theorem dX12_called_239 : decode cX12_called 239 = .ok (.iastore, 1) := by decide +kernel
theorem dX12_called_240 : decode cX12_called 240 = .ok (.aload_n 0, 1) := by decide +kernel
theorem dX12_called_241 : decode cX12_called 241 = .ok (.getfield 85, 3) := by decide +kernel
theorem dX12_called_244 : decode cX12_called 244 = .ok (.aload_n 0, 1) := by decide +kernel
theorem dX12_called_245 : decode cX12_called 245 = .ok (.getfield 364, 3) := by decide +kernel
theorem dX12_called_248 : decode cX12_called 248 = .ok (.iload 6, 2) := by decide +kernel
theorem dX12_called_250 : decode cX12_called 250 = .ok (.ifCond .eq 38, 3) := by decide +kernel
theorem dX12_called_253 : decode cX12_called 253 = .ok (.aload_n 0, 1) := by decide +kernel
theorem dX12_called_254 : decode cX12_called 254 = .ok (.getfield 88, 3) := by decide +kernel
theorem dX12_called_257 : decode cX12_called 257 = .ok (.iload 7, 2) := by decide +kernel
theorem dX12_called_259 : decode cX12_called 259 = .ok (.iaload, 1) := by decide +kernel
theorem dX12_called_260 : decode cX12_called 260 = .ok (.iconst 2, 1) := by decide +kernel
theorem dX12_called_261 : decode cX12_called 261 = .ok (.if_icmp .ne 27, 3) := by decide +kernel
theorem dX12_called_264 : decode cX12_called 264 = .ok (.aload_n 0, 1) := by decide +kernel
theorem dX12_called_265 : decode cX12_called 265 = .ok (.getfield 88, 3) := by decide +kernel
theorem dX12_called_268 : decode cX12_called 268 = .ok (.iload 7, 2) := by decide +kernel
theorem dX12_called_270 : decode cX12_called 270 = .ok (.iconst 2, 1) := by decide +kernel
theorem dX12_called_271 : decode cX12_called 271 = .ok (.iadd, 1) := by decide +kernel
theorem dX12_called_272 : decode cX12_called 272 = .ok (.iaload, 1) := by decide +kernel
theorem dX12_called_273 : decode cX12_called 273 = .ok (.ifCond .ne 15, 3) := by decide +kernel
theorem dX12_called_276 : decode cX12_called 276 = .ok (.aload_n 0, 1) := by decide +kernel
theorem dX12_called_277 : decode cX12_called 277 = .ok (.getfield 88, 3) := by decide +kernel
theorem dX12_called_280 : decode cX12_called 280 = .ok (.iload 7, 2) := by decide +kernel
theorem dX12_called_282 : decode cX12_called 282 = .ok (.iconst 1, 1) := by decide +kernel
theorem dX12_called_283 : decode cX12_called 283 = .ok (.iadd, 1) := by decide +kernel
theorem dX12_called_284 : decode cX12_called 284 = .ok (.iaload, 1) := by decide +kernel
theorem dX12_called_285 : decode cX12_called 285 = .ok (.goto 4, 3) := by decide +kernel
theorem dX12_called_288 : decode cX12_called 288 = .ok (.iconst (-1), 1) := by decide +kernel
theorem dX12_called_289 : decode cX12_called 289 = .ok (.iastore, 1) := by decide +kernel
theorem dX12_called_290 : decode cX12_called 290 = .ok (.aload_n 0, 1) := by decide +kernel
theorem dX12_called_291 : decode cX12_called 291 = .ok (.dup, 1) := by decide +kernel
theorem dX12_called_292 : decode cX12_called 292 = .ok (.getfield 364, 3) := by decide +kernel
theorem dX12_called_295 : decode cX12_called 295 = .ok (.iconst 1, 1) := by decide +kernel
theorem dX12_called_296 : decode cX12_called 296 = .ok (.iadd, 1) := by decide +kernel
theorem dX12_called_297 : decode cX12_called 297 = .ok (.putfield 364, 3) := by decide +kernel
theorem dX12_called_300 : decode cX12_called 300 = .ok (.aload_n 0, 1) := by decide +kernel
theorem dX12_called_301 : decode cX12_called 301 = .ok (.getfield 67, 3) := by decide +kernel
theorem dX12_called_304 : decode cX12_called 304 = .ok (.iload_n 1, 1) := by decide +kernel
theorem dX12_called_305 : decode cX12_called 305 = .ok (.dup2, 1) := by decide +kernel
theorem dX12_called_306 : decode cX12_called 306 = .ok (.iaload, 1) := by decide +kernel
theorem dX12_called_307 : decode cX12_called 307 = .ok (.iconst 1, 1) := by decide +kernel
theorem dX12_called_308 : decode cX12_called 308 = .ok (.iadd, 1) := by decide +kernel
theorem dX12_called_309 : decode cX12_called 309 = .ok (.iastore, 1) := by decide +kernel
theorem dX12_called_310 : decode cX12_called 310 = .ok (.aload_n 0, 1) := by decide +kernel
theorem dX12_called_311 : decode cX12_called 311 = .ok (.bipush 44, 2) := by decide +kernel
theorem dX12_called_313 : decode cX12_called 313 = .ok (.invokevirtual 279, 3) := by decide +kernel
theorem dX12_called_316 : decode cX12_called 316 = .ok (.istore 4, 2) := by decide +kernel
theorem dX12_called_318 : decode cX12_called 318 = .ok (.iload 4, 2) := by decide +kernel
theorem dX12_called_320 : decode cX12_called 320 = .ok (.ifCond .eq 7, 3) := by decide +kernel
theorem dX12_called_323 : decode cX12_called 323 = .ok (.aload_n 0, 1) := by decide +kernel
theorem dX12_called_324 : decode cX12_called 324 = .ok (.invokevirtual 273, 3) := by decide +kernel
theorem dX12_called_327 : decode cX12_called 327 = .ok (.goto (-132), 3) := by decide +kernel
theorem dX12_called_330 : decode cX12_called 330 = .ok (.aload_n 0, 1) := by decide +kernel
theorem dX12_called_331 : decode cX12_called 331 = .ok (.bipush 41, 2) := by decide +kernel
theorem dX12_called_333 : decode cX12_called 333 = .ok (.invokevirtual 305, 3) := by decide +kernel
theorem dX12_called_336 : decode cX12_called 336 = .ok (.return_, 1) := by decide +kernel
def bX12_called_25 (t : zS) : zR := zbd (mX12_fails (t 0 6) t) fun r2983 t2984 => some (0, t2984)
def bX12_called_327 (k195 : Int32 → Int32 → zS → zR) (x1 : Int32) (x4 : Int32) (t : zS) : zR := k195 x1 x4 t
def bX12_called_289 (k195 : Int32 → Int32 → zS → zR) (x1 : Int32) (y0 : Int32) (y1 : Int32) (t : zS) : zR := zwr t 26 1600 y1 y0 fun t2987 => zpt t2987 0 39 ((t2987 0 39) + 1) fun t2988 => zrd t2988 20 1600 x1 fun v2989 => zwr t2988 20 1600 x1 (v2989 + 1) fun t2992 => zbd (mX12_isSign 44 t2992) fun r2993 t2994 => if r2993 = 0 then bX12_called_327 k195 x1 r2993 t2994 else zbd (mX12_next  t2994) fun r2996 t2997 => bX12_called_327 k195 x1 r2993 t2997
def bX12_called_288 (k195 : Int32 → Int32 → zS → zR) (x1 : Int32) (y0 : Int32) (t : zS) : zR := bX12_called_289 k195 x1 (-1) y0 t
def bX12_called_213 (k195 : Int32 → Int32 → zS → zR) (x1 : Int32) (y0 : Int32) (t : zS) : zR := zbd (mX12_told  t) fun r2999 t3000 => if (t3000 0 9) < 0 then zwr t3000 25 1600 (t3000 0 39) r2999 fun t3003 => if y0 = 0 then bX12_called_288 k195 x1 (t3003 0 39) t3003 else zrd t3003 27 9000 r2999 fun v3004 => if v3004 = 2 then zrd t3003 27 9000 (r2999 + 2) fun v3006 => if v3006 = 0 then zrd t3003 27 9000 (r2999 + 1) fun v3008 => bX12_called_289 k195 x1 v3008 (t3003 0 39) t3003 else bX12_called_288 k195 x1 (t3003 0 39) t3003 else bX12_called_288 k195 x1 (t3003 0 39) t3003 else some (0, t3000)
def bX12_called_195 (k195 : Int32 → Int32 → zS → zR) (x1 : Int32) (x4 : Int32) (t : zS) : zR := if x4 = 0 then zbd (mX12_closes 41 t) fun r3010 t3011 => some (0, t3011) else if (t 0 5) = 2 then bX12_called_213 k195 x1 1 t else bX12_called_213 k195 x1 0 t
def lX12_called_195 : Nat → Int32 → Int32 → zS → zR
  | 0, _, _, _ => none
  | fu + 1, x1, x4, t => bX12_called_195 (lX12_called_195  fu) x1 x4 t
def bX12_called_187 (x1 : Int32) (y0 : Int32) (t : zS) : zR := zlet (t 0 39) fun v3013 => lX12_called_195  zFU x1 y0 t
def bX12_called_92 (x1 : Int32) (x2 : Int32) (x3 : Int32) (t : zS) : zR := zwr t 35 3000 (t 0 52) x2 fun t3015 => zwr t3015 36 3000 (t3015 0 52) x3 fun t3017 => zwr t3017 37 3000 (t3017 0 52) 1 fun t3019 => zwr t3019 38 3000 (t3019 0 52) x1 fun t3021 => zpt t3021 0 52 ((t3021 0 52) + 1) fun t3022 => zwr t3022 19 1600 x1 (t3022 0 39) fun t3024 => zwr t3024 20 1600 x1 0 fun t3026 => zbd (mX12_isSign 40 t3026) fun r3027 t3028 => zbd (mX12_opens r3027 t3028) fun r3030 t3031 => if r3030 = 0 then some (0, t3031) else zbd (mX12_isSign 41 t3031) fun r3033 t3034 => if r3033 = 0 then bX12_called_187  x1 1 t3034 else bX12_called_187  x1 0 t3034
def mX12_called (x1 : Int32) (t : zS) : zR := zlet (t 0 8) fun v3036 => zlet (t 0 6) fun v3037 => if (t 0 5) = 2 then if (t 0 9) < 0 then zbd (mX12_next  t) fun r3038 t3039 => zrd t3039 14 1600 x1 fun v3041 => if v3041 = 7 then if (t3039 0 5) = 2 then zwr t3039 14 1600 x1 8 fun t3044 => zbd (mX12_ownOf v3036 t3044) fun r3045 t3046 => zwr t3046 16 1600 x1 r3045 fun t3049 => zlet (t3049 0 8) fun v3050 => zlet (t3049 0 6) fun v3051 => zbd (mX12_next  t3049) fun r3052 t3053 => bX12_called_92  x1 v3050 v3051 t3053 else bX12_called_92  x1 v3036 v3037 t3039 else bX12_called_92  x1 v3036 v3037 t3039 else bX12_called_25   t else bX12_called_25   t
set_option maxHeartbeats 4000000 in
set_option maxRecDepth 20000 in
theorem wbX12_called_25 {E : zE} {C : zC} {f : Nat} {ro : Int32 × zS} (hf : 308 ≤ f) (t : zS) (hF : bX12_called_25   t = some ro) : zJ E shM C cX12_called RX12 8 f none ro t 25 [(0, .ref (za E 0))] [] := by
  unfold bX12_called_25 at hF
  refine z_aload_n 0 dX12_called_25 rfl rfl ?_
  refine z_aload_n 0 dX12_called_26 rfl rfl ?_
  refine z_geti fi_RX12_227 dX12_called_27 ?_
  obtain ⟨r2983, t2984, hc2985, hF⟩ := zbd_at hF
  refine z_callVi (ctX12_fails (E := E) (f := f - 1) (by omega) hc2985) yy_X12_fails yv_X12_fails ob_M_0 lk_RX12_270 (by omega) rfl rfl (Nat.le_of_ble_eq_true rfl) dX12_called_30 ?_
  refine z_istore (lv' := [(4, .int r2983), (0, .ref (za E 0))]) dX12_called_33 (by decide) rfl ?_
  exact z_vret hF dX12_called_35
set_option maxHeartbeats 4000000 in
set_option maxRecDepth 20000 in
theorem wbX12_called_327 {E : zE} {C : zC} {f : Nat} {ro : Int32 × zS} (hf : 308 ≤ f) (k195 : Int32 → Int32 → zS → zR) (hk195 : ∀ (x1 x4 : Int32) (t : zS), k195 x1 x4 t = some ro → zJ E shM C cX12_called RX12 8 f none ro t 195 [(0, .ref (za E 0)), (1, .int x1), (4, .int x4)] []) (x1 : Int32) (x4 : Int32) (t : zS) (hF : bX12_called_327 k195 x1 x4 t = some ro) : zJ E shM C cX12_called RX12 8 f none ro t 327 [(0, .ref (za E 0)), (1, .int x1), (4, .int x4)] [] := by
  unfold bX12_called_327 at hF
  refine z_goto (tgt := 195) dX12_called_327 (by decide) ?_
  exact hk195 x1 x4 _ hF
set_option maxHeartbeats 4000000 in
set_option maxRecDepth 20000 in
theorem wbX12_called_289 {E : zE} {C : zC} {f : Nat} {ro : Int32 × zS} (hf : 308 ≤ f) (k195 : Int32 → Int32 → zS → zR) (hk195 : ∀ (x1 x4 : Int32) (t : zS), k195 x1 x4 t = some ro → zJ E shM C cX12_called RX12 8 f none ro t 195 [(0, .ref (za E 0)), (1, .int x1), (4, .int x4)] []) (x1 : Int32) (y0 : Int32) (y1 : Int32) (t : zS) (hF : bX12_called_289 k195 x1 y0 y1 t = some ro) : zJ E shM C cX12_called RX12 8 f none ro t 289 [(0, .ref (za E 0)), (1, .int x1)] [.int y0, .int y1, .ref (za E 26)] := by
  unfold bX12_called_289 at hF
  obtain ⟨hi2986, hF⟩ := zwr_at hF
  refine z_iast (n := 1600) rfl hi2986 dX12_called_289 (fun t2987 et2987 => ?_)
  have hF := hF t2987 et2987
  refine z_aload_n 0 dX12_called_290 rfl rfl ?_
  refine z_dup dX12_called_291 rfl ?_
  refine z_geti fi_RX12_364 dX12_called_292 ?_
  refine z_iconst (v := 1) dX12_called_295 (by decide) ?_
  refine z_iadd dX12_called_296 ?_
  refine z_puti fw_RX12_364 dX12_called_297 (fun t2988 et2988 => ?_)
  have hF := zpt_at hF t2988 et2988
  refine z_aload_n 0 dX12_called_300 rfl rfl ?_
  refine z_getr fr_RX12_67 dX12_called_301 ?_
  refine z_iload_n 1 dX12_called_304 rfl rfl ?_
  refine z_dup2 dX12_called_305 rfl rfl ?_
  obtain ⟨hi2990, hF⟩ := zrd_at hF
  refine z_iald (n := 1600) rfl hi2990 dX12_called_306 ?_
  generalize t2988 20 (Int32.toNatClampNeg x1) = v2989 at hF ⊢
  refine z_iconst (v := 1) dX12_called_307 (by decide) ?_
  refine z_iadd dX12_called_308 ?_
  obtain ⟨hi2991, hF⟩ := zwr_at hF
  refine z_iast (n := 1600) rfl hi2991 dX12_called_309 (fun t2992 et2992 => ?_)
  have hF := hF t2992 et2992
  refine z_aload_n 0 dX12_called_310 rfl rfl ?_
  refine z_bipush (v := 44) dX12_called_311 (by decide) ?_
  obtain ⟨r2993, t2994, hc2995, hF⟩ := zbd_at hF
  refine z_callVi (ctX12_isSign (E := E) (f := f - 1) (by omega) hc2995) yy_X12_isSign yv_X12_isSign ob_M_0 lk_RX12_279 (by omega) rfl rfl (Nat.le_of_ble_eq_true rfl) dX12_called_313 ?_
  refine z_istore (lv' := [(4, .int r2993), (0, .ref (za E 0)), (1, .int x1)]) dX12_called_316 (by decide) rfl ?_
  refine z_iload 0 dX12_called_318 rfl ?_
  refine z_if_eq (tgt := 327) dX12_called_320 (by decide) (fun hc => ?_) (fun hc => ?_)
  · have hF := zif_t hc hF
    refine z_sub [1, 2, 0] rfl ?_
    exact wbX12_called_327 hf k195 hk195 x1 r2993 _ hF
  · have hF := zif_f hc hF
    refine z_aload_n 1 dX12_called_323 rfl rfl ?_
    obtain ⟨r2996, t2997, hc2998, hF⟩ := zbd_at hF
    refine z_callVv (ctX12_next (E := E) (f := f - 1) (by omega) hc2998) yy_X12_next yv_X12_next ob_M_0 lk_RX12_273 (by omega) rfl rfl (Nat.le_of_ble_eq_true rfl) dX12_called_324 ?_
    refine z_sub [1, 2, 0] rfl ?_
    exact wbX12_called_327 hf k195 hk195 x1 r2993 _ hF
set_option maxHeartbeats 4000000 in
set_option maxRecDepth 20000 in
theorem wbX12_called_288 {E : zE} {C : zC} {f : Nat} {ro : Int32 × zS} (hf : 308 ≤ f) (k195 : Int32 → Int32 → zS → zR) (hk195 : ∀ (x1 x4 : Int32) (t : zS), k195 x1 x4 t = some ro → zJ E shM C cX12_called RX12 8 f none ro t 195 [(0, .ref (za E 0)), (1, .int x1), (4, .int x4)] []) (x1 : Int32) (y0 : Int32) (t : zS) (hF : bX12_called_288 k195 x1 y0 t = some ro) : zJ E shM C cX12_called RX12 8 f none ro t 288 [(0, .ref (za E 0)), (1, .int x1)] [.int y0, .ref (za E 26)] := by
  unfold bX12_called_288 at hF
  refine z_iconst (v := (-1)) dX12_called_288 (by decide) ?_
  exact wbX12_called_289 hf k195 hk195 x1 (-1) y0 _ hF
set_option maxHeartbeats 4000000 in
set_option maxRecDepth 20000 in
theorem wbX12_called_213 {E : zE} {C : zC} {f : Nat} {ro : Int32 × zS} (hf : 308 ≤ f) (k195 : Int32 → Int32 → zS → zR) (hk195 : ∀ (x1 x4 : Int32) (t : zS), k195 x1 x4 t = some ro → zJ E shM C cX12_called RX12 8 f none ro t 195 [(0, .ref (za E 0)), (1, .int x1), (4, .int x4)] []) (x1 : Int32) (y0 : Int32) (t : zS) (hF : bX12_called_213 k195 x1 y0 t = some ro) : zJ E shM C cX12_called RX12 8 f none ro t 213 [(0, .ref (za E 0)), (1, .int x1)] [.int y0] := by
  unfold bX12_called_213 at hF
  refine z_istore (lv' := [(6, .int y0), (0, .ref (za E 0)), (1, .int x1)]) dX12_called_213 (by decide) rfl ?_
  refine z_aload_n 1 dX12_called_215 rfl rfl ?_
  obtain ⟨r2999, t3000, hc3001, hF⟩ := zbd_at hF
  refine z_callVi (ctX12_told (E := E) (f := f - 1) (by omega) hc3001) yy_X12_told yv_X12_told ob_M_0 lk_RX12_361 (by omega) rfl rfl (Nat.le_of_ble_eq_true rfl) dX12_called_216 ?_
  refine z_istore (lv' := [(7, .int r2999), (6, .int y0), (0, .ref (za E 0)), (1, .int x1)]) dX12_called_219 (by decide) rfl ?_
  refine z_aload_n 2 dX12_called_221 rfl rfl ?_
  refine z_geti fi_RX12_267 dX12_called_222 ?_
  refine z_if_lt (tgt := 229) dX12_called_225 (by decide) (fun hc => ?_) (fun hc => ?_)
  · have hF := zif_t hc hF
    refine z_aload_n 2 dX12_called_229 rfl rfl ?_
    refine z_getr fr_RX12_82 dX12_called_230 ?_
    refine z_aload_n 2 dX12_called_233 rfl rfl ?_
    refine z_geti fi_RX12_364 dX12_called_234 ?_
    refine z_iload 0 dX12_called_237 rfl ?_
    obtain ⟨hi3002, hF⟩ := zwr_at hF
    refine z_iast (n := 1600) rfl hi3002 dX12_called_239 (fun t3003 et3003 => ?_)
    have hF := hF t3003 et3003
    refine z_aload_n 2 dX12_called_240 rfl rfl ?_
    refine z_getr fr_RX12_85 dX12_called_241 ?_
    refine z_aload_n 2 dX12_called_244 rfl rfl ?_
    refine z_geti fi_RX12_364 dX12_called_245 ?_
    refine z_iload 1 dX12_called_248 rfl ?_
    refine z_if_eq (tgt := 288) dX12_called_250 (by decide) (fun hc => ?_) (fun hc => ?_)
    · have hF := zif_t hc hF
      refine z_sub [2, 3] rfl ?_
      exact wbX12_called_288 hf k195 hk195 x1 (t3003 0 39) _ hF
    · have hF := zif_f hc hF
      refine z_aload_n 2 dX12_called_253 rfl rfl ?_
      refine z_getr fr_RX12_88 dX12_called_254 ?_
      refine z_iload 0 dX12_called_257 rfl ?_
      obtain ⟨hi3005, hF⟩ := zrd_at hF
      refine z_iald (n := 9000) rfl hi3005 dX12_called_259 ?_
      generalize t3003 27 (Int32.toNatClampNeg r2999) = v3004 at hF ⊢
      refine z_iconst (v := 2) dX12_called_260 (by decide) ?_
      refine z_icmp_ne (tgt := 288) dX12_called_261 (by decide) (fun hc => ?_) (fun hc => ?_)
      · have hF := zif_f hc hF
        refine z_sub [2, 3] rfl ?_
        exact wbX12_called_288 hf k195 hk195 x1 (t3003 0 39) _ hF
      · have hF := zif_t hc hF
        refine z_aload_n 2 dX12_called_264 rfl rfl ?_
        refine z_getr fr_RX12_88 dX12_called_265 ?_
        refine z_iload 0 dX12_called_268 rfl ?_
        refine z_iconst (v := 2) dX12_called_270 (by decide) ?_
        refine z_iadd dX12_called_271 ?_
        obtain ⟨hi3007, hF⟩ := zrd_at hF
        refine z_iald (n := 9000) rfl hi3007 dX12_called_272 ?_
        generalize t3003 27 (Int32.toNatClampNeg (r2999 + 2)) = v3006 at hF ⊢
        refine z_if_ne (tgt := 288) dX12_called_273 (by decide) (fun hc => ?_) (fun hc => ?_)
        · have hF := zif_f hc hF
          refine z_sub [2, 3] rfl ?_
          exact wbX12_called_288 hf k195 hk195 x1 (t3003 0 39) _ hF
        · have hF := zif_t hc hF
          refine z_aload_n 2 dX12_called_276 rfl rfl ?_
          refine z_getr fr_RX12_88 dX12_called_277 ?_
          refine z_iload 0 dX12_called_280 rfl ?_
          refine z_iconst (v := 1) dX12_called_282 (by decide) ?_
          refine z_iadd dX12_called_283 ?_
          obtain ⟨hi3009, hF⟩ := zrd_at hF
          refine z_iald (n := 9000) rfl hi3009 dX12_called_284 ?_
          generalize t3003 27 (Int32.toNatClampNeg (r2999 + 1)) = v3008 at hF ⊢
          refine z_goto (tgt := 289) dX12_called_285 (by decide) ?_
          refine z_sub [2, 3] rfl ?_
          exact wbX12_called_289 hf k195 hk195 x1 v3008 (t3003 0 39) _ hF
  · have hF := zif_f hc hF
    exact z_vret hF dX12_called_228
set_option maxHeartbeats 4000000 in
set_option maxRecDepth 20000 in
theorem wbX12_called_195 {E : zE} {C : zC} {f : Nat} {ro : Int32 × zS} (hf : 308 ≤ f) (k195 : Int32 → Int32 → zS → zR) (hk195 : ∀ (x1 x4 : Int32) (t : zS), k195 x1 x4 t = some ro → zJ E shM C cX12_called RX12 8 f none ro t 195 [(0, .ref (za E 0)), (1, .int x1), (4, .int x4)] []) (x1 : Int32) (x4 : Int32) (t : zS) (hF : bX12_called_195 k195 x1 x4 t = some ro) : zJ E shM C cX12_called RX12 8 f none ro t 195 [(0, .ref (za E 0)), (1, .int x1), (4, .int x4)] [] := by
  unfold bX12_called_195 at hF
  refine z_iload 2 dX12_called_195 rfl ?_
  refine z_if_eq (tgt := 330) dX12_called_197 (by decide) (fun hc => ?_) (fun hc => ?_)
  · have hF := zif_t hc hF
    refine z_aload_n 0 dX12_called_330 rfl rfl ?_
    refine z_bipush (v := 41) dX12_called_331 (by decide) ?_
    obtain ⟨r3010, t3011, hc3012, hF⟩ := zbd_at hF
    refine z_callVv (ctX12_closes (E := E) (f := f - 1) (by omega) hc3012) yy_X12_closes yv_X12_closes ob_M_0 lk_RX12_305 (by omega) rfl rfl (Nat.le_of_ble_eq_true rfl) dX12_called_333 ?_
    exact z_vret hF dX12_called_336
  · have hF := zif_f hc hF
    refine z_aload_n 0 dX12_called_200 rfl rfl ?_
    refine z_geti fi_RX12_247 dX12_called_201 ?_
    refine z_iconst (v := 2) dX12_called_204 (by decide) ?_
    refine z_icmp_ne (tgt := 212) dX12_called_205 (by decide) (fun hc => ?_) (fun hc => ?_)
    · have hF := zif_f hc hF
      refine z_iconst (v := 0) dX12_called_212 (by decide) ?_
      refine z_sub [0, 1] rfl ?_
      exact wbX12_called_213 hf k195 hk195 x1 0 _ hF
    · have hF := zif_t hc hF
      refine z_iconst (v := 1) dX12_called_208 (by decide) ?_
      refine z_goto (tgt := 213) dX12_called_209 (by decide) ?_
      refine z_sub [0, 1] rfl ?_
      exact wbX12_called_213 hf k195 hk195 x1 1 _ hF
set_option maxHeartbeats 4000000 in
set_option maxRecDepth 20000 in
theorem wlX12_called_195 {E : zE} {C : zC} {f : Nat} {ro : Int32 × zS} (hf : 308 ≤ f) (fu : Nat) : ∀ (x1 x4 : Int32) (t : zS), lX12_called_195  fu x1 x4 t = some ro → zJ E shM C cX12_called RX12 8 f none ro t 195 [(0, .ref (za E 0)), (1, .int x1), (4, .int x4)] [] := by
  induction fu with
  | zero => intro x1 x4 t hF; cases hF
  | succ fu ih => intro x1 x4 t hF; exact wbX12_called_195 hf (lX12_called_195  fu) ih x1 x4 t hF
set_option maxHeartbeats 4000000 in
set_option maxRecDepth 20000 in
theorem wbX12_called_187 {E : zE} {C : zC} {f : Nat} {ro : Int32 × zS} (hf : 308 ≤ f) (x1 : Int32) (y0 : Int32) (t : zS) (hF : bX12_called_187  x1 y0 t = some ro) : zJ E shM C cX12_called RX12 8 f none ro t 187 [(0, .ref (za E 0)), (1, .int x1)] [.int y0] := by
  unfold bX12_called_187 at hF
  refine z_istore (lv' := [(4, .int y0), (0, .ref (za E 0)), (1, .int x1)]) dX12_called_187 (by decide) rfl ?_
  refine z_aload_n 1 dX12_called_189 rfl rfl ?_
  refine z_geti fi_RX12_364 dX12_called_190 ?_
  refine z_topi (fun v3013 ev3013 => ?_)
  have hF := zlet_at ev3013 hF
  refine z_istore (lv' := [(5, .int v3013), (4, .int y0), (0, .ref (za E 0)), (1, .int x1)]) dX12_called_193 (by decide) rfl ?_
  refine z_sub [2, 3, 1] rfl ?_
  exact wlX12_called_195 hf  zFU x1 y0 _ hF
set_option maxHeartbeats 4000000 in
set_option maxRecDepth 20000 in
theorem wbX12_called_92 {E : zE} {C : zC} {f : Nat} {ro : Int32 × zS} (hf : 308 ≤ f) (x1 : Int32) (x2 : Int32) (x3 : Int32) (t : zS) (hF : bX12_called_92  x1 x2 x3 t = some ro) : zJ E shM C cX12_called RX12 8 f none ro t 92 [(0, .ref (za E 0)), (1, .int x1), (2, .int x2), (3, .int x3)] [] := by
  unfold bX12_called_92 at hF
  refine z_aload_n 0 dX12_called_92 rfl rfl ?_
  refine z_getr fr_RX12_112 dX12_called_93 ?_
  refine z_aload_n 0 dX12_called_96 rfl rfl ?_
  refine z_geti fi_RX12_289 dX12_called_97 ?_
  refine z_iload_n 2 dX12_called_100 rfl rfl ?_
  obtain ⟨hi3014, hF⟩ := zwr_at hF
  refine z_iast (n := 3000) rfl hi3014 dX12_called_101 (fun t3015 et3015 => ?_)
  have hF := hF t3015 et3015
  refine z_aload_n 0 dX12_called_102 rfl rfl ?_
  refine z_getr fr_RX12_115 dX12_called_103 ?_
  refine z_aload_n 0 dX12_called_106 rfl rfl ?_
  refine z_geti fi_RX12_289 dX12_called_107 ?_
  refine z_iload_n 3 dX12_called_110 rfl rfl ?_
  obtain ⟨hi3016, hF⟩ := zwr_at hF
  refine z_iast (n := 3000) rfl hi3016 dX12_called_111 (fun t3017 et3017 => ?_)
  have hF := hF t3017 et3017
  refine z_aload_n 0 dX12_called_112 rfl rfl ?_
  refine z_getr fr_RX12_118 dX12_called_113 ?_
  refine z_aload_n 0 dX12_called_116 rfl rfl ?_
  refine z_geti fi_RX12_289 dX12_called_117 ?_
  refine z_iconst (v := 1) dX12_called_120 (by decide) ?_
  obtain ⟨hi3018, hF⟩ := zwr_at hF
  refine z_zast (n := 3000) rfl hi3018 (by decide) dX12_called_121 (fun t3019 et3019 => ?_)
  have hF := hF t3019 et3019
  refine z_aload_n 0 dX12_called_122 rfl rfl ?_
  refine z_getr fr_RX12_122 dX12_called_123 ?_
  refine z_aload_n 0 dX12_called_126 rfl rfl ?_
  refine z_geti fi_RX12_289 dX12_called_127 ?_
  refine z_iload_n 1 dX12_called_130 rfl rfl ?_
  obtain ⟨hi3020, hF⟩ := zwr_at hF
  refine z_iast (n := 3000) rfl hi3020 dX12_called_131 (fun t3021 et3021 => ?_)
  have hF := hF t3021 et3021
  refine z_aload_n 0 dX12_called_132 rfl rfl ?_
  refine z_dup dX12_called_133 rfl ?_
  refine z_geti fi_RX12_289 dX12_called_134 ?_
  refine z_iconst (v := 1) dX12_called_137 (by decide) ?_
  refine z_iadd dX12_called_138 ?_
  refine z_puti fw_RX12_289 dX12_called_139 (fun t3022 et3022 => ?_)
  have hF := zpt_at hF t3022 et3022
  refine z_aload_n 0 dX12_called_142 rfl rfl ?_
  refine z_getr fr_RX12_64 dX12_called_143 ?_
  refine z_iload_n 1 dX12_called_146 rfl rfl ?_
  refine z_aload_n 0 dX12_called_147 rfl rfl ?_
  refine z_geti fi_RX12_364 dX12_called_148 ?_
  obtain ⟨hi3023, hF⟩ := zwr_at hF
  refine z_iast (n := 1600) rfl hi3023 dX12_called_151 (fun t3024 et3024 => ?_)
  have hF := hF t3024 et3024
  refine z_aload_n 0 dX12_called_152 rfl rfl ?_
  refine z_getr fr_RX12_67 dX12_called_153 ?_
  refine z_iload_n 1 dX12_called_156 rfl rfl ?_
  refine z_iconst (v := 0) dX12_called_157 (by decide) ?_
  obtain ⟨hi3025, hF⟩ := zwr_at hF
  refine z_iast (n := 1600) rfl hi3025 dX12_called_158 (fun t3026 et3026 => ?_)
  have hF := hF t3026 et3026
  refine z_aload_n 0 dX12_called_159 rfl rfl ?_
  refine z_aload_n 0 dX12_called_160 rfl rfl ?_
  refine z_bipush (v := 40) dX12_called_161 (by decide) ?_
  obtain ⟨r3027, t3028, hc3029, hF⟩ := zbd_at hF
  refine z_callVi (ctX12_isSign (E := E) (f := f - 1) (by omega) hc3029) yy_X12_isSign yv_X12_isSign ob_M_0 lk_RX12_279 (by omega) rfl rfl (Nat.le_of_ble_eq_true rfl) dX12_called_163 ?_
  obtain ⟨r3030, t3031, hc3032, hF⟩ := zbd_at hF
  refine z_callVi (ctX12_opens (E := E) (f := f - 1) (by omega) hc3032) yy_X12_opens yv_X12_opens ob_M_0 lk_RX12_299 (by omega) rfl rfl (Nat.le_of_ble_eq_true rfl) dX12_called_166 ?_
  refine z_if_ne (tgt := 173) dX12_called_169 (by decide) (fun hc => ?_) (fun hc => ?_)
  · have hF := zif_f hc hF
    refine z_aload_n 0 dX12_called_173 rfl rfl ?_
    refine z_bipush (v := 41) dX12_called_174 (by decide) ?_
    obtain ⟨r3033, t3034, hc3035, hF⟩ := zbd_at hF
    refine z_callVi (ctX12_isSign (E := E) (f := f - 1) (by omega) hc3035) yy_X12_isSign yv_X12_isSign ob_M_0 lk_RX12_279 (by omega) rfl rfl (Nat.le_of_ble_eq_true rfl) dX12_called_176 ?_
    refine z_if_ne (tgt := 186) dX12_called_179 (by decide) (fun hc => ?_) (fun hc => ?_)
    · have hF := zif_f hc hF
      refine z_iconst (v := 0) dX12_called_186 (by decide) ?_
      refine z_sub [0, 1] rfl ?_
      exact wbX12_called_187 hf  x1 0 _ hF
    · have hF := zif_t hc hF
      refine z_iconst (v := 1) dX12_called_182 (by decide) ?_
      refine z_goto (tgt := 187) dX12_called_183 (by decide) ?_
      refine z_sub [0, 1] rfl ?_
      exact wbX12_called_187 hf  x1 1 _ hF
  · have hF := zif_t hc hF
    exact z_vret hF dX12_called_172
set_option maxHeartbeats 4000000 in
set_option maxRecDepth 20000 in
theorem ctX12_called {E : zE} {f : Nat} (hf : 308 ≤ f) {x1 : Int32} {t : zS} {ro : Int32 × zS} (hF : mX12_called  x1 t = some ro) : zM E shM f yX12_called cX12_called 8 none [.ref (za E 0), .int x1] t ro := by
  refine zM_of (by decide) (Nat.le_of_ble_eq_true rfl) (fun C => ?_)
  show zJ E shM C cX12_called RX12 8 f none ro t 0 [(0, .ref (za E 0)), (1, .int x1)] []
  unfold mX12_called at hF
  refine z_aload_n 0 dX12_called_0 rfl rfl ?_
  refine z_geti fi_RX12_240 dX12_called_1 ?_
  refine z_topi (fun v3036 ev3036 => ?_)
  have hF := zlet_at ev3036 hF
  refine z_istore_n (lv' := [(2, .int v3036), (0, .ref (za E 0)), (1, .int x1)]) dX12_called_4 rfl (by decide) rfl ?_
  refine z_aload_n 1 dX12_called_5 rfl rfl ?_
  refine z_geti fi_RX12_227 dX12_called_6 ?_
  refine z_topi (fun v3037 ev3037 => ?_)
  have hF := zlet_at ev3037 hF
  refine z_istore_n (lv' := [(3, .int v3037), (2, .int v3036), (0, .ref (za E 0)), (1, .int x1)]) dX12_called_9 rfl (by decide) rfl ?_
  refine z_aload_n 2 dX12_called_10 rfl rfl ?_
  refine z_geti fi_RX12_247 dX12_called_11 ?_
  refine z_iconst (v := 2) dX12_called_14 (by decide) ?_
  refine z_icmp_ne (tgt := 25) dX12_called_15 (by decide) (fun hc => ?_) (fun hc => ?_)
  · have hF := zif_f hc hF
    refine z_sub [2] rfl ?_
    exact wbX12_called_25 hf   _ hF
  · have hF := zif_t hc hF
    refine z_aload_n 2 dX12_called_18 rfl rfl ?_
    refine z_geti fi_RX12_267 dX12_called_19 ?_
    refine z_if_lt (tgt := 36) dX12_called_22 (by decide) (fun hc => ?_) (fun hc => ?_)
    · have hF := zif_t hc hF
      refine z_aload_n 2 dX12_called_36 rfl rfl ?_
      obtain ⟨r3038, t3039, hc3040, hF⟩ := zbd_at hF
      refine z_callVv (ctX12_next (E := E) (f := f - 1) (by omega) hc3040) yy_X12_next yv_X12_next ob_M_0 lk_RX12_273 (by omega) rfl rfl (Nat.le_of_ble_eq_true rfl) dX12_called_37 ?_
      refine z_aload_n 2 dX12_called_40 rfl rfl ?_
      refine z_getr fr_RX12_49 dX12_called_41 ?_
      refine z_iload_n 3 dX12_called_44 rfl rfl ?_
      obtain ⟨hi3042, hF⟩ := zrd_at hF
      refine z_iald (n := 1600) rfl hi3042 dX12_called_45 ?_
      generalize t3039 14 (Int32.toNatClampNeg x1) = v3041 at hF ⊢
      refine z_bipush (v := 7) dX12_called_46 (by decide) ?_
      refine z_icmp_ne (tgt := 92) dX12_called_48 (by decide) (fun hc => ?_) (fun hc => ?_)
      · have hF := zif_f hc hF
        refine z_sub [2, 3, 1, 0] rfl ?_
        exact wbX12_called_92 hf  x1 v3036 v3037 _ hF
      · have hF := zif_t hc hF
        refine z_aload_n 2 dX12_called_51 rfl rfl ?_
        refine z_geti fi_RX12_247 dX12_called_52 ?_
        refine z_iconst (v := 2) dX12_called_55 (by decide) ?_
        refine z_icmp_ne (tgt := 92) dX12_called_56 (by decide) (fun hc => ?_) (fun hc => ?_)
        · have hF := zif_f hc hF
          refine z_sub [2, 3, 1, 0] rfl ?_
          exact wbX12_called_92 hf  x1 v3036 v3037 _ hF
        · have hF := zif_t hc hF
          refine z_aload_n 2 dX12_called_59 rfl rfl ?_
          refine z_getr fr_RX12_49 dX12_called_60 ?_
          refine z_iload_n 3 dX12_called_63 rfl rfl ?_
          refine z_bipush (v := 8) dX12_called_64 (by decide) ?_
          obtain ⟨hi3043, hF⟩ := zwr_at hF
          refine z_iast (n := 1600) rfl hi3043 dX12_called_66 (fun t3044 et3044 => ?_)
          have hF := hF t3044 et3044
          refine z_aload_n 2 dX12_called_67 rfl rfl ?_
          refine z_getr fr_RX12_55 dX12_called_68 ?_
          refine z_iload_n 3 dX12_called_71 rfl rfl ?_
          refine z_aload_n 2 dX12_called_72 rfl rfl ?_
          refine z_iload_n 1 dX12_called_73 rfl rfl ?_
          obtain ⟨r3045, t3046, hc3047, hF⟩ := zbd_at hF
          refine z_callVi (ctX12_ownOf (E := E) (f := f - 1) (by omega) hc3047) yy_X12_ownOf yv_X12_ownOf ob_M_0 lk_RX12_325 (by omega) rfl rfl (Nat.le_of_ble_eq_true rfl) dX12_called_74 ?_
          obtain ⟨hi3048, hF⟩ := zwr_at hF
          refine z_iast (n := 1600) rfl hi3048 dX12_called_77 (fun t3049 et3049 => ?_)
          have hF := hF t3049 et3049
          refine z_aload_n 2 dX12_called_78 rfl rfl ?_
          refine z_geti fi_RX12_240 dX12_called_79 ?_
          refine z_topi (fun v3050 ev3050 => ?_)
          have hF := zlet_at ev3050 hF
          refine z_istore_n (lv' := [(2, .int v3050), (3, .int v3037), (0, .ref (za E 0)), (1, .int x1)]) dX12_called_82 rfl (by decide) rfl ?_
          refine z_aload_n 2 dX12_called_83 rfl rfl ?_
          refine z_geti fi_RX12_227 dX12_called_84 ?_
          refine z_topi (fun v3051 ev3051 => ?_)
          have hF := zlet_at ev3051 hF
          refine z_istore_n (lv' := [(3, .int v3051), (2, .int v3050), (0, .ref (za E 0)), (1, .int x1)]) dX12_called_87 rfl (by decide) rfl ?_
          refine z_aload_n 2 dX12_called_88 rfl rfl ?_
          obtain ⟨r3052, t3053, hc3054, hF⟩ := zbd_at hF
          refine z_callVv (ctX12_next (E := E) (f := f - 1) (by omega) hc3054) yy_X12_next yv_X12_next ob_M_0 lk_RX12_273 (by omega) rfl rfl (Nat.le_of_ble_eq_true rfl) dX12_called_89 ?_
          refine z_sub [2, 3, 1, 0] rfl ?_
          exact wbX12_called_92 hf  x1 v3050 v3051 _ hF
    · have hF := zif_f hc hF
      refine z_sub [2] rfl ?_
      exact wbX12_called_25 hf   _ hF
-- SessionHouseModel.simple(I)I
theorem dX12_simple_0 : decode cX12_simple 0 = .ok (.aload_n 0, 1) := by decide +kernel
theorem dX12_simple_1 : decode cX12_simple 1 = .ok (.getfield 49, 3) := by decide +kernel
theorem dX12_simple_4 : decode cX12_simple 4 = .ok (.iload_n 1, 1) := by decide +kernel
theorem dX12_simple_5 : decode cX12_simple 5 = .ok (.iaload, 1) := by decide +kernel
theorem dX12_simple_6 : decode cX12_simple 6 = .ok (.istore_n 2, 1) := by decide +kernel
theorem dX12_simple_7 : decode cX12_simple 7 = .ok (.iload_n 2, 1) := by decide +kernel
theorem dX12_simple_8 : decode cX12_simple 8 = .ok (.ifCond .eq 7, 3) := by decide +kernel
theorem dX12_simple_11 : decode cX12_simple 11 = .ok (.aload_n 0, 1) := by decide +kernel
theorem dX12_simple_12 : decode cX12_simple 12 = .ok (.invokevirtual 273, 3) := by decide +kernel
theorem dX12_simple_15 : decode cX12_simple 15 = .ok (.iload_n 2, 1) := by decide +kernel
theorem dX12_simple_16 : decode cX12_simple 16 = .ok (.bipush 7, 2) := by decide +kernel
theorem dX12_simple_18 : decode cX12_simple 18 = .ok (.if_icmp .eq 9, 3) := by decide +kernel
theorem dX12_simple_21 : decode cX12_simple 21 = .ok (.iload_n 2, 1) := by decide +kernel
theorem dX12_simple_22 : decode cX12_simple 22 = .ok (.bipush 9, 2) := by decide +kernel
theorem dX12_simple_24 : decode cX12_simple 24 = .ok (.if_icmp .ne 11, 3) := by decide +kernel
theorem dX12_simple_27 : decode cX12_simple 27 = .ok (.aload_n 0, 1) := by decide +kernel
theorem dX12_simple_28 : decode cX12_simple 28 = .ok (.iload_n 1, 1) := by decide +kernel
theorem dX12_simple_29 : decode cX12_simple 29 = .ok (.invokevirtual 358, 3) := by decide +kernel
theorem dX12_simple_32 : decode cX12_simple 32 = .ok (.goto 130, 3) := by decide +kernel
theorem dX12_simple_35 : decode cX12_simple 35 = .ok (.iload_n 2, 1) := by decide +kernel
theorem dX12_simple_36 : decode cX12_simple 36 = .ok (.bipush 12, 2) := by decide +kernel
theorem dX12_simple_38 : decode cX12_simple 38 = .ok (.if_icmp .ne 16, 3) := by decide +kernel
theorem dX12_simple_41 : decode cX12_simple 41 = .ok (.aload_n 0, 1) := by decide +kernel
theorem dX12_simple_42 : decode cX12_simple 42 = .ok (.getfield 61, 3) := by decide +kernel
theorem dX12_simple_45 : decode cX12_simple 45 = .ok (.iload_n 1, 1) := by decide +kernel
theorem dX12_simple_46 : decode cX12_simple 46 = .ok (.aload_n 0, 1) := by decide +kernel
theorem dX12_simple_47 : decode cX12_simple 47 = .ok (.invokevirtual 361, 3) := by decide +kernel
theorem dX12_simple_50 : decode cX12_simple 50 = .ok (.iastore, 1) := by decide +kernel
theorem dX12_simple_51 : decode cX12_simple 51 = .ok (.goto 111, 3) := by decide +kernel
theorem dX12_simple_54 : decode cX12_simple 54 = .ok (.aload_n 0, 1) := by decide +kernel
theorem dX12_simple_55 : decode cX12_simple 55 = .ok (.getfield 55, 3) := by decide +kernel
theorem dX12_simple_58 : decode cX12_simple 58 = .ok (.iload_n 1, 1) := by decide +kernel
theorem dX12_simple_59 : decode cX12_simple 59 = .ok (.aload_n 0, 1) := by decide +kernel
theorem dX12_simple_60 : decode cX12_simple 60 = .ok (.invokevirtual 331, 3) := by decide +kernel
theorem dX12_simple_63 : decode cX12_simple 63 = .ok (.iastore, 1) := by decide +kernel
theorem dX12_simple_64 : decode cX12_simple 64 = .ok (.iload_n 2, 1) := by decide +kernel
theorem dX12_simple_65 : decode cX12_simple 65 = .ok (.ifCond .ne 27, 3) := by decide +kernel
theorem dX12_simple_68 : decode cX12_simple 68 = .ok (.aload_n 0, 1) := by decide +kernel
theorem dX12_simple_69 : decode cX12_simple 69 = .ok (.aload_n 0, 1) := by decide +kernel
theorem dX12_simple_70 : decode cX12_simple 70 = .ok (.bipush 61, 2) := by decide +kernel
theorem dX12_simple_72 : decode cX12_simple 72 = .ok (.invokevirtual 279, 3) := by decide +kernel
theorem dX12_simple_75 : decode cX12_simple 75 = .ok (.invokevirtual 282, 3) := by decide +kernel
theorem dX12_simple_78 : decode cX12_simple 78 = .ok (.istore_n 3, 1) := by decide +kernel
theorem dX12_simple_79 : decode cX12_simple 79 = .ok (.aload_n 0, 1) := by decide +kernel
theorem dX12_simple_80 : decode cX12_simple 80 = .ok (.getfield 61, 3) := by decide +kernel
theorem dX12_simple_83 : decode cX12_simple 83 = .ok (.iload_n 1, 1) := by decide +kernel
theorem dX12_simple_84 : decode cX12_simple 84 = .ok (.aload_n 0, 1) := by decide +kernel
theorem dX12_simple_85 : decode cX12_simple 85 = .ok (.invokevirtual 361, 3) := by decide +kernel
theorem dX12_simple_88 : decode cX12_simple 88 = .ok (.iastore, 1) := by decide +kernel
theorem dX12_simple_89 : decode cX12_simple 89 = .ok (.goto 73, 3) := by decide +kernel
theorem dX12_simple_92 : decode cX12_simple 92 = .ok (.iload_n 2, 1) := by decide +kernel
theorem dX12_simple_93 : decode cX12_simple 93 = .ok (.iconst 1, 1) := by decide +kernel
theorem dX12_simple_94 : decode cX12_simple 94 = .ok (.if_icmp .ne 16, 3) := by decide +kernel
theorem dX12_simple_97 : decode cX12_simple 97 = .ok (.aload_n 0, 1) := by decide +kernel
theorem dX12_simple_98 : decode cX12_simple 98 = .ok (.getfield 61, 3) := by decide +kernel
theorem dX12_simple_101 : decode cX12_simple 101 = .ok (.iload_n 1, 1) := by decide +kernel
theorem dX12_simple_102 : decode cX12_simple 102 = .ok (.aload_n 0, 1) := by decide +kernel
theorem dX12_simple_103 : decode cX12_simple 103 = .ok (.invokevirtual 361, 3) := by decide +kernel
theorem dX12_simple_106 : decode cX12_simple 106 = .ok (.iastore, 1) := by decide +kernel
theorem dX12_simple_107 : decode cX12_simple 107 = .ok (.goto 55, 3) := by decide +kernel
theorem dX12_simple_110 : decode cX12_simple 110 = .ok (.iload_n 2, 1) := by decide +kernel
theorem dX12_simple_111 : decode cX12_simple 111 = .ok (.iconst 5, 1) := by decide +kernel
theorem dX12_simple_112 : decode cX12_simple 112 = .ok (.if_icmp .ne 34, 3) := by decide +kernel
theorem dX12_simple_115 : decode cX12_simple 115 = .ok (.aload_n 0, 1) := by decide +kernel
theorem dX12_simple_116 : decode cX12_simple 116 = .ok (.getfield 58, 3) := by decide +kernel
theorem dX12_simple_119 : decode cX12_simple 119 = .ok (.iload_n 1, 1) := by decide +kernel
theorem dX12_simple_120 : decode cX12_simple 120 = .ok (.aload_n 0, 1) := by decide +kernel
theorem dX12_simple_121 : decode cX12_simple 121 = .ok (.getfield 240, 3) := by decide +kernel
theorem dX12_simple_124 : decode cX12_simple 124 = .ok (.iastore, 1) := by decide +kernel
theorem dX12_simple_125 : decode cX12_simple 125 = .ok (.aload_n 0, 1) := by decide +kernel
theorem dX12_simple_126 : decode cX12_simple 126 = .ok (.aload_n 0, 1) := by decide +kernel
theorem dX12_simple_127 : decode cX12_simple 127 = .ok (.getfield 247, 3) := by decide +kernel
theorem dX12_simple_130 : decode cX12_simple 130 = .ok (.iconst 2, 1) := by decide +kernel
theorem dX12_simple_131 : decode cX12_simple 131 = .ok (.if_icmp .ne 7, 3) := by decide +kernel
theorem dX12_simple_134 : decode cX12_simple 134 = .ok (.iconst 1, 1) := by decide +kernel
theorem dX12_simple_135 : decode cX12_simple 135 = .ok (.goto 4, 3) := by decide +kernel
theorem dX12_simple_138 : decode cX12_simple 138 = .ok (.iconst 0, 1) := by decide +kernel
theorem dX12_simple_139 : decode cX12_simple 139 = .ok (.invokevirtual 282, 3) := by decide +kernel
theorem dX12_simple_142 : decode cX12_simple 142 = .ok (.istore_n 3, 1) := by decide +kernel
theorem dX12_simple_143 : decode cX12_simple 143 = .ok (.goto 19, 3) := by decide +kernel
theorem dX12_simple_146 : decode cX12_simple 146 = .ok (.iload_n 2, 1) := by decide +kernel
theorem dX12_simple_147 : decode cX12_simple 147 = .ok (.bipush 13, 2) := by decide +kernel
theorem dX12_simple_149 : decode cX12_simple 149 = .ok (.if_icmp .eq 13, 3) := by decide +kernel
theorem dX12_simple_152 : decode cX12_simple 152 = .ok (.aload_n 0, 1) := by decide +kernel
theorem dX12_simple_153 : decode cX12_simple 153 = .ok (.getfield 58, 3) := by decide +kernel
theorem dX12_simple_156 : decode cX12_simple 156 = .ok (.iload_n 1, 1) := by decide +kernel
theorem dX12_simple_157 : decode cX12_simple 157 = .ok (.aload_n 0, 1) := by decide +kernel
theorem dX12_simple_158 : decode cX12_simple 158 = .ok (.invokevirtual 331, 3) := by decide +kernel
theorem dX12_simple_161 : decode cX12_simple 161 = .ok (.iastore, 1) := by decide +kernel
theorem dX12_simple_162 : decode cX12_simple 162 = .ok (.aload_n 0, 1) := by decide +kernel
theorem dX12_simple_163 : decode cX12_simple 163 = .ok (.aload_n 0, 1) := by decide +kernel
theorem dX12_simple_164 : decode cX12_simple 164 = .ok (.bipush 59, 2) := by decide +kernel
theorem dX12_simple_166 : decode cX12_simple 166 = .ok (.invokevirtual 279, 3) := by decide +kernel
theorem dX12_simple_169 : decode cX12_simple 169 = .ok (.invokevirtual 282, 3) := by decide +kernel
theorem dX12_simple_172 : decode cX12_simple 172 = .ok (.istore_n 3, 1) := by decide +kernel
theorem dX12_simple_173 : decode cX12_simple 173 = .ok (.iload_n 1, 1) := by decide +kernel
theorem dX12_simple_174 : decode cX12_simple 174 = .ok (.ireturn, 1) := by decide +kernel
def bX12_simple_162 (x1 : Int32) (t : zS) : zR := zbd (mX12_isSign 59 t) fun r3055 t3056 => zbd (mX12_passes r3055 t3056) fun r3058 t3059 => some (x1, t3059)
def bX12_simple_27 (x1 : Int32) (t : zS) : zR := zbd (mX12_called x1 t) fun r3061 t3062 => bX12_simple_162  x1 t3062
def bX12_simple_139 (x1 : Int32) (y0 : Int32) (t : zS) : zR := zbd (mX12_passes y0 t) fun r3064 t3065 => bX12_simple_162  x1 t3065
def bX12_simple_15 (x1 : Int32) (x2 : Int32) (t : zS) : zR := if x2 = 7 then bX12_simple_27  x1 t else if x2 = 9 then bX12_simple_27  x1 t else if x2 = 12 then zbd (mX12_told  t) fun r3095 t3096 => zwr t3096 18 1600 x1 r3095 fun t3099 => bX12_simple_162  x1 t3099 else zbd (mX12_own  t) fun r3067 t3068 => zwr t3068 16 1600 x1 r3067 fun t3071 => if x2 = 0 then zbd (mX12_isSign 61 t3071) fun r3084 t3085 => zbd (mX12_passes r3084 t3085) fun r3087 t3088 => zbd (mX12_told  t3088) fun r3090 t3091 => zwr t3091 18 1600 x1 r3090 fun t3094 => bX12_simple_162  x1 t3094 else if x2 = 1 then zbd (mX12_told  t3071) fun r3079 t3080 => zwr t3080 18 1600 x1 r3079 fun t3083 => bX12_simple_162  x1 t3083 else if x2 = 5 then zwr t3071 17 1600 x1 (t3071 0 8) fun t3078 => if (t3078 0 5) = 2 then bX12_simple_139  x1 1 t3078 else bX12_simple_139  x1 0 t3078 else if x2 = 13 then bX12_simple_162  x1 t3071 else zbd (mX12_own  t3071) fun r3072 t3073 => zwr t3073 17 1600 x1 r3072 fun t3076 => bX12_simple_162  x1 t3076
def mX12_simple (x1 : Int32) (t : zS) : zR := zrd t 14 1600 x1 fun v3100 => if v3100 = 0 then bX12_simple_15  x1 v3100 t else zbd (mX12_next  t) fun r3102 t3103 => bX12_simple_15  x1 v3100 t3103
set_option maxHeartbeats 4000000 in
set_option maxRecDepth 20000 in
theorem wbX12_simple_162 {E : zE} {C : zC} {f : Nat} {ro : Int32 × zS} (hf : 309 ≤ f) (x1 : Int32) (t : zS) (hF : bX12_simple_162  x1 t = some ro) : zJ E shM C cX12_simple RX12 4 f (some .int) ro t 162 [(0, .ref (za E 0)), (1, .int x1)] [] := by
  unfold bX12_simple_162 at hF
  refine z_aload_n 0 dX12_simple_162 rfl rfl ?_
  refine z_aload_n 0 dX12_simple_163 rfl rfl ?_
  refine z_bipush (v := 59) dX12_simple_164 (by decide) ?_
  obtain ⟨r3055, t3056, hc3057, hF⟩ := zbd_at hF
  refine z_callVi (ctX12_isSign (E := E) (f := f - 1) (by omega) hc3057) yy_X12_isSign yv_X12_isSign ob_M_0 lk_RX12_279 (by omega) rfl rfl (Nat.le_of_ble_eq_true rfl) dX12_simple_166 ?_
  obtain ⟨r3058, t3059, hc3060, hF⟩ := zbd_at hF
  refine z_callVi (ctX12_passes (E := E) (f := f - 1) (by omega) hc3060) yy_X12_passes yv_X12_passes ob_M_0 lk_RX12_282 (by omega) rfl rfl (Nat.le_of_ble_eq_true rfl) dX12_simple_169 ?_
  refine z_istore_n (lv' := [(3, .int r3058), (0, .ref (za E 0)), (1, .int x1)]) dX12_simple_172 rfl (by decide) rfl ?_
  refine z_iload_n 2 dX12_simple_173 rfl rfl ?_
  exact z_iret hF dX12_simple_174
set_option maxHeartbeats 4000000 in
set_option maxRecDepth 20000 in
theorem wbX12_simple_27 {E : zE} {C : zC} {f : Nat} {ro : Int32 × zS} (hf : 309 ≤ f) (x1 : Int32) (t : zS) (hF : bX12_simple_27  x1 t = some ro) : zJ E shM C cX12_simple RX12 4 f (some .int) ro t 27 [(0, .ref (za E 0)), (1, .int x1)] [] := by
  unfold bX12_simple_27 at hF
  refine z_aload_n 0 dX12_simple_27 rfl rfl ?_
  refine z_iload_n 1 dX12_simple_28 rfl rfl ?_
  obtain ⟨r3061, t3062, hc3063, hF⟩ := zbd_at hF
  refine z_callVv (ctX12_called (E := E) (f := f - 1) (by omega) hc3063) yy_X12_called yv_X12_called ob_M_0 lk_RX12_358 (by omega) rfl rfl (Nat.le_of_ble_eq_true rfl) dX12_simple_29 ?_
  refine z_goto (tgt := 162) dX12_simple_32 (by decide) ?_
  exact wbX12_simple_162 hf  x1 _ hF
set_option maxHeartbeats 4000000 in
set_option maxRecDepth 20000 in
theorem wbX12_simple_139 {E : zE} {C : zC} {f : Nat} {ro : Int32 × zS} (hf : 309 ≤ f) (x1 : Int32) (y0 : Int32) (t : zS) (hF : bX12_simple_139  x1 y0 t = some ro) : zJ E shM C cX12_simple RX12 4 f (some .int) ro t 139 [(0, .ref (za E 0)), (1, .int x1)] [.int y0, .ref (za E 0)] := by
  unfold bX12_simple_139 at hF
  obtain ⟨r3064, t3065, hc3066, hF⟩ := zbd_at hF
  refine z_callVi (ctX12_passes (E := E) (f := f - 1) (by omega) hc3066) yy_X12_passes yv_X12_passes ob_M_0 lk_RX12_282 (by omega) rfl rfl (Nat.le_of_ble_eq_true rfl) dX12_simple_139 ?_
  refine z_istore_n (lv' := [(3, .int r3064), (0, .ref (za E 0)), (1, .int x1)]) dX12_simple_142 rfl (by decide) rfl ?_
  refine z_goto (tgt := 162) dX12_simple_143 (by decide) ?_
  refine z_sub [1, 2] rfl ?_
  exact wbX12_simple_162 hf  x1 _ hF
set_option maxHeartbeats 4000000 in
set_option maxRecDepth 20000 in
theorem wbX12_simple_15 {E : zE} {C : zC} {f : Nat} {ro : Int32 × zS} (hf : 309 ≤ f) (x1 : Int32) (x2 : Int32) (t : zS) (hF : bX12_simple_15  x1 x2 t = some ro) : zJ E shM C cX12_simple RX12 4 f (some .int) ro t 15 [(0, .ref (za E 0)), (1, .int x1), (2, .int x2)] [] := by
  unfold bX12_simple_15 at hF
  refine z_iload_n 2 dX12_simple_15 rfl rfl ?_
  refine z_bipush (v := 7) dX12_simple_16 (by decide) ?_
  refine z_icmp_eq (tgt := 27) dX12_simple_18 (by decide) (fun hc => ?_) (fun hc => ?_)
  · have hF := zif_t hc hF
    refine z_sub [0, 1] rfl ?_
    exact wbX12_simple_27 hf  x1 _ hF
  · have hF := zif_f hc hF
    refine z_iload_n 2 dX12_simple_21 rfl rfl ?_
    refine z_bipush (v := 9) dX12_simple_22 (by decide) ?_
    refine z_icmp_ne (tgt := 35) dX12_simple_24 (by decide) (fun hc => ?_) (fun hc => ?_)
    · have hF := zif_f hc hF
      refine z_iload_n 2 dX12_simple_35 rfl rfl ?_
      refine z_bipush (v := 12) dX12_simple_36 (by decide) ?_
      refine z_icmp_ne (tgt := 54) dX12_simple_38 (by decide) (fun hc => ?_) (fun hc => ?_)
      · have hF := zif_f hc hF
        refine z_aload_n 0 dX12_simple_54 rfl rfl ?_
        refine z_getr fr_RX12_55 dX12_simple_55 ?_
        refine z_iload_n 1 dX12_simple_58 rfl rfl ?_
        refine z_aload_n 0 dX12_simple_59 rfl rfl ?_
        obtain ⟨r3067, t3068, hc3069, hF⟩ := zbd_at hF
        refine z_callVi (ctX12_own (E := E) (f := f - 1) (by omega) hc3069) yy_X12_own yv_X12_own ob_M_0 lk_RX12_331 (by omega) rfl rfl (Nat.le_of_ble_eq_true rfl) dX12_simple_60 ?_
        obtain ⟨hi3070, hF⟩ := zwr_at hF
        refine z_iast (n := 1600) rfl hi3070 dX12_simple_63 (fun t3071 et3071 => ?_)
        have hF := hF t3071 et3071
        refine z_iload_n 2 dX12_simple_64 rfl rfl ?_
        refine z_if_ne (tgt := 92) dX12_simple_65 (by decide) (fun hc => ?_) (fun hc => ?_)
        · have hF := zif_f hc hF
          refine z_iload_n 2 dX12_simple_92 rfl rfl ?_
          refine z_iconst (v := 1) dX12_simple_93 (by decide) ?_
          refine z_icmp_ne (tgt := 110) dX12_simple_94 (by decide) (fun hc => ?_) (fun hc => ?_)
          · have hF := zif_f hc hF
            refine z_iload_n 2 dX12_simple_110 rfl rfl ?_
            refine z_iconst (v := 5) dX12_simple_111 (by decide) ?_
            refine z_icmp_ne (tgt := 146) dX12_simple_112 (by decide) (fun hc => ?_) (fun hc => ?_)
            · have hF := zif_f hc hF
              refine z_iload_n 2 dX12_simple_146 rfl rfl ?_
              refine z_bipush (v := 13) dX12_simple_147 (by decide) ?_
              refine z_icmp_eq (tgt := 162) dX12_simple_149 (by decide) (fun hc => ?_) (fun hc => ?_)
              · have hF := zif_t hc hF
                refine z_sub [0, 1] rfl ?_
                exact wbX12_simple_162 hf  x1 _ hF
              · have hF := zif_f hc hF
                refine z_aload_n 0 dX12_simple_152 rfl rfl ?_
                refine z_getr fr_RX12_58 dX12_simple_153 ?_
                refine z_iload_n 1 dX12_simple_156 rfl rfl ?_
                refine z_aload_n 0 dX12_simple_157 rfl rfl ?_
                obtain ⟨r3072, t3073, hc3074, hF⟩ := zbd_at hF
                refine z_callVi (ctX12_own (E := E) (f := f - 1) (by omega) hc3074) yy_X12_own yv_X12_own ob_M_0 lk_RX12_331 (by omega) rfl rfl (Nat.le_of_ble_eq_true rfl) dX12_simple_158 ?_
                obtain ⟨hi3075, hF⟩ := zwr_at hF
                refine z_iast (n := 1600) rfl hi3075 dX12_simple_161 (fun t3076 et3076 => ?_)
                have hF := hF t3076 et3076
                refine z_sub [0, 1] rfl ?_
                exact wbX12_simple_162 hf  x1 _ hF
            · have hF := zif_t hc hF
              refine z_aload_n 0 dX12_simple_115 rfl rfl ?_
              refine z_getr fr_RX12_58 dX12_simple_116 ?_
              refine z_iload_n 1 dX12_simple_119 rfl rfl ?_
              refine z_aload_n 0 dX12_simple_120 rfl rfl ?_
              refine z_geti fi_RX12_240 dX12_simple_121 ?_
              obtain ⟨hi3077, hF⟩ := zwr_at hF
              refine z_iast (n := 1600) rfl hi3077 dX12_simple_124 (fun t3078 et3078 => ?_)
              have hF := hF t3078 et3078
              refine z_aload_n 0 dX12_simple_125 rfl rfl ?_
              refine z_aload_n 0 dX12_simple_126 rfl rfl ?_
              refine z_geti fi_RX12_247 dX12_simple_127 ?_
              refine z_iconst (v := 2) dX12_simple_130 (by decide) ?_
              refine z_icmp_ne (tgt := 138) dX12_simple_131 (by decide) (fun hc => ?_) (fun hc => ?_)
              · have hF := zif_f hc hF
                refine z_iconst (v := 0) dX12_simple_138 (by decide) ?_
                refine z_sub [0, 1] rfl ?_
                exact wbX12_simple_139 hf  x1 0 _ hF
              · have hF := zif_t hc hF
                refine z_iconst (v := 1) dX12_simple_134 (by decide) ?_
                refine z_goto (tgt := 139) dX12_simple_135 (by decide) ?_
                refine z_sub [0, 1] rfl ?_
                exact wbX12_simple_139 hf  x1 1 _ hF
          · have hF := zif_t hc hF
            refine z_aload_n 0 dX12_simple_97 rfl rfl ?_
            refine z_getr fr_RX12_61 dX12_simple_98 ?_
            refine z_iload_n 1 dX12_simple_101 rfl rfl ?_
            refine z_aload_n 0 dX12_simple_102 rfl rfl ?_
            obtain ⟨r3079, t3080, hc3081, hF⟩ := zbd_at hF
            refine z_callVi (ctX12_told (E := E) (f := f - 1) (by omega) hc3081) yy_X12_told yv_X12_told ob_M_0 lk_RX12_361 (by omega) rfl rfl (Nat.le_of_ble_eq_true rfl) dX12_simple_103 ?_
            obtain ⟨hi3082, hF⟩ := zwr_at hF
            refine z_iast (n := 1600) rfl hi3082 dX12_simple_106 (fun t3083 et3083 => ?_)
            have hF := hF t3083 et3083
            refine z_goto (tgt := 162) dX12_simple_107 (by decide) ?_
            refine z_sub [0, 1] rfl ?_
            exact wbX12_simple_162 hf  x1 _ hF
        · have hF := zif_t hc hF
          refine z_aload_n 0 dX12_simple_68 rfl rfl ?_
          refine z_aload_n 0 dX12_simple_69 rfl rfl ?_
          refine z_bipush (v := 61) dX12_simple_70 (by decide) ?_
          obtain ⟨r3084, t3085, hc3086, hF⟩ := zbd_at hF
          refine z_callVi (ctX12_isSign (E := E) (f := f - 1) (by omega) hc3086) yy_X12_isSign yv_X12_isSign ob_M_0 lk_RX12_279 (by omega) rfl rfl (Nat.le_of_ble_eq_true rfl) dX12_simple_72 ?_
          obtain ⟨r3087, t3088, hc3089, hF⟩ := zbd_at hF
          refine z_callVi (ctX12_passes (E := E) (f := f - 1) (by omega) hc3089) yy_X12_passes yv_X12_passes ob_M_0 lk_RX12_282 (by omega) rfl rfl (Nat.le_of_ble_eq_true rfl) dX12_simple_75 ?_
          refine z_istore_n (lv' := [(3, .int r3087), (0, .ref (za E 0)), (1, .int x1), (2, .int x2)]) dX12_simple_78 rfl (by decide) rfl ?_
          refine z_aload_n 1 dX12_simple_79 rfl rfl ?_
          refine z_getr fr_RX12_61 dX12_simple_80 ?_
          refine z_iload_n 2 dX12_simple_83 rfl rfl ?_
          refine z_aload_n 1 dX12_simple_84 rfl rfl ?_
          obtain ⟨r3090, t3091, hc3092, hF⟩ := zbd_at hF
          refine z_callVi (ctX12_told (E := E) (f := f - 1) (by omega) hc3092) yy_X12_told yv_X12_told ob_M_0 lk_RX12_361 (by omega) rfl rfl (Nat.le_of_ble_eq_true rfl) dX12_simple_85 ?_
          obtain ⟨hi3093, hF⟩ := zwr_at hF
          refine z_iast (n := 1600) rfl hi3093 dX12_simple_88 (fun t3094 et3094 => ?_)
          have hF := hF t3094 et3094
          refine z_goto (tgt := 162) dX12_simple_89 (by decide) ?_
          refine z_sub [1, 2] rfl ?_
          exact wbX12_simple_162 hf  x1 _ hF
      · have hF := zif_t hc hF
        refine z_aload_n 0 dX12_simple_41 rfl rfl ?_
        refine z_getr fr_RX12_61 dX12_simple_42 ?_
        refine z_iload_n 1 dX12_simple_45 rfl rfl ?_
        refine z_aload_n 0 dX12_simple_46 rfl rfl ?_
        obtain ⟨r3095, t3096, hc3097, hF⟩ := zbd_at hF
        refine z_callVi (ctX12_told (E := E) (f := f - 1) (by omega) hc3097) yy_X12_told yv_X12_told ob_M_0 lk_RX12_361 (by omega) rfl rfl (Nat.le_of_ble_eq_true rfl) dX12_simple_47 ?_
        obtain ⟨hi3098, hF⟩ := zwr_at hF
        refine z_iast (n := 1600) rfl hi3098 dX12_simple_50 (fun t3099 et3099 => ?_)
        have hF := hF t3099 et3099
        refine z_goto (tgt := 162) dX12_simple_51 (by decide) ?_
        refine z_sub [0, 1] rfl ?_
        exact wbX12_simple_162 hf  x1 _ hF
    · have hF := zif_t hc hF
      refine z_sub [0, 1] rfl ?_
      exact wbX12_simple_27 hf  x1 _ hF
set_option maxHeartbeats 4000000 in
set_option maxRecDepth 20000 in
theorem ctX12_simple {E : zE} {f : Nat} (hf : 309 ≤ f) {x1 : Int32} {t : zS} {ro : Int32 × zS} (hF : mX12_simple  x1 t = some ro) : zM E shM f yX12_simple cX12_simple 4 (some .int) [.ref (za E 0), .int x1] t ro := by
  refine zM_of (by decide) (Nat.le_of_ble_eq_true rfl) (fun C => ?_)
  show zJ E shM C cX12_simple RX12 4 f (some .int) ro t 0 [(0, .ref (za E 0)), (1, .int x1)] []
  unfold mX12_simple at hF
  refine z_aload_n 0 dX12_simple_0 rfl rfl ?_
  refine z_getr fr_RX12_49 dX12_simple_1 ?_
  refine z_iload_n 1 dX12_simple_4 rfl rfl ?_
  obtain ⟨hi3101, hF⟩ := zrd_at hF
  refine z_iald (n := 1600) rfl hi3101 dX12_simple_5 ?_
  generalize t 14 (Int32.toNatClampNeg x1) = v3100 at hF ⊢
  refine z_istore_n (lv' := [(2, .int v3100), (0, .ref (za E 0)), (1, .int x1)]) dX12_simple_6 rfl (by decide) rfl ?_
  refine z_iload_n 0 dX12_simple_7 rfl rfl ?_
  refine z_if_eq (tgt := 15) dX12_simple_8 (by decide) (fun hc => ?_) (fun hc => ?_)
  · have hF := zif_t hc hF
    refine z_sub [1, 2, 0] rfl ?_
    exact wbX12_simple_15 hf  x1 v3100 _ hF
  · have hF := zif_f hc hF
    refine z_aload_n 1 dX12_simple_11 rfl rfl ?_
    obtain ⟨r3102, t3103, hc3104, hF⟩ := zbd_at hF
    refine z_callVv (ctX12_next (E := E) (f := f - 1) (by omega) hc3104) yy_X12_next yv_X12_next ob_M_0 lk_RX12_273 (by omega) rfl rfl (Nat.le_of_ble_eq_true rfl) dX12_simple_12 ?_
    refine z_sub [1, 2, 0] rfl ?_
    exact wbX12_simple_15 hf  x1 v3100 _ hF
