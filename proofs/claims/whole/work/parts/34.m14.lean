-- SessionHouseModel.typeOfId(I)I
theorem dX12_typeOfId_0 : decode cX12_typeOfId 0 = .ok (.iconst 0, 1) := by decide +kernel
theorem dX12_typeOfId_1 : decode cX12_typeOfId 1 = .ok (.istore_n 2, 1) := by decide +kernel
theorem dX12_typeOfId_2 : decode cX12_typeOfId 2 = .ok (.iload_n 2, 1) := by decide +kernel
theorem dX12_typeOfId_3 : decode cX12_typeOfId 3 = .ok (.aload_n 0, 1) := by decide +kernel
theorem dX12_typeOfId_4 : decode cX12_typeOfId 4 = .ok (.getfield 388, 3) := by decide +kernel
theorem dX12_typeOfId_7 : decode cX12_typeOfId 7 = .ok (.if_icmp .ge 21, 3) := by decide +kernel
theorem dX12_typeOfId_10 : decode cX12_typeOfId 10 = .ok (.aload_n 0, 1) := by decide +kernel
theorem dX12_typeOfId_11 : decode cX12_typeOfId 11 = .ok (.getfield 40, 3) := by decide +kernel
theorem dX12_typeOfId_14 : decode cX12_typeOfId 14 = .ok (.iload_n 2, 1) := by decide +kernel
theorem dX12_typeOfId_15 : decode cX12_typeOfId 15 = .ok (.iaload, 1) := by decide +kernel
theorem dX12_typeOfId_16 : decode cX12_typeOfId 16 = .ok (.iload_n 1, 1) := by decide +kernel
theorem dX12_typeOfId_17 : decode cX12_typeOfId 17 = .ok (.if_icmp .ne 5, 3) := by decide +kernel
theorem dX12_typeOfId_20 : decode cX12_typeOfId 20 = .ok (.iload_n 2, 1) := by decide +kernel
theorem dX12_typeOfId_21 : decode cX12_typeOfId 21 = .ok (.ireturn, 1) := by decide +kernel
theorem dX12_typeOfId_22 : decode cX12_typeOfId 22 = .ok (.iinc 2 1, 3) := by decide +kernel
theorem dX12_typeOfId_25 : decode cX12_typeOfId 25 = .ok (.goto (-23), 3) := by decide +kernel
theorem dX12_typeOfId_28 : decode cX12_typeOfId 28 = .ok (.iconst (-1), 1) := by decide +kernel
theorem dX12_typeOfId_29 : decode cX12_typeOfId 29 = .ok (.ireturn, 1) := by decide +kernel
def bX12_typeOfId_2 (k2 : Int32 → Int32 → zS → zR) (x1 : Int32) (x2 : Int32) (t : zS) : zR := if (t 0 22) ≤ x2 then some ((-1), t) else zrd t 11 400 x2 fun v3404 => if v3404 = x1 then some (x2, t) else zlet (x2 + 1) fun v3406 => k2 x1 v3406 t
def lX12_typeOfId_2 : Nat → Int32 → Int32 → zS → zR
  | 0, _, _, _ => none
  | fu + 1, x1, x2, t => bX12_typeOfId_2 (lX12_typeOfId_2  fu) x1 x2 t
def mX12_typeOfId (x1 : Int32) (t : zS) : zR := lX12_typeOfId_2  zFU x1 0 t
set_option maxHeartbeats 4000000 in
set_option maxRecDepth 20000 in
theorem wbX12_typeOfId_2 {E : zE} {C : zC} {f : Nat} {ro : Int32 × zS} (hf : 1 ≤ f) (k2 : Int32 → Int32 → zS → zR) (hk2 : ∀ (x1 x2 : Int32) (t : zS), k2 x1 x2 t = some ro → zJ E shM C cX12_typeOfId RX12 3 f (some .int) ro t 2 [(0, .ref (za E 0)), (1, .int x1), (2, .int x2)] []) (x1 : Int32) (x2 : Int32) (t : zS) (hF : bX12_typeOfId_2 k2 x1 x2 t = some ro) : zJ E shM C cX12_typeOfId RX12 3 f (some .int) ro t 2 [(0, .ref (za E 0)), (1, .int x1), (2, .int x2)] [] := by
  unfold bX12_typeOfId_2 at hF
  refine z_iload_n 2 dX12_typeOfId_2 rfl rfl ?_
  refine z_aload_n 0 dX12_typeOfId_3 rfl rfl ?_
  refine z_geti fi_RX12_388 dX12_typeOfId_4 ?_
  refine z_icmp_ge (tgt := 28) dX12_typeOfId_7 (by decide) (fun hc => ?_) (fun hc => ?_)
  · have hF := zif_t hc hF
    refine z_iconst (v := (-1)) dX12_typeOfId_28 (by decide) ?_
    exact z_iret hF dX12_typeOfId_29
  · have hF := zif_f hc hF
    refine z_aload_n 0 dX12_typeOfId_10 rfl rfl ?_
    refine z_getr fr_RX12_40 dX12_typeOfId_11 ?_
    refine z_iload_n 2 dX12_typeOfId_14 rfl rfl ?_
    obtain ⟨hi3405, hF⟩ := zrd_at hF
    refine z_iald (n := 400) rfl hi3405 dX12_typeOfId_15 ?_
    generalize t 11 (Int32.toNatClampNeg x2) = v3404 at hF ⊢
    refine z_iload_n 1 dX12_typeOfId_16 rfl rfl ?_
    refine z_icmp_ne (tgt := 22) dX12_typeOfId_17 (by decide) (fun hc => ?_) (fun hc => ?_)
    · have hF := zif_f hc hF
      obtain ⟨v3406, ev3406⟩ : ∃ y : Int32, y = (x2 + 1) := ⟨_, rfl⟩
      have hF := zlet_at ev3406 hF
      refine z_iinc (v := v3406) (lv' := [(2, .int v3406), (0, .ref (za E 0)), (1, .int x1)]) (k := 2) dX12_typeOfId_22 rfl (by rw [ev3406]; rfl) (by decide) rfl ?_
      refine z_goto (tgt := 2) dX12_typeOfId_25 (by decide) ?_
      refine z_sub [1, 2, 0] rfl ?_
      exact hk2 x1 v3406 _ hF
    · have hF := zif_t hc hF
      refine z_iload_n 2 dX12_typeOfId_20 rfl rfl ?_
      exact z_iret hF dX12_typeOfId_21
set_option maxHeartbeats 4000000 in
set_option maxRecDepth 20000 in
theorem wlX12_typeOfId_2 {E : zE} {C : zC} {f : Nat} {ro : Int32 × zS} (hf : 1 ≤ f) (fu : Nat) : ∀ (x1 x2 : Int32) (t : zS), lX12_typeOfId_2  fu x1 x2 t = some ro → zJ E shM C cX12_typeOfId RX12 3 f (some .int) ro t 2 [(0, .ref (za E 0)), (1, .int x1), (2, .int x2)] [] := by
  induction fu with
  | zero => intro x1 x2 t hF; cases hF
  | succ fu ih => intro x1 x2 t hF; exact wbX12_typeOfId_2 hf (lX12_typeOfId_2  fu) ih x1 x2 t hF
set_option maxHeartbeats 4000000 in
set_option maxRecDepth 20000 in
theorem ctX12_typeOfId {E : zE} {f : Nat} (hf : 1 ≤ f) {x1 : Int32} {t : zS} {ro : Int32 × zS} (hF : mX12_typeOfId  x1 t = some ro) : zM E shM f yX12_typeOfId cX12_typeOfId 3 (some .int) [.ref (za E 0), .int x1] t ro := by
  refine zM_of (by decide) (Nat.le_of_ble_eq_true rfl) (fun C => ?_)
  show zJ E shM C cX12_typeOfId RX12 3 f (some .int) ro t 0 [(0, .ref (za E 0)), (1, .int x1)] []
  unfold mX12_typeOfId at hF
  refine z_iconst (v := 0) dX12_typeOfId_0 (by decide) ?_
  refine z_istore_n (lv' := [(2, .int 0), (0, .ref (za E 0)), (1, .int x1)]) dX12_typeOfId_1 rfl (by decide) rfl ?_
  refine z_sub [1, 2, 0] rfl ?_
  exact wlX12_typeOfId_2 hf  zFU x1 0 _ hF
-- SessionHouseModel.procOfId(I)I
theorem dX12_procOfId_0 : decode cX12_procOfId 0 = .ok (.iconst 0, 1) := by decide +kernel
theorem dX12_procOfId_1 : decode cX12_procOfId 1 = .ok (.istore_n 2, 1) := by decide +kernel
theorem dX12_procOfId_2 : decode cX12_procOfId 2 = .ok (.iload_n 2, 1) := by decide +kernel
theorem dX12_procOfId_3 : decode cX12_procOfId 3 = .ok (.aload_n 0, 1) := by decide +kernel
theorem dX12_procOfId_4 : decode cX12_procOfId 4 = .ok (.getfield 328, 3) := by decide +kernel
theorem dX12_procOfId_7 : decode cX12_procOfId 7 = .ok (.if_icmp .ge 21, 3) := by decide +kernel
theorem dX12_procOfId_10 : decode cX12_procOfId 10 = .ok (.aload_n 0, 1) := by decide +kernel
theorem dX12_procOfId_11 : decode cX12_procOfId 11 = .ok (.getfield 91, 3) := by decide +kernel
theorem dX12_procOfId_14 : decode cX12_procOfId 14 = .ok (.iload_n 2, 1) := by decide +kernel
theorem dX12_procOfId_15 : decode cX12_procOfId 15 = .ok (.iaload, 1) := by decide +kernel
theorem dX12_procOfId_16 : decode cX12_procOfId 16 = .ok (.iload_n 1, 1) := by decide +kernel
theorem dX12_procOfId_17 : decode cX12_procOfId 17 = .ok (.if_icmp .ne 5, 3) := by decide +kernel
theorem dX12_procOfId_20 : decode cX12_procOfId 20 = .ok (.iload_n 2, 1) := by decide +kernel
theorem dX12_procOfId_21 : decode cX12_procOfId 21 = .ok (.ireturn, 1) := by decide +kernel
theorem dX12_procOfId_22 : decode cX12_procOfId 22 = .ok (.iinc 2 1, 3) := by decide +kernel
theorem dX12_procOfId_25 : decode cX12_procOfId 25 = .ok (.goto (-23), 3) := by decide +kernel
theorem dX12_procOfId_28 : decode cX12_procOfId 28 = .ok (.iconst (-1), 1) := by decide +kernel
theorem dX12_procOfId_29 : decode cX12_procOfId 29 = .ok (.ireturn, 1) := by decide +kernel
def bX12_procOfId_2 (k2 : Int32 → Int32 → zS → zR) (x1 : Int32) (x2 : Int32) (t : zS) : zR := if (t 0 44) ≤ x2 then some ((-1), t) else zrd t 28 300 x2 fun v3407 => if v3407 = x1 then some (x2, t) else zlet (x2 + 1) fun v3409 => k2 x1 v3409 t
def lX12_procOfId_2 : Nat → Int32 → Int32 → zS → zR
  | 0, _, _, _ => none
  | fu + 1, x1, x2, t => bX12_procOfId_2 (lX12_procOfId_2  fu) x1 x2 t
def mX12_procOfId (x1 : Int32) (t : zS) : zR := lX12_procOfId_2  zFU x1 0 t
set_option maxHeartbeats 4000000 in
set_option maxRecDepth 20000 in
theorem wbX12_procOfId_2 {E : zE} {C : zC} {f : Nat} {ro : Int32 × zS} (hf : 1 ≤ f) (k2 : Int32 → Int32 → zS → zR) (hk2 : ∀ (x1 x2 : Int32) (t : zS), k2 x1 x2 t = some ro → zJ E shM C cX12_procOfId RX12 3 f (some .int) ro t 2 [(0, .ref (za E 0)), (1, .int x1), (2, .int x2)] []) (x1 : Int32) (x2 : Int32) (t : zS) (hF : bX12_procOfId_2 k2 x1 x2 t = some ro) : zJ E shM C cX12_procOfId RX12 3 f (some .int) ro t 2 [(0, .ref (za E 0)), (1, .int x1), (2, .int x2)] [] := by
  unfold bX12_procOfId_2 at hF
  refine z_iload_n 2 dX12_procOfId_2 rfl rfl ?_
  refine z_aload_n 0 dX12_procOfId_3 rfl rfl ?_
  refine z_geti fi_RX12_328 dX12_procOfId_4 ?_
  refine z_icmp_ge (tgt := 28) dX12_procOfId_7 (by decide) (fun hc => ?_) (fun hc => ?_)
  · have hF := zif_t hc hF
    refine z_iconst (v := (-1)) dX12_procOfId_28 (by decide) ?_
    exact z_iret hF dX12_procOfId_29
  · have hF := zif_f hc hF
    refine z_aload_n 0 dX12_procOfId_10 rfl rfl ?_
    refine z_getr fr_RX12_91 dX12_procOfId_11 ?_
    refine z_iload_n 2 dX12_procOfId_14 rfl rfl ?_
    obtain ⟨hi3408, hF⟩ := zrd_at hF
    refine z_iald (n := 300) rfl hi3408 dX12_procOfId_15 ?_
    generalize t 28 (Int32.toNatClampNeg x2) = v3407 at hF ⊢
    refine z_iload_n 1 dX12_procOfId_16 rfl rfl ?_
    refine z_icmp_ne (tgt := 22) dX12_procOfId_17 (by decide) (fun hc => ?_) (fun hc => ?_)
    · have hF := zif_f hc hF
      obtain ⟨v3409, ev3409⟩ : ∃ y : Int32, y = (x2 + 1) := ⟨_, rfl⟩
      have hF := zlet_at ev3409 hF
      refine z_iinc (v := v3409) (lv' := [(2, .int v3409), (0, .ref (za E 0)), (1, .int x1)]) (k := 2) dX12_procOfId_22 rfl (by rw [ev3409]; rfl) (by decide) rfl ?_
      refine z_goto (tgt := 2) dX12_procOfId_25 (by decide) ?_
      refine z_sub [1, 2, 0] rfl ?_
      exact hk2 x1 v3409 _ hF
    · have hF := zif_t hc hF
      refine z_iload_n 2 dX12_procOfId_20 rfl rfl ?_
      exact z_iret hF dX12_procOfId_21
set_option maxHeartbeats 4000000 in
set_option maxRecDepth 20000 in
theorem wlX12_procOfId_2 {E : zE} {C : zC} {f : Nat} {ro : Int32 × zS} (hf : 1 ≤ f) (fu : Nat) : ∀ (x1 x2 : Int32) (t : zS), lX12_procOfId_2  fu x1 x2 t = some ro → zJ E shM C cX12_procOfId RX12 3 f (some .int) ro t 2 [(0, .ref (za E 0)), (1, .int x1), (2, .int x2)] [] := by
  induction fu with
  | zero => intro x1 x2 t hF; cases hF
  | succ fu ih => intro x1 x2 t hF; exact wbX12_procOfId_2 hf (lX12_procOfId_2  fu) ih x1 x2 t hF
set_option maxHeartbeats 4000000 in
set_option maxRecDepth 20000 in
theorem ctX12_procOfId {E : zE} {f : Nat} (hf : 1 ≤ f) {x1 : Int32} {t : zS} {ro : Int32 × zS} (hF : mX12_procOfId  x1 t = some ro) : zM E shM f yX12_procOfId cX12_procOfId 3 (some .int) [.ref (za E 0), .int x1] t ro := by
  refine zM_of (by decide) (Nat.le_of_ble_eq_true rfl) (fun C => ?_)
  show zJ E shM C cX12_procOfId RX12 3 f (some .int) ro t 0 [(0, .ref (za E 0)), (1, .int x1)] []
  unfold mX12_procOfId at hF
  refine z_iconst (v := 0) dX12_procOfId_0 (by decide) ?_
  refine z_istore_n (lv' := [(2, .int 0), (0, .ref (za E 0)), (1, .int x1)]) dX12_procOfId_1 rfl (by decide) rfl ?_
  refine z_sub [1, 2, 0] rfl ?_
  exact wlX12_procOfId_2 hf  zFU x1 0 _ hF
-- SessionHouseModel.namedType()V
theorem dX12_namedType_0 : decode cX12_namedType 0 = .ok (.aload_n 0, 1) := by decide +kernel
theorem dX12_namedType_1 : decode cX12_namedType 1 = .ok (.getfield 247, 3) := by decide +kernel
theorem dX12_namedType_4 : decode cX12_namedType 4 = .ok (.iconst 2, 1) := by decide +kernel
theorem dX12_namedType_5 : decode cX12_namedType 5 = .ok (.if_icmp .ne 21, 3) := by decide +kernel
theorem dX12_namedType_8 : decode cX12_namedType 8 = .ok (.aload_n 0, 1) := by decide +kernel
theorem dX12_namedType_9 : decode cX12_namedType 9 = .ok (.getfield 267, 3) := by decide +kernel
theorem dX12_namedType_12 : decode cX12_namedType 12 = .ok (.ifCond .ge 14, 3) := by decide +kernel
theorem dX12_namedType_15 : decode cX12_namedType 15 = .ok (.aload_n 0, 1) := by decide +kernel
theorem dX12_namedType_16 : decode cX12_namedType 16 = .ok (.aload_n 0, 1) := by decide +kernel
theorem dX12_namedType_17 : decode cX12_namedType 17 = .ok (.getfield 240, 3) := by decide +kernel
theorem dX12_namedType_20 : decode cX12_namedType 20 = .ok (.invokevirtual 391, 3) := by decide +kernel
theorem dX12_namedType_23 : decode cX12_namedType 23 = .ok (.ifCond .lt 13, 3) := by decide +kernel
theorem dX12_namedType_26 : decode cX12_namedType 26 = .ok (.aload_n 0, 1) := by decide +kernel
theorem dX12_namedType_27 : decode cX12_namedType 27 = .ok (.aload_n 0, 1) := by decide +kernel
theorem dX12_namedType_28 : decode cX12_namedType 28 = .ok (.getfield 227, 3) := by decide +kernel
theorem dX12_namedType_31 : decode cX12_namedType 31 = .ok (.invokevirtual 270, 3) := by decide +kernel
theorem dX12_namedType_34 : decode cX12_namedType 34 = .ok (.istore_n 1, 1) := by decide +kernel
theorem dX12_namedType_35 : decode cX12_namedType 35 = .ok (.return_, 1) := by decide +kernel
theorem dX12_namedType_36 : decode cX12_namedType 36 = .ok (.aload_n 0, 1) := by decide +kernel
theorem dX12_namedType_37 : decode cX12_namedType 37 = .ok (.getfield 388, 3) := by decide +kernel
theorem dX12_namedType_40 : decode cX12_namedType 40 = .ok (.istore_n 1, 1) := by decide +kernel
theorem dX12_namedType_41 : decode cX12_namedType 41 = .ok (.aload_n 0, 1) := by decide +kernel
theorem dX12_namedType_42 : decode cX12_namedType 42 = .ok (.getfield 40, 3) := by decide +kernel
theorem dX12_namedType_45 : decode cX12_namedType 45 = .ok (.iload_n 1, 1) := by decide +kernel
theorem dX12_namedType_46 : decode cX12_namedType 46 = .ok (.aload_n 0, 1) := by decide +kernel
theorem dX12_namedType_47 : decode cX12_namedType 47 = .ok (.getfield 240, 3) := by decide +kernel
theorem dX12_namedType_50 : decode cX12_namedType 50 = .ok (.iastore, 1) := by decide +kernel
theorem dX12_namedType_51 : decode cX12_namedType 51 = .ok (.aload_n 0, 1) := by decide +kernel
theorem dX12_namedType_52 : decode cX12_namedType 52 = .ok (.getfield 43, 3) := by decide +kernel
theorem dX12_namedType_55 : decode cX12_namedType 55 = .ok (.iload_n 1, 1) := by decide +kernel
theorem dX12_namedType_56 : decode cX12_namedType 56 = .ok (.aload_n 0, 1) := by decide +kernel
theorem dX12_namedType_57 : decode cX12_namedType 57 = .ok (.getfield 227, 3) := by decide +kernel
theorem dX12_namedType_60 : decode cX12_namedType 60 = .ok (.iastore, 1) := by decide +kernel
theorem dX12_namedType_61 : decode cX12_namedType 61 = .ok (.aload_n 0, 1) := by decide +kernel
theorem dX12_namedType_62 : decode cX12_namedType 62 = .ok (.dup, 1) := by decide +kernel
theorem dX12_namedType_63 : decode cX12_namedType 63 = .ok (.getfield 388, 3) := by decide +kernel
theorem dX12_namedType_66 : decode cX12_namedType 66 = .ok (.iconst 1, 1) := by decide +kernel
theorem dX12_namedType_67 : decode cX12_namedType 67 = .ok (.iadd, 1) := by decide +kernel
theorem dX12_namedType_68 : decode cX12_namedType 68 = .ok (.putfield 388, 3) := by decide +kernel
theorem dX12_namedType_71 : decode cX12_namedType 71 = .ok (.aload_n 0, 1) := by decide +kernel
theorem dX12_namedType_72 : decode cX12_namedType 72 = .ok (.invokevirtual 273, 3) := by decide +kernel
theorem dX12_namedType_75 : decode cX12_namedType 75 = .ok (.aload_n 0, 1) := by decide +kernel
theorem dX12_namedType_76 : decode cX12_namedType 76 = .ok (.aload_n 0, 1) := by decide +kernel
theorem dX12_namedType_77 : decode cX12_namedType 77 = .ok (.bipush 61, 2) := by decide +kernel
theorem dX12_namedType_79 : decode cX12_namedType 79 = .ok (.invokevirtual 279, 3) := by decide +kernel
theorem dX12_namedType_82 : decode cX12_namedType 82 = .ok (.invokevirtual 282, 3) := by decide +kernel
theorem dX12_namedType_85 : decode cX12_namedType 85 = .ok (.ifCond .ne 4, 3) := by decide +kernel
theorem dX12_namedType_88 : decode cX12_namedType 88 = .ok (.return_, 1) := by decide +kernel
theorem dX12_namedType_89 : decode cX12_namedType 89 = .ok (.aload_n 0, 1) := by decide +kernel
theorem dX12_namedType_90 : decode cX12_namedType 90 = .ok (.getfield 46, 3) := by decide +kernel
theorem dX12_namedType_93 : decode cX12_namedType 93 = .ok (.iload_n 1, 1) := by decide +kernel
theorem dX12_namedType_94 : decode cX12_namedType 94 = .ok (.aload_n 0, 1) := by decide +kernel
theorem dX12_namedType_95 : decode cX12_namedType 95 = .ok (.invokevirtual 302, 3) := by decide +kernel
theorem dX12_namedType_98 : decode cX12_namedType 98 = .ok (.iastore, 1) := by decide +kernel
theorem dX12_namedType_99 : decode cX12_namedType 99 = .ok (.aload_n 0, 1) := by decide +kernel
theorem dX12_namedType_100 : decode cX12_namedType 100 = .ok (.aload_n 0, 1) := by decide +kernel
theorem dX12_namedType_101 : decode cX12_namedType 101 = .ok (.bipush 59, 2) := by decide +kernel
theorem dX12_namedType_103 : decode cX12_namedType 103 = .ok (.invokevirtual 279, 3) := by decide +kernel
theorem dX12_namedType_106 : decode cX12_namedType 106 = .ok (.invokevirtual 282, 3) := by decide +kernel
theorem dX12_namedType_109 : decode cX12_namedType 109 = .ok (.istore_n 2, 1) := by decide +kernel
theorem dX12_namedType_110 : decode cX12_namedType 110 = .ok (.return_, 1) := by decide +kernel
def bX12_namedType_26 (t : zS) : zR := zbd (mX12_fails (t 0 6) t) fun r3410 t3411 => some (0, t3411)
def mX12_namedType (t : zS) : zR := if (t 0 5) = 2 then if 0 ≤ (t 0 9) then bX12_namedType_26   t else zbd (mX12_typeOfId (t 0 8) t) fun r3413 t3414 => if r3413 < 0 then zlet (t3414 0 22) fun v3416 => zwr t3414 11 400 v3416 (t3414 0 8) fun t3418 => zwr t3418 12 400 v3416 (t3418 0 6) fun t3420 => zpt t3420 0 22 ((t3420 0 22) + 1) fun t3421 => zbd (mX12_next  t3421) fun r3422 t3423 => zbd (mX12_isSign 61 t3423) fun r3425 t3426 => zbd (mX12_passes r3425 t3426) fun r3428 t3429 => if r3428 = 0 then some (0, t3429) else zbd (mX12_typer  t3429) fun r3431 t3432 => zwr t3432 13 400 v3416 r3431 fun t3435 => zbd (mX12_isSign 59 t3435) fun r3436 t3437 => zbd (mX12_passes r3436 t3437) fun r3439 t3440 => some (0, t3440) else bX12_namedType_26   t3414 else bX12_namedType_26   t
set_option maxHeartbeats 4000000 in
set_option maxRecDepth 20000 in
theorem wbX12_namedType_26 {E : zE} {C : zC} {f : Nat} {ro : Int32 × zS} (hf : 307 ≤ f) (t : zS) (hF : bX12_namedType_26   t = some ro) : zJ E shM C cX12_namedType RX12 3 f none ro t 26 [(0, .ref (za E 0))] [] := by
  unfold bX12_namedType_26 at hF
  refine z_aload_n 0 dX12_namedType_26 rfl rfl ?_
  refine z_aload_n 0 dX12_namedType_27 rfl rfl ?_
  refine z_geti fi_RX12_227 dX12_namedType_28 ?_
  obtain ⟨r3410, t3411, hc3412, hF⟩ := zbd_at hF
  refine z_callVi (ctX12_fails (E := E) (f := f - 1) (by omega) hc3412) yy_X12_fails yv_X12_fails ob_M_0 lk_RX12_270 (by omega) rfl rfl (Nat.le_of_ble_eq_true rfl) dX12_namedType_31 ?_
  refine z_istore_n (lv' := [(1, .int r3410), (0, .ref (za E 0))]) dX12_namedType_34 rfl (by decide) rfl ?_
  exact z_vret hF dX12_namedType_35
set_option maxHeartbeats 4000000 in
set_option maxRecDepth 20000 in
theorem ctX12_namedType {E : zE} {f : Nat} (hf : 307 ≤ f) {t : zS} {ro : Int32 × zS} (hF : mX12_namedType   t = some ro) : zM E shM f yX12_namedType cX12_namedType 3 none [.ref (za E 0)] t ro := by
  refine zM_of (by decide) (Nat.le_of_ble_eq_true rfl) (fun C => ?_)
  show zJ E shM C cX12_namedType RX12 3 f none ro t 0 [(0, .ref (za E 0))] []
  unfold mX12_namedType at hF
  refine z_aload_n 0 dX12_namedType_0 rfl rfl ?_
  refine z_geti fi_RX12_247 dX12_namedType_1 ?_
  refine z_iconst (v := 2) dX12_namedType_4 (by decide) ?_
  refine z_icmp_ne (tgt := 26) dX12_namedType_5 (by decide) (fun hc => ?_) (fun hc => ?_)
  · have hF := zif_f hc hF
    exact wbX12_namedType_26 hf   _ hF
  · have hF := zif_t hc hF
    refine z_aload_n 0 dX12_namedType_8 rfl rfl ?_
    refine z_geti fi_RX12_267 dX12_namedType_9 ?_
    refine z_if_ge (tgt := 26) dX12_namedType_12 (by decide) (fun hc => ?_) (fun hc => ?_)
    · have hF := zif_t hc hF
      exact wbX12_namedType_26 hf   _ hF
    · have hF := zif_f hc hF
      refine z_aload_n 0 dX12_namedType_15 rfl rfl ?_
      refine z_aload_n 0 dX12_namedType_16 rfl rfl ?_
      refine z_geti fi_RX12_240 dX12_namedType_17 ?_
      obtain ⟨r3413, t3414, hc3415, hF⟩ := zbd_at hF
      refine z_callVi (ctX12_typeOfId (E := E) (f := f - 1) (by omega) hc3415) yy_X12_typeOfId yv_X12_typeOfId ob_M_0 lk_RX12_391 (by omega) rfl rfl (Nat.le_of_ble_eq_true rfl) dX12_namedType_20 ?_
      refine z_if_lt (tgt := 36) dX12_namedType_23 (by decide) (fun hc => ?_) (fun hc => ?_)
      · have hF := zif_t hc hF
        refine z_aload_n 0 dX12_namedType_36 rfl rfl ?_
        refine z_geti fi_RX12_388 dX12_namedType_37 ?_
        refine z_topi (fun v3416 ev3416 => ?_)
        have hF := zlet_at ev3416 hF
        refine z_istore_n (lv' := [(1, .int v3416), (0, .ref (za E 0))]) dX12_namedType_40 rfl (by decide) rfl ?_
        refine z_aload_n 1 dX12_namedType_41 rfl rfl ?_
        refine z_getr fr_RX12_40 dX12_namedType_42 ?_
        refine z_iload_n 0 dX12_namedType_45 rfl rfl ?_
        refine z_aload_n 1 dX12_namedType_46 rfl rfl ?_
        refine z_geti fi_RX12_240 dX12_namedType_47 ?_
        obtain ⟨hi3417, hF⟩ := zwr_at hF
        refine z_iast (n := 400) rfl hi3417 dX12_namedType_50 (fun t3418 et3418 => ?_)
        have hF := hF t3418 et3418
        refine z_aload_n 1 dX12_namedType_51 rfl rfl ?_
        refine z_getr fr_RX12_43 dX12_namedType_52 ?_
        refine z_iload_n 0 dX12_namedType_55 rfl rfl ?_
        refine z_aload_n 1 dX12_namedType_56 rfl rfl ?_
        refine z_geti fi_RX12_227 dX12_namedType_57 ?_
        obtain ⟨hi3419, hF⟩ := zwr_at hF
        refine z_iast (n := 400) rfl hi3419 dX12_namedType_60 (fun t3420 et3420 => ?_)
        have hF := hF t3420 et3420
        refine z_aload_n 1 dX12_namedType_61 rfl rfl ?_
        refine z_dup dX12_namedType_62 rfl ?_
        refine z_geti fi_RX12_388 dX12_namedType_63 ?_
        refine z_iconst (v := 1) dX12_namedType_66 (by decide) ?_
        refine z_iadd dX12_namedType_67 ?_
        refine z_puti fw_RX12_388 dX12_namedType_68 (fun t3421 et3421 => ?_)
        have hF := zpt_at hF t3421 et3421
        refine z_aload_n 1 dX12_namedType_71 rfl rfl ?_
        obtain ⟨r3422, t3423, hc3424, hF⟩ := zbd_at hF
        refine z_callVv (ctX12_next (E := E) (f := f - 1) (by omega) hc3424) yy_X12_next yv_X12_next ob_M_0 lk_RX12_273 (by omega) rfl rfl (Nat.le_of_ble_eq_true rfl) dX12_namedType_72 ?_
        refine z_aload_n 1 dX12_namedType_75 rfl rfl ?_
        refine z_aload_n 1 dX12_namedType_76 rfl rfl ?_
        refine z_bipush (v := 61) dX12_namedType_77 (by decide) ?_
        obtain ⟨r3425, t3426, hc3427, hF⟩ := zbd_at hF
        refine z_callVi (ctX12_isSign (E := E) (f := f - 1) (by omega) hc3427) yy_X12_isSign yv_X12_isSign ob_M_0 lk_RX12_279 (by omega) rfl rfl (Nat.le_of_ble_eq_true rfl) dX12_namedType_79 ?_
        obtain ⟨r3428, t3429, hc3430, hF⟩ := zbd_at hF
        refine z_callVi (ctX12_passes (E := E) (f := f - 1) (by omega) hc3430) yy_X12_passes yv_X12_passes ob_M_0 lk_RX12_282 (by omega) rfl rfl (Nat.le_of_ble_eq_true rfl) dX12_namedType_82 ?_
        refine z_if_ne (tgt := 89) dX12_namedType_85 (by decide) (fun hc => ?_) (fun hc => ?_)
        · have hF := zif_f hc hF
          refine z_aload_n 1 dX12_namedType_89 rfl rfl ?_
          refine z_getr fr_RX12_46 dX12_namedType_90 ?_
          refine z_iload_n 0 dX12_namedType_93 rfl rfl ?_
          refine z_aload_n 1 dX12_namedType_94 rfl rfl ?_
          obtain ⟨r3431, t3432, hc3433, hF⟩ := zbd_at hF
          refine z_callVi (ctX12_typer (E := E) (f := f - 1) (by omega) hc3433) yy_X12_type yv_X12_type ob_M_0 lk_RX12_302 (by omega) rfl rfl (Nat.le_of_ble_eq_true rfl) dX12_namedType_95 ?_
          obtain ⟨hi3434, hF⟩ := zwr_at hF
          refine z_iast (n := 400) rfl hi3434 dX12_namedType_98 (fun t3435 et3435 => ?_)
          have hF := hF t3435 et3435
          refine z_aload_n 1 dX12_namedType_99 rfl rfl ?_
          refine z_aload_n 1 dX12_namedType_100 rfl rfl ?_
          refine z_bipush (v := 59) dX12_namedType_101 (by decide) ?_
          obtain ⟨r3436, t3437, hc3438, hF⟩ := zbd_at hF
          refine z_callVi (ctX12_isSign (E := E) (f := f - 1) (by omega) hc3438) yy_X12_isSign yv_X12_isSign ob_M_0 lk_RX12_279 (by omega) rfl rfl (Nat.le_of_ble_eq_true rfl) dX12_namedType_103 ?_
          obtain ⟨r3439, t3440, hc3441, hF⟩ := zbd_at hF
          refine z_callVi (ctX12_passes (E := E) (f := f - 1) (by omega) hc3441) yy_X12_passes yv_X12_passes ob_M_0 lk_RX12_282 (by omega) rfl rfl (Nat.le_of_ble_eq_true rfl) dX12_namedType_106 ?_
          refine z_istore_n (lv' := [(2, .int r3439), (1, .int v3416), (0, .ref (za E 0))]) dX12_namedType_109 rfl (by decide) rfl ?_
          exact z_vret hF dX12_namedType_110
        · have hF := zif_t hc hF
          exact z_vret hF dX12_namedType_88
      · have hF := zif_f hc hF
        exact wbX12_namedType_26 hf   _ hF
-- SessionHouseModel.lookUp()V
theorem dX12_lookUp_0 : decode cX12_lookUp 0 = .ok (.iconst 0, 1) := by decide +kernel
theorem dX12_lookUp_1 : decode cX12_lookUp 1 = .ok (.istore_n 1, 1) := by decide +kernel
theorem dX12_lookUp_2 : decode cX12_lookUp 2 = .ok (.iload_n 1, 1) := by decide +kernel
theorem dX12_lookUp_3 : decode cX12_lookUp 3 = .ok (.aload_n 0, 1) := by decide +kernel
theorem dX12_lookUp_4 : decode cX12_lookUp 4 = .ok (.getfield 289, 3) := by decide +kernel
theorem dX12_lookUp_7 : decode cX12_lookUp 7 = .ok (.if_icmp .ge 102, 3) := by decide +kernel
theorem dX12_lookUp_10 : decode cX12_lookUp 10 = .ok (.aload_n 0, 1) := by decide +kernel
theorem dX12_lookUp_11 : decode cX12_lookUp 11 = .ok (.getfield 267, 3) := by decide +kernel
theorem dX12_lookUp_14 : decode cX12_lookUp 14 = .ok (.ifCond .ge 95, 3) := by decide +kernel
theorem dX12_lookUp_17 : decode cX12_lookUp 17 = .ok (.aload_n 0, 1) := by decide +kernel
theorem dX12_lookUp_18 : decode cX12_lookUp 18 = .ok (.getfield 118, 3) := by decide +kernel
theorem dX12_lookUp_21 : decode cX12_lookUp 21 = .ok (.iload_n 1, 1) := by decide +kernel
theorem dX12_lookUp_22 : decode cX12_lookUp 22 = .ok (.baload, 1) := by decide +kernel
theorem dX12_lookUp_23 : decode cX12_lookUp 23 = .ok (.ifCond .eq 16, 3) := by decide +kernel
theorem dX12_lookUp_26 : decode cX12_lookUp 26 = .ok (.aload_n 0, 1) := by decide +kernel
theorem dX12_lookUp_27 : decode cX12_lookUp 27 = .ok (.aload_n 0, 1) := by decide +kernel
theorem dX12_lookUp_28 : decode cX12_lookUp 28 = .ok (.getfield 112, 3) := by decide +kernel
theorem dX12_lookUp_31 : decode cX12_lookUp 31 = .ok (.iload_n 1, 1) := by decide +kernel
theorem dX12_lookUp_32 : decode cX12_lookUp 32 = .ok (.iaload, 1) := by decide +kernel
theorem dX12_lookUp_33 : decode cX12_lookUp 33 = .ok (.invokevirtual 394, 3) := by decide +kernel
theorem dX12_lookUp_36 : decode cX12_lookUp 36 = .ok (.goto 13, 3) := by decide +kernel
theorem dX12_lookUp_39 : decode cX12_lookUp 39 = .ok (.aload_n 0, 1) := by decide +kernel
theorem dX12_lookUp_40 : decode cX12_lookUp 40 = .ok (.aload_n 0, 1) := by decide +kernel
theorem dX12_lookUp_41 : decode cX12_lookUp 41 = .ok (.getfield 112, 3) := by decide +kernel
theorem dX12_lookUp_44 : decode cX12_lookUp 44 = .ok (.iload_n 1, 1) := by decide +kernel
theorem dX12_lookUp_45 : decode cX12_lookUp 45 = .ok (.iaload, 1) := by decide +kernel
theorem dX12_lookUp_46 : decode cX12_lookUp 46 = .ok (.invokevirtual 391, 3) := by decide +kernel
theorem dX12_lookUp_49 : decode cX12_lookUp 49 = .ok (.istore_n 2, 1) := by decide +kernel
theorem dX12_lookUp_50 : decode cX12_lookUp 50 = .ok (.iload_n 2, 1) := by decide +kernel
theorem dX12_lookUp_51 : decode cX12_lookUp 51 = .ok (.ifCond .ge 16, 3) := by decide +kernel
theorem dX12_lookUp_54 : decode cX12_lookUp 54 = .ok (.aload_n 0, 1) := by decide +kernel
theorem dX12_lookUp_55 : decode cX12_lookUp 55 = .ok (.aload_n 0, 1) := by decide +kernel
theorem dX12_lookUp_56 : decode cX12_lookUp 56 = .ok (.getfield 115, 3) := by decide +kernel
theorem dX12_lookUp_59 : decode cX12_lookUp 59 = .ok (.iload_n 1, 1) := by decide +kernel
theorem dX12_lookUp_60 : decode cX12_lookUp 60 = .ok (.iaload, 1) := by decide +kernel
theorem dX12_lookUp_61 : decode cX12_lookUp 61 = .ok (.putfield 267, 3) := by decide +kernel
theorem dX12_lookUp_64 : decode cX12_lookUp 64 = .ok (.goto 39, 3) := by decide +kernel
theorem dX12_lookUp_67 : decode cX12_lookUp 67 = .ok (.aload_n 0, 1) := by decide +kernel
theorem dX12_lookUp_68 : decode cX12_lookUp 68 = .ok (.getfield 118, 3) := by decide +kernel
theorem dX12_lookUp_71 : decode cX12_lookUp 71 = .ok (.iload_n 1, 1) := by decide +kernel
theorem dX12_lookUp_72 : decode cX12_lookUp 72 = .ok (.baload, 1) := by decide +kernel
theorem dX12_lookUp_73 : decode cX12_lookUp 73 = .ok (.ifCond .eq 18, 3) := by decide +kernel
theorem dX12_lookUp_76 : decode cX12_lookUp 76 = .ok (.aload_n 0, 1) := by decide +kernel
theorem dX12_lookUp_77 : decode cX12_lookUp 77 = .ok (.getfield 58, 3) := by decide +kernel
theorem dX12_lookUp_80 : decode cX12_lookUp 80 = .ok (.aload_n 0, 1) := by decide +kernel
theorem dX12_lookUp_81 : decode cX12_lookUp 81 = .ok (.getfield 122, 3) := by decide +kernel
theorem dX12_lookUp_84 : decode cX12_lookUp 84 = .ok (.iload_n 1, 1) := by decide +kernel
theorem dX12_lookUp_85 : decode cX12_lookUp 85 = .ok (.iaload, 1) := by decide +kernel
theorem dX12_lookUp_86 : decode cX12_lookUp 86 = .ok (.iload_n 2, 1) := by decide +kernel
theorem dX12_lookUp_87 : decode cX12_lookUp 87 = .ok (.iastore, 1) := by decide +kernel
theorem dX12_lookUp_88 : decode cX12_lookUp 88 = .ok (.goto 15, 3) := by decide +kernel
theorem dX12_lookUp_91 : decode cX12_lookUp 91 = .ok (.aload_n 0, 1) := by decide +kernel
theorem dX12_lookUp_92 : decode cX12_lookUp 92 = .ok (.getfield 25, 3) := by decide +kernel
theorem dX12_lookUp_95 : decode cX12_lookUp 95 = .ok (.aload_n 0, 1) := by decide +kernel
theorem dX12_lookUp_96 : decode cX12_lookUp 96 = .ok (.getfield 122, 3) := by decide +kernel
theorem dX12_lookUp_99 : decode cX12_lookUp 99 = .ok (.iload_n 1, 1) := by decide +kernel
theorem dX12_lookUp_100 : decode cX12_lookUp 100 = .ok (.iaload, 1) := by decide +kernel
theorem dX12_lookUp_101 : decode cX12_lookUp 101 = .ok (.iload_n 2, 1) := by decide +kernel
theorem dX12_lookUp_102 : decode cX12_lookUp 102 = .ok (.iastore, 1) := by decide +kernel
theorem dX12_lookUp_103 : decode cX12_lookUp 103 = .ok (.iinc 1 1, 3) := by decide +kernel
theorem dX12_lookUp_106 : decode cX12_lookUp 106 = .ok (.goto (-104), 3) := by decide +kernel
theorem dX12_lookUp_109 : decode cX12_lookUp 109 = .ok (.iconst 0, 1) := by decide +kernel
theorem dX12_lookUp_110 : decode cX12_lookUp 110 = .ok (.istore_n 1, 1) := by decide +kernel
theorem dX12_lookUp_111 : decode cX12_lookUp 111 = .ok (.iload_n 1, 1) := by decide +kernel
theorem dX12_lookUp_112 : decode cX12_lookUp 112 = .ok (.aload_n 0, 1) := by decide +kernel
theorem dX12_lookUp_113 : decode cX12_lookUp 113 = .ok (.getfield 388, 3) := by decide +kernel
theorem dX12_lookUp_116 : decode cX12_lookUp 116 = .ok (.if_icmp .ge 111, 3) := by decide +kernel
theorem dX12_lookUp_119 : decode cX12_lookUp 119 = .ok (.aload_n 0, 1) := by decide +kernel
theorem dX12_lookUp_120 : decode cX12_lookUp 120 = .ok (.getfield 267, 3) := by decide +kernel
theorem dX12_lookUp_123 : decode cX12_lookUp 123 = .ok (.ifCond .ge 104, 3) := by decide +kernel
theorem dX12_lookUp_126 : decode cX12_lookUp 126 = .ok (.aload_n 0, 1) := by decide +kernel
theorem dX12_lookUp_127 : decode cX12_lookUp 127 = .ok (.getfield 46, 3) := by decide +kernel
theorem dX12_lookUp_130 : decode cX12_lookUp 130 = .ok (.iload_n 1, 1) := by decide +kernel
theorem dX12_lookUp_131 : decode cX12_lookUp 131 = .ok (.iaload, 1) := by decide +kernel
theorem dX12_lookUp_132 : decode cX12_lookUp 132 = .ok (.istore_n 2, 1) := by decide +kernel
theorem dX12_lookUp_133 : decode cX12_lookUp 133 = .ok (.iconst 0, 1) := by decide +kernel
theorem dX12_lookUp_134 : decode cX12_lookUp 134 = .ok (.istore_n 3, 1) := by decide +kernel
theorem dX12_lookUp_135 : decode cX12_lookUp 135 = .ok (.iconst 0, 1) := by decide +kernel
theorem dX12_lookUp_136 : decode cX12_lookUp 136 = .ok (.istore 4, 2) := by decide +kernel
theorem dX12_lookUp_138 : decode cX12_lookUp 138 = .ok (.iload 4, 2) := by decide +kernel
theorem dX12_lookUp_140 : decode cX12_lookUp 140 = .ok (.ifCond .ne 66, 3) := by decide +kernel
theorem dX12_lookUp_143 : decode cX12_lookUp 143 = .ok (.iload_n 3, 1) := by decide +kernel
theorem dX12_lookUp_144 : decode cX12_lookUp 144 = .ok (.aload_n 0, 1) := by decide +kernel
theorem dX12_lookUp_145 : decode cX12_lookUp 145 = .ok (.getfield 388, 3) := by decide +kernel
theorem dX12_lookUp_148 : decode cX12_lookUp 148 = .ok (.if_icmp .gt 58, 3) := by decide +kernel
theorem dX12_lookUp_151 : decode cX12_lookUp 151 = .ok (.aload_n 0, 1) := by decide +kernel
theorem dX12_lookUp_152 : decode cX12_lookUp 152 = .ok (.getfield 22, 3) := by decide +kernel
theorem dX12_lookUp_155 : decode cX12_lookUp 155 = .ok (.iload_n 2, 1) := by decide +kernel
theorem dX12_lookUp_156 : decode cX12_lookUp 156 = .ok (.iaload, 1) := by decide +kernel
theorem dX12_lookUp_157 : decode cX12_lookUp 157 = .ok (.iconst 1, 1) := by decide +kernel
theorem dX12_lookUp_158 : decode cX12_lookUp 158 = .ok (.if_icmp .eq 13, 3) := by decide +kernel
theorem dX12_lookUp_161 : decode cX12_lookUp 161 = .ok (.aload_n 0, 1) := by decide +kernel
theorem dX12_lookUp_162 : decode cX12_lookUp 162 = .ok (.getfield 22, 3) := by decide +kernel
theorem dX12_lookUp_165 : decode cX12_lookUp 165 = .ok (.iload_n 2, 1) := by decide +kernel
theorem dX12_lookUp_166 : decode cX12_lookUp 166 = .ok (.iaload, 1) := by decide +kernel
theorem dX12_lookUp_167 : decode cX12_lookUp 167 = .ok (.iconst 2, 1) := by decide +kernel
theorem dX12_lookUp_168 : decode cX12_lookUp 168 = .ok (.if_icmp .ne 38, 3) := by decide +kernel
theorem dX12_lookUp_171 : decode cX12_lookUp 171 = .ok (.aload_n 0, 1) := by decide +kernel
theorem dX12_lookUp_172 : decode cX12_lookUp 172 = .ok (.getfield 25, 3) := by decide +kernel
theorem dX12_lookUp_175 : decode cX12_lookUp 175 = .ok (.iload_n 2, 1) := by decide +kernel
theorem dX12_lookUp_176 : decode cX12_lookUp 176 = .ok (.iaload, 1) := by decide +kernel
theorem dX12_lookUp_177 : decode cX12_lookUp 177 = .ok (.iload_n 1, 1) := by decide +kernel
theorem dX12_lookUp_178 : decode cX12_lookUp 178 = .ok (.if_icmp .ne 7, 3) := by decide +kernel
theorem dX12_lookUp_181 : decode cX12_lookUp 181 = .ok (.iconst 1, 1) := by decide +kernel
theorem dX12_lookUp_182 : decode cX12_lookUp 182 = .ok (.goto 4, 3) := by decide +kernel
theorem dX12_lookUp_185 : decode cX12_lookUp 185 = .ok (.iconst 0, 1) := by decide +kernel
theorem dX12_lookUp_186 : decode cX12_lookUp 186 = .ok (.istore 4, 2) := by decide +kernel
theorem dX12_lookUp_188 : decode cX12_lookUp 188 = .ok (.aload_n 0, 1) := by decide +kernel
theorem dX12_lookUp_189 : decode cX12_lookUp 189 = .ok (.getfield 46, 3) := by decide +kernel
theorem dX12_lookUp_192 : decode cX12_lookUp 192 = .ok (.aload_n 0, 1) := by decide +kernel
theorem dX12_lookUp_193 : decode cX12_lookUp 193 = .ok (.getfield 25, 3) := by decide +kernel
theorem dX12_lookUp_196 : decode cX12_lookUp 196 = .ok (.iload_n 2, 1) := by decide +kernel
theorem dX12_lookUp_197 : decode cX12_lookUp 197 = .ok (.iaload, 1) := by decide +kernel
theorem dX12_lookUp_198 : decode cX12_lookUp 198 = .ok (.iaload, 1) := by decide +kernel
theorem dX12_lookUp_199 : decode cX12_lookUp 199 = .ok (.istore_n 2, 1) := by decide +kernel
theorem dX12_lookUp_200 : decode cX12_lookUp 200 = .ok (.iinc 3 1, 3) := by decide +kernel
theorem dX12_lookUp_203 : decode cX12_lookUp 203 = .ok (.goto (-65), 3) := by decide +kernel
theorem dX12_lookUp_206 : decode cX12_lookUp 206 = .ok (.iload 4, 2) := by decide +kernel
theorem dX12_lookUp_208 : decode cX12_lookUp 208 = .ok (.ifCond .eq 13, 3) := by decide +kernel
theorem dX12_lookUp_211 : decode cX12_lookUp 211 = .ok (.aload_n 0, 1) := by decide +kernel
theorem dX12_lookUp_212 : decode cX12_lookUp 212 = .ok (.aload_n 0, 1) := by decide +kernel
theorem dX12_lookUp_213 : decode cX12_lookUp 213 = .ok (.getfield 43, 3) := by decide +kernel
theorem dX12_lookUp_216 : decode cX12_lookUp 216 = .ok (.iload_n 1, 1) := by decide +kernel
theorem dX12_lookUp_217 : decode cX12_lookUp 217 = .ok (.iaload, 1) := by decide +kernel
theorem dX12_lookUp_218 : decode cX12_lookUp 218 = .ok (.putfield 267, 3) := by decide +kernel
theorem dX12_lookUp_221 : decode cX12_lookUp 221 = .ok (.iinc 1 1, 3) := by decide +kernel
theorem dX12_lookUp_224 : decode cX12_lookUp 224 = .ok (.goto (-113), 3) := by decide +kernel
theorem dX12_lookUp_227 : decode cX12_lookUp 227 = .ok (.return_, 1) := by decide +kernel
def bX12_lookUp_103 (k2 : Int32 → zS → zR) (x1 : Int32) (t : zS) : zR := zlet (x1 + 1) fun v3442 => k2 v3442 t
def bX12_lookUp_49 (k2 : Int32 → zS → zR) (x1 : Int32) (y0 : Int32) (t : zS) : zR := if 0 ≤ y0 then zrd t 37 3000 x1 fun v3443 => if v3443 = 0 then zrd t 38 3000 x1 fun v3445 => zwr t 6 3100 v3445 y0 fun t3448 => bX12_lookUp_103 k2 x1 t3448 else zrd t 38 3000 x1 fun v3449 => zwr t 17 1600 v3449 y0 fun t3452 => bX12_lookUp_103 k2 x1 t3452 else zrd t 36 3000 x1 fun v3453 => zpt t 0 9 v3453 fun t3455 => bX12_lookUp_103 k2 x1 t3455
def bX12_lookUp_186 (k111 : Int32 → zS → zR) (k138 : Int32 → Int32 → Int32 → Int32 → zS → zR) (x1 : Int32) (x2 : Int32) (x3 : Int32) (y0 : Int32) (t : zS) : zR := zrd t 6 3100 x2 fun v3456 => zrd t 13 400 v3456 fun v3458 => zlet (x3 + 1) fun v3460 => k138 x1 v3458 v3460 y0 t
def bX12_lookUp_171 (k111 : Int32 → zS → zR) (k138 : Int32 → Int32 → Int32 → Int32 → zS → zR) (x1 : Int32) (x2 : Int32) (x3 : Int32) (t : zS) : zR := zrd t 6 3100 x2 fun v3461 => if v3461 = x1 then bX12_lookUp_186 k111 k138 x1 x2 x3 1 t else bX12_lookUp_186 k111 k138 x1 x2 x3 0 t
def bX12_lookUp_221 (k111 : Int32 → zS → zR) (x1 : Int32) (t : zS) : zR := zlet (x1 + 1) fun v3463 => k111 v3463 t
def bX12_lookUp_206 (k111 : Int32 → zS → zR) (x1 : Int32) (x4 : Int32) (t : zS) : zR := if x4 = 0 then bX12_lookUp_221 k111 x1 t else zrd t 12 400 x1 fun v3464 => zpt t 0 9 v3464 fun t3466 => bX12_lookUp_221 k111 x1 t3466
def bX12_lookUp_138 (k111 : Int32 → zS → zR) (k138 : Int32 → Int32 → Int32 → Int32 → zS → zR) (x1 : Int32) (x2 : Int32) (x3 : Int32) (x4 : Int32) (t : zS) : zR := if x4 = 0 then if (t 0 22) < x3 then bX12_lookUp_206 k111 x1 x4 t else zrd t 5 3100 x2 fun v3467 => if v3467 = 1 then bX12_lookUp_171 k111 k138 x1 x2 x3 t else zrd t 5 3100 x2 fun v3469 => if v3469 = 2 then bX12_lookUp_171 k111 k138 x1 x2 x3 t else bX12_lookUp_206 k111 x1 x4 t else bX12_lookUp_206 k111 x1 x4 t
def lX12_lookUp_138 (k111 : Int32 → zS → zR) : Nat → Int32 → Int32 → Int32 → Int32 → zS → zR
  | 0, _, _, _, _, _ => none
  | fu + 1, x1, x2, x3, x4, t => bX12_lookUp_138 k111 (lX12_lookUp_138 k111 fu) x1 x2 x3 x4 t
def bX12_lookUp_111 (k111 : Int32 → zS → zR) (x1 : Int32) (t : zS) : zR := if (t 0 22) ≤ x1 then some (0, t) else if 0 ≤ (t 0 9) then some (0, t) else zrd t 13 400 x1 fun v3471 => lX12_lookUp_138 k111 zFU x1 v3471 0 0 t
def lX12_lookUp_111 : Nat → Int32 → zS → zR
  | 0, _, _ => none
  | fu + 1, x1, t => bX12_lookUp_111 (lX12_lookUp_111  fu) x1 t
def bX12_lookUp_109 (t : zS) : zR := lX12_lookUp_111  zFU 0 t
def bX12_lookUp_2 (k2 : Int32 → zS → zR) (x1 : Int32) (t : zS) : zR := if (t 0 52) ≤ x1 then bX12_lookUp_109   t else if 0 ≤ (t 0 9) then bX12_lookUp_109   t else zrd t 37 3000 x1 fun v3473 => if v3473 = 0 then zrd t 35 3000 x1 fun v3475 => zbd (mX12_typeOfId v3475 t) fun r3477 t3478 => bX12_lookUp_49 k2 x1 r3477 t3478 else zrd t 35 3000 x1 fun v3480 => zbd (mX12_procOfId v3480 t) fun r3482 t3483 => bX12_lookUp_49 k2 x1 r3482 t3483
def lX12_lookUp_2 : Nat → Int32 → zS → zR
  | 0, _, _ => none
  | fu + 1, x1, t => bX12_lookUp_2 (lX12_lookUp_2  fu) x1 t
def mX12_lookUp (t : zS) : zR := lX12_lookUp_2  zFU 0 t
set_option maxHeartbeats 4000000 in
set_option maxRecDepth 20000 in
theorem wbX12_lookUp_103 {E : zE} {C : zC} {f : Nat} {ro : Int32 × zS} (hf : 2 ≤ f) (k2 : Int32 → zS → zR) (hk2 : ∀ (x1 : Int32) (t : zS), k2 x1 t = some ro → zJ E shM C cX12_lookUp RX12 5 f none ro t 2 [(0, .ref (za E 0)), (1, .int x1)] []) (x1 : Int32) (t : zS) (hF : bX12_lookUp_103 k2 x1 t = some ro) : zJ E shM C cX12_lookUp RX12 5 f none ro t 103 [(0, .ref (za E 0)), (1, .int x1)] [] := by
  unfold bX12_lookUp_103 at hF
  obtain ⟨v3442, ev3442⟩ : ∃ y : Int32, y = (x1 + 1) := ⟨_, rfl⟩
  have hF := zlet_at ev3442 hF
  refine z_iinc (v := v3442) (lv' := [(1, .int v3442), (0, .ref (za E 0))]) (k := 1) dX12_lookUp_103 rfl (by rw [ev3442]; rfl) (by decide) rfl ?_
  refine z_goto (tgt := 2) dX12_lookUp_106 (by decide) ?_
  refine z_sub [1, 0] rfl ?_
  exact hk2 v3442 _ hF
set_option maxHeartbeats 4000000 in
set_option maxRecDepth 20000 in
theorem wbX12_lookUp_49 {E : zE} {C : zC} {f : Nat} {ro : Int32 × zS} (hf : 2 ≤ f) (k2 : Int32 → zS → zR) (hk2 : ∀ (x1 : Int32) (t : zS), k2 x1 t = some ro → zJ E shM C cX12_lookUp RX12 5 f none ro t 2 [(0, .ref (za E 0)), (1, .int x1)] []) (x1 : Int32) (y0 : Int32) (t : zS) (hF : bX12_lookUp_49 k2 x1 y0 t = some ro) : zJ E shM C cX12_lookUp RX12 5 f none ro t 49 [(0, .ref (za E 0)), (1, .int x1)] [.int y0] := by
  unfold bX12_lookUp_49 at hF
  refine z_istore_n (lv' := [(2, .int y0), (0, .ref (za E 0)), (1, .int x1)]) dX12_lookUp_49 rfl (by decide) rfl ?_
  refine z_iload_n 0 dX12_lookUp_50 rfl rfl ?_
  refine z_if_ge (tgt := 67) dX12_lookUp_51 (by decide) (fun hc => ?_) (fun hc => ?_)
  · have hF := zif_t hc hF
    refine z_aload_n 1 dX12_lookUp_67 rfl rfl ?_
    refine z_getr fr_RX12_118 dX12_lookUp_68 ?_
    refine z_iload_n 2 dX12_lookUp_71 rfl rfl ?_
    obtain ⟨hi3444, hF⟩ := zrd_at hF
    refine z_zald (n := 3000) rfl hi3444 dX12_lookUp_72 ?_
    generalize t 37 (Int32.toNatClampNeg x1) = v3443 at hF ⊢
    refine z_if_eq (tgt := 91) dX12_lookUp_73 (by decide) (fun hc => ?_) (fun hc => ?_)
    · have hF := zif_t hc hF
      refine z_aload_n 1 dX12_lookUp_91 rfl rfl ?_
      refine z_getr fr_RX12_25 dX12_lookUp_92 ?_
      refine z_aload_n 1 dX12_lookUp_95 rfl rfl ?_
      refine z_getr fr_RX12_122 dX12_lookUp_96 ?_
      refine z_iload_n 2 dX12_lookUp_99 rfl rfl ?_
      obtain ⟨hi3446, hF⟩ := zrd_at hF
      refine z_iald (n := 3000) rfl hi3446 dX12_lookUp_100 ?_
      generalize t 38 (Int32.toNatClampNeg x1) = v3445 at hF ⊢
      refine z_iload_n 0 dX12_lookUp_101 rfl rfl ?_
      obtain ⟨hi3447, hF⟩ := zwr_at hF
      refine z_iast (n := 3100) rfl hi3447 dX12_lookUp_102 (fun t3448 et3448 => ?_)
      have hF := hF t3448 et3448
      refine z_sub [1, 2] rfl ?_
      exact wbX12_lookUp_103 hf k2 hk2 x1 _ hF
    · have hF := zif_f hc hF
      refine z_aload_n 1 dX12_lookUp_76 rfl rfl ?_
      refine z_getr fr_RX12_58 dX12_lookUp_77 ?_
      refine z_aload_n 1 dX12_lookUp_80 rfl rfl ?_
      refine z_getr fr_RX12_122 dX12_lookUp_81 ?_
      refine z_iload_n 2 dX12_lookUp_84 rfl rfl ?_
      obtain ⟨hi3450, hF⟩ := zrd_at hF
      refine z_iald (n := 3000) rfl hi3450 dX12_lookUp_85 ?_
      generalize t 38 (Int32.toNatClampNeg x1) = v3449 at hF ⊢
      refine z_iload_n 0 dX12_lookUp_86 rfl rfl ?_
      obtain ⟨hi3451, hF⟩ := zwr_at hF
      refine z_iast (n := 1600) rfl hi3451 dX12_lookUp_87 (fun t3452 et3452 => ?_)
      have hF := hF t3452 et3452
      refine z_goto (tgt := 103) dX12_lookUp_88 (by decide) ?_
      refine z_sub [1, 2] rfl ?_
      exact wbX12_lookUp_103 hf k2 hk2 x1 _ hF
  · have hF := zif_f hc hF
    refine z_aload_n 1 dX12_lookUp_54 rfl rfl ?_
    refine z_aload_n 1 dX12_lookUp_55 rfl rfl ?_
    refine z_getr fr_RX12_115 dX12_lookUp_56 ?_
    refine z_iload_n 2 dX12_lookUp_59 rfl rfl ?_
    obtain ⟨hi3454, hF⟩ := zrd_at hF
    refine z_iald (n := 3000) rfl hi3454 dX12_lookUp_60 ?_
    generalize t 36 (Int32.toNatClampNeg x1) = v3453 at hF ⊢
    refine z_puti fw_RX12_267 dX12_lookUp_61 (fun t3455 et3455 => ?_)
    have hF := zpt_at hF t3455 et3455
    refine z_goto (tgt := 103) dX12_lookUp_64 (by decide) ?_
    refine z_sub [1, 2] rfl ?_
    exact wbX12_lookUp_103 hf k2 hk2 x1 _ hF
set_option maxHeartbeats 4000000 in
set_option maxRecDepth 20000 in
theorem wbX12_lookUp_186 {E : zE} {C : zC} {f : Nat} {ro : Int32 × zS} (hf : 2 ≤ f) (k111 : Int32 → zS → zR) (hk111 : ∀ (x1 : Int32) (t : zS), k111 x1 t = some ro → zJ E shM C cX12_lookUp RX12 5 f none ro t 111 [(0, .ref (za E 0)), (1, .int x1)] []) (k138 : Int32 → Int32 → Int32 → Int32 → zS → zR) (hk138 : ∀ (x1 x2 x3 x4 : Int32) (t : zS), k138 x1 x2 x3 x4 t = some ro → zJ E shM C cX12_lookUp RX12 5 f none ro t 138 [(0, .ref (za E 0)), (1, .int x1), (2, .int x2), (3, .int x3), (4, .int x4)] []) (x1 : Int32) (x2 : Int32) (x3 : Int32) (y0 : Int32) (t : zS) (hF : bX12_lookUp_186 k111 k138 x1 x2 x3 y0 t = some ro) : zJ E shM C cX12_lookUp RX12 5 f none ro t 186 [(0, .ref (za E 0)), (1, .int x1), (2, .int x2), (3, .int x3)] [.int y0] := by
  unfold bX12_lookUp_186 at hF
  refine z_istore (lv' := [(4, .int y0), (0, .ref (za E 0)), (1, .int x1), (2, .int x2), (3, .int x3)]) dX12_lookUp_186 (by decide) rfl ?_
  refine z_aload_n 1 dX12_lookUp_188 rfl rfl ?_
  refine z_getr fr_RX12_46 dX12_lookUp_189 ?_
  refine z_aload_n 1 dX12_lookUp_192 rfl rfl ?_
  refine z_getr fr_RX12_25 dX12_lookUp_193 ?_
  refine z_iload_n 3 dX12_lookUp_196 rfl rfl ?_
  obtain ⟨hi3457, hF⟩ := zrd_at hF
  refine z_iald (n := 3100) rfl hi3457 dX12_lookUp_197 ?_
  generalize t 6 (Int32.toNatClampNeg x2) = v3456 at hF ⊢
  obtain ⟨hi3459, hF⟩ := zrd_at hF
  refine z_iald (n := 400) rfl hi3459 dX12_lookUp_198 ?_
  generalize t 13 (Int32.toNatClampNeg v3456) = v3458 at hF ⊢
  refine z_istore_n (lv' := [(2, .int v3458), (4, .int y0), (0, .ref (za E 0)), (1, .int x1), (3, .int x3)]) dX12_lookUp_199 rfl (by decide) rfl ?_
  obtain ⟨v3460, ev3460⟩ : ∃ y : Int32, y = (x3 + 1) := ⟨_, rfl⟩
  have hF := zlet_at ev3460 hF
  refine z_iinc (v := v3460) (lv' := [(3, .int v3460), (2, .int v3458), (4, .int y0), (0, .ref (za E 0)), (1, .int x1)]) (k := 4) dX12_lookUp_200 rfl (by rw [ev3460]; rfl) (by decide) rfl ?_
  refine z_goto (tgt := 138) dX12_lookUp_203 (by decide) ?_
  refine z_sub [3, 4, 1, 0, 2] rfl ?_
  exact hk138 x1 v3458 v3460 y0 _ hF
set_option maxHeartbeats 4000000 in
set_option maxRecDepth 20000 in
theorem wbX12_lookUp_171 {E : zE} {C : zC} {f : Nat} {ro : Int32 × zS} (hf : 2 ≤ f) (k111 : Int32 → zS → zR) (hk111 : ∀ (x1 : Int32) (t : zS), k111 x1 t = some ro → zJ E shM C cX12_lookUp RX12 5 f none ro t 111 [(0, .ref (za E 0)), (1, .int x1)] []) (k138 : Int32 → Int32 → Int32 → Int32 → zS → zR) (hk138 : ∀ (x1 x2 x3 x4 : Int32) (t : zS), k138 x1 x2 x3 x4 t = some ro → zJ E shM C cX12_lookUp RX12 5 f none ro t 138 [(0, .ref (za E 0)), (1, .int x1), (2, .int x2), (3, .int x3), (4, .int x4)] []) (x1 : Int32) (x2 : Int32) (x3 : Int32) (t : zS) (hF : bX12_lookUp_171 k111 k138 x1 x2 x3 t = some ro) : zJ E shM C cX12_lookUp RX12 5 f none ro t 171 [(0, .ref (za E 0)), (1, .int x1), (2, .int x2), (3, .int x3)] [] := by
  unfold bX12_lookUp_171 at hF
  refine z_aload_n 0 dX12_lookUp_171 rfl rfl ?_
  refine z_getr fr_RX12_25 dX12_lookUp_172 ?_
  refine z_iload_n 2 dX12_lookUp_175 rfl rfl ?_
  obtain ⟨hi3462, hF⟩ := zrd_at hF
  refine z_iald (n := 3100) rfl hi3462 dX12_lookUp_176 ?_
  generalize t 6 (Int32.toNatClampNeg x2) = v3461 at hF ⊢
  refine z_iload_n 1 dX12_lookUp_177 rfl rfl ?_
  refine z_icmp_ne (tgt := 185) dX12_lookUp_178 (by decide) (fun hc => ?_) (fun hc => ?_)
  · have hF := zif_f hc hF
    refine z_iconst (v := 0) dX12_lookUp_185 (by decide) ?_
    exact wbX12_lookUp_186 hf k111 hk111 k138 hk138 x1 x2 x3 0 _ hF
  · have hF := zif_t hc hF
    refine z_iconst (v := 1) dX12_lookUp_181 (by decide) ?_
    refine z_goto (tgt := 186) dX12_lookUp_182 (by decide) ?_
    exact wbX12_lookUp_186 hf k111 hk111 k138 hk138 x1 x2 x3 1 _ hF
set_option maxHeartbeats 4000000 in
set_option maxRecDepth 20000 in
theorem wbX12_lookUp_221 {E : zE} {C : zC} {f : Nat} {ro : Int32 × zS} (hf : 2 ≤ f) (k111 : Int32 → zS → zR) (hk111 : ∀ (x1 : Int32) (t : zS), k111 x1 t = some ro → zJ E shM C cX12_lookUp RX12 5 f none ro t 111 [(0, .ref (za E 0)), (1, .int x1)] []) (x1 : Int32) (t : zS) (hF : bX12_lookUp_221 k111 x1 t = some ro) : zJ E shM C cX12_lookUp RX12 5 f none ro t 221 [(0, .ref (za E 0)), (1, .int x1)] [] := by
  unfold bX12_lookUp_221 at hF
  obtain ⟨v3463, ev3463⟩ : ∃ y : Int32, y = (x1 + 1) := ⟨_, rfl⟩
  have hF := zlet_at ev3463 hF
  refine z_iinc (v := v3463) (lv' := [(1, .int v3463), (0, .ref (za E 0))]) (k := 1) dX12_lookUp_221 rfl (by rw [ev3463]; rfl) (by decide) rfl ?_
  refine z_goto (tgt := 111) dX12_lookUp_224 (by decide) ?_
  refine z_sub [1, 0] rfl ?_
  exact hk111 v3463 _ hF
set_option maxHeartbeats 4000000 in
set_option maxRecDepth 20000 in
theorem wbX12_lookUp_206 {E : zE} {C : zC} {f : Nat} {ro : Int32 × zS} (hf : 2 ≤ f) (k111 : Int32 → zS → zR) (hk111 : ∀ (x1 : Int32) (t : zS), k111 x1 t = some ro → zJ E shM C cX12_lookUp RX12 5 f none ro t 111 [(0, .ref (za E 0)), (1, .int x1)] []) (x1 : Int32) (x4 : Int32) (t : zS) (hF : bX12_lookUp_206 k111 x1 x4 t = some ro) : zJ E shM C cX12_lookUp RX12 5 f none ro t 206 [(0, .ref (za E 0)), (1, .int x1), (4, .int x4)] [] := by
  unfold bX12_lookUp_206 at hF
  refine z_iload 2 dX12_lookUp_206 rfl ?_
  refine z_if_eq (tgt := 221) dX12_lookUp_208 (by decide) (fun hc => ?_) (fun hc => ?_)
  · have hF := zif_t hc hF
    refine z_sub [0, 1] rfl ?_
    exact wbX12_lookUp_221 hf k111 hk111 x1 _ hF
  · have hF := zif_f hc hF
    refine z_aload_n 0 dX12_lookUp_211 rfl rfl ?_
    refine z_aload_n 0 dX12_lookUp_212 rfl rfl ?_
    refine z_getr fr_RX12_43 dX12_lookUp_213 ?_
    refine z_iload_n 1 dX12_lookUp_216 rfl rfl ?_
    obtain ⟨hi3465, hF⟩ := zrd_at hF
    refine z_iald (n := 400) rfl hi3465 dX12_lookUp_217 ?_
    generalize t 12 (Int32.toNatClampNeg x1) = v3464 at hF ⊢
    refine z_puti fw_RX12_267 dX12_lookUp_218 (fun t3466 et3466 => ?_)
    have hF := zpt_at hF t3466 et3466
    refine z_sub [0, 1] rfl ?_
    exact wbX12_lookUp_221 hf k111 hk111 x1 _ hF
set_option maxHeartbeats 4000000 in
set_option maxRecDepth 20000 in
theorem wbX12_lookUp_138 {E : zE} {C : zC} {f : Nat} {ro : Int32 × zS} (hf : 2 ≤ f) (k111 : Int32 → zS → zR) (hk111 : ∀ (x1 : Int32) (t : zS), k111 x1 t = some ro → zJ E shM C cX12_lookUp RX12 5 f none ro t 111 [(0, .ref (za E 0)), (1, .int x1)] []) (k138 : Int32 → Int32 → Int32 → Int32 → zS → zR) (hk138 : ∀ (x1 x2 x3 x4 : Int32) (t : zS), k138 x1 x2 x3 x4 t = some ro → zJ E shM C cX12_lookUp RX12 5 f none ro t 138 [(0, .ref (za E 0)), (1, .int x1), (2, .int x2), (3, .int x3), (4, .int x4)] []) (x1 : Int32) (x2 : Int32) (x3 : Int32) (x4 : Int32) (t : zS) (hF : bX12_lookUp_138 k111 k138 x1 x2 x3 x4 t = some ro) : zJ E shM C cX12_lookUp RX12 5 f none ro t 138 [(0, .ref (za E 0)), (1, .int x1), (2, .int x2), (3, .int x3), (4, .int x4)] [] := by
  unfold bX12_lookUp_138 at hF
  refine z_iload 4 dX12_lookUp_138 rfl ?_
  refine z_if_ne (tgt := 206) dX12_lookUp_140 (by decide) (fun hc => ?_) (fun hc => ?_)
  · have hF := zif_f hc hF
    refine z_sub [0, 1, 4] rfl ?_
    exact wbX12_lookUp_206 hf k111 hk111 x1 x4 _ hF
  · have hF := zif_t hc hF
    refine z_iload_n 3 dX12_lookUp_143 rfl rfl ?_
    refine z_aload_n 0 dX12_lookUp_144 rfl rfl ?_
    refine z_geti fi_RX12_388 dX12_lookUp_145 ?_
    refine z_icmp_gt (tgt := 206) dX12_lookUp_148 (by decide) (fun hc => ?_) (fun hc => ?_)
    · have hF := zif_t hc hF
      refine z_sub [0, 1, 4] rfl ?_
      exact wbX12_lookUp_206 hf k111 hk111 x1 x4 _ hF
    · have hF := zif_f hc hF
      refine z_aload_n 0 dX12_lookUp_151 rfl rfl ?_
      refine z_getr fr_RX12_22 dX12_lookUp_152 ?_
      refine z_iload_n 2 dX12_lookUp_155 rfl rfl ?_
      obtain ⟨hi3468, hF⟩ := zrd_at hF
      refine z_iald (n := 3100) rfl hi3468 dX12_lookUp_156 ?_
      generalize t 5 (Int32.toNatClampNeg x2) = v3467 at hF ⊢
      refine z_iconst (v := 1) dX12_lookUp_157 (by decide) ?_
      refine z_icmp_eq (tgt := 171) dX12_lookUp_158 (by decide) (fun hc => ?_) (fun hc => ?_)
      · have hF := zif_t hc hF
        refine z_sub [0, 1, 2, 3] rfl ?_
        exact wbX12_lookUp_171 hf k111 hk111 k138 hk138 x1 x2 x3 _ hF
      · have hF := zif_f hc hF
        refine z_aload_n 0 dX12_lookUp_161 rfl rfl ?_
        refine z_getr fr_RX12_22 dX12_lookUp_162 ?_
        refine z_iload_n 2 dX12_lookUp_165 rfl rfl ?_
        obtain ⟨hi3470, hF⟩ := zrd_at hF
        refine z_iald (n := 3100) rfl hi3470 dX12_lookUp_166 ?_
        generalize t 5 (Int32.toNatClampNeg x2) = v3469 at hF ⊢
        refine z_iconst (v := 2) dX12_lookUp_167 (by decide) ?_
        refine z_icmp_ne (tgt := 206) dX12_lookUp_168 (by decide) (fun hc => ?_) (fun hc => ?_)
        · have hF := zif_f hc hF
          refine z_sub [0, 1, 4] rfl ?_
          exact wbX12_lookUp_206 hf k111 hk111 x1 x4 _ hF
        · have hF := zif_t hc hF
          refine z_sub [0, 1, 2, 3] rfl ?_
          exact wbX12_lookUp_171 hf k111 hk111 k138 hk138 x1 x2 x3 _ hF
set_option maxHeartbeats 4000000 in
set_option maxRecDepth 20000 in
theorem wlX12_lookUp_138 {E : zE} {C : zC} {f : Nat} {ro : Int32 × zS} (hf : 2 ≤ f) (k111 : Int32 → zS → zR) (hk111 : ∀ (x1 : Int32) (t : zS), k111 x1 t = some ro → zJ E shM C cX12_lookUp RX12 5 f none ro t 111 [(0, .ref (za E 0)), (1, .int x1)] []) (fu : Nat) : ∀ (x1 x2 x3 x4 : Int32) (t : zS), lX12_lookUp_138 k111 fu x1 x2 x3 x4 t = some ro → zJ E shM C cX12_lookUp RX12 5 f none ro t 138 [(0, .ref (za E 0)), (1, .int x1), (2, .int x2), (3, .int x3), (4, .int x4)] [] := by
  induction fu with
  | zero => intro x1 x2 x3 x4 t hF; cases hF
  | succ fu ih => intro x1 x2 x3 x4 t hF; exact wbX12_lookUp_138 hf k111 hk111 (lX12_lookUp_138 k111 fu) ih x1 x2 x3 x4 t hF
set_option maxHeartbeats 4000000 in
set_option maxRecDepth 20000 in
theorem wbX12_lookUp_111 {E : zE} {C : zC} {f : Nat} {ro : Int32 × zS} (hf : 2 ≤ f) (k111 : Int32 → zS → zR) (hk111 : ∀ (x1 : Int32) (t : zS), k111 x1 t = some ro → zJ E shM C cX12_lookUp RX12 5 f none ro t 111 [(0, .ref (za E 0)), (1, .int x1)] []) (x1 : Int32) (t : zS) (hF : bX12_lookUp_111 k111 x1 t = some ro) : zJ E shM C cX12_lookUp RX12 5 f none ro t 111 [(0, .ref (za E 0)), (1, .int x1)] [] := by
  unfold bX12_lookUp_111 at hF
  refine z_iload_n 1 dX12_lookUp_111 rfl rfl ?_
  refine z_aload_n 0 dX12_lookUp_112 rfl rfl ?_
  refine z_geti fi_RX12_388 dX12_lookUp_113 ?_
  refine z_icmp_ge (tgt := 227) dX12_lookUp_116 (by decide) (fun hc => ?_) (fun hc => ?_)
  · have hF := zif_t hc hF
    exact z_vret hF dX12_lookUp_227
  · have hF := zif_f hc hF
    refine z_aload_n 0 dX12_lookUp_119 rfl rfl ?_
    refine z_geti fi_RX12_267 dX12_lookUp_120 ?_
    refine z_if_ge (tgt := 227) dX12_lookUp_123 (by decide) (fun hc => ?_) (fun hc => ?_)
    · have hF := zif_t hc hF
      exact z_vret hF dX12_lookUp_227
    · have hF := zif_f hc hF
      refine z_aload_n 0 dX12_lookUp_126 rfl rfl ?_
      refine z_getr fr_RX12_46 dX12_lookUp_127 ?_
      refine z_iload_n 1 dX12_lookUp_130 rfl rfl ?_
      obtain ⟨hi3472, hF⟩ := zrd_at hF
      refine z_iald (n := 400) rfl hi3472 dX12_lookUp_131 ?_
      generalize t 13 (Int32.toNatClampNeg x1) = v3471 at hF ⊢
      refine z_istore_n (lv' := [(2, .int v3471), (0, .ref (za E 0)), (1, .int x1)]) dX12_lookUp_132 rfl (by decide) rfl ?_
      refine z_iconst (v := 0) dX12_lookUp_133 (by decide) ?_
      refine z_istore_n (lv' := [(3, .int 0), (2, .int v3471), (0, .ref (za E 0)), (1, .int x1)]) dX12_lookUp_134 rfl (by decide) rfl ?_
      refine z_iconst (v := 0) dX12_lookUp_135 (by decide) ?_
      refine z_istore (lv' := [(4, .int 0), (3, .int 0), (2, .int v3471), (0, .ref (za E 0)), (1, .int x1)]) dX12_lookUp_136 (by decide) rfl ?_
      refine z_sub [3, 4, 2, 1, 0] rfl ?_
      exact wlX12_lookUp_138 hf k111 hk111 zFU x1 v3471 0 0 _ hF
set_option maxHeartbeats 4000000 in
set_option maxRecDepth 20000 in
theorem wlX12_lookUp_111 {E : zE} {C : zC} {f : Nat} {ro : Int32 × zS} (hf : 2 ≤ f) (fu : Nat) : ∀ (x1 : Int32) (t : zS), lX12_lookUp_111  fu x1 t = some ro → zJ E shM C cX12_lookUp RX12 5 f none ro t 111 [(0, .ref (za E 0)), (1, .int x1)] [] := by
  induction fu with
  | zero => intro x1 t hF; cases hF
  | succ fu ih => intro x1 t hF; exact wbX12_lookUp_111 hf (lX12_lookUp_111  fu) ih x1 t hF
set_option maxHeartbeats 4000000 in
set_option maxRecDepth 20000 in
theorem wbX12_lookUp_109 {E : zE} {C : zC} {f : Nat} {ro : Int32 × zS} (hf : 2 ≤ f) (t : zS) (hF : bX12_lookUp_109   t = some ro) : zJ E shM C cX12_lookUp RX12 5 f none ro t 109 [(0, .ref (za E 0))] [] := by
  unfold bX12_lookUp_109 at hF
  refine z_iconst (v := 0) dX12_lookUp_109 (by decide) ?_
  refine z_istore_n (lv' := [(1, .int 0), (0, .ref (za E 0))]) dX12_lookUp_110 rfl (by decide) rfl ?_
  refine z_sub [1, 0] rfl ?_
  exact wlX12_lookUp_111 hf  zFU 0 _ hF
set_option maxHeartbeats 4000000 in
set_option maxRecDepth 20000 in
theorem wbX12_lookUp_2 {E : zE} {C : zC} {f : Nat} {ro : Int32 × zS} (hf : 2 ≤ f) (k2 : Int32 → zS → zR) (hk2 : ∀ (x1 : Int32) (t : zS), k2 x1 t = some ro → zJ E shM C cX12_lookUp RX12 5 f none ro t 2 [(0, .ref (za E 0)), (1, .int x1)] []) (x1 : Int32) (t : zS) (hF : bX12_lookUp_2 k2 x1 t = some ro) : zJ E shM C cX12_lookUp RX12 5 f none ro t 2 [(0, .ref (za E 0)), (1, .int x1)] [] := by
  unfold bX12_lookUp_2 at hF
  refine z_iload_n 1 dX12_lookUp_2 rfl rfl ?_
  refine z_aload_n 0 dX12_lookUp_3 rfl rfl ?_
  refine z_geti fi_RX12_289 dX12_lookUp_4 ?_
  refine z_icmp_ge (tgt := 109) dX12_lookUp_7 (by decide) (fun hc => ?_) (fun hc => ?_)
  · have hF := zif_t hc hF
    refine z_sub [0] rfl ?_
    exact wbX12_lookUp_109 hf   _ hF
  · have hF := zif_f hc hF
    refine z_aload_n 0 dX12_lookUp_10 rfl rfl ?_
    refine z_geti fi_RX12_267 dX12_lookUp_11 ?_
    refine z_if_ge (tgt := 109) dX12_lookUp_14 (by decide) (fun hc => ?_) (fun hc => ?_)
    · have hF := zif_t hc hF
      refine z_sub [0] rfl ?_
      exact wbX12_lookUp_109 hf   _ hF
    · have hF := zif_f hc hF
      refine z_aload_n 0 dX12_lookUp_17 rfl rfl ?_
      refine z_getr fr_RX12_118 dX12_lookUp_18 ?_
      refine z_iload_n 1 dX12_lookUp_21 rfl rfl ?_
      obtain ⟨hi3474, hF⟩ := zrd_at hF
      refine z_zald (n := 3000) rfl hi3474 dX12_lookUp_22 ?_
      generalize t 37 (Int32.toNatClampNeg x1) = v3473 at hF ⊢
      refine z_if_eq (tgt := 39) dX12_lookUp_23 (by decide) (fun hc => ?_) (fun hc => ?_)
      · have hF := zif_t hc hF
        refine z_aload_n 0 dX12_lookUp_39 rfl rfl ?_
        refine z_aload_n 0 dX12_lookUp_40 rfl rfl ?_
        refine z_getr fr_RX12_112 dX12_lookUp_41 ?_
        refine z_iload_n 1 dX12_lookUp_44 rfl rfl ?_
        obtain ⟨hi3476, hF⟩ := zrd_at hF
        refine z_iald (n := 3000) rfl hi3476 dX12_lookUp_45 ?_
        generalize t 35 (Int32.toNatClampNeg x1) = v3475 at hF ⊢
        obtain ⟨r3477, t3478, hc3479, hF⟩ := zbd_at hF
        refine z_callVi (ctX12_typeOfId (E := E) (f := f - 1) (by omega) hc3479) yy_X12_typeOfId yv_X12_typeOfId ob_M_0 lk_RX12_391 (by omega) rfl rfl (Nat.le_of_ble_eq_true rfl) dX12_lookUp_46 ?_
        exact wbX12_lookUp_49 hf k2 hk2 x1 r3477 _ hF
      · have hF := zif_f hc hF
        refine z_aload_n 0 dX12_lookUp_26 rfl rfl ?_
        refine z_aload_n 0 dX12_lookUp_27 rfl rfl ?_
        refine z_getr fr_RX12_112 dX12_lookUp_28 ?_
        refine z_iload_n 1 dX12_lookUp_31 rfl rfl ?_
        obtain ⟨hi3481, hF⟩ := zrd_at hF
        refine z_iald (n := 3000) rfl hi3481 dX12_lookUp_32 ?_
        generalize t 35 (Int32.toNatClampNeg x1) = v3480 at hF ⊢
        obtain ⟨r3482, t3483, hc3484, hF⟩ := zbd_at hF
        refine z_callVi (ctX12_procOfId (E := E) (f := f - 1) (by omega) hc3484) yy_X12_procOfId yv_X12_procOfId ob_M_0 lk_RX12_394 (by omega) rfl rfl (Nat.le_of_ble_eq_true rfl) dX12_lookUp_33 ?_
        refine z_goto (tgt := 49) dX12_lookUp_36 (by decide) ?_
        exact wbX12_lookUp_49 hf k2 hk2 x1 r3482 _ hF
set_option maxHeartbeats 4000000 in
set_option maxRecDepth 20000 in
theorem wlX12_lookUp_2 {E : zE} {C : zC} {f : Nat} {ro : Int32 × zS} (hf : 2 ≤ f) (fu : Nat) : ∀ (x1 : Int32) (t : zS), lX12_lookUp_2  fu x1 t = some ro → zJ E shM C cX12_lookUp RX12 5 f none ro t 2 [(0, .ref (za E 0)), (1, .int x1)] [] := by
  induction fu with
  | zero => intro x1 t hF; cases hF
  | succ fu ih => intro x1 t hF; exact wbX12_lookUp_2 hf (lX12_lookUp_2  fu) ih x1 t hF
set_option maxHeartbeats 4000000 in
set_option maxRecDepth 20000 in
theorem ctX12_lookUp {E : zE} {f : Nat} (hf : 2 ≤ f) {t : zS} {ro : Int32 × zS} (hF : mX12_lookUp   t = some ro) : zM E shM f yX12_lookUp cX12_lookUp 5 none [.ref (za E 0)] t ro := by
  refine zM_of (by decide) (Nat.le_of_ble_eq_true rfl) (fun C => ?_)
  show zJ E shM C cX12_lookUp RX12 5 f none ro t 0 [(0, .ref (za E 0))] []
  unfold mX12_lookUp at hF
  refine z_iconst (v := 0) dX12_lookUp_0 (by decide) ?_
  refine z_istore_n (lv' := [(1, .int 0), (0, .ref (za E 0))]) dX12_lookUp_1 rfl (by decide) rfl ?_
  refine z_sub [1, 0] rfl ?_
  exact wlX12_lookUp_2 hf  zFU 0 _ hF
-- SessionHouseModel.setAfter()V
theorem dX12_setAfter_0 : decode cX12_setAfter 0 = .ok (.iconst 0, 1) := by decide +kernel
theorem dX12_setAfter_1 : decode cX12_setAfter 1 = .ok (.istore_n 1, 1) := by decide +kernel
theorem dX12_setAfter_2 : decode cX12_setAfter 2 = .ok (.iload_n 1, 1) := by decide +kernel
theorem dX12_setAfter_3 : decode cX12_setAfter 3 = .ok (.aload_n 0, 1) := by decide +kernel
theorem dX12_setAfter_4 : decode cX12_setAfter 4 = .ok (.getfield 343, 3) := by decide +kernel
theorem dX12_setAfter_7 : decode cX12_setAfter 7 = .ok (.if_icmp .ge 245, 3) := by decide +kernel
theorem dX12_setAfter_10 : decode cX12_setAfter 10 = .ok (.aload_n 0, 1) := by decide +kernel
theorem dX12_setAfter_11 : decode cX12_setAfter 11 = .ok (.getfield 70, 3) := by decide +kernel
theorem dX12_setAfter_14 : decode cX12_setAfter 14 = .ok (.iload_n 1, 1) := by decide +kernel
theorem dX12_setAfter_15 : decode cX12_setAfter 15 = .ok (.iaload, 1) := by decide +kernel
theorem dX12_setAfter_16 : decode cX12_setAfter 16 = .ok (.bipush (-2), 2) := by decide +kernel
theorem dX12_setAfter_18 : decode cX12_setAfter 18 = .ok (.if_icmp .gt 26, 3) := by decide +kernel
theorem dX12_setAfter_21 : decode cX12_setAfter 21 = .ok (.aload_n 0, 1) := by decide +kernel
theorem dX12_setAfter_22 : decode cX12_setAfter 22 = .ok (.getfield 70, 3) := by decide +kernel
theorem dX12_setAfter_25 : decode cX12_setAfter 25 = .ok (.iload_n 1, 1) := by decide +kernel
theorem dX12_setAfter_26 : decode cX12_setAfter 26 = .ok (.aload_n 0, 1) := by decide +kernel
theorem dX12_setAfter_27 : decode cX12_setAfter 27 = .ok (.getfield 70, 3) := by decide +kernel
theorem dX12_setAfter_30 : decode cX12_setAfter 30 = .ok (.bipush (-2), 2) := by decide +kernel
theorem dX12_setAfter_32 : decode cX12_setAfter 32 = .ok (.aload_n 0, 1) := by decide +kernel
theorem dX12_setAfter_33 : decode cX12_setAfter 33 = .ok (.getfield 70, 3) := by decide +kernel
theorem dX12_setAfter_36 : decode cX12_setAfter 36 = .ok (.iload_n 1, 1) := by decide +kernel
theorem dX12_setAfter_37 : decode cX12_setAfter 37 = .ok (.iaload, 1) := by decide +kernel
theorem dX12_setAfter_38 : decode cX12_setAfter 38 = .ok (.isub, 1) := by decide +kernel
theorem dX12_setAfter_39 : decode cX12_setAfter 39 = .ok (.iaload, 1) := by decide +kernel
theorem dX12_setAfter_40 : decode cX12_setAfter 40 = .ok (.iastore, 1) := by decide +kernel
theorem dX12_setAfter_41 : decode cX12_setAfter 41 = .ok (.goto (-31), 3) := by decide +kernel
theorem dX12_setAfter_44 : decode cX12_setAfter 44 = .ok (.aload_n 0, 1) := by decide +kernel
theorem dX12_setAfter_45 : decode cX12_setAfter 45 = .ok (.getfield 49, 3) := by decide +kernel
theorem dX12_setAfter_48 : decode cX12_setAfter 48 = .ok (.iload_n 1, 1) := by decide +kernel
theorem dX12_setAfter_49 : decode cX12_setAfter 49 = .ok (.iaload, 1) := by decide +kernel
theorem dX12_setAfter_50 : decode cX12_setAfter 50 = .ok (.bipush 10, 2) := by decide +kernel
theorem dX12_setAfter_52 : decode cX12_setAfter 52 = .ok (.if_icmp .ne 71, 3) := by decide +kernel
theorem dX12_setAfter_55 : decode cX12_setAfter 55 = .ok (.aload_n 0, 1) := by decide +kernel
theorem dX12_setAfter_56 : decode cX12_setAfter 56 = .ok (.getfield 64, 3) := by decide +kernel
theorem dX12_setAfter_59 : decode cX12_setAfter 59 = .ok (.iload_n 1, 1) := by decide +kernel
theorem dX12_setAfter_60 : decode cX12_setAfter 60 = .ok (.iaload, 1) := by decide +kernel
theorem dX12_setAfter_61 : decode cX12_setAfter 61 = .ok (.bipush (-2), 2) := by decide +kernel
theorem dX12_setAfter_63 : decode cX12_setAfter 63 = .ok (.if_icmp .gt 26, 3) := by decide +kernel
theorem dX12_setAfter_66 : decode cX12_setAfter 66 = .ok (.aload_n 0, 1) := by decide +kernel
theorem dX12_setAfter_67 : decode cX12_setAfter 67 = .ok (.getfield 64, 3) := by decide +kernel
theorem dX12_setAfter_70 : decode cX12_setAfter 70 = .ok (.iload_n 1, 1) := by decide +kernel
theorem dX12_setAfter_71 : decode cX12_setAfter 71 = .ok (.aload_n 0, 1) := by decide +kernel
theorem dX12_setAfter_72 : decode cX12_setAfter 72 = .ok (.getfield 70, 3) := by decide +kernel
theorem dX12_setAfter_75 : decode cX12_setAfter 75 = .ok (.bipush (-2), 2) := by decide +kernel
theorem dX12_setAfter_77 : decode cX12_setAfter 77 = .ok (.aload_n 0, 1) := by decide +kernel
theorem dX12_setAfter_78 : decode cX12_setAfter 78 = .ok (.getfield 64, 3) := by decide +kernel
theorem dX12_setAfter_81 : decode cX12_setAfter 81 = .ok (.iload_n 1, 1) := by decide +kernel
theorem dX12_setAfter_82 : decode cX12_setAfter 82 = .ok (.iaload, 1) := by decide +kernel
theorem dX12_setAfter_83 : decode cX12_setAfter 83 = .ok (.isub, 1) := by decide +kernel
theorem dX12_setAfter_84 : decode cX12_setAfter 84 = .ok (.iaload, 1) := by decide +kernel
theorem dX12_setAfter_85 : decode cX12_setAfter 85 = .ok (.iastore, 1) := by decide +kernel
theorem dX12_setAfter_86 : decode cX12_setAfter 86 = .ok (.goto (-31), 3) := by decide +kernel
theorem dX12_setAfter_89 : decode cX12_setAfter 89 = .ok (.aload_n 0, 1) := by decide +kernel
theorem dX12_setAfter_90 : decode cX12_setAfter 90 = .ok (.getfield 67, 3) := by decide +kernel
theorem dX12_setAfter_93 : decode cX12_setAfter 93 = .ok (.iload_n 1, 1) := by decide +kernel
theorem dX12_setAfter_94 : decode cX12_setAfter 94 = .ok (.iaload, 1) := by decide +kernel
theorem dX12_setAfter_95 : decode cX12_setAfter 95 = .ok (.bipush (-2), 2) := by decide +kernel
theorem dX12_setAfter_97 : decode cX12_setAfter 97 = .ok (.if_icmp .gt 26, 3) := by decide +kernel
theorem dX12_setAfter_100 : decode cX12_setAfter 100 = .ok (.aload_n 0, 1) := by decide +kernel
theorem dX12_setAfter_101 : decode cX12_setAfter 101 = .ok (.getfield 67, 3) := by decide +kernel
theorem dX12_setAfter_104 : decode cX12_setAfter 104 = .ok (.iload_n 1, 1) := by decide +kernel
theorem dX12_setAfter_105 : decode cX12_setAfter 105 = .ok (.aload_n 0, 1) := by decide +kernel
theorem dX12_setAfter_106 : decode cX12_setAfter 106 = .ok (.getfield 70, 3) := by decide +kernel
theorem dX12_setAfter_109 : decode cX12_setAfter 109 = .ok (.bipush (-2), 2) := by decide +kernel
theorem dX12_setAfter_111 : decode cX12_setAfter 111 = .ok (.aload_n 0, 1) := by decide +kernel
theorem dX12_setAfter_112 : decode cX12_setAfter 112 = .ok (.getfield 67, 3) := by decide +kernel
theorem dX12_setAfter_115 : decode cX12_setAfter 115 = .ok (.iload_n 1, 1) := by decide +kernel
theorem dX12_setAfter_116 : decode cX12_setAfter 116 = .ok (.iaload, 1) := by decide +kernel
theorem dX12_setAfter_117 : decode cX12_setAfter 117 = .ok (.isub, 1) := by decide +kernel
theorem dX12_setAfter_118 : decode cX12_setAfter 118 = .ok (.iaload, 1) := by decide +kernel
theorem dX12_setAfter_119 : decode cX12_setAfter 119 = .ok (.iastore, 1) := by decide +kernel
theorem dX12_setAfter_120 : decode cX12_setAfter 120 = .ok (.goto (-31), 3) := by decide +kernel
theorem dX12_setAfter_123 : decode cX12_setAfter 123 = .ok (.aload_n 0, 1) := by decide +kernel
theorem dX12_setAfter_124 : decode cX12_setAfter 124 = .ok (.getfield 49, 3) := by decide +kernel
theorem dX12_setAfter_127 : decode cX12_setAfter 127 = .ok (.iload_n 1, 1) := by decide +kernel
theorem dX12_setAfter_128 : decode cX12_setAfter 128 = .ok (.iaload, 1) := by decide +kernel
theorem dX12_setAfter_129 : decode cX12_setAfter 129 = .ok (.bipush 11, 2) := by decide +kernel
theorem dX12_setAfter_131 : decode cX12_setAfter 131 = .ok (.if_icmp .ne 37, 3) := by decide +kernel
theorem dX12_setAfter_134 : decode cX12_setAfter 134 = .ok (.aload_n 0, 1) := by decide +kernel
theorem dX12_setAfter_135 : decode cX12_setAfter 135 = .ok (.getfield 64, 3) := by decide +kernel
theorem dX12_setAfter_138 : decode cX12_setAfter 138 = .ok (.iload_n 1, 1) := by decide +kernel
theorem dX12_setAfter_139 : decode cX12_setAfter 139 = .ok (.iaload, 1) := by decide +kernel
theorem dX12_setAfter_140 : decode cX12_setAfter 140 = .ok (.bipush (-2), 2) := by decide +kernel
theorem dX12_setAfter_142 : decode cX12_setAfter 142 = .ok (.if_icmp .gt 26, 3) := by decide +kernel
theorem dX12_setAfter_145 : decode cX12_setAfter 145 = .ok (.aload_n 0, 1) := by decide +kernel
theorem dX12_setAfter_146 : decode cX12_setAfter 146 = .ok (.getfield 64, 3) := by decide +kernel
theorem dX12_setAfter_149 : decode cX12_setAfter 149 = .ok (.iload_n 1, 1) := by decide +kernel
theorem dX12_setAfter_150 : decode cX12_setAfter 150 = .ok (.aload_n 0, 1) := by decide +kernel
theorem dX12_setAfter_151 : decode cX12_setAfter 151 = .ok (.getfield 70, 3) := by decide +kernel
theorem dX12_setAfter_154 : decode cX12_setAfter 154 = .ok (.bipush (-2), 2) := by decide +kernel
theorem dX12_setAfter_156 : decode cX12_setAfter 156 = .ok (.aload_n 0, 1) := by decide +kernel
theorem dX12_setAfter_157 : decode cX12_setAfter 157 = .ok (.getfield 64, 3) := by decide +kernel
theorem dX12_setAfter_160 : decode cX12_setAfter 160 = .ok (.iload_n 1, 1) := by decide +kernel
theorem dX12_setAfter_161 : decode cX12_setAfter 161 = .ok (.iaload, 1) := by decide +kernel
theorem dX12_setAfter_162 : decode cX12_setAfter 162 = .ok (.isub, 1) := by decide +kernel
theorem dX12_setAfter_163 : decode cX12_setAfter 163 = .ok (.iaload, 1) := by decide +kernel
theorem dX12_setAfter_164 : decode cX12_setAfter 164 = .ok (.iastore, 1) := by decide +kernel
theorem dX12_setAfter_165 : decode cX12_setAfter 165 = .ok (.goto (-31), 3) := by decide +kernel
theorem dX12_setAfter_168 : decode cX12_setAfter 168 = .ok (.aload_n 0, 1) := by decide +kernel
theorem dX12_setAfter_169 : decode cX12_setAfter 169 = .ok (.getfield 49, 3) := by decide +kernel
theorem dX12_setAfter_172 : decode cX12_setAfter 172 = .ok (.iload_n 1, 1) := by decide +kernel
theorem dX12_setAfter_173 : decode cX12_setAfter 173 = .ok (.iaload, 1) := by decide +kernel
theorem dX12_setAfter_174 : decode cX12_setAfter 174 = .ok (.bipush 6, 2) := by decide +kernel
theorem dX12_setAfter_176 : decode cX12_setAfter 176 = .ok (.if_icmp .eq 6, 3) := by decide +kernel
theorem dX12_setAfter_179 : decode cX12_setAfter 179 = .ok (.goto 67, 3) := by decide +kernel
theorem dX12_setAfter_182 : decode cX12_setAfter 182 = .ok (.aload_n 0, 1) := by decide +kernel
theorem dX12_setAfter_183 : decode cX12_setAfter 183 = .ok (.getfield 64, 3) := by decide +kernel
theorem dX12_setAfter_186 : decode cX12_setAfter 186 = .ok (.iload_n 1, 1) := by decide +kernel
theorem dX12_setAfter_187 : decode cX12_setAfter 187 = .ok (.iaload, 1) := by decide +kernel
theorem dX12_setAfter_188 : decode cX12_setAfter 188 = .ok (.istore_n 2, 1) := by decide +kernel
theorem dX12_setAfter_189 : decode cX12_setAfter 189 = .ok (.iload_n 2, 1) := by decide +kernel
theorem dX12_setAfter_190 : decode cX12_setAfter 190 = .ok (.aload_n 0, 1) := by decide +kernel
theorem dX12_setAfter_191 : decode cX12_setAfter 191 = .ok (.getfield 64, 3) := by decide +kernel
theorem dX12_setAfter_194 : decode cX12_setAfter 194 = .ok (.iload_n 1, 1) := by decide +kernel
theorem dX12_setAfter_195 : decode cX12_setAfter 195 = .ok (.iaload, 1) := by decide +kernel
theorem dX12_setAfter_196 : decode cX12_setAfter 196 = .ok (.aload_n 0, 1) := by decide +kernel
theorem dX12_setAfter_197 : decode cX12_setAfter 197 = .ok (.getfield 67, 3) := by decide +kernel
theorem dX12_setAfter_200 : decode cX12_setAfter 200 = .ok (.iload_n 1, 1) := by decide +kernel
theorem dX12_setAfter_201 : decode cX12_setAfter 201 = .ok (.iaload, 1) := by decide +kernel
theorem dX12_setAfter_202 : decode cX12_setAfter 202 = .ok (.iadd, 1) := by decide +kernel
theorem dX12_setAfter_203 : decode cX12_setAfter 203 = .ok (.if_icmp .ge 43, 3) := by decide +kernel
theorem dX12_setAfter_206 : decode cX12_setAfter 206 = .ok (.aload_n 0, 1) := by decide +kernel
theorem dX12_setAfter_207 : decode cX12_setAfter 207 = .ok (.getfield 79, 3) := by decide +kernel
theorem dX12_setAfter_210 : decode cX12_setAfter 210 = .ok (.iload_n 2, 1) := by decide +kernel
theorem dX12_setAfter_211 : decode cX12_setAfter 211 = .ok (.iaload, 1) := by decide +kernel
theorem dX12_setAfter_212 : decode cX12_setAfter 212 = .ok (.bipush (-2), 2) := by decide +kernel
theorem dX12_setAfter_214 : decode cX12_setAfter 214 = .ok (.if_icmp .gt 26, 3) := by decide +kernel
theorem dX12_setAfter_217 : decode cX12_setAfter 217 = .ok (.aload_n 0, 1) := by decide +kernel
theorem dX12_setAfter_218 : decode cX12_setAfter 218 = .ok (.getfield 79, 3) := by decide +kernel
theorem dX12_setAfter_221 : decode cX12_setAfter 221 = .ok (.iload_n 2, 1) := by decide +kernel
theorem dX12_setAfter_222 : decode cX12_setAfter 222 = .ok (.aload_n 0, 1) := by decide +kernel
theorem dX12_setAfter_223 : decode cX12_setAfter 223 = .ok (.getfield 70, 3) := by decide +kernel
theorem dX12_setAfter_226 : decode cX12_setAfter 226 = .ok (.bipush (-2), 2) := by decide +kernel
theorem dX12_setAfter_228 : decode cX12_setAfter 228 = .ok (.aload_n 0, 1) := by decide +kernel
theorem dX12_setAfter_229 : decode cX12_setAfter 229 = .ok (.getfield 79, 3) := by decide +kernel
theorem dX12_setAfter_232 : decode cX12_setAfter 232 = .ok (.iload_n 2, 1) := by decide +kernel
theorem dX12_setAfter_233 : decode cX12_setAfter 233 = .ok (.iaload, 1) := by decide +kernel
theorem dX12_setAfter_234 : decode cX12_setAfter 234 = .ok (.isub, 1) := by decide +kernel
theorem dX12_setAfter_235 : decode cX12_setAfter 235 = .ok (.iaload, 1) := by decide +kernel
theorem dX12_setAfter_236 : decode cX12_setAfter 236 = .ok (.iastore, 1) := by decide +kernel
theorem dX12_setAfter_237 : decode cX12_setAfter 237 = .ok (.goto (-31), 3) := by decide +kernel
theorem dX12_setAfter_240 : decode cX12_setAfter 240 = .ok (.iinc 2 1, 3) := by decide +kernel
theorem dX12_setAfter_243 : decode cX12_setAfter 243 = .ok (.goto (-54), 3) := by decide +kernel
theorem dX12_setAfter_246 : decode cX12_setAfter 246 = .ok (.iinc 1 1, 3) := by decide +kernel
theorem dX12_setAfter_249 : decode cX12_setAfter 249 = .ok (.goto (-247), 3) := by decide +kernel
theorem dX12_setAfter_252 : decode cX12_setAfter 252 = .ok (.return_, 1) := by decide +kernel
def bX12_setAfter_246 (k2 : Int32 → zS → zR) (x1 : Int32) (t : zS) : zR := zlet (x1 + 1) fun v3485 => k2 v3485 t
def bX12_setAfter_206 (k2 : Int32 → zS → zR) (k189 : Int32 → Int32 → zS → zR) (k206 : Int32 → Int32 → zS → zR) (x1 : Int32) (x2 : Int32) (t : zS) : zR := zrd t 24 1600 x2 fun v3486 => if (-2) < v3486 then zlet (x2 + 1) fun v3488 => k189 x1 v3488 t else zrd t 24 1600 x2 fun v3489 => zrd t 21 1600 ((-2) - v3489) fun v3491 => zwr t 24 1600 x2 v3491 fun t3494 => k206 x1 x2 t3494
def lX12_setAfter_206 (k2 : Int32 → zS → zR) (k189 : Int32 → Int32 → zS → zR) : Nat → Int32 → Int32 → zS → zR
  | 0, _, _, _ => none
  | fu + 1, x1, x2, t => bX12_setAfter_206 k2 k189 (lX12_setAfter_206 k2 k189 fu) x1 x2 t
def bX12_setAfter_189 (k2 : Int32 → zS → zR) (k189 : Int32 → Int32 → zS → zR) (x1 : Int32) (x2 : Int32) (t : zS) : zR := zrd t 19 1600 x1 fun v3495 => zrd t 20 1600 x1 fun v3497 => if (v3495 + v3497) ≤ x2 then bX12_setAfter_246 k2 x1 t else lX12_setAfter_206 k2 k189 zFU x1 x2 t
def lX12_setAfter_189 (k2 : Int32 → zS → zR) : Nat → Int32 → Int32 → zS → zR
  | 0, _, _, _ => none
  | fu + 1, x1, x2, t => bX12_setAfter_189 k2 (lX12_setAfter_189 k2 fu) x1 x2 t
def bX12_setAfter_168 (k2 : Int32 → zS → zR) (x1 : Int32) (t : zS) : zR := zrd t 14 1600 x1 fun v3499 => if v3499 = 6 then zrd t 19 1600 x1 fun v3501 => lX12_setAfter_189 k2 zFU x1 v3501 t else bX12_setAfter_246 k2 x1 t
def bX12_setAfter_134 (k2 : Int32 → zS → zR) (k134 : Int32 → zS → zR) (x1 : Int32) (t : zS) : zR := zrd t 19 1600 x1 fun v3503 => if (-2) < v3503 then bX12_setAfter_168 k2 x1 t else zrd t 19 1600 x1 fun v3505 => zrd t 21 1600 ((-2) - v3505) fun v3507 => zwr t 19 1600 x1 v3507 fun t3510 => k134 x1 t3510
def lX12_setAfter_134 (k2 : Int32 → zS → zR) : Nat → Int32 → zS → zR
  | 0, _, _ => none
  | fu + 1, x1, t => bX12_setAfter_134 k2 (lX12_setAfter_134 k2 fu) x1 t
def bX12_setAfter_123 (k2 : Int32 → zS → zR) (x1 : Int32) (t : zS) : zR := zrd t 14 1600 x1 fun v3511 => if v3511 = 11 then lX12_setAfter_134 k2 zFU x1 t else bX12_setAfter_168 k2 x1 t
def bX12_setAfter_89 (k2 : Int32 → zS → zR) (k89 : Int32 → zS → zR) (x1 : Int32) (t : zS) : zR := zrd t 20 1600 x1 fun v3513 => if (-2) < v3513 then bX12_setAfter_123 k2 x1 t else zrd t 20 1600 x1 fun v3515 => zrd t 21 1600 ((-2) - v3515) fun v3517 => zwr t 20 1600 x1 v3517 fun t3520 => k89 x1 t3520
def lX12_setAfter_89 (k2 : Int32 → zS → zR) : Nat → Int32 → zS → zR
  | 0, _, _ => none
  | fu + 1, x1, t => bX12_setAfter_89 k2 (lX12_setAfter_89 k2 fu) x1 t
def bX12_setAfter_55 (k2 : Int32 → zS → zR) (k55 : Int32 → zS → zR) (x1 : Int32) (t : zS) : zR := zrd t 19 1600 x1 fun v3521 => if (-2) < v3521 then lX12_setAfter_89 k2 zFU x1 t else zrd t 19 1600 x1 fun v3523 => zrd t 21 1600 ((-2) - v3523) fun v3525 => zwr t 19 1600 x1 v3525 fun t3528 => k55 x1 t3528
def lX12_setAfter_55 (k2 : Int32 → zS → zR) : Nat → Int32 → zS → zR
  | 0, _, _ => none
  | fu + 1, x1, t => bX12_setAfter_55 k2 (lX12_setAfter_55 k2 fu) x1 t
def bX12_setAfter_10 (k2 : Int32 → zS → zR) (k10 : Int32 → zS → zR) (x1 : Int32) (t : zS) : zR := zrd t 21 1600 x1 fun v3529 => if (-2) < v3529 then zrd t 14 1600 x1 fun v3531 => if v3531 = 10 then lX12_setAfter_55 k2 zFU x1 t else bX12_setAfter_123 k2 x1 t else zrd t 21 1600 x1 fun v3533 => zrd t 21 1600 ((-2) - v3533) fun v3535 => zwr t 21 1600 x1 v3535 fun t3538 => k10 x1 t3538
def lX12_setAfter_10 (k2 : Int32 → zS → zR) : Nat → Int32 → zS → zR
  | 0, _, _ => none
  | fu + 1, x1, t => bX12_setAfter_10 k2 (lX12_setAfter_10 k2 fu) x1 t
def bX12_setAfter_2 (k2 : Int32 → zS → zR) (x1 : Int32) (t : zS) : zR := if (t 0 26) ≤ x1 then some (0, t) else lX12_setAfter_10 k2 zFU x1 t
def lX12_setAfter_2 : Nat → Int32 → zS → zR
  | 0, _, _ => none
  | fu + 1, x1, t => bX12_setAfter_2 (lX12_setAfter_2  fu) x1 t
def mX12_setAfter (t : zS) : zR := lX12_setAfter_2  zFU 0 t
set_option maxHeartbeats 4000000 in
set_option maxRecDepth 20000 in
theorem wbX12_setAfter_246 {E : zE} {C : zC} {f : Nat} {ro : Int32 × zS} (hf : 1 ≤ f) (k2 : Int32 → zS → zR) (hk2 : ∀ (x1 : Int32) (t : zS), k2 x1 t = some ro → zJ E shM C cX12_setAfter RX12 3 f none ro t 2 [(0, .ref (za E 0)), (1, .int x1)] []) (x1 : Int32) (t : zS) (hF : bX12_setAfter_246 k2 x1 t = some ro) : zJ E shM C cX12_setAfter RX12 3 f none ro t 246 [(0, .ref (za E 0)), (1, .int x1)] [] := by
  unfold bX12_setAfter_246 at hF
  obtain ⟨v3485, ev3485⟩ : ∃ y : Int32, y = (x1 + 1) := ⟨_, rfl⟩
  have hF := zlet_at ev3485 hF
  refine z_iinc (v := v3485) (lv' := [(1, .int v3485), (0, .ref (za E 0))]) (k := 1) dX12_setAfter_246 rfl (by rw [ev3485]; rfl) (by decide) rfl ?_
  refine z_goto (tgt := 2) dX12_setAfter_249 (by decide) ?_
  refine z_sub [1, 0] rfl ?_
  exact hk2 v3485 _ hF
set_option maxHeartbeats 4000000 in
set_option maxRecDepth 20000 in
theorem wbX12_setAfter_206 {E : zE} {C : zC} {f : Nat} {ro : Int32 × zS} (hf : 1 ≤ f) (k2 : Int32 → zS → zR) (hk2 : ∀ (x1 : Int32) (t : zS), k2 x1 t = some ro → zJ E shM C cX12_setAfter RX12 3 f none ro t 2 [(0, .ref (za E 0)), (1, .int x1)] []) (k189 : Int32 → Int32 → zS → zR) (hk189 : ∀ (x1 x2 : Int32) (t : zS), k189 x1 x2 t = some ro → zJ E shM C cX12_setAfter RX12 3 f none ro t 189 [(0, .ref (za E 0)), (1, .int x1), (2, .int x2)] []) (k206 : Int32 → Int32 → zS → zR) (hk206 : ∀ (x1 x2 : Int32) (t : zS), k206 x1 x2 t = some ro → zJ E shM C cX12_setAfter RX12 3 f none ro t 206 [(0, .ref (za E 0)), (1, .int x1), (2, .int x2)] []) (x1 : Int32) (x2 : Int32) (t : zS) (hF : bX12_setAfter_206 k2 k189 k206 x1 x2 t = some ro) : zJ E shM C cX12_setAfter RX12 3 f none ro t 206 [(0, .ref (za E 0)), (1, .int x1), (2, .int x2)] [] := by
  unfold bX12_setAfter_206 at hF
  refine z_aload_n 0 dX12_setAfter_206 rfl rfl ?_
  refine z_getr fr_RX12_79 dX12_setAfter_207 ?_
  refine z_iload_n 2 dX12_setAfter_210 rfl rfl ?_
  obtain ⟨hi3487, hF⟩ := zrd_at hF
  refine z_iald (n := 1600) rfl hi3487 dX12_setAfter_211 ?_
  generalize t 24 (Int32.toNatClampNeg x2) = v3486 at hF ⊢
  refine z_bipush (v := (-2)) dX12_setAfter_212 (by decide) ?_
  refine z_icmp_gt (tgt := 240) dX12_setAfter_214 (by decide) (fun hc => ?_) (fun hc => ?_)
  · have hF := zif_t hc hF
    obtain ⟨v3488, ev3488⟩ : ∃ y : Int32, y = (x2 + 1) := ⟨_, rfl⟩
    have hF := zlet_at ev3488 hF
    refine z_iinc (v := v3488) (lv' := [(2, .int v3488), (0, .ref (za E 0)), (1, .int x1)]) (k := 2) dX12_setAfter_240 rfl (by rw [ev3488]; rfl) (by decide) rfl ?_
    refine z_goto (tgt := 189) dX12_setAfter_243 (by decide) ?_
    refine z_sub [1, 2, 0] rfl ?_
    exact hk189 x1 v3488 _ hF
  · have hF := zif_f hc hF
    refine z_aload_n 0 dX12_setAfter_217 rfl rfl ?_
    refine z_getr fr_RX12_79 dX12_setAfter_218 ?_
    refine z_iload_n 2 dX12_setAfter_221 rfl rfl ?_
    refine z_aload_n 0 dX12_setAfter_222 rfl rfl ?_
    refine z_getr fr_RX12_70 dX12_setAfter_223 ?_
    refine z_bipush (v := (-2)) dX12_setAfter_226 (by decide) ?_
    refine z_aload_n 0 dX12_setAfter_228 rfl rfl ?_
    refine z_getr fr_RX12_79 dX12_setAfter_229 ?_
    refine z_iload_n 2 dX12_setAfter_232 rfl rfl ?_
    obtain ⟨hi3490, hF⟩ := zrd_at hF
    refine z_iald (n := 1600) rfl hi3490 dX12_setAfter_233 ?_
    generalize t 24 (Int32.toNatClampNeg x2) = v3489 at hF ⊢
    refine z_isub dX12_setAfter_234 ?_
    obtain ⟨hi3492, hF⟩ := zrd_at hF
    refine z_iald (n := 1600) rfl hi3492 dX12_setAfter_235 ?_
    generalize t 21 (Int32.toNatClampNeg ((-2) - v3489)) = v3491 at hF ⊢
    obtain ⟨hi3493, hF⟩ := zwr_at hF
    refine z_iast (n := 1600) rfl hi3493 dX12_setAfter_236 (fun t3494 et3494 => ?_)
    have hF := hF t3494 et3494
    refine z_goto (tgt := 206) dX12_setAfter_237 (by decide) ?_
    exact hk206 x1 x2 _ hF
set_option maxHeartbeats 4000000 in
set_option maxRecDepth 20000 in
theorem wlX12_setAfter_206 {E : zE} {C : zC} {f : Nat} {ro : Int32 × zS} (hf : 1 ≤ f) (k2 : Int32 → zS → zR) (hk2 : ∀ (x1 : Int32) (t : zS), k2 x1 t = some ro → zJ E shM C cX12_setAfter RX12 3 f none ro t 2 [(0, .ref (za E 0)), (1, .int x1)] []) (k189 : Int32 → Int32 → zS → zR) (hk189 : ∀ (x1 x2 : Int32) (t : zS), k189 x1 x2 t = some ro → zJ E shM C cX12_setAfter RX12 3 f none ro t 189 [(0, .ref (za E 0)), (1, .int x1), (2, .int x2)] []) (fu : Nat) : ∀ (x1 x2 : Int32) (t : zS), lX12_setAfter_206 k2 k189 fu x1 x2 t = some ro → zJ E shM C cX12_setAfter RX12 3 f none ro t 206 [(0, .ref (za E 0)), (1, .int x1), (2, .int x2)] [] := by
  induction fu with
  | zero => intro x1 x2 t hF; cases hF
  | succ fu ih => intro x1 x2 t hF; exact wbX12_setAfter_206 hf k2 hk2 k189 hk189 (lX12_setAfter_206 k2 k189 fu) ih x1 x2 t hF
set_option maxHeartbeats 4000000 in
set_option maxRecDepth 20000 in
theorem wbX12_setAfter_189 {E : zE} {C : zC} {f : Nat} {ro : Int32 × zS} (hf : 1 ≤ f) (k2 : Int32 → zS → zR) (hk2 : ∀ (x1 : Int32) (t : zS), k2 x1 t = some ro → zJ E shM C cX12_setAfter RX12 3 f none ro t 2 [(0, .ref (za E 0)), (1, .int x1)] []) (k189 : Int32 → Int32 → zS → zR) (hk189 : ∀ (x1 x2 : Int32) (t : zS), k189 x1 x2 t = some ro → zJ E shM C cX12_setAfter RX12 3 f none ro t 189 [(0, .ref (za E 0)), (1, .int x1), (2, .int x2)] []) (x1 : Int32) (x2 : Int32) (t : zS) (hF : bX12_setAfter_189 k2 k189 x1 x2 t = some ro) : zJ E shM C cX12_setAfter RX12 3 f none ro t 189 [(0, .ref (za E 0)), (1, .int x1), (2, .int x2)] [] := by
  unfold bX12_setAfter_189 at hF
  refine z_iload_n 2 dX12_setAfter_189 rfl rfl ?_
  refine z_aload_n 0 dX12_setAfter_190 rfl rfl ?_
  refine z_getr fr_RX12_64 dX12_setAfter_191 ?_
  refine z_iload_n 1 dX12_setAfter_194 rfl rfl ?_
  obtain ⟨hi3496, hF⟩ := zrd_at hF
  refine z_iald (n := 1600) rfl hi3496 dX12_setAfter_195 ?_
  generalize t 19 (Int32.toNatClampNeg x1) = v3495 at hF ⊢
  refine z_aload_n 0 dX12_setAfter_196 rfl rfl ?_
  refine z_getr fr_RX12_67 dX12_setAfter_197 ?_
  refine z_iload_n 1 dX12_setAfter_200 rfl rfl ?_
  obtain ⟨hi3498, hF⟩ := zrd_at hF
  refine z_iald (n := 1600) rfl hi3498 dX12_setAfter_201 ?_
  generalize t 20 (Int32.toNatClampNeg x1) = v3497 at hF ⊢
  refine z_iadd dX12_setAfter_202 ?_
  refine z_icmp_ge (tgt := 246) dX12_setAfter_203 (by decide) (fun hc => ?_) (fun hc => ?_)
  · have hF := zif_t hc hF
    refine z_sub [0, 1] rfl ?_
    exact wbX12_setAfter_246 hf k2 hk2 x1 _ hF
  · have hF := zif_f hc hF
    exact wlX12_setAfter_206 hf k2 hk2 k189 hk189 zFU x1 x2 _ hF
set_option maxHeartbeats 4000000 in
set_option maxRecDepth 20000 in
theorem wlX12_setAfter_189 {E : zE} {C : zC} {f : Nat} {ro : Int32 × zS} (hf : 1 ≤ f) (k2 : Int32 → zS → zR) (hk2 : ∀ (x1 : Int32) (t : zS), k2 x1 t = some ro → zJ E shM C cX12_setAfter RX12 3 f none ro t 2 [(0, .ref (za E 0)), (1, .int x1)] []) (fu : Nat) : ∀ (x1 x2 : Int32) (t : zS), lX12_setAfter_189 k2 fu x1 x2 t = some ro → zJ E shM C cX12_setAfter RX12 3 f none ro t 189 [(0, .ref (za E 0)), (1, .int x1), (2, .int x2)] [] := by
  induction fu with
  | zero => intro x1 x2 t hF; cases hF
  | succ fu ih => intro x1 x2 t hF; exact wbX12_setAfter_189 hf k2 hk2 (lX12_setAfter_189 k2 fu) ih x1 x2 t hF
set_option maxHeartbeats 4000000 in
set_option maxRecDepth 20000 in
theorem wbX12_setAfter_168 {E : zE} {C : zC} {f : Nat} {ro : Int32 × zS} (hf : 1 ≤ f) (k2 : Int32 → zS → zR) (hk2 : ∀ (x1 : Int32) (t : zS), k2 x1 t = some ro → zJ E shM C cX12_setAfter RX12 3 f none ro t 2 [(0, .ref (za E 0)), (1, .int x1)] []) (x1 : Int32) (t : zS) (hF : bX12_setAfter_168 k2 x1 t = some ro) : zJ E shM C cX12_setAfter RX12 3 f none ro t 168 [(0, .ref (za E 0)), (1, .int x1)] [] := by
  unfold bX12_setAfter_168 at hF
  refine z_aload_n 0 dX12_setAfter_168 rfl rfl ?_
  refine z_getr fr_RX12_49 dX12_setAfter_169 ?_
  refine z_iload_n 1 dX12_setAfter_172 rfl rfl ?_
  obtain ⟨hi3500, hF⟩ := zrd_at hF
  refine z_iald (n := 1600) rfl hi3500 dX12_setAfter_173 ?_
  generalize t 14 (Int32.toNatClampNeg x1) = v3499 at hF ⊢
  refine z_bipush (v := 6) dX12_setAfter_174 (by decide) ?_
  refine z_icmp_eq (tgt := 182) dX12_setAfter_176 (by decide) (fun hc => ?_) (fun hc => ?_)
  · have hF := zif_t hc hF
    refine z_aload_n 0 dX12_setAfter_182 rfl rfl ?_
    refine z_getr fr_RX12_64 dX12_setAfter_183 ?_
    refine z_iload_n 1 dX12_setAfter_186 rfl rfl ?_
    obtain ⟨hi3502, hF⟩ := zrd_at hF
    refine z_iald (n := 1600) rfl hi3502 dX12_setAfter_187 ?_
    generalize t 19 (Int32.toNatClampNeg x1) = v3501 at hF ⊢
    refine z_istore_n (lv' := [(2, .int v3501), (0, .ref (za E 0)), (1, .int x1)]) dX12_setAfter_188 rfl (by decide) rfl ?_
    refine z_sub [1, 2, 0] rfl ?_
    exact wlX12_setAfter_189 hf k2 hk2 zFU x1 v3501 _ hF
  · have hF := zif_f hc hF
    refine z_goto (tgt := 246) dX12_setAfter_179 (by decide) ?_
    exact wbX12_setAfter_246 hf k2 hk2 x1 _ hF
set_option maxHeartbeats 4000000 in
set_option maxRecDepth 20000 in
theorem wbX12_setAfter_134 {E : zE} {C : zC} {f : Nat} {ro : Int32 × zS} (hf : 1 ≤ f) (k2 : Int32 → zS → zR) (hk2 : ∀ (x1 : Int32) (t : zS), k2 x1 t = some ro → zJ E shM C cX12_setAfter RX12 3 f none ro t 2 [(0, .ref (za E 0)), (1, .int x1)] []) (k134 : Int32 → zS → zR) (hk134 : ∀ (x1 : Int32) (t : zS), k134 x1 t = some ro → zJ E shM C cX12_setAfter RX12 3 f none ro t 134 [(0, .ref (za E 0)), (1, .int x1)] []) (x1 : Int32) (t : zS) (hF : bX12_setAfter_134 k2 k134 x1 t = some ro) : zJ E shM C cX12_setAfter RX12 3 f none ro t 134 [(0, .ref (za E 0)), (1, .int x1)] [] := by
  unfold bX12_setAfter_134 at hF
  refine z_aload_n 0 dX12_setAfter_134 rfl rfl ?_
  refine z_getr fr_RX12_64 dX12_setAfter_135 ?_
  refine z_iload_n 1 dX12_setAfter_138 rfl rfl ?_
  obtain ⟨hi3504, hF⟩ := zrd_at hF
  refine z_iald (n := 1600) rfl hi3504 dX12_setAfter_139 ?_
  generalize t 19 (Int32.toNatClampNeg x1) = v3503 at hF ⊢
  refine z_bipush (v := (-2)) dX12_setAfter_140 (by decide) ?_
  refine z_icmp_gt (tgt := 168) dX12_setAfter_142 (by decide) (fun hc => ?_) (fun hc => ?_)
  · have hF := zif_t hc hF
    exact wbX12_setAfter_168 hf k2 hk2 x1 _ hF
  · have hF := zif_f hc hF
    refine z_aload_n 0 dX12_setAfter_145 rfl rfl ?_
    refine z_getr fr_RX12_64 dX12_setAfter_146 ?_
    refine z_iload_n 1 dX12_setAfter_149 rfl rfl ?_
    refine z_aload_n 0 dX12_setAfter_150 rfl rfl ?_
    refine z_getr fr_RX12_70 dX12_setAfter_151 ?_
    refine z_bipush (v := (-2)) dX12_setAfter_154 (by decide) ?_
    refine z_aload_n 0 dX12_setAfter_156 rfl rfl ?_
    refine z_getr fr_RX12_64 dX12_setAfter_157 ?_
    refine z_iload_n 1 dX12_setAfter_160 rfl rfl ?_
    obtain ⟨hi3506, hF⟩ := zrd_at hF
    refine z_iald (n := 1600) rfl hi3506 dX12_setAfter_161 ?_
    generalize t 19 (Int32.toNatClampNeg x1) = v3505 at hF ⊢
    refine z_isub dX12_setAfter_162 ?_
    obtain ⟨hi3508, hF⟩ := zrd_at hF
    refine z_iald (n := 1600) rfl hi3508 dX12_setAfter_163 ?_
    generalize t 21 (Int32.toNatClampNeg ((-2) - v3505)) = v3507 at hF ⊢
    obtain ⟨hi3509, hF⟩ := zwr_at hF
    refine z_iast (n := 1600) rfl hi3509 dX12_setAfter_164 (fun t3510 et3510 => ?_)
    have hF := hF t3510 et3510
    refine z_goto (tgt := 134) dX12_setAfter_165 (by decide) ?_
    exact hk134 x1 _ hF
set_option maxHeartbeats 4000000 in
set_option maxRecDepth 20000 in
theorem wlX12_setAfter_134 {E : zE} {C : zC} {f : Nat} {ro : Int32 × zS} (hf : 1 ≤ f) (k2 : Int32 → zS → zR) (hk2 : ∀ (x1 : Int32) (t : zS), k2 x1 t = some ro → zJ E shM C cX12_setAfter RX12 3 f none ro t 2 [(0, .ref (za E 0)), (1, .int x1)] []) (fu : Nat) : ∀ (x1 : Int32) (t : zS), lX12_setAfter_134 k2 fu x1 t = some ro → zJ E shM C cX12_setAfter RX12 3 f none ro t 134 [(0, .ref (za E 0)), (1, .int x1)] [] := by
  induction fu with
  | zero => intro x1 t hF; cases hF
  | succ fu ih => intro x1 t hF; exact wbX12_setAfter_134 hf k2 hk2 (lX12_setAfter_134 k2 fu) ih x1 t hF
set_option maxHeartbeats 4000000 in
set_option maxRecDepth 20000 in
theorem wbX12_setAfter_123 {E : zE} {C : zC} {f : Nat} {ro : Int32 × zS} (hf : 1 ≤ f) (k2 : Int32 → zS → zR) (hk2 : ∀ (x1 : Int32) (t : zS), k2 x1 t = some ro → zJ E shM C cX12_setAfter RX12 3 f none ro t 2 [(0, .ref (za E 0)), (1, .int x1)] []) (x1 : Int32) (t : zS) (hF : bX12_setAfter_123 k2 x1 t = some ro) : zJ E shM C cX12_setAfter RX12 3 f none ro t 123 [(0, .ref (za E 0)), (1, .int x1)] [] := by
  unfold bX12_setAfter_123 at hF
  refine z_aload_n 0 dX12_setAfter_123 rfl rfl ?_
  refine z_getr fr_RX12_49 dX12_setAfter_124 ?_
  refine z_iload_n 1 dX12_setAfter_127 rfl rfl ?_
  obtain ⟨hi3512, hF⟩ := zrd_at hF
  refine z_iald (n := 1600) rfl hi3512 dX12_setAfter_128 ?_
  generalize t 14 (Int32.toNatClampNeg x1) = v3511 at hF ⊢
  refine z_bipush (v := 11) dX12_setAfter_129 (by decide) ?_
  refine z_icmp_ne (tgt := 168) dX12_setAfter_131 (by decide) (fun hc => ?_) (fun hc => ?_)
  · have hF := zif_f hc hF
    exact wbX12_setAfter_168 hf k2 hk2 x1 _ hF
  · have hF := zif_t hc hF
    exact wlX12_setAfter_134 hf k2 hk2 zFU x1 _ hF
set_option maxHeartbeats 4000000 in
set_option maxRecDepth 20000 in
theorem wbX12_setAfter_89 {E : zE} {C : zC} {f : Nat} {ro : Int32 × zS} (hf : 1 ≤ f) (k2 : Int32 → zS → zR) (hk2 : ∀ (x1 : Int32) (t : zS), k2 x1 t = some ro → zJ E shM C cX12_setAfter RX12 3 f none ro t 2 [(0, .ref (za E 0)), (1, .int x1)] []) (k89 : Int32 → zS → zR) (hk89 : ∀ (x1 : Int32) (t : zS), k89 x1 t = some ro → zJ E shM C cX12_setAfter RX12 3 f none ro t 89 [(0, .ref (za E 0)), (1, .int x1)] []) (x1 : Int32) (t : zS) (hF : bX12_setAfter_89 k2 k89 x1 t = some ro) : zJ E shM C cX12_setAfter RX12 3 f none ro t 89 [(0, .ref (za E 0)), (1, .int x1)] [] := by
  unfold bX12_setAfter_89 at hF
  refine z_aload_n 0 dX12_setAfter_89 rfl rfl ?_
  refine z_getr fr_RX12_67 dX12_setAfter_90 ?_
  refine z_iload_n 1 dX12_setAfter_93 rfl rfl ?_
  obtain ⟨hi3514, hF⟩ := zrd_at hF
  refine z_iald (n := 1600) rfl hi3514 dX12_setAfter_94 ?_
  generalize t 20 (Int32.toNatClampNeg x1) = v3513 at hF ⊢
  refine z_bipush (v := (-2)) dX12_setAfter_95 (by decide) ?_
  refine z_icmp_gt (tgt := 123) dX12_setAfter_97 (by decide) (fun hc => ?_) (fun hc => ?_)
  · have hF := zif_t hc hF
    exact wbX12_setAfter_123 hf k2 hk2 x1 _ hF
  · have hF := zif_f hc hF
    refine z_aload_n 0 dX12_setAfter_100 rfl rfl ?_
    refine z_getr fr_RX12_67 dX12_setAfter_101 ?_
    refine z_iload_n 1 dX12_setAfter_104 rfl rfl ?_
    refine z_aload_n 0 dX12_setAfter_105 rfl rfl ?_
    refine z_getr fr_RX12_70 dX12_setAfter_106 ?_
    refine z_bipush (v := (-2)) dX12_setAfter_109 (by decide) ?_
    refine z_aload_n 0 dX12_setAfter_111 rfl rfl ?_
    refine z_getr fr_RX12_67 dX12_setAfter_112 ?_
    refine z_iload_n 1 dX12_setAfter_115 rfl rfl ?_
    obtain ⟨hi3516, hF⟩ := zrd_at hF
    refine z_iald (n := 1600) rfl hi3516 dX12_setAfter_116 ?_
    generalize t 20 (Int32.toNatClampNeg x1) = v3515 at hF ⊢
    refine z_isub dX12_setAfter_117 ?_
    obtain ⟨hi3518, hF⟩ := zrd_at hF
    refine z_iald (n := 1600) rfl hi3518 dX12_setAfter_118 ?_
    generalize t 21 (Int32.toNatClampNeg ((-2) - v3515)) = v3517 at hF ⊢
    obtain ⟨hi3519, hF⟩ := zwr_at hF
    refine z_iast (n := 1600) rfl hi3519 dX12_setAfter_119 (fun t3520 et3520 => ?_)
    have hF := hF t3520 et3520
    refine z_goto (tgt := 89) dX12_setAfter_120 (by decide) ?_
    exact hk89 x1 _ hF
set_option maxHeartbeats 4000000 in
set_option maxRecDepth 20000 in
theorem wlX12_setAfter_89 {E : zE} {C : zC} {f : Nat} {ro : Int32 × zS} (hf : 1 ≤ f) (k2 : Int32 → zS → zR) (hk2 : ∀ (x1 : Int32) (t : zS), k2 x1 t = some ro → zJ E shM C cX12_setAfter RX12 3 f none ro t 2 [(0, .ref (za E 0)), (1, .int x1)] []) (fu : Nat) : ∀ (x1 : Int32) (t : zS), lX12_setAfter_89 k2 fu x1 t = some ro → zJ E shM C cX12_setAfter RX12 3 f none ro t 89 [(0, .ref (za E 0)), (1, .int x1)] [] := by
  induction fu with
  | zero => intro x1 t hF; cases hF
  | succ fu ih => intro x1 t hF; exact wbX12_setAfter_89 hf k2 hk2 (lX12_setAfter_89 k2 fu) ih x1 t hF
set_option maxHeartbeats 4000000 in
set_option maxRecDepth 20000 in
theorem wbX12_setAfter_55 {E : zE} {C : zC} {f : Nat} {ro : Int32 × zS} (hf : 1 ≤ f) (k2 : Int32 → zS → zR) (hk2 : ∀ (x1 : Int32) (t : zS), k2 x1 t = some ro → zJ E shM C cX12_setAfter RX12 3 f none ro t 2 [(0, .ref (za E 0)), (1, .int x1)] []) (k55 : Int32 → zS → zR) (hk55 : ∀ (x1 : Int32) (t : zS), k55 x1 t = some ro → zJ E shM C cX12_setAfter RX12 3 f none ro t 55 [(0, .ref (za E 0)), (1, .int x1)] []) (x1 : Int32) (t : zS) (hF : bX12_setAfter_55 k2 k55 x1 t = some ro) : zJ E shM C cX12_setAfter RX12 3 f none ro t 55 [(0, .ref (za E 0)), (1, .int x1)] [] := by
  unfold bX12_setAfter_55 at hF
  refine z_aload_n 0 dX12_setAfter_55 rfl rfl ?_
  refine z_getr fr_RX12_64 dX12_setAfter_56 ?_
  refine z_iload_n 1 dX12_setAfter_59 rfl rfl ?_
  obtain ⟨hi3522, hF⟩ := zrd_at hF
  refine z_iald (n := 1600) rfl hi3522 dX12_setAfter_60 ?_
  generalize t 19 (Int32.toNatClampNeg x1) = v3521 at hF ⊢
  refine z_bipush (v := (-2)) dX12_setAfter_61 (by decide) ?_
  refine z_icmp_gt (tgt := 89) dX12_setAfter_63 (by decide) (fun hc => ?_) (fun hc => ?_)
  · have hF := zif_t hc hF
    exact wlX12_setAfter_89 hf k2 hk2 zFU x1 _ hF
  · have hF := zif_f hc hF
    refine z_aload_n 0 dX12_setAfter_66 rfl rfl ?_
    refine z_getr fr_RX12_64 dX12_setAfter_67 ?_
    refine z_iload_n 1 dX12_setAfter_70 rfl rfl ?_
    refine z_aload_n 0 dX12_setAfter_71 rfl rfl ?_
    refine z_getr fr_RX12_70 dX12_setAfter_72 ?_
    refine z_bipush (v := (-2)) dX12_setAfter_75 (by decide) ?_
    refine z_aload_n 0 dX12_setAfter_77 rfl rfl ?_
    refine z_getr fr_RX12_64 dX12_setAfter_78 ?_
    refine z_iload_n 1 dX12_setAfter_81 rfl rfl ?_
    obtain ⟨hi3524, hF⟩ := zrd_at hF
    refine z_iald (n := 1600) rfl hi3524 dX12_setAfter_82 ?_
    generalize t 19 (Int32.toNatClampNeg x1) = v3523 at hF ⊢
    refine z_isub dX12_setAfter_83 ?_
    obtain ⟨hi3526, hF⟩ := zrd_at hF
    refine z_iald (n := 1600) rfl hi3526 dX12_setAfter_84 ?_
    generalize t 21 (Int32.toNatClampNeg ((-2) - v3523)) = v3525 at hF ⊢
    obtain ⟨hi3527, hF⟩ := zwr_at hF
    refine z_iast (n := 1600) rfl hi3527 dX12_setAfter_85 (fun t3528 et3528 => ?_)
    have hF := hF t3528 et3528
    refine z_goto (tgt := 55) dX12_setAfter_86 (by decide) ?_
    exact hk55 x1 _ hF
set_option maxHeartbeats 4000000 in
set_option maxRecDepth 20000 in
theorem wlX12_setAfter_55 {E : zE} {C : zC} {f : Nat} {ro : Int32 × zS} (hf : 1 ≤ f) (k2 : Int32 → zS → zR) (hk2 : ∀ (x1 : Int32) (t : zS), k2 x1 t = some ro → zJ E shM C cX12_setAfter RX12 3 f none ro t 2 [(0, .ref (za E 0)), (1, .int x1)] []) (fu : Nat) : ∀ (x1 : Int32) (t : zS), lX12_setAfter_55 k2 fu x1 t = some ro → zJ E shM C cX12_setAfter RX12 3 f none ro t 55 [(0, .ref (za E 0)), (1, .int x1)] [] := by
  induction fu with
  | zero => intro x1 t hF; cases hF
  | succ fu ih => intro x1 t hF; exact wbX12_setAfter_55 hf k2 hk2 (lX12_setAfter_55 k2 fu) ih x1 t hF
set_option maxHeartbeats 4000000 in
set_option maxRecDepth 20000 in
theorem wbX12_setAfter_10 {E : zE} {C : zC} {f : Nat} {ro : Int32 × zS} (hf : 1 ≤ f) (k2 : Int32 → zS → zR) (hk2 : ∀ (x1 : Int32) (t : zS), k2 x1 t = some ro → zJ E shM C cX12_setAfter RX12 3 f none ro t 2 [(0, .ref (za E 0)), (1, .int x1)] []) (k10 : Int32 → zS → zR) (hk10 : ∀ (x1 : Int32) (t : zS), k10 x1 t = some ro → zJ E shM C cX12_setAfter RX12 3 f none ro t 10 [(0, .ref (za E 0)), (1, .int x1)] []) (x1 : Int32) (t : zS) (hF : bX12_setAfter_10 k2 k10 x1 t = some ro) : zJ E shM C cX12_setAfter RX12 3 f none ro t 10 [(0, .ref (za E 0)), (1, .int x1)] [] := by
  unfold bX12_setAfter_10 at hF
  refine z_aload_n 0 dX12_setAfter_10 rfl rfl ?_
  refine z_getr fr_RX12_70 dX12_setAfter_11 ?_
  refine z_iload_n 1 dX12_setAfter_14 rfl rfl ?_
  obtain ⟨hi3530, hF⟩ := zrd_at hF
  refine z_iald (n := 1600) rfl hi3530 dX12_setAfter_15 ?_
  generalize t 21 (Int32.toNatClampNeg x1) = v3529 at hF ⊢
  refine z_bipush (v := (-2)) dX12_setAfter_16 (by decide) ?_
  refine z_icmp_gt (tgt := 44) dX12_setAfter_18 (by decide) (fun hc => ?_) (fun hc => ?_)
  · have hF := zif_t hc hF
    refine z_aload_n 0 dX12_setAfter_44 rfl rfl ?_
    refine z_getr fr_RX12_49 dX12_setAfter_45 ?_
    refine z_iload_n 1 dX12_setAfter_48 rfl rfl ?_
    obtain ⟨hi3532, hF⟩ := zrd_at hF
    refine z_iald (n := 1600) rfl hi3532 dX12_setAfter_49 ?_
    generalize t 14 (Int32.toNatClampNeg x1) = v3531 at hF ⊢
    refine z_bipush (v := 10) dX12_setAfter_50 (by decide) ?_
    refine z_icmp_ne (tgt := 123) dX12_setAfter_52 (by decide) (fun hc => ?_) (fun hc => ?_)
    · have hF := zif_f hc hF
      exact wbX12_setAfter_123 hf k2 hk2 x1 _ hF
    · have hF := zif_t hc hF
      exact wlX12_setAfter_55 hf k2 hk2 zFU x1 _ hF
  · have hF := zif_f hc hF
    refine z_aload_n 0 dX12_setAfter_21 rfl rfl ?_
    refine z_getr fr_RX12_70 dX12_setAfter_22 ?_
    refine z_iload_n 1 dX12_setAfter_25 rfl rfl ?_
    refine z_aload_n 0 dX12_setAfter_26 rfl rfl ?_
    refine z_getr fr_RX12_70 dX12_setAfter_27 ?_
    refine z_bipush (v := (-2)) dX12_setAfter_30 (by decide) ?_
    refine z_aload_n 0 dX12_setAfter_32 rfl rfl ?_
    refine z_getr fr_RX12_70 dX12_setAfter_33 ?_
    refine z_iload_n 1 dX12_setAfter_36 rfl rfl ?_
    obtain ⟨hi3534, hF⟩ := zrd_at hF
    refine z_iald (n := 1600) rfl hi3534 dX12_setAfter_37 ?_
    generalize t 21 (Int32.toNatClampNeg x1) = v3533 at hF ⊢
    refine z_isub dX12_setAfter_38 ?_
    obtain ⟨hi3536, hF⟩ := zrd_at hF
    refine z_iald (n := 1600) rfl hi3536 dX12_setAfter_39 ?_
    generalize t 21 (Int32.toNatClampNeg ((-2) - v3533)) = v3535 at hF ⊢
    obtain ⟨hi3537, hF⟩ := zwr_at hF
    refine z_iast (n := 1600) rfl hi3537 dX12_setAfter_40 (fun t3538 et3538 => ?_)
    have hF := hF t3538 et3538
    refine z_goto (tgt := 10) dX12_setAfter_41 (by decide) ?_
    exact hk10 x1 _ hF
set_option maxHeartbeats 4000000 in
set_option maxRecDepth 20000 in
theorem wlX12_setAfter_10 {E : zE} {C : zC} {f : Nat} {ro : Int32 × zS} (hf : 1 ≤ f) (k2 : Int32 → zS → zR) (hk2 : ∀ (x1 : Int32) (t : zS), k2 x1 t = some ro → zJ E shM C cX12_setAfter RX12 3 f none ro t 2 [(0, .ref (za E 0)), (1, .int x1)] []) (fu : Nat) : ∀ (x1 : Int32) (t : zS), lX12_setAfter_10 k2 fu x1 t = some ro → zJ E shM C cX12_setAfter RX12 3 f none ro t 10 [(0, .ref (za E 0)), (1, .int x1)] [] := by
  induction fu with
  | zero => intro x1 t hF; cases hF
  | succ fu ih => intro x1 t hF; exact wbX12_setAfter_10 hf k2 hk2 (lX12_setAfter_10 k2 fu) ih x1 t hF
set_option maxHeartbeats 4000000 in
set_option maxRecDepth 20000 in
theorem wbX12_setAfter_2 {E : zE} {C : zC} {f : Nat} {ro : Int32 × zS} (hf : 1 ≤ f) (k2 : Int32 → zS → zR) (hk2 : ∀ (x1 : Int32) (t : zS), k2 x1 t = some ro → zJ E shM C cX12_setAfter RX12 3 f none ro t 2 [(0, .ref (za E 0)), (1, .int x1)] []) (x1 : Int32) (t : zS) (hF : bX12_setAfter_2 k2 x1 t = some ro) : zJ E shM C cX12_setAfter RX12 3 f none ro t 2 [(0, .ref (za E 0)), (1, .int x1)] [] := by
  unfold bX12_setAfter_2 at hF
  refine z_iload_n 1 dX12_setAfter_2 rfl rfl ?_
  refine z_aload_n 0 dX12_setAfter_3 rfl rfl ?_
  refine z_geti fi_RX12_343 dX12_setAfter_4 ?_
  refine z_icmp_ge (tgt := 252) dX12_setAfter_7 (by decide) (fun hc => ?_) (fun hc => ?_)
  · have hF := zif_t hc hF
    exact z_vret hF dX12_setAfter_252
  · have hF := zif_f hc hF
    exact wlX12_setAfter_10 hf k2 hk2 zFU x1 _ hF
set_option maxHeartbeats 4000000 in
set_option maxRecDepth 20000 in
theorem wlX12_setAfter_2 {E : zE} {C : zC} {f : Nat} {ro : Int32 × zS} (hf : 1 ≤ f) (fu : Nat) : ∀ (x1 : Int32) (t : zS), lX12_setAfter_2  fu x1 t = some ro → zJ E shM C cX12_setAfter RX12 3 f none ro t 2 [(0, .ref (za E 0)), (1, .int x1)] [] := by
  induction fu with
  | zero => intro x1 t hF; cases hF
  | succ fu ih => intro x1 t hF; exact wbX12_setAfter_2 hf (lX12_setAfter_2  fu) ih x1 t hF
set_option maxHeartbeats 4000000 in
set_option maxRecDepth 20000 in
theorem ctX12_setAfter {E : zE} {f : Nat} (hf : 1 ≤ f) {t : zS} {ro : Int32 × zS} (hF : mX12_setAfter   t = some ro) : zM E shM f yX12_setAfter cX12_setAfter 3 none [.ref (za E 0)] t ro := by
  refine zM_of (by decide) (Nat.le_of_ble_eq_true rfl) (fun C => ?_)
  show zJ E shM C cX12_setAfter RX12 3 f none ro t 0 [(0, .ref (za E 0))] []
  unfold mX12_setAfter at hF
  refine z_iconst (v := 0) dX12_setAfter_0 (by decide) ?_
  refine z_istore_n (lv' := [(1, .int 0), (0, .ref (za E 0))]) dX12_setAfter_1 rfl (by decide) rfl ?_
  refine z_sub [1, 0] rfl ?_
  exact wlX12_setAfter_2 hf  zFU 0 _ hF
-- SessionHouseModel.ownMany(I)I
theorem dX12_ownMany_0 : decode cX12_ownMany 0 = .ok (.aload_n 0, 1) := by decide +kernel
theorem dX12_ownMany_1 : decode cX12_ownMany 1 = .ok (.getfield 100, 3) := by decide +kernel
theorem dX12_ownMany_4 : decode cX12_ownMany 4 = .ok (.iload_n 1, 1) := by decide +kernel
theorem dX12_ownMany_5 : decode cX12_ownMany 5 = .ok (.iconst 1, 1) := by decide +kernel
theorem dX12_ownMany_6 : decode cX12_ownMany 6 = .ok (.iadd, 1) := by decide +kernel
theorem dX12_ownMany_7 : decode cX12_ownMany 7 = .ok (.iaload, 1) := by decide +kernel
theorem dX12_ownMany_8 : decode cX12_ownMany 8 = .ok (.aload_n 0, 1) := by decide +kernel
theorem dX12_ownMany_9 : decode cX12_ownMany 9 = .ok (.getfield 100, 3) := by decide +kernel
theorem dX12_ownMany_12 : decode cX12_ownMany 12 = .ok (.iload_n 1, 1) := by decide +kernel
theorem dX12_ownMany_13 : decode cX12_ownMany 13 = .ok (.iaload, 1) := by decide +kernel
theorem dX12_ownMany_14 : decode cX12_ownMany 14 = .ok (.isub, 1) := by decide +kernel
theorem dX12_ownMany_15 : decode cX12_ownMany 15 = .ok (.ireturn, 1) := by decide +kernel
def mX12_ownMany (x1 : Int32) (t : zS) : zR := zrd t 31 301 (x1 + 1) fun v3539 => zrd t 31 301 x1 fun v3541 => some ((v3539 - v3541), t)
set_option maxHeartbeats 4000000 in
set_option maxRecDepth 20000 in
theorem ctX12_ownMany {E : zE} {f : Nat} (hf : 1 ≤ f) {x1 : Int32} {t : zS} {ro : Int32 × zS} (hF : mX12_ownMany  x1 t = some ro) : zM E shM f yX12_ownMany cX12_ownMany 2 (some .int) [.ref (za E 0), .int x1] t ro := by
  refine zM_of (by decide) (Nat.le_of_ble_eq_true rfl) (fun C => ?_)
  show zJ E shM C cX12_ownMany RX12 2 f (some .int) ro t 0 [(0, .ref (za E 0)), (1, .int x1)] []
  unfold mX12_ownMany at hF
  refine z_aload_n 0 dX12_ownMany_0 rfl rfl ?_
  refine z_getr fr_RX12_100 dX12_ownMany_1 ?_
  refine z_iload_n 1 dX12_ownMany_4 rfl rfl ?_
  refine z_iconst (v := 1) dX12_ownMany_5 (by decide) ?_
  refine z_iadd dX12_ownMany_6 ?_
  obtain ⟨hi3540, hF⟩ := zrd_at hF
  refine z_iald (n := 301) rfl hi3540 dX12_ownMany_7 ?_
  generalize t 31 (Int32.toNatClampNeg (x1 + 1)) = v3539 at hF ⊢
  refine z_aload_n 0 dX12_ownMany_8 rfl rfl ?_
  refine z_getr fr_RX12_100 dX12_ownMany_9 ?_
  refine z_iload_n 1 dX12_ownMany_12 rfl rfl ?_
  obtain ⟨hi3542, hF⟩ := zrd_at hF
  refine z_iald (n := 301) rfl hi3542 dX12_ownMany_13 ?_
  generalize t 31 (Int32.toNatClampNeg x1) = v3541 at hF ⊢
  refine z_isub dX12_ownMany_14 ?_
  exact z_iret hF dX12_ownMany_15
-- SessionHouseModel.plain(I)I
theorem dX12_plain_0 : decode cX12_plain 0 = .ok (.iload_n 1, 1) := by decide +kernel
theorem dX12_plain_1 : decode cX12_plain 1 = .ok (.iconst 2, 1) := by decide +kernel
theorem dX12_plain_2 : decode cX12_plain 2 = .ok (.idiv, 1) := by decide +kernel
theorem dX12_plain_3 : decode cX12_plain 3 = .ok (.istore_n 2, 1) := by decide +kernel
theorem dX12_plain_4 : decode cX12_plain 4 = .ok (.iload_n 1, 1) := by decide +kernel
theorem dX12_plain_5 : decode cX12_plain 5 = .ok (.iconst 2, 1) := by decide +kernel
theorem dX12_plain_6 : decode cX12_plain 6 = .ok (.irem, 1) := by decide +kernel
theorem dX12_plain_7 : decode cX12_plain 7 = .ok (.istore_n 3, 1) := by decide +kernel
theorem dX12_plain_8 : decode cX12_plain 8 = .ok (.aload_n 0, 1) := by decide +kernel
theorem dX12_plain_9 : decode cX12_plain 9 = .ok (.getfield 22, 3) := by decide +kernel
theorem dX12_plain_12 : decode cX12_plain 12 = .ok (.iload_n 2, 1) := by decide +kernel
theorem dX12_plain_13 : decode cX12_plain 13 = .ok (.iaload, 1) := by decide +kernel
theorem dX12_plain_14 : decode cX12_plain 14 = .ok (.iconst 1, 1) := by decide +kernel
theorem dX12_plain_15 : decode cX12_plain 15 = .ok (.if_icmp .eq 13, 3) := by decide +kernel
theorem dX12_plain_18 : decode cX12_plain 18 = .ok (.aload_n 0, 1) := by decide +kernel
theorem dX12_plain_19 : decode cX12_plain 19 = .ok (.getfield 22, 3) := by decide +kernel
theorem dX12_plain_22 : decode cX12_plain 22 = .ok (.iload_n 2, 1) := by decide +kernel
theorem dX12_plain_23 : decode cX12_plain 23 = .ok (.iaload, 1) := by decide +kernel
theorem dX12_plain_24 : decode cX12_plain 24 = .ok (.iconst 2, 1) := by decide +kernel
theorem dX12_plain_25 : decode cX12_plain 25 = .ok (.if_icmp .ne 36, 3) := by decide +kernel
theorem dX12_plain_28 : decode cX12_plain 28 = .ok (.aload_n 0, 1) := by decide +kernel
theorem dX12_plain_29 : decode cX12_plain 29 = .ok (.getfield 22, 3) := by decide +kernel
theorem dX12_plain_32 : decode cX12_plain 32 = .ok (.iload_n 2, 1) := by decide +kernel
theorem dX12_plain_33 : decode cX12_plain 33 = .ok (.iaload, 1) := by decide +kernel
theorem dX12_plain_34 : decode cX12_plain 34 = .ok (.iconst 2, 1) := by decide +kernel
theorem dX12_plain_35 : decode cX12_plain 35 = .ok (.if_icmp .ne 9, 3) := by decide +kernel
theorem dX12_plain_38 : decode cX12_plain 38 = .ok (.iconst 1, 1) := by decide +kernel
theorem dX12_plain_39 : decode cX12_plain 39 = .ok (.iload_n 3, 1) := by decide +kernel
theorem dX12_plain_40 : decode cX12_plain 40 = .ok (.isub, 1) := by decide +kernel
theorem dX12_plain_41 : decode cX12_plain 41 = .ok (.goto 4, 3) := by decide +kernel
theorem dX12_plain_44 : decode cX12_plain 44 = .ok (.iload_n 3, 1) := by decide +kernel
theorem dX12_plain_45 : decode cX12_plain 45 = .ok (.istore_n 3, 1) := by decide +kernel
theorem dX12_plain_46 : decode cX12_plain 46 = .ok (.aload_n 0, 1) := by decide +kernel
theorem dX12_plain_47 : decode cX12_plain 47 = .ok (.getfield 46, 3) := by decide +kernel
theorem dX12_plain_50 : decode cX12_plain 50 = .ok (.aload_n 0, 1) := by decide +kernel
theorem dX12_plain_51 : decode cX12_plain 51 = .ok (.getfield 25, 3) := by decide +kernel
theorem dX12_plain_54 : decode cX12_plain 54 = .ok (.iload_n 2, 1) := by decide +kernel
theorem dX12_plain_55 : decode cX12_plain 55 = .ok (.iaload, 1) := by decide +kernel
theorem dX12_plain_56 : decode cX12_plain 56 = .ok (.iaload, 1) := by decide +kernel
theorem dX12_plain_57 : decode cX12_plain 57 = .ok (.istore_n 2, 1) := by decide +kernel
theorem dX12_plain_58 : decode cX12_plain 58 = .ok (.goto (-50), 3) := by decide +kernel
theorem dX12_plain_61 : decode cX12_plain 61 = .ok (.iconst 2, 1) := by decide +kernel
theorem dX12_plain_62 : decode cX12_plain 62 = .ok (.iload_n 2, 1) := by decide +kernel
theorem dX12_plain_63 : decode cX12_plain 63 = .ok (.imul, 1) := by decide +kernel
theorem dX12_plain_64 : decode cX12_plain 64 = .ok (.iload_n 3, 1) := by decide +kernel
theorem dX12_plain_65 : decode cX12_plain 65 = .ok (.iadd, 1) := by decide +kernel
theorem dX12_plain_66 : decode cX12_plain 66 = .ok (.ireturn, 1) := by decide +kernel
def bX12_plain_45 (k8 : Int32 → Int32 → zS → zR) (x2 : Int32) (y0 : Int32) (t : zS) : zR := zrd t 6 3100 x2 fun v3543 => zrd t 13 400 v3543 fun v3545 => k8 v3545 y0 t
def bX12_plain_28 (k8 : Int32 → Int32 → zS → zR) (x2 : Int32) (x3 : Int32) (t : zS) : zR := zrd t 5 3100 x2 fun v3547 => if v3547 = 2 then bX12_plain_45 k8 x2 (1 - x3) t else bX12_plain_45 k8 x2 x3 t
def bX12_plain_8 (k8 : Int32 → Int32 → zS → zR) (x2 : Int32) (x3 : Int32) (t : zS) : zR := zrd t 5 3100 x2 fun v3549 => if v3549 = 1 then bX12_plain_28 k8 x2 x3 t else zrd t 5 3100 x2 fun v3551 => if v3551 = 2 then bX12_plain_28 k8 x2 x3 t else some (((2 * x2) + x3), t)
def lX12_plain_8 : Nat → Int32 → Int32 → zS → zR
  | 0, _, _, _ => none
  | fu + 1, x2, x3, t => bX12_plain_8 (lX12_plain_8  fu) x2 x3 t
def mX12_plain (x1 : Int32) (t : zS) : zR := zlet (x1 / 2) fun v3553 => zlet (x1 - x1 / 2 * 2) fun v3554 => lX12_plain_8  zFU v3553 v3554 t
set_option maxHeartbeats 4000000 in
set_option maxRecDepth 20000 in
theorem wbX12_plain_45 {E : zE} {C : zC} {f : Nat} {ro : Int32 × zS} (hf : 1 ≤ f) (k8 : Int32 → Int32 → zS → zR) (hk8 : ∀ (x2 x3 : Int32) (t : zS), k8 x2 x3 t = some ro → zJ E shM C cX12_plain RX12 4 f (some .int) ro t 8 [(0, .ref (za E 0)), (2, .int x2), (3, .int x3)] []) (x2 : Int32) (y0 : Int32) (t : zS) (hF : bX12_plain_45 k8 x2 y0 t = some ro) : zJ E shM C cX12_plain RX12 4 f (some .int) ro t 45 [(0, .ref (za E 0)), (2, .int x2)] [.int y0] := by
  unfold bX12_plain_45 at hF
  refine z_istore_n (lv' := [(3, .int y0), (0, .ref (za E 0)), (2, .int x2)]) dX12_plain_45 rfl (by decide) rfl ?_
  refine z_aload_n 1 dX12_plain_46 rfl rfl ?_
  refine z_getr fr_RX12_46 dX12_plain_47 ?_
  refine z_aload_n 1 dX12_plain_50 rfl rfl ?_
  refine z_getr fr_RX12_25 dX12_plain_51 ?_
  refine z_iload_n 2 dX12_plain_54 rfl rfl ?_
  obtain ⟨hi3544, hF⟩ := zrd_at hF
  refine z_iald (n := 3100) rfl hi3544 dX12_plain_55 ?_
  generalize t 6 (Int32.toNatClampNeg x2) = v3543 at hF ⊢
  obtain ⟨hi3546, hF⟩ := zrd_at hF
  refine z_iald (n := 400) rfl hi3546 dX12_plain_56 ?_
  generalize t 13 (Int32.toNatClampNeg v3543) = v3545 at hF ⊢
  refine z_istore_n (lv' := [(2, .int v3545), (3, .int y0), (0, .ref (za E 0))]) dX12_plain_57 rfl (by decide) rfl ?_
  refine z_goto (tgt := 8) dX12_plain_58 (by decide) ?_
  refine z_sub [2, 0, 1] rfl ?_
  exact hk8 v3545 y0 _ hF
set_option maxHeartbeats 4000000 in
set_option maxRecDepth 20000 in
theorem wbX12_plain_28 {E : zE} {C : zC} {f : Nat} {ro : Int32 × zS} (hf : 1 ≤ f) (k8 : Int32 → Int32 → zS → zR) (hk8 : ∀ (x2 x3 : Int32) (t : zS), k8 x2 x3 t = some ro → zJ E shM C cX12_plain RX12 4 f (some .int) ro t 8 [(0, .ref (za E 0)), (2, .int x2), (3, .int x3)] []) (x2 : Int32) (x3 : Int32) (t : zS) (hF : bX12_plain_28 k8 x2 x3 t = some ro) : zJ E shM C cX12_plain RX12 4 f (some .int) ro t 28 [(0, .ref (za E 0)), (2, .int x2), (3, .int x3)] [] := by
  unfold bX12_plain_28 at hF
  refine z_aload_n 0 dX12_plain_28 rfl rfl ?_
  refine z_getr fr_RX12_22 dX12_plain_29 ?_
  refine z_iload_n 1 dX12_plain_32 rfl rfl ?_
  obtain ⟨hi3548, hF⟩ := zrd_at hF
  refine z_iald (n := 3100) rfl hi3548 dX12_plain_33 ?_
  generalize t 5 (Int32.toNatClampNeg x2) = v3547 at hF ⊢
  refine z_iconst (v := 2) dX12_plain_34 (by decide) ?_
  refine z_icmp_ne (tgt := 44) dX12_plain_35 (by decide) (fun hc => ?_) (fun hc => ?_)
  · have hF := zif_f hc hF
    refine z_iload_n 2 dX12_plain_44 rfl rfl ?_
    refine z_sub [0, 1] rfl ?_
    exact wbX12_plain_45 hf k8 hk8 x2 x3 _ hF
  · have hF := zif_t hc hF
    refine z_iconst (v := 1) dX12_plain_38 (by decide) ?_
    refine z_iload_n 2 dX12_plain_39 rfl rfl ?_
    refine z_isub dX12_plain_40 ?_
    refine z_goto (tgt := 45) dX12_plain_41 (by decide) ?_
    refine z_sub [0, 1] rfl ?_
    exact wbX12_plain_45 hf k8 hk8 x2 (1 - x3) _ hF
set_option maxHeartbeats 4000000 in
set_option maxRecDepth 20000 in
theorem wbX12_plain_8 {E : zE} {C : zC} {f : Nat} {ro : Int32 × zS} (hf : 1 ≤ f) (k8 : Int32 → Int32 → zS → zR) (hk8 : ∀ (x2 x3 : Int32) (t : zS), k8 x2 x3 t = some ro → zJ E shM C cX12_plain RX12 4 f (some .int) ro t 8 [(0, .ref (za E 0)), (2, .int x2), (3, .int x3)] []) (x2 : Int32) (x3 : Int32) (t : zS) (hF : bX12_plain_8 k8 x2 x3 t = some ro) : zJ E shM C cX12_plain RX12 4 f (some .int) ro t 8 [(0, .ref (za E 0)), (2, .int x2), (3, .int x3)] [] := by
  unfold bX12_plain_8 at hF
  refine z_aload_n 0 dX12_plain_8 rfl rfl ?_
  refine z_getr fr_RX12_22 dX12_plain_9 ?_
  refine z_iload_n 1 dX12_plain_12 rfl rfl ?_
  obtain ⟨hi3550, hF⟩ := zrd_at hF
  refine z_iald (n := 3100) rfl hi3550 dX12_plain_13 ?_
  generalize t 5 (Int32.toNatClampNeg x2) = v3549 at hF ⊢
  refine z_iconst (v := 1) dX12_plain_14 (by decide) ?_
  refine z_icmp_eq (tgt := 28) dX12_plain_15 (by decide) (fun hc => ?_) (fun hc => ?_)
  · have hF := zif_t hc hF
    exact wbX12_plain_28 hf k8 hk8 x2 x3 _ hF
  · have hF := zif_f hc hF
    refine z_aload_n 0 dX12_plain_18 rfl rfl ?_
    refine z_getr fr_RX12_22 dX12_plain_19 ?_
    refine z_iload_n 1 dX12_plain_22 rfl rfl ?_
    obtain ⟨hi3552, hF⟩ := zrd_at hF
    refine z_iald (n := 3100) rfl hi3552 dX12_plain_23 ?_
    generalize t 5 (Int32.toNatClampNeg x2) = v3551 at hF ⊢
    refine z_iconst (v := 2) dX12_plain_24 (by decide) ?_
    refine z_icmp_ne (tgt := 61) dX12_plain_25 (by decide) (fun hc => ?_) (fun hc => ?_)
    · have hF := zif_f hc hF
      refine z_iconst (v := 2) dX12_plain_61 (by decide) ?_
      refine z_iload_n 1 dX12_plain_62 rfl rfl ?_
      refine z_imul dX12_plain_63 ?_
      refine z_iload_n 2 dX12_plain_64 rfl rfl ?_
      refine z_iadd dX12_plain_65 ?_
      exact z_iret hF dX12_plain_66
    · have hF := zif_t hc hF
      exact wbX12_plain_28 hf k8 hk8 x2 x3 _ hF
set_option maxHeartbeats 4000000 in
set_option maxRecDepth 20000 in
theorem wlX12_plain_8 {E : zE} {C : zC} {f : Nat} {ro : Int32 × zS} (hf : 1 ≤ f) (fu : Nat) : ∀ (x2 x3 : Int32) (t : zS), lX12_plain_8  fu x2 x3 t = some ro → zJ E shM C cX12_plain RX12 4 f (some .int) ro t 8 [(0, .ref (za E 0)), (2, .int x2), (3, .int x3)] [] := by
  induction fu with
  | zero => intro x2 x3 t hF; cases hF
  | succ fu ih => intro x2 x3 t hF; exact wbX12_plain_8 hf (lX12_plain_8  fu) ih x2 x3 t hF
set_option maxHeartbeats 4000000 in
set_option maxRecDepth 20000 in
theorem ctX12_plain {E : zE} {f : Nat} (hf : 1 ≤ f) {x1 : Int32} {t : zS} {ro : Int32 × zS} (hF : mX12_plain  x1 t = some ro) : zM E shM f yX12_plain cX12_plain 4 (some .int) [.ref (za E 0), .int x1] t ro := by
  refine zM_of (by decide) (Nat.le_of_ble_eq_true rfl) (fun C => ?_)
  show zJ E shM C cX12_plain RX12 4 f (some .int) ro t 0 [(0, .ref (za E 0)), (1, .int x1)] []
  unfold mX12_plain at hF
  refine z_iload_n 1 dX12_plain_0 rfl rfl ?_
  refine z_iconst (v := 2) dX12_plain_1 (by decide) ?_
  refine z_idiv dX12_plain_2 (by decide) ?_
  refine z_topi (fun v3553 ev3553 => ?_)
  have hF := zlet_at ev3553 hF
  refine z_istore_n (lv' := [(2, .int v3553), (0, .ref (za E 0)), (1, .int x1)]) dX12_plain_3 rfl (by decide) rfl ?_
  refine z_iload_n 2 dX12_plain_4 rfl rfl ?_
  refine z_iconst (v := 2) dX12_plain_5 (by decide) ?_
  refine z_irem dX12_plain_6 (by decide) ?_
  refine z_topi (fun v3554 ev3554 => ?_)
  have hF := zlet_at ev3554 hF
  refine z_istore_n (lv' := [(3, .int v3554), (2, .int v3553), (0, .ref (za E 0)), (1, .int x1)]) dX12_plain_7 rfl (by decide) rfl ?_
  refine z_sub [2, 1, 0] rfl ?_
  exact wlX12_plain_8 hf  zFU v3553 v3554 _ hF
-- SessionHouseModel.isOf(I)I
theorem dX12_isOf_0 : decode cX12_isOf 0 = .ok (.aload_n 0, 1) := by decide +kernel
theorem dX12_isOf_1 : decode cX12_isOf 1 = .ok (.getfield 22, 3) := by decide +kernel
theorem dX12_isOf_4 : decode cX12_isOf 4 = .ok (.iload_n 1, 1) := by decide +kernel
theorem dX12_isOf_5 : decode cX12_isOf 5 = .ok (.iconst 2, 1) := by decide +kernel
theorem dX12_isOf_6 : decode cX12_isOf 6 = .ok (.idiv, 1) := by decide +kernel
theorem dX12_isOf_7 : decode cX12_isOf 7 = .ok (.iaload, 1) := by decide +kernel
theorem dX12_isOf_8 : decode cX12_isOf 8 = .ok (.istore_n 2, 1) := by decide +kernel
theorem dX12_isOf_9 : decode cX12_isOf 9 = .ok (.iload_n 2, 1) := by decide +kernel
theorem dX12_isOf_10 : decode cX12_isOf 10 = .ok (.ifCond .eq 9, 3) := by decide +kernel
theorem dX12_isOf_13 : decode cX12_isOf 13 = .ok (.iload_n 1, 1) := by decide +kernel
theorem dX12_isOf_14 : decode cX12_isOf 14 = .ok (.iconst 2, 1) := by decide +kernel
theorem dX12_isOf_15 : decode cX12_isOf 15 = .ok (.irem, 1) := by decide +kernel
theorem dX12_isOf_16 : decode cX12_isOf 16 = .ok (.ifCond .ne 5, 3) := by decide +kernel
theorem dX12_isOf_19 : decode cX12_isOf 19 = .ok (.iload_n 2, 1) := by decide +kernel
theorem dX12_isOf_20 : decode cX12_isOf 20 = .ok (.ireturn, 1) := by decide +kernel
theorem dX12_isOf_21 : decode cX12_isOf 21 = .ok (.iload_n 2, 1) := by decide +kernel
theorem dX12_isOf_22 : decode cX12_isOf 22 = .ok (.iconst 3, 1) := by decide +kernel
theorem dX12_isOf_23 : decode cX12_isOf 23 = .ok (.if_icmp .ne 7, 3) := by decide +kernel
theorem dX12_isOf_26 : decode cX12_isOf 26 = .ok (.iconst 4, 1) := by decide +kernel
theorem dX12_isOf_27 : decode cX12_isOf 27 = .ok (.goto 45, 3) := by decide +kernel
theorem dX12_isOf_30 : decode cX12_isOf 30 = .ok (.iload_n 2, 1) := by decide +kernel
theorem dX12_isOf_31 : decode cX12_isOf 31 = .ok (.iconst 4, 1) := by decide +kernel
theorem dX12_isOf_32 : decode cX12_isOf 32 = .ok (.if_icmp .ne 7, 3) := by decide +kernel
theorem dX12_isOf_35 : decode cX12_isOf 35 = .ok (.iconst 3, 1) := by decide +kernel
theorem dX12_isOf_36 : decode cX12_isOf 36 = .ok (.goto 36, 3) := by decide +kernel
theorem dX12_isOf_39 : decode cX12_isOf 39 = .ok (.iload_n 2, 1) := by decide +kernel
theorem dX12_isOf_40 : decode cX12_isOf 40 = .ok (.iconst 5, 1) := by decide +kernel
theorem dX12_isOf_41 : decode cX12_isOf 41 = .ok (.if_icmp .ne 8, 3) := by decide +kernel
theorem dX12_isOf_44 : decode cX12_isOf 44 = .ok (.bipush 6, 2) := by decide +kernel
theorem dX12_isOf_46 : decode cX12_isOf 46 = .ok (.goto 26, 3) := by decide +kernel
theorem dX12_isOf_49 : decode cX12_isOf 49 = .ok (.iload_n 2, 1) := by decide +kernel
theorem dX12_isOf_50 : decode cX12_isOf 50 = .ok (.bipush 6, 2) := by decide +kernel
theorem dX12_isOf_52 : decode cX12_isOf 52 = .ok (.if_icmp .ne 7, 3) := by decide +kernel
theorem dX12_isOf_55 : decode cX12_isOf 55 = .ok (.iconst 5, 1) := by decide +kernel
theorem dX12_isOf_56 : decode cX12_isOf 56 = .ok (.goto 16, 3) := by decide +kernel
theorem dX12_isOf_59 : decode cX12_isOf 59 = .ok (.iload_n 2, 1) := by decide +kernel
theorem dX12_isOf_60 : decode cX12_isOf 60 = .ok (.bipush 7, 2) := by decide +kernel
theorem dX12_isOf_62 : decode cX12_isOf 62 = .ok (.if_icmp .ne 8, 3) := by decide +kernel
theorem dX12_isOf_65 : decode cX12_isOf 65 = .ok (.bipush 8, 2) := by decide +kernel
theorem dX12_isOf_67 : decode cX12_isOf 67 = .ok (.goto 5, 3) := by decide +kernel
theorem dX12_isOf_70 : decode cX12_isOf 70 = .ok (.bipush 7, 2) := by decide +kernel
theorem dX12_isOf_72 : decode cX12_isOf 72 = .ok (.ireturn, 1) := by decide +kernel
def mX12_isOf (x1 : Int32) (t : zS) : zR := zrd t 5 3100 (x1 / 2) fun v3555 => if v3555 = 0 then some (v3555, t) else if (x1 - x1 / 2 * 2) = 0 then some (v3555, t) else if v3555 = 3 then some (4, t) else if v3555 = 4 then some (3, t) else if v3555 = 5 then some (6, t) else if v3555 = 6 then some (5, t) else if v3555 = 7 then some (8, t) else some (7, t)
set_option maxHeartbeats 4000000 in
set_option maxRecDepth 20000 in
theorem ctX12_isOf {E : zE} {f : Nat} (hf : 1 ≤ f) {x1 : Int32} {t : zS} {ro : Int32 × zS} (hF : mX12_isOf  x1 t = some ro) : zM E shM f yX12_isOf cX12_isOf 3 (some .int) [.ref (za E 0), .int x1] t ro := by
  refine zM_of (by decide) (Nat.le_of_ble_eq_true rfl) (fun C => ?_)
  show zJ E shM C cX12_isOf RX12 3 f (some .int) ro t 0 [(0, .ref (za E 0)), (1, .int x1)] []
  unfold mX12_isOf at hF
  refine z_aload_n 0 dX12_isOf_0 rfl rfl ?_
  refine z_getr fr_RX12_22 dX12_isOf_1 ?_
  refine z_iload_n 1 dX12_isOf_4 rfl rfl ?_
  refine z_iconst (v := 2) dX12_isOf_5 (by decide) ?_
  refine z_idiv dX12_isOf_6 (by decide) ?_
  obtain ⟨hi3556, hF⟩ := zrd_at hF
  refine z_iald (n := 3100) rfl hi3556 dX12_isOf_7 ?_
  generalize t 5 (Int32.toNatClampNeg (x1 / 2)) = v3555 at hF ⊢
  refine z_istore_n (lv' := [(2, .int v3555), (0, .ref (za E 0)), (1, .int x1)]) dX12_isOf_8 rfl (by decide) rfl ?_
  refine z_iload_n 0 dX12_isOf_9 rfl rfl ?_
  refine z_if_eq (tgt := 19) dX12_isOf_10 (by decide) (fun hc => ?_) (fun hc => ?_)
  · have hF := zif_t hc hF
    refine z_iload_n 0 dX12_isOf_19 rfl rfl ?_
    exact z_iret hF dX12_isOf_20
  · have hF := zif_f hc hF
    refine z_iload_n 2 dX12_isOf_13 rfl rfl ?_
    refine z_iconst (v := 2) dX12_isOf_14 (by decide) ?_
    refine z_irem dX12_isOf_15 (by decide) ?_
    refine z_if_ne (tgt := 21) dX12_isOf_16 (by decide) (fun hc => ?_) (fun hc => ?_)
    · have hF := zif_f hc hF
      refine z_iload_n 0 dX12_isOf_21 rfl rfl ?_
      refine z_iconst (v := 3) dX12_isOf_22 (by decide) ?_
      refine z_icmp_ne (tgt := 30) dX12_isOf_23 (by decide) (fun hc => ?_) (fun hc => ?_)
      · have hF := zif_f hc hF
        refine z_iload_n 0 dX12_isOf_30 rfl rfl ?_
        refine z_iconst (v := 4) dX12_isOf_31 (by decide) ?_
        refine z_icmp_ne (tgt := 39) dX12_isOf_32 (by decide) (fun hc => ?_) (fun hc => ?_)
        · have hF := zif_f hc hF
          refine z_iload_n 0 dX12_isOf_39 rfl rfl ?_
          refine z_iconst (v := 5) dX12_isOf_40 (by decide) ?_
          refine z_icmp_ne (tgt := 49) dX12_isOf_41 (by decide) (fun hc => ?_) (fun hc => ?_)
          · have hF := zif_f hc hF
            refine z_iload_n 0 dX12_isOf_49 rfl rfl ?_
            refine z_bipush (v := 6) dX12_isOf_50 (by decide) ?_
            refine z_icmp_ne (tgt := 59) dX12_isOf_52 (by decide) (fun hc => ?_) (fun hc => ?_)
            · have hF := zif_f hc hF
              refine z_iload_n 0 dX12_isOf_59 rfl rfl ?_
              refine z_bipush (v := 7) dX12_isOf_60 (by decide) ?_
              refine z_icmp_ne (tgt := 70) dX12_isOf_62 (by decide) (fun hc => ?_) (fun hc => ?_)
              · have hF := zif_f hc hF
                refine z_bipush (v := 7) dX12_isOf_70 (by decide) ?_
                exact z_iret hF dX12_isOf_72
              · have hF := zif_t hc hF
                refine z_bipush (v := 8) dX12_isOf_65 (by decide) ?_
                refine z_goto (tgt := 72) dX12_isOf_67 (by decide) ?_
                exact z_iret hF dX12_isOf_72
            · have hF := zif_t hc hF
              refine z_iconst (v := 5) dX12_isOf_55 (by decide) ?_
              refine z_goto (tgt := 72) dX12_isOf_56 (by decide) ?_
              exact z_iret hF dX12_isOf_72
          · have hF := zif_t hc hF
            refine z_bipush (v := 6) dX12_isOf_44 (by decide) ?_
            refine z_goto (tgt := 72) dX12_isOf_46 (by decide) ?_
            exact z_iret hF dX12_isOf_72
        · have hF := zif_t hc hF
          refine z_iconst (v := 3) dX12_isOf_35 (by decide) ?_
          refine z_goto (tgt := 72) dX12_isOf_36 (by decide) ?_
          exact z_iret hF dX12_isOf_72
      · have hF := zif_t hc hF
        refine z_iconst (v := 4) dX12_isOf_26 (by decide) ?_
        refine z_goto (tgt := 72) dX12_isOf_27 (by decide) ?_
        exact z_iret hF dX12_isOf_72
    · have hF := zif_t hc hF
      refine z_iload_n 0 dX12_isOf_19 rfl rfl ?_
      exact z_iret hF dX12_isOf_20
-- SessionHouseModel.setChannel(III)V
theorem dX12_setChannel_0 : decode cX12_setChannel 0 = .ok (.aload_n 0, 1) := by decide +kernel
theorem dX12_setChannel_1 : decode cX12_setChannel 1 = .ok (.getfield 135, 3) := by decide +kernel
theorem dX12_setChannel_4 : decode cX12_setChannel 4 = .ok (.sipush 1500, 3) := by decide +kernel
theorem dX12_setChannel_7 : decode cX12_setChannel 7 = .ok (.iload_n 1, 1) := by decide +kernel
theorem dX12_setChannel_8 : decode cX12_setChannel 8 = .ok (.imul, 1) := by decide +kernel
theorem dX12_setChannel_9 : decode cX12_setChannel 9 = .ok (.iload_n 2, 1) := by decide +kernel
theorem dX12_setChannel_10 : decode cX12_setChannel 10 = .ok (.iadd, 1) := by decide +kernel
theorem dX12_setChannel_11 : decode cX12_setChannel 11 = .ok (.aload_n 0, 1) := by decide +kernel
theorem dX12_setChannel_12 : decode cX12_setChannel 12 = .ok (.iload_n 3, 1) := by decide +kernel
theorem dX12_setChannel_13 : decode cX12_setChannel 13 = .ok (.invokevirtual 445, 3) := by decide +kernel
theorem dX12_setChannel_16 : decode cX12_setChannel 16 = .ok (.ifCond .ne 7, 3) := by decide +kernel
theorem dX12_setChannel_19 : decode cX12_setChannel 19 = .ok (.iconst (-1), 1) := by decide +kernel
theorem dX12_setChannel_20 : decode cX12_setChannel 20 = .ok (.goto 4, 3) := by decide +kernel
theorem dX12_setChannel_23 : decode cX12_setChannel 23 = .ok (.iload_n 3, 1) := by decide +kernel
theorem dX12_setChannel_24 : decode cX12_setChannel 24 = .ok (.iastore, 1) := by decide +kernel
theorem dX12_setChannel_25 : decode cX12_setChannel 25 = .ok (.return_, 1) := by decide +kernel
def bX12_setChannel_24 (y0 : Int32) (y1 : Int32) (t : zS) : zR := zwr t 42 66000 y1 y0 fun t3558 => some (0, t3558)
def mX12_setChannel (x1 : Int32) (x2 : Int32) (x3 : Int32) (t : zS) : zR := zbd (mX12_isOf x3 t) fun r3559 t3560 => if r3559 = 0 then bX12_setChannel_24  (-1) ((1500 * x1) + x2) t3560 else bX12_setChannel_24  x3 ((1500 * x1) + x2) t3560
set_option maxHeartbeats 4000000 in
set_option maxRecDepth 20000 in
theorem wbX12_setChannel_24 {E : zE} {C : zC} {f : Nat} {ro : Int32 × zS} (hf : 2 ≤ f) (y0 : Int32) (y1 : Int32) (t : zS) (hF : bX12_setChannel_24  y0 y1 t = some ro) : zJ E shM C cX12_setChannel RX12 4 f none ro t 24 [] [.int y0, .int y1, .ref (za E 42)] := by
  unfold bX12_setChannel_24 at hF
  obtain ⟨hi3557, hF⟩ := zwr_at hF
  refine z_iast (n := 66000) rfl hi3557 dX12_setChannel_24 (fun t3558 et3558 => ?_)
  have hF := hF t3558 et3558
  exact z_vret hF dX12_setChannel_25
set_option maxHeartbeats 4000000 in
set_option maxRecDepth 20000 in
theorem ctX12_setChannel {E : zE} {f : Nat} (hf : 2 ≤ f) {x1 : Int32} {x2 : Int32} {x3 : Int32} {t : zS} {ro : Int32 × zS} (hF : mX12_setChannel  x1 x2 x3 t = some ro) : zM E shM f yX12_setChannel cX12_setChannel 4 none [.ref (za E 0), .int x1, .int x2, .int x3] t ro := by
  refine zM_of (by decide) (Nat.le_of_ble_eq_true rfl) (fun C => ?_)
  show zJ E shM C cX12_setChannel RX12 4 f none ro t 0 [(0, .ref (za E 0)), (1, .int x1), (2, .int x2), (3, .int x3)] []
  unfold mX12_setChannel at hF
  refine z_aload_n 0 dX12_setChannel_0 rfl rfl ?_
  refine z_getr fr_RX12_135 dX12_setChannel_1 ?_
  refine z_sipush (v := 1500) dX12_setChannel_4 (by decide) ?_
  refine z_iload_n 1 dX12_setChannel_7 rfl rfl ?_
  refine z_imul dX12_setChannel_8 ?_
  refine z_iload_n 2 dX12_setChannel_9 rfl rfl ?_
  refine z_iadd dX12_setChannel_10 ?_
  refine z_aload_n 0 dX12_setChannel_11 rfl rfl ?_
  refine z_iload_n 3 dX12_setChannel_12 rfl rfl ?_
  obtain ⟨r3559, t3560, hc3561, hF⟩ := zbd_at hF
  refine z_callVi (ctX12_isOf (E := E) (f := f - 1) (by omega) hc3561) yy_X12_isOf yv_X12_isOf ob_M_0 lk_RX12_445 (by omega) rfl rfl (Nat.le_of_ble_eq_true rfl) dX12_setChannel_13 ?_
  refine z_if_ne (tgt := 23) dX12_setChannel_16 (by decide) (fun hc => ?_) (fun hc => ?_)
  · have hF := zif_f hc hF
    refine z_iload_n 3 dX12_setChannel_23 rfl rfl ?_
    refine z_sub [] rfl ?_
    exact wbX12_setChannel_24 hf  x3 ((1500 * x1) + x2) _ hF
  · have hF := zif_t hc hF
    refine z_iconst (v := (-1)) dX12_setChannel_19 (by decide) ?_
    refine z_goto (tgt := 24) dX12_setChannel_20 (by decide) ?_
    refine z_sub [] rfl ?_
    exact wbX12_setChannel_24 hf  (-1) ((1500 * x1) + x2) _ hF
-- SessionHouseModel.channel(II)I
theorem dX12_channel_0 : decode cX12_channel 0 = .ok (.aload_n 0, 1) := by decide +kernel
theorem dX12_channel_1 : decode cX12_channel 1 = .ok (.getfield 135, 3) := by decide +kernel
theorem dX12_channel_4 : decode cX12_channel 4 = .ok (.sipush 1500, 3) := by decide +kernel
theorem dX12_channel_7 : decode cX12_channel 7 = .ok (.iload_n 1, 1) := by decide +kernel
theorem dX12_channel_8 : decode cX12_channel 8 = .ok (.imul, 1) := by decide +kernel
theorem dX12_channel_9 : decode cX12_channel 9 = .ok (.iload_n 2, 1) := by decide +kernel
theorem dX12_channel_10 : decode cX12_channel 10 = .ok (.iadd, 1) := by decide +kernel
theorem dX12_channel_11 : decode cX12_channel 11 = .ok (.iaload, 1) := by decide +kernel
theorem dX12_channel_12 : decode cX12_channel 12 = .ok (.ireturn, 1) := by decide +kernel
def mX12_channel (x1 : Int32) (x2 : Int32) (t : zS) : zR := zrd t 42 66000 ((1500 * x1) + x2) fun v3562 => some (v3562, t)
set_option maxHeartbeats 4000000 in
set_option maxRecDepth 20000 in
theorem ctX12_channel {E : zE} {f : Nat} (hf : 1 ≤ f) {x1 : Int32} {x2 : Int32} {t : zS} {ro : Int32 × zS} (hF : mX12_channel  x1 x2 t = some ro) : zM E shM f yX12_channel cX12_channel 3 (some .int) [.ref (za E 0), .int x1, .int x2] t ro := by
  refine zM_of (by decide) (Nat.le_of_ble_eq_true rfl) (fun C => ?_)
  show zJ E shM C cX12_channel RX12 3 f (some .int) ro t 0 [(0, .ref (za E 0)), (1, .int x1), (2, .int x2)] []
  unfold mX12_channel at hF
  refine z_aload_n 0 dX12_channel_0 rfl rfl ?_
  refine z_getr fr_RX12_135 dX12_channel_1 ?_
  refine z_sipush (v := 1500) dX12_channel_4 (by decide) ?_
  refine z_iload_n 1 dX12_channel_7 rfl rfl ?_
  refine z_imul dX12_channel_8 ?_
  refine z_iload_n 2 dX12_channel_9 rfl rfl ?_
  refine z_iadd dX12_channel_10 ?_
  obtain ⟨hi3563, hF⟩ := zrd_at hF
  refine z_iald (n := 66000) rfl hi3563 dX12_channel_11 ?_
  generalize t 42 (Int32.toNatClampNeg ((1500 * x1) + x2)) = v3562 at hF ⊢
  exact z_iret hF dX12_channel_12
-- SessionHouseModel.areNumbers(II)Z
theorem dX12_areNumbers_0 : decode cX12_areNumbers 0 = .ok (.iconst 1, 1) := by decide +kernel
theorem dX12_areNumbers_1 : decode cX12_areNumbers 1 = .ok (.istore_n 3, 1) := by decide +kernel
theorem dX12_areNumbers_2 : decode cX12_areNumbers 2 = .ok (.iload_n 1, 1) := by decide +kernel
theorem dX12_areNumbers_3 : decode cX12_areNumbers 3 = .ok (.istore 4, 2) := by decide +kernel
theorem dX12_areNumbers_5 : decode cX12_areNumbers 5 = .ok (.aload_n 0, 1) := by decide +kernel
theorem dX12_areNumbers_6 : decode cX12_areNumbers 6 = .ok (.getfield 88, 3) := by decide +kernel
theorem dX12_areNumbers_9 : decode cX12_areNumbers 9 = .ok (.iload 4, 2) := by decide +kernel
theorem dX12_areNumbers_11 : decode cX12_areNumbers 11 = .ok (.iaload, 1) := by decide +kernel
theorem dX12_areNumbers_12 : decode cX12_areNumbers 12 = .ok (.ifCond .eq 82, 3) := by decide +kernel
theorem dX12_areNumbers_15 : decode cX12_areNumbers 15 = .ok (.iload_n 3, 1) := by decide +kernel
theorem dX12_areNumbers_16 : decode cX12_areNumbers 16 = .ok (.ifCond .eq 41, 3) := by decide +kernel
theorem dX12_areNumbers_19 : decode cX12_areNumbers 19 = .ok (.aload_n 0, 1) := by decide +kernel
theorem dX12_areNumbers_20 : decode cX12_areNumbers 20 = .ok (.getfield 88, 3) := by decide +kernel
theorem dX12_areNumbers_23 : decode cX12_areNumbers 23 = .ok (.iload 4, 2) := by decide +kernel
theorem dX12_areNumbers_25 : decode cX12_areNumbers 25 = .ok (.iaload, 1) := by decide +kernel
theorem dX12_areNumbers_26 : decode cX12_areNumbers 26 = .ok (.iconst 2, 1) := by decide +kernel
theorem dX12_areNumbers_27 : decode cX12_areNumbers 27 = .ok (.if_icmp .ne 26, 3) := by decide +kernel
theorem dX12_areNumbers_30 : decode cX12_areNumbers 30 = .ok (.aload_n 0, 1) := by decide +kernel
theorem dX12_areNumbers_31 : decode cX12_areNumbers 31 = .ok (.getfield 135, 3) := by decide +kernel
theorem dX12_areNumbers_34 : decode cX12_areNumbers 34 = .ok (.sipush 1500, 3) := by decide +kernel
theorem dX12_areNumbers_37 : decode cX12_areNumbers 37 = .ok (.iload_n 2, 1) := by decide +kernel
theorem dX12_areNumbers_38 : decode cX12_areNumbers 38 = .ok (.imul, 1) := by decide +kernel
theorem dX12_areNumbers_39 : decode cX12_areNumbers 39 = .ok (.aload_n 0, 1) := by decide +kernel
theorem dX12_areNumbers_40 : decode cX12_areNumbers 40 = .ok (.getfield 88, 3) := by decide +kernel
theorem dX12_areNumbers_43 : decode cX12_areNumbers 43 = .ok (.iload 4, 2) := by decide +kernel
theorem dX12_areNumbers_45 : decode cX12_areNumbers 45 = .ok (.iconst 1, 1) := by decide +kernel
theorem dX12_areNumbers_46 : decode cX12_areNumbers 46 = .ok (.iadd, 1) := by decide +kernel
theorem dX12_areNumbers_47 : decode cX12_areNumbers 47 = .ok (.iaload, 1) := by decide +kernel
theorem dX12_areNumbers_48 : decode cX12_areNumbers 48 = .ok (.iadd, 1) := by decide +kernel
theorem dX12_areNumbers_49 : decode cX12_areNumbers 49 = .ok (.iaload, 1) := by decide +kernel
theorem dX12_areNumbers_50 : decode cX12_areNumbers 50 = .ok (.ifCond .ge 7, 3) := by decide +kernel
theorem dX12_areNumbers_53 : decode cX12_areNumbers 53 = .ok (.iconst 1, 1) := by decide +kernel
theorem dX12_areNumbers_54 : decode cX12_areNumbers 54 = .ok (.goto 4, 3) := by decide +kernel
theorem dX12_areNumbers_57 : decode cX12_areNumbers 57 = .ok (.iconst 0, 1) := by decide +kernel
theorem dX12_areNumbers_58 : decode cX12_areNumbers 58 = .ok (.istore_n 3, 1) := by decide +kernel
theorem dX12_areNumbers_59 : decode cX12_areNumbers 59 = .ok (.iload 4, 2) := by decide +kernel
theorem dX12_areNumbers_61 : decode cX12_areNumbers 61 = .ok (.aload_n 0, 1) := by decide +kernel
theorem dX12_areNumbers_62 : decode cX12_areNumbers 62 = .ok (.getfield 88, 3) := by decide +kernel
theorem dX12_areNumbers_65 : decode cX12_areNumbers 65 = .ok (.iload 4, 2) := by decide +kernel
theorem dX12_areNumbers_67 : decode cX12_areNumbers 67 = .ok (.iaload, 1) := by decide +kernel
theorem dX12_areNumbers_68 : decode cX12_areNumbers 68 = .ok (.iconst 1, 1) := by decide +kernel
theorem dX12_areNumbers_69 : decode cX12_areNumbers 69 = .ok (.if_icmp .eq 14, 3) := by decide +kernel
theorem dX12_areNumbers_72 : decode cX12_areNumbers 72 = .ok (.aload_n 0, 1) := by decide +kernel
theorem dX12_areNumbers_73 : decode cX12_areNumbers 73 = .ok (.getfield 88, 3) := by decide +kernel
theorem dX12_areNumbers_76 : decode cX12_areNumbers 76 = .ok (.iload 4, 2) := by decide +kernel
theorem dX12_areNumbers_78 : decode cX12_areNumbers 78 = .ok (.iaload, 1) := by decide +kernel
theorem dX12_areNumbers_79 : decode cX12_areNumbers 79 = .ok (.iconst 2, 1) := by decide +kernel
theorem dX12_areNumbers_80 : decode cX12_areNumbers 80 = .ok (.if_icmp .ne 7, 3) := by decide +kernel
theorem dX12_areNumbers_83 : decode cX12_areNumbers 83 = .ok (.iconst 2, 1) := by decide +kernel
theorem dX12_areNumbers_84 : decode cX12_areNumbers 84 = .ok (.goto 4, 3) := by decide +kernel
theorem dX12_areNumbers_87 : decode cX12_areNumbers 87 = .ok (.iconst 1, 1) := by decide +kernel
theorem dX12_areNumbers_88 : decode cX12_areNumbers 88 = .ok (.iadd, 1) := by decide +kernel
theorem dX12_areNumbers_89 : decode cX12_areNumbers 89 = .ok (.istore 4, 2) := by decide +kernel
theorem dX12_areNumbers_91 : decode cX12_areNumbers 91 = .ok (.goto (-86), 3) := by decide +kernel
theorem dX12_areNumbers_94 : decode cX12_areNumbers 94 = .ok (.iload_n 3, 1) := by decide +kernel
theorem dX12_areNumbers_95 : decode cX12_areNumbers 95 = .ok (.ireturn, 1) := by decide +kernel
def bX12_areNumbers_88 (k5 : Int32 → Int32 → Int32 → zS → zR) (x2 : Int32) (x3 : Int32) (y0 : Int32) (y1 : Int32) (t : zS) : zR := zlet (y1 + y0) fun v3564 => k5 x2 x3 v3564 t
def bX12_areNumbers_83 (k5 : Int32 → Int32 → Int32 → zS → zR) (x2 : Int32) (x3 : Int32) (y0 : Int32) (t : zS) : zR := bX12_areNumbers_88 k5 x2 x3 2 y0 t
def bX12_areNumbers_58 (k5 : Int32 → Int32 → Int32 → zS → zR) (x2 : Int32) (x4 : Int32) (y0 : Int32) (t : zS) : zR := zrd t 27 9000 x4 fun v3565 => if v3565 = 1 then bX12_areNumbers_83 k5 x2 y0 x4 t else zrd t 27 9000 x4 fun v3567 => if v3567 = 2 then bX12_areNumbers_83 k5 x2 y0 x4 t else bX12_areNumbers_88 k5 x2 y0 1 x4 t
def bX12_areNumbers_53 (k5 : Int32 → Int32 → Int32 → zS → zR) (x2 : Int32) (x4 : Int32) (t : zS) : zR := bX12_areNumbers_58 k5 x2 x4 1 t
def bX12_areNumbers_57 (k5 : Int32 → Int32 → Int32 → zS → zR) (x2 : Int32) (x4 : Int32) (t : zS) : zR := bX12_areNumbers_58 k5 x2 x4 0 t
def bX12_areNumbers_5 (k5 : Int32 → Int32 → Int32 → zS → zR) (x2 : Int32) (x3 : Int32) (x4 : Int32) (t : zS) : zR := zrd t 27 9000 x4 fun v3569 => if v3569 = 0 then z01 x3 (some (x3, t)) else if x3 = 0 then bX12_areNumbers_57 k5 x2 x4 t else zrd t 27 9000 x4 fun v3572 => if v3572 = 2 then zrd t 27 9000 (x4 + 1) fun v3574 => zrd t 42 66000 ((1500 * x2) + v3574) fun v3576 => if 0 ≤ v3576 then bX12_areNumbers_57 k5 x2 x4 t else bX12_areNumbers_53 k5 x2 x4 t else bX12_areNumbers_53 k5 x2 x4 t
def lX12_areNumbers_5 : Nat → Int32 → Int32 → Int32 → zS → zR
  | 0, _, _, _, _ => none
  | fu + 1, x2, x3, x4, t => bX12_areNumbers_5 (lX12_areNumbers_5  fu) x2 x3 x4 t
def mX12_areNumbers (x1 : Int32) (x2 : Int32) (t : zS) : zR := lX12_areNumbers_5  zFU x2 1 x1 t
set_option maxHeartbeats 4000000 in
set_option maxRecDepth 20000 in
theorem wbX12_areNumbers_88 {E : zE} {C : zC} {f : Nat} {ro : Int32 × zS} (hf : 1 ≤ f) (k5 : Int32 → Int32 → Int32 → zS → zR) (hk5 : ∀ (x2 x3 x4 : Int32) (t : zS), k5 x2 x3 x4 t = some ro → zJ E shM C cX12_areNumbers RX12 5 f (some .boolean) ro t 5 [(0, .ref (za E 0)), (2, .int x2), (3, .int x3), (4, .int x4)] []) (x2 : Int32) (x3 : Int32) (y0 : Int32) (y1 : Int32) (t : zS) (hF : bX12_areNumbers_88 k5 x2 x3 y0 y1 t = some ro) : zJ E shM C cX12_areNumbers RX12 5 f (some .boolean) ro t 88 [(0, .ref (za E 0)), (2, .int x2), (3, .int x3)] [.int y0, .int y1] := by
  unfold bX12_areNumbers_88 at hF
  refine z_iadd dX12_areNumbers_88 ?_
  refine z_topi (fun v3564 ev3564 => ?_)
  have hF := zlet_at ev3564 hF
  refine z_istore (lv' := [(4, .int v3564), (0, .ref (za E 0)), (2, .int x2), (3, .int x3)]) dX12_areNumbers_89 (by decide) rfl ?_
  refine z_goto (tgt := 5) dX12_areNumbers_91 (by decide) ?_
  refine z_sub [1, 2, 3, 0] rfl ?_
  exact hk5 x2 x3 v3564 _ hF
set_option maxHeartbeats 4000000 in
set_option maxRecDepth 20000 in
theorem wbX12_areNumbers_83 {E : zE} {C : zC} {f : Nat} {ro : Int32 × zS} (hf : 1 ≤ f) (k5 : Int32 → Int32 → Int32 → zS → zR) (hk5 : ∀ (x2 x3 x4 : Int32) (t : zS), k5 x2 x3 x4 t = some ro → zJ E shM C cX12_areNumbers RX12 5 f (some .boolean) ro t 5 [(0, .ref (za E 0)), (2, .int x2), (3, .int x3), (4, .int x4)] []) (x2 : Int32) (x3 : Int32) (y0 : Int32) (t : zS) (hF : bX12_areNumbers_83 k5 x2 x3 y0 t = some ro) : zJ E shM C cX12_areNumbers RX12 5 f (some .boolean) ro t 83 [(0, .ref (za E 0)), (2, .int x2), (3, .int x3)] [.int y0] := by
  unfold bX12_areNumbers_83 at hF
  refine z_iconst (v := 2) dX12_areNumbers_83 (by decide) ?_
  refine z_goto (tgt := 88) dX12_areNumbers_84 (by decide) ?_
  exact wbX12_areNumbers_88 hf k5 hk5 x2 x3 2 y0 _ hF
set_option maxHeartbeats 4000000 in
set_option maxRecDepth 20000 in
theorem wbX12_areNumbers_58 {E : zE} {C : zC} {f : Nat} {ro : Int32 × zS} (hf : 1 ≤ f) (k5 : Int32 → Int32 → Int32 → zS → zR) (hk5 : ∀ (x2 x3 x4 : Int32) (t : zS), k5 x2 x3 x4 t = some ro → zJ E shM C cX12_areNumbers RX12 5 f (some .boolean) ro t 5 [(0, .ref (za E 0)), (2, .int x2), (3, .int x3), (4, .int x4)] []) (x2 : Int32) (x4 : Int32) (y0 : Int32) (t : zS) (hF : bX12_areNumbers_58 k5 x2 x4 y0 t = some ro) : zJ E shM C cX12_areNumbers RX12 5 f (some .boolean) ro t 58 [(0, .ref (za E 0)), (2, .int x2), (4, .int x4)] [.int y0] := by
  unfold bX12_areNumbers_58 at hF
  refine z_istore_n (lv' := [(3, .int y0), (0, .ref (za E 0)), (2, .int x2), (4, .int x4)]) dX12_areNumbers_58 rfl (by decide) rfl ?_
  refine z_iload 3 dX12_areNumbers_59 rfl ?_
  refine z_aload_n 1 dX12_areNumbers_61 rfl rfl ?_
  refine z_getr fr_RX12_88 dX12_areNumbers_62 ?_
  refine z_iload 3 dX12_areNumbers_65 rfl ?_
  obtain ⟨hi3566, hF⟩ := zrd_at hF
  refine z_iald (n := 9000) rfl hi3566 dX12_areNumbers_67 ?_
  generalize t 27 (Int32.toNatClampNeg x4) = v3565 at hF ⊢
  refine z_iconst (v := 1) dX12_areNumbers_68 (by decide) ?_
  refine z_icmp_eq (tgt := 83) dX12_areNumbers_69 (by decide) (fun hc => ?_) (fun hc => ?_)
  · have hF := zif_t hc hF
    refine z_sub [1, 2, 0] rfl ?_
    exact wbX12_areNumbers_83 hf k5 hk5 x2 y0 x4 _ hF
  · have hF := zif_f hc hF
    refine z_aload_n 1 dX12_areNumbers_72 rfl rfl ?_
    refine z_getr fr_RX12_88 dX12_areNumbers_73 ?_
    refine z_iload 3 dX12_areNumbers_76 rfl ?_
    obtain ⟨hi3568, hF⟩ := zrd_at hF
    refine z_iald (n := 9000) rfl hi3568 dX12_areNumbers_78 ?_
    generalize t 27 (Int32.toNatClampNeg x4) = v3567 at hF ⊢
    refine z_iconst (v := 2) dX12_areNumbers_79 (by decide) ?_
    refine z_icmp_ne (tgt := 87) dX12_areNumbers_80 (by decide) (fun hc => ?_) (fun hc => ?_)
    · have hF := zif_f hc hF
      refine z_iconst (v := 1) dX12_areNumbers_87 (by decide) ?_
      refine z_sub [1, 2, 0] rfl ?_
      exact wbX12_areNumbers_88 hf k5 hk5 x2 y0 1 x4 _ hF
    · have hF := zif_t hc hF
      refine z_sub [1, 2, 0] rfl ?_
      exact wbX12_areNumbers_83 hf k5 hk5 x2 y0 x4 _ hF
set_option maxHeartbeats 4000000 in
set_option maxRecDepth 20000 in
theorem wbX12_areNumbers_53 {E : zE} {C : zC} {f : Nat} {ro : Int32 × zS} (hf : 1 ≤ f) (k5 : Int32 → Int32 → Int32 → zS → zR) (hk5 : ∀ (x2 x3 x4 : Int32) (t : zS), k5 x2 x3 x4 t = some ro → zJ E shM C cX12_areNumbers RX12 5 f (some .boolean) ro t 5 [(0, .ref (za E 0)), (2, .int x2), (3, .int x3), (4, .int x4)] []) (x2 : Int32) (x4 : Int32) (t : zS) (hF : bX12_areNumbers_53 k5 x2 x4 t = some ro) : zJ E shM C cX12_areNumbers RX12 5 f (some .boolean) ro t 53 [(0, .ref (za E 0)), (2, .int x2), (4, .int x4)] [] := by
  unfold bX12_areNumbers_53 at hF
  refine z_iconst (v := 1) dX12_areNumbers_53 (by decide) ?_
  refine z_goto (tgt := 58) dX12_areNumbers_54 (by decide) ?_
  exact wbX12_areNumbers_58 hf k5 hk5 x2 x4 1 _ hF
set_option maxHeartbeats 4000000 in
set_option maxRecDepth 20000 in
theorem wbX12_areNumbers_57 {E : zE} {C : zC} {f : Nat} {ro : Int32 × zS} (hf : 1 ≤ f) (k5 : Int32 → Int32 → Int32 → zS → zR) (hk5 : ∀ (x2 x3 x4 : Int32) (t : zS), k5 x2 x3 x4 t = some ro → zJ E shM C cX12_areNumbers RX12 5 f (some .boolean) ro t 5 [(0, .ref (za E 0)), (2, .int x2), (3, .int x3), (4, .int x4)] []) (x2 : Int32) (x4 : Int32) (t : zS) (hF : bX12_areNumbers_57 k5 x2 x4 t = some ro) : zJ E shM C cX12_areNumbers RX12 5 f (some .boolean) ro t 57 [(0, .ref (za E 0)), (2, .int x2), (4, .int x4)] [] := by
  unfold bX12_areNumbers_57 at hF
  refine z_iconst (v := 0) dX12_areNumbers_57 (by decide) ?_
  exact wbX12_areNumbers_58 hf k5 hk5 x2 x4 0 _ hF
set_option maxHeartbeats 4000000 in
set_option maxRecDepth 20000 in
theorem wbX12_areNumbers_5 {E : zE} {C : zC} {f : Nat} {ro : Int32 × zS} (hf : 1 ≤ f) (k5 : Int32 → Int32 → Int32 → zS → zR) (hk5 : ∀ (x2 x3 x4 : Int32) (t : zS), k5 x2 x3 x4 t = some ro → zJ E shM C cX12_areNumbers RX12 5 f (some .boolean) ro t 5 [(0, .ref (za E 0)), (2, .int x2), (3, .int x3), (4, .int x4)] []) (x2 : Int32) (x3 : Int32) (x4 : Int32) (t : zS) (hF : bX12_areNumbers_5 k5 x2 x3 x4 t = some ro) : zJ E shM C cX12_areNumbers RX12 5 f (some .boolean) ro t 5 [(0, .ref (za E 0)), (2, .int x2), (3, .int x3), (4, .int x4)] [] := by
  unfold bX12_areNumbers_5 at hF
  refine z_aload_n 0 dX12_areNumbers_5 rfl rfl ?_
  refine z_getr fr_RX12_88 dX12_areNumbers_6 ?_
  refine z_iload 3 dX12_areNumbers_9 rfl ?_
  obtain ⟨hi3570, hF⟩ := zrd_at hF
  refine z_iald (n := 9000) rfl hi3570 dX12_areNumbers_11 ?_
  generalize t 27 (Int32.toNatClampNeg x4) = v3569 at hF ⊢
  refine z_if_eq (tgt := 94) dX12_areNumbers_12 (by decide) (fun hc => ?_) (fun hc => ?_)
  · have hF := zif_t hc hF
    refine z_iload_n 2 dX12_areNumbers_94 rfl rfl ?_
    obtain ⟨hz3571, hF⟩ := z01_at hF
    exact z_zret hF hz3571 dX12_areNumbers_95
  · have hF := zif_f hc hF
    refine z_iload_n 2 dX12_areNumbers_15 rfl rfl ?_
    refine z_if_eq (tgt := 57) dX12_areNumbers_16 (by decide) (fun hc => ?_) (fun hc => ?_)
    · have hF := zif_t hc hF
      refine z_sub [0, 1, 3] rfl ?_
      exact wbX12_areNumbers_57 hf k5 hk5 x2 x4 _ hF
    · have hF := zif_f hc hF
      refine z_aload_n 0 dX12_areNumbers_19 rfl rfl ?_
      refine z_getr fr_RX12_88 dX12_areNumbers_20 ?_
      refine z_iload 3 dX12_areNumbers_23 rfl ?_
      obtain ⟨hi3573, hF⟩ := zrd_at hF
      refine z_iald (n := 9000) rfl hi3573 dX12_areNumbers_25 ?_
      generalize t 27 (Int32.toNatClampNeg x4) = v3572 at hF ⊢
      refine z_iconst (v := 2) dX12_areNumbers_26 (by decide) ?_
      refine z_icmp_ne (tgt := 53) dX12_areNumbers_27 (by decide) (fun hc => ?_) (fun hc => ?_)
      · have hF := zif_f hc hF
        refine z_sub [0, 1, 3] rfl ?_
        exact wbX12_areNumbers_53 hf k5 hk5 x2 x4 _ hF
      · have hF := zif_t hc hF
        refine z_aload_n 0 dX12_areNumbers_30 rfl rfl ?_
        refine z_getr fr_RX12_135 dX12_areNumbers_31 ?_
        refine z_sipush (v := 1500) dX12_areNumbers_34 (by decide) ?_
        refine z_iload_n 1 dX12_areNumbers_37 rfl rfl ?_
        refine z_imul dX12_areNumbers_38 ?_
        refine z_aload_n 0 dX12_areNumbers_39 rfl rfl ?_
        refine z_getr fr_RX12_88 dX12_areNumbers_40 ?_
        refine z_iload 3 dX12_areNumbers_43 rfl ?_
        refine z_iconst (v := 1) dX12_areNumbers_45 (by decide) ?_
        refine z_iadd dX12_areNumbers_46 ?_
        obtain ⟨hi3575, hF⟩ := zrd_at hF
        refine z_iald (n := 9000) rfl hi3575 dX12_areNumbers_47 ?_
        generalize t 27 (Int32.toNatClampNeg (x4 + 1)) = v3574 at hF ⊢
        refine z_iadd dX12_areNumbers_48 ?_
        obtain ⟨hi3577, hF⟩ := zrd_at hF
        refine z_iald (n := 66000) rfl hi3577 dX12_areNumbers_49 ?_
        generalize t 42 (Int32.toNatClampNeg ((1500 * x2) + v3574)) = v3576 at hF ⊢
        refine z_if_ge (tgt := 57) dX12_areNumbers_50 (by decide) (fun hc => ?_) (fun hc => ?_)
        · have hF := zif_t hc hF
          refine z_sub [0, 1, 3] rfl ?_
          exact wbX12_areNumbers_57 hf k5 hk5 x2 x4 _ hF
        · have hF := zif_f hc hF
          refine z_sub [0, 1, 3] rfl ?_
          exact wbX12_areNumbers_53 hf k5 hk5 x2 x4 _ hF
set_option maxHeartbeats 4000000 in
set_option maxRecDepth 20000 in
theorem wlX12_areNumbers_5 {E : zE} {C : zC} {f : Nat} {ro : Int32 × zS} (hf : 1 ≤ f) (fu : Nat) : ∀ (x2 x3 x4 : Int32) (t : zS), lX12_areNumbers_5  fu x2 x3 x4 t = some ro → zJ E shM C cX12_areNumbers RX12 5 f (some .boolean) ro t 5 [(0, .ref (za E 0)), (2, .int x2), (3, .int x3), (4, .int x4)] [] := by
  induction fu with
  | zero => intro x2 x3 x4 t hF; cases hF
  | succ fu ih => intro x2 x3 x4 t hF; exact wbX12_areNumbers_5 hf (lX12_areNumbers_5  fu) ih x2 x3 x4 t hF
set_option maxHeartbeats 4000000 in
set_option maxRecDepth 20000 in
theorem ctX12_areNumbers {E : zE} {f : Nat} (hf : 1 ≤ f) {x1 : Int32} {x2 : Int32} {t : zS} {ro : Int32 × zS} (hF : mX12_areNumbers  x1 x2 t = some ro) : zM E shM f yX12_areNumbers cX12_areNumbers 5 (some .boolean) [.ref (za E 0), .int x1, .int x2] t ro := by
  refine zM_of (by decide) (Nat.le_of_ble_eq_true rfl) (fun C => ?_)
  show zJ E shM C cX12_areNumbers RX12 5 f (some .boolean) ro t 0 [(0, .ref (za E 0)), (1, .int x1), (2, .int x2)] []
  unfold mX12_areNumbers at hF
  refine z_iconst (v := 1) dX12_areNumbers_0 (by decide) ?_
  refine z_istore_n (lv' := [(3, .int 1), (0, .ref (za E 0)), (1, .int x1), (2, .int x2)]) dX12_areNumbers_1 rfl (by decide) rfl ?_
  refine z_iload_n 2 dX12_areNumbers_2 rfl rfl ?_
  refine z_istore (lv' := [(4, .int x1), (3, .int 1), (0, .ref (za E 0)), (1, .int x1), (2, .int x2)]) dX12_areNumbers_3 (by decide) rfl ?_
  refine z_sub [2, 4, 1, 0] rfl ?_
  exact wlX12_areNumbers_5 hf  zFU x2 1 x1 _ hF
-- SessionHouseModel.isOne(III)Z
theorem dX12_isOne_0 : decode cX12_isOne 0 = .ok (.aload_n 0, 1) := by decide +kernel
theorem dX12_isOne_1 : decode cX12_isOne 1 = .ok (.iload_n 1, 1) := by decide +kernel
theorem dX12_isOne_2 : decode cX12_isOne 2 = .ok (.iload_n 2, 1) := by decide +kernel
theorem dX12_isOne_3 : decode cX12_isOne 3 = .ok (.invokevirtual 484, 3) := by decide +kernel
theorem dX12_isOne_6 : decode cX12_isOne 6 = .ok (.ifCond .lt 21, 3) := by decide +kernel
theorem dX12_isOne_9 : decode cX12_isOne 9 = .ok (.aload_n 0, 1) := by decide +kernel
theorem dX12_isOne_10 : decode cX12_isOne 10 = .ok (.aload_n 0, 1) := by decide +kernel
theorem dX12_isOne_11 : decode cX12_isOne 11 = .ok (.iload_n 1, 1) := by decide +kernel
theorem dX12_isOne_12 : decode cX12_isOne 12 = .ok (.iload_n 2, 1) := by decide +kernel
theorem dX12_isOne_13 : decode cX12_isOne 13 = .ok (.invokevirtual 484, 3) := by decide +kernel
theorem dX12_isOne_16 : decode cX12_isOne 16 = .ok (.invokevirtual 445, 3) := by decide +kernel
theorem dX12_isOne_19 : decode cX12_isOne 19 = .ok (.iload_n 3, 1) := by decide +kernel
theorem dX12_isOne_20 : decode cX12_isOne 20 = .ok (.if_icmp .ne 7, 3) := by decide +kernel
theorem dX12_isOne_23 : decode cX12_isOne 23 = .ok (.iconst 1, 1) := by decide +kernel
theorem dX12_isOne_24 : decode cX12_isOne 24 = .ok (.goto 4, 3) := by decide +kernel
theorem dX12_isOne_27 : decode cX12_isOne 27 = .ok (.iconst 0, 1) := by decide +kernel
theorem dX12_isOne_28 : decode cX12_isOne 28 = .ok (.ireturn, 1) := by decide +kernel
def mX12_isOne (x1 : Int32) (x2 : Int32) (x3 : Int32) (t : zS) : zR := zbd (mX12_channel x1 x2 t) fun r3578 t3579 => if r3578 < 0 then some (0, t3579) else zbd (mX12_channel x1 x2 t3579) fun r3581 t3582 => zbd (mX12_isOf r3581 t3582) fun r3584 t3585 => if r3584 = x3 then some (1, t3585) else some (0, t3585)
set_option maxHeartbeats 4000000 in
set_option maxRecDepth 20000 in
theorem ctX12_isOne {E : zE} {f : Nat} (hf : 2 ≤ f) {x1 : Int32} {x2 : Int32} {x3 : Int32} {t : zS} {ro : Int32 × zS} (hF : mX12_isOne  x1 x2 x3 t = some ro) : zM E shM f yX12_isOne cX12_isOne 4 (some .boolean) [.ref (za E 0), .int x1, .int x2, .int x3] t ro := by
  refine zM_of (by decide) (Nat.le_of_ble_eq_true rfl) (fun C => ?_)
  show zJ E shM C cX12_isOne RX12 4 f (some .boolean) ro t 0 [(0, .ref (za E 0)), (1, .int x1), (2, .int x2), (3, .int x3)] []
  unfold mX12_isOne at hF
  refine z_aload_n 0 dX12_isOne_0 rfl rfl ?_
  refine z_iload_n 1 dX12_isOne_1 rfl rfl ?_
  refine z_iload_n 2 dX12_isOne_2 rfl rfl ?_
  obtain ⟨r3578, t3579, hc3580, hF⟩ := zbd_at hF
  refine z_callVi (ctX12_channel (E := E) (f := f - 1) (by omega) hc3580) yy_X12_channel yv_X12_channel ob_M_0 lk_RX12_484 (by omega) rfl rfl (Nat.le_of_ble_eq_true rfl) dX12_isOne_3 ?_
  refine z_if_lt (tgt := 27) dX12_isOne_6 (by decide) (fun hc => ?_) (fun hc => ?_)
  · have hF := zif_t hc hF
    refine z_iconst (v := 0) dX12_isOne_27 (by decide) ?_
    exact z_zret hF (by decide) dX12_isOne_28
  · have hF := zif_f hc hF
    refine z_aload_n 0 dX12_isOne_9 rfl rfl ?_
    refine z_aload_n 0 dX12_isOne_10 rfl rfl ?_
    refine z_iload_n 1 dX12_isOne_11 rfl rfl ?_
    refine z_iload_n 2 dX12_isOne_12 rfl rfl ?_
    obtain ⟨r3581, t3582, hc3583, hF⟩ := zbd_at hF
    refine z_callVi (ctX12_channel (E := E) (f := f - 1) (by omega) hc3583) yy_X12_channel yv_X12_channel ob_M_0 lk_RX12_484 (by omega) rfl rfl (Nat.le_of_ble_eq_true rfl) dX12_isOne_13 ?_
    obtain ⟨r3584, t3585, hc3586, hF⟩ := zbd_at hF
    refine z_callVi (ctX12_isOf (E := E) (f := f - 1) (by omega) hc3586) yy_X12_isOf yv_X12_isOf ob_M_0 lk_RX12_445 (by omega) rfl rfl (Nat.le_of_ble_eq_true rfl) dX12_isOne_16 ?_
    refine z_iload_n 3 dX12_isOne_19 rfl rfl ?_
    refine z_icmp_ne (tgt := 27) dX12_isOne_20 (by decide) (fun hc => ?_) (fun hc => ?_)
    · have hF := zif_f hc hF
      refine z_iconst (v := 0) dX12_isOne_27 (by decide) ?_
      exact z_zret hF (by decide) dX12_isOne_28
    · have hF := zif_t hc hF
      refine z_iconst (v := 1) dX12_isOne_23 (by decide) ?_
      refine z_goto (tgt := 28) dX12_isOne_24 (by decide) ?_
      exact z_zret hF (by decide) dX12_isOne_28
