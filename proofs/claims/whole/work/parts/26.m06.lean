abbrev GgX1_checkBlock : Type := (Int32 → Int32 → zS → zR) × (Int32 → Int32 → zS → zR) × (Int32 → Int32 → Int32 → zS → zR) × (Int32 → Int32 → zS → zR)
def HgX1_checkBlock (E : zE) (f : Nat) (g : GgX1_checkBlock) : Prop := (∀ (x1 x2 : Int32) (t : zS) (ro : Int32 × zS), g.1 x1 x2 t = some ro → zM E shC f yX1_checkBlock cX1_checkBlock 7 (some .boolean) [.ref (za E 6), .int x1, .int x2] t ro) ∧ (∀ (x1 x2 : Int32) (t : zS) (ro : Int32 × zS), g.2.1 x1 x2 t = some ro → zM E shC f yX1_checkStatement cX1_checkStatement 5 (some .boolean) [.ref (za E 6), .int x1, .int x2] t ro) ∧ (∀ (x1 x2 x3 : Int32) (t : zS) (ro : Int32 × zS), g.2.2.1 x1 x2 x3 t = some ro → zM E shC f yX1_checkBranches cX1_checkBranches 12 (some .boolean) [.ref (za E 6), .int x1, .int x2, .int x3] t ro) ∧ (∀ (x1 x2 : Int32) (t : zS) (ro : Int32 × zS), g.2.2.2 x1 x2 t = some ro → zM E shC f yX1_checkRound cX1_checkRound 5 none [.ref (za E 6), .int x1, .int x2] t ro)
theorem z_hgX1_checkBlock {E : zE} {f : Nat} {g : GgX1_checkBlock} (hg : HgX1_checkBlock E f g) {x1 x2 : Int32} {t : zS} {ro : Int32 × zS} (h : g.1 x1 x2 t = some ro) : zM E shC f yX1_checkBlock cX1_checkBlock 7 (some .boolean) [.ref (za E 6), .int x1, .int x2] t ro := hg.1 _ _ _ _ h
theorem z_hgX1_checkStatement {E : zE} {f : Nat} {g : GgX1_checkBlock} (hg : HgX1_checkBlock E f g) {x1 x2 : Int32} {t : zS} {ro : Int32 × zS} (h : g.2.1 x1 x2 t = some ro) : zM E shC f yX1_checkStatement cX1_checkStatement 5 (some .boolean) [.ref (za E 6), .int x1, .int x2] t ro := hg.2.1 _ _ _ _ h
theorem z_hgX1_checkBranches {E : zE} {f : Nat} {g : GgX1_checkBlock} (hg : HgX1_checkBlock E f g) {x1 x2 x3 : Int32} {t : zS} {ro : Int32 × zS} (h : g.2.2.1 x1 x2 x3 t = some ro) : zM E shC f yX1_checkBranches cX1_checkBranches 12 (some .boolean) [.ref (za E 6), .int x1, .int x2, .int x3] t ro := hg.2.2.1 _ _ _ _ _ h
theorem z_hgX1_checkRound {E : zE} {f : Nat} {g : GgX1_checkBlock} (hg : HgX1_checkBlock E f g) {x1 x2 : Int32} {t : zS} {ro : Int32 × zS} (h : g.2.2.2 x1 x2 t = some ro) : zM E shC f yX1_checkRound cX1_checkRound 5 none [.ref (za E 6), .int x1, .int x2] t ro := hg.2.2.2 _ _ _ _ h
-- SessionHouse$Checker.checkBlock(II)Z
theorem dX1_checkBlock_0 : decode cX1_checkBlock 0 = .ok (.iconst 0, 1) := by decide +kernel
theorem dX1_checkBlock_1 : decode cX1_checkBlock 1 = .ok (.istore_n 3, 1) := by decide +kernel
theorem dX1_checkBlock_2 : decode cX1_checkBlock 2 = .ok (.iload_n 1, 1) := by decide +kernel
theorem dX1_checkBlock_3 : decode cX1_checkBlock 3 = .ok (.istore 4, 2) := by decide +kernel
theorem dX1_checkBlock_5 : decode cX1_checkBlock 5 = .ok (.iconst 0, 1) := by decide +kernel
theorem dX1_checkBlock_6 : decode cX1_checkBlock 6 = .ok (.istore 5, 2) := by decide +kernel
theorem dX1_checkBlock_8 : decode cX1_checkBlock 8 = .ok (.iload 5, 2) := by decide +kernel
theorem dX1_checkBlock_10 : decode cX1_checkBlock 10 = .ok (.sipush 1000, 3) := by decide +kernel
theorem dX1_checkBlock_13 : decode cX1_checkBlock 13 = .ok (.if_icmp .ge 75, 3) := by decide +kernel
theorem dX1_checkBlock_16 : decode cX1_checkBlock 16 = .ok (.iload 4, 2) := by decide +kernel
theorem dX1_checkBlock_18 : decode cX1_checkBlock 18 = .ok (.ifCond .lt 70, 3) := by decide +kernel
theorem dX1_checkBlock_21 : decode cX1_checkBlock 21 = .ok (.aload_n 0, 1) := by decide +kernel
theorem dX1_checkBlock_22 : decode cX1_checkBlock 22 = .ok (.getfield 37, 3) := by decide +kernel
theorem dX1_checkBlock_25 : decode cX1_checkBlock 25 = .ok (.ifCond .ge 63, 3) := by decide +kernel
theorem dX1_checkBlock_28 : decode cX1_checkBlock 28 = .ok (.iload_n 2, 1) := by decide +kernel
theorem dX1_checkBlock_29 : decode cX1_checkBlock 29 = .ok (.bipush 40, 2) := by decide +kernel
theorem dX1_checkBlock_31 : decode cX1_checkBlock 31 = .ok (.if_icmp .gt 57, 3) := by decide +kernel
theorem dX1_checkBlock_34 : decode cX1_checkBlock 34 = .ok (.aload_n 0, 1) := by decide +kernel
theorem dX1_checkBlock_35 : decode cX1_checkBlock 35 = .ok (.iload 4, 2) := by decide +kernel
theorem dX1_checkBlock_37 : decode cX1_checkBlock 37 = .ok (.iload_n 2, 1) := by decide +kernel
theorem dX1_checkBlock_38 : decode cX1_checkBlock 38 = .ok (.invokevirtual 100, 3) := by decide +kernel
theorem dX1_checkBlock_41 : decode cX1_checkBlock 41 = .ok (.istore_n 3, 1) := by decide +kernel
theorem dX1_checkBlock_42 : decode cX1_checkBlock 42 = .ok (.aload_n 0, 1) := by decide +kernel
theorem dX1_checkBlock_43 : decode cX1_checkBlock 43 = .ok (.getfield 29, 3) := by decide +kernel
theorem dX1_checkBlock_46 : decode cX1_checkBlock 46 = .ok (.getfield 103, 3) := by decide +kernel
theorem dX1_checkBlock_49 : decode cX1_checkBlock 49 = .ok (.iload 4, 2) := by decide +kernel
theorem dX1_checkBlock_51 : decode cX1_checkBlock 51 = .ok (.invokevirtual 46, 3) := by decide +kernel
theorem dX1_checkBlock_54 : decode cX1_checkBlock 54 = .ok (.istore 6, 2) := by decide +kernel
theorem dX1_checkBlock_56 : decode cX1_checkBlock 56 = .ok (.aload_n 0, 1) := by decide +kernel
theorem dX1_checkBlock_57 : decode cX1_checkBlock 57 = .ok (.getfield 37, 3) := by decide +kernel
theorem dX1_checkBlock_60 : decode cX1_checkBlock 60 = .ok (.ifCond .ge 18, 3) := by decide +kernel
theorem dX1_checkBlock_63 : decode cX1_checkBlock 63 = .ok (.iload_n 3, 1) := by decide +kernel
theorem dX1_checkBlock_64 : decode cX1_checkBlock 64 = .ok (.ifCond .eq 14, 3) := by decide +kernel
theorem dX1_checkBlock_67 : decode cX1_checkBlock 67 = .ok (.iload 6, 2) := by decide +kernel
theorem dX1_checkBlock_69 : decode cX1_checkBlock 69 = .ok (.ifCond .lt 9, 3) := by decide +kernel
theorem dX1_checkBlock_72 : decode cX1_checkBlock 72 = .ok (.aload_n 0, 1) := by decide +kernel
theorem dX1_checkBlock_73 : decode cX1_checkBlock 73 = .ok (.iload 4, 2) := by decide +kernel
theorem dX1_checkBlock_75 : decode cX1_checkBlock 75 = .ok (.invokevirtual 106, 3) := by decide +kernel
theorem dX1_checkBlock_78 : decode cX1_checkBlock 78 = .ok (.iload 6, 2) := by decide +kernel
theorem dX1_checkBlock_80 : decode cX1_checkBlock 80 = .ok (.istore 4, 2) := by decide +kernel
theorem dX1_checkBlock_82 : decode cX1_checkBlock 82 = .ok (.iinc 5 1, 3) := by decide +kernel
theorem dX1_checkBlock_85 : decode cX1_checkBlock 85 = .ok (.goto (-77), 3) := by decide +kernel
theorem dX1_checkBlock_88 : decode cX1_checkBlock 88 = .ok (.iload_n 3, 1) := by decide +kernel
theorem dX1_checkBlock_89 : decode cX1_checkBlock 89 = .ok (.ireturn, 1) := by decide +kernel
def bX1_checkBlock_78 (g : GgX1_checkBlock) (k8 : Int32 → Int32 → Int32 → Int32 → zS → zR) (x2 : Int32) (x3 : Int32) (x5 : Int32) (x6 : Int32) (t : zS) : zR := zlet (x5 + 1) fun v1466 => k8 x2 x3 x6 v1466 t
def bX1_checkBlock_8 (g : GgX1_checkBlock) (k8 : Int32 → Int32 → Int32 → Int32 → zS → zR) (x2 : Int32) (x3 : Int32) (x4 : Int32) (x5 : Int32) (t : zS) : zR := if 1000 ≤ x5 then z01 x3 (some (x3, t)) else if x4 < 0 then z01 x3 (some (x3, t)) else if 0 ≤ (t 6 6) then z01 x3 (some (x3, t)) else if 40 < x2 then z01 x3 (some (x3, t)) else zbd (g.2.1 x4 x2 t) fun r1471 t1472 => zbd (mX5_get 98 1000 x4 t1472) fun r1474 t1475 => if 0 ≤ (t1475 6 6) then bX1_checkBlock_78 g k8 x2 r1471 x5 r1474 t1475 else if r1471 = 0 then bX1_checkBlock_78 g k8 x2 r1471 x5 r1474 t1475 else if r1474 < 0 then bX1_checkBlock_78 g k8 x2 r1471 x5 r1474 t1475 else zbd (mX1_fail x4 t1475) fun r1477 t1478 => bX1_checkBlock_78 g k8 x2 r1471 x5 r1474 t1478
def lX1_checkBlock_8 (g : GgX1_checkBlock) : Nat → Int32 → Int32 → Int32 → Int32 → zS → zR
  | 0, _, _, _, _, _ => none
  | fu + 1, x2, x3, x4, x5, t => bX1_checkBlock_8 g (lX1_checkBlock_8 g fu) x2 x3 x4 x5 t
def mX1_checkBlock (g : GgX1_checkBlock) (x1 : Int32) (x2 : Int32) (t : zS) : zR := lX1_checkBlock_8 g zFU x2 0 x1 0 t
set_option maxHeartbeats 4000000 in
set_option maxRecDepth 20000 in
theorem wbX1_checkBlock_78 {E : zE} {C : zC} {f : Nat} {ro : Int32 × zS} (hf : 6 ≤ f) {g : GgX1_checkBlock} (hg : HgX1_checkBlock E (f - 1) g) (k8 : Int32 → Int32 → Int32 → Int32 → zS → zR) (hk8 : ∀ (x2 x3 x4 x5 : Int32) (t : zS), k8 x2 x3 x4 x5 t = some ro → zJ E shC C cX1_checkBlock RX1 7 f (some .boolean) ro t 8 [(0, .ref (za E 6)), (2, .int x2), (3, .int x3), (4, .int x4), (5, .int x5)] []) (x2 : Int32) (x3 : Int32) (x5 : Int32) (x6 : Int32) (t : zS) (hF : bX1_checkBlock_78 g k8 x2 x3 x5 x6 t = some ro) : zJ E shC C cX1_checkBlock RX1 7 f (some .boolean) ro t 78 [(0, .ref (za E 6)), (2, .int x2), (3, .int x3), (5, .int x5), (6, .int x6)] [] := by
  unfold bX1_checkBlock_78 at hF
  refine z_iload 4 dX1_checkBlock_78 rfl ?_
  refine z_istore (lv' := [(4, .int x6), (0, .ref (za E 6)), (2, .int x2), (3, .int x3), (5, .int x5), (6, .int x6)]) dX1_checkBlock_80 (by decide) rfl ?_
  obtain ⟨v1466, ev1466⟩ : ∃ y : Int32, y = (x5 + 1) := ⟨_, rfl⟩
  have hF := zlet_at ev1466 hF
  refine z_iinc (v := v1466) (lv' := [(5, .int v1466), (4, .int x6), (0, .ref (za E 6)), (2, .int x2), (3, .int x3), (6, .int x6)]) (k := 4) dX1_checkBlock_82 rfl (by rw [ev1466]; rfl) (by decide) rfl ?_
  refine z_goto (tgt := 8) dX1_checkBlock_85 (by decide) ?_
  refine z_sub [2, 3, 4, 1, 0] rfl ?_
  exact hk8 x2 x3 x6 v1466 _ hF
set_option maxHeartbeats 4000000 in
set_option maxRecDepth 20000 in
theorem wbX1_checkBlock_8 {E : zE} {C : zC} {f : Nat} {ro : Int32 × zS} (hf : 6 ≤ f) {g : GgX1_checkBlock} (hg : HgX1_checkBlock E (f - 1) g) (k8 : Int32 → Int32 → Int32 → Int32 → zS → zR) (hk8 : ∀ (x2 x3 x4 x5 : Int32) (t : zS), k8 x2 x3 x4 x5 t = some ro → zJ E shC C cX1_checkBlock RX1 7 f (some .boolean) ro t 8 [(0, .ref (za E 6)), (2, .int x2), (3, .int x3), (4, .int x4), (5, .int x5)] []) (x2 : Int32) (x3 : Int32) (x4 : Int32) (x5 : Int32) (t : zS) (hF : bX1_checkBlock_8 g k8 x2 x3 x4 x5 t = some ro) : zJ E shC C cX1_checkBlock RX1 7 f (some .boolean) ro t 8 [(0, .ref (za E 6)), (2, .int x2), (3, .int x3), (4, .int x4), (5, .int x5)] [] := by
  unfold bX1_checkBlock_8 at hF
  refine z_iload 4 dX1_checkBlock_8 rfl ?_
  refine z_sipush (v := 1000) dX1_checkBlock_10 (by decide) ?_
  refine z_icmp_ge (tgt := 88) dX1_checkBlock_13 (by decide) (fun hc => ?_) (fun hc => ?_)
  · have hF := zif_t hc hF
    refine z_iload_n 2 dX1_checkBlock_88 rfl rfl ?_
    obtain ⟨hz1467, hF⟩ := z01_at hF
    exact z_zret hF hz1467 dX1_checkBlock_89
  · have hF := zif_f hc hF
    refine z_iload 3 dX1_checkBlock_16 rfl ?_
    refine z_if_lt (tgt := 88) dX1_checkBlock_18 (by decide) (fun hc => ?_) (fun hc => ?_)
    · have hF := zif_t hc hF
      refine z_iload_n 2 dX1_checkBlock_88 rfl rfl ?_
      obtain ⟨hz1468, hF⟩ := z01_at hF
      exact z_zret hF hz1468 dX1_checkBlock_89
    · have hF := zif_f hc hF
      refine z_aload_n 0 dX1_checkBlock_21 rfl rfl ?_
      refine z_geti fi_RX1_37 dX1_checkBlock_22 ?_
      refine z_if_ge (tgt := 88) dX1_checkBlock_25 (by decide) (fun hc => ?_) (fun hc => ?_)
      · have hF := zif_t hc hF
        refine z_iload_n 2 dX1_checkBlock_88 rfl rfl ?_
        obtain ⟨hz1469, hF⟩ := z01_at hF
        exact z_zret hF hz1469 dX1_checkBlock_89
      · have hF := zif_f hc hF
        refine z_iload_n 1 dX1_checkBlock_28 rfl rfl ?_
        refine z_bipush (v := 40) dX1_checkBlock_29 (by decide) ?_
        refine z_icmp_gt (tgt := 88) dX1_checkBlock_31 (by decide) (fun hc => ?_) (fun hc => ?_)
        · have hF := zif_t hc hF
          refine z_iload_n 2 dX1_checkBlock_88 rfl rfl ?_
          obtain ⟨hz1470, hF⟩ := z01_at hF
          exact z_zret hF hz1470 dX1_checkBlock_89
        · have hF := zif_f hc hF
          refine z_aload_n 0 dX1_checkBlock_34 rfl rfl ?_
          refine z_iload 3 dX1_checkBlock_35 rfl ?_
          refine z_iload_n 1 dX1_checkBlock_37 rfl rfl ?_
          obtain ⟨r1471, t1472, hc1473, hF⟩ := zbd_at hF
          refine z_callVi (z_hgX1_checkStatement hg hc1473) yy_X1_checkStatement yv_X1_checkStatement ob_C_6 lk_RX1_100 (by omega) rfl rfl (Nat.le_of_ble_eq_true rfl) dX1_checkBlock_38 ?_
          refine z_istore_n (lv' := [(3, .int r1471), (0, .ref (za E 6)), (2, .int x2), (4, .int x4), (5, .int x5)]) dX1_checkBlock_41 rfl (by decide) rfl ?_
          refine z_aload_n 1 dX1_checkBlock_42 rfl rfl ?_
          refine z_getr fr_RX1_29 dX1_checkBlock_43 ?_
          refine z_getr fr_RX1_103 dX1_checkBlock_46 ?_
          refine z_iload 3 dX1_checkBlock_49 rfl ?_
          obtain ⟨r1474, t1475, hc1476, hF⟩ := zbd_at hF
          refine z_callVi (ctX5_get (E := E) (sh := shC) (f := f - 1) (by omega) (k := 98) (n := 1000) rfl rfl hc1476) yy_X5_get yv_X5_get ob_C_98 lk_RX1_46 (by omega) rfl rfl (Nat.le_of_ble_eq_true rfl) dX1_checkBlock_51 ?_
          refine z_istore (lv' := [(6, .int r1474), (3, .int r1471), (0, .ref (za E 6)), (2, .int x2), (4, .int x4), (5, .int x5)]) dX1_checkBlock_54 (by decide) rfl ?_
          refine z_aload_n 2 dX1_checkBlock_56 rfl rfl ?_
          refine z_geti fi_RX1_37 dX1_checkBlock_57 ?_
          refine z_if_ge (tgt := 78) dX1_checkBlock_60 (by decide) (fun hc => ?_) (fun hc => ?_)
          · have hF := zif_t hc hF
            refine z_sub [2, 3, 1, 5, 0] rfl ?_
            exact wbX1_checkBlock_78 hf hg k8 hk8 x2 r1471 x5 r1474 _ hF
          · have hF := zif_f hc hF
            refine z_iload_n 1 dX1_checkBlock_63 rfl rfl ?_
            refine z_if_eq (tgt := 78) dX1_checkBlock_64 (by decide) (fun hc => ?_) (fun hc => ?_)
            · have hF := zif_t hc hF
              refine z_sub [2, 3, 1, 5, 0] rfl ?_
              exact wbX1_checkBlock_78 hf hg k8 hk8 x2 r1471 x5 r1474 _ hF
            · have hF := zif_f hc hF
              refine z_iload 0 dX1_checkBlock_67 rfl ?_
              refine z_if_lt (tgt := 78) dX1_checkBlock_69 (by decide) (fun hc => ?_) (fun hc => ?_)
              · have hF := zif_t hc hF
                refine z_sub [2, 3, 1, 5, 0] rfl ?_
                exact wbX1_checkBlock_78 hf hg k8 hk8 x2 r1471 x5 r1474 _ hF
              · have hF := zif_f hc hF
                refine z_aload_n 2 dX1_checkBlock_72 rfl rfl ?_
                refine z_iload 4 dX1_checkBlock_73 rfl ?_
                obtain ⟨r1477, t1478, hc1479, hF⟩ := zbd_at hF
                refine z_callVv (ctX1_fail (E := E) (f := f - 1) (by omega) hc1479) yy_X1_fail yv_X1_fail ob_C_6 lk_RX1_106 (by omega) rfl rfl (Nat.le_of_ble_eq_true rfl) dX1_checkBlock_75 ?_
                refine z_sub [2, 3, 1, 5, 0] rfl ?_
                exact wbX1_checkBlock_78 hf hg k8 hk8 x2 r1471 x5 r1474 _ hF
set_option maxHeartbeats 4000000 in
set_option maxRecDepth 20000 in
theorem wlX1_checkBlock_8 {E : zE} {C : zC} {f : Nat} {ro : Int32 × zS} (hf : 6 ≤ f) {g : GgX1_checkBlock} (hg : HgX1_checkBlock E (f - 1) g) (fu : Nat) : ∀ (x2 x3 x4 x5 : Int32) (t : zS), lX1_checkBlock_8 g fu x2 x3 x4 x5 t = some ro → zJ E shC C cX1_checkBlock RX1 7 f (some .boolean) ro t 8 [(0, .ref (za E 6)), (2, .int x2), (3, .int x3), (4, .int x4), (5, .int x5)] [] := by
  induction fu with
  | zero => intro x2 x3 x4 x5 t hF; cases hF
  | succ fu ih => intro x2 x3 x4 x5 t hF; exact wbX1_checkBlock_8 hf hg (lX1_checkBlock_8 g fu) ih x2 x3 x4 x5 t hF
set_option maxHeartbeats 4000000 in
set_option maxRecDepth 20000 in
theorem ctX1_checkBlock {E : zE} {f : Nat} (hf : 6 ≤ f) {g : GgX1_checkBlock} (hg : HgX1_checkBlock E (f - 1) g) {x1 : Int32} {x2 : Int32} {t : zS} {ro : Int32 × zS} (hF : mX1_checkBlock g x1 x2 t = some ro) : zM E shC f yX1_checkBlock cX1_checkBlock 7 (some .boolean) [.ref (za E 6), .int x1, .int x2] t ro := by
  refine zM_of (by decide) (Nat.le_of_ble_eq_true rfl) (fun C => ?_)
  show zJ E shC C cX1_checkBlock RX1 7 f (some .boolean) ro t 0 [(0, .ref (za E 6)), (1, .int x1), (2, .int x2)] []
  unfold mX1_checkBlock at hF
  refine z_iconst (v := 0) dX1_checkBlock_0 (by decide) ?_
  refine z_istore_n (lv' := [(3, .int 0), (0, .ref (za E 6)), (1, .int x1), (2, .int x2)]) dX1_checkBlock_1 rfl (by decide) rfl ?_
  refine z_iload_n 2 dX1_checkBlock_2 rfl rfl ?_
  refine z_istore (lv' := [(4, .int x1), (3, .int 0), (0, .ref (za E 6)), (1, .int x1), (2, .int x2)]) dX1_checkBlock_3 (by decide) rfl ?_
  refine z_iconst (v := 0) dX1_checkBlock_5 (by decide) ?_
  refine z_istore (lv' := [(5, .int 0), (4, .int x1), (3, .int 0), (0, .ref (za E 6)), (1, .int x1), (2, .int x2)]) dX1_checkBlock_6 (by decide) rfl ?_
  refine z_sub [3, 5, 2, 1, 0] rfl ?_
  exact wlX1_checkBlock_8 hf hg zFU x2 0 x1 0 _ hF
-- SessionHouse$Checker.checkStatement(II)Z
theorem dX1_checkStatement_0 : decode cX1_checkStatement 0 = .ok (.aload_n 0, 1) := by decide +kernel
theorem dX1_checkStatement_1 : decode cX1_checkStatement 1 = .ok (.getfield 29, 3) := by decide +kernel
theorem dX1_checkStatement_4 : decode cX1_checkStatement 4 = .ok (.getfield 109, 3) := by decide +kernel
theorem dX1_checkStatement_7 : decode cX1_checkStatement 7 = .ok (.iload_n 1, 1) := by decide +kernel
theorem dX1_checkStatement_8 : decode cX1_checkStatement 8 = .ok (.invokevirtual 46, 3) := by decide +kernel
theorem dX1_checkStatement_11 : decode cX1_checkStatement 11 = .ok (.istore_n 3, 1) := by decide +kernel
theorem dX1_checkStatement_12 : decode cX1_checkStatement 12 = .ok (.iload_n 3, 1) := by decide +kernel
theorem dX1_checkStatement_13 : decode cX1_checkStatement 13 = .ok (.bipush 8, 2) := by decide +kernel
theorem dX1_checkStatement_15 : decode cX1_checkStatement 15 = .ok (.if_icmp .eq 9, 3) := by decide +kernel
theorem dX1_checkStatement_18 : decode cX1_checkStatement 18 = .ok (.iload_n 3, 1) := by decide +kernel
theorem dX1_checkStatement_19 : decode cX1_checkStatement 19 = .ok (.bipush 9, 2) := by decide +kernel
theorem dX1_checkStatement_21 : decode cX1_checkStatement 21 = .ok (.if_icmp .ne 50, 3) := by decide +kernel
theorem dX1_checkStatement_24 : decode cX1_checkStatement 24 = .ok (.aload_n 0, 1) := by decide +kernel
theorem dX1_checkStatement_25 : decode cX1_checkStatement 25 = .ok (.iload_n 1, 1) := by decide +kernel
theorem dX1_checkStatement_26 : decode cX1_checkStatement 26 = .ok (.invokevirtual 112, 3) := by decide +kernel
theorem dX1_checkStatement_29 : decode cX1_checkStatement 29 = .ok (.ifCond .eq 36, 3) := by decide +kernel
theorem dX1_checkStatement_32 : decode cX1_checkStatement 32 = .ok (.aload_n 0, 1) := by decide +kernel
theorem dX1_checkStatement_33 : decode cX1_checkStatement 33 = .ok (.iload_n 1, 1) := by decide +kernel
theorem dX1_checkStatement_34 : decode cX1_checkStatement 34 = .ok (.invokevirtual 116, 3) := by decide +kernel
theorem dX1_checkStatement_37 : decode cX1_checkStatement 37 = .ok (.ifCond .eq 28, 3) := by decide +kernel
theorem dX1_checkStatement_40 : decode cX1_checkStatement 40 = .ok (.aload_n 0, 1) := by decide +kernel
theorem dX1_checkStatement_41 : decode cX1_checkStatement 41 = .ok (.iload_n 1, 1) := by decide +kernel
theorem dX1_checkStatement_42 : decode cX1_checkStatement 42 = .ok (.invokevirtual 119, 3) := by decide +kernel
theorem dX1_checkStatement_45 : decode cX1_checkStatement 45 = .ok (.ifCond .eq 20, 3) := by decide +kernel
theorem dX1_checkStatement_48 : decode cX1_checkStatement 48 = .ok (.iload_n 3, 1) := by decide +kernel
theorem dX1_checkStatement_49 : decode cX1_checkStatement 49 = .ok (.bipush 8, 2) := by decide +kernel
theorem dX1_checkStatement_51 : decode cX1_checkStatement 51 = .ok (.if_icmp .eq 10, 3) := by decide +kernel
theorem dX1_checkStatement_54 : decode cX1_checkStatement 54 = .ok (.aload_n 0, 1) := by decide +kernel
theorem dX1_checkStatement_55 : decode cX1_checkStatement 55 = .ok (.invokevirtual 73, 3) := by decide +kernel
theorem dX1_checkStatement_58 : decode cX1_checkStatement 58 = .ok (.ifCond .ne 7, 3) := by decide +kernel
theorem dX1_checkStatement_61 : decode cX1_checkStatement 61 = .ok (.iconst 1, 1) := by decide +kernel
theorem dX1_checkStatement_62 : decode cX1_checkStatement 62 = .ok (.goto 4, 3) := by decide +kernel
theorem dX1_checkStatement_65 : decode cX1_checkStatement 65 = .ok (.iconst 0, 1) := by decide +kernel
theorem dX1_checkStatement_66 : decode cX1_checkStatement 66 = .ok (.istore 4, 2) := by decide +kernel
theorem dX1_checkStatement_68 : decode cX1_checkStatement 68 = .ok (.goto 77, 3) := by decide +kernel
theorem dX1_checkStatement_71 : decode cX1_checkStatement 71 = .ok (.iload_n 3, 1) := by decide +kernel
theorem dX1_checkStatement_72 : decode cX1_checkStatement 72 = .ok (.bipush 7, 2) := by decide +kernel
theorem dX1_checkStatement_74 : decode cX1_checkStatement 74 = .ok (.if_icmp .ne 13, 3) := by decide +kernel
theorem dX1_checkStatement_77 : decode cX1_checkStatement 77 = .ok (.aload_n 0, 1) := by decide +kernel
theorem dX1_checkStatement_78 : decode cX1_checkStatement 78 = .ok (.iload_n 1, 1) := by decide +kernel
theorem dX1_checkStatement_79 : decode cX1_checkStatement 79 = .ok (.invokevirtual 122, 3) := by decide +kernel
theorem dX1_checkStatement_82 : decode cX1_checkStatement 82 = .ok (.istore 4, 2) := by decide +kernel
theorem dX1_checkStatement_84 : decode cX1_checkStatement 84 = .ok (.goto 61, 3) := by decide +kernel
theorem dX1_checkStatement_87 : decode cX1_checkStatement 87 = .ok (.iload_n 3, 1) := by decide +kernel
theorem dX1_checkStatement_88 : decode cX1_checkStatement 88 = .ok (.bipush 10, 2) := by decide +kernel
theorem dX1_checkStatement_90 : decode cX1_checkStatement 90 = .ok (.if_icmp .eq 9, 3) := by decide +kernel
theorem dX1_checkStatement_93 : decode cX1_checkStatement 93 = .ok (.iload_n 3, 1) := by decide +kernel
theorem dX1_checkStatement_94 : decode cX1_checkStatement 94 = .ok (.bipush 12, 2) := by decide +kernel
theorem dX1_checkStatement_96 : decode cX1_checkStatement 96 = .ok (.if_icmp .ne 41, 3) := by decide +kernel
theorem dX1_checkStatement_99 : decode cX1_checkStatement 99 = .ok (.aload_n 0, 1) := by decide +kernel
theorem dX1_checkStatement_100 : decode cX1_checkStatement 100 = .ok (.getfield 25, 3) := by decide +kernel
theorem dX1_checkStatement_103 : decode cX1_checkStatement 103 = .ok (.aload_n 0, 1) := by decide +kernel
theorem dX1_checkStatement_104 : decode cX1_checkStatement 104 = .ok (.getfield 15, 3) := by decide +kernel
theorem dX1_checkStatement_107 : decode cX1_checkStatement 107 = .ok (.aload_n 0, 1) := by decide +kernel
theorem dX1_checkStatement_108 : decode cX1_checkStatement 108 = .ok (.getfield 29, 3) := by decide +kernel
theorem dX1_checkStatement_111 : decode cX1_checkStatement 111 = .ok (.getfield 125, 3) := by decide +kernel
theorem dX1_checkStatement_114 : decode cX1_checkStatement 114 = .ok (.iload_n 1, 1) := by decide +kernel
theorem dX1_checkStatement_115 : decode cX1_checkStatement 115 = .ok (.invokevirtual 46, 3) := by decide +kernel
theorem dX1_checkStatement_118 : decode cX1_checkStatement 118 = .ok (.aload_n 0, 1) := by decide +kernel
theorem dX1_checkStatement_119 : decode cX1_checkStatement 119 = .ok (.getfield 29, 3) := by decide +kernel
theorem dX1_checkStatement_122 : decode cX1_checkStatement 122 = .ok (.getfield 128, 3) := by decide +kernel
theorem dX1_checkStatement_125 : decode cX1_checkStatement 125 = .ok (.iload_n 1, 1) := by decide +kernel
theorem dX1_checkStatement_126 : decode cX1_checkStatement 126 = .ok (.invokevirtual 46, 3) := by decide +kernel
theorem dX1_checkStatement_129 : decode cX1_checkStatement 129 = .ok (.invokevirtual 131, 3) := by decide +kernel
theorem dX1_checkStatement_132 : decode cX1_checkStatement 132 = .ok (.istore 4, 2) := by decide +kernel
theorem dX1_checkStatement_134 : decode cX1_checkStatement 134 = .ok (.goto 11, 3) := by decide +kernel
theorem dX1_checkStatement_137 : decode cX1_checkStatement 137 = .ok (.aload_n 0, 1) := by decide +kernel
theorem dX1_checkStatement_138 : decode cX1_checkStatement 138 = .ok (.iload_n 1, 1) := by decide +kernel
theorem dX1_checkStatement_139 : decode cX1_checkStatement 139 = .ok (.iload_n 3, 1) := by decide +kernel
theorem dX1_checkStatement_140 : decode cX1_checkStatement 140 = .ok (.invokevirtual 137, 3) := by decide +kernel
theorem dX1_checkStatement_143 : decode cX1_checkStatement 143 = .ok (.istore 4, 2) := by decide +kernel
theorem dX1_checkStatement_145 : decode cX1_checkStatement 145 = .ok (.iload 4, 2) := by decide +kernel
theorem dX1_checkStatement_147 : decode cX1_checkStatement 147 = .ok (.ifCond .ne 10, 3) := by decide +kernel
theorem dX1_checkStatement_150 : decode cX1_checkStatement 150 = .ok (.aload_n 0, 1) := by decide +kernel
theorem dX1_checkStatement_151 : decode cX1_checkStatement 151 = .ok (.iload_n 1, 1) := by decide +kernel
theorem dX1_checkStatement_152 : decode cX1_checkStatement 152 = .ok (.invokevirtual 106, 3) := by decide +kernel
theorem dX1_checkStatement_155 : decode cX1_checkStatement 155 = .ok (.iconst 0, 1) := by decide +kernel
theorem dX1_checkStatement_156 : decode cX1_checkStatement 156 = .ok (.ireturn, 1) := by decide +kernel
theorem dX1_checkStatement_157 : decode cX1_checkStatement 157 = .ok (.iload_n 3, 1) := by decide +kernel
theorem dX1_checkStatement_158 : decode cX1_checkStatement 158 = .ok (.bipush 7, 2) := by decide +kernel
theorem dX1_checkStatement_160 : decode cX1_checkStatement 160 = .ok (.if_icmp .eq 9, 3) := by decide +kernel
theorem dX1_checkStatement_163 : decode cX1_checkStatement 163 = .ok (.iload_n 3, 1) := by decide +kernel
theorem dX1_checkStatement_164 : decode cX1_checkStatement 164 = .ok (.bipush 10, 2) := by decide +kernel
theorem dX1_checkStatement_166 : decode cX1_checkStatement 166 = .ok (.if_icmp .ne 21, 3) := by decide +kernel
theorem dX1_checkStatement_169 : decode cX1_checkStatement 169 = .ok (.aload_n 0, 1) := by decide +kernel
theorem dX1_checkStatement_170 : decode cX1_checkStatement 170 = .ok (.iload_n 1, 1) := by decide +kernel
theorem dX1_checkStatement_171 : decode cX1_checkStatement 171 = .ok (.iload_n 2, 1) := by decide +kernel
theorem dX1_checkStatement_172 : decode cX1_checkStatement 172 = .ok (.iload_n 3, 1) := by decide +kernel
theorem dX1_checkStatement_173 : decode cX1_checkStatement 173 = .ok (.bipush 7, 2) := by decide +kernel
theorem dX1_checkStatement_175 : decode cX1_checkStatement 175 = .ok (.if_icmp .ne 7, 3) := by decide +kernel
theorem dX1_checkStatement_178 : decode cX1_checkStatement 178 = .ok (.iconst 1, 1) := by decide +kernel
theorem dX1_checkStatement_179 : decode cX1_checkStatement 179 = .ok (.goto 4, 3) := by decide +kernel
theorem dX1_checkStatement_182 : decode cX1_checkStatement 182 = .ok (.iconst 0, 1) := by decide +kernel
theorem dX1_checkStatement_183 : decode cX1_checkStatement 183 = .ok (.invokevirtual 140, 3) := by decide +kernel
theorem dX1_checkStatement_186 : decode cX1_checkStatement 186 = .ok (.ireturn, 1) := by decide +kernel
theorem dX1_checkStatement_187 : decode cX1_checkStatement 187 = .ok (.iload_n 3, 1) := by decide +kernel
theorem dX1_checkStatement_188 : decode cX1_checkStatement 188 = .ok (.bipush 12, 2) := by decide +kernel
theorem dX1_checkStatement_190 : decode cX1_checkStatement 190 = .ok (.if_icmp .ne 9, 3) := by decide +kernel
theorem dX1_checkStatement_193 : decode cX1_checkStatement 193 = .ok (.aload_n 0, 1) := by decide +kernel
theorem dX1_checkStatement_194 : decode cX1_checkStatement 194 = .ok (.iload_n 1, 1) := by decide +kernel
theorem dX1_checkStatement_195 : decode cX1_checkStatement 195 = .ok (.iload_n 2, 1) := by decide +kernel
theorem dX1_checkStatement_196 : decode cX1_checkStatement 196 = .ok (.invokevirtual 144, 3) := by decide +kernel
theorem dX1_checkStatement_199 : decode cX1_checkStatement 199 = .ok (.iload_n 3, 1) := by decide +kernel
theorem dX1_checkStatement_200 : decode cX1_checkStatement 200 = .ok (.bipush 9, 2) := by decide +kernel
theorem dX1_checkStatement_202 : decode cX1_checkStatement 202 = .ok (.if_icmp .ne 7, 3) := by decide +kernel
theorem dX1_checkStatement_205 : decode cX1_checkStatement 205 = .ok (.iconst 1, 1) := by decide +kernel
theorem dX1_checkStatement_206 : decode cX1_checkStatement 206 = .ok (.goto 4, 3) := by decide +kernel
theorem dX1_checkStatement_209 : decode cX1_checkStatement 209 = .ok (.iconst 0, 1) := by decide +kernel
theorem dX1_checkStatement_210 : decode cX1_checkStatement 210 = .ok (.ireturn, 1) := by decide +kernel
def bX1_checkStatement_183 (g : GgX1_checkBlock) (y0 : Int32) (y1 : Int32) (y2 : Int32) (t : zS) : zR := zbd (g.2.2.1 y2 y1 y0 t) fun r1480 t1481 => z01 r1480 (some (r1480, t1481))
def bX1_checkStatement_169 (g : GgX1_checkBlock) (x1 : Int32) (x2 : Int32) (x3 : Int32) (t : zS) : zR := if x3 = 7 then bX1_checkStatement_183 g 1 x2 x1 t else bX1_checkStatement_183 g 0 x2 x1 t
def bX1_checkStatement_199 (g : GgX1_checkBlock) (x3 : Int32) (t : zS) : zR := if x3 = 9 then some (1, t) else some (0, t)
def bX1_checkStatement_145 (g : GgX1_checkBlock) (x1 : Int32) (x2 : Int32) (x3 : Int32) (x4 : Int32) (t : zS) : zR := if x4 = 0 then zbd (mX1_fail x1 t) fun r1487 t1488 => some (0, t1488) else if x3 = 7 then bX1_checkStatement_169 g x1 x2 x3 t else if x3 = 10 then bX1_checkStatement_169 g x1 x2 x3 t else if x3 = 12 then zbd (g.2.2.2 x1 x2 t) fun r1484 t1485 => bX1_checkStatement_199 g x3 t1485 else bX1_checkStatement_199 g x3 t
def bX1_checkStatement_66 (g : GgX1_checkBlock) (x1 : Int32) (x2 : Int32) (x3 : Int32) (y0 : Int32) (t : zS) : zR := bX1_checkStatement_145 g x1 x2 x3 y0 t
def bX1_checkStatement_61 (g : GgX1_checkBlock) (x1 : Int32) (x2 : Int32) (x3 : Int32) (t : zS) : zR := bX1_checkStatement_66 g x1 x2 x3 1 t
def bX1_checkStatement_65 (g : GgX1_checkBlock) (x1 : Int32) (x2 : Int32) (x3 : Int32) (t : zS) : zR := bX1_checkStatement_66 g x1 x2 x3 0 t
def bX1_checkStatement_24 (g : GgX1_checkBlock) (x1 : Int32) (x2 : Int32) (x3 : Int32) (t : zS) : zR := zbd (mX1_fitsParameters x1 t) fun r1490 t1491 => if r1490 = 0 then bX1_checkStatement_65 g x1 x2 x3 t1491 else zbd (mX1_givesArguments x1 t1491) fun r1493 t1494 => if r1493 = 0 then bX1_checkStatement_65 g x1 x2 x3 t1494 else zbd (mX1_opensChannel x1 t1494) fun r1496 t1497 => if r1496 = 0 then bX1_checkStatement_65 g x1 x2 x3 t1497 else if x3 = 8 then bX1_checkStatement_61 g x1 x2 x3 t1497 else zbd (mX1_hasChannels  t1497) fun r1499 t1500 => if r1499 = 0 then bX1_checkStatement_61 g x1 x2 x3 t1500 else bX1_checkStatement_65 g x1 x2 x3 t1500
def bX1_checkStatement_99 (g : GgX1_checkBlock) (x1 : Int32) (x2 : Int32) (x3 : Int32) (t : zS) : zR := zbd (mX5_get 94 1000 x1 t) fun r1502 t1503 => zbd (mX5_get 96 1000 x1 t1503) fun r1505 t1506 => zbd (mX3_isWithout r1502 r1505 t1506) fun r1508 t1509 => bX1_checkStatement_145 g x1 x2 x3 r1508 t1509
def mX1_checkStatement (g : GgX1_checkBlock) (x1 : Int32) (x2 : Int32) (t : zS) : zR := zbd (mX5_get 86 1000 x1 t) fun r1511 t1512 => if r1511 = 8 then bX1_checkStatement_24 g x1 x2 r1511 t1512 else if r1511 = 9 then bX1_checkStatement_24 g x1 x2 r1511 t1512 else if r1511 = 7 then zbd (mX1_isGoodCase x1 t1512) fun r1517 t1518 => bX1_checkStatement_145 g x1 x2 r1511 r1517 t1518 else if r1511 = 10 then bX1_checkStatement_99 g x1 x2 r1511 t1512 else if r1511 = 12 then bX1_checkStatement_99 g x1 x2 r1511 t1512 else zbd (mX1_isGoodPlain x1 r1511 t1512) fun r1514 t1515 => bX1_checkStatement_145 g x1 x2 r1511 r1514 t1515
set_option maxHeartbeats 4000000 in
set_option maxRecDepth 20000 in
theorem wbX1_checkStatement_183 {E : zE} {C : zC} {f : Nat} {ro : Int32 × zS} (hf : 6 ≤ f) {g : GgX1_checkBlock} (hg : HgX1_checkBlock E (f - 1) g) (y0 : Int32) (y1 : Int32) (y2 : Int32) (t : zS) (hF : bX1_checkStatement_183 g y0 y1 y2 t = some ro) : zJ E shC C cX1_checkStatement RX1 5 f (some .boolean) ro t 183 [] [.int y0, .int y1, .int y2, .ref (za E 6)] := by
  unfold bX1_checkStatement_183 at hF
  obtain ⟨r1480, t1481, hc1482, hF⟩ := zbd_at hF
  refine z_callVi (z_hgX1_checkBranches hg hc1482) yy_X1_checkBranches yv_X1_checkBranches ob_C_6 lk_RX1_140 (by omega) rfl rfl (Nat.le_of_ble_eq_true rfl) dX1_checkStatement_183 ?_
  obtain ⟨hz1483, hF⟩ := z01_at hF
  exact z_zret hF hz1483 dX1_checkStatement_186
set_option maxHeartbeats 4000000 in
set_option maxRecDepth 20000 in
theorem wbX1_checkStatement_169 {E : zE} {C : zC} {f : Nat} {ro : Int32 × zS} (hf : 6 ≤ f) {g : GgX1_checkBlock} (hg : HgX1_checkBlock E (f - 1) g) (x1 : Int32) (x2 : Int32) (x3 : Int32) (t : zS) (hF : bX1_checkStatement_169 g x1 x2 x3 t = some ro) : zJ E shC C cX1_checkStatement RX1 5 f (some .boolean) ro t 169 [(0, .ref (za E 6)), (1, .int x1), (2, .int x2), (3, .int x3)] [] := by
  unfold bX1_checkStatement_169 at hF
  refine z_aload_n 0 dX1_checkStatement_169 rfl rfl ?_
  refine z_iload_n 1 dX1_checkStatement_170 rfl rfl ?_
  refine z_iload_n 2 dX1_checkStatement_171 rfl rfl ?_
  refine z_iload_n 3 dX1_checkStatement_172 rfl rfl ?_
  refine z_bipush (v := 7) dX1_checkStatement_173 (by decide) ?_
  refine z_icmp_ne (tgt := 182) dX1_checkStatement_175 (by decide) (fun hc => ?_) (fun hc => ?_)
  · have hF := zif_f hc hF
    refine z_iconst (v := 0) dX1_checkStatement_182 (by decide) ?_
    refine z_sub [] rfl ?_
    exact wbX1_checkStatement_183 hf hg 0 x2 x1 _ hF
  · have hF := zif_t hc hF
    refine z_iconst (v := 1) dX1_checkStatement_178 (by decide) ?_
    refine z_goto (tgt := 183) dX1_checkStatement_179 (by decide) ?_
    refine z_sub [] rfl ?_
    exact wbX1_checkStatement_183 hf hg 1 x2 x1 _ hF
set_option maxHeartbeats 4000000 in
set_option maxRecDepth 20000 in
theorem wbX1_checkStatement_199 {E : zE} {C : zC} {f : Nat} {ro : Int32 × zS} (hf : 6 ≤ f) {g : GgX1_checkBlock} (hg : HgX1_checkBlock E (f - 1) g) (x3 : Int32) (t : zS) (hF : bX1_checkStatement_199 g x3 t = some ro) : zJ E shC C cX1_checkStatement RX1 5 f (some .boolean) ro t 199 [(3, .int x3)] [] := by
  unfold bX1_checkStatement_199 at hF
  refine z_iload_n 0 dX1_checkStatement_199 rfl rfl ?_
  refine z_bipush (v := 9) dX1_checkStatement_200 (by decide) ?_
  refine z_icmp_ne (tgt := 209) dX1_checkStatement_202 (by decide) (fun hc => ?_) (fun hc => ?_)
  · have hF := zif_f hc hF
    refine z_iconst (v := 0) dX1_checkStatement_209 (by decide) ?_
    exact z_zret hF (by decide) dX1_checkStatement_210
  · have hF := zif_t hc hF
    refine z_iconst (v := 1) dX1_checkStatement_205 (by decide) ?_
    refine z_goto (tgt := 210) dX1_checkStatement_206 (by decide) ?_
    exact z_zret hF (by decide) dX1_checkStatement_210
set_option maxHeartbeats 4000000 in
set_option maxRecDepth 20000 in
theorem wbX1_checkStatement_145 {E : zE} {C : zC} {f : Nat} {ro : Int32 × zS} (hf : 6 ≤ f) {g : GgX1_checkBlock} (hg : HgX1_checkBlock E (f - 1) g) (x1 : Int32) (x2 : Int32) (x3 : Int32) (x4 : Int32) (t : zS) (hF : bX1_checkStatement_145 g x1 x2 x3 x4 t = some ro) : zJ E shC C cX1_checkStatement RX1 5 f (some .boolean) ro t 145 [(0, .ref (za E 6)), (1, .int x1), (2, .int x2), (3, .int x3), (4, .int x4)] [] := by
  unfold bX1_checkStatement_145 at hF
  refine z_iload 4 dX1_checkStatement_145 rfl ?_
  refine z_if_ne (tgt := 157) dX1_checkStatement_147 (by decide) (fun hc => ?_) (fun hc => ?_)
  · have hF := zif_f hc hF
    refine z_iload_n 3 dX1_checkStatement_157 rfl rfl ?_
    refine z_bipush (v := 7) dX1_checkStatement_158 (by decide) ?_
    refine z_icmp_eq (tgt := 169) dX1_checkStatement_160 (by decide) (fun hc => ?_) (fun hc => ?_)
    · have hF := zif_t hc hF
      refine z_sub [0, 1, 2, 3] rfl ?_
      exact wbX1_checkStatement_169 hf hg x1 x2 x3 _ hF
    · have hF := zif_f hc hF
      refine z_iload_n 3 dX1_checkStatement_163 rfl rfl ?_
      refine z_bipush (v := 10) dX1_checkStatement_164 (by decide) ?_
      refine z_icmp_ne (tgt := 187) dX1_checkStatement_166 (by decide) (fun hc => ?_) (fun hc => ?_)
      · have hF := zif_f hc hF
        refine z_iload_n 3 dX1_checkStatement_187 rfl rfl ?_
        refine z_bipush (v := 12) dX1_checkStatement_188 (by decide) ?_
        refine z_icmp_ne (tgt := 199) dX1_checkStatement_190 (by decide) (fun hc => ?_) (fun hc => ?_)
        · have hF := zif_f hc hF
          refine z_sub [3] rfl ?_
          exact wbX1_checkStatement_199 hf hg x3 _ hF
        · have hF := zif_t hc hF
          refine z_aload_n 0 dX1_checkStatement_193 rfl rfl ?_
          refine z_iload_n 1 dX1_checkStatement_194 rfl rfl ?_
          refine z_iload_n 2 dX1_checkStatement_195 rfl rfl ?_
          obtain ⟨r1484, t1485, hc1486, hF⟩ := zbd_at hF
          refine z_callVv (z_hgX1_checkRound hg hc1486) yy_X1_checkRound yv_X1_checkRound ob_C_6 lk_RX1_144 (by omega) rfl rfl (Nat.le_of_ble_eq_true rfl) dX1_checkStatement_196 ?_
          refine z_sub [3] rfl ?_
          exact wbX1_checkStatement_199 hf hg x3 _ hF
      · have hF := zif_t hc hF
        refine z_sub [0, 1, 2, 3] rfl ?_
        exact wbX1_checkStatement_169 hf hg x1 x2 x3 _ hF
  · have hF := zif_t hc hF
    refine z_aload_n 0 dX1_checkStatement_150 rfl rfl ?_
    refine z_iload_n 1 dX1_checkStatement_151 rfl rfl ?_
    obtain ⟨r1487, t1488, hc1489, hF⟩ := zbd_at hF
    refine z_callVv (ctX1_fail (E := E) (f := f - 1) (by omega) hc1489) yy_X1_fail yv_X1_fail ob_C_6 lk_RX1_106 (by omega) rfl rfl (Nat.le_of_ble_eq_true rfl) dX1_checkStatement_152 ?_
    refine z_iconst (v := 0) dX1_checkStatement_155 (by decide) ?_
    exact z_zret hF (by decide) dX1_checkStatement_156
set_option maxHeartbeats 4000000 in
set_option maxRecDepth 20000 in
theorem wbX1_checkStatement_66 {E : zE} {C : zC} {f : Nat} {ro : Int32 × zS} (hf : 6 ≤ f) {g : GgX1_checkBlock} (hg : HgX1_checkBlock E (f - 1) g) (x1 : Int32) (x2 : Int32) (x3 : Int32) (y0 : Int32) (t : zS) (hF : bX1_checkStatement_66 g x1 x2 x3 y0 t = some ro) : zJ E shC C cX1_checkStatement RX1 5 f (some .boolean) ro t 66 [(0, .ref (za E 6)), (1, .int x1), (2, .int x2), (3, .int x3)] [.int y0] := by
  unfold bX1_checkStatement_66 at hF
  refine z_istore (lv' := [(4, .int y0), (0, .ref (za E 6)), (1, .int x1), (2, .int x2), (3, .int x3)]) dX1_checkStatement_66 (by decide) rfl ?_
  refine z_goto (tgt := 145) dX1_checkStatement_68 (by decide) ?_
  refine z_sub [1, 2, 3, 4, 0] rfl ?_
  exact wbX1_checkStatement_145 hf hg x1 x2 x3 y0 _ hF
set_option maxHeartbeats 4000000 in
set_option maxRecDepth 20000 in
theorem wbX1_checkStatement_61 {E : zE} {C : zC} {f : Nat} {ro : Int32 × zS} (hf : 6 ≤ f) {g : GgX1_checkBlock} (hg : HgX1_checkBlock E (f - 1) g) (x1 : Int32) (x2 : Int32) (x3 : Int32) (t : zS) (hF : bX1_checkStatement_61 g x1 x2 x3 t = some ro) : zJ E shC C cX1_checkStatement RX1 5 f (some .boolean) ro t 61 [(0, .ref (za E 6)), (1, .int x1), (2, .int x2), (3, .int x3)] [] := by
  unfold bX1_checkStatement_61 at hF
  refine z_iconst (v := 1) dX1_checkStatement_61 (by decide) ?_
  refine z_goto (tgt := 66) dX1_checkStatement_62 (by decide) ?_
  exact wbX1_checkStatement_66 hf hg x1 x2 x3 1 _ hF
set_option maxHeartbeats 4000000 in
set_option maxRecDepth 20000 in
theorem wbX1_checkStatement_65 {E : zE} {C : zC} {f : Nat} {ro : Int32 × zS} (hf : 6 ≤ f) {g : GgX1_checkBlock} (hg : HgX1_checkBlock E (f - 1) g) (x1 : Int32) (x2 : Int32) (x3 : Int32) (t : zS) (hF : bX1_checkStatement_65 g x1 x2 x3 t = some ro) : zJ E shC C cX1_checkStatement RX1 5 f (some .boolean) ro t 65 [(0, .ref (za E 6)), (1, .int x1), (2, .int x2), (3, .int x3)] [] := by
  unfold bX1_checkStatement_65 at hF
  refine z_iconst (v := 0) dX1_checkStatement_65 (by decide) ?_
  exact wbX1_checkStatement_66 hf hg x1 x2 x3 0 _ hF
set_option maxHeartbeats 4000000 in
set_option maxRecDepth 20000 in
theorem wbX1_checkStatement_24 {E : zE} {C : zC} {f : Nat} {ro : Int32 × zS} (hf : 6 ≤ f) {g : GgX1_checkBlock} (hg : HgX1_checkBlock E (f - 1) g) (x1 : Int32) (x2 : Int32) (x3 : Int32) (t : zS) (hF : bX1_checkStatement_24 g x1 x2 x3 t = some ro) : zJ E shC C cX1_checkStatement RX1 5 f (some .boolean) ro t 24 [(0, .ref (za E 6)), (1, .int x1), (2, .int x2), (3, .int x3)] [] := by
  unfold bX1_checkStatement_24 at hF
  refine z_aload_n 0 dX1_checkStatement_24 rfl rfl ?_
  refine z_iload_n 1 dX1_checkStatement_25 rfl rfl ?_
  obtain ⟨r1490, t1491, hc1492, hF⟩ := zbd_at hF
  refine z_callVi (ctX1_fitsParameters (E := E) (f := f - 1) (by omega) hc1492) yy_X1_fitsParameters yv_X1_fitsParameters ob_C_6 lk_RX1_112 (by omega) rfl rfl (Nat.le_of_ble_eq_true rfl) dX1_checkStatement_26 ?_
  refine z_if_eq (tgt := 65) dX1_checkStatement_29 (by decide) (fun hc => ?_) (fun hc => ?_)
  · have hF := zif_t hc hF
    exact wbX1_checkStatement_65 hf hg x1 x2 x3 _ hF
  · have hF := zif_f hc hF
    refine z_aload_n 0 dX1_checkStatement_32 rfl rfl ?_
    refine z_iload_n 1 dX1_checkStatement_33 rfl rfl ?_
    obtain ⟨r1493, t1494, hc1495, hF⟩ := zbd_at hF
    refine z_callVi (ctX1_givesArguments (E := E) (f := f - 1) (by omega) hc1495) yy_X1_givesArguments yv_X1_givesArguments ob_C_6 lk_RX1_116 (by omega) rfl rfl (Nat.le_of_ble_eq_true rfl) dX1_checkStatement_34 ?_
    refine z_if_eq (tgt := 65) dX1_checkStatement_37 (by decide) (fun hc => ?_) (fun hc => ?_)
    · have hF := zif_t hc hF
      exact wbX1_checkStatement_65 hf hg x1 x2 x3 _ hF
    · have hF := zif_f hc hF
      refine z_aload_n 0 dX1_checkStatement_40 rfl rfl ?_
      refine z_iload_n 1 dX1_checkStatement_41 rfl rfl ?_
      obtain ⟨r1496, t1497, hc1498, hF⟩ := zbd_at hF
      refine z_callVi (ctX1_opensChannel (E := E) (f := f - 1) (by omega) hc1498) yy_X1_opensChannel yv_X1_opensChannel ob_C_6 lk_RX1_119 (by omega) rfl rfl (Nat.le_of_ble_eq_true rfl) dX1_checkStatement_42 ?_
      refine z_if_eq (tgt := 65) dX1_checkStatement_45 (by decide) (fun hc => ?_) (fun hc => ?_)
      · have hF := zif_t hc hF
        exact wbX1_checkStatement_65 hf hg x1 x2 x3 _ hF
      · have hF := zif_f hc hF
        refine z_iload_n 3 dX1_checkStatement_48 rfl rfl ?_
        refine z_bipush (v := 8) dX1_checkStatement_49 (by decide) ?_
        refine z_icmp_eq (tgt := 61) dX1_checkStatement_51 (by decide) (fun hc => ?_) (fun hc => ?_)
        · have hF := zif_t hc hF
          exact wbX1_checkStatement_61 hf hg x1 x2 x3 _ hF
        · have hF := zif_f hc hF
          refine z_aload_n 0 dX1_checkStatement_54 rfl rfl ?_
          obtain ⟨r1499, t1500, hc1501, hF⟩ := zbd_at hF
          refine z_callVi (ctX1_hasChannels (E := E) (f := f - 1) (by omega) hc1501) yy_X1_hasChannels yv_X1_hasChannels ob_C_6 lk_RX1_73 (by omega) rfl rfl (Nat.le_of_ble_eq_true rfl) dX1_checkStatement_55 ?_
          refine z_if_ne (tgt := 65) dX1_checkStatement_58 (by decide) (fun hc => ?_) (fun hc => ?_)
          · have hF := zif_f hc hF
            exact wbX1_checkStatement_65 hf hg x1 x2 x3 _ hF
          · have hF := zif_t hc hF
            exact wbX1_checkStatement_61 hf hg x1 x2 x3 _ hF
set_option maxHeartbeats 4000000 in
set_option maxRecDepth 20000 in
theorem wbX1_checkStatement_99 {E : zE} {C : zC} {f : Nat} {ro : Int32 × zS} (hf : 6 ≤ f) {g : GgX1_checkBlock} (hg : HgX1_checkBlock E (f - 1) g) (x1 : Int32) (x2 : Int32) (x3 : Int32) (t : zS) (hF : bX1_checkStatement_99 g x1 x2 x3 t = some ro) : zJ E shC C cX1_checkStatement RX1 5 f (some .boolean) ro t 99 [(0, .ref (za E 6)), (1, .int x1), (2, .int x2), (3, .int x3)] [] := by
  unfold bX1_checkStatement_99 at hF
  refine z_aload_n 0 dX1_checkStatement_99 rfl rfl ?_
  refine z_getr fr_RX1_25 dX1_checkStatement_100 ?_
  refine z_aload_n 0 dX1_checkStatement_103 rfl rfl ?_
  refine z_getr fr_RX1_15 dX1_checkStatement_104 ?_
  refine z_aload_n 0 dX1_checkStatement_107 rfl rfl ?_
  refine z_getr fr_RX1_29 dX1_checkStatement_108 ?_
  refine z_getr fr_RX1_125 dX1_checkStatement_111 ?_
  refine z_iload_n 1 dX1_checkStatement_114 rfl rfl ?_
  obtain ⟨r1502, t1503, hc1504, hF⟩ := zbd_at hF
  refine z_callVi (ctX5_get (E := E) (sh := shC) (f := f - 1) (by omega) (k := 94) (n := 1000) rfl rfl hc1504) yy_X5_get yv_X5_get ob_C_94 lk_RX1_46 (by omega) rfl rfl (Nat.le_of_ble_eq_true rfl) dX1_checkStatement_115 ?_
  refine z_aload_n 0 dX1_checkStatement_118 rfl rfl ?_
  refine z_getr fr_RX1_29 dX1_checkStatement_119 ?_
  refine z_getr fr_RX1_128 dX1_checkStatement_122 ?_
  refine z_iload_n 1 dX1_checkStatement_125 rfl rfl ?_
  obtain ⟨r1505, t1506, hc1507, hF⟩ := zbd_at hF
  refine z_callVi (ctX5_get (E := E) (sh := shC) (f := f - 1) (by omega) (k := 96) (n := 1000) rfl rfl hc1507) yy_X5_get yv_X5_get ob_C_96 lk_RX1_46 (by omega) rfl rfl (Nat.le_of_ble_eq_true rfl) dX1_checkStatement_126 ?_
  obtain ⟨r1508, t1509, hc1510, hF⟩ := zbd_at hF
  refine z_callVi (ctX3_isWithout (E := E) (f := f - 1) (by omega) hc1510) yy_X3_isWithout yv_X3_isWithout ob_C_51 lk_RX1_131 (by omega) rfl rfl (Nat.le_of_ble_eq_true rfl) dX1_checkStatement_129 ?_
  refine z_istore (lv' := [(4, .int r1508), (0, .ref (za E 6)), (1, .int x1), (2, .int x2), (3, .int x3)]) dX1_checkStatement_132 (by decide) rfl ?_
  refine z_goto (tgt := 145) dX1_checkStatement_134 (by decide) ?_
  refine z_sub [1, 2, 3, 4, 0] rfl ?_
  exact wbX1_checkStatement_145 hf hg x1 x2 x3 r1508 _ hF
set_option maxHeartbeats 4000000 in
set_option maxRecDepth 20000 in
theorem ctX1_checkStatement {E : zE} {f : Nat} (hf : 6 ≤ f) {g : GgX1_checkBlock} (hg : HgX1_checkBlock E (f - 1) g) {x1 : Int32} {x2 : Int32} {t : zS} {ro : Int32 × zS} (hF : mX1_checkStatement g x1 x2 t = some ro) : zM E shC f yX1_checkStatement cX1_checkStatement 5 (some .boolean) [.ref (za E 6), .int x1, .int x2] t ro := by
  refine zM_of (by decide) (Nat.le_of_ble_eq_true rfl) (fun C => ?_)
  show zJ E shC C cX1_checkStatement RX1 5 f (some .boolean) ro t 0 [(0, .ref (za E 6)), (1, .int x1), (2, .int x2)] []
  unfold mX1_checkStatement at hF
  refine z_aload_n 0 dX1_checkStatement_0 rfl rfl ?_
  refine z_getr fr_RX1_29 dX1_checkStatement_1 ?_
  refine z_getr fr_RX1_109 dX1_checkStatement_4 ?_
  refine z_iload_n 1 dX1_checkStatement_7 rfl rfl ?_
  obtain ⟨r1511, t1512, hc1513, hF⟩ := zbd_at hF
  refine z_callVi (ctX5_get (E := E) (sh := shC) (f := f - 1) (by omega) (k := 86) (n := 1000) rfl rfl hc1513) yy_X5_get yv_X5_get ob_C_86 lk_RX1_46 (by omega) rfl rfl (Nat.le_of_ble_eq_true rfl) dX1_checkStatement_8 ?_
  refine z_istore_n (lv' := [(3, .int r1511), (0, .ref (za E 6)), (1, .int x1), (2, .int x2)]) dX1_checkStatement_11 rfl (by decide) rfl ?_
  refine z_iload_n 0 dX1_checkStatement_12 rfl rfl ?_
  refine z_bipush (v := 8) dX1_checkStatement_13 (by decide) ?_
  refine z_icmp_eq (tgt := 24) dX1_checkStatement_15 (by decide) (fun hc => ?_) (fun hc => ?_)
  · have hF := zif_t hc hF
    refine z_sub [1, 2, 3, 0] rfl ?_
    exact wbX1_checkStatement_24 hf hg x1 x2 r1511 _ hF
  · have hF := zif_f hc hF
    refine z_iload_n 0 dX1_checkStatement_18 rfl rfl ?_
    refine z_bipush (v := 9) dX1_checkStatement_19 (by decide) ?_
    refine z_icmp_ne (tgt := 71) dX1_checkStatement_21 (by decide) (fun hc => ?_) (fun hc => ?_)
    · have hF := zif_f hc hF
      refine z_iload_n 0 dX1_checkStatement_71 rfl rfl ?_
      refine z_bipush (v := 7) dX1_checkStatement_72 (by decide) ?_
      refine z_icmp_ne (tgt := 87) dX1_checkStatement_74 (by decide) (fun hc => ?_) (fun hc => ?_)
      · have hF := zif_f hc hF
        refine z_iload_n 0 dX1_checkStatement_87 rfl rfl ?_
        refine z_bipush (v := 10) dX1_checkStatement_88 (by decide) ?_
        refine z_icmp_eq (tgt := 99) dX1_checkStatement_90 (by decide) (fun hc => ?_) (fun hc => ?_)
        · have hF := zif_t hc hF
          refine z_sub [1, 2, 3, 0] rfl ?_
          exact wbX1_checkStatement_99 hf hg x1 x2 r1511 _ hF
        · have hF := zif_f hc hF
          refine z_iload_n 0 dX1_checkStatement_93 rfl rfl ?_
          refine z_bipush (v := 12) dX1_checkStatement_94 (by decide) ?_
          refine z_icmp_ne (tgt := 137) dX1_checkStatement_96 (by decide) (fun hc => ?_) (fun hc => ?_)
          · have hF := zif_f hc hF
            refine z_aload_n 1 dX1_checkStatement_137 rfl rfl ?_
            refine z_iload_n 2 dX1_checkStatement_138 rfl rfl ?_
            refine z_iload_n 0 dX1_checkStatement_139 rfl rfl ?_
            obtain ⟨r1514, t1515, hc1516, hF⟩ := zbd_at hF
            refine z_callVi (ctX1_isGoodPlain (E := E) (f := f - 1) (by omega) hc1516) yy_X1_isGoodPlain yv_X1_isGoodPlain ob_C_6 lk_RX1_137 (by omega) rfl rfl (Nat.le_of_ble_eq_true rfl) dX1_checkStatement_140 ?_
            refine z_istore (lv' := [(4, .int r1514), (3, .int r1511), (0, .ref (za E 6)), (1, .int x1), (2, .int x2)]) dX1_checkStatement_143 (by decide) rfl ?_
            refine z_sub [2, 3, 4, 1, 0] rfl ?_
            exact wbX1_checkStatement_145 hf hg x1 x2 r1511 r1514 _ hF
          · have hF := zif_t hc hF
            refine z_sub [1, 2, 3, 0] rfl ?_
            exact wbX1_checkStatement_99 hf hg x1 x2 r1511 _ hF
      · have hF := zif_t hc hF
        refine z_aload_n 1 dX1_checkStatement_77 rfl rfl ?_
        refine z_iload_n 2 dX1_checkStatement_78 rfl rfl ?_
        obtain ⟨r1517, t1518, hc1519, hF⟩ := zbd_at hF
        refine z_callVi (ctX1_isGoodCase (E := E) (f := f - 1) (by omega) hc1519) yy_X1_isGoodCase yv_X1_isGoodCase ob_C_6 lk_RX1_122 (by omega) rfl rfl (Nat.le_of_ble_eq_true rfl) dX1_checkStatement_79 ?_
        refine z_istore (lv' := [(4, .int r1517), (3, .int r1511), (0, .ref (za E 6)), (1, .int x1), (2, .int x2)]) dX1_checkStatement_82 (by decide) rfl ?_
        refine z_goto (tgt := 145) dX1_checkStatement_84 (by decide) ?_
        refine z_sub [2, 3, 4, 1, 0] rfl ?_
        exact wbX1_checkStatement_145 hf hg x1 x2 r1511 r1517 _ hF
    · have hF := zif_t hc hF
      refine z_sub [1, 2, 3, 0] rfl ?_
      exact wbX1_checkStatement_24 hf hg x1 x2 r1511 _ hF
-- SessionHouse$Checker.checkBranches(IIZ)Z
theorem dX1_checkBranches_0 : decode cX1_checkBranches 0 = .ok (.aload_n 0, 1) := by decide +kernel
theorem dX1_checkBranches_1 : decode cX1_checkBranches 1 = .ok (.getfield 50, 3) := by decide +kernel
theorem dX1_checkBranches_4 : decode cX1_checkBranches 4 = .ok (.iconst 1, 1) := by decide +kernel
theorem dX1_checkBranches_5 : decode cX1_checkBranches 5 = .ok (.iconst 2, 1) := by decide +kernel
theorem dX1_checkBranches_6 : decode cX1_checkBranches 6 = .ok (.iload_n 2, 1) := by decide +kernel
theorem dX1_checkBranches_7 : decode cX1_checkBranches 7 = .ok (.imul, 1) := by decide +kernel
theorem dX1_checkBranches_8 : decode cX1_checkBranches 8 = .ok (.iadd, 1) := by decide +kernel
theorem dX1_checkBranches_9 : decode cX1_checkBranches 9 = .ok (.imul, 1) := by decide +kernel
theorem dX1_checkBranches_10 : decode cX1_checkBranches 10 = .ok (.istore 4, 2) := by decide +kernel
theorem dX1_checkBranches_12 : decode cX1_checkBranches 12 = .ok (.iload 4, 2) := by decide +kernel
theorem dX1_checkBranches_14 : decode cX1_checkBranches 14 = .ok (.aload_n 0, 1) := by decide +kernel
theorem dX1_checkBranches_15 : decode cX1_checkBranches 15 = .ok (.getfield 50, 3) := by decide +kernel
theorem dX1_checkBranches_18 : decode cX1_checkBranches 18 = .ok (.iadd, 1) := by decide +kernel
theorem dX1_checkBranches_19 : decode cX1_checkBranches 19 = .ok (.istore 5, 2) := by decide +kernel
theorem dX1_checkBranches_21 : decode cX1_checkBranches 21 = .ok (.iconst 1, 1) := by decide +kernel
theorem dX1_checkBranches_22 : decode cX1_checkBranches 22 = .ok (.istore 6, 2) := by decide +kernel
theorem dX1_checkBranches_24 : decode cX1_checkBranches 24 = .ok (.iconst 1, 1) := by decide +kernel
theorem dX1_checkBranches_25 : decode cX1_checkBranches 25 = .ok (.istore 7, 2) := by decide +kernel
theorem dX1_checkBranches_27 : decode cX1_checkBranches 27 = .ok (.aload_n 0, 1) := by decide +kernel
theorem dX1_checkBranches_28 : decode cX1_checkBranches 28 = .ok (.getfield 15, 3) := by decide +kernel
theorem dX1_checkBranches_31 : decode cX1_checkBranches 31 = .ok (.iconst 0, 1) := by decide +kernel
theorem dX1_checkBranches_32 : decode cX1_checkBranches 32 = .ok (.iload 4, 2) := by decide +kernel
theorem dX1_checkBranches_34 : decode cX1_checkBranches 34 = .ok (.aload_n 0, 1) := by decide +kernel
theorem dX1_checkBranches_35 : decode cX1_checkBranches 35 = .ok (.getfield 50, 3) := by decide +kernel
theorem dX1_checkBranches_38 : decode cX1_checkBranches 38 = .ok (.invokevirtual 192, 3) := by decide +kernel
theorem dX1_checkBranches_41 : decode cX1_checkBranches 41 = .ok (.aload_n 0, 1) := by decide +kernel
theorem dX1_checkBranches_42 : decode cX1_checkBranches 42 = .ok (.getfield 29, 3) := by decide +kernel
theorem dX1_checkBranches_45 : decode cX1_checkBranches 45 = .ok (.getfield 168, 3) := by decide +kernel
theorem dX1_checkBranches_48 : decode cX1_checkBranches 48 = .ok (.iload_n 1, 1) := by decide +kernel
theorem dX1_checkBranches_49 : decode cX1_checkBranches 49 = .ok (.invokevirtual 46, 3) := by decide +kernel
theorem dX1_checkBranches_52 : decode cX1_checkBranches 52 = .ok (.istore 8, 2) := by decide +kernel
theorem dX1_checkBranches_54 : decode cX1_checkBranches 54 = .ok (.iconst 0, 1) := by decide +kernel
theorem dX1_checkBranches_55 : decode cX1_checkBranches 55 = .ok (.istore 9, 2) := by decide +kernel
theorem dX1_checkBranches_57 : decode cX1_checkBranches 57 = .ok (.iload 9, 2) := by decide +kernel
theorem dX1_checkBranches_59 : decode cX1_checkBranches 59 = .ok (.sipush 1600, 3) := by decide +kernel
theorem dX1_checkBranches_62 : decode cX1_checkBranches 62 = .ok (.if_icmp .ge 195, 3) := by decide +kernel
theorem dX1_checkBranches_65 : decode cX1_checkBranches 65 = .ok (.iload 8, 2) := by decide +kernel
theorem dX1_checkBranches_67 : decode cX1_checkBranches 67 = .ok (.ifCond .lt 190, 3) := by decide +kernel
theorem dX1_checkBranches_70 : decode cX1_checkBranches 70 = .ok (.aload_n 0, 1) := by decide +kernel
theorem dX1_checkBranches_71 : decode cX1_checkBranches 71 = .ok (.getfield 15, 3) := by decide +kernel
theorem dX1_checkBranches_74 : decode cX1_checkBranches 74 = .ok (.iload 4, 2) := by decide +kernel
theorem dX1_checkBranches_76 : decode cX1_checkBranches 76 = .ok (.iconst 0, 1) := by decide +kernel
theorem dX1_checkBranches_77 : decode cX1_checkBranches 77 = .ok (.aload_n 0, 1) := by decide +kernel
theorem dX1_checkBranches_78 : decode cX1_checkBranches 78 = .ok (.getfield 50, 3) := by decide +kernel
theorem dX1_checkBranches_81 : decode cX1_checkBranches 81 = .ok (.invokevirtual 192, 3) := by decide +kernel
theorem dX1_checkBranches_84 : decode cX1_checkBranches 84 = .ok (.iload_n 3, 1) := by decide +kernel
theorem dX1_checkBranches_85 : decode cX1_checkBranches 85 = .ok (.ifCond .eq 66, 3) := by decide +kernel
theorem dX1_checkBranches_88 : decode cX1_checkBranches 88 = .ok (.aload_n 0, 1) := by decide +kernel
theorem dX1_checkBranches_89 : decode cX1_checkBranches 89 = .ok (.getfield 29, 3) := by decide +kernel
theorem dX1_checkBranches_92 : decode cX1_checkBranches 92 = .ok (.getfield 147, 3) := by decide +kernel
theorem dX1_checkBranches_95 : decode cX1_checkBranches 95 = .ok (.iload_n 1, 1) := by decide +kernel
theorem dX1_checkBranches_96 : decode cX1_checkBranches 96 = .ok (.invokevirtual 46, 3) := by decide +kernel
theorem dX1_checkBranches_99 : decode cX1_checkBranches 99 = .ok (.istore 10, 2) := by decide +kernel
theorem dX1_checkBranches_101 : decode cX1_checkBranches 101 = .ok (.aload_n 0, 1) := by decide +kernel
theorem dX1_checkBranches_102 : decode cX1_checkBranches 102 = .ok (.getfield 21, 3) := by decide +kernel
theorem dX1_checkBranches_105 : decode cX1_checkBranches 105 = .ok (.aload_n 0, 1) := by decide +kernel
theorem dX1_checkBranches_106 : decode cX1_checkBranches 106 = .ok (.getfield 15, 3) := by decide +kernel
theorem dX1_checkBranches_109 : decode cX1_checkBranches 109 = .ok (.iload 10, 2) := by decide +kernel
theorem dX1_checkBranches_111 : decode cX1_checkBranches 111 = .ok (.invokevirtual 46, 3) := by decide +kernel
theorem dX1_checkBranches_114 : decode cX1_checkBranches 114 = .ok (.aload_n 0, 1) := by decide +kernel
theorem dX1_checkBranches_115 : decode cX1_checkBranches 115 = .ok (.getfield 29, 3) := by decide +kernel
theorem dX1_checkBranches_118 : decode cX1_checkBranches 118 = .ok (.getfield 171, 3) := by decide +kernel
theorem dX1_checkBranches_121 : decode cX1_checkBranches 121 = .ok (.iload 8, 2) := by decide +kernel
theorem dX1_checkBranches_123 : decode cX1_checkBranches 123 = .ok (.invokevirtual 46, 3) := by decide +kernel
theorem dX1_checkBranches_126 : decode cX1_checkBranches 126 = .ok (.invokevirtual 162, 3) := by decide +kernel
theorem dX1_checkBranches_129 : decode cX1_checkBranches 129 = .ok (.istore 11, 2) := by decide +kernel
theorem dX1_checkBranches_131 : decode cX1_checkBranches 131 = .ok (.aload_n 0, 1) := by decide +kernel
theorem dX1_checkBranches_132 : decode cX1_checkBranches 132 = .ok (.getfield 29, 3) := by decide +kernel
theorem dX1_checkBranches_135 : decode cX1_checkBranches 135 = .ok (.getfield 195, 3) := by decide +kernel
theorem dX1_checkBranches_138 : decode cX1_checkBranches 138 = .ok (.iload 8, 2) := by decide +kernel
theorem dX1_checkBranches_140 : decode cX1_checkBranches 140 = .ok (.aload_n 0, 1) := by decide +kernel
theorem dX1_checkBranches_141 : decode cX1_checkBranches 141 = .ok (.iload 10, 2) := by decide +kernel
theorem dX1_checkBranches_143 : decode cX1_checkBranches 143 = .ok (.iload 11, 2) := by decide +kernel
theorem dX1_checkBranches_145 : decode cX1_checkBranches 145 = .ok (.invokevirtual 63, 3) := by decide +kernel
theorem dX1_checkBranches_148 : decode cX1_checkBranches 148 = .ok (.invokevirtual 88, 3) := by decide +kernel
theorem dX1_checkBranches_151 : decode cX1_checkBranches 151 = .ok (.aload_n 0, 1) := by decide +kernel
theorem dX1_checkBranches_152 : decode cX1_checkBranches 152 = .ok (.aload_n 0, 1) := by decide +kernel
theorem dX1_checkBranches_153 : decode cX1_checkBranches 153 = .ok (.getfield 29, 3) := by decide +kernel
theorem dX1_checkBranches_156 : decode cX1_checkBranches 156 = .ok (.getfield 198, 3) := by decide +kernel
theorem dX1_checkBranches_159 : decode cX1_checkBranches 159 = .ok (.iload 8, 2) := by decide +kernel
theorem dX1_checkBranches_161 : decode cX1_checkBranches 161 = .ok (.invokevirtual 46, 3) := by decide +kernel
theorem dX1_checkBranches_164 : decode cX1_checkBranches 164 = .ok (.iload_n 2, 1) := by decide +kernel
theorem dX1_checkBranches_165 : decode cX1_checkBranches 165 = .ok (.iconst 1, 1) := by decide +kernel
theorem dX1_checkBranches_166 : decode cX1_checkBranches 166 = .ok (.iadd, 1) := by decide +kernel
theorem dX1_checkBranches_167 : decode cX1_checkBranches 167 = .ok (.invokevirtual 69, 3) := by decide +kernel
theorem dX1_checkBranches_170 : decode cX1_checkBranches 170 = .ok (.istore 10, 2) := by decide +kernel
theorem dX1_checkBranches_172 : decode cX1_checkBranches 172 = .ok (.aload_n 0, 1) := by decide +kernel
theorem dX1_checkBranches_173 : decode cX1_checkBranches 173 = .ok (.getfield 37, 3) := by decide +kernel
theorem dX1_checkBranches_176 : decode cX1_checkBranches 176 = .ok (.ifCond .lt 5, 3) := by decide +kernel
theorem dX1_checkBranches_179 : decode cX1_checkBranches 179 = .ok (.iconst 0, 1) := by decide +kernel
theorem dX1_checkBranches_180 : decode cX1_checkBranches 180 = .ok (.ireturn, 1) := by decide +kernel
theorem dX1_checkBranches_181 : decode cX1_checkBranches 181 = .ok (.iload 10, 2) := by decide +kernel
theorem dX1_checkBranches_183 : decode cX1_checkBranches 183 = .ok (.ifCond .ne 28, 3) := by decide +kernel
theorem dX1_checkBranches_186 : decode cX1_checkBranches 186 = .ok (.iload 6, 2) := by decide +kernel
theorem dX1_checkBranches_188 : decode cX1_checkBranches 188 = .ok (.ifCond .eq 23, 3) := by decide +kernel
theorem dX1_checkBranches_191 : decode cX1_checkBranches 191 = .ok (.iconst 0, 1) := by decide +kernel
theorem dX1_checkBranches_192 : decode cX1_checkBranches 192 = .ok (.istore 6, 2) := by decide +kernel
theorem dX1_checkBranches_194 : decode cX1_checkBranches 194 = .ok (.aload_n 0, 1) := by decide +kernel
theorem dX1_checkBranches_195 : decode cX1_checkBranches 195 = .ok (.getfield 15, 3) := by decide +kernel
theorem dX1_checkBranches_198 : decode cX1_checkBranches 198 = .ok (.iconst 0, 1) := by decide +kernel
theorem dX1_checkBranches_199 : decode cX1_checkBranches 199 = .ok (.iload 5, 2) := by decide +kernel
theorem dX1_checkBranches_201 : decode cX1_checkBranches 201 = .ok (.aload_n 0, 1) := by decide +kernel
theorem dX1_checkBranches_202 : decode cX1_checkBranches 202 = .ok (.getfield 50, 3) := by decide +kernel
theorem dX1_checkBranches_205 : decode cX1_checkBranches 205 = .ok (.invokevirtual 192, 3) := by decide +kernel
theorem dX1_checkBranches_208 : decode cX1_checkBranches 208 = .ok (.goto 29, 3) := by decide +kernel
theorem dX1_checkBranches_211 : decode cX1_checkBranches 211 = .ok (.iload 10, 2) := by decide +kernel
theorem dX1_checkBranches_213 : decode cX1_checkBranches 213 = .ok (.ifCond .ne 24, 3) := by decide +kernel
theorem dX1_checkBranches_216 : decode cX1_checkBranches 216 = .ok (.iload 7, 2) := by decide +kernel
theorem dX1_checkBranches_218 : decode cX1_checkBranches 218 = .ok (.ifCond .eq 16, 3) := by decide +kernel
theorem dX1_checkBranches_221 : decode cX1_checkBranches 221 = .ok (.aload_n 0, 1) := by decide +kernel
theorem dX1_checkBranches_222 : decode cX1_checkBranches 222 = .ok (.iload 5, 2) := by decide +kernel
theorem dX1_checkBranches_224 : decode cX1_checkBranches 224 = .ok (.invokevirtual 201, 3) := by decide +kernel
theorem dX1_checkBranches_227 : decode cX1_checkBranches 227 = .ok (.ifCond .eq 7, 3) := by decide +kernel
theorem dX1_checkBranches_230 : decode cX1_checkBranches 230 = .ok (.iconst 1, 1) := by decide +kernel
theorem dX1_checkBranches_231 : decode cX1_checkBranches 231 = .ok (.goto 4, 3) := by decide +kernel
theorem dX1_checkBranches_234 : decode cX1_checkBranches 234 = .ok (.iconst 0, 1) := by decide +kernel
theorem dX1_checkBranches_235 : decode cX1_checkBranches 235 = .ok (.istore 7, 2) := by decide +kernel
theorem dX1_checkBranches_237 : decode cX1_checkBranches 237 = .ok (.aload_n 0, 1) := by decide +kernel
theorem dX1_checkBranches_238 : decode cX1_checkBranches 238 = .ok (.getfield 29, 3) := by decide +kernel
theorem dX1_checkBranches_241 : decode cX1_checkBranches 241 = .ok (.getfield 174, 3) := by decide +kernel
theorem dX1_checkBranches_244 : decode cX1_checkBranches 244 = .ok (.iload 8, 2) := by decide +kernel
theorem dX1_checkBranches_246 : decode cX1_checkBranches 246 = .ok (.invokevirtual 46, 3) := by decide +kernel
theorem dX1_checkBranches_249 : decode cX1_checkBranches 249 = .ok (.istore 8, 2) := by decide +kernel
theorem dX1_checkBranches_251 : decode cX1_checkBranches 251 = .ok (.iinc 9 1, 3) := by decide +kernel
theorem dX1_checkBranches_254 : decode cX1_checkBranches 254 = .ok (.goto (-197), 3) := by decide +kernel
theorem dX1_checkBranches_257 : decode cX1_checkBranches 257 = .ok (.iload 7, 2) := by decide +kernel
theorem dX1_checkBranches_259 : decode cX1_checkBranches 259 = .ok (.ifCond .ne 8, 3) := by decide +kernel
theorem dX1_checkBranches_262 : decode cX1_checkBranches 262 = .ok (.aload_n 0, 1) := by decide +kernel
theorem dX1_checkBranches_263 : decode cX1_checkBranches 263 = .ok (.iload_n 1, 1) := by decide +kernel
theorem dX1_checkBranches_264 : decode cX1_checkBranches 264 = .ok (.invokevirtual 106, 3) := by decide +kernel
theorem dX1_checkBranches_267 : decode cX1_checkBranches 267 = .ok (.aload_n 0, 1) := by decide +kernel
theorem dX1_checkBranches_268 : decode cX1_checkBranches 268 = .ok (.getfield 15, 3) := by decide +kernel
theorem dX1_checkBranches_271 : decode cX1_checkBranches 271 = .ok (.iload 6, 2) := by decide +kernel
theorem dX1_checkBranches_273 : decode cX1_checkBranches 273 = .ok (.ifCond .eq 8, 3) := by decide +kernel
theorem dX1_checkBranches_276 : decode cX1_checkBranches 276 = .ok (.iload 4, 2) := by decide +kernel
theorem dX1_checkBranches_278 : decode cX1_checkBranches 278 = .ok (.goto 5, 3) := by decide +kernel
theorem dX1_checkBranches_281 : decode cX1_checkBranches 281 = .ok (.iload 5, 2) := by decide +kernel
theorem dX1_checkBranches_283 : decode cX1_checkBranches 283 = .ok (.iconst 0, 1) := by decide +kernel
theorem dX1_checkBranches_284 : decode cX1_checkBranches 284 = .ok (.aload_n 0, 1) := by decide +kernel
theorem dX1_checkBranches_285 : decode cX1_checkBranches 285 = .ok (.getfield 50, 3) := by decide +kernel
theorem dX1_checkBranches_288 : decode cX1_checkBranches 288 = .ok (.invokevirtual 192, 3) := by decide +kernel
theorem dX1_checkBranches_291 : decode cX1_checkBranches 291 = .ok (.iload 6, 2) := by decide +kernel
theorem dX1_checkBranches_293 : decode cX1_checkBranches 293 = .ok (.ireturn, 1) := by decide +kernel
def bX1_checkBranches_237 (g : GgX1_checkBlock) (k57 : Int32 → Int32 → Int32 → Int32 → Int32 → Int32 → Int32 → Int32 → Int32 → zS → zR) (x1 : Int32) (x2 : Int32) (x3 : Int32) (x4 : Int32) (x5 : Int32) (x6 : Int32) (x7 : Int32) (x8 : Int32) (x9 : Int32) (t : zS) : zR := zbd (mX5_get 114 1600 x8 t) fun r1520 t1521 => zlet (x9 + 1) fun v1523 => k57 x1 x2 x3 x4 x5 x6 x7 r1520 v1523 t1521
def bX1_checkBranches_235 (g : GgX1_checkBlock) (k57 : Int32 → Int32 → Int32 → Int32 → Int32 → Int32 → Int32 → Int32 → Int32 → zS → zR) (x1 : Int32) (x2 : Int32) (x3 : Int32) (x4 : Int32) (x5 : Int32) (x6 : Int32) (x8 : Int32) (x9 : Int32) (y0 : Int32) (t : zS) : zR := bX1_checkBranches_237 g k57 x1 x2 x3 x4 x5 x6 y0 x8 x9 t
def bX1_checkBranches_234 (g : GgX1_checkBlock) (k57 : Int32 → Int32 → Int32 → Int32 → Int32 → Int32 → Int32 → Int32 → Int32 → zS → zR) (x1 : Int32) (x2 : Int32) (x3 : Int32) (x4 : Int32) (x5 : Int32) (x6 : Int32) (x8 : Int32) (x9 : Int32) (t : zS) : zR := bX1_checkBranches_235 g k57 x1 x2 x3 x4 x5 x6 x8 x9 0 t
def bX1_checkBranches_211 (g : GgX1_checkBlock) (k57 : Int32 → Int32 → Int32 → Int32 → Int32 → Int32 → Int32 → Int32 → Int32 → zS → zR) (x1 : Int32) (x2 : Int32) (x3 : Int32) (x4 : Int32) (x5 : Int32) (x6 : Int32) (x7 : Int32) (x8 : Int32) (x9 : Int32) (x10 : Int32) (t : zS) : zR := if x10 = 0 then if x7 = 0 then bX1_checkBranches_234 g k57 x1 x2 x3 x4 x5 x6 x8 x9 t else zbd (mX1_isSame x5 t) fun r1524 t1525 => if r1524 = 0 then bX1_checkBranches_234 g k57 x1 x2 x3 x4 x5 x6 x8 x9 t1525 else bX1_checkBranches_235 g k57 x1 x2 x3 x4 x5 x6 x8 x9 1 t1525 else bX1_checkBranches_237 g k57 x1 x2 x3 x4 x5 x6 x7 x8 x9 t
def bX1_checkBranches_151 (g : GgX1_checkBlock) (k57 : Int32 → Int32 → Int32 → Int32 → Int32 → Int32 → Int32 → Int32 → Int32 → zS → zR) (x1 : Int32) (x2 : Int32) (x3 : Int32) (x4 : Int32) (x5 : Int32) (x6 : Int32) (x7 : Int32) (x8 : Int32) (x9 : Int32) (t : zS) : zR := zbd (mX5_get 110 1600 x8 t) fun r1527 t1528 => zbd (g.1 r1527 (x2 + 1) t1528) fun r1530 t1531 => if (t1531 6 6) < 0 then if r1530 = 0 then if x6 = 0 then bX1_checkBranches_211 g k57 x1 x2 x3 x4 x5 x6 x7 x8 x9 r1530 t1531 else zbd (mX5_copy 57 80000 0 x5 (t1531 6 5) t1531) fun r1533 t1534 => bX1_checkBranches_237 g k57 x1 x2 x3 x4 x5 0 x7 x8 x9 t1534 else bX1_checkBranches_211 g k57 x1 x2 x3 x4 x5 x6 x7 x8 x9 r1530 t1531 else some (0, t1531)
def bX1_checkBranches_283 (g : GgX1_checkBlock) (x6 : Int32) (y0 : Int32) (t : zS) : zR := zbd (mX5_copy 57 80000 y0 0 (t 6 5) t) fun r1536 t1537 => z01 x6 (some (x6, t1537))
def bX1_checkBranches_267 (g : GgX1_checkBlock) (x4 : Int32) (x5 : Int32) (x6 : Int32) (t : zS) : zR := if x6 = 0 then bX1_checkBranches_283 g x6 x5 t else bX1_checkBranches_283 g x6 x4 t
def bX1_checkBranches_257 (g : GgX1_checkBlock) (x1 : Int32) (x4 : Int32) (x5 : Int32) (x6 : Int32) (x7 : Int32) (t : zS) : zR := if x7 = 0 then zbd (mX1_fail x1 t) fun r1540 t1541 => bX1_checkBranches_267 g x4 x5 x6 t1541 else bX1_checkBranches_267 g x4 x5 x6 t
def bX1_checkBranches_57 (g : GgX1_checkBlock) (k57 : Int32 → Int32 → Int32 → Int32 → Int32 → Int32 → Int32 → Int32 → Int32 → zS → zR) (x1 : Int32) (x2 : Int32) (x3 : Int32) (x4 : Int32) (x5 : Int32) (x6 : Int32) (x7 : Int32) (x8 : Int32) (x9 : Int32) (t : zS) : zR := if 1600 ≤ x9 then bX1_checkBranches_257 g x1 x4 x5 x6 x7 t else if x8 < 0 then bX1_checkBranches_257 g x1 x4 x5 x6 x7 t else zbd (mX5_copy 57 80000 x4 0 (t 6 5) t) fun r1543 t1544 => if x3 = 0 then bX1_checkBranches_151 g k57 x1 x2 x3 x4 x5 x6 x7 x8 x9 t1544 else zbd (mX5_get 90 1000 x1 t1544) fun r1546 t1547 => zbd (mX5_get 57 80000 r1546 t1547) fun r1549 t1550 => zbd (mX5_get 108 1600 x8 t1550) fun r1552 t1553 => zbd (mX2_byLabel r1549 r1552 t1553) fun r1555 t1556 => zbd (mX1_hold r1546 r1555 t1556) fun r1558 t1559 => zbd (mX5_set 112 1600 x8 r1558 t1559) fun r1561 t1562 => bX1_checkBranches_151 g k57 x1 x2 x3 x4 x5 x6 x7 x8 x9 t1562
def lX1_checkBranches_57 (g : GgX1_checkBlock) : Nat → Int32 → Int32 → Int32 → Int32 → Int32 → Int32 → Int32 → Int32 → Int32 → zS → zR
  | 0, _, _, _, _, _, _, _, _, _, _ => none
  | fu + 1, x1, x2, x3, x4, x5, x6, x7, x8, x9, t => bX1_checkBranches_57 g (lX1_checkBranches_57 g fu) x1 x2 x3 x4 x5 x6 x7 x8 x9 t
def mX1_checkBranches (g : GgX1_checkBlock) (x1 : Int32) (x2 : Int32) (x3 : Int32) (t : zS) : zR := zlet ((t 6 5) * (1 + (2 * x2))) fun v1564 => zlet (v1564 + (t 6 5)) fun v1565 => zbd (mX5_copy 57 80000 0 v1564 (t 6 5) t) fun r1566 t1567 => zbd (mX5_get 104 1000 x1 t1567) fun r1569 t1570 => lX1_checkBranches_57 g zFU x1 x2 x3 v1564 v1565 1 1 r1569 0 t1570
set_option maxHeartbeats 4000000 in
set_option maxRecDepth 20000 in
theorem wbX1_checkBranches_237 {E : zE} {C : zC} {f : Nat} {ro : Int32 × zS} (hf : 6 ≤ f) {g : GgX1_checkBlock} (hg : HgX1_checkBlock E (f - 1) g) (k57 : Int32 → Int32 → Int32 → Int32 → Int32 → Int32 → Int32 → Int32 → Int32 → zS → zR) (hk57 : ∀ (x1 x2 x3 x4 x5 x6 x7 x8 x9 : Int32) (t : zS), k57 x1 x2 x3 x4 x5 x6 x7 x8 x9 t = some ro → zJ E shC C cX1_checkBranches RX1 12 f (some .boolean) ro t 57 [(0, .ref (za E 6)), (1, .int x1), (2, .int x2), (3, .int x3), (4, .int x4), (5, .int x5), (6, .int x6), (7, .int x7), (8, .int x8), (9, .int x9)] []) (x1 : Int32) (x2 : Int32) (x3 : Int32) (x4 : Int32) (x5 : Int32) (x6 : Int32) (x7 : Int32) (x8 : Int32) (x9 : Int32) (t : zS) (hF : bX1_checkBranches_237 g k57 x1 x2 x3 x4 x5 x6 x7 x8 x9 t = some ro) : zJ E shC C cX1_checkBranches RX1 12 f (some .boolean) ro t 237 [(0, .ref (za E 6)), (1, .int x1), (2, .int x2), (3, .int x3), (4, .int x4), (5, .int x5), (6, .int x6), (7, .int x7), (8, .int x8), (9, .int x9)] [] := by
  unfold bX1_checkBranches_237 at hF
  refine z_aload_n 0 dX1_checkBranches_237 rfl rfl ?_
  refine z_getr fr_RX1_29 dX1_checkBranches_238 ?_
  refine z_getr fr_RX1_174 dX1_checkBranches_241 ?_
  refine z_iload 8 dX1_checkBranches_244 rfl ?_
  obtain ⟨r1520, t1521, hc1522, hF⟩ := zbd_at hF
  refine z_callVi (ctX5_get (E := E) (sh := shC) (f := f - 1) (by omega) (k := 114) (n := 1600) rfl rfl hc1522) yy_X5_get yv_X5_get ob_C_114 lk_RX1_46 (by omega) rfl rfl (Nat.le_of_ble_eq_true rfl) dX1_checkBranches_246 ?_
  refine z_istore (lv' := [(8, .int r1520), (0, .ref (za E 6)), (1, .int x1), (2, .int x2), (3, .int x3), (4, .int x4), (5, .int x5), (6, .int x6), (7, .int x7), (9, .int x9)]) dX1_checkBranches_249 (by decide) rfl ?_
  obtain ⟨v1523, ev1523⟩ : ∃ y : Int32, y = (x9 + 1) := ⟨_, rfl⟩
  have hF := zlet_at ev1523 hF
  refine z_iinc (v := v1523) (lv' := [(9, .int v1523), (8, .int r1520), (0, .ref (za E 6)), (1, .int x1), (2, .int x2), (3, .int x3), (4, .int x4), (5, .int x5), (6, .int x6), (7, .int x7)]) (k := 9) dX1_checkBranches_251 rfl (by rw [ev1523]; rfl) (by decide) rfl ?_
  refine z_goto (tgt := 57) dX1_checkBranches_254 (by decide) ?_
  refine z_sub [2, 3, 4, 5, 6, 7, 8, 9, 1, 0] rfl ?_
  exact hk57 x1 x2 x3 x4 x5 x6 x7 r1520 v1523 _ hF
set_option maxHeartbeats 4000000 in
set_option maxRecDepth 20000 in
theorem wbX1_checkBranches_235 {E : zE} {C : zC} {f : Nat} {ro : Int32 × zS} (hf : 6 ≤ f) {g : GgX1_checkBlock} (hg : HgX1_checkBlock E (f - 1) g) (k57 : Int32 → Int32 → Int32 → Int32 → Int32 → Int32 → Int32 → Int32 → Int32 → zS → zR) (hk57 : ∀ (x1 x2 x3 x4 x5 x6 x7 x8 x9 : Int32) (t : zS), k57 x1 x2 x3 x4 x5 x6 x7 x8 x9 t = some ro → zJ E shC C cX1_checkBranches RX1 12 f (some .boolean) ro t 57 [(0, .ref (za E 6)), (1, .int x1), (2, .int x2), (3, .int x3), (4, .int x4), (5, .int x5), (6, .int x6), (7, .int x7), (8, .int x8), (9, .int x9)] []) (x1 : Int32) (x2 : Int32) (x3 : Int32) (x4 : Int32) (x5 : Int32) (x6 : Int32) (x8 : Int32) (x9 : Int32) (y0 : Int32) (t : zS) (hF : bX1_checkBranches_235 g k57 x1 x2 x3 x4 x5 x6 x8 x9 y0 t = some ro) : zJ E shC C cX1_checkBranches RX1 12 f (some .boolean) ro t 235 [(0, .ref (za E 6)), (1, .int x1), (2, .int x2), (3, .int x3), (4, .int x4), (5, .int x5), (6, .int x6), (8, .int x8), (9, .int x9)] [.int y0] := by
  unfold bX1_checkBranches_235 at hF
  refine z_istore (lv' := [(7, .int y0), (0, .ref (za E 6)), (1, .int x1), (2, .int x2), (3, .int x3), (4, .int x4), (5, .int x5), (6, .int x6), (8, .int x8), (9, .int x9)]) dX1_checkBranches_235 (by decide) rfl ?_
  refine z_sub [1, 2, 3, 4, 5, 6, 7, 0, 8, 9] rfl ?_
  exact wbX1_checkBranches_237 hf hg k57 hk57 x1 x2 x3 x4 x5 x6 y0 x8 x9 _ hF
set_option maxHeartbeats 4000000 in
set_option maxRecDepth 20000 in
theorem wbX1_checkBranches_234 {E : zE} {C : zC} {f : Nat} {ro : Int32 × zS} (hf : 6 ≤ f) {g : GgX1_checkBlock} (hg : HgX1_checkBlock E (f - 1) g) (k57 : Int32 → Int32 → Int32 → Int32 → Int32 → Int32 → Int32 → Int32 → Int32 → zS → zR) (hk57 : ∀ (x1 x2 x3 x4 x5 x6 x7 x8 x9 : Int32) (t : zS), k57 x1 x2 x3 x4 x5 x6 x7 x8 x9 t = some ro → zJ E shC C cX1_checkBranches RX1 12 f (some .boolean) ro t 57 [(0, .ref (za E 6)), (1, .int x1), (2, .int x2), (3, .int x3), (4, .int x4), (5, .int x5), (6, .int x6), (7, .int x7), (8, .int x8), (9, .int x9)] []) (x1 : Int32) (x2 : Int32) (x3 : Int32) (x4 : Int32) (x5 : Int32) (x6 : Int32) (x8 : Int32) (x9 : Int32) (t : zS) (hF : bX1_checkBranches_234 g k57 x1 x2 x3 x4 x5 x6 x8 x9 t = some ro) : zJ E shC C cX1_checkBranches RX1 12 f (some .boolean) ro t 234 [(0, .ref (za E 6)), (1, .int x1), (2, .int x2), (3, .int x3), (4, .int x4), (5, .int x5), (6, .int x6), (8, .int x8), (9, .int x9)] [] := by
  unfold bX1_checkBranches_234 at hF
  refine z_iconst (v := 0) dX1_checkBranches_234 (by decide) ?_
  exact wbX1_checkBranches_235 hf hg k57 hk57 x1 x2 x3 x4 x5 x6 x8 x9 0 _ hF
set_option maxHeartbeats 4000000 in
set_option maxRecDepth 20000 in
theorem wbX1_checkBranches_211 {E : zE} {C : zC} {f : Nat} {ro : Int32 × zS} (hf : 6 ≤ f) {g : GgX1_checkBlock} (hg : HgX1_checkBlock E (f - 1) g) (k57 : Int32 → Int32 → Int32 → Int32 → Int32 → Int32 → Int32 → Int32 → Int32 → zS → zR) (hk57 : ∀ (x1 x2 x3 x4 x5 x6 x7 x8 x9 : Int32) (t : zS), k57 x1 x2 x3 x4 x5 x6 x7 x8 x9 t = some ro → zJ E shC C cX1_checkBranches RX1 12 f (some .boolean) ro t 57 [(0, .ref (za E 6)), (1, .int x1), (2, .int x2), (3, .int x3), (4, .int x4), (5, .int x5), (6, .int x6), (7, .int x7), (8, .int x8), (9, .int x9)] []) (x1 : Int32) (x2 : Int32) (x3 : Int32) (x4 : Int32) (x5 : Int32) (x6 : Int32) (x7 : Int32) (x8 : Int32) (x9 : Int32) (x10 : Int32) (t : zS) (hF : bX1_checkBranches_211 g k57 x1 x2 x3 x4 x5 x6 x7 x8 x9 x10 t = some ro) : zJ E shC C cX1_checkBranches RX1 12 f (some .boolean) ro t 211 [(0, .ref (za E 6)), (1, .int x1), (2, .int x2), (3, .int x3), (4, .int x4), (5, .int x5), (6, .int x6), (7, .int x7), (8, .int x8), (9, .int x9), (10, .int x10)] [] := by
  unfold bX1_checkBranches_211 at hF
  refine z_iload 10 dX1_checkBranches_211 rfl ?_
  refine z_if_ne (tgt := 237) dX1_checkBranches_213 (by decide) (fun hc => ?_) (fun hc => ?_)
  · have hF := zif_f hc hF
    refine z_sub [0, 1, 2, 3, 4, 5, 6, 7, 8, 9] rfl ?_
    exact wbX1_checkBranches_237 hf hg k57 hk57 x1 x2 x3 x4 x5 x6 x7 x8 x9 _ hF
  · have hF := zif_t hc hF
    refine z_iload 7 dX1_checkBranches_216 rfl ?_
    refine z_if_eq (tgt := 234) dX1_checkBranches_218 (by decide) (fun hc => ?_) (fun hc => ?_)
    · have hF := zif_t hc hF
      refine z_sub [0, 1, 2, 3, 4, 5, 6, 8, 9] rfl ?_
      exact wbX1_checkBranches_234 hf hg k57 hk57 x1 x2 x3 x4 x5 x6 x8 x9 _ hF
    · have hF := zif_f hc hF
      refine z_aload_n 0 dX1_checkBranches_221 rfl rfl ?_
      refine z_iload 5 dX1_checkBranches_222 rfl ?_
      obtain ⟨r1524, t1525, hc1526, hF⟩ := zbd_at hF
      refine z_callVi (ctX1_isSame (E := E) (f := f - 1) (by omega) hc1526) yy_X1_isSame yv_X1_isSame ob_C_6 lk_RX1_201 (by omega) rfl rfl (Nat.le_of_ble_eq_true rfl) dX1_checkBranches_224 ?_
      refine z_if_eq (tgt := 234) dX1_checkBranches_227 (by decide) (fun hc => ?_) (fun hc => ?_)
      · have hF := zif_t hc hF
        refine z_sub [0, 1, 2, 3, 4, 5, 6, 8, 9] rfl ?_
        exact wbX1_checkBranches_234 hf hg k57 hk57 x1 x2 x3 x4 x5 x6 x8 x9 _ hF
      · have hF := zif_f hc hF
        refine z_iconst (v := 1) dX1_checkBranches_230 (by decide) ?_
        refine z_goto (tgt := 235) dX1_checkBranches_231 (by decide) ?_
        refine z_sub [0, 1, 2, 3, 4, 5, 6, 8, 9] rfl ?_
        exact wbX1_checkBranches_235 hf hg k57 hk57 x1 x2 x3 x4 x5 x6 x8 x9 1 _ hF
set_option maxHeartbeats 4000000 in
set_option maxRecDepth 20000 in
theorem wbX1_checkBranches_151 {E : zE} {C : zC} {f : Nat} {ro : Int32 × zS} (hf : 6 ≤ f) {g : GgX1_checkBlock} (hg : HgX1_checkBlock E (f - 1) g) (k57 : Int32 → Int32 → Int32 → Int32 → Int32 → Int32 → Int32 → Int32 → Int32 → zS → zR) (hk57 : ∀ (x1 x2 x3 x4 x5 x6 x7 x8 x9 : Int32) (t : zS), k57 x1 x2 x3 x4 x5 x6 x7 x8 x9 t = some ro → zJ E shC C cX1_checkBranches RX1 12 f (some .boolean) ro t 57 [(0, .ref (za E 6)), (1, .int x1), (2, .int x2), (3, .int x3), (4, .int x4), (5, .int x5), (6, .int x6), (7, .int x7), (8, .int x8), (9, .int x9)] []) (x1 : Int32) (x2 : Int32) (x3 : Int32) (x4 : Int32) (x5 : Int32) (x6 : Int32) (x7 : Int32) (x8 : Int32) (x9 : Int32) (t : zS) (hF : bX1_checkBranches_151 g k57 x1 x2 x3 x4 x5 x6 x7 x8 x9 t = some ro) : zJ E shC C cX1_checkBranches RX1 12 f (some .boolean) ro t 151 [(0, .ref (za E 6)), (1, .int x1), (2, .int x2), (3, .int x3), (4, .int x4), (5, .int x5), (6, .int x6), (7, .int x7), (8, .int x8), (9, .int x9)] [] := by
  unfold bX1_checkBranches_151 at hF
  refine z_aload_n 0 dX1_checkBranches_151 rfl rfl ?_
  refine z_aload_n 0 dX1_checkBranches_152 rfl rfl ?_
  refine z_getr fr_RX1_29 dX1_checkBranches_153 ?_
  refine z_getr fr_RX1_198 dX1_checkBranches_156 ?_
  refine z_iload 8 dX1_checkBranches_159 rfl ?_
  obtain ⟨r1527, t1528, hc1529, hF⟩ := zbd_at hF
  refine z_callVi (ctX5_get (E := E) (sh := shC) (f := f - 1) (by omega) (k := 110) (n := 1600) rfl rfl hc1529) yy_X5_get yv_X5_get ob_C_110 lk_RX1_46 (by omega) rfl rfl (Nat.le_of_ble_eq_true rfl) dX1_checkBranches_161 ?_
  refine z_iload_n 2 dX1_checkBranches_164 rfl rfl ?_
  refine z_iconst (v := 1) dX1_checkBranches_165 (by decide) ?_
  refine z_iadd dX1_checkBranches_166 ?_
  obtain ⟨r1530, t1531, hc1532, hF⟩ := zbd_at hF
  refine z_callVi (z_hgX1_checkBlock hg hc1532) yy_X1_checkBlock yv_X1_checkBlock ob_C_6 lk_RX1_69 (by omega) rfl rfl (Nat.le_of_ble_eq_true rfl) dX1_checkBranches_167 ?_
  refine z_istore (lv' := [(10, .int r1530), (0, .ref (za E 6)), (1, .int x1), (2, .int x2), (3, .int x3), (4, .int x4), (5, .int x5), (6, .int x6), (7, .int x7), (8, .int x8), (9, .int x9)]) dX1_checkBranches_170 (by decide) rfl ?_
  refine z_aload_n 1 dX1_checkBranches_172 rfl rfl ?_
  refine z_geti fi_RX1_37 dX1_checkBranches_173 ?_
  refine z_if_lt (tgt := 181) dX1_checkBranches_176 (by decide) (fun hc => ?_) (fun hc => ?_)
  · have hF := zif_t hc hF
    refine z_iload 0 dX1_checkBranches_181 rfl ?_
    refine z_if_ne (tgt := 211) dX1_checkBranches_183 (by decide) (fun hc => ?_) (fun hc => ?_)
    · have hF := zif_f hc hF
      refine z_sub [1, 2, 3, 4, 5, 6, 7, 8, 9, 10, 0] rfl ?_
      exact wbX1_checkBranches_211 hf hg k57 hk57 x1 x2 x3 x4 x5 x6 x7 x8 x9 r1530 _ hF
    · have hF := zif_t hc hF
      refine z_iload 7 dX1_checkBranches_186 rfl ?_
      refine z_if_eq (tgt := 211) dX1_checkBranches_188 (by decide) (fun hc => ?_) (fun hc => ?_)
      · have hF := zif_t hc hF
        refine z_sub [1, 2, 3, 4, 5, 6, 7, 8, 9, 10, 0] rfl ?_
        exact wbX1_checkBranches_211 hf hg k57 hk57 x1 x2 x3 x4 x5 x6 x7 x8 x9 r1530 _ hF
      · have hF := zif_f hc hF
        refine z_iconst (v := 0) dX1_checkBranches_191 (by decide) ?_
        refine z_istore (lv' := [(6, .int 0), (10, .int r1530), (0, .ref (za E 6)), (1, .int x1), (2, .int x2), (3, .int x3), (4, .int x4), (5, .int x5), (7, .int x7), (8, .int x8), (9, .int x9)]) dX1_checkBranches_192 (by decide) rfl ?_
        refine z_aload_n 2 dX1_checkBranches_194 rfl rfl ?_
        refine z_getr fr_RX1_15 dX1_checkBranches_195 ?_
        refine z_iconst (v := 0) dX1_checkBranches_198 (by decide) ?_
        refine z_iload 7 dX1_checkBranches_199 rfl ?_
        refine z_aload_n 2 dX1_checkBranches_201 rfl rfl ?_
        refine z_geti fi_RX1_50 dX1_checkBranches_202 ?_
        obtain ⟨r1533, t1534, hc1535, hF⟩ := zbd_at hF
        refine z_callVv (ctX5_copy (E := E) (sh := shC) (f := f - 1) (by omega) (k := 57) (n := 80000) rfl rfl hc1535) yy_X5_copy yv_X5_copy ob_C_57 lk_RX1_192 (by omega) rfl rfl (Nat.le_of_ble_eq_true rfl) dX1_checkBranches_205 ?_
        refine z_goto (tgt := 237) dX1_checkBranches_208 (by decide) ?_
        refine z_sub [2, 3, 4, 5, 6, 7, 0, 8, 9, 10] rfl ?_
        exact wbX1_checkBranches_237 hf hg k57 hk57 x1 x2 x3 x4 x5 0 x7 x8 x9 _ hF
  · have hF := zif_f hc hF
    refine z_iconst (v := 0) dX1_checkBranches_179 (by decide) ?_
    exact z_zret hF (by decide) dX1_checkBranches_180
set_option maxHeartbeats 4000000 in
set_option maxRecDepth 20000 in
theorem wbX1_checkBranches_283 {E : zE} {C : zC} {f : Nat} {ro : Int32 × zS} (hf : 6 ≤ f) {g : GgX1_checkBlock} (hg : HgX1_checkBlock E (f - 1) g) (x6 : Int32) (y0 : Int32) (t : zS) (hF : bX1_checkBranches_283 g x6 y0 t = some ro) : zJ E shC C cX1_checkBranches RX1 12 f (some .boolean) ro t 283 [(0, .ref (za E 6)), (6, .int x6)] [.int y0, .ref (za E 57)] := by
  unfold bX1_checkBranches_283 at hF
  refine z_iconst (v := 0) dX1_checkBranches_283 (by decide) ?_
  refine z_aload_n 0 dX1_checkBranches_284 rfl rfl ?_
  refine z_geti fi_RX1_50 dX1_checkBranches_285 ?_
  obtain ⟨r1536, t1537, hc1538, hF⟩ := zbd_at hF
  refine z_callVv (ctX5_copy (E := E) (sh := shC) (f := f - 1) (by omega) (k := 57) (n := 80000) rfl rfl hc1538) yy_X5_copy yv_X5_copy ob_C_57 lk_RX1_192 (by omega) rfl rfl (Nat.le_of_ble_eq_true rfl) dX1_checkBranches_288 ?_
  refine z_iload 1 dX1_checkBranches_291 rfl ?_
  obtain ⟨hz1539, hF⟩ := z01_at hF
  exact z_zret hF hz1539 dX1_checkBranches_293
set_option maxHeartbeats 4000000 in
set_option maxRecDepth 20000 in
theorem wbX1_checkBranches_267 {E : zE} {C : zC} {f : Nat} {ro : Int32 × zS} (hf : 6 ≤ f) {g : GgX1_checkBlock} (hg : HgX1_checkBlock E (f - 1) g) (x4 : Int32) (x5 : Int32) (x6 : Int32) (t : zS) (hF : bX1_checkBranches_267 g x4 x5 x6 t = some ro) : zJ E shC C cX1_checkBranches RX1 12 f (some .boolean) ro t 267 [(0, .ref (za E 6)), (4, .int x4), (5, .int x5), (6, .int x6)] [] := by
  unfold bX1_checkBranches_267 at hF
  refine z_aload_n 0 dX1_checkBranches_267 rfl rfl ?_
  refine z_getr fr_RX1_15 dX1_checkBranches_268 ?_
  refine z_iload 3 dX1_checkBranches_271 rfl ?_
  refine z_if_eq (tgt := 281) dX1_checkBranches_273 (by decide) (fun hc => ?_) (fun hc => ?_)
  · have hF := zif_t hc hF
    refine z_iload 2 dX1_checkBranches_281 rfl ?_
    refine z_sub [0, 3] rfl ?_
    exact wbX1_checkBranches_283 hf hg x6 x5 _ hF
  · have hF := zif_f hc hF
    refine z_iload 1 dX1_checkBranches_276 rfl ?_
    refine z_goto (tgt := 283) dX1_checkBranches_278 (by decide) ?_
    refine z_sub [0, 3] rfl ?_
    exact wbX1_checkBranches_283 hf hg x6 x4 _ hF
set_option maxHeartbeats 4000000 in
set_option maxRecDepth 20000 in
theorem wbX1_checkBranches_257 {E : zE} {C : zC} {f : Nat} {ro : Int32 × zS} (hf : 6 ≤ f) {g : GgX1_checkBlock} (hg : HgX1_checkBlock E (f - 1) g) (x1 : Int32) (x4 : Int32) (x5 : Int32) (x6 : Int32) (x7 : Int32) (t : zS) (hF : bX1_checkBranches_257 g x1 x4 x5 x6 x7 t = some ro) : zJ E shC C cX1_checkBranches RX1 12 f (some .boolean) ro t 257 [(0, .ref (za E 6)), (1, .int x1), (4, .int x4), (5, .int x5), (6, .int x6), (7, .int x7)] [] := by
  unfold bX1_checkBranches_257 at hF
  refine z_iload 5 dX1_checkBranches_257 rfl ?_
  refine z_if_ne (tgt := 267) dX1_checkBranches_259 (by decide) (fun hc => ?_) (fun hc => ?_)
  · have hF := zif_f hc hF
    refine z_sub [0, 2, 3, 4] rfl ?_
    exact wbX1_checkBranches_267 hf hg x4 x5 x6 _ hF
  · have hF := zif_t hc hF
    refine z_aload_n 0 dX1_checkBranches_262 rfl rfl ?_
    refine z_iload_n 1 dX1_checkBranches_263 rfl rfl ?_
    obtain ⟨r1540, t1541, hc1542, hF⟩ := zbd_at hF
    refine z_callVv (ctX1_fail (E := E) (f := f - 1) (by omega) hc1542) yy_X1_fail yv_X1_fail ob_C_6 lk_RX1_106 (by omega) rfl rfl (Nat.le_of_ble_eq_true rfl) dX1_checkBranches_264 ?_
    refine z_sub [0, 2, 3, 4] rfl ?_
    exact wbX1_checkBranches_267 hf hg x4 x5 x6 _ hF
set_option maxHeartbeats 4000000 in
set_option maxRecDepth 20000 in
theorem wbX1_checkBranches_57 {E : zE} {C : zC} {f : Nat} {ro : Int32 × zS} (hf : 6 ≤ f) {g : GgX1_checkBlock} (hg : HgX1_checkBlock E (f - 1) g) (k57 : Int32 → Int32 → Int32 → Int32 → Int32 → Int32 → Int32 → Int32 → Int32 → zS → zR) (hk57 : ∀ (x1 x2 x3 x4 x5 x6 x7 x8 x9 : Int32) (t : zS), k57 x1 x2 x3 x4 x5 x6 x7 x8 x9 t = some ro → zJ E shC C cX1_checkBranches RX1 12 f (some .boolean) ro t 57 [(0, .ref (za E 6)), (1, .int x1), (2, .int x2), (3, .int x3), (4, .int x4), (5, .int x5), (6, .int x6), (7, .int x7), (8, .int x8), (9, .int x9)] []) (x1 : Int32) (x2 : Int32) (x3 : Int32) (x4 : Int32) (x5 : Int32) (x6 : Int32) (x7 : Int32) (x8 : Int32) (x9 : Int32) (t : zS) (hF : bX1_checkBranches_57 g k57 x1 x2 x3 x4 x5 x6 x7 x8 x9 t = some ro) : zJ E shC C cX1_checkBranches RX1 12 f (some .boolean) ro t 57 [(0, .ref (za E 6)), (1, .int x1), (2, .int x2), (3, .int x3), (4, .int x4), (5, .int x5), (6, .int x6), (7, .int x7), (8, .int x8), (9, .int x9)] [] := by
  unfold bX1_checkBranches_57 at hF
  refine z_iload 9 dX1_checkBranches_57 rfl ?_
  refine z_sipush (v := 1600) dX1_checkBranches_59 (by decide) ?_
  refine z_icmp_ge (tgt := 257) dX1_checkBranches_62 (by decide) (fun hc => ?_) (fun hc => ?_)
  · have hF := zif_t hc hF
    refine z_sub [0, 1, 4, 5, 6, 7] rfl ?_
    exact wbX1_checkBranches_257 hf hg x1 x4 x5 x6 x7 _ hF
  · have hF := zif_f hc hF
    refine z_iload 8 dX1_checkBranches_65 rfl ?_
    refine z_if_lt (tgt := 257) dX1_checkBranches_67 (by decide) (fun hc => ?_) (fun hc => ?_)
    · have hF := zif_t hc hF
      refine z_sub [0, 1, 4, 5, 6, 7] rfl ?_
      exact wbX1_checkBranches_257 hf hg x1 x4 x5 x6 x7 _ hF
    · have hF := zif_f hc hF
      refine z_aload_n 0 dX1_checkBranches_70 rfl rfl ?_
      refine z_getr fr_RX1_15 dX1_checkBranches_71 ?_
      refine z_iload 4 dX1_checkBranches_74 rfl ?_
      refine z_iconst (v := 0) dX1_checkBranches_76 (by decide) ?_
      refine z_aload_n 0 dX1_checkBranches_77 rfl rfl ?_
      refine z_geti fi_RX1_50 dX1_checkBranches_78 ?_
      obtain ⟨r1543, t1544, hc1545, hF⟩ := zbd_at hF
      refine z_callVv (ctX5_copy (E := E) (sh := shC) (f := f - 1) (by omega) (k := 57) (n := 80000) rfl rfl hc1545) yy_X5_copy yv_X5_copy ob_C_57 lk_RX1_192 (by omega) rfl rfl (Nat.le_of_ble_eq_true rfl) dX1_checkBranches_81 ?_
      refine z_iload_n 3 dX1_checkBranches_84 rfl rfl ?_
      refine z_if_eq (tgt := 151) dX1_checkBranches_85 (by decide) (fun hc => ?_) (fun hc => ?_)
      · have hF := zif_t hc hF
        exact wbX1_checkBranches_151 hf hg k57 hk57 x1 x2 x3 x4 x5 x6 x7 x8 x9 _ hF
      · have hF := zif_f hc hF
        refine z_aload_n 0 dX1_checkBranches_88 rfl rfl ?_
        refine z_getr fr_RX1_29 dX1_checkBranches_89 ?_
        refine z_getr fr_RX1_147 dX1_checkBranches_92 ?_
        refine z_iload_n 1 dX1_checkBranches_95 rfl rfl ?_
        obtain ⟨r1546, t1547, hc1548, hF⟩ := zbd_at hF
        refine z_callVi (ctX5_get (E := E) (sh := shC) (f := f - 1) (by omega) (k := 90) (n := 1000) rfl rfl hc1548) yy_X5_get yv_X5_get ob_C_90 lk_RX1_46 (by omega) rfl rfl (Nat.le_of_ble_eq_true rfl) dX1_checkBranches_96 ?_
        refine z_istore (lv' := [(10, .int r1546), (0, .ref (za E 6)), (1, .int x1), (2, .int x2), (3, .int x3), (4, .int x4), (5, .int x5), (6, .int x6), (7, .int x7), (8, .int x8), (9, .int x9)]) dX1_checkBranches_99 (by decide) rfl ?_
        refine z_aload_n 1 dX1_checkBranches_101 rfl rfl ?_
        refine z_getr fr_RX1_21 dX1_checkBranches_102 ?_
        refine z_aload_n 1 dX1_checkBranches_105 rfl rfl ?_
        refine z_getr fr_RX1_15 dX1_checkBranches_106 ?_
        refine z_iload 0 dX1_checkBranches_109 rfl ?_
        obtain ⟨r1549, t1550, hc1551, hF⟩ := zbd_at hF
        refine z_callVi (ctX5_get (E := E) (sh := shC) (f := f - 1) (by omega) (k := 57) (n := 80000) rfl rfl hc1551) yy_X5_get yv_X5_get ob_C_57 lk_RX1_46 (by omega) rfl rfl (Nat.le_of_ble_eq_true rfl) dX1_checkBranches_111 ?_
        refine z_aload_n 1 dX1_checkBranches_114 rfl rfl ?_
        refine z_getr fr_RX1_29 dX1_checkBranches_115 ?_
        refine z_getr fr_RX1_171 dX1_checkBranches_118 ?_
        refine z_iload 9 dX1_checkBranches_121 rfl ?_
        obtain ⟨r1552, t1553, hc1554, hF⟩ := zbd_at hF
        refine z_callVi (ctX5_get (E := E) (sh := shC) (f := f - 1) (by omega) (k := 108) (n := 1600) rfl rfl hc1554) yy_X5_get yv_X5_get ob_C_108 lk_RX1_46 (by omega) rfl rfl (Nat.le_of_ble_eq_true rfl) dX1_checkBranches_123 ?_
        obtain ⟨r1555, t1556, hc1557, hF⟩ := zbd_at hF
        refine z_callVi (ctX2_byLabel (E := E) (f := f - 1) (by omega) hc1557) yy_X2_byLabel yv_X2_byLabel ob_C_3 lk_RX1_162 (by omega) rfl rfl (Nat.le_of_ble_eq_true rfl) dX1_checkBranches_126 ?_
        refine z_istore (lv' := [(11, .int r1555), (10, .int r1546), (0, .ref (za E 6)), (1, .int x1), (2, .int x2), (3, .int x3), (4, .int x4), (5, .int x5), (6, .int x6), (7, .int x7), (8, .int x8), (9, .int x9)]) dX1_checkBranches_129 (by decide) rfl ?_
        refine z_aload_n 2 dX1_checkBranches_131 rfl rfl ?_
        refine z_getr fr_RX1_29 dX1_checkBranches_132 ?_
        refine z_getr fr_RX1_195 dX1_checkBranches_135 ?_
        refine z_iload 10 dX1_checkBranches_138 rfl ?_
        refine z_aload_n 2 dX1_checkBranches_140 rfl rfl ?_
        refine z_iload 1 dX1_checkBranches_141 rfl ?_
        refine z_iload 0 dX1_checkBranches_143 rfl ?_
        obtain ⟨r1558, t1559, hc1560, hF⟩ := zbd_at hF
        refine z_callVi (ctX1_hold (E := E) (f := f - 1) (by omega) hc1560) yy_X1_hold yv_X1_hold ob_C_6 lk_RX1_63 (by omega) rfl rfl (Nat.le_of_ble_eq_true rfl) dX1_checkBranches_145 ?_
        obtain ⟨r1561, t1562, hc1563, hF⟩ := zbd_at hF
        refine z_callVv (ctX5_set (E := E) (sh := shC) (f := f - 1) (by omega) (k := 112) (n := 1600) rfl rfl hc1563) yy_X5_set yv_X5_set ob_C_112 lk_RX1_88 (by omega) rfl rfl (Nat.le_of_ble_eq_true rfl) dX1_checkBranches_148 ?_
        refine z_sub [2, 3, 4, 5, 6, 7, 8, 9, 10, 11] rfl ?_
        exact wbX1_checkBranches_151 hf hg k57 hk57 x1 x2 x3 x4 x5 x6 x7 x8 x9 _ hF
set_option maxHeartbeats 4000000 in
set_option maxRecDepth 20000 in
theorem wlX1_checkBranches_57 {E : zE} {C : zC} {f : Nat} {ro : Int32 × zS} (hf : 6 ≤ f) {g : GgX1_checkBlock} (hg : HgX1_checkBlock E (f - 1) g) (fu : Nat) : ∀ (x1 x2 x3 x4 x5 x6 x7 x8 x9 : Int32) (t : zS), lX1_checkBranches_57 g fu x1 x2 x3 x4 x5 x6 x7 x8 x9 t = some ro → zJ E shC C cX1_checkBranches RX1 12 f (some .boolean) ro t 57 [(0, .ref (za E 6)), (1, .int x1), (2, .int x2), (3, .int x3), (4, .int x4), (5, .int x5), (6, .int x6), (7, .int x7), (8, .int x8), (9, .int x9)] [] := by
  induction fu with
  | zero => intro x1 x2 x3 x4 x5 x6 x7 x8 x9 t hF; cases hF
  | succ fu ih => intro x1 x2 x3 x4 x5 x6 x7 x8 x9 t hF; exact wbX1_checkBranches_57 hf hg (lX1_checkBranches_57 g fu) ih x1 x2 x3 x4 x5 x6 x7 x8 x9 t hF
set_option maxHeartbeats 4000000 in
set_option maxRecDepth 20000 in
theorem ctX1_checkBranches {E : zE} {f : Nat} (hf : 6 ≤ f) {g : GgX1_checkBlock} (hg : HgX1_checkBlock E (f - 1) g) {x1 : Int32} {x2 : Int32} {x3 : Int32} {t : zS} {ro : Int32 × zS} (hF : mX1_checkBranches g x1 x2 x3 t = some ro) : zM E shC f yX1_checkBranches cX1_checkBranches 12 (some .boolean) [.ref (za E 6), .int x1, .int x2, .int x3] t ro := by
  refine zM_of (by decide) (Nat.le_of_ble_eq_true rfl) (fun C => ?_)
  show zJ E shC C cX1_checkBranches RX1 12 f (some .boolean) ro t 0 [(0, .ref (za E 6)), (1, .int x1), (2, .int x2), (3, .int x3)] []
  unfold mX1_checkBranches at hF
  refine z_aload_n 0 dX1_checkBranches_0 rfl rfl ?_
  refine z_geti fi_RX1_50 dX1_checkBranches_1 ?_
  refine z_iconst (v := 1) dX1_checkBranches_4 (by decide) ?_
  refine z_iconst (v := 2) dX1_checkBranches_5 (by decide) ?_
  refine z_iload_n 2 dX1_checkBranches_6 rfl rfl ?_
  refine z_imul dX1_checkBranches_7 ?_
  refine z_iadd dX1_checkBranches_8 ?_
  refine z_imul dX1_checkBranches_9 ?_
  refine z_topi (fun v1564 ev1564 => ?_)
  have hF := zlet_at ev1564 hF
  refine z_istore (lv' := [(4, .int v1564), (0, .ref (za E 6)), (1, .int x1), (2, .int x2), (3, .int x3)]) dX1_checkBranches_10 (by decide) rfl ?_
  refine z_iload 0 dX1_checkBranches_12 rfl ?_
  refine z_aload_n 1 dX1_checkBranches_14 rfl rfl ?_
  refine z_geti fi_RX1_50 dX1_checkBranches_15 ?_
  refine z_iadd dX1_checkBranches_18 ?_
  refine z_topi (fun v1565 ev1565 => ?_)
  have hF := zlet_at ev1565 hF
  refine z_istore (lv' := [(5, .int v1565), (4, .int v1564), (0, .ref (za E 6)), (1, .int x1), (2, .int x2), (3, .int x3)]) dX1_checkBranches_19 (by decide) rfl ?_
  refine z_iconst (v := 1) dX1_checkBranches_21 (by decide) ?_
  refine z_istore (lv' := [(6, .int 1), (5, .int v1565), (4, .int v1564), (0, .ref (za E 6)), (1, .int x1), (2, .int x2), (3, .int x3)]) dX1_checkBranches_22 (by decide) rfl ?_
  refine z_iconst (v := 1) dX1_checkBranches_24 (by decide) ?_
  refine z_istore (lv' := [(7, .int 1), (6, .int 1), (5, .int v1565), (4, .int v1564), (0, .ref (za E 6)), (1, .int x1), (2, .int x2), (3, .int x3)]) dX1_checkBranches_25 (by decide) rfl ?_
  refine z_aload_n 4 dX1_checkBranches_27 rfl rfl ?_
  refine z_getr fr_RX1_15 dX1_checkBranches_28 ?_
  refine z_iconst (v := 0) dX1_checkBranches_31 (by decide) ?_
  refine z_iload 3 dX1_checkBranches_32 rfl ?_
  refine z_aload_n 4 dX1_checkBranches_34 rfl rfl ?_
  refine z_geti fi_RX1_50 dX1_checkBranches_35 ?_
  obtain ⟨r1566, t1567, hc1568, hF⟩ := zbd_at hF
  refine z_callVv (ctX5_copy (E := E) (sh := shC) (f := f - 1) (by omega) (k := 57) (n := 80000) rfl rfl hc1568) yy_X5_copy yv_X5_copy ob_C_57 lk_RX1_192 (by omega) rfl rfl (Nat.le_of_ble_eq_true rfl) dX1_checkBranches_38 ?_
  refine z_aload_n 4 dX1_checkBranches_41 rfl rfl ?_
  refine z_getr fr_RX1_29 dX1_checkBranches_42 ?_
  refine z_getr fr_RX1_168 dX1_checkBranches_45 ?_
  refine z_iload_n 5 dX1_checkBranches_48 rfl rfl ?_
  obtain ⟨r1569, t1570, hc1571, hF⟩ := zbd_at hF
  refine z_callVi (ctX5_get (E := E) (sh := shC) (f := f - 1) (by omega) (k := 104) (n := 1000) rfl rfl hc1571) yy_X5_get yv_X5_get ob_C_104 lk_RX1_46 (by omega) rfl rfl (Nat.le_of_ble_eq_true rfl) dX1_checkBranches_49 ?_
  refine z_istore (lv' := [(8, .int r1569), (7, .int 1), (6, .int 1), (5, .int v1565), (4, .int v1564), (0, .ref (za E 6)), (1, .int x1), (2, .int x2), (3, .int x3)]) dX1_checkBranches_52 (by decide) rfl ?_
  refine z_iconst (v := 0) dX1_checkBranches_54 (by decide) ?_
  refine z_istore (lv' := [(9, .int 0), (8, .int r1569), (7, .int 1), (6, .int 1), (5, .int v1565), (4, .int v1564), (0, .ref (za E 6)), (1, .int x1), (2, .int x2), (3, .int x3)]) dX1_checkBranches_55 (by decide) rfl ?_
  refine z_sub [6, 7, 8, 9, 5, 4, 3, 2, 1, 0] rfl ?_
  exact wlX1_checkBranches_57 hf hg zFU x1 x2 x3 v1564 v1565 1 1 r1569 0 _ hF
-- SessionHouse$Checker.checkRound(II)V
theorem dX1_checkRound_0 : decode cX1_checkRound 0 = .ok (.aload_n 0, 1) := by decide +kernel
theorem dX1_checkRound_1 : decode cX1_checkRound 1 = .ok (.getfield 50, 3) := by decide +kernel
theorem dX1_checkRound_4 : decode cX1_checkRound 4 = .ok (.iconst 1, 1) := by decide +kernel
theorem dX1_checkRound_5 : decode cX1_checkRound 5 = .ok (.iconst 2, 1) := by decide +kernel
theorem dX1_checkRound_6 : decode cX1_checkRound 6 = .ok (.iload_n 2, 1) := by decide +kernel
theorem dX1_checkRound_7 : decode cX1_checkRound 7 = .ok (.imul, 1) := by decide +kernel
theorem dX1_checkRound_8 : decode cX1_checkRound 8 = .ok (.iadd, 1) := by decide +kernel
theorem dX1_checkRound_9 : decode cX1_checkRound 9 = .ok (.imul, 1) := by decide +kernel
theorem dX1_checkRound_10 : decode cX1_checkRound 10 = .ok (.istore_n 3, 1) := by decide +kernel
theorem dX1_checkRound_11 : decode cX1_checkRound 11 = .ok (.aload_n 0, 1) := by decide +kernel
theorem dX1_checkRound_12 : decode cX1_checkRound 12 = .ok (.getfield 15, 3) := by decide +kernel
theorem dX1_checkRound_15 : decode cX1_checkRound 15 = .ok (.iconst 0, 1) := by decide +kernel
theorem dX1_checkRound_16 : decode cX1_checkRound 16 = .ok (.iload_n 3, 1) := by decide +kernel
theorem dX1_checkRound_17 : decode cX1_checkRound 17 = .ok (.aload_n 0, 1) := by decide +kernel
theorem dX1_checkRound_18 : decode cX1_checkRound 18 = .ok (.getfield 50, 3) := by decide +kernel
theorem dX1_checkRound_21 : decode cX1_checkRound 21 = .ok (.invokevirtual 192, 3) := by decide +kernel
theorem dX1_checkRound_24 : decode cX1_checkRound 24 = .ok (.aload_n 0, 1) := by decide +kernel
theorem dX1_checkRound_25 : decode cX1_checkRound 25 = .ok (.aload_n 0, 1) := by decide +kernel
theorem dX1_checkRound_26 : decode cX1_checkRound 26 = .ok (.getfield 29, 3) := by decide +kernel
theorem dX1_checkRound_29 : decode cX1_checkRound 29 = .ok (.getfield 198, 3) := by decide +kernel
theorem dX1_checkRound_32 : decode cX1_checkRound 32 = .ok (.aload_n 0, 1) := by decide +kernel
theorem dX1_checkRound_33 : decode cX1_checkRound 33 = .ok (.getfield 29, 3) := by decide +kernel
theorem dX1_checkRound_36 : decode cX1_checkRound 36 = .ok (.getfield 168, 3) := by decide +kernel
theorem dX1_checkRound_39 : decode cX1_checkRound 39 = .ok (.iload_n 1, 1) := by decide +kernel
theorem dX1_checkRound_40 : decode cX1_checkRound 40 = .ok (.invokevirtual 46, 3) := by decide +kernel
theorem dX1_checkRound_43 : decode cX1_checkRound 43 = .ok (.invokevirtual 46, 3) := by decide +kernel
theorem dX1_checkRound_46 : decode cX1_checkRound 46 = .ok (.iload_n 2, 1) := by decide +kernel
theorem dX1_checkRound_47 : decode cX1_checkRound 47 = .ok (.iconst 1, 1) := by decide +kernel
theorem dX1_checkRound_48 : decode cX1_checkRound 48 = .ok (.iadd, 1) := by decide +kernel
theorem dX1_checkRound_49 : decode cX1_checkRound 49 = .ok (.invokevirtual 69, 3) := by decide +kernel
theorem dX1_checkRound_52 : decode cX1_checkRound 52 = .ok (.istore 4, 2) := by decide +kernel
theorem dX1_checkRound_54 : decode cX1_checkRound 54 = .ok (.aload_n 0, 1) := by decide +kernel
theorem dX1_checkRound_55 : decode cX1_checkRound 55 = .ok (.getfield 37, 3) := by decide +kernel
theorem dX1_checkRound_58 : decode cX1_checkRound 58 = .ok (.ifCond .ge 21, 3) := by decide +kernel
theorem dX1_checkRound_61 : decode cX1_checkRound 61 = .ok (.iload 4, 2) := by decide +kernel
theorem dX1_checkRound_63 : decode cX1_checkRound 63 = .ok (.ifCond .ne 16, 3) := by decide +kernel
theorem dX1_checkRound_66 : decode cX1_checkRound 66 = .ok (.aload_n 0, 1) := by decide +kernel
theorem dX1_checkRound_67 : decode cX1_checkRound 67 = .ok (.iload_n 3, 1) := by decide +kernel
theorem dX1_checkRound_68 : decode cX1_checkRound 68 = .ok (.invokevirtual 201, 3) := by decide +kernel
theorem dX1_checkRound_71 : decode cX1_checkRound 71 = .ok (.ifCond .ne 8, 3) := by decide +kernel
theorem dX1_checkRound_74 : decode cX1_checkRound 74 = .ok (.aload_n 0, 1) := by decide +kernel
theorem dX1_checkRound_75 : decode cX1_checkRound 75 = .ok (.iload_n 1, 1) := by decide +kernel
theorem dX1_checkRound_76 : decode cX1_checkRound 76 = .ok (.invokevirtual 106, 3) := by decide +kernel
theorem dX1_checkRound_79 : decode cX1_checkRound 79 = .ok (.aload_n 0, 1) := by decide +kernel
theorem dX1_checkRound_80 : decode cX1_checkRound 80 = .ok (.getfield 15, 3) := by decide +kernel
theorem dX1_checkRound_83 : decode cX1_checkRound 83 = .ok (.iload_n 3, 1) := by decide +kernel
theorem dX1_checkRound_84 : decode cX1_checkRound 84 = .ok (.iconst 0, 1) := by decide +kernel
theorem dX1_checkRound_85 : decode cX1_checkRound 85 = .ok (.aload_n 0, 1) := by decide +kernel
theorem dX1_checkRound_86 : decode cX1_checkRound 86 = .ok (.getfield 50, 3) := by decide +kernel
theorem dX1_checkRound_89 : decode cX1_checkRound 89 = .ok (.invokevirtual 192, 3) := by decide +kernel
theorem dX1_checkRound_92 : decode cX1_checkRound 92 = .ok (.return_, 1) := by decide +kernel
def bX1_checkRound_79 (g : GgX1_checkBlock) (x3 : Int32) (t : zS) : zR := zbd (mX5_copy 57 80000 x3 0 (t 6 5) t) fun r1572 t1573 => some (0, t1573)
def mX1_checkRound (g : GgX1_checkBlock) (x1 : Int32) (x2 : Int32) (t : zS) : zR := zlet ((t 6 5) * (1 + (2 * x2))) fun v1575 => zbd (mX5_copy 57 80000 0 v1575 (t 6 5) t) fun r1576 t1577 => zbd (mX5_get 104 1000 x1 t1577) fun r1579 t1580 => zbd (mX5_get 110 1600 r1579 t1580) fun r1582 t1583 => zbd (g.1 r1582 (x2 + 1) t1583) fun r1585 t1586 => if 0 ≤ (t1586 6 6) then bX1_checkRound_79 g v1575 t1586 else if r1585 = 0 then zbd (mX1_isSame v1575 t1586) fun r1588 t1589 => if r1588 = 0 then zbd (mX1_fail x1 t1589) fun r1591 t1592 => bX1_checkRound_79 g v1575 t1592 else bX1_checkRound_79 g v1575 t1589 else bX1_checkRound_79 g v1575 t1586
set_option maxHeartbeats 4000000 in
set_option maxRecDepth 20000 in
theorem wbX1_checkRound_79 {E : zE} {C : zC} {f : Nat} {ro : Int32 × zS} (hf : 6 ≤ f) {g : GgX1_checkBlock} (hg : HgX1_checkBlock E (f - 1) g) (x3 : Int32) (t : zS) (hF : bX1_checkRound_79 g x3 t = some ro) : zJ E shC C cX1_checkRound RX1 5 f none ro t 79 [(0, .ref (za E 6)), (3, .int x3)] [] := by
  unfold bX1_checkRound_79 at hF
  refine z_aload_n 0 dX1_checkRound_79 rfl rfl ?_
  refine z_getr fr_RX1_15 dX1_checkRound_80 ?_
  refine z_iload_n 1 dX1_checkRound_83 rfl rfl ?_
  refine z_iconst (v := 0) dX1_checkRound_84 (by decide) ?_
  refine z_aload_n 0 dX1_checkRound_85 rfl rfl ?_
  refine z_geti fi_RX1_50 dX1_checkRound_86 ?_
  obtain ⟨r1572, t1573, hc1574, hF⟩ := zbd_at hF
  refine z_callVv (ctX5_copy (E := E) (sh := shC) (f := f - 1) (by omega) (k := 57) (n := 80000) rfl rfl hc1574) yy_X5_copy yv_X5_copy ob_C_57 lk_RX1_192 (by omega) rfl rfl (Nat.le_of_ble_eq_true rfl) dX1_checkRound_89 ?_
  exact z_vret hF dX1_checkRound_92
set_option maxHeartbeats 4000000 in
set_option maxRecDepth 20000 in
theorem ctX1_checkRound {E : zE} {f : Nat} (hf : 6 ≤ f) {g : GgX1_checkBlock} (hg : HgX1_checkBlock E (f - 1) g) {x1 : Int32} {x2 : Int32} {t : zS} {ro : Int32 × zS} (hF : mX1_checkRound g x1 x2 t = some ro) : zM E shC f yX1_checkRound cX1_checkRound 5 none [.ref (za E 6), .int x1, .int x2] t ro := by
  refine zM_of (by decide) (Nat.le_of_ble_eq_true rfl) (fun C => ?_)
  show zJ E shC C cX1_checkRound RX1 5 f none ro t 0 [(0, .ref (za E 6)), (1, .int x1), (2, .int x2)] []
  unfold mX1_checkRound at hF
  refine z_aload_n 0 dX1_checkRound_0 rfl rfl ?_
  refine z_geti fi_RX1_50 dX1_checkRound_1 ?_
  refine z_iconst (v := 1) dX1_checkRound_4 (by decide) ?_
  refine z_iconst (v := 2) dX1_checkRound_5 (by decide) ?_
  refine z_iload_n 2 dX1_checkRound_6 rfl rfl ?_
  refine z_imul dX1_checkRound_7 ?_
  refine z_iadd dX1_checkRound_8 ?_
  refine z_imul dX1_checkRound_9 ?_
  refine z_topi (fun v1575 ev1575 => ?_)
  have hF := zlet_at ev1575 hF
  refine z_istore_n (lv' := [(3, .int v1575), (0, .ref (za E 6)), (1, .int x1), (2, .int x2)]) dX1_checkRound_10 rfl (by decide) rfl ?_
  refine z_aload_n 1 dX1_checkRound_11 rfl rfl ?_
  refine z_getr fr_RX1_15 dX1_checkRound_12 ?_
  refine z_iconst (v := 0) dX1_checkRound_15 (by decide) ?_
  refine z_iload_n 0 dX1_checkRound_16 rfl rfl ?_
  refine z_aload_n 1 dX1_checkRound_17 rfl rfl ?_
  refine z_geti fi_RX1_50 dX1_checkRound_18 ?_
  obtain ⟨r1576, t1577, hc1578, hF⟩ := zbd_at hF
  refine z_callVv (ctX5_copy (E := E) (sh := shC) (f := f - 1) (by omega) (k := 57) (n := 80000) rfl rfl hc1578) yy_X5_copy yv_X5_copy ob_C_57 lk_RX1_192 (by omega) rfl rfl (Nat.le_of_ble_eq_true rfl) dX1_checkRound_21 ?_
  refine z_aload_n 1 dX1_checkRound_24 rfl rfl ?_
  refine z_aload_n 1 dX1_checkRound_25 rfl rfl ?_
  refine z_getr fr_RX1_29 dX1_checkRound_26 ?_
  refine z_getr fr_RX1_198 dX1_checkRound_29 ?_
  refine z_aload_n 1 dX1_checkRound_32 rfl rfl ?_
  refine z_getr fr_RX1_29 dX1_checkRound_33 ?_
  refine z_getr fr_RX1_168 dX1_checkRound_36 ?_
  refine z_iload_n 2 dX1_checkRound_39 rfl rfl ?_
  obtain ⟨r1579, t1580, hc1581, hF⟩ := zbd_at hF
  refine z_callVi (ctX5_get (E := E) (sh := shC) (f := f - 1) (by omega) (k := 104) (n := 1000) rfl rfl hc1581) yy_X5_get yv_X5_get ob_C_104 lk_RX1_46 (by omega) rfl rfl (Nat.le_of_ble_eq_true rfl) dX1_checkRound_40 ?_
  obtain ⟨r1582, t1583, hc1584, hF⟩ := zbd_at hF
  refine z_callVi (ctX5_get (E := E) (sh := shC) (f := f - 1) (by omega) (k := 110) (n := 1600) rfl rfl hc1584) yy_X5_get yv_X5_get ob_C_110 lk_RX1_46 (by omega) rfl rfl (Nat.le_of_ble_eq_true rfl) dX1_checkRound_43 ?_
  refine z_iload_n 3 dX1_checkRound_46 rfl rfl ?_
  refine z_iconst (v := 1) dX1_checkRound_47 (by decide) ?_
  refine z_iadd dX1_checkRound_48 ?_
  obtain ⟨r1585, t1586, hc1587, hF⟩ := zbd_at hF
  refine z_callVi (z_hgX1_checkBlock hg hc1587) yy_X1_checkBlock yv_X1_checkBlock ob_C_6 lk_RX1_69 (by omega) rfl rfl (Nat.le_of_ble_eq_true rfl) dX1_checkRound_49 ?_
  refine z_istore (lv' := [(4, .int r1585), (3, .int v1575), (0, .ref (za E 6)), (1, .int x1), (2, .int x2)]) dX1_checkRound_52 (by decide) rfl ?_
  refine z_aload_n 2 dX1_checkRound_54 rfl rfl ?_
  refine z_geti fi_RX1_37 dX1_checkRound_55 ?_
  refine z_if_ge (tgt := 79) dX1_checkRound_58 (by decide) (fun hc => ?_) (fun hc => ?_)
  · have hF := zif_t hc hF
    refine z_sub [2, 1] rfl ?_
    exact wbX1_checkRound_79 hf hg v1575 _ hF
  · have hF := zif_f hc hF
    refine z_iload 0 dX1_checkRound_61 rfl ?_
    refine z_if_ne (tgt := 79) dX1_checkRound_63 (by decide) (fun hc => ?_) (fun hc => ?_)
    · have hF := zif_f hc hF
      refine z_sub [2, 1] rfl ?_
      exact wbX1_checkRound_79 hf hg v1575 _ hF
    · have hF := zif_t hc hF
      refine z_aload_n 2 dX1_checkRound_66 rfl rfl ?_
      refine z_iload_n 1 dX1_checkRound_67 rfl rfl ?_
      obtain ⟨r1588, t1589, hc1590, hF⟩ := zbd_at hF
      refine z_callVi (ctX1_isSame (E := E) (f := f - 1) (by omega) hc1590) yy_X1_isSame yv_X1_isSame ob_C_6 lk_RX1_201 (by omega) rfl rfl (Nat.le_of_ble_eq_true rfl) dX1_checkRound_68 ?_
      refine z_if_ne (tgt := 79) dX1_checkRound_71 (by decide) (fun hc => ?_) (fun hc => ?_)
      · have hF := zif_f hc hF
        refine z_sub [2, 1] rfl ?_
        exact wbX1_checkRound_79 hf hg v1575 _ hF
      · have hF := zif_t hc hF
        refine z_aload_n 2 dX1_checkRound_74 rfl rfl ?_
        refine z_iload_n 3 dX1_checkRound_75 rfl rfl ?_
        obtain ⟨r1591, t1592, hc1593, hF⟩ := zbd_at hF
        refine z_callVv (ctX1_fail (E := E) (f := f - 1) (by omega) hc1593) yy_X1_fail yv_X1_fail ob_C_6 lk_RX1_106 (by omega) rfl rfl (Nat.le_of_ble_eq_true rfl) dX1_checkRound_76 ?_
        refine z_sub [2, 1] rfl ?_
        exact wbX1_checkRound_79 hf hg v1575 _ hF
def grgX1_checkBlock : Nat → GgX1_checkBlock
  | 0 => (fun _ _ _ => none, fun _ _ _ => none, fun _ _ _ _ => none, fun _ _ _ => none)
  | d + 1 => (mX1_checkBlock (grgX1_checkBlock d), mX1_checkStatement (grgX1_checkBlock d), mX1_checkBranches (grgX1_checkBlock d), mX1_checkRound (grgX1_checkBlock d))
theorem hrgX1_checkBlock {E : zE} : ∀ (d f : Nat), 6 + d ≤ f → HgX1_checkBlock E f (grgX1_checkBlock d) := by
  intro d
  induction d with
  | zero => intro f hf; exact ⟨fun _ _ _ _ h => (by cases h), fun _ _ _ _ h => (by cases h), fun _ _ _ _ _ h => (by cases h), fun _ _ _ _ h => (by cases h)⟩
  | succ d ih => intro f hf; exact ⟨fun _ _ _ _ h => ctX1_checkBlock (by omega) (ih (f - 1) (by omega)) h, fun _ _ _ _ h => ctX1_checkStatement (by omega) (ih (f - 1) (by omega)) h, fun _ _ _ _ _ h => ctX1_checkBranches (by omega) (ih (f - 1) (by omega)) h, fun _ _ _ _ h => ctX1_checkRound (by omega) (ih (f - 1) (by omega)) h⟩
def mX1_checkBlockr (x1 : Int32) (x2 : Int32) (t : zS) : zR := (grgX1_checkBlock 300).1 x1 x2 t
theorem ctX1_checkBlockr {E : zE} {f : Nat} (hf : 306 ≤ f) {x1 x2 : Int32} {t : zS} {ro : Int32 × zS} (h : mX1_checkBlockr x1 x2 t = some ro) : zM E shC f yX1_checkBlock cX1_checkBlock 7 (some .boolean) [.ref (za E 6), .int x1, .int x2] t ro := z_hgX1_checkBlock (hrgX1_checkBlock 300 f (by omega)) h
def mX1_checkStatementr (x1 : Int32) (x2 : Int32) (t : zS) : zR := (grgX1_checkBlock 300).2.1 x1 x2 t
theorem ctX1_checkStatementr {E : zE} {f : Nat} (hf : 306 ≤ f) {x1 x2 : Int32} {t : zS} {ro : Int32 × zS} (h : mX1_checkStatementr x1 x2 t = some ro) : zM E shC f yX1_checkStatement cX1_checkStatement 5 (some .boolean) [.ref (za E 6), .int x1, .int x2] t ro := z_hgX1_checkStatement (hrgX1_checkBlock 300 f (by omega)) h
def mX1_checkBranchesr (x1 : Int32) (x2 : Int32) (x3 : Int32) (t : zS) : zR := (grgX1_checkBlock 300).2.2.1 x1 x2 x3 t
theorem ctX1_checkBranchesr {E : zE} {f : Nat} (hf : 306 ≤ f) {x1 x2 x3 : Int32} {t : zS} {ro : Int32 × zS} (h : mX1_checkBranchesr x1 x2 x3 t = some ro) : zM E shC f yX1_checkBranches cX1_checkBranches 12 (some .boolean) [.ref (za E 6), .int x1, .int x2, .int x3] t ro := z_hgX1_checkBranches (hrgX1_checkBlock 300 f (by omega)) h
def mX1_checkRoundr (x1 : Int32) (x2 : Int32) (t : zS) : zR := (grgX1_checkBlock 300).2.2.2 x1 x2 t
theorem ctX1_checkRoundr {E : zE} {f : Nat} (hf : 306 ≤ f) {x1 x2 : Int32} {t : zS} {ro : Int32 × zS} (h : mX1_checkRoundr x1 x2 t = some ro) : zM E shC f yX1_checkRound cX1_checkRound 5 none [.ref (za E 6), .int x1, .int x2] t ro := z_hgX1_checkRound (hrgX1_checkBlock 300 f (by omega)) h
-- SessionHouse$Checker.check(I)I
theorem dX1_check_0 : decode cX1_check 0 = .ok (.aload_n 0, 1) := by decide +kernel
theorem dX1_check_1 : decode cX1_check 1 = .ok (.iconst (-1), 1) := by decide +kernel
theorem dX1_check_2 : decode cX1_check 2 = .ok (.putfield 37, 3) := by decide +kernel
theorem dX1_check_5 : decode cX1_check 5 = .ok (.aload_n 0, 1) := by decide +kernel
theorem dX1_check_6 : decode cX1_check 6 = .ok (.aload_n 0, 1) := by decide +kernel
theorem dX1_check_7 : decode cX1_check 7 = .ok (.getfield 33, 3) := by decide +kernel
theorem dX1_check_10 : decode cX1_check 10 = .ok (.getfield 41, 3) := by decide +kernel
theorem dX1_check_13 : decode cX1_check 13 = .ok (.iload_n 1, 1) := by decide +kernel
theorem dX1_check_14 : decode cX1_check 14 = .ok (.invokevirtual 46, 3) := by decide +kernel
theorem dX1_check_17 : decode cX1_check 17 = .ok (.putfield 50, 3) := by decide +kernel
theorem dX1_check_20 : decode cX1_check 20 = .ok (.aload_n 0, 1) := by decide +kernel
theorem dX1_check_21 : decode cX1_check 21 = .ok (.getfield 15, 3) := by decide +kernel
theorem dX1_check_24 : decode cX1_check 24 = .ok (.iconst 0, 1) := by decide +kernel
theorem dX1_check_25 : decode cX1_check 25 = .ok (.aload_n 0, 1) := by decide +kernel
theorem dX1_check_26 : decode cX1_check 26 = .ok (.getfield 50, 3) := by decide +kernel
theorem dX1_check_29 : decode cX1_check 29 = .ok (.iconst (-1), 1) := by decide +kernel
theorem dX1_check_30 : decode cX1_check 30 = .ok (.invokevirtual 52, 3) := by decide +kernel
theorem dX1_check_33 : decode cX1_check 33 = .ok (.iconst 0, 1) := by decide +kernel
theorem dX1_check_34 : decode cX1_check 34 = .ok (.istore_n 2, 1) := by decide +kernel
theorem dX1_check_35 : decode cX1_check 35 = .ok (.iload_n 2, 1) := by decide +kernel
theorem dX1_check_36 : decode cX1_check 36 = .ok (.aload_n 0, 1) := by decide +kernel
theorem dX1_check_37 : decode cX1_check 37 = .ok (.getfield 33, 3) := by decide +kernel
theorem dX1_check_40 : decode cX1_check 40 = .ok (.getfield 56, 3) := by decide +kernel
theorem dX1_check_43 : decode cX1_check 43 = .ok (.iload_n 1, 1) := by decide +kernel
theorem dX1_check_44 : decode cX1_check 44 = .ok (.invokevirtual 46, 3) := by decide +kernel
theorem dX1_check_47 : decode cX1_check 47 = .ok (.if_icmp .ge 36, 3) := by decide +kernel
theorem dX1_check_50 : decode cX1_check 50 = .ok (.aload_n 0, 1) := by decide +kernel
theorem dX1_check_51 : decode cX1_check 51 = .ok (.getfield 33, 3) := by decide +kernel
theorem dX1_check_54 : decode cX1_check 54 = .ok (.iload_n 1, 1) := by decide +kernel
theorem dX1_check_55 : decode cX1_check 55 = .ok (.iload_n 2, 1) := by decide +kernel
theorem dX1_check_56 : decode cX1_check 56 = .ok (.invokevirtual 59, 3) := by decide +kernel
theorem dX1_check_59 : decode cX1_check 59 = .ok (.ifCond .lt 18, 3) := by decide +kernel
theorem dX1_check_62 : decode cX1_check 62 = .ok (.aload_n 0, 1) := by decide +kernel
theorem dX1_check_63 : decode cX1_check 63 = .ok (.iload_n 2, 1) := by decide +kernel
theorem dX1_check_64 : decode cX1_check 64 = .ok (.aload_n 0, 1) := by decide +kernel
theorem dX1_check_65 : decode cX1_check 65 = .ok (.getfield 33, 3) := by decide +kernel
theorem dX1_check_68 : decode cX1_check 68 = .ok (.iload_n 1, 1) := by decide +kernel
theorem dX1_check_69 : decode cX1_check 69 = .ok (.iload_n 2, 1) := by decide +kernel
theorem dX1_check_70 : decode cX1_check 70 = .ok (.invokevirtual 59, 3) := by decide +kernel
theorem dX1_check_73 : decode cX1_check 73 = .ok (.invokevirtual 63, 3) := by decide +kernel
theorem dX1_check_76 : decode cX1_check 76 = .ok (.pop, 1) := by decide +kernel
theorem dX1_check_77 : decode cX1_check 77 = .ok (.iinc 2 1, 3) := by decide +kernel
theorem dX1_check_80 : decode cX1_check 80 = .ok (.goto (-45), 3) := by decide +kernel
theorem dX1_check_83 : decode cX1_check 83 = .ok (.aload_n 0, 1) := by decide +kernel
theorem dX1_check_84 : decode cX1_check 84 = .ok (.aload_n 0, 1) := by decide +kernel
theorem dX1_check_85 : decode cX1_check 85 = .ok (.getfield 33, 3) := by decide +kernel
theorem dX1_check_88 : decode cX1_check 88 = .ok (.getfield 66, 3) := by decide +kernel
theorem dX1_check_91 : decode cX1_check 91 = .ok (.iload_n 1, 1) := by decide +kernel
theorem dX1_check_92 : decode cX1_check 92 = .ok (.invokevirtual 46, 3) := by decide +kernel
theorem dX1_check_95 : decode cX1_check 95 = .ok (.iconst 0, 1) := by decide +kernel
theorem dX1_check_96 : decode cX1_check 96 = .ok (.invokevirtual 69, 3) := by decide +kernel
theorem dX1_check_99 : decode cX1_check 99 = .ok (.istore_n 2, 1) := by decide +kernel
theorem dX1_check_100 : decode cX1_check 100 = .ok (.aload_n 0, 1) := by decide +kernel
theorem dX1_check_101 : decode cX1_check 101 = .ok (.getfield 37, 3) := by decide +kernel
theorem dX1_check_104 : decode cX1_check 104 = .ok (.ifCond .ge 29, 3) := by decide +kernel
theorem dX1_check_107 : decode cX1_check 107 = .ok (.iload_n 2, 1) := by decide +kernel
theorem dX1_check_108 : decode cX1_check 108 = .ok (.ifCond .ne 25, 3) := by decide +kernel
theorem dX1_check_111 : decode cX1_check 111 = .ok (.aload_n 0, 1) := by decide +kernel
theorem dX1_check_112 : decode cX1_check 112 = .ok (.invokevirtual 73, 3) := by decide +kernel
theorem dX1_check_115 : decode cX1_check 115 = .ok (.ifCond .eq 18, 3) := by decide +kernel
theorem dX1_check_118 : decode cX1_check 118 = .ok (.aload_n 0, 1) := by decide +kernel
theorem dX1_check_119 : decode cX1_check 119 = .ok (.aload_n 0, 1) := by decide +kernel
theorem dX1_check_120 : decode cX1_check 120 = .ok (.getfield 33, 3) := by decide +kernel
theorem dX1_check_123 : decode cX1_check 123 = .ok (.getfield 77, 3) := by decide +kernel
theorem dX1_check_126 : decode cX1_check 126 = .ok (.iload_n 1, 1) := by decide +kernel
theorem dX1_check_127 : decode cX1_check 127 = .ok (.invokevirtual 46, 3) := by decide +kernel
theorem dX1_check_130 : decode cX1_check 130 = .ok (.putfield 37, 3) := by decide +kernel
theorem dX1_check_133 : decode cX1_check 133 = .ok (.aload_n 0, 1) := by decide +kernel
theorem dX1_check_134 : decode cX1_check 134 = .ok (.getfield 37, 3) := by decide +kernel
theorem dX1_check_137 : decode cX1_check 137 = .ok (.ireturn, 1) := by decide +kernel
def bX1_check_77 (k35 : Int32 → Int32 → zS → zR) (x1 : Int32) (x2 : Int32) (t : zS) : zR := zlet (x2 + 1) fun v1594 => k35 x1 v1594 t
def bX1_check_35 (k35 : Int32 → Int32 → zS → zR) (x1 : Int32) (x2 : Int32) (t : zS) : zR := zbd (mX5_get 36 400 x1 t) fun r1595 t1596 => if r1595 ≤ x2 then zbd (mX5_get 40 400 x1 t1596) fun r1598 t1599 => zbd (mX1_checkBlockr r1598 0 t1599) fun r1601 t1602 => if 0 ≤ (t1602 6 6) then some ((t1602 6 6), t1602) else if r1601 = 0 then zbd (mX1_hasChannels  t1602) fun r1604 t1605 => if r1604 = 0 then some ((t1605 6 6), t1605) else zbd (mX5_get 42 400 x1 t1605) fun r1607 t1608 => zpt t1608 6 6 r1607 fun t1610 => some ((t1610 6 6), t1610) else some ((t1602 6 6), t1602) else zbd (mX6_form x1 x2 t1596) fun r1611 t1612 => if r1611 < 0 then bX1_check_77 k35 x1 x2 t1612 else zbd (mX6_form x1 x2 t1612) fun r1614 t1615 => zbd (mX1_hold x2 r1614 t1615) fun r1617 t1618 => bX1_check_77 k35 x1 x2 t1618
def lX1_check_35 : Nat → Int32 → Int32 → zS → zR
  | 0, _, _, _ => none
  | fu + 1, x1, x2, t => bX1_check_35 (lX1_check_35  fu) x1 x2 t
def mX1_check (x1 : Int32) (t : zS) : zR := zpt t 6 6 (-1) fun t1620 => zbd (mX5_get 38 400 x1 t1620) fun r1621 t1622 => zpt t1622 6 5 r1621 fun t1624 => zbd (mX5_fill 57 80000 0 (t1624 6 5) (-1) t1624) fun r1625 t1626 => lX1_check_35  zFU x1 0 t1626
set_option maxHeartbeats 4000000 in
set_option maxRecDepth 20000 in
theorem wbX1_check_77 {E : zE} {C : zC} {f : Nat} {ro : Int32 × zS} (hf : 307 ≤ f) (k35 : Int32 → Int32 → zS → zR) (hk35 : ∀ (x1 x2 : Int32) (t : zS), k35 x1 x2 t = some ro → zJ E shC C cX1_check RX1 3 f (some .int) ro t 35 [(0, .ref (za E 6)), (1, .int x1), (2, .int x2)] []) (x1 : Int32) (x2 : Int32) (t : zS) (hF : bX1_check_77 k35 x1 x2 t = some ro) : zJ E shC C cX1_check RX1 3 f (some .int) ro t 77 [(0, .ref (za E 6)), (1, .int x1), (2, .int x2)] [] := by
  unfold bX1_check_77 at hF
  obtain ⟨v1594, ev1594⟩ : ∃ y : Int32, y = (x2 + 1) := ⟨_, rfl⟩
  have hF := zlet_at ev1594 hF
  refine z_iinc (v := v1594) (lv' := [(2, .int v1594), (0, .ref (za E 6)), (1, .int x1)]) (k := 2) dX1_check_77 rfl (by rw [ev1594]; rfl) (by decide) rfl ?_
  refine z_goto (tgt := 35) dX1_check_80 (by decide) ?_
  refine z_sub [1, 2, 0] rfl ?_
  exact hk35 x1 v1594 _ hF
set_option maxHeartbeats 4000000 in
set_option maxRecDepth 20000 in
theorem wbX1_check_35 {E : zE} {C : zC} {f : Nat} {ro : Int32 × zS} (hf : 307 ≤ f) (k35 : Int32 → Int32 → zS → zR) (hk35 : ∀ (x1 x2 : Int32) (t : zS), k35 x1 x2 t = some ro → zJ E shC C cX1_check RX1 3 f (some .int) ro t 35 [(0, .ref (za E 6)), (1, .int x1), (2, .int x2)] []) (x1 : Int32) (x2 : Int32) (t : zS) (hF : bX1_check_35 k35 x1 x2 t = some ro) : zJ E shC C cX1_check RX1 3 f (some .int) ro t 35 [(0, .ref (za E 6)), (1, .int x1), (2, .int x2)] [] := by
  unfold bX1_check_35 at hF
  refine z_iload_n 2 dX1_check_35 rfl rfl ?_
  refine z_aload_n 0 dX1_check_36 rfl rfl ?_
  refine z_getr fr_RX1_33 dX1_check_37 ?_
  refine z_getr fr_RX1_56 dX1_check_40 ?_
  refine z_iload_n 1 dX1_check_43 rfl rfl ?_
  obtain ⟨r1595, t1596, hc1597, hF⟩ := zbd_at hF
  refine z_callVi (ctX5_get (E := E) (sh := shC) (f := f - 1) (by omega) (k := 36) (n := 400) rfl rfl hc1597) yy_X5_get yv_X5_get ob_C_36 lk_RX1_46 (by omega) rfl rfl (Nat.le_of_ble_eq_true rfl) dX1_check_44 ?_
  refine z_icmp_ge (tgt := 83) dX1_check_47 (by decide) (fun hc => ?_) (fun hc => ?_)
  · have hF := zif_t hc hF
    refine z_aload_n 0 dX1_check_83 rfl rfl ?_
    refine z_aload_n 0 dX1_check_84 rfl rfl ?_
    refine z_getr fr_RX1_33 dX1_check_85 ?_
    refine z_getr fr_RX1_66 dX1_check_88 ?_
    refine z_iload_n 1 dX1_check_91 rfl rfl ?_
    obtain ⟨r1598, t1599, hc1600, hF⟩ := zbd_at hF
    refine z_callVi (ctX5_get (E := E) (sh := shC) (f := f - 1) (by omega) (k := 40) (n := 400) rfl rfl hc1600) yy_X5_get yv_X5_get ob_C_40 lk_RX1_46 (by omega) rfl rfl (Nat.le_of_ble_eq_true rfl) dX1_check_92 ?_
    refine z_iconst (v := 0) dX1_check_95 (by decide) ?_
    obtain ⟨r1601, t1602, hc1603, hF⟩ := zbd_at hF
    refine z_callVi (ctX1_checkBlockr (E := E) (f := f - 1) (by omega) hc1603) yy_X1_checkBlock yv_X1_checkBlock ob_C_6 lk_RX1_69 (by omega) rfl rfl (Nat.le_of_ble_eq_true rfl) dX1_check_96 ?_
    refine z_istore_n (lv' := [(2, .int r1601), (0, .ref (za E 6)), (1, .int x1)]) dX1_check_99 rfl (by decide) rfl ?_
    refine z_aload_n 1 dX1_check_100 rfl rfl ?_
    refine z_geti fi_RX1_37 dX1_check_101 ?_
    refine z_if_ge (tgt := 133) dX1_check_104 (by decide) (fun hc => ?_) (fun hc => ?_)
    · have hF := zif_t hc hF
      refine z_aload_n 1 dX1_check_133 rfl rfl ?_
      refine z_geti fi_RX1_37 dX1_check_134 ?_
      exact z_iret hF dX1_check_137
    · have hF := zif_f hc hF
      refine z_iload_n 0 dX1_check_107 rfl rfl ?_
      refine z_if_ne (tgt := 133) dX1_check_108 (by decide) (fun hc => ?_) (fun hc => ?_)
      · have hF := zif_f hc hF
        refine z_aload_n 1 dX1_check_133 rfl rfl ?_
        refine z_geti fi_RX1_37 dX1_check_134 ?_
        exact z_iret hF dX1_check_137
      · have hF := zif_t hc hF
        refine z_aload_n 1 dX1_check_111 rfl rfl ?_
        obtain ⟨r1604, t1605, hc1606, hF⟩ := zbd_at hF
        refine z_callVi (ctX1_hasChannels (E := E) (f := f - 1) (by omega) hc1606) yy_X1_hasChannels yv_X1_hasChannels ob_C_6 lk_RX1_73 (by omega) rfl rfl (Nat.le_of_ble_eq_true rfl) dX1_check_112 ?_
        refine z_if_eq (tgt := 133) dX1_check_115 (by decide) (fun hc => ?_) (fun hc => ?_)
        · have hF := zif_t hc hF
          refine z_aload_n 1 dX1_check_133 rfl rfl ?_
          refine z_geti fi_RX1_37 dX1_check_134 ?_
          exact z_iret hF dX1_check_137
        · have hF := zif_f hc hF
          refine z_aload_n 1 dX1_check_118 rfl rfl ?_
          refine z_aload_n 1 dX1_check_119 rfl rfl ?_
          refine z_getr fr_RX1_33 dX1_check_120 ?_
          refine z_getr fr_RX1_77 dX1_check_123 ?_
          refine z_iload_n 2 dX1_check_126 rfl rfl ?_
          obtain ⟨r1607, t1608, hc1609, hF⟩ := zbd_at hF
          refine z_callVi (ctX5_get (E := E) (sh := shC) (f := f - 1) (by omega) (k := 42) (n := 400) rfl rfl hc1609) yy_X5_get yv_X5_get ob_C_42 lk_RX1_46 (by omega) rfl rfl (Nat.le_of_ble_eq_true rfl) dX1_check_127 ?_
          refine z_puti fw_RX1_37 dX1_check_130 (fun t1610 et1610 => ?_)
          have hF := zpt_at hF t1610 et1610
          refine z_aload_n 1 dX1_check_133 rfl rfl ?_
          refine z_geti fi_RX1_37 dX1_check_134 ?_
          exact z_iret hF dX1_check_137
  · have hF := zif_f hc hF
    refine z_aload_n 0 dX1_check_50 rfl rfl ?_
    refine z_getr fr_RX1_33 dX1_check_51 ?_
    refine z_iload_n 1 dX1_check_54 rfl rfl ?_
    refine z_iload_n 2 dX1_check_55 rfl rfl ?_
    obtain ⟨r1611, t1612, hc1613, hF⟩ := zbd_at hF
    refine z_callVi (ctX6_form (E := E) (f := f - 1) (by omega) hc1613) yy_X6_form yv_X6_form ob_C_4 lk_RX1_59 (by omega) rfl rfl (Nat.le_of_ble_eq_true rfl) dX1_check_56 ?_
    refine z_if_lt (tgt := 77) dX1_check_59 (by decide) (fun hc => ?_) (fun hc => ?_)
    · have hF := zif_t hc hF
      exact wbX1_check_77 hf k35 hk35 x1 x2 _ hF
    · have hF := zif_f hc hF
      refine z_aload_n 0 dX1_check_62 rfl rfl ?_
      refine z_iload_n 2 dX1_check_63 rfl rfl ?_
      refine z_aload_n 0 dX1_check_64 rfl rfl ?_
      refine z_getr fr_RX1_33 dX1_check_65 ?_
      refine z_iload_n 1 dX1_check_68 rfl rfl ?_
      refine z_iload_n 2 dX1_check_69 rfl rfl ?_
      obtain ⟨r1614, t1615, hc1616, hF⟩ := zbd_at hF
      refine z_callVi (ctX6_form (E := E) (f := f - 1) (by omega) hc1616) yy_X6_form yv_X6_form ob_C_4 lk_RX1_59 (by omega) rfl rfl (Nat.le_of_ble_eq_true rfl) dX1_check_70 ?_
      obtain ⟨r1617, t1618, hc1619, hF⟩ := zbd_at hF
      refine z_callVi (ctX1_hold (E := E) (f := f - 1) (by omega) hc1619) yy_X1_hold yv_X1_hold ob_C_6 lk_RX1_63 (by omega) rfl rfl (Nat.le_of_ble_eq_true rfl) dX1_check_73 ?_
      refine z_pop dX1_check_76 rfl ?_
      exact wbX1_check_77 hf k35 hk35 x1 x2 _ hF
set_option maxHeartbeats 4000000 in
set_option maxRecDepth 20000 in
theorem wlX1_check_35 {E : zE} {C : zC} {f : Nat} {ro : Int32 × zS} (hf : 307 ≤ f) (fu : Nat) : ∀ (x1 x2 : Int32) (t : zS), lX1_check_35  fu x1 x2 t = some ro → zJ E shC C cX1_check RX1 3 f (some .int) ro t 35 [(0, .ref (za E 6)), (1, .int x1), (2, .int x2)] [] := by
  induction fu with
  | zero => intro x1 x2 t hF; cases hF
  | succ fu ih => intro x1 x2 t hF; exact wbX1_check_35 hf (lX1_check_35  fu) ih x1 x2 t hF
set_option maxHeartbeats 4000000 in
set_option maxRecDepth 20000 in
theorem ctX1_check {E : zE} {f : Nat} (hf : 307 ≤ f) {x1 : Int32} {t : zS} {ro : Int32 × zS} (hF : mX1_check  x1 t = some ro) : zM E shC f yX1_check cX1_check 3 (some .int) [.ref (za E 6), .int x1] t ro := by
  refine zM_of (by decide) (Nat.le_of_ble_eq_true rfl) (fun C => ?_)
  show zJ E shC C cX1_check RX1 3 f (some .int) ro t 0 [(0, .ref (za E 6)), (1, .int x1)] []
  unfold mX1_check at hF
  refine z_aload_n 0 dX1_check_0 rfl rfl ?_
  refine z_iconst (v := (-1)) dX1_check_1 (by decide) ?_
  refine z_puti fw_RX1_37 dX1_check_2 (fun t1620 et1620 => ?_)
  have hF := zpt_at hF t1620 et1620
  refine z_aload_n 0 dX1_check_5 rfl rfl ?_
  refine z_aload_n 0 dX1_check_6 rfl rfl ?_
  refine z_getr fr_RX1_33 dX1_check_7 ?_
  refine z_getr fr_RX1_41 dX1_check_10 ?_
  refine z_iload_n 1 dX1_check_13 rfl rfl ?_
  obtain ⟨r1621, t1622, hc1623, hF⟩ := zbd_at hF
  refine z_callVi (ctX5_get (E := E) (sh := shC) (f := f - 1) (by omega) (k := 38) (n := 400) rfl rfl hc1623) yy_X5_get yv_X5_get ob_C_38 lk_RX1_46 (by omega) rfl rfl (Nat.le_of_ble_eq_true rfl) dX1_check_14 ?_
  refine z_puti fw_RX1_50 dX1_check_17 (fun t1624 et1624 => ?_)
  have hF := zpt_at hF t1624 et1624
  refine z_aload_n 0 dX1_check_20 rfl rfl ?_
  refine z_getr fr_RX1_15 dX1_check_21 ?_
  refine z_iconst (v := 0) dX1_check_24 (by decide) ?_
  refine z_aload_n 0 dX1_check_25 rfl rfl ?_
  refine z_geti fi_RX1_50 dX1_check_26 ?_
  refine z_iconst (v := (-1)) dX1_check_29 (by decide) ?_
  obtain ⟨r1625, t1626, hc1627, hF⟩ := zbd_at hF
  refine z_callVv (ctX5_fill (E := E) (sh := shC) (f := f - 1) (by omega) (k := 57) (n := 80000) rfl rfl hc1627) yy_X5_fill yv_X5_fill ob_C_57 lk_RX1_52 (by omega) rfl rfl (Nat.le_of_ble_eq_true rfl) dX1_check_30 ?_
  refine z_iconst (v := 0) dX1_check_33 (by decide) ?_
  refine z_istore_n (lv' := [(2, .int 0), (0, .ref (za E 6)), (1, .int x1)]) dX1_check_34 rfl (by decide) rfl ?_
  refine z_sub [1, 2, 0] rfl ?_
  exact wlX1_check_35 hf  zFU x1 0 _ hF
-- SessionHouse.program()I
theorem dX11_program_0 : decode cX11_program 0 = .ok (.aload_n 0, 1) := by decide +kernel
theorem dX11_program_1 : decode cX11_program 1 = .ok (.getfield 70, 3) := by decide +kernel
theorem dX11_program_4 : decode cX11_program 4 = .ok (.istore_n 1, 1) := by decide +kernel
theorem dX11_program_5 : decode cX11_program 5 = .ok (.aload_n 0, 1) := by decide +kernel
theorem dX11_program_6 : decode cX11_program 6 = .ok (.iconst 0, 1) := by decide +kernel
theorem dX11_program_7 : decode cX11_program 7 = .ok (.putfield 70, 3) := by decide +kernel
theorem dX11_program_10 : decode cX11_program 10 = .ok (.aload_n 0, 1) := by decide +kernel
theorem dX11_program_11 : decode cX11_program 11 = .ok (.iconst 0, 1) := by decide +kernel
theorem dX11_program_12 : decode cX11_program 12 = .ok (.putfield 80, 3) := by decide +kernel
theorem dX11_program_15 : decode cX11_program 15 = .ok (.aload_n 0, 1) := by decide +kernel
theorem dX11_program_16 : decode cX11_program 16 = .ok (.getfield 58, 3) := by decide +kernel
theorem dX11_program_19 : decode cX11_program 19 = .ok (.invokevirtual 84, 3) := by decide +kernel
theorem dX11_program_22 : decode cX11_program 22 = .ok (.aload_n 0, 1) := by decide +kernel
theorem dX11_program_23 : decode cX11_program 23 = .ok (.getfield 42, 3) := by decide +kernel
theorem dX11_program_26 : decode cX11_program 26 = .ok (.aload_n 0, 1) := by decide +kernel
theorem dX11_program_27 : decode cX11_program 27 = .ok (.getfield 14, 3) := by decide +kernel
theorem dX11_program_30 : decode cX11_program 30 = .ok (.iload_n 1, 1) := by decide +kernel
theorem dX11_program_31 : decode cX11_program 31 = .ok (.invokevirtual 87, 3) := by decide +kernel
theorem dX11_program_34 : decode cX11_program 34 = .ok (.istore_n 2, 1) := by decide +kernel
theorem dX11_program_35 : decode cX11_program 35 = .ok (.iload_n 2, 1) := by decide +kernel
theorem dX11_program_36 : decode cX11_program 36 = .ok (.ifCond .lt 7, 3) := by decide +kernel
theorem dX11_program_39 : decode cX11_program 39 = .ok (.iconst (-1), 1) := by decide +kernel
theorem dX11_program_40 : decode cX11_program 40 = .ok (.iload_n 2, 1) := by decide +kernel
theorem dX11_program_41 : decode cX11_program 41 = .ok (.isub, 1) := by decide +kernel
theorem dX11_program_42 : decode cX11_program 42 = .ok (.ireturn, 1) := by decide +kernel
theorem dX11_program_43 : decode cX11_program 43 = .ok (.iconst 0, 1) := by decide +kernel
theorem dX11_program_44 : decode cX11_program 44 = .ok (.istore_n 3, 1) := by decide +kernel
theorem dX11_program_45 : decode cX11_program 45 = .ok (.iload_n 3, 1) := by decide +kernel
theorem dX11_program_46 : decode cX11_program 46 = .ok (.aload_n 0, 1) := by decide +kernel
theorem dX11_program_47 : decode cX11_program 47 = .ok (.getfield 66, 3) := by decide +kernel
theorem dX11_program_50 : decode cX11_program 50 = .ok (.getfield 91, 3) := by decide +kernel
theorem dX11_program_53 : decode cX11_program 53 = .ok (.if_icmp .ge 31, 3) := by decide +kernel
theorem dX11_program_56 : decode cX11_program 56 = .ok (.aload_n 0, 1) := by decide +kernel
theorem dX11_program_57 : decode cX11_program 57 = .ok (.getfield 49, 3) := by decide +kernel
theorem dX11_program_60 : decode cX11_program 60 = .ok (.iload_n 3, 1) := by decide +kernel
theorem dX11_program_61 : decode cX11_program 61 = .ok (.invokevirtual 94, 3) := by decide +kernel
theorem dX11_program_64 : decode cX11_program 64 = .ok (.istore 4, 2) := by decide +kernel
theorem dX11_program_66 : decode cX11_program 66 = .ok (.iload 4, 2) := by decide +kernel
theorem dX11_program_68 : decode cX11_program 68 = .ok (.ifCond .lt 10, 3) := by decide +kernel
theorem dX11_program_71 : decode cX11_program 71 = .ok (.sipush (-10000), 3) := by decide +kernel
theorem dX11_program_74 : decode cX11_program 74 = .ok (.iload 4, 2) := by decide +kernel
theorem dX11_program_76 : decode cX11_program 76 = .ok (.isub, 1) := by decide +kernel
theorem dX11_program_77 : decode cX11_program 77 = .ok (.ireturn, 1) := by decide +kernel
theorem dX11_program_78 : decode cX11_program 78 = .ok (.iinc 3 1, 3) := by decide +kernel
theorem dX11_program_81 : decode cX11_program 81 = .ok (.goto (-36), 3) := by decide +kernel
theorem dX11_program_84 : decode cX11_program 84 = .ok (.aload_n 0, 1) := by decide +kernel
theorem dX11_program_85 : decode cX11_program 85 = .ok (.iconst 1, 1) := by decide +kernel
theorem dX11_program_86 : decode cX11_program 86 = .ok (.putfield 80, 3) := by decide +kernel
theorem dX11_program_89 : decode cX11_program 89 = .ok (.aload_n 0, 1) := by decide +kernel
theorem dX11_program_90 : decode cX11_program 90 = .ok (.getfield 66, 3) := by decide +kernel
theorem dX11_program_93 : decode cX11_program 93 = .ok (.getfield 91, 3) := by decide +kernel
theorem dX11_program_96 : decode cX11_program 96 = .ok (.ireturn, 1) := by decide +kernel
def bX11_program_45 (k45 : Int32 → zS → zR) (x3 : Int32) (t : zS) : zR := if (t 4 10) ≤ x3 then zpt t 0 9 1 fun t1628 => some ((t1628 4 10), t1628) else zbd (mX1_check x3 t) fun r1629 t1630 => if r1629 < 0 then zlet (x3 + 1) fun v1632 => k45 v1632 t1630 else some (((-10000) - r1629), t1630)
def lX11_program_45 : Nat → Int32 → zS → zR
  | 0, _, _ => none
  | fu + 1, x3, t => bX11_program_45 (lX11_program_45  fu) x3 t
def mX11_program (t : zS) : zR := zlet (t 0 6) fun v1633 => zpt t 0 6 0 fun t1634 => zpt t1634 0 9 0 fun t1635 => zbd (mX4_forget  t1635) fun r1636 t1637 => zbd (mX7_readAll v1633 t1637) fun r1639 t1640 => if r1639 < 0 then lX11_program_45  zFU 0 t1640 else some (((-1) - r1639), t1640)
set_option maxHeartbeats 4000000 in
set_option maxRecDepth 20000 in
theorem wbX11_program_45 {E : zE} {C : zC} {f : Nat} {ro : Int32 × zS} (hf : 608 ≤ f) (k45 : Int32 → zS → zR) (hk45 : ∀ (x3 : Int32) (t : zS), k45 x3 t = some ro → zJ E shC C cX11_program RX11 5 f (some .int) ro t 45 [(0, .ref (za E 0)), (3, .int x3)] []) (x3 : Int32) (t : zS) (hF : bX11_program_45 k45 x3 t = some ro) : zJ E shC C cX11_program RX11 5 f (some .int) ro t 45 [(0, .ref (za E 0)), (3, .int x3)] [] := by
  unfold bX11_program_45 at hF
  refine z_iload_n 1 dX11_program_45 rfl rfl ?_
  refine z_aload_n 0 dX11_program_46 rfl rfl ?_
  refine z_getr fr_RX11_66 dX11_program_47 ?_
  refine z_geti fi_RX11_91 dX11_program_50 ?_
  refine z_icmp_ge (tgt := 84) dX11_program_53 (by decide) (fun hc => ?_) (fun hc => ?_)
  · have hF := zif_t hc hF
    refine z_aload_n 0 dX11_program_84 rfl rfl ?_
    refine z_iconst (v := 1) dX11_program_85 (by decide) ?_
    refine z_putz fw_RX11_80 (by decide) dX11_program_86 (fun t1628 et1628 => ?_)
    have hF := zpt_at hF t1628 et1628
    refine z_aload_n 0 dX11_program_89 rfl rfl ?_
    refine z_getr fr_RX11_66 dX11_program_90 ?_
    refine z_geti fi_RX11_91 dX11_program_93 ?_
    exact z_iret hF dX11_program_96
  · have hF := zif_f hc hF
    refine z_aload_n 0 dX11_program_56 rfl rfl ?_
    refine z_getr fr_RX11_49 dX11_program_57 ?_
    refine z_iload_n 1 dX11_program_60 rfl rfl ?_
    obtain ⟨r1629, t1630, hc1631, hF⟩ := zbd_at hF
    refine z_callVi (ctX1_check (E := E) (f := f - 1) (by omega) hc1631) yy_X1_check yv_X1_check ob_C_6 lk_RX11_94 (by omega) rfl rfl (Nat.le_of_ble_eq_true rfl) dX11_program_61 ?_
    refine z_istore (lv' := [(4, .int r1629), (0, .ref (za E 0)), (3, .int x3)]) dX11_program_64 (by decide) rfl ?_
    refine z_iload 0 dX11_program_66 rfl ?_
    refine z_if_lt (tgt := 78) dX11_program_68 (by decide) (fun hc => ?_) (fun hc => ?_)
    · have hF := zif_t hc hF
      obtain ⟨v1632, ev1632⟩ : ∃ y : Int32, y = (x3 + 1) := ⟨_, rfl⟩
      have hF := zlet_at ev1632 hF
      refine z_iinc (v := v1632) (lv' := [(3, .int v1632), (4, .int r1629), (0, .ref (za E 0))]) (k := 2) dX11_program_78 rfl (by rw [ev1632]; rfl) (by decide) rfl ?_
      refine z_goto (tgt := 45) dX11_program_81 (by decide) ?_
      refine z_sub [2, 0] rfl ?_
      exact hk45 v1632 _ hF
    · have hF := zif_f hc hF
      refine z_sipush (v := (-10000)) dX11_program_71 (by decide) ?_
      refine z_iload 0 dX11_program_74 rfl ?_
      refine z_isub dX11_program_76 ?_
      exact z_iret hF dX11_program_77
set_option maxHeartbeats 4000000 in
set_option maxRecDepth 20000 in
theorem wlX11_program_45 {E : zE} {C : zC} {f : Nat} {ro : Int32 × zS} (hf : 608 ≤ f) (fu : Nat) : ∀ (x3 : Int32) (t : zS), lX11_program_45  fu x3 t = some ro → zJ E shC C cX11_program RX11 5 f (some .int) ro t 45 [(0, .ref (za E 0)), (3, .int x3)] [] := by
  induction fu with
  | zero => intro x3 t hF; cases hF
  | succ fu ih => intro x3 t hF; exact wbX11_program_45 hf (lX11_program_45  fu) ih x3 t hF
set_option maxHeartbeats 4000000 in
set_option maxRecDepth 20000 in
theorem ctX11_program {E : zE} {f : Nat} (hf : 608 ≤ f) {t : zS} {ro : Int32 × zS} (hF : mX11_program   t = some ro) : zM E shC f yX11_program cX11_program 5 (some .int) [.ref (za E 0)] t ro := by
  refine zM_of (by decide) (Nat.le_of_ble_eq_true rfl) (fun C => ?_)
  show zJ E shC C cX11_program RX11 5 f (some .int) ro t 0 [(0, .ref (za E 0))] []
  unfold mX11_program at hF
  refine z_aload_n 0 dX11_program_0 rfl rfl ?_
  refine z_geti fi_RX11_70 dX11_program_1 ?_
  refine z_topi (fun v1633 ev1633 => ?_)
  have hF := zlet_at ev1633 hF
  refine z_istore_n (lv' := [(1, .int v1633), (0, .ref (za E 0))]) dX11_program_4 rfl (by decide) rfl ?_
  refine z_aload_n 1 dX11_program_5 rfl rfl ?_
  refine z_iconst (v := 0) dX11_program_6 (by decide) ?_
  refine z_puti fw_RX11_70 dX11_program_7 (fun t1634 et1634 => ?_)
  have hF := zpt_at hF t1634 et1634
  refine z_aload_n 1 dX11_program_10 rfl rfl ?_
  refine z_iconst (v := 0) dX11_program_11 (by decide) ?_
  refine z_putz fw_RX11_80 (by decide) dX11_program_12 (fun t1635 et1635 => ?_)
  have hF := zpt_at hF t1635 et1635
  refine z_aload_n 1 dX11_program_15 rfl rfl ?_
  refine z_getr fr_RX11_58 dX11_program_16 ?_
  obtain ⟨r1636, t1637, hc1638, hF⟩ := zbd_at hF
  refine z_callVv (ctX4_forget (E := E) (f := f - 1) (by omega) hc1638) yy_X4_forget yv_X4_forget ob_C_7 lk_RX11_84 (by omega) rfl rfl (Nat.le_of_ble_eq_true rfl) dX11_program_19 ?_
  refine z_aload_n 1 dX11_program_22 rfl rfl ?_
  refine z_getr fr_RX11_42 dX11_program_23 ?_
  refine z_aload_n 1 dX11_program_26 rfl rfl ?_
  refine z_getr fr_RX11_14 dX11_program_27 ?_
  refine z_iload_n 0 dX11_program_30 rfl rfl ?_
  obtain ⟨r1639, t1640, hc1641, hF⟩ := zbd_at hF
  refine z_callVi (ctX7_readAll (E := E) (f := f - 1) (by omega) hc1641) yy_X7_readAll yv_X7_readAll ob_C_5 lk_RX11_87 (by omega) rfl rfl (Nat.le_of_ble_eq_true rfl) dX11_program_31 ?_
  refine z_istore_n (lv' := [(2, .int r1639), (1, .int v1633), (0, .ref (za E 0))]) dX11_program_34 rfl (by decide) rfl ?_
  refine z_iload_n 0 dX11_program_35 rfl rfl ?_
  refine z_if_lt (tgt := 43) dX11_program_36 (by decide) (fun hc => ?_) (fun hc => ?_)
  · have hF := zif_t hc hF
    refine z_iconst (v := 0) dX11_program_43 (by decide) ?_
    refine z_istore_n (lv' := [(3, .int 0), (2, .int r1639), (1, .int v1633), (0, .ref (za E 0))]) dX11_program_44 rfl (by decide) rfl ?_
    refine z_sub [3, 0] rfl ?_
    exact wlX11_program_45 hf  zFU 0 _ hF
  · have hF := zif_f hc hF
    refine z_iconst (v := (-1)) dX11_program_39 (by decide) ?_
    refine z_iload_n 0 dX11_program_40 rfl rfl ?_
    refine z_isub dX11_program_41 ?_
    exact z_iret hF dX11_program_42
-- SessionHouse.sizes(II)I
theorem dX11_sizes_0 : decode cX11_sizes 0 = .ok (.iload_n 1, 1) := by decide +kernel
theorem dX11_sizes_1 : decode cX11_sizes 1 = .ok (.iconst 1, 1) := by decide +kernel
theorem dX11_sizes_2 : decode cX11_sizes 2 = .ok (.if_icmp .lt 22, 3) := by decide +kernel
theorem dX11_sizes_5 : decode cX11_sizes 5 = .ok (.iload_n 1, 1) := by decide +kernel
theorem dX11_sizes_6 : decode cX11_sizes 6 = .ok (.bipush 8, 2) := by decide +kernel
theorem dX11_sizes_8 : decode cX11_sizes 8 = .ok (.if_icmp .gt 16, 3) := by decide +kernel
theorem dX11_sizes_11 : decode cX11_sizes 11 = .ok (.iload_n 2, 1) := by decide +kernel
theorem dX11_sizes_12 : decode cX11_sizes 12 = .ok (.bipush 10, 2) := by decide +kernel
theorem dX11_sizes_14 : decode cX11_sizes 14 = .ok (.if_icmp .lt 10, 3) := by decide +kernel
theorem dX11_sizes_17 : decode cX11_sizes 17 = .ok (.iload_n 2, 1) := by decide +kernel
theorem dX11_sizes_18 : decode cX11_sizes 18 = .ok (.sipush 10000, 3) := by decide +kernel
theorem dX11_sizes_21 : decode cX11_sizes 21 = .ok (.if_icmp .le 5, 3) := by decide +kernel
theorem dX11_sizes_24 : decode cX11_sizes 24 = .ok (.iconst (-1), 1) := by decide +kernel
theorem dX11_sizes_25 : decode cX11_sizes 25 = .ok (.ireturn, 1) := by decide +kernel
theorem dX11_sizes_26 : decode cX11_sizes 26 = .ok (.aload_n 0, 1) := by decide +kernel
theorem dX11_sizes_27 : decode cX11_sizes 27 = .ok (.iload_n 1, 1) := by decide +kernel
theorem dX11_sizes_28 : decode cX11_sizes 28 = .ok (.putfield 18, 3) := by decide +kernel
theorem dX11_sizes_31 : decode cX11_sizes 31 = .ok (.aload_n 0, 1) := by decide +kernel
theorem dX11_sizes_32 : decode cX11_sizes 32 = .ok (.iload_n 2, 1) := by decide +kernel
theorem dX11_sizes_33 : decode cX11_sizes 33 = .ok (.putfield 22, 3) := by decide +kernel
theorem dX11_sizes_36 : decode cX11_sizes 36 = .ok (.iconst 1, 1) := by decide +kernel
theorem dX11_sizes_37 : decode cX11_sizes 37 = .ok (.ireturn, 1) := by decide +kernel
def mX11_sizes (x1 : Int32) (x2 : Int32) (t : zS) : zR := if x1 < 1 then some ((-1), t) else if 8 < x1 then some ((-1), t) else if x2 < 10 then some ((-1), t) else if x2 ≤ 10000 then zpt t 0 7 x1 fun t1642 => zpt t1642 0 8 x2 fun t1643 => some (1, t1643) else some ((-1), t)
set_option maxHeartbeats 4000000 in
set_option maxRecDepth 20000 in
theorem ctX11_sizes {E : zE} {f : Nat} (hf : 1 ≤ f) {x1 : Int32} {x2 : Int32} {t : zS} {ro : Int32 × zS} (hF : mX11_sizes  x1 x2 t = some ro) : zM E shC f yX11_sizes cX11_sizes 3 (some .int) [.ref (za E 0), .int x1, .int x2] t ro := by
  refine zM_of (by decide) (Nat.le_of_ble_eq_true rfl) (fun C => ?_)
  show zJ E shC C cX11_sizes RX11 3 f (some .int) ro t 0 [(0, .ref (za E 0)), (1, .int x1), (2, .int x2)] []
  unfold mX11_sizes at hF
  refine z_iload_n 1 dX11_sizes_0 rfl rfl ?_
  refine z_iconst (v := 1) dX11_sizes_1 (by decide) ?_
  refine z_icmp_lt (tgt := 24) dX11_sizes_2 (by decide) (fun hc => ?_) (fun hc => ?_)
  · have hF := zif_t hc hF
    refine z_iconst (v := (-1)) dX11_sizes_24 (by decide) ?_
    exact z_iret hF dX11_sizes_25
  · have hF := zif_f hc hF
    refine z_iload_n 1 dX11_sizes_5 rfl rfl ?_
    refine z_bipush (v := 8) dX11_sizes_6 (by decide) ?_
    refine z_icmp_gt (tgt := 24) dX11_sizes_8 (by decide) (fun hc => ?_) (fun hc => ?_)
    · have hF := zif_t hc hF
      refine z_iconst (v := (-1)) dX11_sizes_24 (by decide) ?_
      exact z_iret hF dX11_sizes_25
    · have hF := zif_f hc hF
      refine z_iload_n 2 dX11_sizes_11 rfl rfl ?_
      refine z_bipush (v := 10) dX11_sizes_12 (by decide) ?_
      refine z_icmp_lt (tgt := 24) dX11_sizes_14 (by decide) (fun hc => ?_) (fun hc => ?_)
      · have hF := zif_t hc hF
        refine z_iconst (v := (-1)) dX11_sizes_24 (by decide) ?_
        exact z_iret hF dX11_sizes_25
      · have hF := zif_f hc hF
        refine z_iload_n 2 dX11_sizes_17 rfl rfl ?_
        refine z_sipush (v := 10000) dX11_sizes_18 (by decide) ?_
        refine z_icmp_le (tgt := 26) dX11_sizes_21 (by decide) (fun hc => ?_) (fun hc => ?_)
        · have hF := zif_t hc hF
          refine z_aload_n 0 dX11_sizes_26 rfl rfl ?_
          refine z_iload_n 1 dX11_sizes_27 rfl rfl ?_
          refine z_puti fw_RX11_18 dX11_sizes_28 (fun t1642 et1642 => ?_)
          have hF := zpt_at hF t1642 et1642
          refine z_aload_n 0 dX11_sizes_31 rfl rfl ?_
          refine z_iload_n 2 dX11_sizes_32 rfl rfl ?_
          refine z_puti fw_RX11_22 dX11_sizes_33 (fun t1643 et1643 => ?_)
          have hF := zpt_at hF t1643 et1643
          refine z_iconst (v := 1) dX11_sizes_36 (by decide) ?_
          exact z_iret hF dX11_sizes_37
        · have hF := zif_f hc hF
          refine z_iconst (v := (-1)) dX11_sizes_24 (by decide) ?_
          exact z_iret hF dX11_sizes_25
-- SessionHouse$House.addInput(I)V
theorem dX4_addInput_0 : decode cX4_addInput 0 = .ok (.aload_n 0, 1) := by decide +kernel
theorem dX4_addInput_1 : decode cX4_addInput 1 = .ok (.getfield 56, 3) := by decide +kernel
theorem dX4_addInput_4 : decode cX4_addInput 4 = .ok (.aload_n 0, 1) := by decide +kernel
theorem dX4_addInput_5 : decode cX4_addInput 5 = .ok (.getfield 59, 3) := by decide +kernel
theorem dX4_addInput_8 : decode cX4_addInput 8 = .ok (.iadd, 1) := by decide +kernel
theorem dX4_addInput_9 : decode cX4_addInput 9 = .ok (.istore_n 2, 1) := by decide +kernel
theorem dX4_addInput_10 : decode cX4_addInput 10 = .ok (.aload_n 0, 1) := by decide +kernel
theorem dX4_addInput_11 : decode cX4_addInput 11 = .ok (.getfield 34, 3) := by decide +kernel
theorem dX4_addInput_14 : decode cX4_addInput 14 = .ok (.iload_n 2, 1) := by decide +kernel
theorem dX4_addInput_15 : decode cX4_addInput 15 = .ok (.sipush 300, 3) := by decide +kernel
theorem dX4_addInput_18 : decode cX4_addInput 18 = .ok (.if_icmp .lt 11, 3) := by decide +kernel
theorem dX4_addInput_21 : decode cX4_addInput 21 = .ok (.iload_n 2, 1) := by decide +kernel
theorem dX4_addInput_22 : decode cX4_addInput 22 = .ok (.sipush 300, 3) := by decide +kernel
theorem dX4_addInput_25 : decode cX4_addInput 25 = .ok (.isub, 1) := by decide +kernel
theorem dX4_addInput_26 : decode cX4_addInput 26 = .ok (.goto 4, 3) := by decide +kernel
theorem dX4_addInput_29 : decode cX4_addInput 29 = .ok (.iload_n 2, 1) := by decide +kernel
theorem dX4_addInput_30 : decode cX4_addInput 30 = .ok (.iload_n 1, 1) := by decide +kernel
theorem dX4_addInput_31 : decode cX4_addInput 31 = .ok (.invokevirtual 62, 3) := by decide +kernel
theorem dX4_addInput_34 : decode cX4_addInput 34 = .ok (.aload_n 0, 1) := by decide +kernel
theorem dX4_addInput_35 : decode cX4_addInput 35 = .ok (.dup, 1) := by decide +kernel
theorem dX4_addInput_36 : decode cX4_addInput 36 = .ok (.getfield 59, 3) := by decide +kernel
theorem dX4_addInput_39 : decode cX4_addInput 39 = .ok (.iconst 1, 1) := by decide +kernel
theorem dX4_addInput_40 : decode cX4_addInput 40 = .ok (.iadd, 1) := by decide +kernel
theorem dX4_addInput_41 : decode cX4_addInput 41 = .ok (.putfield 59, 3) := by decide +kernel
theorem dX4_addInput_44 : decode cX4_addInput 44 = .ok (.return_, 1) := by decide +kernel
def bX4_addInput_30 (x1 : Int32) (y0 : Int32) (t : zS) : zR := zbd (mX5_set 63 300 y0 x1 t) fun r1644 t1645 => zpt t1645 7 9 ((t1645 7 9) + 1) fun t1647 => some (0, t1647)
def mX4_addInput (x1 : Int32) (t : zS) : zR := zlet ((t 7 8) + (t 7 9)) fun v1648 => if v1648 < 300 then bX4_addInput_30  x1 v1648 t else bX4_addInput_30  x1 (v1648 - 300) t
set_option maxHeartbeats 4000000 in
set_option maxRecDepth 20000 in
theorem wbX4_addInput_30 {E : zE} {C : zC} {f : Nat} {ro : Int32 × zS} (hf : 2 ≤ f) (x1 : Int32) (y0 : Int32) (t : zS) (hF : bX4_addInput_30  x1 y0 t = some ro) : zJ E shC C cX4_addInput RX4 3 f none ro t 30 [(0, .ref (za E 7)), (1, .int x1)] [.int y0, .ref (za E 63)] := by
  unfold bX4_addInput_30 at hF
  refine z_iload_n 1 dX4_addInput_30 rfl rfl ?_
  obtain ⟨r1644, t1645, hc1646, hF⟩ := zbd_at hF
  refine z_callVv (ctX5_set (E := E) (sh := shC) (f := f - 1) (by omega) (k := 63) (n := 300) rfl rfl hc1646) yy_X5_set yv_X5_set ob_C_63 lk_RX4_62 (by omega) rfl rfl (Nat.le_of_ble_eq_true rfl) dX4_addInput_31 ?_
  refine z_aload_n 0 dX4_addInput_34 rfl rfl ?_
  refine z_dup dX4_addInput_35 rfl ?_
  refine z_geti fi_RX4_59 dX4_addInput_36 ?_
  refine z_iconst (v := 1) dX4_addInput_39 (by decide) ?_
  refine z_iadd dX4_addInput_40 ?_
  refine z_puti fw_RX4_59 dX4_addInput_41 (fun t1647 et1647 => ?_)
  have hF := zpt_at hF t1647 et1647
  exact z_vret hF dX4_addInput_44
set_option maxHeartbeats 4000000 in
set_option maxRecDepth 20000 in
theorem ctX4_addInput {E : zE} {f : Nat} (hf : 2 ≤ f) {x1 : Int32} {t : zS} {ro : Int32 × zS} (hF : mX4_addInput  x1 t = some ro) : zM E shC f yX4_addInput cX4_addInput 3 none [.ref (za E 7), .int x1] t ro := by
  refine zM_of (by decide) (Nat.le_of_ble_eq_true rfl) (fun C => ?_)
  show zJ E shC C cX4_addInput RX4 3 f none ro t 0 [(0, .ref (za E 7)), (1, .int x1)] []
  unfold mX4_addInput at hF
  refine z_aload_n 0 dX4_addInput_0 rfl rfl ?_
  refine z_geti fi_RX4_56 dX4_addInput_1 ?_
  refine z_aload_n 0 dX4_addInput_4 rfl rfl ?_
  refine z_geti fi_RX4_59 dX4_addInput_5 ?_
  refine z_iadd dX4_addInput_8 ?_
  refine z_topi (fun v1648 ev1648 => ?_)
  have hF := zlet_at ev1648 hF
  refine z_istore_n (lv' := [(2, .int v1648), (0, .ref (za E 7)), (1, .int x1)]) dX4_addInput_9 rfl (by decide) rfl ?_
  refine z_aload_n 1 dX4_addInput_10 rfl rfl ?_
  refine z_getr fr_RX4_34 dX4_addInput_11 ?_
  refine z_iload_n 0 dX4_addInput_14 rfl rfl ?_
  refine z_sipush (v := 300) dX4_addInput_15 (by decide) ?_
  refine z_icmp_lt (tgt := 29) dX4_addInput_18 (by decide) (fun hc => ?_) (fun hc => ?_)
  · have hF := zif_t hc hF
    refine z_iload_n 0 dX4_addInput_29 rfl rfl ?_
    refine z_sub [1, 2] rfl ?_
    exact wbX4_addInput_30 hf  x1 v1648 _ hF
  · have hF := zif_f hc hF
    refine z_iload_n 0 dX4_addInput_21 rfl rfl ?_
    refine z_sipush (v := 300) dX4_addInput_22 (by decide) ?_
    refine z_isub dX4_addInput_25 ?_
    refine z_goto (tgt := 30) dX4_addInput_26 (by decide) ?_
    refine z_sub [1, 2] rfl ?_
    exact wbX4_addInput_30 hf  x1 (v1648 - 300) _ hF
-- SessionHouse.input(III)I
theorem dX11_input_0 : decode cX11_input 0 = .ok (.aload_n 0, 1) := by decide +kernel
theorem dX11_input_1 : decode cX11_input 1 = .ok (.getfield 58, 3) := by decide +kernel
theorem dX11_input_4 : decode cX11_input 4 = .ok (.getfield 98, 3) := by decide +kernel
theorem dX11_input_7 : decode cX11_input 7 = .ok (.iconst 3, 1) := by decide +kernel
theorem dX11_input_8 : decode cX11_input 8 = .ok (.iadd, 1) := by decide +kernel
theorem dX11_input_9 : decode cX11_input 9 = .ok (.sipush 300, 3) := by decide +kernel
theorem dX11_input_12 : decode cX11_input 12 = .ok (.if_icmp .le 5, 3) := by decide +kernel
theorem dX11_input_15 : decode cX11_input 15 = .ok (.iconst (-1), 1) := by decide +kernel
theorem dX11_input_16 : decode cX11_input 16 = .ok (.ireturn, 1) := by decide +kernel
theorem dX11_input_17 : decode cX11_input 17 = .ok (.aload_n 0, 1) := by decide +kernel
theorem dX11_input_18 : decode cX11_input 18 = .ok (.getfield 58, 3) := by decide +kernel
theorem dX11_input_21 : decode cX11_input 21 = .ok (.iload_n 1, 1) := by decide +kernel
theorem dX11_input_22 : decode cX11_input 22 = .ok (.invokevirtual 101, 3) := by decide +kernel
theorem dX11_input_25 : decode cX11_input 25 = .ok (.aload_n 0, 1) := by decide +kernel
theorem dX11_input_26 : decode cX11_input 26 = .ok (.getfield 58, 3) := by decide +kernel
theorem dX11_input_29 : decode cX11_input 29 = .ok (.iload_n 2, 1) := by decide +kernel
theorem dX11_input_30 : decode cX11_input 30 = .ok (.invokevirtual 101, 3) := by decide +kernel
theorem dX11_input_33 : decode cX11_input 33 = .ok (.aload_n 0, 1) := by decide +kernel
theorem dX11_input_34 : decode cX11_input 34 = .ok (.getfield 58, 3) := by decide +kernel
theorem dX11_input_37 : decode cX11_input 37 = .ok (.iload_n 3, 1) := by decide +kernel
theorem dX11_input_38 : decode cX11_input 38 = .ok (.invokevirtual 101, 3) := by decide +kernel
theorem dX11_input_41 : decode cX11_input 41 = .ok (.aload_n 0, 1) := by decide +kernel
theorem dX11_input_42 : decode cX11_input 42 = .ok (.getfield 58, 3) := by decide +kernel
theorem dX11_input_45 : decode cX11_input 45 = .ok (.getfield 98, 3) := by decide +kernel
theorem dX11_input_48 : decode cX11_input 48 = .ok (.ireturn, 1) := by decide +kernel
def mX11_input (x1 : Int32) (x2 : Int32) (x3 : Int32) (t : zS) : zR := if ((t 7 9) + 3) ≤ 300 then zbd (mX4_addInput x1 t) fun r1649 t1650 => zbd (mX4_addInput x2 t1650) fun r1652 t1653 => zbd (mX4_addInput x3 t1653) fun r1655 t1656 => some ((t1656 7 9), t1656) else some ((-1), t)
set_option maxHeartbeats 4000000 in
set_option maxRecDepth 20000 in
theorem ctX11_input {E : zE} {f : Nat} (hf : 3 ≤ f) {x1 : Int32} {x2 : Int32} {x3 : Int32} {t : zS} {ro : Int32 × zS} (hF : mX11_input  x1 x2 x3 t = some ro) : zM E shC f yX11_input cX11_input 4 (some .int) [.ref (za E 0), .int x1, .int x2, .int x3] t ro := by
  refine zM_of (by decide) (Nat.le_of_ble_eq_true rfl) (fun C => ?_)
  show zJ E shC C cX11_input RX11 4 f (some .int) ro t 0 [(0, .ref (za E 0)), (1, .int x1), (2, .int x2), (3, .int x3)] []
  unfold mX11_input at hF
  refine z_aload_n 0 dX11_input_0 rfl rfl ?_
  refine z_getr fr_RX11_58 dX11_input_1 ?_
  refine z_geti fi_RX11_98 dX11_input_4 ?_
  refine z_iconst (v := 3) dX11_input_7 (by decide) ?_
  refine z_iadd dX11_input_8 ?_
  refine z_sipush (v := 300) dX11_input_9 (by decide) ?_
  refine z_icmp_le (tgt := 17) dX11_input_12 (by decide) (fun hc => ?_) (fun hc => ?_)
  · have hF := zif_t hc hF
    refine z_aload_n 0 dX11_input_17 rfl rfl ?_
    refine z_getr fr_RX11_58 dX11_input_18 ?_
    refine z_iload_n 1 dX11_input_21 rfl rfl ?_
    obtain ⟨r1649, t1650, hc1651, hF⟩ := zbd_at hF
    refine z_callVv (ctX4_addInput (E := E) (f := f - 1) (by omega) hc1651) yy_X4_addInput yv_X4_addInput ob_C_7 lk_RX11_101 (by omega) rfl rfl (Nat.le_of_ble_eq_true rfl) dX11_input_22 ?_
    refine z_aload_n 0 dX11_input_25 rfl rfl ?_
    refine z_getr fr_RX11_58 dX11_input_26 ?_
    refine z_iload_n 2 dX11_input_29 rfl rfl ?_
    obtain ⟨r1652, t1653, hc1654, hF⟩ := zbd_at hF
    refine z_callVv (ctX4_addInput (E := E) (f := f - 1) (by omega) hc1654) yy_X4_addInput yv_X4_addInput ob_C_7 lk_RX11_101 (by omega) rfl rfl (Nat.le_of_ble_eq_true rfl) dX11_input_30 ?_
    refine z_aload_n 0 dX11_input_33 rfl rfl ?_
    refine z_getr fr_RX11_58 dX11_input_34 ?_
    refine z_iload_n 3 dX11_input_37 rfl rfl ?_
    obtain ⟨r1655, t1656, hc1657, hF⟩ := zbd_at hF
    refine z_callVv (ctX4_addInput (E := E) (f := f - 1) (by omega) hc1657) yy_X4_addInput yv_X4_addInput ob_C_7 lk_RX11_101 (by omega) rfl rfl (Nat.le_of_ble_eq_true rfl) dX11_input_38 ?_
    refine z_aload_n 0 dX11_input_41 rfl rfl ?_
    refine z_getr fr_RX11_58 dX11_input_42 ?_
    refine z_geti fi_RX11_98 dX11_input_45 ?_
    exact z_iret hF dX11_input_48
  · have hF := zif_f hc hF
    refine z_iconst (v := (-1)) dX11_input_15 (by decide) ?_
    exact z_iret hF dX11_input_16
-- SessionHouse$House.cellsOf(I)I
theorem dX4_cellsOf_0 : decode cX4_cellsOf 0 = .ok (.iconst 4, 1) := by decide +kernel
theorem dX4_cellsOf_1 : decode cX4_cellsOf 1 = .ok (.aload_n 0, 1) := by decide +kernel
theorem dX4_cellsOf_2 : decode cX4_cellsOf 2 = .ok (.getfield 52, 3) := by decide +kernel
theorem dX4_cellsOf_5 : decode cX4_cellsOf 5 = .ok (.getfield 96, 3) := by decide +kernel
theorem dX4_cellsOf_8 : decode cX4_cellsOf 8 = .ok (.iload_n 1, 1) := by decide +kernel
theorem dX4_cellsOf_9 : decode cX4_cellsOf 9 = .ok (.invokevirtual 99, 3) := by decide +kernel
theorem dX4_cellsOf_12 : decode cX4_cellsOf 12 = .ok (.iadd, 1) := by decide +kernel
theorem dX4_cellsOf_13 : decode cX4_cellsOf 13 = .ok (.ireturn, 1) := by decide +kernel
def mX4_cellsOf (x1 : Int32) (t : zS) : zR := zbd (mX5_get 38 400 x1 t) fun r1658 t1659 => some ((4 + r1658), t1659)
set_option maxHeartbeats 4000000 in
set_option maxRecDepth 20000 in
theorem ctX4_cellsOf {E : zE} {f : Nat} (hf : 2 ≤ f) {x1 : Int32} {t : zS} {ro : Int32 × zS} (hF : mX4_cellsOf  x1 t = some ro) : zM E shC f yX4_cellsOf cX4_cellsOf 2 (some .int) [.ref (za E 7), .int x1] t ro := by
  refine zM_of (by decide) (Nat.le_of_ble_eq_true rfl) (fun C => ?_)
  show zJ E shC C cX4_cellsOf RX4 2 f (some .int) ro t 0 [(0, .ref (za E 7)), (1, .int x1)] []
  unfold mX4_cellsOf at hF
  refine z_iconst (v := 4) dX4_cellsOf_0 (by decide) ?_
  refine z_aload_n 0 dX4_cellsOf_1 rfl rfl ?_
  refine z_getr fr_RX4_52 dX4_cellsOf_2 ?_
  refine z_getr fr_RX4_96 dX4_cellsOf_5 ?_
  refine z_iload_n 1 dX4_cellsOf_8 rfl rfl ?_
  obtain ⟨r1658, t1659, hc1660, hF⟩ := zbd_at hF
  refine z_callVi (ctX5_get (E := E) (sh := shC) (f := f - 1) (by omega) (k := 38) (n := 400) rfl rfl hc1660) yy_X5_get yv_X5_get ob_C_38 lk_RX4_99 (by omega) rfl rfl (Nat.le_of_ble_eq_true rfl) dX4_cellsOf_9 ?_
  refine z_iadd dX4_cellsOf_12 ?_
  exact z_iret hF dX4_cellsOf_13
