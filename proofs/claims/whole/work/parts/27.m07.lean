-- SessionHouse$Ring.move()V
theorem dX8_move_0 : decode cX8_move 0 = .ok (.aload_n 0, 1) := by decide +kernel
theorem dX8_move_1 : decode cX8_move 1 = .ok (.sipush 12000, 3) := by decide +kernel
theorem dX8_move_4 : decode cX8_move 4 = .ok (.aload_n 0, 1) := by decide +kernel
theorem dX8_move_5 : decode cX8_move 5 = .ok (.getfield 60, 3) := by decide +kernel
theorem dX8_move_8 : decode cX8_move 8 = .ok (.isub, 1) := by decide +kernel
theorem dX8_move_9 : decode cX8_move 9 = .ok (.putfield 60, 3) := by decide +kernel
theorem dX8_move_12 : decode cX8_move 12 = .ok (.aload_n 0, 1) := by decide +kernel
theorem dX8_move_13 : decode cX8_move 13 = .ok (.iconst 0, 1) := by decide +kernel
theorem dX8_move_14 : decode cX8_move 14 = .ok (.putfield 63, 3) := by decide +kernel
theorem dX8_move_17 : decode cX8_move 17 = .ok (.aload_n 0, 1) := by decide +kernel
theorem dX8_move_18 : decode cX8_move 18 = .ok (.getfield 47, 3) := by decide +kernel
theorem dX8_move_21 : decode cX8_move 21 = .ok (.istore_n 1, 1) := by decide +kernel
theorem dX8_move_22 : decode cX8_move 22 = .ok (.iconst 0, 1) := by decide +kernel
theorem dX8_move_23 : decode cX8_move 23 = .ok (.istore_n 2, 1) := by decide +kernel
theorem dX8_move_24 : decode cX8_move 24 = .ok (.iload_n 2, 1) := by decide +kernel
theorem dX8_move_25 : decode cX8_move 25 = .ok (.sipush 2501, 3) := by decide +kernel
theorem dX8_move_28 : decode cX8_move 28 = .ok (.if_icmp .ge 108, 3) := by decide +kernel
theorem dX8_move_31 : decode cX8_move 31 = .ok (.iload_n 1, 1) := by decide +kernel
theorem dX8_move_32 : decode cX8_move 32 = .ok (.ifCond .lt 104, 3) := by decide +kernel
theorem dX8_move_35 : decode cX8_move 35 = .ok (.aload_n 0, 1) := by decide +kernel
theorem dX8_move_36 : decode cX8_move 36 = .ok (.getfield 29, 3) := by decide +kernel
theorem dX8_move_39 : decode cX8_move 39 = .ok (.iload_n 1, 1) := by decide +kernel
theorem dX8_move_40 : decode cX8_move 40 = .ok (.invokevirtual 72, 3) := by decide +kernel
theorem dX8_move_43 : decode cX8_move 43 = .ok (.istore_n 3, 1) := by decide +kernel
theorem dX8_move_44 : decode cX8_move 44 = .ok (.aload_n 0, 1) := by decide +kernel
theorem dX8_move_45 : decode cX8_move 45 = .ok (.getfield 41, 3) := by decide +kernel
theorem dX8_move_48 : decode cX8_move 48 = .ok (.aload_n 0, 1) := by decide +kernel
theorem dX8_move_49 : decode cX8_move 49 = .ok (.getfield 26, 3) := by decide +kernel
theorem dX8_move_52 : decode cX8_move 52 = .ok (.iload_n 1, 1) := by decide +kernel
theorem dX8_move_53 : decode cX8_move 53 = .ok (.invokevirtual 72, 3) := by decide +kernel
theorem dX8_move_56 : decode cX8_move 56 = .ok (.aload_n 0, 1) := by decide +kernel
theorem dX8_move_57 : decode cX8_move 57 = .ok (.getfield 60, 3) := by decide +kernel
theorem dX8_move_60 : decode cX8_move 60 = .ok (.aload_n 0, 1) := by decide +kernel
theorem dX8_move_61 : decode cX8_move 61 = .ok (.getfield 63, 3) := by decide +kernel
theorem dX8_move_64 : decode cX8_move 64 = .ok (.iadd, 1) := by decide +kernel
theorem dX8_move_65 : decode cX8_move 65 = .ok (.iload_n 3, 1) := by decide +kernel
theorem dX8_move_66 : decode cX8_move 66 = .ok (.invokevirtual 91, 3) := by decide +kernel
theorem dX8_move_69 : decode cX8_move 69 = .ok (.aload_n 0, 1) := by decide +kernel
theorem dX8_move_70 : decode cX8_move 70 = .ok (.getfield 44, 3) := by decide +kernel
theorem dX8_move_73 : decode cX8_move 73 = .ok (.aload_n 0, 1) := by decide +kernel
theorem dX8_move_74 : decode cX8_move 74 = .ok (.getfield 26, 3) := by decide +kernel
theorem dX8_move_77 : decode cX8_move 77 = .ok (.iload_n 1, 1) := by decide +kernel
theorem dX8_move_78 : decode cX8_move 78 = .ok (.invokevirtual 72, 3) := by decide +kernel
theorem dX8_move_81 : decode cX8_move 81 = .ok (.aload_n 0, 1) := by decide +kernel
theorem dX8_move_82 : decode cX8_move 82 = .ok (.getfield 60, 3) := by decide +kernel
theorem dX8_move_85 : decode cX8_move 85 = .ok (.aload_n 0, 1) := by decide +kernel
theorem dX8_move_86 : decode cX8_move 86 = .ok (.getfield 63, 3) := by decide +kernel
theorem dX8_move_89 : decode cX8_move 89 = .ok (.iadd, 1) := by decide +kernel
theorem dX8_move_90 : decode cX8_move 90 = .ok (.iload_n 3, 1) := by decide +kernel
theorem dX8_move_91 : decode cX8_move 91 = .ok (.invokevirtual 91, 3) := by decide +kernel
theorem dX8_move_94 : decode cX8_move 94 = .ok (.aload_n 0, 1) := by decide +kernel
theorem dX8_move_95 : decode cX8_move 95 = .ok (.getfield 26, 3) := by decide +kernel
theorem dX8_move_98 : decode cX8_move 98 = .ok (.iload_n 1, 1) := by decide +kernel
theorem dX8_move_99 : decode cX8_move 99 = .ok (.aload_n 0, 1) := by decide +kernel
theorem dX8_move_100 : decode cX8_move 100 = .ok (.getfield 60, 3) := by decide +kernel
theorem dX8_move_103 : decode cX8_move 103 = .ok (.aload_n 0, 1) := by decide +kernel
theorem dX8_move_104 : decode cX8_move 104 = .ok (.getfield 63, 3) := by decide +kernel
theorem dX8_move_107 : decode cX8_move 107 = .ok (.iadd, 1) := by decide +kernel
theorem dX8_move_108 : decode cX8_move 108 = .ok (.invokevirtual 76, 3) := by decide +kernel
theorem dX8_move_111 : decode cX8_move 111 = .ok (.aload_n 0, 1) := by decide +kernel
theorem dX8_move_112 : decode cX8_move 112 = .ok (.dup, 1) := by decide +kernel
theorem dX8_move_113 : decode cX8_move 113 = .ok (.getfield 63, 3) := by decide +kernel
theorem dX8_move_116 : decode cX8_move 116 = .ok (.iload_n 3, 1) := by decide +kernel
theorem dX8_move_117 : decode cX8_move 117 = .ok (.iadd, 1) := by decide +kernel
theorem dX8_move_118 : decode cX8_move 118 = .ok (.putfield 63, 3) := by decide +kernel
theorem dX8_move_121 : decode cX8_move 121 = .ok (.aload_n 0, 1) := by decide +kernel
theorem dX8_move_122 : decode cX8_move 122 = .ok (.getfield 32, 3) := by decide +kernel
theorem dX8_move_125 : decode cX8_move 125 = .ok (.iload_n 1, 1) := by decide +kernel
theorem dX8_move_126 : decode cX8_move 126 = .ok (.invokevirtual 72, 3) := by decide +kernel
theorem dX8_move_129 : decode cX8_move 129 = .ok (.istore_n 1, 1) := by decide +kernel
theorem dX8_move_130 : decode cX8_move 130 = .ok (.iinc 2 1, 3) := by decide +kernel
theorem dX8_move_133 : decode cX8_move 133 = .ok (.goto (-109), 3) := by decide +kernel
theorem dX8_move_136 : decode cX8_move 136 = .ok (.return_, 1) := by decide +kernel
def bX8_move_24 (k24 : Int32 → Int32 → zS → zR) (x1 : Int32) (x2 : Int32) (t : zS) : zR := if 2501 ≤ x2 then some (0, t) else if x1 < 0 then some (0, t) else zbd (mX5_get 134 2501 x1 t) fun r1661 t1662 => zbd (mX5_get 132 2501 x1 t1662) fun r1664 t1665 => zbd (mX5_copy 142 24000 r1664 ((t1665 60 14) + (t1665 60 15)) r1661 t1665) fun r1667 t1668 => zbd (mX5_get 132 2501 x1 t1668) fun r1670 t1671 => zbd (mX5_copy 144 24000 r1670 ((t1671 60 14) + (t1671 60 15)) r1661 t1671) fun r1673 t1674 => zbd (mX5_set 132 2501 x1 ((t1674 60 14) + (t1674 60 15)) t1674) fun r1676 t1677 => zpt t1677 60 15 ((t1677 60 15) + r1661) fun t1679 => zbd (mX5_get 136 2501 x1 t1679) fun r1680 t1681 => zlet (x2 + 1) fun v1683 => k24 r1680 v1683 t1681
def lX8_move_24 : Nat → Int32 → Int32 → zS → zR
  | 0, _, _, _ => none
  | fu + 1, x1, x2, t => bX8_move_24 (lX8_move_24  fu) x1 x2 t
def mX8_move (t : zS) : zR := zpt t 60 14 (12000 - (t 60 14)) fun t1684 => zpt t1684 60 15 0 fun t1685 => zlet (t1685 60 10) fun v1686 => lX8_move_24  zFU v1686 0 t1685
set_option maxHeartbeats 4000000 in
set_option maxRecDepth 20000 in
theorem wbX8_move_24 {E : zE} {C : zC} {f : Nat} {ro : Int32 × zS} (hf : 2 ≤ f) (k24 : Int32 → Int32 → zS → zR) (hk24 : ∀ (x1 x2 : Int32) (t : zS), k24 x1 x2 t = some ro → zJ E shC C cX8_move RX8 4 f none ro t 24 [(0, .ref (za E 60)), (1, .int x1), (2, .int x2)] []) (x1 : Int32) (x2 : Int32) (t : zS) (hF : bX8_move_24 k24 x1 x2 t = some ro) : zJ E shC C cX8_move RX8 4 f none ro t 24 [(0, .ref (za E 60)), (1, .int x1), (2, .int x2)] [] := by
  unfold bX8_move_24 at hF
  refine z_iload_n 2 dX8_move_24 rfl rfl ?_
  refine z_sipush (v := 2501) dX8_move_25 (by decide) ?_
  refine z_icmp_ge (tgt := 136) dX8_move_28 (by decide) (fun hc => ?_) (fun hc => ?_)
  · have hF := zif_t hc hF
    exact z_vret hF dX8_move_136
  · have hF := zif_f hc hF
    refine z_iload_n 1 dX8_move_31 rfl rfl ?_
    refine z_if_lt (tgt := 136) dX8_move_32 (by decide) (fun hc => ?_) (fun hc => ?_)
    · have hF := zif_t hc hF
      exact z_vret hF dX8_move_136
    · have hF := zif_f hc hF
      refine z_aload_n 0 dX8_move_35 rfl rfl ?_
      refine z_getr fr_RX8_29 dX8_move_36 ?_
      refine z_iload_n 1 dX8_move_39 rfl rfl ?_
      obtain ⟨r1661, t1662, hc1663, hF⟩ := zbd_at hF
      refine z_callVi (ctX5_get (E := E) (sh := shC) (f := f - 1) (by omega) (k := 134) (n := 2501) rfl rfl hc1663) yy_X5_get yv_X5_get ob_C_134 lk_RX8_72 (by omega) rfl rfl (Nat.le_of_ble_eq_true rfl) dX8_move_40 ?_
      refine z_istore_n (lv' := [(3, .int r1661), (0, .ref (za E 60)), (1, .int x1), (2, .int x2)]) dX8_move_43 rfl (by decide) rfl ?_
      refine z_aload_n 1 dX8_move_44 rfl rfl ?_
      refine z_getr fr_RX8_41 dX8_move_45 ?_
      refine z_aload_n 1 dX8_move_48 rfl rfl ?_
      refine z_getr fr_RX8_26 dX8_move_49 ?_
      refine z_iload_n 2 dX8_move_52 rfl rfl ?_
      obtain ⟨r1664, t1665, hc1666, hF⟩ := zbd_at hF
      refine z_callVi (ctX5_get (E := E) (sh := shC) (f := f - 1) (by omega) (k := 132) (n := 2501) rfl rfl hc1666) yy_X5_get yv_X5_get ob_C_132 lk_RX8_72 (by omega) rfl rfl (Nat.le_of_ble_eq_true rfl) dX8_move_53 ?_
      refine z_aload_n 1 dX8_move_56 rfl rfl ?_
      refine z_geti fi_RX8_60 dX8_move_57 ?_
      refine z_aload_n 1 dX8_move_60 rfl rfl ?_
      refine z_geti fi_RX8_63 dX8_move_61 ?_
      refine z_iadd dX8_move_64 ?_
      refine z_iload_n 0 dX8_move_65 rfl rfl ?_
      obtain ⟨r1667, t1668, hc1669, hF⟩ := zbd_at hF
      refine z_callVv (ctX5_copy (E := E) (sh := shC) (f := f - 1) (by omega) (k := 142) (n := 24000) rfl rfl hc1669) yy_X5_copy yv_X5_copy ob_C_142 lk_RX8_91 (by omega) rfl rfl (Nat.le_of_ble_eq_true rfl) dX8_move_66 ?_
      refine z_aload_n 1 dX8_move_69 rfl rfl ?_
      refine z_getr fr_RX8_44 dX8_move_70 ?_
      refine z_aload_n 1 dX8_move_73 rfl rfl ?_
      refine z_getr fr_RX8_26 dX8_move_74 ?_
      refine z_iload_n 2 dX8_move_77 rfl rfl ?_
      obtain ⟨r1670, t1671, hc1672, hF⟩ := zbd_at hF
      refine z_callVi (ctX5_get (E := E) (sh := shC) (f := f - 1) (by omega) (k := 132) (n := 2501) rfl rfl hc1672) yy_X5_get yv_X5_get ob_C_132 lk_RX8_72 (by omega) rfl rfl (Nat.le_of_ble_eq_true rfl) dX8_move_78 ?_
      refine z_aload_n 1 dX8_move_81 rfl rfl ?_
      refine z_geti fi_RX8_60 dX8_move_82 ?_
      refine z_aload_n 1 dX8_move_85 rfl rfl ?_
      refine z_geti fi_RX8_63 dX8_move_86 ?_
      refine z_iadd dX8_move_89 ?_
      refine z_iload_n 0 dX8_move_90 rfl rfl ?_
      obtain ⟨r1673, t1674, hc1675, hF⟩ := zbd_at hF
      refine z_callVv (ctX5_copy (E := E) (sh := shC) (f := f - 1) (by omega) (k := 144) (n := 24000) rfl rfl hc1675) yy_X5_copy yv_X5_copy ob_C_144 lk_RX8_91 (by omega) rfl rfl (Nat.le_of_ble_eq_true rfl) dX8_move_91 ?_
      refine z_aload_n 1 dX8_move_94 rfl rfl ?_
      refine z_getr fr_RX8_26 dX8_move_95 ?_
      refine z_iload_n 2 dX8_move_98 rfl rfl ?_
      refine z_aload_n 1 dX8_move_99 rfl rfl ?_
      refine z_geti fi_RX8_60 dX8_move_100 ?_
      refine z_aload_n 1 dX8_move_103 rfl rfl ?_
      refine z_geti fi_RX8_63 dX8_move_104 ?_
      refine z_iadd dX8_move_107 ?_
      obtain ⟨r1676, t1677, hc1678, hF⟩ := zbd_at hF
      refine z_callVv (ctX5_set (E := E) (sh := shC) (f := f - 1) (by omega) (k := 132) (n := 2501) rfl rfl hc1678) yy_X5_set yv_X5_set ob_C_132 lk_RX8_76 (by omega) rfl rfl (Nat.le_of_ble_eq_true rfl) dX8_move_108 ?_
      refine z_aload_n 1 dX8_move_111 rfl rfl ?_
      refine z_dup dX8_move_112 rfl ?_
      refine z_geti fi_RX8_63 dX8_move_113 ?_
      refine z_iload_n 0 dX8_move_116 rfl rfl ?_
      refine z_iadd dX8_move_117 ?_
      refine z_puti fw_RX8_63 dX8_move_118 (fun t1679 et1679 => ?_)
      have hF := zpt_at hF t1679 et1679
      refine z_aload_n 1 dX8_move_121 rfl rfl ?_
      refine z_getr fr_RX8_32 dX8_move_122 ?_
      refine z_iload_n 2 dX8_move_125 rfl rfl ?_
      obtain ⟨r1680, t1681, hc1682, hF⟩ := zbd_at hF
      refine z_callVi (ctX5_get (E := E) (sh := shC) (f := f - 1) (by omega) (k := 136) (n := 2501) rfl rfl hc1682) yy_X5_get yv_X5_get ob_C_136 lk_RX8_72 (by omega) rfl rfl (Nat.le_of_ble_eq_true rfl) dX8_move_126 ?_
      refine z_istore_n (lv' := [(1, .int r1680), (3, .int r1661), (0, .ref (za E 60)), (2, .int x2)]) dX8_move_129 rfl (by decide) rfl ?_
      obtain ⟨v1683, ev1683⟩ : ∃ y : Int32, y = (x2 + 1) := ⟨_, rfl⟩
      have hF := zlet_at ev1683 hF
      refine z_iinc (v := v1683) (lv' := [(2, .int v1683), (1, .int r1680), (3, .int r1661), (0, .ref (za E 60))]) (k := 3) dX8_move_130 rfl (by rw [ev1683]; rfl) (by decide) rfl ?_
      refine z_goto (tgt := 24) dX8_move_133 (by decide) ?_
      refine z_sub [3, 1, 0] rfl ?_
      exact hk24 r1680 v1683 _ hF
set_option maxHeartbeats 4000000 in
set_option maxRecDepth 20000 in
theorem wlX8_move_24 {E : zE} {C : zC} {f : Nat} {ro : Int32 × zS} (hf : 2 ≤ f) (fu : Nat) : ∀ (x1 x2 : Int32) (t : zS), lX8_move_24  fu x1 x2 t = some ro → zJ E shC C cX8_move RX8 4 f none ro t 24 [(0, .ref (za E 60)), (1, .int x1), (2, .int x2)] [] := by
  induction fu with
  | zero => intro x1 x2 t hF; cases hF
  | succ fu ih => intro x1 x2 t hF; exact wbX8_move_24 hf (lX8_move_24  fu) ih x1 x2 t hF
set_option maxHeartbeats 4000000 in
set_option maxRecDepth 20000 in
theorem ctX8_move {E : zE} {f : Nat} (hf : 2 ≤ f) {t : zS} {ro : Int32 × zS} (hF : mX8_move   t = some ro) : zM E shC f yX8_move cX8_move 4 none [.ref (za E 60)] t ro := by
  refine zM_of (by decide) (Nat.le_of_ble_eq_true rfl) (fun C => ?_)
  show zJ E shC C cX8_move RX8 4 f none ro t 0 [(0, .ref (za E 60))] []
  unfold mX8_move at hF
  refine z_aload_n 0 dX8_move_0 rfl rfl ?_
  refine z_sipush (v := 12000) dX8_move_1 (by decide) ?_
  refine z_aload_n 0 dX8_move_4 rfl rfl ?_
  refine z_geti fi_RX8_60 dX8_move_5 ?_
  refine z_isub dX8_move_8 ?_
  refine z_puti fw_RX8_60 dX8_move_9 (fun t1684 et1684 => ?_)
  have hF := zpt_at hF t1684 et1684
  refine z_aload_n 0 dX8_move_12 rfl rfl ?_
  refine z_iconst (v := 0) dX8_move_13 (by decide) ?_
  refine z_puti fw_RX8_63 dX8_move_14 (fun t1685 et1685 => ?_)
  have hF := zpt_at hF t1685 et1685
  refine z_aload_n 0 dX8_move_17 rfl rfl ?_
  refine z_geti fi_RX8_47 dX8_move_18 ?_
  refine z_topi (fun v1686 ev1686 => ?_)
  have hF := zlet_at ev1686 hF
  refine z_istore_n (lv' := [(1, .int v1686), (0, .ref (za E 60))]) dX8_move_21 rfl (by decide) rfl ?_
  refine z_iconst (v := 0) dX8_move_22 (by decide) ?_
  refine z_istore_n (lv' := [(2, .int 0), (1, .int v1686), (0, .ref (za E 60))]) dX8_move_23 rfl (by decide) rfl ?_
  refine z_sub [2, 1, 0] rfl ?_
  exact wlX8_move_24 hf  zFU v1686 0 _ hF
-- SessionHouse$Ring.become(IIII)V
theorem dX8_become_0 : decode cX8_become 0 = .ok (.aload_n 0, 1) := by decide +kernel
theorem dX8_become_1 : decode cX8_become 1 = .ok (.getfield 29, 3) := by decide +kernel
theorem dX8_become_4 : decode cX8_become 4 = .ok (.iload_n 1, 1) := by decide +kernel
theorem dX8_become_5 : decode cX8_become 5 = .ok (.iconst 0, 1) := by decide +kernel
theorem dX8_become_6 : decode cX8_become 6 = .ok (.invokevirtual 76, 3) := by decide +kernel
theorem dX8_become_9 : decode cX8_become 9 = .ok (.aload_n 0, 1) := by decide +kernel
theorem dX8_become_10 : decode cX8_become 10 = .ok (.getfield 63, 3) := by decide +kernel
theorem dX8_become_13 : decode cX8_become 13 = .ok (.iload_n 3, 1) := by decide +kernel
theorem dX8_become_14 : decode cX8_become 14 = .ok (.iadd, 1) := by decide +kernel
theorem dX8_become_15 : decode cX8_become 15 = .ok (.sipush 12000, 3) := by decide +kernel
theorem dX8_become_18 : decode cX8_become 18 = .ok (.if_icmp .le 7, 3) := by decide +kernel
theorem dX8_become_21 : decode cX8_become 21 = .ok (.aload_n 0, 1) := by decide +kernel
theorem dX8_become_22 : decode cX8_become 22 = .ok (.invokevirtual 84, 3) := by decide +kernel
theorem dX8_become_25 : decode cX8_become 25 = .ok (.aload_n 0, 1) := by decide +kernel
theorem dX8_become_26 : decode cX8_become 26 = .ok (.getfield 26, 3) := by decide +kernel
theorem dX8_become_29 : decode cX8_become 29 = .ok (.iload_n 1, 1) := by decide +kernel
theorem dX8_become_30 : decode cX8_become 30 = .ok (.aload_n 0, 1) := by decide +kernel
theorem dX8_become_31 : decode cX8_become 31 = .ok (.getfield 60, 3) := by decide +kernel
theorem dX8_become_34 : decode cX8_become 34 = .ok (.aload_n 0, 1) := by decide +kernel
theorem dX8_become_35 : decode cX8_become 35 = .ok (.getfield 63, 3) := by decide +kernel
theorem dX8_become_38 : decode cX8_become 38 = .ok (.iadd, 1) := by decide +kernel
theorem dX8_become_39 : decode cX8_become 39 = .ok (.invokevirtual 76, 3) := by decide +kernel
theorem dX8_become_42 : decode cX8_become 42 = .ok (.aload_n 0, 1) := by decide +kernel
theorem dX8_become_43 : decode cX8_become 43 = .ok (.getfield 29, 3) := by decide +kernel
theorem dX8_become_46 : decode cX8_become 46 = .ok (.iload_n 1, 1) := by decide +kernel
theorem dX8_become_47 : decode cX8_become 47 = .ok (.iload_n 3, 1) := by decide +kernel
theorem dX8_become_48 : decode cX8_become 48 = .ok (.invokevirtual 76, 3) := by decide +kernel
theorem dX8_become_51 : decode cX8_become 51 = .ok (.aload_n 0, 1) := by decide +kernel
theorem dX8_become_52 : decode cX8_become 52 = .ok (.getfield 41, 3) := by decide +kernel
theorem dX8_become_55 : decode cX8_become 55 = .ok (.aload_n 0, 1) := by decide +kernel
theorem dX8_become_56 : decode cX8_become 56 = .ok (.getfield 60, 3) := by decide +kernel
theorem dX8_become_59 : decode cX8_become 59 = .ok (.aload_n 0, 1) := by decide +kernel
theorem dX8_become_60 : decode cX8_become 60 = .ok (.getfield 63, 3) := by decide +kernel
theorem dX8_become_63 : decode cX8_become 63 = .ok (.iadd, 1) := by decide +kernel
theorem dX8_become_64 : decode cX8_become 64 = .ok (.aload_n 0, 1) := by decide +kernel
theorem dX8_become_65 : decode cX8_become 65 = .ok (.getfield 60, 3) := by decide +kernel
theorem dX8_become_68 : decode cX8_become 68 = .ok (.aload_n 0, 1) := by decide +kernel
theorem dX8_become_69 : decode cX8_become 69 = .ok (.getfield 63, 3) := by decide +kernel
theorem dX8_become_72 : decode cX8_become 72 = .ok (.iadd, 1) := by decide +kernel
theorem dX8_become_73 : decode cX8_become 73 = .ok (.iload_n 3, 1) := by decide +kernel
theorem dX8_become_74 : decode cX8_become 74 = .ok (.iadd, 1) := by decide +kernel
theorem dX8_become_75 : decode cX8_become 75 = .ok (.iconst 0, 1) := by decide +kernel
theorem dX8_become_76 : decode cX8_become 76 = .ok (.invokevirtual 87, 3) := by decide +kernel
theorem dX8_become_79 : decode cX8_become 79 = .ok (.aload_n 0, 1) := by decide +kernel
theorem dX8_become_80 : decode cX8_become 80 = .ok (.getfield 44, 3) := by decide +kernel
theorem dX8_become_83 : decode cX8_become 83 = .ok (.aload_n 0, 1) := by decide +kernel
theorem dX8_become_84 : decode cX8_become 84 = .ok (.getfield 60, 3) := by decide +kernel
theorem dX8_become_87 : decode cX8_become 87 = .ok (.aload_n 0, 1) := by decide +kernel
theorem dX8_become_88 : decode cX8_become 88 = .ok (.getfield 63, 3) := by decide +kernel
theorem dX8_become_91 : decode cX8_become 91 = .ok (.iadd, 1) := by decide +kernel
theorem dX8_become_92 : decode cX8_become 92 = .ok (.aload_n 0, 1) := by decide +kernel
theorem dX8_become_93 : decode cX8_become 93 = .ok (.getfield 60, 3) := by decide +kernel
theorem dX8_become_96 : decode cX8_become 96 = .ok (.aload_n 0, 1) := by decide +kernel
theorem dX8_become_97 : decode cX8_become 97 = .ok (.getfield 63, 3) := by decide +kernel
theorem dX8_become_100 : decode cX8_become 100 = .ok (.iadd, 1) := by decide +kernel
theorem dX8_become_101 : decode cX8_become 101 = .ok (.iload_n 3, 1) := by decide +kernel
theorem dX8_become_102 : decode cX8_become 102 = .ok (.iadd, 1) := by decide +kernel
theorem dX8_become_103 : decode cX8_become 103 = .ok (.iconst (-1), 1) := by decide +kernel
theorem dX8_become_104 : decode cX8_become 104 = .ok (.invokevirtual 87, 3) := by decide +kernel
theorem dX8_become_107 : decode cX8_become 107 = .ok (.aload_n 0, 1) := by decide +kernel
theorem dX8_become_108 : decode cX8_become 108 = .ok (.dup, 1) := by decide +kernel
theorem dX8_become_109 : decode cX8_become 109 = .ok (.getfield 63, 3) := by decide +kernel
theorem dX8_become_112 : decode cX8_become 112 = .ok (.iload_n 3, 1) := by decide +kernel
theorem dX8_become_113 : decode cX8_become 113 = .ok (.iadd, 1) := by decide +kernel
theorem dX8_become_114 : decode cX8_become 114 = .ok (.putfield 63, 3) := by decide +kernel
theorem dX8_become_117 : decode cX8_become 117 = .ok (.aload_n 0, 1) := by decide +kernel
theorem dX8_become_118 : decode cX8_become 118 = .ok (.getfield 14, 3) := by decide +kernel
theorem dX8_become_121 : decode cX8_become 121 = .ok (.iload_n 1, 1) := by decide +kernel
theorem dX8_become_122 : decode cX8_become 122 = .ok (.iload_n 2, 1) := by decide +kernel
theorem dX8_become_123 : decode cX8_become 123 = .ok (.invokevirtual 76, 3) := by decide +kernel
theorem dX8_become_126 : decode cX8_become 126 = .ok (.aload_n 0, 1) := by decide +kernel
theorem dX8_become_127 : decode cX8_become 127 = .ok (.getfield 20, 3) := by decide +kernel
theorem dX8_become_130 : decode cX8_become 130 = .ok (.iload_n 1, 1) := by decide +kernel
theorem dX8_become_131 : decode cX8_become 131 = .ok (.iload 4, 2) := by decide +kernel
theorem dX8_become_133 : decode cX8_become 133 = .ok (.invokevirtual 76, 3) := by decide +kernel
theorem dX8_become_136 : decode cX8_become 136 = .ok (.return_, 1) := by decide +kernel
def bX8_become_25 (x1 : Int32) (x2 : Int32) (x3 : Int32) (x4 : Int32) (t : zS) : zR := zbd (mX5_set 132 2501 x1 ((t 60 14) + (t 60 15)) t) fun r1687 t1688 => zbd (mX5_set 134 2501 x1 x3 t1688) fun r1690 t1691 => zbd (mX5_fill 142 24000 ((t1691 60 14) + (t1691 60 15)) (((t1691 60 14) + (t1691 60 15)) + x3) 0 t1691) fun r1693 t1694 => zbd (mX5_fill 144 24000 ((t1694 60 14) + (t1694 60 15)) (((t1694 60 14) + (t1694 60 15)) + x3) (-1) t1694) fun r1696 t1697 => zpt t1697 60 15 ((t1697 60 15) + x3) fun t1699 => zbd (mX5_set 126 2501 x1 x2 t1699) fun r1700 t1701 => zbd (mX5_set 128 2501 x1 x4 t1701) fun r1703 t1704 => some (0, t1704)
def mX8_become (x1 : Int32) (x2 : Int32) (x3 : Int32) (x4 : Int32) (t : zS) : zR := zbd (mX5_set 134 2501 x1 0 t) fun r1706 t1707 => if ((t1707 60 15) + x3) ≤ 12000 then bX8_become_25  x1 x2 x3 x4 t1707 else zbd (mX8_move  t1707) fun r1709 t1710 => bX8_become_25  x1 x2 x3 x4 t1710
set_option maxHeartbeats 4000000 in
set_option maxRecDepth 20000 in
theorem wbX8_become_25 {E : zE} {C : zC} {f : Nat} {ro : Int32 × zS} (hf : 3 ≤ f) (x1 : Int32) (x2 : Int32) (x3 : Int32) (x4 : Int32) (t : zS) (hF : bX8_become_25  x1 x2 x3 x4 t = some ro) : zJ E shC C cX8_become RX8 5 f none ro t 25 [(0, .ref (za E 60)), (1, .int x1), (2, .int x2), (3, .int x3), (4, .int x4)] [] := by
  unfold bX8_become_25 at hF
  refine z_aload_n 0 dX8_become_25 rfl rfl ?_
  refine z_getr fr_RX8_26 dX8_become_26 ?_
  refine z_iload_n 1 dX8_become_29 rfl rfl ?_
  refine z_aload_n 0 dX8_become_30 rfl rfl ?_
  refine z_geti fi_RX8_60 dX8_become_31 ?_
  refine z_aload_n 0 dX8_become_34 rfl rfl ?_
  refine z_geti fi_RX8_63 dX8_become_35 ?_
  refine z_iadd dX8_become_38 ?_
  obtain ⟨r1687, t1688, hc1689, hF⟩ := zbd_at hF
  refine z_callVv (ctX5_set (E := E) (sh := shC) (f := f - 1) (by omega) (k := 132) (n := 2501) rfl rfl hc1689) yy_X5_set yv_X5_set ob_C_132 lk_RX8_76 (by omega) rfl rfl (Nat.le_of_ble_eq_true rfl) dX8_become_39 ?_
  refine z_aload_n 0 dX8_become_42 rfl rfl ?_
  refine z_getr fr_RX8_29 dX8_become_43 ?_
  refine z_iload_n 1 dX8_become_46 rfl rfl ?_
  refine z_iload_n 3 dX8_become_47 rfl rfl ?_
  obtain ⟨r1690, t1691, hc1692, hF⟩ := zbd_at hF
  refine z_callVv (ctX5_set (E := E) (sh := shC) (f := f - 1) (by omega) (k := 134) (n := 2501) rfl rfl hc1692) yy_X5_set yv_X5_set ob_C_134 lk_RX8_76 (by omega) rfl rfl (Nat.le_of_ble_eq_true rfl) dX8_become_48 ?_
  refine z_aload_n 0 dX8_become_51 rfl rfl ?_
  refine z_getr fr_RX8_41 dX8_become_52 ?_
  refine z_aload_n 0 dX8_become_55 rfl rfl ?_
  refine z_geti fi_RX8_60 dX8_become_56 ?_
  refine z_aload_n 0 dX8_become_59 rfl rfl ?_
  refine z_geti fi_RX8_63 dX8_become_60 ?_
  refine z_iadd dX8_become_63 ?_
  refine z_aload_n 0 dX8_become_64 rfl rfl ?_
  refine z_geti fi_RX8_60 dX8_become_65 ?_
  refine z_aload_n 0 dX8_become_68 rfl rfl ?_
  refine z_geti fi_RX8_63 dX8_become_69 ?_
  refine z_iadd dX8_become_72 ?_
  refine z_iload_n 3 dX8_become_73 rfl rfl ?_
  refine z_iadd dX8_become_74 ?_
  refine z_iconst (v := 0) dX8_become_75 (by decide) ?_
  obtain ⟨r1693, t1694, hc1695, hF⟩ := zbd_at hF
  refine z_callVv (ctX5_fill (E := E) (sh := shC) (f := f - 1) (by omega) (k := 142) (n := 24000) rfl rfl hc1695) yy_X5_fill yv_X5_fill ob_C_142 lk_RX8_87 (by omega) rfl rfl (Nat.le_of_ble_eq_true rfl) dX8_become_76 ?_
  refine z_aload_n 0 dX8_become_79 rfl rfl ?_
  refine z_getr fr_RX8_44 dX8_become_80 ?_
  refine z_aload_n 0 dX8_become_83 rfl rfl ?_
  refine z_geti fi_RX8_60 dX8_become_84 ?_
  refine z_aload_n 0 dX8_become_87 rfl rfl ?_
  refine z_geti fi_RX8_63 dX8_become_88 ?_
  refine z_iadd dX8_become_91 ?_
  refine z_aload_n 0 dX8_become_92 rfl rfl ?_
  refine z_geti fi_RX8_60 dX8_become_93 ?_
  refine z_aload_n 0 dX8_become_96 rfl rfl ?_
  refine z_geti fi_RX8_63 dX8_become_97 ?_
  refine z_iadd dX8_become_100 ?_
  refine z_iload_n 3 dX8_become_101 rfl rfl ?_
  refine z_iadd dX8_become_102 ?_
  refine z_iconst (v := (-1)) dX8_become_103 (by decide) ?_
  obtain ⟨r1696, t1697, hc1698, hF⟩ := zbd_at hF
  refine z_callVv (ctX5_fill (E := E) (sh := shC) (f := f - 1) (by omega) (k := 144) (n := 24000) rfl rfl hc1698) yy_X5_fill yv_X5_fill ob_C_144 lk_RX8_87 (by omega) rfl rfl (Nat.le_of_ble_eq_true rfl) dX8_become_104 ?_
  refine z_aload_n 0 dX8_become_107 rfl rfl ?_
  refine z_dup dX8_become_108 rfl ?_
  refine z_geti fi_RX8_63 dX8_become_109 ?_
  refine z_iload_n 3 dX8_become_112 rfl rfl ?_
  refine z_iadd dX8_become_113 ?_
  refine z_puti fw_RX8_63 dX8_become_114 (fun t1699 et1699 => ?_)
  have hF := zpt_at hF t1699 et1699
  refine z_aload_n 0 dX8_become_117 rfl rfl ?_
  refine z_getr fr_RX8_14 dX8_become_118 ?_
  refine z_iload_n 1 dX8_become_121 rfl rfl ?_
  refine z_iload_n 2 dX8_become_122 rfl rfl ?_
  obtain ⟨r1700, t1701, hc1702, hF⟩ := zbd_at hF
  refine z_callVv (ctX5_set (E := E) (sh := shC) (f := f - 1) (by omega) (k := 126) (n := 2501) rfl rfl hc1702) yy_X5_set yv_X5_set ob_C_126 lk_RX8_76 (by omega) rfl rfl (Nat.le_of_ble_eq_true rfl) dX8_become_123 ?_
  refine z_aload_n 0 dX8_become_126 rfl rfl ?_
  refine z_getr fr_RX8_20 dX8_become_127 ?_
  refine z_iload_n 1 dX8_become_130 rfl rfl ?_
  refine z_iload 4 dX8_become_131 rfl ?_
  obtain ⟨r1703, t1704, hc1705, hF⟩ := zbd_at hF
  refine z_callVv (ctX5_set (E := E) (sh := shC) (f := f - 1) (by omega) (k := 128) (n := 2501) rfl rfl hc1705) yy_X5_set yv_X5_set ob_C_128 lk_RX8_76 (by omega) rfl rfl (Nat.le_of_ble_eq_true rfl) dX8_become_133 ?_
  exact z_vret hF dX8_become_136
set_option maxHeartbeats 4000000 in
set_option maxRecDepth 20000 in
theorem ctX8_become {E : zE} {f : Nat} (hf : 3 ≤ f) {x1 : Int32} {x2 : Int32} {x3 : Int32} {x4 : Int32} {t : zS} {ro : Int32 × zS} (hF : mX8_become  x1 x2 x3 x4 t = some ro) : zM E shC f yX8_become cX8_become 5 none [.ref (za E 60), .int x1, .int x2, .int x3, .int x4] t ro := by
  refine zM_of (by decide) (Nat.le_of_ble_eq_true rfl) (fun C => ?_)
  show zJ E shC C cX8_become RX8 5 f none ro t 0 [(0, .ref (za E 60)), (1, .int x1), (2, .int x2), (3, .int x3), (4, .int x4)] []
  unfold mX8_become at hF
  refine z_aload_n 0 dX8_become_0 rfl rfl ?_
  refine z_getr fr_RX8_29 dX8_become_1 ?_
  refine z_iload_n 1 dX8_become_4 rfl rfl ?_
  refine z_iconst (v := 0) dX8_become_5 (by decide) ?_
  obtain ⟨r1706, t1707, hc1708, hF⟩ := zbd_at hF
  refine z_callVv (ctX5_set (E := E) (sh := shC) (f := f - 1) (by omega) (k := 134) (n := 2501) rfl rfl hc1708) yy_X5_set yv_X5_set ob_C_134 lk_RX8_76 (by omega) rfl rfl (Nat.le_of_ble_eq_true rfl) dX8_become_6 ?_
  refine z_aload_n 0 dX8_become_9 rfl rfl ?_
  refine z_geti fi_RX8_63 dX8_become_10 ?_
  refine z_iload_n 3 dX8_become_13 rfl rfl ?_
  refine z_iadd dX8_become_14 ?_
  refine z_sipush (v := 12000) dX8_become_15 (by decide) ?_
  refine z_icmp_le (tgt := 25) dX8_become_18 (by decide) (fun hc => ?_) (fun hc => ?_)
  · have hF := zif_t hc hF
    exact wbX8_become_25 hf  x1 x2 x3 x4 _ hF
  · have hF := zif_f hc hF
    refine z_aload_n 0 dX8_become_21 rfl rfl ?_
    obtain ⟨r1709, t1710, hc1711, hF⟩ := zbd_at hF
    refine z_callVv (ctX8_move (E := E) (f := f - 1) (by omega) hc1711) yy_X8_move yv_X8_move ob_C_60 lk_RX8_84 (by omega) rfl rfl (Nat.le_of_ble_eq_true rfl) dX8_become_22 ?_
    exact wbX8_become_25 hf  x1 x2 x3 x4 _ hF
-- SessionHouse$Ring.join(III)I
theorem dX8_join_0 : decode cX8_join 0 = .ok (.aload_n 0, 1) := by decide +kernel
theorem dX8_join_1 : decode cX8_join 1 = .ok (.getfield 57, 3) := by decide +kernel
theorem dX8_join_4 : decode cX8_join 4 = .ok (.istore 4, 2) := by decide +kernel
theorem dX8_join_6 : decode cX8_join 6 = .ok (.aload_n 0, 1) := by decide +kernel
theorem dX8_join_7 : decode cX8_join 7 = .ok (.getfield 54, 3) := by decide +kernel
theorem dX8_join_10 : decode cX8_join 10 = .ok (.ifCond .le 29, 3) := by decide +kernel
theorem dX8_join_13 : decode cX8_join 13 = .ok (.aload_n 0, 1) := by decide +kernel
theorem dX8_join_14 : decode cX8_join 14 = .ok (.dup, 1) := by decide +kernel
theorem dX8_join_15 : decode cX8_join 15 = .ok (.getfield 54, 3) := by decide +kernel
theorem dX8_join_18 : decode cX8_join 18 = .ok (.iconst 1, 1) := by decide +kernel
theorem dX8_join_19 : decode cX8_join 19 = .ok (.isub, 1) := by decide +kernel
theorem dX8_join_20 : decode cX8_join 20 = .ok (.putfield 54, 3) := by decide +kernel
theorem dX8_join_23 : decode cX8_join 23 = .ok (.aload_n 0, 1) := by decide +kernel
theorem dX8_join_24 : decode cX8_join 24 = .ok (.getfield 38, 3) := by decide +kernel
theorem dX8_join_27 : decode cX8_join 27 = .ok (.aload_n 0, 1) := by decide +kernel
theorem dX8_join_28 : decode cX8_join 28 = .ok (.getfield 54, 3) := by decide +kernel
theorem dX8_join_31 : decode cX8_join 31 = .ok (.invokevirtual 72, 3) := by decide +kernel
theorem dX8_join_34 : decode cX8_join 34 = .ok (.istore 4, 2) := by decide +kernel
theorem dX8_join_36 : decode cX8_join 36 = .ok (.goto 13, 3) := by decide +kernel
theorem dX8_join_39 : decode cX8_join 39 = .ok (.aload_n 0, 1) := by decide +kernel
theorem dX8_join_40 : decode cX8_join 40 = .ok (.dup, 1) := by decide +kernel
theorem dX8_join_41 : decode cX8_join 41 = .ok (.getfield 57, 3) := by decide +kernel
theorem dX8_join_44 : decode cX8_join 44 = .ok (.iconst 1, 1) := by decide +kernel
theorem dX8_join_45 : decode cX8_join 45 = .ok (.iadd, 1) := by decide +kernel
theorem dX8_join_46 : decode cX8_join 46 = .ok (.putfield 57, 3) := by decide +kernel
theorem dX8_join_49 : decode cX8_join 49 = .ok (.aload_n 0, 1) := by decide +kernel
theorem dX8_join_50 : decode cX8_join 50 = .ok (.getfield 23, 3) := by decide +kernel
theorem dX8_join_53 : decode cX8_join 53 = .ok (.iload 4, 2) := by decide +kernel
theorem dX8_join_55 : decode cX8_join 55 = .ok (.iconst 0, 1) := by decide +kernel
theorem dX8_join_56 : decode cX8_join 56 = .ok (.invokevirtual 76, 3) := by decide +kernel
theorem dX8_join_59 : decode cX8_join 59 = .ok (.aload_n 0, 1) := by decide +kernel
theorem dX8_join_60 : decode cX8_join 60 = .ok (.iload 4, 2) := by decide +kernel
theorem dX8_join_62 : decode cX8_join 62 = .ok (.iload_n 1, 1) := by decide +kernel
theorem dX8_join_63 : decode cX8_join 63 = .ok (.iload_n 2, 1) := by decide +kernel
theorem dX8_join_64 : decode cX8_join 64 = .ok (.iload_n 3, 1) := by decide +kernel
theorem dX8_join_65 : decode cX8_join 65 = .ok (.invokevirtual 80, 3) := by decide +kernel
theorem dX8_join_68 : decode cX8_join 68 = .ok (.aload_n 0, 1) := by decide +kernel
theorem dX8_join_69 : decode cX8_join 69 = .ok (.getfield 32, 3) := by decide +kernel
theorem dX8_join_72 : decode cX8_join 72 = .ok (.iload 4, 2) := by decide +kernel
theorem dX8_join_74 : decode cX8_join 74 = .ok (.iconst (-1), 1) := by decide +kernel
theorem dX8_join_75 : decode cX8_join 75 = .ok (.invokevirtual 76, 3) := by decide +kernel
theorem dX8_join_78 : decode cX8_join 78 = .ok (.aload_n 0, 1) := by decide +kernel
theorem dX8_join_79 : decode cX8_join 79 = .ok (.getfield 35, 3) := by decide +kernel
theorem dX8_join_82 : decode cX8_join 82 = .ok (.iload 4, 2) := by decide +kernel
theorem dX8_join_84 : decode cX8_join 84 = .ok (.aload_n 0, 1) := by decide +kernel
theorem dX8_join_85 : decode cX8_join 85 = .ok (.getfield 51, 3) := by decide +kernel
theorem dX8_join_88 : decode cX8_join 88 = .ok (.invokevirtual 76, 3) := by decide +kernel
theorem dX8_join_91 : decode cX8_join 91 = .ok (.aload_n 0, 1) := by decide +kernel
theorem dX8_join_92 : decode cX8_join 92 = .ok (.getfield 51, 3) := by decide +kernel
theorem dX8_join_95 : decode cX8_join 95 = .ok (.ifCond .ge 12, 3) := by decide +kernel
theorem dX8_join_98 : decode cX8_join 98 = .ok (.aload_n 0, 1) := by decide +kernel
theorem dX8_join_99 : decode cX8_join 99 = .ok (.iload 4, 2) := by decide +kernel
theorem dX8_join_101 : decode cX8_join 101 = .ok (.putfield 47, 3) := by decide +kernel
theorem dX8_join_104 : decode cX8_join 104 = .ok (.goto 16, 3) := by decide +kernel
theorem dX8_join_107 : decode cX8_join 107 = .ok (.aload_n 0, 1) := by decide +kernel
theorem dX8_join_108 : decode cX8_join 108 = .ok (.getfield 32, 3) := by decide +kernel
theorem dX8_join_111 : decode cX8_join 111 = .ok (.aload_n 0, 1) := by decide +kernel
theorem dX8_join_112 : decode cX8_join 112 = .ok (.getfield 51, 3) := by decide +kernel
theorem dX8_join_115 : decode cX8_join 115 = .ok (.iload 4, 2) := by decide +kernel
theorem dX8_join_117 : decode cX8_join 117 = .ok (.invokevirtual 76, 3) := by decide +kernel
theorem dX8_join_120 : decode cX8_join 120 = .ok (.aload_n 0, 1) := by decide +kernel
theorem dX8_join_121 : decode cX8_join 121 = .ok (.iload 4, 2) := by decide +kernel
theorem dX8_join_123 : decode cX8_join 123 = .ok (.putfield 51, 3) := by decide +kernel
theorem dX8_join_126 : decode cX8_join 126 = .ok (.aload_n 0, 1) := by decide +kernel
theorem dX8_join_127 : decode cX8_join 127 = .ok (.dup, 1) := by decide +kernel
theorem dX8_join_128 : decode cX8_join 128 = .ok (.getfield 66, 3) := by decide +kernel
theorem dX8_join_131 : decode cX8_join 131 = .ok (.iconst 1, 1) := by decide +kernel
theorem dX8_join_132 : decode cX8_join 132 = .ok (.iadd, 1) := by decide +kernel
theorem dX8_join_133 : decode cX8_join 133 = .ok (.putfield 66, 3) := by decide +kernel
theorem dX8_join_136 : decode cX8_join 136 = .ok (.aload_n 0, 1) := by decide +kernel
theorem dX8_join_137 : decode cX8_join 137 = .ok (.dup, 1) := by decide +kernel
theorem dX8_join_138 : decode cX8_join 138 = .ok (.getfield 69, 3) := by decide +kernel
theorem dX8_join_141 : decode cX8_join 141 = .ok (.iconst 1, 1) := by decide +kernel
theorem dX8_join_142 : decode cX8_join 142 = .ok (.iadd, 1) := by decide +kernel
theorem dX8_join_143 : decode cX8_join 143 = .ok (.putfield 69, 3) := by decide +kernel
theorem dX8_join_146 : decode cX8_join 146 = .ok (.iload 4, 2) := by decide +kernel
theorem dX8_join_148 : decode cX8_join 148 = .ok (.ireturn, 1) := by decide +kernel
def bX8_join_120 (x4 : Int32) (t : zS) : zR := zpt t 60 11 x4 fun t1712 => zpt t1712 60 16 ((t1712 60 16) + 1) fun t1713 => zpt t1713 60 17 ((t1713 60 17) + 1) fun t1714 => some (x4, t1714)
def bX8_join_49 (x1 : Int32) (x2 : Int32) (x3 : Int32) (x4 : Int32) (t : zS) : zR := zbd (mX5_set 130 2501 x4 0 t) fun r1715 t1716 => zbd (mX8_become x4 x1 x2 x3 t1716) fun r1718 t1719 => zbd (mX5_set 136 2501 x4 (-1) t1719) fun r1721 t1722 => zbd (mX5_set 138 2501 x4 (t1722 60 11) t1722) fun r1724 t1725 => if 0 ≤ (t1725 60 11) then zbd (mX5_set 136 2501 (t1725 60 11) x4 t1725) fun r1727 t1728 => bX8_join_120  x4 t1728 else zpt t1725 60 10 x4 fun t1730 => bX8_join_120  x4 t1730
def mX8_join (x1 : Int32) (x2 : Int32) (x3 : Int32) (t : zS) : zR := zlet (t 60 13) fun v1731 => if (t 60 12) ≤ 0 then zpt t 60 13 ((t 60 13) + 1) fun t1732 => bX8_join_49  x1 x2 x3 v1731 t1732 else zpt t 60 12 ((t 60 12) - 1) fun t1733 => zbd (mX5_get 140 2501 (t1733 60 12) t1733) fun r1734 t1735 => bX8_join_49  x1 x2 x3 r1734 t1735
set_option maxHeartbeats 4000000 in
set_option maxRecDepth 20000 in
theorem wbX8_join_120 {E : zE} {C : zC} {f : Nat} {ro : Int32 × zS} (hf : 4 ≤ f) (x4 : Int32) (t : zS) (hF : bX8_join_120  x4 t = some ro) : zJ E shC C cX8_join RX8 5 f (some .int) ro t 120 [(0, .ref (za E 60)), (4, .int x4)] [] := by
  unfold bX8_join_120 at hF
  refine z_aload_n 0 dX8_join_120 rfl rfl ?_
  refine z_iload 1 dX8_join_121 rfl ?_
  refine z_puti fw_RX8_51 dX8_join_123 (fun t1712 et1712 => ?_)
  have hF := zpt_at hF t1712 et1712
  refine z_aload_n 0 dX8_join_126 rfl rfl ?_
  refine z_dup dX8_join_127 rfl ?_
  refine z_geti fi_RX8_66 dX8_join_128 ?_
  refine z_iconst (v := 1) dX8_join_131 (by decide) ?_
  refine z_iadd dX8_join_132 ?_
  refine z_puti fw_RX8_66 dX8_join_133 (fun t1713 et1713 => ?_)
  have hF := zpt_at hF t1713 et1713
  refine z_aload_n 0 dX8_join_136 rfl rfl ?_
  refine z_dup dX8_join_137 rfl ?_
  refine z_geti fi_RX8_69 dX8_join_138 ?_
  refine z_iconst (v := 1) dX8_join_141 (by decide) ?_
  refine z_iadd dX8_join_142 ?_
  refine z_puti fw_RX8_69 dX8_join_143 (fun t1714 et1714 => ?_)
  have hF := zpt_at hF t1714 et1714
  refine z_iload 1 dX8_join_146 rfl ?_
  exact z_iret hF dX8_join_148
set_option maxHeartbeats 4000000 in
set_option maxRecDepth 20000 in
theorem wbX8_join_49 {E : zE} {C : zC} {f : Nat} {ro : Int32 × zS} (hf : 4 ≤ f) (x1 : Int32) (x2 : Int32) (x3 : Int32) (x4 : Int32) (t : zS) (hF : bX8_join_49  x1 x2 x3 x4 t = some ro) : zJ E shC C cX8_join RX8 5 f (some .int) ro t 49 [(0, .ref (za E 60)), (1, .int x1), (2, .int x2), (3, .int x3), (4, .int x4)] [] := by
  unfold bX8_join_49 at hF
  refine z_aload_n 0 dX8_join_49 rfl rfl ?_
  refine z_getr fr_RX8_23 dX8_join_50 ?_
  refine z_iload 4 dX8_join_53 rfl ?_
  refine z_iconst (v := 0) dX8_join_55 (by decide) ?_
  obtain ⟨r1715, t1716, hc1717, hF⟩ := zbd_at hF
  refine z_callVv (ctX5_set (E := E) (sh := shC) (f := f - 1) (by omega) (k := 130) (n := 2501) rfl rfl hc1717) yy_X5_set yv_X5_set ob_C_130 lk_RX8_76 (by omega) rfl rfl (Nat.le_of_ble_eq_true rfl) dX8_join_56 ?_
  refine z_aload_n 0 dX8_join_59 rfl rfl ?_
  refine z_iload 4 dX8_join_60 rfl ?_
  refine z_iload_n 1 dX8_join_62 rfl rfl ?_
  refine z_iload_n 2 dX8_join_63 rfl rfl ?_
  refine z_iload_n 3 dX8_join_64 rfl rfl ?_
  obtain ⟨r1718, t1719, hc1720, hF⟩ := zbd_at hF
  refine z_callVv (ctX8_become (E := E) (f := f - 1) (by omega) hc1720) yy_X8_become yv_X8_become ob_C_60 lk_RX8_80 (by omega) rfl rfl (Nat.le_of_ble_eq_true rfl) dX8_join_65 ?_
  refine z_aload_n 0 dX8_join_68 rfl rfl ?_
  refine z_getr fr_RX8_32 dX8_join_69 ?_
  refine z_iload 4 dX8_join_72 rfl ?_
  refine z_iconst (v := (-1)) dX8_join_74 (by decide) ?_
  obtain ⟨r1721, t1722, hc1723, hF⟩ := zbd_at hF
  refine z_callVv (ctX5_set (E := E) (sh := shC) (f := f - 1) (by omega) (k := 136) (n := 2501) rfl rfl hc1723) yy_X5_set yv_X5_set ob_C_136 lk_RX8_76 (by omega) rfl rfl (Nat.le_of_ble_eq_true rfl) dX8_join_75 ?_
  refine z_aload_n 0 dX8_join_78 rfl rfl ?_
  refine z_getr fr_RX8_35 dX8_join_79 ?_
  refine z_iload 4 dX8_join_82 rfl ?_
  refine z_aload_n 0 dX8_join_84 rfl rfl ?_
  refine z_geti fi_RX8_51 dX8_join_85 ?_
  obtain ⟨r1724, t1725, hc1726, hF⟩ := zbd_at hF
  refine z_callVv (ctX5_set (E := E) (sh := shC) (f := f - 1) (by omega) (k := 138) (n := 2501) rfl rfl hc1726) yy_X5_set yv_X5_set ob_C_138 lk_RX8_76 (by omega) rfl rfl (Nat.le_of_ble_eq_true rfl) dX8_join_88 ?_
  refine z_aload_n 0 dX8_join_91 rfl rfl ?_
  refine z_geti fi_RX8_51 dX8_join_92 ?_
  refine z_if_ge (tgt := 107) dX8_join_95 (by decide) (fun hc => ?_) (fun hc => ?_)
  · have hF := zif_t hc hF
    refine z_aload_n 0 dX8_join_107 rfl rfl ?_
    refine z_getr fr_RX8_32 dX8_join_108 ?_
    refine z_aload_n 0 dX8_join_111 rfl rfl ?_
    refine z_geti fi_RX8_51 dX8_join_112 ?_
    refine z_iload 4 dX8_join_115 rfl ?_
    obtain ⟨r1727, t1728, hc1729, hF⟩ := zbd_at hF
    refine z_callVv (ctX5_set (E := E) (sh := shC) (f := f - 1) (by omega) (k := 136) (n := 2501) rfl rfl hc1729) yy_X5_set yv_X5_set ob_C_136 lk_RX8_76 (by omega) rfl rfl (Nat.le_of_ble_eq_true rfl) dX8_join_117 ?_
    refine z_sub [0, 4] rfl ?_
    exact wbX8_join_120 hf  x4 _ hF
  · have hF := zif_f hc hF
    refine z_aload_n 0 dX8_join_98 rfl rfl ?_
    refine z_iload 4 dX8_join_99 rfl ?_
    refine z_puti fw_RX8_47 dX8_join_101 (fun t1730 et1730 => ?_)
    have hF := zpt_at hF t1730 et1730
    refine z_goto (tgt := 120) dX8_join_104 (by decide) ?_
    refine z_sub [0, 4] rfl ?_
    exact wbX8_join_120 hf  x4 _ hF
set_option maxHeartbeats 4000000 in
set_option maxRecDepth 20000 in
theorem ctX8_join {E : zE} {f : Nat} (hf : 4 ≤ f) {x1 : Int32} {x2 : Int32} {x3 : Int32} {t : zS} {ro : Int32 × zS} (hF : mX8_join  x1 x2 x3 t = some ro) : zM E shC f yX8_join cX8_join 5 (some .int) [.ref (za E 60), .int x1, .int x2, .int x3] t ro := by
  refine zM_of (by decide) (Nat.le_of_ble_eq_true rfl) (fun C => ?_)
  show zJ E shC C cX8_join RX8 5 f (some .int) ro t 0 [(0, .ref (za E 60)), (1, .int x1), (2, .int x2), (3, .int x3)] []
  unfold mX8_join at hF
  refine z_aload_n 0 dX8_join_0 rfl rfl ?_
  refine z_geti fi_RX8_57 dX8_join_1 ?_
  refine z_topi (fun v1731 ev1731 => ?_)
  have hF := zlet_at ev1731 hF
  refine z_istore (lv' := [(4, .int v1731), (0, .ref (za E 60)), (1, .int x1), (2, .int x2), (3, .int x3)]) dX8_join_4 (by decide) rfl ?_
  refine z_aload_n 1 dX8_join_6 rfl rfl ?_
  refine z_geti fi_RX8_54 dX8_join_7 ?_
  refine z_if_le (tgt := 39) dX8_join_10 (by decide) (fun hc => ?_) (fun hc => ?_)
  · have hF := zif_t hc hF
    refine z_aload_n 1 dX8_join_39 rfl rfl ?_
    refine z_dup dX8_join_40 rfl ?_
    refine z_geti fi_RX8_57 dX8_join_41 ?_
    refine z_iconst (v := 1) dX8_join_44 (by decide) ?_
    refine z_iadd dX8_join_45 ?_
    refine z_puti fw_RX8_57 dX8_join_46 (fun t1732 et1732 => ?_)
    have hF := zpt_at hF t1732 et1732
    refine z_sub [1, 2, 3, 4, 0] rfl ?_
    exact wbX8_join_49 hf  x1 x2 x3 v1731 _ hF
  · have hF := zif_f hc hF
    refine z_aload_n 1 dX8_join_13 rfl rfl ?_
    refine z_dup dX8_join_14 rfl ?_
    refine z_geti fi_RX8_54 dX8_join_15 ?_
    refine z_iconst (v := 1) dX8_join_18 (by decide) ?_
    refine z_isub dX8_join_19 ?_
    refine z_puti fw_RX8_54 dX8_join_20 (fun t1733 et1733 => ?_)
    have hF := zpt_at hF t1733 et1733
    refine z_aload_n 1 dX8_join_23 rfl rfl ?_
    refine z_getr fr_RX8_38 dX8_join_24 ?_
    refine z_aload_n 1 dX8_join_27 rfl rfl ?_
    refine z_geti fi_RX8_54 dX8_join_28 ?_
    obtain ⟨r1734, t1735, hc1736, hF⟩ := zbd_at hF
    refine z_callVi (ctX5_get (E := E) (sh := shC) (f := f - 1) (by omega) (k := 140) (n := 2501) rfl rfl hc1736) yy_X5_get yv_X5_get ob_C_140 lk_RX8_72 (by omega) rfl rfl (Nat.le_of_ble_eq_true rfl) dX8_join_31 ?_
    refine z_istore (lv' := [(4, .int r1734), (0, .ref (za E 60)), (1, .int x1), (2, .int x2), (3, .int x3)]) dX8_join_34 (by decide) rfl ?_
    refine z_goto (tgt := 49) dX8_join_36 (by decide) ?_
    refine z_sub [1, 2, 3, 4, 0] rfl ?_
    exact wbX8_join_49 hf  x1 x2 x3 r1734 _ hF
-- SessionHouse$House.begin(II)I
theorem dX4_begin_0 : decode cX4_begin 0 = .ok (.aload_n 0, 1) := by decide +kernel
theorem dX4_begin_1 : decode cX4_begin 1 = .ok (.invokevirtual 83, 3) := by decide +kernel
theorem dX4_begin_4 : decode cX4_begin 4 = .ok (.aload_n 0, 1) := by decide +kernel
theorem dX4_begin_5 : decode cX4_begin 5 = .ok (.getfield 12, 3) := by decide +kernel
theorem dX4_begin_8 : decode cX4_begin 8 = .ok (.iload_n 1, 1) := by decide +kernel
theorem dX4_begin_9 : decode cX4_begin 9 = .ok (.invokevirtual 81, 3) := by decide +kernel
theorem dX4_begin_12 : decode cX4_begin 12 = .ok (.aload_n 0, 1) := by decide +kernel
theorem dX4_begin_13 : decode cX4_begin 13 = .ok (.iload_n 2, 1) := by decide +kernel
theorem dX4_begin_14 : decode cX4_begin 14 = .ok (.putfield 84, 3) := by decide +kernel
theorem dX4_begin_17 : decode cX4_begin 17 = .ok (.aload_n 0, 1) := by decide +kernel
theorem dX4_begin_18 : decode cX4_begin 18 = .ok (.getfield 52, 3) := by decide +kernel
theorem dX4_begin_21 : decode cX4_begin 21 = .ok (.bipush 17, 2) := by decide +kernel
theorem dX4_begin_23 : decode cX4_begin 23 = .ok (.invokevirtual 87, 3) := by decide +kernel
theorem dX4_begin_26 : decode cX4_begin 26 = .ok (.istore_n 3, 1) := by decide +kernel
theorem dX4_begin_27 : decode cX4_begin 27 = .ok (.aload_n 0, 1) := by decide +kernel
theorem dX4_begin_28 : decode cX4_begin 28 = .ok (.iload_n 3, 1) := by decide +kernel
theorem dX4_begin_29 : decode cX4_begin 29 = .ok (.invokevirtual 93, 3) := by decide +kernel
theorem dX4_begin_32 : decode cX4_begin 32 = .ok (.aload_n 0, 1) := by decide +kernel
theorem dX4_begin_33 : decode cX4_begin 33 = .ok (.getfield 84, 3) := by decide +kernel
theorem dX4_begin_36 : decode cX4_begin 36 = .ok (.if_icmp .le 13, 3) := by decide +kernel
theorem dX4_begin_39 : decode cX4_begin 39 = .ok (.aload_n 0, 1) := by decide +kernel
theorem dX4_begin_40 : decode cX4_begin 40 = .ok (.iconst 4, 1) := by decide +kernel
theorem dX4_begin_41 : decode cX4_begin 41 = .ok (.putfield 40, 3) := by decide +kernel
theorem dX4_begin_44 : decode cX4_begin 44 = .ok (.aload_n 0, 1) := by decide +kernel
theorem dX4_begin_45 : decode cX4_begin 45 = .ok (.getfield 40, 3) := by decide +kernel
theorem dX4_begin_48 : decode cX4_begin 48 = .ok (.ireturn, 1) := by decide +kernel
theorem dX4_begin_49 : decode cX4_begin 49 = .ok (.aload_n 0, 1) := by decide +kernel
theorem dX4_begin_50 : decode cX4_begin 50 = .ok (.aload_n 0, 1) := by decide +kernel
theorem dX4_begin_51 : decode cX4_begin 51 = .ok (.iload_n 3, 1) := by decide +kernel
theorem dX4_begin_52 : decode cX4_begin 52 = .ok (.invokevirtual 93, 3) := by decide +kernel
theorem dX4_begin_55 : decode cX4_begin 55 = .ok (.putfield 75, 3) := by decide +kernel
theorem dX4_begin_58 : decode cX4_begin 58 = .ok (.aload_n 0, 1) := by decide +kernel
theorem dX4_begin_59 : decode cX4_begin 59 = .ok (.aload_n 0, 1) := by decide +kernel
theorem dX4_begin_60 : decode cX4_begin 60 = .ok (.getfield 21, 3) := by decide +kernel
theorem dX4_begin_63 : decode cX4_begin 63 = .ok (.iload_n 3, 1) := by decide +kernel
theorem dX4_begin_64 : decode cX4_begin 64 = .ok (.aload_n 0, 1) := by decide +kernel
theorem dX4_begin_65 : decode cX4_begin 65 = .ok (.getfield 52, 3) := by decide +kernel
theorem dX4_begin_68 : decode cX4_begin 68 = .ok (.getfield 96, 3) := by decide +kernel
theorem dX4_begin_71 : decode cX4_begin 71 = .ok (.iload_n 3, 1) := by decide +kernel
theorem dX4_begin_72 : decode cX4_begin 72 = .ok (.invokevirtual 99, 3) := by decide +kernel
theorem dX4_begin_75 : decode cX4_begin 75 = .ok (.aload_n 0, 1) := by decide +kernel
theorem dX4_begin_76 : decode cX4_begin 76 = .ok (.getfield 52, 3) := by decide +kernel
theorem dX4_begin_79 : decode cX4_begin 79 = .ok (.getfield 102, 3) := by decide +kernel
theorem dX4_begin_82 : decode cX4_begin 82 = .ok (.iload_n 3, 1) := by decide +kernel
theorem dX4_begin_83 : decode cX4_begin 83 = .ok (.invokevirtual 99, 3) := by decide +kernel
theorem dX4_begin_86 : decode cX4_begin 86 = .ok (.invokevirtual 105, 3) := by decide +kernel
theorem dX4_begin_89 : decode cX4_begin 89 = .ok (.putfield 109, 3) := by decide +kernel
theorem dX4_begin_92 : decode cX4_begin 92 = .ok (.aload_n 0, 1) := by decide +kernel
theorem dX4_begin_93 : decode cX4_begin 93 = .ok (.iconst 0, 1) := by decide +kernel
theorem dX4_begin_94 : decode cX4_begin 94 = .ok (.putfield 40, 3) := by decide +kernel
theorem dX4_begin_97 : decode cX4_begin 97 = .ok (.aload_n 0, 1) := by decide +kernel
theorem dX4_begin_98 : decode cX4_begin 98 = .ok (.getfield 40, 3) := by decide +kernel
theorem dX4_begin_101 : decode cX4_begin 101 = .ok (.ireturn, 1) := by decide +kernel
def mX4_begin (x1 : Int32) (x2 : Int32) (t : zS) : zR := zbd (mX4_forget  t) fun r1737 t1738 => zbd (mX0_forget x1 t1738) fun r1740 t1741 => zpt t1741 7 15 x2 fun t1743 => zbd (mX6_find 17 t1743) fun r1744 t1745 => zbd (mX4_cellsOf r1744 t1745) fun r1747 t1748 => if r1747 ≤ (t1748 7 15) then zbd (mX4_cellsOf r1744 t1748) fun r1750 t1751 => zpt t1751 7 14 r1750 fun t1753 => zbd (mX5_get 38 400 r1744 t1753) fun r1754 t1755 => zbd (mX5_get 40 400 r1744 t1755) fun r1757 t1758 => zbd (mX8_join r1744 r1754 r1757 t1758) fun r1760 t1761 => zpt t1761 7 13 r1760 fun t1763 => zpt t1763 7 16 0 fun t1764 => some ((t1764 7 16), t1764) else zpt t1748 7 16 4 fun t1765 => some ((t1765 7 16), t1765)
set_option maxHeartbeats 4000000 in
set_option maxRecDepth 20000 in
theorem ctX4_begin {E : zE} {f : Nat} (hf : 5 ≤ f) {x1 : Int32} {x2 : Int32} {t : zS} {ro : Int32 × zS} (hF : mX4_begin  x1 x2 t = some ro) : zM E shC f yX4_begin cX4_begin 4 (some .int) [.ref (za E 7), .int x1, .int x2] t ro := by
  refine zM_of (by decide) (Nat.le_of_ble_eq_true rfl) (fun C => ?_)
  show zJ E shC C cX4_begin RX4 4 f (some .int) ro t 0 [(0, .ref (za E 7)), (1, .int x1), (2, .int x2)] []
  unfold mX4_begin at hF
  refine z_aload_n 0 dX4_begin_0 rfl rfl ?_
  obtain ⟨r1737, t1738, hc1739, hF⟩ := zbd_at hF
  refine z_callVv (ctX4_forget (E := E) (f := f - 1) (by omega) hc1739) yy_X4_forget yv_X4_forget ob_C_7 lk_RX4_83 (by omega) rfl rfl (Nat.le_of_ble_eq_true rfl) dX4_begin_1 ?_
  refine z_aload_n 0 dX4_begin_4 rfl rfl ?_
  refine z_getr fr_RX4_12 dX4_begin_5 ?_
  refine z_iload_n 1 dX4_begin_8 rfl rfl ?_
  obtain ⟨r1740, t1741, hc1742, hF⟩ := zbd_at hF
  refine z_callVv (ctX0_forget (E := E) (f := f - 1) (by omega) hc1742) yy_X0_forget yv_X0_forget ob_C_59 lk_RX4_81 (by omega) rfl rfl (Nat.le_of_ble_eq_true rfl) dX4_begin_9 ?_
  refine z_aload_n 0 dX4_begin_12 rfl rfl ?_
  refine z_iload_n 2 dX4_begin_13 rfl rfl ?_
  refine z_puti fw_RX4_84 dX4_begin_14 (fun t1743 et1743 => ?_)
  have hF := zpt_at hF t1743 et1743
  refine z_aload_n 0 dX4_begin_17 rfl rfl ?_
  refine z_getr fr_RX4_52 dX4_begin_18 ?_
  refine z_bipush (v := 17) dX4_begin_21 (by decide) ?_
  obtain ⟨r1744, t1745, hc1746, hF⟩ := zbd_at hF
  refine z_callVi (ctX6_find (E := E) (f := f - 1) (by omega) hc1746) yy_X6_find yv_X6_find ob_C_4 lk_RX4_87 (by omega) rfl rfl (Nat.le_of_ble_eq_true rfl) dX4_begin_23 ?_
  refine z_istore_n (lv' := [(3, .int r1744), (0, .ref (za E 7)), (1, .int x1), (2, .int x2)]) dX4_begin_26 rfl (by decide) rfl ?_
  refine z_aload_n 1 dX4_begin_27 rfl rfl ?_
  refine z_iload_n 0 dX4_begin_28 rfl rfl ?_
  obtain ⟨r1747, t1748, hc1749, hF⟩ := zbd_at hF
  refine z_callVi (ctX4_cellsOf (E := E) (f := f - 1) (by omega) hc1749) yy_X4_cellsOf yv_X4_cellsOf ob_C_7 lk_RX4_93 (by omega) rfl rfl (Nat.le_of_ble_eq_true rfl) dX4_begin_29 ?_
  refine z_aload_n 1 dX4_begin_32 rfl rfl ?_
  refine z_geti fi_RX4_84 dX4_begin_33 ?_
  refine z_icmp_le (tgt := 49) dX4_begin_36 (by decide) (fun hc => ?_) (fun hc => ?_)
  · have hF := zif_t hc hF
    refine z_aload_n 1 dX4_begin_49 rfl rfl ?_
    refine z_aload_n 1 dX4_begin_50 rfl rfl ?_
    refine z_iload_n 0 dX4_begin_51 rfl rfl ?_
    obtain ⟨r1750, t1751, hc1752, hF⟩ := zbd_at hF
    refine z_callVi (ctX4_cellsOf (E := E) (f := f - 1) (by omega) hc1752) yy_X4_cellsOf yv_X4_cellsOf ob_C_7 lk_RX4_93 (by omega) rfl rfl (Nat.le_of_ble_eq_true rfl) dX4_begin_52 ?_
    refine z_puti fw_RX4_75 dX4_begin_55 (fun t1753 et1753 => ?_)
    have hF := zpt_at hF t1753 et1753
    refine z_aload_n 1 dX4_begin_58 rfl rfl ?_
    refine z_aload_n 1 dX4_begin_59 rfl rfl ?_
    refine z_getr fr_RX4_21 dX4_begin_60 ?_
    refine z_iload_n 0 dX4_begin_63 rfl rfl ?_
    refine z_aload_n 1 dX4_begin_64 rfl rfl ?_
    refine z_getr fr_RX4_52 dX4_begin_65 ?_
    refine z_getr fr_RX4_96 dX4_begin_68 ?_
    refine z_iload_n 0 dX4_begin_71 rfl rfl ?_
    obtain ⟨r1754, t1755, hc1756, hF⟩ := zbd_at hF
    refine z_callVi (ctX5_get (E := E) (sh := shC) (f := f - 1) (by omega) (k := 38) (n := 400) rfl rfl hc1756) yy_X5_get yv_X5_get ob_C_38 lk_RX4_99 (by omega) rfl rfl (Nat.le_of_ble_eq_true rfl) dX4_begin_72 ?_
    refine z_aload_n 1 dX4_begin_75 rfl rfl ?_
    refine z_getr fr_RX4_52 dX4_begin_76 ?_
    refine z_getr fr_RX4_102 dX4_begin_79 ?_
    refine z_iload_n 0 dX4_begin_82 rfl rfl ?_
    obtain ⟨r1757, t1758, hc1759, hF⟩ := zbd_at hF
    refine z_callVi (ctX5_get (E := E) (sh := shC) (f := f - 1) (by omega) (k := 40) (n := 400) rfl rfl hc1759) yy_X5_get yv_X5_get ob_C_40 lk_RX4_99 (by omega) rfl rfl (Nat.le_of_ble_eq_true rfl) dX4_begin_83 ?_
    obtain ⟨r1760, t1761, hc1762, hF⟩ := zbd_at hF
    refine z_callVi (ctX8_join (E := E) (f := f - 1) (by omega) hc1762) yy_X8_join yv_X8_join ob_C_60 lk_RX4_105 (by omega) rfl rfl (Nat.le_of_ble_eq_true rfl) dX4_begin_86 ?_
    refine z_puti fw_RX4_109 dX4_begin_89 (fun t1763 et1763 => ?_)
    have hF := zpt_at hF t1763 et1763
    refine z_aload_n 1 dX4_begin_92 rfl rfl ?_
    refine z_iconst (v := 0) dX4_begin_93 (by decide) ?_
    refine z_puti fw_RX4_40 dX4_begin_94 (fun t1764 et1764 => ?_)
    have hF := zpt_at hF t1764 et1764
    refine z_aload_n 1 dX4_begin_97 rfl rfl ?_
    refine z_geti fi_RX4_40 dX4_begin_98 ?_
    exact z_iret hF dX4_begin_101
  · have hF := zif_f hc hF
    refine z_aload_n 1 dX4_begin_39 rfl rfl ?_
    refine z_iconst (v := 4) dX4_begin_40 (by decide) ?_
    refine z_puti fw_RX4_40 dX4_begin_41 (fun t1765 et1765 => ?_)
    have hF := zpt_at hF t1765 et1765
    refine z_aload_n 1 dX4_begin_44 rfl rfl ?_
    refine z_geti fi_RX4_40 dX4_begin_45 ?_
    exact z_iret hF dX4_begin_48
-- SessionHouse.start()I
theorem dX11_start_0 : decode cX11_start 0 = .ok (.aload_n 0, 1) := by decide +kernel
theorem dX11_start_1 : decode cX11_start 1 = .ok (.getfield 80, 3) := by decide +kernel
theorem dX11_start_4 : decode cX11_start 4 = .ok (.ifCond .eq 21, 3) := by decide +kernel
theorem dX11_start_7 : decode cX11_start 7 = .ok (.aload_n 0, 1) := by decide +kernel
theorem dX11_start_8 : decode cX11_start 8 = .ok (.getfield 58, 3) := by decide +kernel
theorem dX11_start_11 : decode cX11_start 11 = .ok (.aload_n 0, 1) := by decide +kernel
theorem dX11_start_12 : decode cX11_start 12 = .ok (.getfield 18, 3) := by decide +kernel
theorem dX11_start_15 : decode cX11_start 15 = .ok (.aload_n 0, 1) := by decide +kernel
theorem dX11_start_16 : decode cX11_start 16 = .ok (.getfield 22, 3) := by decide +kernel
theorem dX11_start_19 : decode cX11_start 19 = .ok (.invokevirtual 104, 3) := by decide +kernel
theorem dX11_start_22 : decode cX11_start 22 = .ok (.goto 4, 3) := by decide +kernel
theorem dX11_start_25 : decode cX11_start 25 = .ok (.iconst (-1), 1) := by decide +kernel
theorem dX11_start_26 : decode cX11_start 26 = .ok (.ireturn, 1) := by decide +kernel
def mX11_start (t : zS) : zR := if (t 0 9) = 0 then some ((-1), t) else zbd (mX4_begin (t 0 7) (t 0 8) t) fun r1766 t1767 => some (r1766, t1767)
set_option maxHeartbeats 4000000 in
set_option maxRecDepth 20000 in
theorem ctX11_start {E : zE} {f : Nat} (hf : 6 ≤ f) {t : zS} {ro : Int32 × zS} (hF : mX11_start   t = some ro) : zM E shC f yX11_start cX11_start 1 (some .int) [.ref (za E 0)] t ro := by
  refine zM_of (by decide) (Nat.le_of_ble_eq_true rfl) (fun C => ?_)
  show zJ E shC C cX11_start RX11 1 f (some .int) ro t 0 [(0, .ref (za E 0))] []
  unfold mX11_start at hF
  refine z_aload_n 0 dX11_start_0 rfl rfl ?_
  refine z_geti fi_RX11_80 dX11_start_1 ?_
  refine z_if_eq (tgt := 25) dX11_start_4 (by decide) (fun hc => ?_) (fun hc => ?_)
  · have hF := zif_t hc hF
    refine z_iconst (v := (-1)) dX11_start_25 (by decide) ?_
    exact z_iret hF dX11_start_26
  · have hF := zif_f hc hF
    refine z_aload_n 0 dX11_start_7 rfl rfl ?_
    refine z_getr fr_RX11_58 dX11_start_8 ?_
    refine z_aload_n 0 dX11_start_11 rfl rfl ?_
    refine z_geti fi_RX11_18 dX11_start_12 ?_
    refine z_aload_n 0 dX11_start_15 rfl rfl ?_
    refine z_geti fi_RX11_22 dX11_start_16 ?_
    obtain ⟨r1766, t1767, hc1768, hF⟩ := zbd_at hF
    refine z_callVi (ctX4_begin (E := E) (f := f - 1) (by omega) hc1768) yy_X4_begin yv_X4_begin ob_C_7 lk_RX11_104 (by omega) rfl rfl (Nat.le_of_ble_eq_true rfl) dX11_start_19 ?_
    refine z_goto (tgt := 26) dX11_start_22 (by decide) ?_
    exact z_iret hF dX11_start_26
-- SessionHouse$Ring.leave(I)V
theorem dX8_leave_0 : decode cX8_leave 0 = .ok (.aload_n 0, 1) := by decide +kernel
theorem dX8_leave_1 : decode cX8_leave 1 = .ok (.getfield 35, 3) := by decide +kernel
theorem dX8_leave_4 : decode cX8_leave 4 = .ok (.iload_n 1, 1) := by decide +kernel
theorem dX8_leave_5 : decode cX8_leave 5 = .ok (.invokevirtual 72, 3) := by decide +kernel
theorem dX8_leave_8 : decode cX8_leave 8 = .ok (.istore_n 2, 1) := by decide +kernel
theorem dX8_leave_9 : decode cX8_leave 9 = .ok (.aload_n 0, 1) := by decide +kernel
theorem dX8_leave_10 : decode cX8_leave 10 = .ok (.getfield 32, 3) := by decide +kernel
theorem dX8_leave_13 : decode cX8_leave 13 = .ok (.iload_n 1, 1) := by decide +kernel
theorem dX8_leave_14 : decode cX8_leave 14 = .ok (.invokevirtual 72, 3) := by decide +kernel
theorem dX8_leave_17 : decode cX8_leave 17 = .ok (.istore_n 3, 1) := by decide +kernel
theorem dX8_leave_18 : decode cX8_leave 18 = .ok (.iload_n 2, 1) := by decide +kernel
theorem dX8_leave_19 : decode cX8_leave 19 = .ok (.ifCond .ge 11, 3) := by decide +kernel
theorem dX8_leave_22 : decode cX8_leave 22 = .ok (.aload_n 0, 1) := by decide +kernel
theorem dX8_leave_23 : decode cX8_leave 23 = .ok (.iload_n 3, 1) := by decide +kernel
theorem dX8_leave_24 : decode cX8_leave 24 = .ok (.putfield 47, 3) := by decide +kernel
theorem dX8_leave_27 : decode cX8_leave 27 = .ok (.goto 12, 3) := by decide +kernel
theorem dX8_leave_30 : decode cX8_leave 30 = .ok (.aload_n 0, 1) := by decide +kernel
theorem dX8_leave_31 : decode cX8_leave 31 = .ok (.getfield 32, 3) := by decide +kernel
theorem dX8_leave_34 : decode cX8_leave 34 = .ok (.iload_n 2, 1) := by decide +kernel
theorem dX8_leave_35 : decode cX8_leave 35 = .ok (.iload_n 3, 1) := by decide +kernel
theorem dX8_leave_36 : decode cX8_leave 36 = .ok (.invokevirtual 76, 3) := by decide +kernel
theorem dX8_leave_39 : decode cX8_leave 39 = .ok (.iload_n 3, 1) := by decide +kernel
theorem dX8_leave_40 : decode cX8_leave 40 = .ok (.ifCond .ge 11, 3) := by decide +kernel
theorem dX8_leave_43 : decode cX8_leave 43 = .ok (.aload_n 0, 1) := by decide +kernel
theorem dX8_leave_44 : decode cX8_leave 44 = .ok (.iload_n 2, 1) := by decide +kernel
theorem dX8_leave_45 : decode cX8_leave 45 = .ok (.putfield 51, 3) := by decide +kernel
theorem dX8_leave_48 : decode cX8_leave 48 = .ok (.goto 12, 3) := by decide +kernel
theorem dX8_leave_51 : decode cX8_leave 51 = .ok (.aload_n 0, 1) := by decide +kernel
theorem dX8_leave_52 : decode cX8_leave 52 = .ok (.getfield 35, 3) := by decide +kernel
theorem dX8_leave_55 : decode cX8_leave 55 = .ok (.iload_n 3, 1) := by decide +kernel
theorem dX8_leave_56 : decode cX8_leave 56 = .ok (.iload_n 2, 1) := by decide +kernel
theorem dX8_leave_57 : decode cX8_leave 57 = .ok (.invokevirtual 76, 3) := by decide +kernel
theorem dX8_leave_60 : decode cX8_leave 60 = .ok (.aload_n 0, 1) := by decide +kernel
theorem dX8_leave_61 : decode cX8_leave 61 = .ok (.getfield 38, 3) := by decide +kernel
theorem dX8_leave_64 : decode cX8_leave 64 = .ok (.aload_n 0, 1) := by decide +kernel
theorem dX8_leave_65 : decode cX8_leave 65 = .ok (.getfield 54, 3) := by decide +kernel
theorem dX8_leave_68 : decode cX8_leave 68 = .ok (.iload_n 1, 1) := by decide +kernel
theorem dX8_leave_69 : decode cX8_leave 69 = .ok (.invokevirtual 76, 3) := by decide +kernel
theorem dX8_leave_72 : decode cX8_leave 72 = .ok (.aload_n 0, 1) := by decide +kernel
theorem dX8_leave_73 : decode cX8_leave 73 = .ok (.dup, 1) := by decide +kernel
theorem dX8_leave_74 : decode cX8_leave 74 = .ok (.getfield 54, 3) := by decide +kernel
theorem dX8_leave_77 : decode cX8_leave 77 = .ok (.iconst 1, 1) := by decide +kernel
theorem dX8_leave_78 : decode cX8_leave 78 = .ok (.iadd, 1) := by decide +kernel
theorem dX8_leave_79 : decode cX8_leave 79 = .ok (.putfield 54, 3) := by decide +kernel
theorem dX8_leave_82 : decode cX8_leave 82 = .ok (.aload_n 0, 1) := by decide +kernel
theorem dX8_leave_83 : decode cX8_leave 83 = .ok (.dup, 1) := by decide +kernel
theorem dX8_leave_84 : decode cX8_leave 84 = .ok (.getfield 66, 3) := by decide +kernel
theorem dX8_leave_87 : decode cX8_leave 87 = .ok (.iconst 1, 1) := by decide +kernel
theorem dX8_leave_88 : decode cX8_leave 88 = .ok (.isub, 1) := by decide +kernel
theorem dX8_leave_89 : decode cX8_leave 89 = .ok (.putfield 66, 3) := by decide +kernel
theorem dX8_leave_92 : decode cX8_leave 92 = .ok (.return_, 1) := by decide +kernel
def bX8_leave_60 (x1 : Int32) (t : zS) : zR := zbd (mX5_set 140 2501 (t 60 12) x1 t) fun r1769 t1770 => zpt t1770 60 12 ((t1770 60 12) + 1) fun t1772 => zpt t1772 60 16 ((t1772 60 16) - 1) fun t1773 => some (0, t1773)
def bX8_leave_39 (x1 : Int32) (x2 : Int32) (x3 : Int32) (t : zS) : zR := if 0 ≤ x3 then zbd (mX5_set 138 2501 x3 x2 t) fun r1774 t1775 => bX8_leave_60  x1 t1775 else zpt t 60 11 x2 fun t1777 => bX8_leave_60  x1 t1777
def mX8_leave (x1 : Int32) (t : zS) : zR := zbd (mX5_get 138 2501 x1 t) fun r1778 t1779 => zbd (mX5_get 136 2501 x1 t1779) fun r1781 t1782 => if 0 ≤ r1778 then zbd (mX5_set 136 2501 r1778 r1781 t1782) fun r1784 t1785 => bX8_leave_39  x1 r1778 r1781 t1785 else zpt t1782 60 10 r1781 fun t1787 => bX8_leave_39  x1 r1778 r1781 t1787
set_option maxHeartbeats 4000000 in
set_option maxRecDepth 20000 in
theorem wbX8_leave_60 {E : zE} {C : zC} {f : Nat} {ro : Int32 × zS} (hf : 2 ≤ f) (x1 : Int32) (t : zS) (hF : bX8_leave_60  x1 t = some ro) : zJ E shC C cX8_leave RX8 4 f none ro t 60 [(0, .ref (za E 60)), (1, .int x1)] [] := by
  unfold bX8_leave_60 at hF
  refine z_aload_n 0 dX8_leave_60 rfl rfl ?_
  refine z_getr fr_RX8_38 dX8_leave_61 ?_
  refine z_aload_n 0 dX8_leave_64 rfl rfl ?_
  refine z_geti fi_RX8_54 dX8_leave_65 ?_
  refine z_iload_n 1 dX8_leave_68 rfl rfl ?_
  obtain ⟨r1769, t1770, hc1771, hF⟩ := zbd_at hF
  refine z_callVv (ctX5_set (E := E) (sh := shC) (f := f - 1) (by omega) (k := 140) (n := 2501) rfl rfl hc1771) yy_X5_set yv_X5_set ob_C_140 lk_RX8_76 (by omega) rfl rfl (Nat.le_of_ble_eq_true rfl) dX8_leave_69 ?_
  refine z_aload_n 0 dX8_leave_72 rfl rfl ?_
  refine z_dup dX8_leave_73 rfl ?_
  refine z_geti fi_RX8_54 dX8_leave_74 ?_
  refine z_iconst (v := 1) dX8_leave_77 (by decide) ?_
  refine z_iadd dX8_leave_78 ?_
  refine z_puti fw_RX8_54 dX8_leave_79 (fun t1772 et1772 => ?_)
  have hF := zpt_at hF t1772 et1772
  refine z_aload_n 0 dX8_leave_82 rfl rfl ?_
  refine z_dup dX8_leave_83 rfl ?_
  refine z_geti fi_RX8_66 dX8_leave_84 ?_
  refine z_iconst (v := 1) dX8_leave_87 (by decide) ?_
  refine z_isub dX8_leave_88 ?_
  refine z_puti fw_RX8_66 dX8_leave_89 (fun t1773 et1773 => ?_)
  have hF := zpt_at hF t1773 et1773
  exact z_vret hF dX8_leave_92
set_option maxHeartbeats 4000000 in
set_option maxRecDepth 20000 in
theorem wbX8_leave_39 {E : zE} {C : zC} {f : Nat} {ro : Int32 × zS} (hf : 2 ≤ f) (x1 : Int32) (x2 : Int32) (x3 : Int32) (t : zS) (hF : bX8_leave_39  x1 x2 x3 t = some ro) : zJ E shC C cX8_leave RX8 4 f none ro t 39 [(0, .ref (za E 60)), (1, .int x1), (2, .int x2), (3, .int x3)] [] := by
  unfold bX8_leave_39 at hF
  refine z_iload_n 3 dX8_leave_39 rfl rfl ?_
  refine z_if_ge (tgt := 51) dX8_leave_40 (by decide) (fun hc => ?_) (fun hc => ?_)
  · have hF := zif_t hc hF
    refine z_aload_n 0 dX8_leave_51 rfl rfl ?_
    refine z_getr fr_RX8_35 dX8_leave_52 ?_
    refine z_iload_n 3 dX8_leave_55 rfl rfl ?_
    refine z_iload_n 2 dX8_leave_56 rfl rfl ?_
    obtain ⟨r1774, t1775, hc1776, hF⟩ := zbd_at hF
    refine z_callVv (ctX5_set (E := E) (sh := shC) (f := f - 1) (by omega) (k := 138) (n := 2501) rfl rfl hc1776) yy_X5_set yv_X5_set ob_C_138 lk_RX8_76 (by omega) rfl rfl (Nat.le_of_ble_eq_true rfl) dX8_leave_57 ?_
    refine z_sub [0, 1] rfl ?_
    exact wbX8_leave_60 hf  x1 _ hF
  · have hF := zif_f hc hF
    refine z_aload_n 0 dX8_leave_43 rfl rfl ?_
    refine z_iload_n 2 dX8_leave_44 rfl rfl ?_
    refine z_puti fw_RX8_51 dX8_leave_45 (fun t1777 et1777 => ?_)
    have hF := zpt_at hF t1777 et1777
    refine z_goto (tgt := 60) dX8_leave_48 (by decide) ?_
    refine z_sub [0, 1] rfl ?_
    exact wbX8_leave_60 hf  x1 _ hF
set_option maxHeartbeats 4000000 in
set_option maxRecDepth 20000 in
theorem ctX8_leave {E : zE} {f : Nat} (hf : 2 ≤ f) {x1 : Int32} {t : zS} {ro : Int32 × zS} (hF : mX8_leave  x1 t = some ro) : zM E shC f yX8_leave cX8_leave 4 none [.ref (za E 60), .int x1] t ro := by
  refine zM_of (by decide) (Nat.le_of_ble_eq_true rfl) (fun C => ?_)
  show zJ E shC C cX8_leave RX8 4 f none ro t 0 [(0, .ref (za E 60)), (1, .int x1)] []
  unfold mX8_leave at hF
  refine z_aload_n 0 dX8_leave_0 rfl rfl ?_
  refine z_getr fr_RX8_35 dX8_leave_1 ?_
  refine z_iload_n 1 dX8_leave_4 rfl rfl ?_
  obtain ⟨r1778, t1779, hc1780, hF⟩ := zbd_at hF
  refine z_callVi (ctX5_get (E := E) (sh := shC) (f := f - 1) (by omega) (k := 138) (n := 2501) rfl rfl hc1780) yy_X5_get yv_X5_get ob_C_138 lk_RX8_72 (by omega) rfl rfl (Nat.le_of_ble_eq_true rfl) dX8_leave_5 ?_
  refine z_istore_n (lv' := [(2, .int r1778), (0, .ref (za E 60)), (1, .int x1)]) dX8_leave_8 rfl (by decide) rfl ?_
  refine z_aload_n 1 dX8_leave_9 rfl rfl ?_
  refine z_getr fr_RX8_32 dX8_leave_10 ?_
  refine z_iload_n 2 dX8_leave_13 rfl rfl ?_
  obtain ⟨r1781, t1782, hc1783, hF⟩ := zbd_at hF
  refine z_callVi (ctX5_get (E := E) (sh := shC) (f := f - 1) (by omega) (k := 136) (n := 2501) rfl rfl hc1783) yy_X5_get yv_X5_get ob_C_136 lk_RX8_72 (by omega) rfl rfl (Nat.le_of_ble_eq_true rfl) dX8_leave_14 ?_
  refine z_istore_n (lv' := [(3, .int r1781), (2, .int r1778), (0, .ref (za E 60)), (1, .int x1)]) dX8_leave_17 rfl (by decide) rfl ?_
  refine z_iload_n 1 dX8_leave_18 rfl rfl ?_
  refine z_if_ge (tgt := 30) dX8_leave_19 (by decide) (fun hc => ?_) (fun hc => ?_)
  · have hF := zif_t hc hF
    refine z_aload_n 2 dX8_leave_30 rfl rfl ?_
    refine z_getr fr_RX8_32 dX8_leave_31 ?_
    refine z_iload_n 1 dX8_leave_34 rfl rfl ?_
    refine z_iload_n 0 dX8_leave_35 rfl rfl ?_
    obtain ⟨r1784, t1785, hc1786, hF⟩ := zbd_at hF
    refine z_callVv (ctX5_set (E := E) (sh := shC) (f := f - 1) (by omega) (k := 136) (n := 2501) rfl rfl hc1786) yy_X5_set yv_X5_set ob_C_136 lk_RX8_76 (by omega) rfl rfl (Nat.le_of_ble_eq_true rfl) dX8_leave_36 ?_
    refine z_sub [2, 3, 1, 0] rfl ?_
    exact wbX8_leave_39 hf  x1 r1778 r1781 _ hF
  · have hF := zif_f hc hF
    refine z_aload_n 2 dX8_leave_22 rfl rfl ?_
    refine z_iload_n 0 dX8_leave_23 rfl rfl ?_
    refine z_puti fw_RX8_47 dX8_leave_24 (fun t1787 et1787 => ?_)
    have hF := zpt_at hF t1787 et1787
    refine z_goto (tgt := 39) dX8_leave_27 (by decide) ?_
    refine z_sub [2, 3, 1, 0] rfl ?_
    exact wbX8_leave_39 hf  x1 r1778 r1781 _ hF
-- SessionHouse$Ring.channel(II)I
theorem dX8_channel_0 : decode cX8_channel 0 = .ok (.aload_n 0, 1) := by decide +kernel
theorem dX8_channel_1 : decode cX8_channel 1 = .ok (.getfield 44, 3) := by decide +kernel
theorem dX8_channel_4 : decode cX8_channel 4 = .ok (.aload_n 0, 1) := by decide +kernel
theorem dX8_channel_5 : decode cX8_channel 5 = .ok (.getfield 26, 3) := by decide +kernel
theorem dX8_channel_8 : decode cX8_channel 8 = .ok (.iload_n 1, 1) := by decide +kernel
theorem dX8_channel_9 : decode cX8_channel 9 = .ok (.invokevirtual 72, 3) := by decide +kernel
theorem dX8_channel_12 : decode cX8_channel 12 = .ok (.iload_n 2, 1) := by decide +kernel
theorem dX8_channel_13 : decode cX8_channel 13 = .ok (.iadd, 1) := by decide +kernel
theorem dX8_channel_14 : decode cX8_channel 14 = .ok (.invokevirtual 72, 3) := by decide +kernel
theorem dX8_channel_17 : decode cX8_channel 17 = .ok (.ireturn, 1) := by decide +kernel
def mX8_channel (x1 : Int32) (x2 : Int32) (t : zS) : zR := zbd (mX5_get 132 2501 x1 t) fun r1788 t1789 => zbd (mX5_get 144 24000 (r1788 + x2) t1789) fun r1791 t1792 => some (r1791, t1792)
set_option maxHeartbeats 4000000 in
set_option maxRecDepth 20000 in
theorem ctX8_channel {E : zE} {f : Nat} (hf : 2 ≤ f) {x1 : Int32} {x2 : Int32} {t : zS} {ro : Int32 × zS} (hF : mX8_channel  x1 x2 t = some ro) : zM E shC f yX8_channel cX8_channel 3 (some .int) [.ref (za E 60), .int x1, .int x2] t ro := by
  refine zM_of (by decide) (Nat.le_of_ble_eq_true rfl) (fun C => ?_)
  show zJ E shC C cX8_channel RX8 3 f (some .int) ro t 0 [(0, .ref (za E 60)), (1, .int x1), (2, .int x2)] []
  unfold mX8_channel at hF
  refine z_aload_n 0 dX8_channel_0 rfl rfl ?_
  refine z_getr fr_RX8_44 dX8_channel_1 ?_
  refine z_aload_n 0 dX8_channel_4 rfl rfl ?_
  refine z_getr fr_RX8_26 dX8_channel_5 ?_
  refine z_iload_n 1 dX8_channel_8 rfl rfl ?_
  obtain ⟨r1788, t1789, hc1790, hF⟩ := zbd_at hF
  refine z_callVi (ctX5_get (E := E) (sh := shC) (f := f - 1) (by omega) (k := 132) (n := 2501) rfl rfl hc1790) yy_X5_get yv_X5_get ob_C_132 lk_RX8_72 (by omega) rfl rfl (Nat.le_of_ble_eq_true rfl) dX8_channel_9 ?_
  refine z_iload_n 2 dX8_channel_12 rfl rfl ?_
  refine z_iadd dX8_channel_13 ?_
  obtain ⟨r1791, t1792, hc1793, hF⟩ := zbd_at hF
  refine z_callVi (ctX5_get (E := E) (sh := shC) (f := f - 1) (by omega) (k := 144) (n := 24000) rfl rfl hc1793) yy_X5_get yv_X5_get ob_C_144 lk_RX8_72 (by omega) rfl rfl (Nat.le_of_ble_eq_true rfl) dX8_channel_14 ?_
  exact z_iret hF dX8_channel_17
-- SessionHouse$Channels.isFull(I)Z
theorem dX0_isFull_0 : decode cX0_isFull 0 = .ok (.aload_n 0, 1) := by decide +kernel
theorem dX0_isFull_1 : decode cX0_isFull 1 = .ok (.getfield 23, 3) := by decide +kernel
theorem dX0_isFull_4 : decode cX0_isFull 4 = .ok (.iload_n 1, 1) := by decide +kernel
theorem dX0_isFull_5 : decode cX0_isFull 5 = .ok (.invokevirtual 48, 3) := by decide +kernel
theorem dX0_isFull_8 : decode cX0_isFull 8 = .ok (.aload_n 0, 1) := by decide +kernel
theorem dX0_isFull_9 : decode cX0_isFull 9 = .ok (.getfield 32, 3) := by decide +kernel
theorem dX0_isFull_12 : decode cX0_isFull 12 = .ok (.if_icmp .lt 7, 3) := by decide +kernel
theorem dX0_isFull_15 : decode cX0_isFull 15 = .ok (.iconst 1, 1) := by decide +kernel
theorem dX0_isFull_16 : decode cX0_isFull 16 = .ok (.goto 4, 3) := by decide +kernel
theorem dX0_isFull_19 : decode cX0_isFull 19 = .ok (.iconst 0, 1) := by decide +kernel
theorem dX0_isFull_20 : decode cX0_isFull 20 = .ok (.ireturn, 1) := by decide +kernel
def mX0_isFull (x1 : Int32) (t : zS) : zR := zbd (mX5_get 120 3336 x1 t) fun r1794 t1795 => if r1794 < (t1795 59 7) then some (0, t1795) else some (1, t1795)
set_option maxHeartbeats 4000000 in
set_option maxRecDepth 20000 in
theorem ctX0_isFull {E : zE} {f : Nat} (hf : 2 ≤ f) {x1 : Int32} {t : zS} {ro : Int32 × zS} (hF : mX0_isFull  x1 t = some ro) : zM E shC f yX0_isFull cX0_isFull 2 (some .boolean) [.ref (za E 59), .int x1] t ro := by
  refine zM_of (by decide) (Nat.le_of_ble_eq_true rfl) (fun C => ?_)
  show zJ E shC C cX0_isFull RX0 2 f (some .boolean) ro t 0 [(0, .ref (za E 59)), (1, .int x1)] []
  unfold mX0_isFull at hF
  refine z_aload_n 0 dX0_isFull_0 rfl rfl ?_
  refine z_getr fr_RX0_23 dX0_isFull_1 ?_
  refine z_iload_n 1 dX0_isFull_4 rfl rfl ?_
  obtain ⟨r1794, t1795, hc1796, hF⟩ := zbd_at hF
  refine z_callVi (ctX5_get (E := E) (sh := shC) (f := f - 1) (by omega) (k := 120) (n := 3336) rfl rfl hc1796) yy_X5_get yv_X5_get ob_C_120 lk_RX0_48 (by omega) rfl rfl (Nat.le_of_ble_eq_true rfl) dX0_isFull_5 ?_
  refine z_aload_n 0 dX0_isFull_8 rfl rfl ?_
  refine z_geti fi_RX0_32 dX0_isFull_9 ?_
  refine z_icmp_lt (tgt := 19) dX0_isFull_12 (by decide) (fun hc => ?_) (fun hc => ?_)
  · have hF := zif_t hc hF
    refine z_iconst (v := 0) dX0_isFull_19 (by decide) ?_
    exact z_zret hF (by decide) dX0_isFull_20
  · have hF := zif_f hc hF
    refine z_iconst (v := 1) dX0_isFull_15 (by decide) ?_
    refine z_goto (tgt := 20) dX0_isFull_16 (by decide) ?_
    exact z_zret hF (by decide) dX0_isFull_20
-- SessionHouse$Channels.add(II)V
theorem dX0_add_0 : decode cX0_add 0 = .ok (.aload_n 0, 1) := by decide +kernel
theorem dX0_add_1 : decode cX0_add 1 = .ok (.getfield 20, 3) := by decide +kernel
theorem dX0_add_4 : decode cX0_add 4 = .ok (.iload_n 1, 1) := by decide +kernel
theorem dX0_add_5 : decode cX0_add 5 = .ok (.invokevirtual 48, 3) := by decide +kernel
theorem dX0_add_8 : decode cX0_add 8 = .ok (.aload_n 0, 1) := by decide +kernel
theorem dX0_add_9 : decode cX0_add 9 = .ok (.getfield 23, 3) := by decide +kernel
theorem dX0_add_12 : decode cX0_add 12 = .ok (.iload_n 1, 1) := by decide +kernel
theorem dX0_add_13 : decode cX0_add 13 = .ok (.invokevirtual 48, 3) := by decide +kernel
theorem dX0_add_16 : decode cX0_add 16 = .ok (.iadd, 1) := by decide +kernel
theorem dX0_add_17 : decode cX0_add 17 = .ok (.istore_n 3, 1) := by decide +kernel
theorem dX0_add_18 : decode cX0_add 18 = .ok (.aload_n 0, 1) := by decide +kernel
theorem dX0_add_19 : decode cX0_add 19 = .ok (.getfield 14, 3) := by decide +kernel
theorem dX0_add_22 : decode cX0_add 22 = .ok (.iload_n 1, 1) := by decide +kernel
theorem dX0_add_23 : decode cX0_add 23 = .ok (.aload_n 0, 1) := by decide +kernel
theorem dX0_add_24 : decode cX0_add 24 = .ok (.getfield 32, 3) := by decide +kernel
theorem dX0_add_27 : decode cX0_add 27 = .ok (.imul, 1) := by decide +kernel
theorem dX0_add_28 : decode cX0_add 28 = .ok (.iload_n 3, 1) := by decide +kernel
theorem dX0_add_29 : decode cX0_add 29 = .ok (.aload_n 0, 1) := by decide +kernel
theorem dX0_add_30 : decode cX0_add 30 = .ok (.getfield 32, 3) := by decide +kernel
theorem dX0_add_33 : decode cX0_add 33 = .ok (.if_icmp .lt 12, 3) := by decide +kernel
theorem dX0_add_36 : decode cX0_add 36 = .ok (.iload_n 3, 1) := by decide +kernel
theorem dX0_add_37 : decode cX0_add 37 = .ok (.aload_n 0, 1) := by decide +kernel
theorem dX0_add_38 : decode cX0_add 38 = .ok (.getfield 32, 3) := by decide +kernel
theorem dX0_add_41 : decode cX0_add 41 = .ok (.isub, 1) := by decide +kernel
theorem dX0_add_42 : decode cX0_add 42 = .ok (.goto 4, 3) := by decide +kernel
theorem dX0_add_45 : decode cX0_add 45 = .ok (.iload_n 3, 1) := by decide +kernel
theorem dX0_add_46 : decode cX0_add 46 = .ok (.iadd, 1) := by decide +kernel
theorem dX0_add_47 : decode cX0_add 47 = .ok (.iload_n 2, 1) := by decide +kernel
theorem dX0_add_48 : decode cX0_add 48 = .ok (.invokevirtual 52, 3) := by decide +kernel
theorem dX0_add_51 : decode cX0_add 51 = .ok (.aload_n 0, 1) := by decide +kernel
theorem dX0_add_52 : decode cX0_add 52 = .ok (.getfield 23, 3) := by decide +kernel
theorem dX0_add_55 : decode cX0_add 55 = .ok (.iload_n 1, 1) := by decide +kernel
theorem dX0_add_56 : decode cX0_add 56 = .ok (.aload_n 0, 1) := by decide +kernel
theorem dX0_add_57 : decode cX0_add 57 = .ok (.getfield 23, 3) := by decide +kernel
theorem dX0_add_60 : decode cX0_add 60 = .ok (.iload_n 1, 1) := by decide +kernel
theorem dX0_add_61 : decode cX0_add 61 = .ok (.invokevirtual 48, 3) := by decide +kernel
theorem dX0_add_64 : decode cX0_add 64 = .ok (.iconst 1, 1) := by decide +kernel
theorem dX0_add_65 : decode cX0_add 65 = .ok (.iadd, 1) := by decide +kernel
theorem dX0_add_66 : decode cX0_add 66 = .ok (.invokevirtual 52, 3) := by decide +kernel
theorem dX0_add_69 : decode cX0_add 69 = .ok (.aload_n 0, 1) := by decide +kernel
theorem dX0_add_70 : decode cX0_add 70 = .ok (.dup, 1) := by decide +kernel
theorem dX0_add_71 : decode cX0_add 71 = .ok (.getfield 45, 3) := by decide +kernel
theorem dX0_add_74 : decode cX0_add 74 = .ok (.iconst 1, 1) := by decide +kernel
theorem dX0_add_75 : decode cX0_add 75 = .ok (.iadd, 1) := by decide +kernel
theorem dX0_add_76 : decode cX0_add 76 = .ok (.putfield 45, 3) := by decide +kernel
theorem dX0_add_79 : decode cX0_add 79 = .ok (.return_, 1) := by decide +kernel
def bX0_add_46 (x1 : Int32) (x2 : Int32) (y0 : Int32) (y1 : Int32) (t : zS) : zR := zbd (mX5_set 116 10000 (y1 + y0) x2 t) fun r1797 t1798 => zbd (mX5_get 120 3336 x1 t1798) fun r1800 t1801 => zbd (mX5_set 120 3336 x1 (r1800 + 1) t1801) fun r1803 t1804 => zpt t1804 59 9 ((t1804 59 9) + 1) fun t1806 => some (0, t1806)
def mX0_add (x1 : Int32) (x2 : Int32) (t : zS) : zR := zbd (mX5_get 118 3336 x1 t) fun r1807 t1808 => zbd (mX5_get 120 3336 x1 t1808) fun r1810 t1811 => zlet (r1807 + r1810) fun v1813 => if v1813 < (t1811 59 7) then bX0_add_46  x1 x2 v1813 (x1 * (t1811 59 7)) t1811 else bX0_add_46  x1 x2 (v1813 - (t1811 59 7)) (x1 * (t1811 59 7)) t1811
set_option maxHeartbeats 4000000 in
set_option maxRecDepth 20000 in
theorem wbX0_add_46 {E : zE} {C : zC} {f : Nat} {ro : Int32 × zS} (hf : 2 ≤ f) (x1 : Int32) (x2 : Int32) (y0 : Int32) (y1 : Int32) (t : zS) (hF : bX0_add_46  x1 x2 y0 y1 t = some ro) : zJ E shC C cX0_add RX0 4 f none ro t 46 [(0, .ref (za E 59)), (1, .int x1), (2, .int x2)] [.int y0, .int y1, .ref (za E 116)] := by
  unfold bX0_add_46 at hF
  refine z_iadd dX0_add_46 ?_
  refine z_iload_n 2 dX0_add_47 rfl rfl ?_
  obtain ⟨r1797, t1798, hc1799, hF⟩ := zbd_at hF
  refine z_callVv (ctX5_set (E := E) (sh := shC) (f := f - 1) (by omega) (k := 116) (n := 10000) rfl rfl hc1799) yy_X5_set yv_X5_set ob_C_116 lk_RX0_52 (by omega) rfl rfl (Nat.le_of_ble_eq_true rfl) dX0_add_48 ?_
  refine z_aload_n 0 dX0_add_51 rfl rfl ?_
  refine z_getr fr_RX0_23 dX0_add_52 ?_
  refine z_iload_n 1 dX0_add_55 rfl rfl ?_
  refine z_aload_n 0 dX0_add_56 rfl rfl ?_
  refine z_getr fr_RX0_23 dX0_add_57 ?_
  refine z_iload_n 1 dX0_add_60 rfl rfl ?_
  obtain ⟨r1800, t1801, hc1802, hF⟩ := zbd_at hF
  refine z_callVi (ctX5_get (E := E) (sh := shC) (f := f - 1) (by omega) (k := 120) (n := 3336) rfl rfl hc1802) yy_X5_get yv_X5_get ob_C_120 lk_RX0_48 (by omega) rfl rfl (Nat.le_of_ble_eq_true rfl) dX0_add_61 ?_
  refine z_iconst (v := 1) dX0_add_64 (by decide) ?_
  refine z_iadd dX0_add_65 ?_
  obtain ⟨r1803, t1804, hc1805, hF⟩ := zbd_at hF
  refine z_callVv (ctX5_set (E := E) (sh := shC) (f := f - 1) (by omega) (k := 120) (n := 3336) rfl rfl hc1805) yy_X5_set yv_X5_set ob_C_120 lk_RX0_52 (by omega) rfl rfl (Nat.le_of_ble_eq_true rfl) dX0_add_66 ?_
  refine z_aload_n 0 dX0_add_69 rfl rfl ?_
  refine z_dup dX0_add_70 rfl ?_
  refine z_geti fi_RX0_45 dX0_add_71 ?_
  refine z_iconst (v := 1) dX0_add_74 (by decide) ?_
  refine z_iadd dX0_add_75 ?_
  refine z_puti fw_RX0_45 dX0_add_76 (fun t1806 et1806 => ?_)
  have hF := zpt_at hF t1806 et1806
  exact z_vret hF dX0_add_79
set_option maxHeartbeats 4000000 in
set_option maxRecDepth 20000 in
theorem ctX0_add {E : zE} {f : Nat} (hf : 2 ≤ f) {x1 : Int32} {x2 : Int32} {t : zS} {ro : Int32 × zS} (hF : mX0_add  x1 x2 t = some ro) : zM E shC f yX0_add cX0_add 4 none [.ref (za E 59), .int x1, .int x2] t ro := by
  refine zM_of (by decide) (Nat.le_of_ble_eq_true rfl) (fun C => ?_)
  show zJ E shC C cX0_add RX0 4 f none ro t 0 [(0, .ref (za E 59)), (1, .int x1), (2, .int x2)] []
  unfold mX0_add at hF
  refine z_aload_n 0 dX0_add_0 rfl rfl ?_
  refine z_getr fr_RX0_20 dX0_add_1 ?_
  refine z_iload_n 1 dX0_add_4 rfl rfl ?_
  obtain ⟨r1807, t1808, hc1809, hF⟩ := zbd_at hF
  refine z_callVi (ctX5_get (E := E) (sh := shC) (f := f - 1) (by omega) (k := 118) (n := 3336) rfl rfl hc1809) yy_X5_get yv_X5_get ob_C_118 lk_RX0_48 (by omega) rfl rfl (Nat.le_of_ble_eq_true rfl) dX0_add_5 ?_
  refine z_aload_n 0 dX0_add_8 rfl rfl ?_
  refine z_getr fr_RX0_23 dX0_add_9 ?_
  refine z_iload_n 1 dX0_add_12 rfl rfl ?_
  obtain ⟨r1810, t1811, hc1812, hF⟩ := zbd_at hF
  refine z_callVi (ctX5_get (E := E) (sh := shC) (f := f - 1) (by omega) (k := 120) (n := 3336) rfl rfl hc1812) yy_X5_get yv_X5_get ob_C_120 lk_RX0_48 (by omega) rfl rfl (Nat.le_of_ble_eq_true rfl) dX0_add_13 ?_
  refine z_iadd dX0_add_16 ?_
  refine z_topi (fun v1813 ev1813 => ?_)
  have hF := zlet_at ev1813 hF
  refine z_istore_n (lv' := [(3, .int v1813), (0, .ref (za E 59)), (1, .int x1), (2, .int x2)]) dX0_add_17 rfl (by decide) rfl ?_
  refine z_aload_n 1 dX0_add_18 rfl rfl ?_
  refine z_getr fr_RX0_14 dX0_add_19 ?_
  refine z_iload_n 2 dX0_add_22 rfl rfl ?_
  refine z_aload_n 1 dX0_add_23 rfl rfl ?_
  refine z_geti fi_RX0_32 dX0_add_24 ?_
  refine z_imul dX0_add_27 ?_
  refine z_iload_n 0 dX0_add_28 rfl rfl ?_
  refine z_aload_n 1 dX0_add_29 rfl rfl ?_
  refine z_geti fi_RX0_32 dX0_add_30 ?_
  refine z_icmp_lt (tgt := 45) dX0_add_33 (by decide) (fun hc => ?_) (fun hc => ?_)
  · have hF := zif_t hc hF
    refine z_iload_n 0 dX0_add_45 rfl rfl ?_
    refine z_sub [1, 2, 3] rfl ?_
    exact wbX0_add_46 hf  x1 x2 v1813 (x1 * (t1811 59 7)) _ hF
  · have hF := zif_f hc hF
    refine z_iload_n 0 dX0_add_36 rfl rfl ?_
    refine z_aload_n 1 dX0_add_37 rfl rfl ?_
    refine z_geti fi_RX0_32 dX0_add_38 ?_
    refine z_isub dX0_add_41 ?_
    refine z_goto (tgt := 46) dX0_add_42 (by decide) ?_
    refine z_sub [1, 2, 3] rfl ?_
    exact wbX0_add_46 hf  x1 x2 (v1813 - (t1811 59 7)) (x1 * (t1811 59 7)) _ hF
-- SessionHouse$Ring.setChannel(III)V
theorem dX8_setChannel_0 : decode cX8_setChannel 0 = .ok (.aload_n 0, 1) := by decide +kernel
theorem dX8_setChannel_1 : decode cX8_setChannel 1 = .ok (.getfield 44, 3) := by decide +kernel
theorem dX8_setChannel_4 : decode cX8_setChannel 4 = .ok (.aload_n 0, 1) := by decide +kernel
theorem dX8_setChannel_5 : decode cX8_setChannel 5 = .ok (.getfield 26, 3) := by decide +kernel
theorem dX8_setChannel_8 : decode cX8_setChannel 8 = .ok (.iload_n 1, 1) := by decide +kernel
theorem dX8_setChannel_9 : decode cX8_setChannel 9 = .ok (.invokevirtual 72, 3) := by decide +kernel
theorem dX8_setChannel_12 : decode cX8_setChannel 12 = .ok (.iload_n 2, 1) := by decide +kernel
theorem dX8_setChannel_13 : decode cX8_setChannel 13 = .ok (.iadd, 1) := by decide +kernel
theorem dX8_setChannel_14 : decode cX8_setChannel 14 = .ok (.iload_n 3, 1) := by decide +kernel
theorem dX8_setChannel_15 : decode cX8_setChannel 15 = .ok (.invokevirtual 76, 3) := by decide +kernel
theorem dX8_setChannel_18 : decode cX8_setChannel 18 = .ok (.return_, 1) := by decide +kernel
def mX8_setChannel (x1 : Int32) (x2 : Int32) (x3 : Int32) (t : zS) : zR := zbd (mX5_get 132 2501 x1 t) fun r1814 t1815 => zbd (mX5_set 144 24000 (r1814 + x2) x3 t1815) fun r1817 t1818 => some (0, t1818)
set_option maxHeartbeats 4000000 in
set_option maxRecDepth 20000 in
theorem ctX8_setChannel {E : zE} {f : Nat} (hf : 2 ≤ f) {x1 : Int32} {x2 : Int32} {x3 : Int32} {t : zS} {ro : Int32 × zS} (hF : mX8_setChannel  x1 x2 x3 t = some ro) : zM E shC f yX8_setChannel cX8_setChannel 4 none [.ref (za E 60), .int x1, .int x2, .int x3] t ro := by
  refine zM_of (by decide) (Nat.le_of_ble_eq_true rfl) (fun C => ?_)
  show zJ E shC C cX8_setChannel RX8 4 f none ro t 0 [(0, .ref (za E 60)), (1, .int x1), (2, .int x2), (3, .int x3)] []
  unfold mX8_setChannel at hF
  refine z_aload_n 0 dX8_setChannel_0 rfl rfl ?_
  refine z_getr fr_RX8_44 dX8_setChannel_1 ?_
  refine z_aload_n 0 dX8_setChannel_4 rfl rfl ?_
  refine z_getr fr_RX8_26 dX8_setChannel_5 ?_
  refine z_iload_n 1 dX8_setChannel_8 rfl rfl ?_
  obtain ⟨r1814, t1815, hc1816, hF⟩ := zbd_at hF
  refine z_callVi (ctX5_get (E := E) (sh := shC) (f := f - 1) (by omega) (k := 132) (n := 2501) rfl rfl hc1816) yy_X5_get yv_X5_get ob_C_132 lk_RX8_72 (by omega) rfl rfl (Nat.le_of_ble_eq_true rfl) dX8_setChannel_9 ?_
  refine z_iload_n 2 dX8_setChannel_12 rfl rfl ?_
  refine z_iadd dX8_setChannel_13 ?_
  refine z_iload_n 3 dX8_setChannel_14 rfl rfl ?_
  obtain ⟨r1817, t1818, hc1819, hF⟩ := zbd_at hF
  refine z_callVv (ctX5_set (E := E) (sh := shC) (f := f - 1) (by omega) (k := 144) (n := 24000) rfl rfl hc1819) yy_X5_set yv_X5_set ob_C_144 lk_RX8_76 (by omega) rfl rfl (Nat.le_of_ble_eq_true rfl) dX8_setChannel_15 ?_
  exact z_vret hF dX8_setChannel_18
-- SessionHouse$Formulas.join(III)I
theorem dX3_join_0 : decode cX3_join 0 = .ok (.iload_n 0, 1) := by decide +kernel
theorem dX3_join_1 : decode cX3_join 1 = .ok (.lookupswitch 106 #[(37, 83), (42, 67), (43, 59), (45, 63), (47, 71), (60, 95)], 59) := by decide +kernel
theorem dX3_join_60 : decode cX3_join 60 = .ok (.iload_n 1, 1) := by decide +kernel
theorem dX3_join_61 : decode cX3_join 61 = .ok (.iload_n 2, 1) := by decide +kernel
theorem dX3_join_62 : decode cX3_join 62 = .ok (.iadd, 1) := by decide +kernel
theorem dX3_join_63 : decode cX3_join 63 = .ok (.ireturn, 1) := by decide +kernel
theorem dX3_join_64 : decode cX3_join 64 = .ok (.iload_n 1, 1) := by decide +kernel
theorem dX3_join_65 : decode cX3_join 65 = .ok (.iload_n 2, 1) := by decide +kernel
theorem dX3_join_66 : decode cX3_join 66 = .ok (.isub, 1) := by decide +kernel
theorem dX3_join_67 : decode cX3_join 67 = .ok (.ireturn, 1) := by decide +kernel
theorem dX3_join_68 : decode cX3_join 68 = .ok (.iload_n 1, 1) := by decide +kernel
theorem dX3_join_69 : decode cX3_join 69 = .ok (.iload_n 2, 1) := by decide +kernel
theorem dX3_join_70 : decode cX3_join 70 = .ok (.imul, 1) := by decide +kernel
theorem dX3_join_71 : decode cX3_join 71 = .ok (.ireturn, 1) := by decide +kernel
theorem dX3_join_72 : decode cX3_join 72 = .ok (.iload_n 2, 1) := by decide +kernel
theorem dX3_join_73 : decode cX3_join 73 = .ok (.ifCond .ne 7, 3) := by decide +kernel
theorem dX3_join_76 : decode cX3_join 76 = .ok (.iconst 0, 1) := by decide +kernel
theorem dX3_join_77 : decode cX3_join 77 = .ok (.goto 6, 3) := by decide +kernel
theorem dX3_join_80 : decode cX3_join 80 = .ok (.iload_n 1, 1) := by decide +kernel
theorem dX3_join_81 : decode cX3_join 81 = .ok (.iload_n 2, 1) := by decide +kernel
theorem dX3_join_82 : decode cX3_join 82 = .ok (.idiv, 1) := by decide +kernel
theorem dX3_join_83 : decode cX3_join 83 = .ok (.ireturn, 1) := by decide +kernel
theorem dX3_join_84 : decode cX3_join 84 = .ok (.iload_n 2, 1) := by decide +kernel
theorem dX3_join_85 : decode cX3_join 85 = .ok (.ifCond .ne 7, 3) := by decide +kernel
theorem dX3_join_88 : decode cX3_join 88 = .ok (.iconst 0, 1) := by decide +kernel
theorem dX3_join_89 : decode cX3_join 89 = .ok (.goto 6, 3) := by decide +kernel
theorem dX3_join_92 : decode cX3_join 92 = .ok (.iload_n 1, 1) := by decide +kernel
theorem dX3_join_93 : decode cX3_join 93 = .ok (.iload_n 2, 1) := by decide +kernel
theorem dX3_join_94 : decode cX3_join 94 = .ok (.irem, 1) := by decide +kernel
theorem dX3_join_95 : decode cX3_join 95 = .ok (.ireturn, 1) := by decide +kernel
theorem dX3_join_96 : decode cX3_join 96 = .ok (.iload_n 1, 1) := by decide +kernel
theorem dX3_join_97 : decode cX3_join 97 = .ok (.iload_n 2, 1) := by decide +kernel
theorem dX3_join_98 : decode cX3_join 98 = .ok (.if_icmp .ge 7, 3) := by decide +kernel
theorem dX3_join_101 : decode cX3_join 101 = .ok (.iconst 1, 1) := by decide +kernel
theorem dX3_join_102 : decode cX3_join 102 = .ok (.goto 4, 3) := by decide +kernel
theorem dX3_join_105 : decode cX3_join 105 = .ok (.iconst 0, 1) := by decide +kernel
theorem dX3_join_106 : decode cX3_join 106 = .ok (.ireturn, 1) := by decide +kernel
theorem dX3_join_107 : decode cX3_join 107 = .ok (.iload_n 1, 1) := by decide +kernel
theorem dX3_join_108 : decode cX3_join 108 = .ok (.iload_n 2, 1) := by decide +kernel
theorem dX3_join_109 : decode cX3_join 109 = .ok (.if_icmp .ne 7, 3) := by decide +kernel
theorem dX3_join_112 : decode cX3_join 112 = .ok (.iconst 1, 1) := by decide +kernel
theorem dX3_join_113 : decode cX3_join 113 = .ok (.goto 4, 3) := by decide +kernel
theorem dX3_join_116 : decode cX3_join 116 = .ok (.iconst 0, 1) := by decide +kernel
theorem dX3_join_117 : decode cX3_join 117 = .ok (.ireturn, 1) := by decide +kernel
def mX3_join (x0 : Int32) (x1 : Int32) (x2 : Int32) (t : zS) : zR := if x0 = 37 then if x2 = 0 then some (0, t) else znz x2 (some ((x1 - x1 / x2 * x2), t)) else if x0 = 42 then some ((x1 * x2), t) else if x0 = 43 then some ((x1 + x2), t) else if x0 = 45 then some ((x1 - x2), t) else if x0 = 47 then if x2 = 0 then some (0, t) else znz x2 (some ((x1 / x2), t)) else if x0 = 60 then if x2 ≤ x1 then some (0, t) else some (1, t) else if x1 = x2 then some (1, t) else some (0, t)
set_option maxHeartbeats 4000000 in
set_option maxRecDepth 20000 in
theorem ctX3_join {E : zE} {f : Nat} (hf : 1 ≤ f) {x0 : Int32} {x1 : Int32} {x2 : Int32} {t : zS} {ro : Int32 × zS} (hF : mX3_join  x0 x1 x2 t = some ro) : zM E shC f yX3_join cX3_join 3 (some .int) [.int x0, .int x1, .int x2] t ro := by
  refine zM_of (by decide) (Nat.le_of_ble_eq_true rfl) (fun C => ?_)
  show zJ E shC C cX3_join RX3 3 f (some .int) ro t 0 [(0, .int x0), (1, .int x1), (2, .int x2)] []
  unfold mX3_join at hF
  refine z_iload_n 0 dX3_join_0 rfl rfl ?_
  by_cases hc : x0 = 37
  · have hF := zif_t hc hF
    refine z_lookup (tgt := 84) (off := 83) dX3_join_1 (by decide) (by rw [hc] <;> rfl) (by decide) ?_
    refine z_iload_n 2 dX3_join_84 rfl rfl ?_
    refine z_if_ne (tgt := 92) dX3_join_85 (by decide) (fun hc => ?_) (fun hc => ?_)
    · have hF := zif_f hc hF
      refine z_iload_n 1 dX3_join_92 rfl rfl ?_
      refine z_iload_n 2 dX3_join_93 rfl rfl ?_
      obtain ⟨hz1820, hF⟩ := znz_at hF
      refine z_irem dX3_join_94 hz1820 ?_
      exact z_iret hF dX3_join_95
    · have hF := zif_t hc hF
      refine z_iconst (v := 0) dX3_join_88 (by decide) ?_
      refine z_goto (tgt := 95) dX3_join_89 (by decide) ?_
      exact z_iret hF dX3_join_95
  have hF := zif_f hc hF
  have hn1821 := hc; clear hc
  by_cases hc : x0 = 42
  · have hF := zif_t hc hF
    refine z_lookup (tgt := 68) (off := 67) dX3_join_1 (by decide) (by rw [hc] <;> rfl) (by decide) ?_
    refine z_iload_n 1 dX3_join_68 rfl rfl ?_
    refine z_iload_n 2 dX3_join_69 rfl rfl ?_
    refine z_imul dX3_join_70 ?_
    exact z_iret hF dX3_join_71
  have hF := zif_f hc hF
  have hn1822 := hc; clear hc
  by_cases hc : x0 = 43
  · have hF := zif_t hc hF
    refine z_lookup (tgt := 60) (off := 59) dX3_join_1 (by decide) (by rw [hc] <;> rfl) (by decide) ?_
    refine z_iload_n 1 dX3_join_60 rfl rfl ?_
    refine z_iload_n 2 dX3_join_61 rfl rfl ?_
    refine z_iadd dX3_join_62 ?_
    exact z_iret hF dX3_join_63
  have hF := zif_f hc hF
  have hn1823 := hc; clear hc
  by_cases hc : x0 = 45
  · have hF := zif_t hc hF
    refine z_lookup (tgt := 64) (off := 63) dX3_join_1 (by decide) (by rw [hc] <;> rfl) (by decide) ?_
    refine z_iload_n 1 dX3_join_64 rfl rfl ?_
    refine z_iload_n 2 dX3_join_65 rfl rfl ?_
    refine z_isub dX3_join_66 ?_
    exact z_iret hF dX3_join_67
  have hF := zif_f hc hF
  have hn1824 := hc; clear hc
  by_cases hc : x0 = 47
  · have hF := zif_t hc hF
    refine z_lookup (tgt := 72) (off := 71) dX3_join_1 (by decide) (by rw [hc] <;> rfl) (by decide) ?_
    refine z_iload_n 2 dX3_join_72 rfl rfl ?_
    refine z_if_ne (tgt := 80) dX3_join_73 (by decide) (fun hc => ?_) (fun hc => ?_)
    · have hF := zif_f hc hF
      refine z_iload_n 1 dX3_join_80 rfl rfl ?_
      refine z_iload_n 2 dX3_join_81 rfl rfl ?_
      obtain ⟨hz1825, hF⟩ := znz_at hF
      refine z_idiv dX3_join_82 hz1825 ?_
      exact z_iret hF dX3_join_83
    · have hF := zif_t hc hF
      refine z_iconst (v := 0) dX3_join_76 (by decide) ?_
      refine z_goto (tgt := 83) dX3_join_77 (by decide) ?_
      exact z_iret hF dX3_join_83
  have hF := zif_f hc hF
  have hn1826 := hc; clear hc
  by_cases hc : x0 = 60
  · have hF := zif_t hc hF
    refine z_lookup (tgt := 96) (off := 95) dX3_join_1 (by decide) (by rw [hc] <;> rfl) (by decide) ?_
    refine z_iload_n 1 dX3_join_96 rfl rfl ?_
    refine z_iload_n 2 dX3_join_97 rfl rfl ?_
    refine z_icmp_ge (tgt := 105) dX3_join_98 (by decide) (fun hc => ?_) (fun hc => ?_)
    · have hF := zif_t hc hF
      refine z_iconst (v := 0) dX3_join_105 (by decide) ?_
      exact z_iret hF dX3_join_106
    · have hF := zif_f hc hF
      refine z_iconst (v := 1) dX3_join_101 (by decide) ?_
      refine z_goto (tgt := 106) dX3_join_102 (by decide) ?_
      exact z_iret hF dX3_join_106
  have hF := zif_f hc hF
  have hn1827 := hc; clear hc
  refine z_lookup (tgt := 107) (off := 106) dX3_join_1 (by decide) (by simp only [List.toList_toArray]; rw [lv_osw hn1821 (by decide), lv_osw hn1822 (by decide), lv_osw hn1823 (by decide), lv_osw hn1824 (by decide), lv_osw hn1826 (by decide), lv_osw hn1827 (by decide)] <;> rfl) (by decide) ?_
  refine z_iload_n 1 dX3_join_107 rfl rfl ?_
  refine z_iload_n 2 dX3_join_108 rfl rfl ?_
  refine z_icmp_ne (tgt := 116) dX3_join_109 (by decide) (fun hc => ?_) (fun hc => ?_)
  · have hF := zif_f hc hF
    refine z_iconst (v := 0) dX3_join_116 (by decide) ?_
    exact z_iret hF dX3_join_117
  · have hF := zif_t hc hF
    refine z_iconst (v := 1) dX3_join_112 (by decide) ?_
    refine z_goto (tgt := 117) dX3_join_113 (by decide) ?_
    exact z_iret hF dX3_join_117
-- SessionHouse$Formulas.work(IILSessionHouse$Ints;I)Z
theorem dX3_work_0 : decode cX3_work 0 = .ok (.iconst 0, 1) := by decide +kernel
theorem dX3_work_1 : decode cX3_work 1 = .ok (.istore 5, 2) := by decide +kernel
theorem dX3_work_3 : decode cX3_work 3 = .ok (.iload_n 1, 1) := by decide +kernel
theorem dX3_work_4 : decode cX3_work 4 = .ok (.istore 6, 2) := by decide +kernel
theorem dX3_work_6 : decode cX3_work 6 = .ok (.iload 6, 2) := by decide +kernel
theorem dX3_work_8 : decode cX3_work 8 = .ok (.iload_n 2, 1) := by decide +kernel
theorem dX3_work_9 : decode cX3_work 9 = .ok (.if_icmp .ge 182, 3) := by decide +kernel
theorem dX3_work_12 : decode cX3_work 12 = .ok (.aload_n 0, 1) := by decide +kernel
theorem dX3_work_13 : decode cX3_work 13 = .ok (.getfield 14, 3) := by decide +kernel
theorem dX3_work_16 : decode cX3_work 16 = .ok (.iload 6, 2) := by decide +kernel
theorem dX3_work_18 : decode cX3_work 18 = .ok (.invokevirtual 46, 3) := by decide +kernel
theorem dX3_work_21 : decode cX3_work 21 = .ok (.istore 7, 2) := by decide +kernel
theorem dX3_work_23 : decode cX3_work 23 = .ok (.iload 7, 2) := by decide +kernel
theorem dX3_work_25 : decode cX3_work 25 = .ok (.bipush 18, 2) := by decide +kernel
theorem dX3_work_27 : decode cX3_work 27 = .ok (.if_icmp .eq 10, 3) := by decide +kernel
theorem dX3_work_30 : decode cX3_work 30 = .ok (.iload 7, 2) := by decide +kernel
theorem dX3_work_32 : decode cX3_work 32 = .ok (.bipush 17, 2) := by decide +kernel
theorem dX3_work_34 : decode cX3_work 34 = .ok (.if_icmp .ne 53, 3) := by decide +kernel
theorem dX3_work_37 : decode cX3_work 37 = .ok (.aload_n 0, 1) := by decide +kernel
theorem dX3_work_38 : decode cX3_work 38 = .ok (.getfield 32, 3) := by decide +kernel
theorem dX3_work_41 : decode cX3_work 41 = .ok (.iload 5, 2) := by decide +kernel
theorem dX3_work_43 : decode cX3_work 43 = .ok (.iload 7, 2) := by decide +kernel
theorem dX3_work_45 : decode cX3_work 45 = .ok (.bipush 18, 2) := by decide +kernel
theorem dX3_work_47 : decode cX3_work 47 = .ok (.if_icmp .ne 15, 3) := by decide +kernel
theorem dX3_work_50 : decode cX3_work 50 = .ok (.aload_n 0, 1) := by decide +kernel
theorem dX3_work_51 : decode cX3_work 51 = .ok (.getfield 20, 3) := by decide +kernel
theorem dX3_work_54 : decode cX3_work 54 = .ok (.iload 6, 2) := by decide +kernel
theorem dX3_work_56 : decode cX3_work 56 = .ok (.invokevirtual 46, 3) := by decide +kernel
theorem dX3_work_59 : decode cX3_work 59 = .ok (.goto 19, 3) := by decide +kernel
theorem dX3_work_62 : decode cX3_work 62 = .ok (.aload_n 3, 1) := by decide +kernel
theorem dX3_work_63 : decode cX3_work 63 = .ok (.iload 4, 2) := by decide +kernel
theorem dX3_work_65 : decode cX3_work 65 = .ok (.aload_n 0, 1) := by decide +kernel
theorem dX3_work_66 : decode cX3_work 66 = .ok (.getfield 20, 3) := by decide +kernel
theorem dX3_work_69 : decode cX3_work 69 = .ok (.iload 6, 2) := by decide +kernel
theorem dX3_work_71 : decode cX3_work 71 = .ok (.invokevirtual 46, 3) := by decide +kernel
theorem dX3_work_74 : decode cX3_work 74 = .ok (.iadd, 1) := by decide +kernel
theorem dX3_work_75 : decode cX3_work 75 = .ok (.invokevirtual 46, 3) := by decide +kernel
theorem dX3_work_78 : decode cX3_work 78 = .ok (.invokevirtual 42, 3) := by decide +kernel
theorem dX3_work_81 : decode cX3_work 81 = .ok (.iinc 5 1, 3) := by decide +kernel
theorem dX3_work_84 : decode cX3_work 84 = .ok (.goto 101, 3) := by decide +kernel
theorem dX3_work_87 : decode cX3_work 87 = .ok (.iload 7, 2) := by decide +kernel
theorem dX3_work_89 : decode cX3_work 89 = .ok (.sipush 257, 3) := by decide +kernel
theorem dX3_work_92 : decode cX3_work 92 = .ok (.if_icmp .ne 29, 3) := by decide +kernel
theorem dX3_work_95 : decode cX3_work 95 = .ok (.aload_n 0, 1) := by decide +kernel
theorem dX3_work_96 : decode cX3_work 96 = .ok (.getfield 32, 3) := by decide +kernel
theorem dX3_work_99 : decode cX3_work 99 = .ok (.iload 5, 2) := by decide +kernel
theorem dX3_work_101 : decode cX3_work 101 = .ok (.iconst 1, 1) := by decide +kernel
theorem dX3_work_102 : decode cX3_work 102 = .ok (.isub, 1) := by decide +kernel
theorem dX3_work_103 : decode cX3_work 103 = .ok (.aload_n 0, 1) := by decide +kernel
theorem dX3_work_104 : decode cX3_work 104 = .ok (.getfield 32, 3) := by decide +kernel
theorem dX3_work_107 : decode cX3_work 107 = .ok (.iload 5, 2) := by decide +kernel
theorem dX3_work_109 : decode cX3_work 109 = .ok (.iconst 1, 1) := by decide +kernel
theorem dX3_work_110 : decode cX3_work 110 = .ok (.isub, 1) := by decide +kernel
theorem dX3_work_111 : decode cX3_work 111 = .ok (.invokevirtual 46, 3) := by decide +kernel
theorem dX3_work_114 : decode cX3_work 114 = .ok (.ineg, 1) := by decide +kernel
theorem dX3_work_115 : decode cX3_work 115 = .ok (.invokevirtual 42, 3) := by decide +kernel
theorem dX3_work_118 : decode cX3_work 118 = .ok (.goto 67, 3) := by decide +kernel
theorem dX3_work_121 : decode cX3_work 121 = .ok (.iinc 5 (-1), 3) := by decide +kernel
theorem dX3_work_124 : decode cX3_work 124 = .ok (.aload_n 0, 1) := by decide +kernel
theorem dX3_work_125 : decode cX3_work 125 = .ok (.getfield 32, 3) := by decide +kernel
theorem dX3_work_128 : decode cX3_work 128 = .ok (.iload 5, 2) := by decide +kernel
theorem dX3_work_130 : decode cX3_work 130 = .ok (.invokevirtual 46, 3) := by decide +kernel
theorem dX3_work_133 : decode cX3_work 133 = .ok (.istore 8, 2) := by decide +kernel
theorem dX3_work_135 : decode cX3_work 135 = .ok (.iload 8, 2) := by decide +kernel
theorem dX3_work_137 : decode cX3_work 137 = .ok (.ifCond .ne 19, 3) := by decide +kernel
theorem dX3_work_140 : decode cX3_work 140 = .ok (.iload 7, 2) := by decide +kernel
theorem dX3_work_142 : decode cX3_work 142 = .ok (.bipush 47, 2) := by decide +kernel
theorem dX3_work_144 : decode cX3_work 144 = .ok (.if_icmp .eq 10, 3) := by decide +kernel
theorem dX3_work_147 : decode cX3_work 147 = .ok (.iload 7, 2) := by decide +kernel
theorem dX3_work_149 : decode cX3_work 149 = .ok (.bipush 37, 2) := by decide +kernel
theorem dX3_work_151 : decode cX3_work 151 = .ok (.if_icmp .ne 5, 3) := by decide +kernel
theorem dX3_work_154 : decode cX3_work 154 = .ok (.iconst 0, 1) := by decide +kernel
theorem dX3_work_155 : decode cX3_work 155 = .ok (.ireturn, 1) := by decide +kernel
theorem dX3_work_156 : decode cX3_work 156 = .ok (.aload_n 0, 1) := by decide +kernel
theorem dX3_work_157 : decode cX3_work 157 = .ok (.getfield 32, 3) := by decide +kernel
theorem dX3_work_160 : decode cX3_work 160 = .ok (.iload 5, 2) := by decide +kernel
theorem dX3_work_162 : decode cX3_work 162 = .ok (.iconst 1, 1) := by decide +kernel
theorem dX3_work_163 : decode cX3_work 163 = .ok (.isub, 1) := by decide +kernel
theorem dX3_work_164 : decode cX3_work 164 = .ok (.iload 7, 2) := by decide +kernel
theorem dX3_work_166 : decode cX3_work 166 = .ok (.aload_n 0, 1) := by decide +kernel
theorem dX3_work_167 : decode cX3_work 167 = .ok (.getfield 32, 3) := by decide +kernel
theorem dX3_work_170 : decode cX3_work 170 = .ok (.iload 5, 2) := by decide +kernel
theorem dX3_work_172 : decode cX3_work 172 = .ok (.iconst 1, 1) := by decide +kernel
theorem dX3_work_173 : decode cX3_work 173 = .ok (.isub, 1) := by decide +kernel
theorem dX3_work_174 : decode cX3_work 174 = .ok (.invokevirtual 46, 3) := by decide +kernel
theorem dX3_work_177 : decode cX3_work 177 = .ok (.iload 8, 2) := by decide +kernel
theorem dX3_work_179 : decode cX3_work 179 = .ok (.invokestatic 50, 3) := by decide +kernel
theorem dX3_work_182 : decode cX3_work 182 = .ok (.invokevirtual 42, 3) := by decide +kernel
theorem dX3_work_185 : decode cX3_work 185 = .ok (.iinc 6 1, 3) := by decide +kernel
theorem dX3_work_188 : decode cX3_work 188 = .ok (.goto (-182), 3) := by decide +kernel
theorem dX3_work_191 : decode cX3_work 191 = .ok (.aload_n 0, 1) := by decide +kernel
theorem dX3_work_192 : decode cX3_work 192 = .ok (.aload_n 0, 1) := by decide +kernel
theorem dX3_work_193 : decode cX3_work 193 = .ok (.getfield 32, 3) := by decide +kernel
theorem dX3_work_196 : decode cX3_work 196 = .ok (.iconst 0, 1) := by decide +kernel
theorem dX3_work_197 : decode cX3_work 197 = .ok (.invokevirtual 46, 3) := by decide +kernel
theorem dX3_work_200 : decode cX3_work 200 = .ok (.putfield 54, 3) := by decide +kernel
theorem dX3_work_203 : decode cX3_work 203 = .ok (.iconst 1, 1) := by decide +kernel
theorem dX3_work_204 : decode cX3_work 204 = .ok (.ireturn, 1) := by decide +kernel
def bX3_work_185 (k6 : Int32 → Int32 → Int32 → Int32 → zS → zR) (x2 : Int32) (x4 : Int32) (x5 : Int32) (x6 : Int32) (t : zS) : zR := zlet (x6 + 1) fun v1828 => k6 x2 x4 x5 v1828 t
def bX3_work_78 (k6 : Int32 → Int32 → Int32 → Int32 → zS → zR) (x2 : Int32) (x4 : Int32) (x5 : Int32) (x6 : Int32) (y0 : Int32) (y1 : Int32) (t : zS) : zR := zbd (mX5_set 84 256 y1 y0 t) fun r1829 t1830 => zlet (x5 + 1) fun v1832 => bX3_work_185 k6 x2 x4 v1832 x6 t1830
def bX3_work_37 (k6 : Int32 → Int32 → Int32 → Int32 → zS → zR) (x2 : Int32) (x4 : Int32) (x5 : Int32) (x6 : Int32) (x7 : Int32) (t : zS) : zR := if x7 = 18 then zbd (mX5_get 76 3000 x6 t) fun r1839 t1840 => bX3_work_78 k6 x2 x4 x5 x6 r1839 x5 t1840 else zbd (mX5_get 76 3000 x6 t) fun r1833 t1834 => zbd (mX5_get 142 24000 (x4 + r1833) t1834) fun r1836 t1837 => bX3_work_78 k6 x2 x4 x5 x6 r1836 x5 t1837
def bX3_work_156 (k6 : Int32 → Int32 → Int32 → Int32 → zS → zR) (x2 : Int32) (x4 : Int32) (x5 : Int32) (x6 : Int32) (x7 : Int32) (x8 : Int32) (t : zS) : zR := zbd (mX5_get 84 256 (x5 - 1) t) fun r1842 t1843 => zbd (mX3_join x7 r1842 x8 t1843) fun r1845 t1846 => zbd (mX5_set 84 256 (x5 - 1) r1845 t1846) fun r1848 t1849 => bX3_work_185 k6 x2 x4 x5 x6 t1849
def bX3_work_6 (k6 : Int32 → Int32 → Int32 → Int32 → zS → zR) (x2 : Int32) (x4 : Int32) (x5 : Int32) (x6 : Int32) (t : zS) : zR := if x2 ≤ x6 then zbd (mX5_get 84 256 0 t) fun r1851 t1852 => zpt t1852 51 8 r1851 fun t1854 => some (1, t1854) else zbd (mX5_get 74 3000 x6 t) fun r1855 t1856 => if r1855 = 18 then bX3_work_37 k6 x2 x4 x5 x6 r1855 t1856 else if r1855 = 17 then bX3_work_37 k6 x2 x4 x5 x6 r1855 t1856 else if r1855 = 257 then zbd (mX5_get 84 256 (x5 - 1) t1856) fun r1862 t1863 => zbd (mX5_set 84 256 (x5 - 1) (-r1862) t1863) fun r1865 t1866 => bX3_work_185 k6 x2 x4 x5 x6 t1866 else zlet (x5 + (-1)) fun v1858 => zbd (mX5_get 84 256 v1858 t1856) fun r1859 t1860 => if r1859 = 0 then if r1855 = 47 then some (0, t1860) else if r1855 = 37 then some (0, t1860) else bX3_work_156 k6 x2 x4 v1858 x6 r1855 r1859 t1860 else bX3_work_156 k6 x2 x4 v1858 x6 r1855 r1859 t1860
def lX3_work_6 : Nat → Int32 → Int32 → Int32 → Int32 → zS → zR
  | 0, _, _, _, _, _ => none
  | fu + 1, x2, x4, x5, x6, t => bX3_work_6 (lX3_work_6  fu) x2 x4 x5 x6 t
def mX3_work (x1 : Int32) (x2 : Int32) (x4 : Int32) (t : zS) : zR := lX3_work_6  zFU x2 x4 0 x1 t
set_option maxHeartbeats 4000000 in
set_option maxRecDepth 20000 in
theorem wbX3_work_185 {E : zE} {C : zC} {f : Nat} {ro : Int32 × zS} (hf : 2 ≤ f) (k6 : Int32 → Int32 → Int32 → Int32 → zS → zR) (hk6 : ∀ (x2 x4 x5 x6 : Int32) (t : zS), k6 x2 x4 x5 x6 t = some ro → zJ E shC C cX3_work RX3 9 f (some .boolean) ro t 6 [(0, .ref (za E 51)), (2, .int x2), (3, .ref (za E 142)), (4, .int x4), (5, .int x5), (6, .int x6)] []) (x2 : Int32) (x4 : Int32) (x5 : Int32) (x6 : Int32) (t : zS) (hF : bX3_work_185 k6 x2 x4 x5 x6 t = some ro) : zJ E shC C cX3_work RX3 9 f (some .boolean) ro t 185 [(0, .ref (za E 51)), (2, .int x2), (3, .ref (za E 142)), (4, .int x4), (5, .int x5), (6, .int x6)] [] := by
  unfold bX3_work_185 at hF
  obtain ⟨v1828, ev1828⟩ : ∃ y : Int32, y = (x6 + 1) := ⟨_, rfl⟩
  have hF := zlet_at ev1828 hF
  refine z_iinc (v := v1828) (lv' := [(6, .int v1828), (0, .ref (za E 51)), (2, .int x2), (3, .ref (za E 142)), (4, .int x4), (5, .int x5)]) (k := 5) dX3_work_185 rfl (by rw [ev1828]; rfl) (by decide) rfl ?_
  refine z_goto (tgt := 6) dX3_work_188 (by decide) ?_
  refine z_sub [1, 2, 3, 4, 5, 0] rfl ?_
  exact hk6 x2 x4 x5 v1828 _ hF
set_option maxHeartbeats 4000000 in
set_option maxRecDepth 20000 in
theorem wbX3_work_78 {E : zE} {C : zC} {f : Nat} {ro : Int32 × zS} (hf : 2 ≤ f) (k6 : Int32 → Int32 → Int32 → Int32 → zS → zR) (hk6 : ∀ (x2 x4 x5 x6 : Int32) (t : zS), k6 x2 x4 x5 x6 t = some ro → zJ E shC C cX3_work RX3 9 f (some .boolean) ro t 6 [(0, .ref (za E 51)), (2, .int x2), (3, .ref (za E 142)), (4, .int x4), (5, .int x5), (6, .int x6)] []) (x2 : Int32) (x4 : Int32) (x5 : Int32) (x6 : Int32) (y0 : Int32) (y1 : Int32) (t : zS) (hF : bX3_work_78 k6 x2 x4 x5 x6 y0 y1 t = some ro) : zJ E shC C cX3_work RX3 9 f (some .boolean) ro t 78 [(0, .ref (za E 51)), (2, .int x2), (3, .ref (za E 142)), (4, .int x4), (5, .int x5), (6, .int x6)] [.int y0, .int y1, .ref (za E 84)] := by
  unfold bX3_work_78 at hF
  obtain ⟨r1829, t1830, hc1831, hF⟩ := zbd_at hF
  refine z_callVv (ctX5_set (E := E) (sh := shC) (f := f - 1) (by omega) (k := 84) (n := 256) rfl rfl hc1831) yy_X5_set yv_X5_set ob_C_84 lk_RX3_42 (by omega) rfl rfl (Nat.le_of_ble_eq_true rfl) dX3_work_78 ?_
  obtain ⟨v1832, ev1832⟩ : ∃ y : Int32, y = (x5 + 1) := ⟨_, rfl⟩
  have hF := zlet_at ev1832 hF
  refine z_iinc (v := v1832) (lv' := [(5, .int v1832), (0, .ref (za E 51)), (2, .int x2), (3, .ref (za E 142)), (4, .int x4), (6, .int x6)]) (k := 4) dX3_work_81 rfl (by rw [ev1832]; rfl) (by decide) rfl ?_
  refine z_goto (tgt := 185) dX3_work_84 (by decide) ?_
  refine z_sub [1, 2, 3, 4, 0, 5] rfl ?_
  exact wbX3_work_185 hf k6 hk6 x2 x4 v1832 x6 _ hF
set_option maxHeartbeats 4000000 in
set_option maxRecDepth 20000 in
theorem wbX3_work_37 {E : zE} {C : zC} {f : Nat} {ro : Int32 × zS} (hf : 2 ≤ f) (k6 : Int32 → Int32 → Int32 → Int32 → zS → zR) (hk6 : ∀ (x2 x4 x5 x6 : Int32) (t : zS), k6 x2 x4 x5 x6 t = some ro → zJ E shC C cX3_work RX3 9 f (some .boolean) ro t 6 [(0, .ref (za E 51)), (2, .int x2), (3, .ref (za E 142)), (4, .int x4), (5, .int x5), (6, .int x6)] []) (x2 : Int32) (x4 : Int32) (x5 : Int32) (x6 : Int32) (x7 : Int32) (t : zS) (hF : bX3_work_37 k6 x2 x4 x5 x6 x7 t = some ro) : zJ E shC C cX3_work RX3 9 f (some .boolean) ro t 37 [(0, .ref (za E 51)), (2, .int x2), (3, .ref (za E 142)), (4, .int x4), (5, .int x5), (6, .int x6), (7, .int x7)] [] := by
  unfold bX3_work_37 at hF
  refine z_aload_n 0 dX3_work_37 rfl rfl ?_
  refine z_getr fr_RX3_32 dX3_work_38 ?_
  refine z_iload 4 dX3_work_41 rfl ?_
  refine z_iload 6 dX3_work_43 rfl ?_
  refine z_bipush (v := 18) dX3_work_45 (by decide) ?_
  refine z_icmp_ne (tgt := 62) dX3_work_47 (by decide) (fun hc => ?_) (fun hc => ?_)
  · have hF := zif_f hc hF
    refine z_aload_n 2 dX3_work_62 rfl rfl ?_
    refine z_iload 3 dX3_work_63 rfl ?_
    refine z_aload_n 0 dX3_work_65 rfl rfl ?_
    refine z_getr fr_RX3_20 dX3_work_66 ?_
    refine z_iload 5 dX3_work_69 rfl ?_
    obtain ⟨r1833, t1834, hc1835, hF⟩ := zbd_at hF
    refine z_callVi (ctX5_get (E := E) (sh := shC) (f := f - 1) (by omega) (k := 76) (n := 3000) rfl rfl hc1835) yy_X5_get yv_X5_get ob_C_76 lk_RX3_46 (by omega) rfl rfl (Nat.le_of_ble_eq_true rfl) dX3_work_71 ?_
    refine z_iadd dX3_work_74 ?_
    obtain ⟨r1836, t1837, hc1838, hF⟩ := zbd_at hF
    refine z_callVi (ctX5_get (E := E) (sh := shC) (f := f - 1) (by omega) (k := 142) (n := 24000) rfl rfl hc1838) yy_X5_get yv_X5_get ob_C_142 lk_RX3_46 (by omega) rfl rfl (Nat.le_of_ble_eq_true rfl) dX3_work_75 ?_
    refine z_sub [0, 1, 2, 3, 4, 5] rfl ?_
    exact wbX3_work_78 hf k6 hk6 x2 x4 x5 x6 r1836 x5 _ hF
  · have hF := zif_t hc hF
    refine z_aload_n 0 dX3_work_50 rfl rfl ?_
    refine z_getr fr_RX3_20 dX3_work_51 ?_
    refine z_iload 5 dX3_work_54 rfl ?_
    obtain ⟨r1839, t1840, hc1841, hF⟩ := zbd_at hF
    refine z_callVi (ctX5_get (E := E) (sh := shC) (f := f - 1) (by omega) (k := 76) (n := 3000) rfl rfl hc1841) yy_X5_get yv_X5_get ob_C_76 lk_RX3_46 (by omega) rfl rfl (Nat.le_of_ble_eq_true rfl) dX3_work_56 ?_
    refine z_goto (tgt := 78) dX3_work_59 (by decide) ?_
    refine z_sub [0, 1, 2, 3, 4, 5] rfl ?_
    exact wbX3_work_78 hf k6 hk6 x2 x4 x5 x6 r1839 x5 _ hF
set_option maxHeartbeats 4000000 in
set_option maxRecDepth 20000 in
theorem wbX3_work_156 {E : zE} {C : zC} {f : Nat} {ro : Int32 × zS} (hf : 2 ≤ f) (k6 : Int32 → Int32 → Int32 → Int32 → zS → zR) (hk6 : ∀ (x2 x4 x5 x6 : Int32) (t : zS), k6 x2 x4 x5 x6 t = some ro → zJ E shC C cX3_work RX3 9 f (some .boolean) ro t 6 [(0, .ref (za E 51)), (2, .int x2), (3, .ref (za E 142)), (4, .int x4), (5, .int x5), (6, .int x6)] []) (x2 : Int32) (x4 : Int32) (x5 : Int32) (x6 : Int32) (x7 : Int32) (x8 : Int32) (t : zS) (hF : bX3_work_156 k6 x2 x4 x5 x6 x7 x8 t = some ro) : zJ E shC C cX3_work RX3 9 f (some .boolean) ro t 156 [(0, .ref (za E 51)), (2, .int x2), (3, .ref (za E 142)), (4, .int x4), (5, .int x5), (6, .int x6), (7, .int x7), (8, .int x8)] [] := by
  unfold bX3_work_156 at hF
  refine z_aload_n 0 dX3_work_156 rfl rfl ?_
  refine z_getr fr_RX3_32 dX3_work_157 ?_
  refine z_iload 4 dX3_work_160 rfl ?_
  refine z_iconst (v := 1) dX3_work_162 (by decide) ?_
  refine z_isub dX3_work_163 ?_
  refine z_iload 6 dX3_work_164 rfl ?_
  refine z_aload_n 0 dX3_work_166 rfl rfl ?_
  refine z_getr fr_RX3_32 dX3_work_167 ?_
  refine z_iload 4 dX3_work_170 rfl ?_
  refine z_iconst (v := 1) dX3_work_172 (by decide) ?_
  refine z_isub dX3_work_173 ?_
  obtain ⟨r1842, t1843, hc1844, hF⟩ := zbd_at hF
  refine z_callVi (ctX5_get (E := E) (sh := shC) (f := f - 1) (by omega) (k := 84) (n := 256) rfl rfl hc1844) yy_X5_get yv_X5_get ob_C_84 lk_RX3_46 (by omega) rfl rfl (Nat.le_of_ble_eq_true rfl) dX3_work_174 ?_
  refine z_iload 7 dX3_work_177 rfl ?_
  obtain ⟨r1845, t1846, hc1847, hF⟩ := zbd_at hF
  refine z_callSi (ctX3_join (E := E) (f := f - 1) (by omega) hc1847) yy_X3_join yv_X3_join lk_RX3_50 (by omega) rfl rfl (Nat.le_of_ble_eq_true rfl) dX3_work_179 ?_
  obtain ⟨r1848, t1849, hc1850, hF⟩ := zbd_at hF
  refine z_callVv (ctX5_set (E := E) (sh := shC) (f := f - 1) (by omega) (k := 84) (n := 256) rfl rfl hc1850) yy_X5_set yv_X5_set ob_C_84 lk_RX3_42 (by omega) rfl rfl (Nat.le_of_ble_eq_true rfl) dX3_work_182 ?_
  refine z_sub [0, 1, 2, 3, 4, 5] rfl ?_
  exact wbX3_work_185 hf k6 hk6 x2 x4 x5 x6 _ hF
set_option maxHeartbeats 4000000 in
set_option maxRecDepth 20000 in
theorem wbX3_work_6 {E : zE} {C : zC} {f : Nat} {ro : Int32 × zS} (hf : 2 ≤ f) (k6 : Int32 → Int32 → Int32 → Int32 → zS → zR) (hk6 : ∀ (x2 x4 x5 x6 : Int32) (t : zS), k6 x2 x4 x5 x6 t = some ro → zJ E shC C cX3_work RX3 9 f (some .boolean) ro t 6 [(0, .ref (za E 51)), (2, .int x2), (3, .ref (za E 142)), (4, .int x4), (5, .int x5), (6, .int x6)] []) (x2 : Int32) (x4 : Int32) (x5 : Int32) (x6 : Int32) (t : zS) (hF : bX3_work_6 k6 x2 x4 x5 x6 t = some ro) : zJ E shC C cX3_work RX3 9 f (some .boolean) ro t 6 [(0, .ref (za E 51)), (2, .int x2), (3, .ref (za E 142)), (4, .int x4), (5, .int x5), (6, .int x6)] [] := by
  unfold bX3_work_6 at hF
  refine z_iload 5 dX3_work_6 rfl ?_
  refine z_iload_n 1 dX3_work_8 rfl rfl ?_
  refine z_icmp_ge (tgt := 191) dX3_work_9 (by decide) (fun hc => ?_) (fun hc => ?_)
  · have hF := zif_t hc hF
    refine z_aload_n 0 dX3_work_191 rfl rfl ?_
    refine z_aload_n 0 dX3_work_192 rfl rfl ?_
    refine z_getr fr_RX3_32 dX3_work_193 ?_
    refine z_iconst (v := 0) dX3_work_196 (by decide) ?_
    obtain ⟨r1851, t1852, hc1853, hF⟩ := zbd_at hF
    refine z_callVi (ctX5_get (E := E) (sh := shC) (f := f - 1) (by omega) (k := 84) (n := 256) rfl rfl hc1853) yy_X5_get yv_X5_get ob_C_84 lk_RX3_46 (by omega) rfl rfl (Nat.le_of_ble_eq_true rfl) dX3_work_197 ?_
    refine z_puti fw_RX3_54 dX3_work_200 (fun t1854 et1854 => ?_)
    have hF := zpt_at hF t1854 et1854
    refine z_iconst (v := 1) dX3_work_203 (by decide) ?_
    exact z_zret hF (by decide) dX3_work_204
  · have hF := zif_f hc hF
    refine z_aload_n 0 dX3_work_12 rfl rfl ?_
    refine z_getr fr_RX3_14 dX3_work_13 ?_
    refine z_iload 5 dX3_work_16 rfl ?_
    obtain ⟨r1855, t1856, hc1857, hF⟩ := zbd_at hF
    refine z_callVi (ctX5_get (E := E) (sh := shC) (f := f - 1) (by omega) (k := 74) (n := 3000) rfl rfl hc1857) yy_X5_get yv_X5_get ob_C_74 lk_RX3_46 (by omega) rfl rfl (Nat.le_of_ble_eq_true rfl) dX3_work_18 ?_
    refine z_istore (lv' := [(7, .int r1855), (0, .ref (za E 51)), (2, .int x2), (3, .ref (za E 142)), (4, .int x4), (5, .int x5), (6, .int x6)]) dX3_work_21 (by decide) rfl ?_
    refine z_iload 0 dX3_work_23 rfl ?_
    refine z_bipush (v := 18) dX3_work_25 (by decide) ?_
    refine z_icmp_eq (tgt := 37) dX3_work_27 (by decide) (fun hc => ?_) (fun hc => ?_)
    · have hF := zif_t hc hF
      refine z_sub [1, 2, 3, 4, 5, 6, 0] rfl ?_
      exact wbX3_work_37 hf k6 hk6 x2 x4 x5 x6 r1855 _ hF
    · have hF := zif_f hc hF
      refine z_iload 0 dX3_work_30 rfl ?_
      refine z_bipush (v := 17) dX3_work_32 (by decide) ?_
      refine z_icmp_ne (tgt := 87) dX3_work_34 (by decide) (fun hc => ?_) (fun hc => ?_)
      · have hF := zif_f hc hF
        refine z_iload 0 dX3_work_87 rfl ?_
        refine z_sipush (v := 257) dX3_work_89 (by decide) ?_
        refine z_icmp_ne (tgt := 121) dX3_work_92 (by decide) (fun hc => ?_) (fun hc => ?_)
        · have hF := zif_f hc hF
          obtain ⟨v1858, ev1858⟩ : ∃ y : Int32, y = (x5 + (-1)) := ⟨_, rfl⟩
          have hF := zlet_at ev1858 hF
          refine z_iinc (v := v1858) (lv' := [(5, .int v1858), (7, .int r1855), (0, .ref (za E 51)), (2, .int x2), (3, .ref (za E 142)), (4, .int x4), (6, .int x6)]) (k := 5) dX3_work_121 rfl (by rw [ev1858]; rfl) (by decide) rfl ?_
          refine z_aload_n 2 dX3_work_124 rfl rfl ?_
          refine z_getr fr_RX3_32 dX3_work_125 ?_
          refine z_iload 0 dX3_work_128 rfl ?_
          obtain ⟨r1859, t1860, hc1861, hF⟩ := zbd_at hF
          refine z_callVi (ctX5_get (E := E) (sh := shC) (f := f - 1) (by omega) (k := 84) (n := 256) rfl rfl hc1861) yy_X5_get yv_X5_get ob_C_84 lk_RX3_46 (by omega) rfl rfl (Nat.le_of_ble_eq_true rfl) dX3_work_130 ?_
          refine z_istore (lv' := [(8, .int r1859), (5, .int v1858), (7, .int r1855), (0, .ref (za E 51)), (2, .int x2), (3, .ref (za E 142)), (4, .int x4), (6, .int x6)]) dX3_work_133 (by decide) rfl ?_
          refine z_iload 0 dX3_work_135 rfl ?_
          refine z_if_ne (tgt := 156) dX3_work_137 (by decide) (fun hc => ?_) (fun hc => ?_)
          · have hF := zif_f hc hF
            refine z_sub [3, 4, 5, 6, 1, 7, 2, 0] rfl ?_
            exact wbX3_work_156 hf k6 hk6 x2 x4 v1858 x6 r1855 r1859 _ hF
          · have hF := zif_t hc hF
            refine z_iload 2 dX3_work_140 rfl ?_
            refine z_bipush (v := 47) dX3_work_142 (by decide) ?_
            refine z_icmp_eq (tgt := 154) dX3_work_144 (by decide) (fun hc => ?_) (fun hc => ?_)
            · have hF := zif_t hc hF
              refine z_iconst (v := 0) dX3_work_154 (by decide) ?_
              exact z_zret hF (by decide) dX3_work_155
            · have hF := zif_f hc hF
              refine z_iload 2 dX3_work_147 rfl ?_
              refine z_bipush (v := 37) dX3_work_149 (by decide) ?_
              refine z_icmp_ne (tgt := 156) dX3_work_151 (by decide) (fun hc => ?_) (fun hc => ?_)
              · have hF := zif_f hc hF
                refine z_sub [3, 4, 5, 6, 1, 7, 2, 0] rfl ?_
                exact wbX3_work_156 hf k6 hk6 x2 x4 v1858 x6 r1855 r1859 _ hF
              · have hF := zif_t hc hF
                refine z_iconst (v := 0) dX3_work_154 (by decide) ?_
                exact z_zret hF (by decide) dX3_work_155
        · have hF := zif_t hc hF
          refine z_aload_n 1 dX3_work_95 rfl rfl ?_
          refine z_getr fr_RX3_32 dX3_work_96 ?_
          refine z_iload 5 dX3_work_99 rfl ?_
          refine z_iconst (v := 1) dX3_work_101 (by decide) ?_
          refine z_isub dX3_work_102 ?_
          refine z_aload_n 1 dX3_work_103 rfl rfl ?_
          refine z_getr fr_RX3_32 dX3_work_104 ?_
          refine z_iload 5 dX3_work_107 rfl ?_
          refine z_iconst (v := 1) dX3_work_109 (by decide) ?_
          refine z_isub dX3_work_110 ?_
          obtain ⟨r1862, t1863, hc1864, hF⟩ := zbd_at hF
          refine z_callVi (ctX5_get (E := E) (sh := shC) (f := f - 1) (by omega) (k := 84) (n := 256) rfl rfl hc1864) yy_X5_get yv_X5_get ob_C_84 lk_RX3_46 (by omega) rfl rfl (Nat.le_of_ble_eq_true rfl) dX3_work_111 ?_
          refine z_ineg dX3_work_114 ?_
          obtain ⟨r1865, t1866, hc1867, hF⟩ := zbd_at hF
          refine z_callVv (ctX5_set (E := E) (sh := shC) (f := f - 1) (by omega) (k := 84) (n := 256) rfl rfl hc1867) yy_X5_set yv_X5_set ob_C_84 lk_RX3_42 (by omega) rfl rfl (Nat.le_of_ble_eq_true rfl) dX3_work_115 ?_
          refine z_goto (tgt := 185) dX3_work_118 (by decide) ?_
          refine z_sub [1, 2, 3, 4, 5, 6] rfl ?_
          exact wbX3_work_185 hf k6 hk6 x2 x4 x5 x6 _ hF
      · have hF := zif_t hc hF
        refine z_sub [1, 2, 3, 4, 5, 6, 0] rfl ?_
        exact wbX3_work_37 hf k6 hk6 x2 x4 x5 x6 r1855 _ hF
set_option maxHeartbeats 4000000 in
set_option maxRecDepth 20000 in
theorem wlX3_work_6 {E : zE} {C : zC} {f : Nat} {ro : Int32 × zS} (hf : 2 ≤ f) (fu : Nat) : ∀ (x2 x4 x5 x6 : Int32) (t : zS), lX3_work_6  fu x2 x4 x5 x6 t = some ro → zJ E shC C cX3_work RX3 9 f (some .boolean) ro t 6 [(0, .ref (za E 51)), (2, .int x2), (3, .ref (za E 142)), (4, .int x4), (5, .int x5), (6, .int x6)] [] := by
  induction fu with
  | zero => intro x2 x4 x5 x6 t hF; cases hF
  | succ fu ih => intro x2 x4 x5 x6 t hF; exact wbX3_work_6 hf (lX3_work_6  fu) ih x2 x4 x5 x6 t hF
set_option maxHeartbeats 4000000 in
set_option maxRecDepth 20000 in
theorem ctX3_work {E : zE} {f : Nat} (hf : 2 ≤ f) {x1 : Int32} {x2 : Int32} {x4 : Int32} {t : zS} {ro : Int32 × zS} (hF : mX3_work  x1 x2 x4 t = some ro) : zM E shC f yX3_work cX3_work 9 (some .boolean) [.ref (za E 51), .int x1, .int x2, .ref (za E 142), .int x4] t ro := by
  refine zM_of (by decide) (Nat.le_of_ble_eq_true rfl) (fun C => ?_)
  show zJ E shC C cX3_work RX3 9 f (some .boolean) ro t 0 [(0, .ref (za E 51)), (1, .int x1), (2, .int x2), (3, .ref (za E 142)), (4, .int x4)] []
  unfold mX3_work at hF
  refine z_iconst (v := 0) dX3_work_0 (by decide) ?_
  refine z_istore (lv' := [(5, .int 0), (0, .ref (za E 51)), (1, .int x1), (2, .int x2), (3, .ref (za E 142)), (4, .int x4)]) dX3_work_1 (by decide) rfl ?_
  refine z_iload_n 2 dX3_work_3 rfl rfl ?_
  refine z_istore (lv' := [(6, .int x1), (5, .int 0), (0, .ref (za E 51)), (1, .int x1), (2, .int x2), (3, .ref (za E 142)), (4, .int x4)]) dX3_work_4 (by decide) rfl ?_
  refine z_sub [2, 4, 5, 6, 1, 0] rfl ?_
  exact wlX3_work_6 hf  zFU x2 x4 0 x1 _ hF
-- SessionHouse$House.work(III)Z
theorem dX4_work_0 : decode cX4_work 0 = .ok (.aload_n 0, 1) := by decide +kernel
theorem dX4_work_1 : decode cX4_work 1 = .ok (.getfield 44, 3) := by decide +kernel
theorem dX4_work_4 : decode cX4_work 4 = .ok (.iload_n 2, 1) := by decide +kernel
theorem dX4_work_5 : decode cX4_work 5 = .ok (.iload_n 3, 1) := by decide +kernel
theorem dX4_work_6 : decode cX4_work 6 = .ok (.aload_n 0, 1) := by decide +kernel
theorem dX4_work_7 : decode cX4_work 7 = .ok (.getfield 21, 3) := by decide +kernel
theorem dX4_work_10 : decode cX4_work 10 = .ok (.getfield 165, 3) := by decide +kernel
theorem dX4_work_13 : decode cX4_work 13 = .ok (.aload_n 0, 1) := by decide +kernel
theorem dX4_work_14 : decode cX4_work 14 = .ok (.getfield 21, 3) := by decide +kernel
theorem dX4_work_17 : decode cX4_work 17 = .ok (.getfield 168, 3) := by decide +kernel
theorem dX4_work_20 : decode cX4_work 20 = .ok (.iload_n 1, 1) := by decide +kernel
theorem dX4_work_21 : decode cX4_work 21 = .ok (.invokevirtual 99, 3) := by decide +kernel
theorem dX4_work_24 : decode cX4_work 24 = .ok (.invokevirtual 171, 3) := by decide +kernel
theorem dX4_work_27 : decode cX4_work 27 = .ok (.ifCond .eq 5, 3) := by decide +kernel
theorem dX4_work_30 : decode cX4_work 30 = .ok (.iconst 1, 1) := by decide +kernel
theorem dX4_work_31 : decode cX4_work 31 = .ok (.ireturn, 1) := by decide +kernel
theorem dX4_work_32 : decode cX4_work 32 = .ok (.aload_n 0, 1) := by decide +kernel
theorem dX4_work_33 : decode cX4_work 33 = .ok (.iconst 3, 1) := by decide +kernel
theorem dX4_work_34 : decode cX4_work 34 = .ok (.putfield 40, 3) := by decide +kernel
theorem dX4_work_37 : decode cX4_work 37 = .ok (.iconst 0, 1) := by decide +kernel
theorem dX4_work_38 : decode cX4_work 38 = .ok (.ireturn, 1) := by decide +kernel
def mX4_work (x1 : Int32) (x2 : Int32) (x3 : Int32) (t : zS) : zR := zbd (mX5_get 132 2501 x1 t) fun r1868 t1869 => zbd (mX3_work x2 x3 r1868 t1869) fun r1871 t1872 => if r1871 = 0 then zpt t1872 7 16 3 fun t1874 => some (0, t1874) else some (1, t1872)
set_option maxHeartbeats 4000000 in
set_option maxRecDepth 20000 in
theorem ctX4_work {E : zE} {f : Nat} (hf : 3 ≤ f) {x1 : Int32} {x2 : Int32} {x3 : Int32} {t : zS} {ro : Int32 × zS} (hF : mX4_work  x1 x2 x3 t = some ro) : zM E shC f yX4_work cX4_work 4 (some .boolean) [.ref (za E 7), .int x1, .int x2, .int x3] t ro := by
  refine zM_of (by decide) (Nat.le_of_ble_eq_true rfl) (fun C => ?_)
  show zJ E shC C cX4_work RX4 4 f (some .boolean) ro t 0 [(0, .ref (za E 7)), (1, .int x1), (2, .int x2), (3, .int x3)] []
  unfold mX4_work at hF
  refine z_aload_n 0 dX4_work_0 rfl rfl ?_
  refine z_getr fr_RX4_44 dX4_work_1 ?_
  refine z_iload_n 2 dX4_work_4 rfl rfl ?_
  refine z_iload_n 3 dX4_work_5 rfl rfl ?_
  refine z_aload_n 0 dX4_work_6 rfl rfl ?_
  refine z_getr fr_RX4_21 dX4_work_7 ?_
  refine z_getr fr_RX4_165 dX4_work_10 ?_
  refine z_aload_n 0 dX4_work_13 rfl rfl ?_
  refine z_getr fr_RX4_21 dX4_work_14 ?_
  refine z_getr fr_RX4_168 dX4_work_17 ?_
  refine z_iload_n 1 dX4_work_20 rfl rfl ?_
  obtain ⟨r1868, t1869, hc1870, hF⟩ := zbd_at hF
  refine z_callVi (ctX5_get (E := E) (sh := shC) (f := f - 1) (by omega) (k := 132) (n := 2501) rfl rfl hc1870) yy_X5_get yv_X5_get ob_C_132 lk_RX4_99 (by omega) rfl rfl (Nat.le_of_ble_eq_true rfl) dX4_work_21 ?_
  obtain ⟨r1871, t1872, hc1873, hF⟩ := zbd_at hF
  refine z_callVi (ctX3_work (E := E) (f := f - 1) (by omega) hc1873) yy_X3_work yv_X3_work ob_C_51 lk_RX4_171 (by omega) rfl rfl (Nat.le_of_ble_eq_true rfl) dX4_work_24 ?_
  refine z_if_eq (tgt := 32) dX4_work_27 (by decide) (fun hc => ?_) (fun hc => ?_)
  · have hF := zif_t hc hF
    refine z_aload_n 0 dX4_work_32 rfl rfl ?_
    refine z_iconst (v := 3) dX4_work_33 (by decide) ?_
    refine z_puti fw_RX4_40 dX4_work_34 (fun t1874 et1874 => ?_)
    have hF := zpt_at hF t1874 et1874
    refine z_iconst (v := 0) dX4_work_37 (by decide) ?_
    exact z_zret hF (by decide) dX4_work_38
  · have hF := zif_f hc hF
    refine z_iconst (v := 1) dX4_work_30 (by decide) ?_
    exact z_zret hF (by decide) dX4_work_31
-- SessionHouse$Channels.close(I)Z
theorem dX0_close_0 : decode cX0_close 0 = .ok (.iload_n 1, 1) := by decide +kernel
theorem dX0_close_1 : decode cX0_close 1 = .ok (.iconst 1, 1) := by decide +kernel
theorem dX0_close_2 : decode cX0_close 2 = .ok (.ishr, 1) := by decide +kernel
theorem dX0_close_3 : decode cX0_close 3 = .ok (.istore_n 2, 1) := by decide +kernel
theorem dX0_close_4 : decode cX0_close 4 = .ok (.aload_n 0, 1) := by decide +kernel
theorem dX0_close_5 : decode cX0_close 5 = .ok (.getfield 26, 3) := by decide +kernel
theorem dX0_close_8 : decode cX0_close 8 = .ok (.iload_n 2, 1) := by decide +kernel
theorem dX0_close_9 : decode cX0_close 9 = .ok (.aload_n 0, 1) := by decide +kernel
theorem dX0_close_10 : decode cX0_close 10 = .ok (.getfield 26, 3) := by decide +kernel
theorem dX0_close_13 : decode cX0_close 13 = .ok (.iload_n 2, 1) := by decide +kernel
theorem dX0_close_14 : decode cX0_close 14 = .ok (.invokevirtual 48, 3) := by decide +kernel
theorem dX0_close_17 : decode cX0_close 17 = .ok (.iconst 1, 1) := by decide +kernel
theorem dX0_close_18 : decode cX0_close 18 = .ok (.isub, 1) := by decide +kernel
theorem dX0_close_19 : decode cX0_close 19 = .ok (.invokevirtual 52, 3) := by decide +kernel
theorem dX0_close_22 : decode cX0_close 22 = .ok (.aload_n 0, 1) := by decide +kernel
theorem dX0_close_23 : decode cX0_close 23 = .ok (.getfield 26, 3) := by decide +kernel
theorem dX0_close_26 : decode cX0_close 26 = .ok (.iload_n 2, 1) := by decide +kernel
theorem dX0_close_27 : decode cX0_close 27 = .ok (.invokevirtual 48, 3) := by decide +kernel
theorem dX0_close_30 : decode cX0_close 30 = .ok (.ifCond .le 5, 3) := by decide +kernel
theorem dX0_close_33 : decode cX0_close 33 = .ok (.iconst 0, 1) := by decide +kernel
theorem dX0_close_34 : decode cX0_close 34 = .ok (.ireturn, 1) := by decide +kernel
theorem dX0_close_35 : decode cX0_close 35 = .ok (.aload_n 0, 1) := by decide +kernel
theorem dX0_close_36 : decode cX0_close 36 = .ok (.getfield 29, 3) := by decide +kernel
theorem dX0_close_39 : decode cX0_close 39 = .ok (.aload_n 0, 1) := by decide +kernel
theorem dX0_close_40 : decode cX0_close 40 = .ok (.getfield 36, 3) := by decide +kernel
theorem dX0_close_43 : decode cX0_close 43 = .ok (.iload_n 2, 1) := by decide +kernel
theorem dX0_close_44 : decode cX0_close 44 = .ok (.invokevirtual 52, 3) := by decide +kernel
theorem dX0_close_47 : decode cX0_close 47 = .ok (.aload_n 0, 1) := by decide +kernel
theorem dX0_close_48 : decode cX0_close 48 = .ok (.dup, 1) := by decide +kernel
theorem dX0_close_49 : decode cX0_close 49 = .ok (.getfield 36, 3) := by decide +kernel
theorem dX0_close_52 : decode cX0_close 52 = .ok (.iconst 1, 1) := by decide +kernel
theorem dX0_close_53 : decode cX0_close 53 = .ok (.iadd, 1) := by decide +kernel
theorem dX0_close_54 : decode cX0_close 54 = .ok (.putfield 36, 3) := by decide +kernel
theorem dX0_close_57 : decode cX0_close 57 = .ok (.aload_n 0, 1) := by decide +kernel
theorem dX0_close_58 : decode cX0_close 58 = .ok (.dup, 1) := by decide +kernel
theorem dX0_close_59 : decode cX0_close 59 = .ok (.getfield 42, 3) := by decide +kernel
theorem dX0_close_62 : decode cX0_close 62 = .ok (.iconst 1, 1) := by decide +kernel
theorem dX0_close_63 : decode cX0_close 63 = .ok (.isub, 1) := by decide +kernel
theorem dX0_close_64 : decode cX0_close 64 = .ok (.putfield 42, 3) := by decide +kernel
theorem dX0_close_67 : decode cX0_close 67 = .ok (.iconst 1, 1) := by decide +kernel
theorem dX0_close_68 : decode cX0_close 68 = .ok (.ireturn, 1) := by decide +kernel
def mX0_close (x1 : Int32) (t : zS) : zR := zlet (x1 >>> (1 &&& 31)) fun v1875 => zbd (mX5_get 122 1668 v1875 t) fun r1876 t1877 => zbd (mX5_set 122 1668 v1875 (r1876 - 1) t1877) fun r1879 t1880 => zbd (mX5_get 122 1668 v1875 t1880) fun r1882 t1883 => if r1882 ≤ 0 then zbd (mX5_set 124 1668 (t1883 59 5) v1875 t1883) fun r1885 t1886 => zpt t1886 59 5 ((t1886 59 5) + 1) fun t1888 => zpt t1888 59 8 ((t1888 59 8) - 1) fun t1889 => some (1, t1889) else some (0, t1883)
set_option maxHeartbeats 4000000 in
set_option maxRecDepth 20000 in
theorem ctX0_close {E : zE} {f : Nat} (hf : 2 ≤ f) {x1 : Int32} {t : zS} {ro : Int32 × zS} (hF : mX0_close  x1 t = some ro) : zM E shC f yX0_close cX0_close 3 (some .boolean) [.ref (za E 59), .int x1] t ro := by
  refine zM_of (by decide) (Nat.le_of_ble_eq_true rfl) (fun C => ?_)
  show zJ E shC C cX0_close RX0 3 f (some .boolean) ro t 0 [(0, .ref (za E 59)), (1, .int x1)] []
  unfold mX0_close at hF
  refine z_iload_n 1 dX0_close_0 rfl rfl ?_
  refine z_iconst (v := 1) dX0_close_1 (by decide) ?_
  refine z_ishr dX0_close_2 ?_
  refine z_topi (fun v1875 ev1875 => ?_)
  have hF := zlet_at ev1875 hF
  refine z_istore_n (lv' := [(2, .int v1875), (0, .ref (za E 59)), (1, .int x1)]) dX0_close_3 rfl (by decide) rfl ?_
  refine z_aload_n 1 dX0_close_4 rfl rfl ?_
  refine z_getr fr_RX0_26 dX0_close_5 ?_
  refine z_iload_n 0 dX0_close_8 rfl rfl ?_
  refine z_aload_n 1 dX0_close_9 rfl rfl ?_
  refine z_getr fr_RX0_26 dX0_close_10 ?_
  refine z_iload_n 0 dX0_close_13 rfl rfl ?_
  obtain ⟨r1876, t1877, hc1878, hF⟩ := zbd_at hF
  refine z_callVi (ctX5_get (E := E) (sh := shC) (f := f - 1) (by omega) (k := 122) (n := 1668) rfl rfl hc1878) yy_X5_get yv_X5_get ob_C_122 lk_RX0_48 (by omega) rfl rfl (Nat.le_of_ble_eq_true rfl) dX0_close_14 ?_
  refine z_iconst (v := 1) dX0_close_17 (by decide) ?_
  refine z_isub dX0_close_18 ?_
  obtain ⟨r1879, t1880, hc1881, hF⟩ := zbd_at hF
  refine z_callVv (ctX5_set (E := E) (sh := shC) (f := f - 1) (by omega) (k := 122) (n := 1668) rfl rfl hc1881) yy_X5_set yv_X5_set ob_C_122 lk_RX0_52 (by omega) rfl rfl (Nat.le_of_ble_eq_true rfl) dX0_close_19 ?_
  refine z_aload_n 1 dX0_close_22 rfl rfl ?_
  refine z_getr fr_RX0_26 dX0_close_23 ?_
  refine z_iload_n 0 dX0_close_26 rfl rfl ?_
  obtain ⟨r1882, t1883, hc1884, hF⟩ := zbd_at hF
  refine z_callVi (ctX5_get (E := E) (sh := shC) (f := f - 1) (by omega) (k := 122) (n := 1668) rfl rfl hc1884) yy_X5_get yv_X5_get ob_C_122 lk_RX0_48 (by omega) rfl rfl (Nat.le_of_ble_eq_true rfl) dX0_close_27 ?_
  refine z_if_le (tgt := 35) dX0_close_30 (by decide) (fun hc => ?_) (fun hc => ?_)
  · have hF := zif_t hc hF
    refine z_aload_n 1 dX0_close_35 rfl rfl ?_
    refine z_getr fr_RX0_29 dX0_close_36 ?_
    refine z_aload_n 1 dX0_close_39 rfl rfl ?_
    refine z_geti fi_RX0_36 dX0_close_40 ?_
    refine z_iload_n 0 dX0_close_43 rfl rfl ?_
    obtain ⟨r1885, t1886, hc1887, hF⟩ := zbd_at hF
    refine z_callVv (ctX5_set (E := E) (sh := shC) (f := f - 1) (by omega) (k := 124) (n := 1668) rfl rfl hc1887) yy_X5_set yv_X5_set ob_C_124 lk_RX0_52 (by omega) rfl rfl (Nat.le_of_ble_eq_true rfl) dX0_close_44 ?_
    refine z_aload_n 1 dX0_close_47 rfl rfl ?_
    refine z_dup dX0_close_48 rfl ?_
    refine z_geti fi_RX0_36 dX0_close_49 ?_
    refine z_iconst (v := 1) dX0_close_52 (by decide) ?_
    refine z_iadd dX0_close_53 ?_
    refine z_puti fw_RX0_36 dX0_close_54 (fun t1888 et1888 => ?_)
    have hF := zpt_at hF t1888 et1888
    refine z_aload_n 1 dX0_close_57 rfl rfl ?_
    refine z_dup dX0_close_58 rfl ?_
    refine z_geti fi_RX0_42 dX0_close_59 ?_
    refine z_iconst (v := 1) dX0_close_62 (by decide) ?_
    refine z_isub dX0_close_63 ?_
    refine z_puti fw_RX0_42 dX0_close_64 (fun t1889 et1889 => ?_)
    have hF := zpt_at hF t1889 et1889
    refine z_iconst (v := 1) dX0_close_67 (by decide) ?_
    exact z_zret hF (by decide) dX0_close_68
  · have hF := zif_f hc hF
    refine z_iconst (v := 0) dX0_close_33 (by decide) ?_
    exact z_zret hF (by decide) dX0_close_34
-- SessionHouse$Channels.cellsOfOne()I
theorem dX0_cellsOfOne_0 : decode cX0_cellsOfOne 0 = .ok (.iconst 4, 1) := by decide +kernel
theorem dX0_cellsOfOne_1 : decode cX0_cellsOfOne 1 = .ok (.iconst 2, 1) := by decide +kernel
theorem dX0_cellsOfOne_2 : decode cX0_cellsOfOne 2 = .ok (.aload_n 0, 1) := by decide +kernel
theorem dX0_cellsOfOne_3 : decode cX0_cellsOfOne 3 = .ok (.getfield 32, 3) := by decide +kernel
theorem dX0_cellsOfOne_6 : decode cX0_cellsOfOne 6 = .ok (.imul, 1) := by decide +kernel
theorem dX0_cellsOfOne_7 : decode cX0_cellsOfOne 7 = .ok (.iadd, 1) := by decide +kernel
theorem dX0_cellsOfOne_8 : decode cX0_cellsOfOne 8 = .ok (.ireturn, 1) := by decide +kernel
def mX0_cellsOfOne (t : zS) : zR := some ((4 + (2 * (t 59 7))), t)
set_option maxHeartbeats 4000000 in
set_option maxRecDepth 20000 in
theorem ctX0_cellsOfOne {E : zE} {f : Nat} (hf : 1 ≤ f) {t : zS} {ro : Int32 × zS} (hF : mX0_cellsOfOne   t = some ro) : zM E shC f yX0_cellsOfOne cX0_cellsOfOne 1 (some .int) [.ref (za E 59)] t ro := by
  refine zM_of (by decide) (Nat.le_of_ble_eq_true rfl) (fun C => ?_)
  show zJ E shC C cX0_cellsOfOne RX0 1 f (some .int) ro t 0 [(0, .ref (za E 59))] []
  unfold mX0_cellsOfOne at hF
  refine z_iconst (v := 4) dX0_cellsOfOne_0 (by decide) ?_
  refine z_iconst (v := 2) dX0_cellsOfOne_1 (by decide) ?_
  refine z_aload_n 0 dX0_cellsOfOne_2 rfl rfl ?_
  refine z_geti fi_RX0_32 dX0_cellsOfOne_3 ?_
  refine z_imul dX0_cellsOfOne_6 ?_
  refine z_iadd dX0_cellsOfOne_7 ?_
  exact z_iret hF dX0_cellsOfOne_8
-- SessionHouse$House.close(II)V
theorem dX4_close_0 : decode cX4_close 0 = .ok (.aload_n 0, 1) := by decide +kernel
theorem dX4_close_1 : decode cX4_close 1 = .ok (.getfield 12, 3) := by decide +kernel
theorem dX4_close_4 : decode cX4_close 4 = .ok (.aload_n 0, 1) := by decide +kernel
theorem dX4_close_5 : decode cX4_close 5 = .ok (.getfield 21, 3) := by decide +kernel
theorem dX4_close_8 : decode cX4_close 8 = .ok (.iload_n 1, 1) := by decide +kernel
theorem dX4_close_9 : decode cX4_close 9 = .ok (.iload_n 2, 1) := by decide +kernel
theorem dX4_close_10 : decode cX4_close 10 = .ok (.invokevirtual 189, 3) := by decide +kernel
theorem dX4_close_13 : decode cX4_close 13 = .ok (.invokevirtual 193, 3) := by decide +kernel
theorem dX4_close_16 : decode cX4_close 16 = .ok (.ifCond .eq 19, 3) := by decide +kernel
theorem dX4_close_19 : decode cX4_close 19 = .ok (.aload_n 0, 1) := by decide +kernel
theorem dX4_close_20 : decode cX4_close 20 = .ok (.dup, 1) := by decide +kernel
theorem dX4_close_21 : decode cX4_close 21 = .ok (.getfield 75, 3) := by decide +kernel
theorem dX4_close_24 : decode cX4_close 24 = .ok (.aload_n 0, 1) := by decide +kernel
theorem dX4_close_25 : decode cX4_close 25 = .ok (.getfield 12, 3) := by decide +kernel
theorem dX4_close_28 : decode cX4_close 28 = .ok (.invokevirtual 196, 3) := by decide +kernel
theorem dX4_close_31 : decode cX4_close 31 = .ok (.isub, 1) := by decide +kernel
theorem dX4_close_32 : decode cX4_close 32 = .ok (.putfield 75, 3) := by decide +kernel
theorem dX4_close_35 : decode cX4_close 35 = .ok (.aload_n 0, 1) := by decide +kernel
theorem dX4_close_36 : decode cX4_close 36 = .ok (.getfield 21, 3) := by decide +kernel
theorem dX4_close_39 : decode cX4_close 39 = .ok (.iload_n 1, 1) := by decide +kernel
theorem dX4_close_40 : decode cX4_close 40 = .ok (.iload_n 2, 1) := by decide +kernel
theorem dX4_close_41 : decode cX4_close 41 = .ok (.iconst (-1), 1) := by decide +kernel
theorem dX4_close_42 : decode cX4_close 42 = .ok (.invokevirtual 200, 3) := by decide +kernel
theorem dX4_close_45 : decode cX4_close 45 = .ok (.return_, 1) := by decide +kernel
def bX4_close_35 (x1 : Int32) (x2 : Int32) (t : zS) : zR := zbd (mX8_setChannel x1 x2 (-1) t) fun r1890 t1891 => some (0, t1891)
def mX4_close (x1 : Int32) (x2 : Int32) (t : zS) : zR := zbd (mX8_channel x1 x2 t) fun r1893 t1894 => zbd (mX0_close r1893 t1894) fun r1896 t1897 => if r1896 = 0 then bX4_close_35  x1 x2 t1897 else zbd (mX0_cellsOfOne  t1897) fun r1899 t1900 => zpt t1900 7 14 ((t1897 7 14) - r1899) fun t1902 => bX4_close_35  x1 x2 t1902
set_option maxHeartbeats 4000000 in
set_option maxRecDepth 20000 in
theorem wbX4_close_35 {E : zE} {C : zC} {f : Nat} {ro : Int32 × zS} (hf : 3 ≤ f) (x1 : Int32) (x2 : Int32) (t : zS) (hF : bX4_close_35  x1 x2 t = some ro) : zJ E shC C cX4_close RX4 3 f none ro t 35 [(0, .ref (za E 7)), (1, .int x1), (2, .int x2)] [] := by
  unfold bX4_close_35 at hF
  refine z_aload_n 0 dX4_close_35 rfl rfl ?_
  refine z_getr fr_RX4_21 dX4_close_36 ?_
  refine z_iload_n 1 dX4_close_39 rfl rfl ?_
  refine z_iload_n 2 dX4_close_40 rfl rfl ?_
  refine z_iconst (v := (-1)) dX4_close_41 (by decide) ?_
  obtain ⟨r1890, t1891, hc1892, hF⟩ := zbd_at hF
  refine z_callVv (ctX8_setChannel (E := E) (f := f - 1) (by omega) hc1892) yy_X8_setChannel yv_X8_setChannel ob_C_60 lk_RX4_200 (by omega) rfl rfl (Nat.le_of_ble_eq_true rfl) dX4_close_42 ?_
  exact z_vret hF dX4_close_45
set_option maxHeartbeats 4000000 in
set_option maxRecDepth 20000 in
theorem ctX4_close {E : zE} {f : Nat} (hf : 3 ≤ f) {x1 : Int32} {x2 : Int32} {t : zS} {ro : Int32 × zS} (hF : mX4_close  x1 x2 t = some ro) : zM E shC f yX4_close cX4_close 3 none [.ref (za E 7), .int x1, .int x2] t ro := by
  refine zM_of (by decide) (Nat.le_of_ble_eq_true rfl) (fun C => ?_)
  show zJ E shC C cX4_close RX4 3 f none ro t 0 [(0, .ref (za E 7)), (1, .int x1), (2, .int x2)] []
  unfold mX4_close at hF
  refine z_aload_n 0 dX4_close_0 rfl rfl ?_
  refine z_getr fr_RX4_12 dX4_close_1 ?_
  refine z_aload_n 0 dX4_close_4 rfl rfl ?_
  refine z_getr fr_RX4_21 dX4_close_5 ?_
  refine z_iload_n 1 dX4_close_8 rfl rfl ?_
  refine z_iload_n 2 dX4_close_9 rfl rfl ?_
  obtain ⟨r1893, t1894, hc1895, hF⟩ := zbd_at hF
  refine z_callVi (ctX8_channel (E := E) (f := f - 1) (by omega) hc1895) yy_X8_channel yv_X8_channel ob_C_60 lk_RX4_189 (by omega) rfl rfl (Nat.le_of_ble_eq_true rfl) dX4_close_10 ?_
  obtain ⟨r1896, t1897, hc1898, hF⟩ := zbd_at hF
  refine z_callVi (ctX0_close (E := E) (f := f - 1) (by omega) hc1898) yy_X0_close yv_X0_close ob_C_59 lk_RX4_193 (by omega) rfl rfl (Nat.le_of_ble_eq_true rfl) dX4_close_13 ?_
  refine z_if_eq (tgt := 35) dX4_close_16 (by decide) (fun hc => ?_) (fun hc => ?_)
  · have hF := zif_t hc hF
    exact wbX4_close_35 hf  x1 x2 _ hF
  · have hF := zif_f hc hF
    refine z_aload_n 0 dX4_close_19 rfl rfl ?_
    refine z_dup dX4_close_20 rfl ?_
    refine z_geti fi_RX4_75 dX4_close_21 ?_
    refine z_aload_n 0 dX4_close_24 rfl rfl ?_
    refine z_getr fr_RX4_12 dX4_close_25 ?_
    obtain ⟨r1899, t1900, hc1901, hF⟩ := zbd_at hF
    refine z_callVi (ctX0_cellsOfOne (E := E) (f := f - 1) (by omega) hc1901) yy_X0_cellsOfOne yv_X0_cellsOfOne ob_C_59 lk_RX4_196 (by omega) rfl rfl (Nat.le_of_ble_eq_true rfl) dX4_close_28 ?_
    refine z_isub dX4_close_31 ?_
    refine z_puti fw_RX4_75 dX4_close_32 (fun t1902 et1902 => ?_)
    have hF := zpt_at hF t1902 et1902
    exact wbX4_close_35 hf  x1 x2 _ hF
-- SessionHouse$House.goOn(II)Z
theorem dX4_goOn_0 : decode cX4_goOn 0 = .ok (.aload_n 0, 1) := by decide +kernel
theorem dX4_goOn_1 : decode cX4_goOn 1 = .ok (.getfield 48, 3) := by decide +kernel
theorem dX4_goOn_4 : decode cX4_goOn 4 = .ok (.getfield 177, 3) := by decide +kernel
theorem dX4_goOn_7 : decode cX4_goOn 7 = .ok (.iload_n 2, 1) := by decide +kernel
theorem dX4_goOn_8 : decode cX4_goOn 8 = .ok (.invokevirtual 99, 3) := by decide +kernel
theorem dX4_goOn_11 : decode cX4_goOn 11 = .ok (.iconst 1, 1) := by decide +kernel
theorem dX4_goOn_12 : decode cX4_goOn 12 = .ok (.if_icmp .ne 19, 3) := by decide +kernel
theorem dX4_goOn_15 : decode cX4_goOn 15 = .ok (.aload_n 0, 1) := by decide +kernel
theorem dX4_goOn_16 : decode cX4_goOn 16 = .ok (.iload_n 1, 1) := by decide +kernel
theorem dX4_goOn_17 : decode cX4_goOn 17 = .ok (.aload_n 0, 1) := by decide +kernel
theorem dX4_goOn_18 : decode cX4_goOn 18 = .ok (.getfield 48, 3) := by decide +kernel
theorem dX4_goOn_21 : decode cX4_goOn 21 = .ok (.getfield 180, 3) := by decide +kernel
theorem dX4_goOn_24 : decode cX4_goOn 24 = .ok (.iload_n 2, 1) := by decide +kernel
theorem dX4_goOn_25 : decode cX4_goOn 25 = .ok (.invokevirtual 99, 3) := by decide +kernel
theorem dX4_goOn_28 : decode cX4_goOn 28 = .ok (.invokevirtual 183, 3) := by decide +kernel
theorem dX4_goOn_31 : decode cX4_goOn 31 = .ok (.aload_n 0, 1) := by decide +kernel
theorem dX4_goOn_32 : decode cX4_goOn 32 = .ok (.getfield 21, 3) := by decide +kernel
theorem dX4_goOn_35 : decode cX4_goOn 35 = .ok (.getfield 112, 3) := by decide +kernel
theorem dX4_goOn_38 : decode cX4_goOn 38 = .ok (.iload_n 1, 1) := by decide +kernel
theorem dX4_goOn_39 : decode cX4_goOn 39 = .ok (.aload_n 0, 1) := by decide +kernel
theorem dX4_goOn_40 : decode cX4_goOn 40 = .ok (.getfield 48, 3) := by decide +kernel
theorem dX4_goOn_43 : decode cX4_goOn 43 = .ok (.getfield 186, 3) := by decide +kernel
theorem dX4_goOn_46 : decode cX4_goOn 46 = .ok (.iload_n 2, 1) := by decide +kernel
theorem dX4_goOn_47 : decode cX4_goOn 47 = .ok (.invokevirtual 99, 3) := by decide +kernel
theorem dX4_goOn_50 : decode cX4_goOn 50 = .ok (.invokevirtual 62, 3) := by decide +kernel
theorem dX4_goOn_53 : decode cX4_goOn 53 = .ok (.iconst 1, 1) := by decide +kernel
theorem dX4_goOn_54 : decode cX4_goOn 54 = .ok (.ireturn, 1) := by decide +kernel
def bX4_goOn_31 (x1 : Int32) (x2 : Int32) (t : zS) : zR := zbd (mX5_get 102 1000 x2 t) fun r1903 t1904 => zbd (mX5_set 128 2501 x1 r1903 t1904) fun r1906 t1907 => some (1, t1907)
def mX4_goOn (x1 : Int32) (x2 : Int32) (t : zS) : zR := zbd (mX5_get 106 1000 x2 t) fun r1909 t1910 => if r1909 = 1 then zbd (mX5_get 90 1000 x2 t1910) fun r1912 t1913 => zbd (mX4_close x1 r1912 t1913) fun r1915 t1916 => bX4_goOn_31  x1 x2 t1916 else bX4_goOn_31  x1 x2 t1910
set_option maxHeartbeats 4000000 in
set_option maxRecDepth 20000 in
theorem wbX4_goOn_31 {E : zE} {C : zC} {f : Nat} {ro : Int32 × zS} (hf : 4 ≤ f) (x1 : Int32) (x2 : Int32) (t : zS) (hF : bX4_goOn_31  x1 x2 t = some ro) : zJ E shC C cX4_goOn RX4 3 f (some .boolean) ro t 31 [(0, .ref (za E 7)), (1, .int x1), (2, .int x2)] [] := by
  unfold bX4_goOn_31 at hF
  refine z_aload_n 0 dX4_goOn_31 rfl rfl ?_
  refine z_getr fr_RX4_21 dX4_goOn_32 ?_
  refine z_getr fr_RX4_112 dX4_goOn_35 ?_
  refine z_iload_n 1 dX4_goOn_38 rfl rfl ?_
  refine z_aload_n 0 dX4_goOn_39 rfl rfl ?_
  refine z_getr fr_RX4_48 dX4_goOn_40 ?_
  refine z_getr fr_RX4_186 dX4_goOn_43 ?_
  refine z_iload_n 2 dX4_goOn_46 rfl rfl ?_
  obtain ⟨r1903, t1904, hc1905, hF⟩ := zbd_at hF
  refine z_callVi (ctX5_get (E := E) (sh := shC) (f := f - 1) (by omega) (k := 102) (n := 1000) rfl rfl hc1905) yy_X5_get yv_X5_get ob_C_102 lk_RX4_99 (by omega) rfl rfl (Nat.le_of_ble_eq_true rfl) dX4_goOn_47 ?_
  obtain ⟨r1906, t1907, hc1908, hF⟩ := zbd_at hF
  refine z_callVv (ctX5_set (E := E) (sh := shC) (f := f - 1) (by omega) (k := 128) (n := 2501) rfl rfl hc1908) yy_X5_set yv_X5_set ob_C_128 lk_RX4_62 (by omega) rfl rfl (Nat.le_of_ble_eq_true rfl) dX4_goOn_50 ?_
  refine z_iconst (v := 1) dX4_goOn_53 (by decide) ?_
  exact z_zret hF (by decide) dX4_goOn_54
set_option maxHeartbeats 4000000 in
set_option maxRecDepth 20000 in
theorem ctX4_goOn {E : zE} {f : Nat} (hf : 4 ≤ f) {x1 : Int32} {x2 : Int32} {t : zS} {ro : Int32 × zS} (hF : mX4_goOn  x1 x2 t = some ro) : zM E shC f yX4_goOn cX4_goOn 3 (some .boolean) [.ref (za E 7), .int x1, .int x2] t ro := by
  refine zM_of (by decide) (Nat.le_of_ble_eq_true rfl) (fun C => ?_)
  show zJ E shC C cX4_goOn RX4 3 f (some .boolean) ro t 0 [(0, .ref (za E 7)), (1, .int x1), (2, .int x2)] []
  unfold mX4_goOn at hF
  refine z_aload_n 0 dX4_goOn_0 rfl rfl ?_
  refine z_getr fr_RX4_48 dX4_goOn_1 ?_
  refine z_getr fr_RX4_177 dX4_goOn_4 ?_
  refine z_iload_n 2 dX4_goOn_7 rfl rfl ?_
  obtain ⟨r1909, t1910, hc1911, hF⟩ := zbd_at hF
  refine z_callVi (ctX5_get (E := E) (sh := shC) (f := f - 1) (by omega) (k := 106) (n := 1000) rfl rfl hc1911) yy_X5_get yv_X5_get ob_C_106 lk_RX4_99 (by omega) rfl rfl (Nat.le_of_ble_eq_true rfl) dX4_goOn_8 ?_
  refine z_iconst (v := 1) dX4_goOn_11 (by decide) ?_
  refine z_icmp_ne (tgt := 31) dX4_goOn_12 (by decide) (fun hc => ?_) (fun hc => ?_)
  · have hF := zif_f hc hF
    exact wbX4_goOn_31 hf  x1 x2 _ hF
  · have hF := zif_t hc hF
    refine z_aload_n 0 dX4_goOn_15 rfl rfl ?_
    refine z_iload_n 1 dX4_goOn_16 rfl rfl ?_
    refine z_aload_n 0 dX4_goOn_17 rfl rfl ?_
    refine z_getr fr_RX4_48 dX4_goOn_18 ?_
    refine z_getr fr_RX4_180 dX4_goOn_21 ?_
    refine z_iload_n 2 dX4_goOn_24 rfl rfl ?_
    obtain ⟨r1912, t1913, hc1914, hF⟩ := zbd_at hF
    refine z_callVi (ctX5_get (E := E) (sh := shC) (f := f - 1) (by omega) (k := 90) (n := 1000) rfl rfl hc1914) yy_X5_get yv_X5_get ob_C_90 lk_RX4_99 (by omega) rfl rfl (Nat.le_of_ble_eq_true rfl) dX4_goOn_25 ?_
    obtain ⟨r1915, t1916, hc1917, hF⟩ := zbd_at hF
    refine z_callVv (ctX4_close (E := E) (f := f - 1) (by omega) hc1917) yy_X4_close yv_X4_close ob_C_7 lk_RX4_183 (by omega) rfl rfl (Nat.le_of_ble_eq_true rfl) dX4_goOn_28 ?_
    exact wbX4_goOn_31 hf  x1 x2 _ hF
