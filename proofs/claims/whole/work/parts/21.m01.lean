-- SessionHouse$Words.cut(LSessionHouse$Ints;I)V
theorem dX10_cut_0 : decode cX10_cut 0 = .ok (.aload_n 0, 1) := by decide +kernel
theorem dX10_cut_1 : decode cX10_cut 1 = .ok (.invokevirtual 30, 3) := by decide +kernel
theorem dX10_cut_4 : decode cX10_cut 4 = .ok (.iconst 0, 1) := by decide +kernel
theorem dX10_cut_5 : decode cX10_cut 5 = .ok (.istore_n 3, 1) := by decide +kernel
theorem dX10_cut_6 : decode cX10_cut 6 = .ok (.iconst 0, 1) := by decide +kernel
theorem dX10_cut_7 : decode cX10_cut 7 = .ok (.istore 4, 2) := by decide +kernel
theorem dX10_cut_9 : decode cX10_cut 9 = .ok (.iload 4, 2) := by decide +kernel
theorem dX10_cut_11 : decode cX10_cut 11 = .ok (.sipush 3000, 3) := by decide +kernel
theorem dX10_cut_14 : decode cX10_cut 14 = .ok (.if_icmp .ge 87, 3) := by decide +kernel
theorem dX10_cut_17 : decode cX10_cut 17 = .ok (.iload_n 3, 1) := by decide +kernel
theorem dX10_cut_18 : decode cX10_cut 18 = .ok (.iload_n 2, 1) := by decide +kernel
theorem dX10_cut_19 : decode cX10_cut 19 = .ok (.if_icmp .ge 82, 3) := by decide +kernel
theorem dX10_cut_22 : decode cX10_cut 22 = .ok (.aload_n 1, 1) := by decide +kernel
theorem dX10_cut_23 : decode cX10_cut 23 = .ok (.iload_n 3, 1) := by decide +kernel
theorem dX10_cut_24 : decode cX10_cut 24 = .ok (.invokevirtual 33, 3) := by decide +kernel
theorem dX10_cut_27 : decode cX10_cut 27 = .ok (.istore 5, 2) := by decide +kernel
theorem dX10_cut_29 : decode cX10_cut 29 = .ok (.iload 5, 2) := by decide +kernel
theorem dX10_cut_31 : decode cX10_cut 31 = .ok (.bipush 32, 2) := by decide +kernel
theorem dX10_cut_33 : decode cX10_cut 33 = .ok (.if_icmp .eq 10, 3) := by decide +kernel
theorem dX10_cut_36 : decode cX10_cut 36 = .ok (.iload 5, 2) := by decide +kernel
theorem dX10_cut_38 : decode cX10_cut 38 = .ok (.bipush 10, 2) := by decide +kernel
theorem dX10_cut_40 : decode cX10_cut 40 = .ok (.if_icmp .ne 9, 3) := by decide +kernel
theorem dX10_cut_43 : decode cX10_cut 43 = .ok (.iinc 3 1, 3) := by decide +kernel
theorem dX10_cut_46 : decode cX10_cut 46 = .ok (.goto 49, 3) := by decide +kernel
theorem dX10_cut_49 : decode cX10_cut 49 = .ok (.iload 5, 2) := by decide +kernel
theorem dX10_cut_51 : decode cX10_cut 51 = .ok (.invokestatic 37, 3) := by decide +kernel
theorem dX10_cut_54 : decode cX10_cut 54 = .ok (.ifCond .eq 14, 3) := by decide +kernel
theorem dX10_cut_57 : decode cX10_cut 57 = .ok (.aload_n 0, 1) := by decide +kernel
theorem dX10_cut_58 : decode cX10_cut 58 = .ok (.aload_n 1, 1) := by decide +kernel
theorem dX10_cut_59 : decode cX10_cut 59 = .ok (.iload_n 3, 1) := by decide +kernel
theorem dX10_cut_60 : decode cX10_cut 60 = .ok (.iload_n 2, 1) := by decide +kernel
theorem dX10_cut_61 : decode cX10_cut 61 = .ok (.invokevirtual 41, 3) := by decide +kernel
theorem dX10_cut_64 : decode cX10_cut 64 = .ok (.istore_n 3, 1) := by decide +kernel
theorem dX10_cut_65 : decode cX10_cut 65 = .ok (.goto 30, 3) := by decide +kernel
theorem dX10_cut_68 : decode cX10_cut 68 = .ok (.iload 5, 2) := by decide +kernel
theorem dX10_cut_70 : decode cX10_cut 70 = .ok (.invokestatic 45, 3) := by decide +kernel
theorem dX10_cut_73 : decode cX10_cut 73 = .ok (.ifCond .eq 14, 3) := by decide +kernel
theorem dX10_cut_76 : decode cX10_cut 76 = .ok (.aload_n 0, 1) := by decide +kernel
theorem dX10_cut_77 : decode cX10_cut 77 = .ok (.aload_n 1, 1) := by decide +kernel
theorem dX10_cut_78 : decode cX10_cut 78 = .ok (.iload_n 3, 1) := by decide +kernel
theorem dX10_cut_79 : decode cX10_cut 79 = .ok (.iload_n 2, 1) := by decide +kernel
theorem dX10_cut_80 : decode cX10_cut 80 = .ok (.invokevirtual 48, 3) := by decide +kernel
theorem dX10_cut_83 : decode cX10_cut 83 = .ok (.istore_n 3, 1) := by decide +kernel
theorem dX10_cut_84 : decode cX10_cut 84 = .ok (.goto 11, 3) := by decide +kernel
theorem dX10_cut_87 : decode cX10_cut 87 = .ok (.aload_n 0, 1) := by decide +kernel
theorem dX10_cut_88 : decode cX10_cut 88 = .ok (.aload_n 1, 1) := by decide +kernel
theorem dX10_cut_89 : decode cX10_cut 89 = .ok (.iload_n 3, 1) := by decide +kernel
theorem dX10_cut_90 : decode cX10_cut 90 = .ok (.iload_n 2, 1) := by decide +kernel
theorem dX10_cut_91 : decode cX10_cut 91 = .ok (.invokevirtual 51, 3) := by decide +kernel
theorem dX10_cut_94 : decode cX10_cut 94 = .ok (.istore_n 3, 1) := by decide +kernel
theorem dX10_cut_95 : decode cX10_cut 95 = .ok (.iinc 4 1, 3) := by decide +kernel
theorem dX10_cut_98 : decode cX10_cut 98 = .ok (.goto (-89), 3) := by decide +kernel
theorem dX10_cut_101 : decode cX10_cut 101 = .ok (.aload_n 0, 1) := by decide +kernel
theorem dX10_cut_102 : decode cX10_cut 102 = .ok (.bipush 19, 2) := by decide +kernel
theorem dX10_cut_104 : decode cX10_cut 104 = .ok (.iload_n 2, 1) := by decide +kernel
theorem dX10_cut_105 : decode cX10_cut 105 = .ok (.iconst 0, 1) := by decide +kernel
theorem dX10_cut_106 : decode cX10_cut 106 = .ok (.invokevirtual 54, 3) := by decide +kernel
theorem dX10_cut_109 : decode cX10_cut 109 = .ok (.return_, 1) := by decide +kernel
def bX10_cut_95 (k9 : Int32 → Int32 → Int32 → zS → zR) (x2 : Int32) (x3 : Int32) (x4 : Int32) (t : zS) : zR := zlet (x4 + 1) fun v202 => k9 x2 x3 v202 t
def bX10_cut_43 (k9 : Int32 → Int32 → Int32 → zS → zR) (x2 : Int32) (x3 : Int32) (x4 : Int32) (t : zS) : zR := zlet (x3 + 1) fun v203 => bX10_cut_95 k9 x2 v203 x4 t
def bX10_cut_101 (x2 : Int32) (t : zS) : zR := zbd (mX10_add 19 x2 0 t) fun r204 t205 => some (0, t205)
def bX10_cut_9 (k9 : Int32 → Int32 → Int32 → zS → zR) (x2 : Int32) (x3 : Int32) (x4 : Int32) (t : zS) : zR := if 3000 ≤ x4 then bX10_cut_101  x2 t else if x2 ≤ x3 then bX10_cut_101  x2 t else zbd (mX5_get 1 3000 x3 t) fun r207 t208 => if r207 = 32 then bX10_cut_43 k9 x2 x3 x4 t208 else if r207 = 10 then bX10_cut_43 k9 x2 x3 x4 t208 else zbd (mX10_isLetter r207 t208) fun r210 t211 => if r210 = 0 then zbd (mX10_isDigit r207 t211) fun r213 t214 => if r213 = 0 then zbd (mX10_cutSign x3 x2 t214) fun r216 t217 => bX10_cut_95 k9 x2 r216 x4 t217 else zbd (mX10_cutNumber x3 x2 t214) fun r219 t220 => bX10_cut_95 k9 x2 r219 x4 t220 else zbd (mX10_cutName x3 x2 t211) fun r222 t223 => bX10_cut_95 k9 x2 r222 x4 t223
def lX10_cut_9 : Nat → Int32 → Int32 → Int32 → zS → zR
  | 0, _, _, _, _ => none
  | fu + 1, x2, x3, x4, t => bX10_cut_9 (lX10_cut_9  fu) x2 x3 x4 t
def mX10_cut (x2 : Int32) (t : zS) : zR := zbd (mX10_forget  t) fun r225 t226 => lX10_cut_9  zFU x2 0 0 t226
set_option maxHeartbeats 4000000 in
set_option maxRecDepth 20000 in
theorem wbX10_cut_95 {E : zE} {C : zC} {f : Nat} {ro : Int32 × zS} (hf : 9 ≤ f) (k9 : Int32 → Int32 → Int32 → zS → zR) (hk9 : ∀ (x2 x3 x4 : Int32) (t : zS), k9 x2 x3 x4 t = some ro → zJ E shC C cX10_cut RX10 6 f none ro t 9 [(0, .ref (za E 50)), (1, .ref (za E 1)), (2, .int x2), (3, .int x3), (4, .int x4)] []) (x2 : Int32) (x3 : Int32) (x4 : Int32) (t : zS) (hF : bX10_cut_95 k9 x2 x3 x4 t = some ro) : zJ E shC C cX10_cut RX10 6 f none ro t 95 [(0, .ref (za E 50)), (1, .ref (za E 1)), (2, .int x2), (3, .int x3), (4, .int x4)] [] := by
  unfold bX10_cut_95 at hF
  obtain ⟨v202, ev202⟩ : ∃ y : Int32, y = (x4 + 1) := ⟨_, rfl⟩
  have hF := zlet_at ev202 hF
  refine z_iinc (v := v202) (lv' := [(4, .int v202), (0, .ref (za E 50)), (1, .ref (za E 1)), (2, .int x2), (3, .int x3)]) (k := 4) dX10_cut_95 rfl (by rw [ev202]; rfl) (by decide) rfl ?_
  refine z_goto (tgt := 9) dX10_cut_98 (by decide) ?_
  refine z_sub [1, 2, 3, 4, 0] rfl ?_
  exact hk9 x2 x3 v202 _ hF
set_option maxHeartbeats 4000000 in
set_option maxRecDepth 20000 in
theorem wbX10_cut_43 {E : zE} {C : zC} {f : Nat} {ro : Int32 × zS} (hf : 9 ≤ f) (k9 : Int32 → Int32 → Int32 → zS → zR) (hk9 : ∀ (x2 x3 x4 : Int32) (t : zS), k9 x2 x3 x4 t = some ro → zJ E shC C cX10_cut RX10 6 f none ro t 9 [(0, .ref (za E 50)), (1, .ref (za E 1)), (2, .int x2), (3, .int x3), (4, .int x4)] []) (x2 : Int32) (x3 : Int32) (x4 : Int32) (t : zS) (hF : bX10_cut_43 k9 x2 x3 x4 t = some ro) : zJ E shC C cX10_cut RX10 6 f none ro t 43 [(0, .ref (za E 50)), (1, .ref (za E 1)), (2, .int x2), (3, .int x3), (4, .int x4)] [] := by
  unfold bX10_cut_43 at hF
  obtain ⟨v203, ev203⟩ : ∃ y : Int32, y = (x3 + 1) := ⟨_, rfl⟩
  have hF := zlet_at ev203 hF
  refine z_iinc (v := v203) (lv' := [(3, .int v203), (0, .ref (za E 50)), (1, .ref (za E 1)), (2, .int x2), (4, .int x4)]) (k := 3) dX10_cut_43 rfl (by rw [ev203]; rfl) (by decide) rfl ?_
  refine z_goto (tgt := 95) dX10_cut_46 (by decide) ?_
  refine z_sub [1, 2, 3, 0, 4] rfl ?_
  exact wbX10_cut_95 hf k9 hk9 x2 v203 x4 _ hF
set_option maxHeartbeats 4000000 in
set_option maxRecDepth 20000 in
theorem wbX10_cut_101 {E : zE} {C : zC} {f : Nat} {ro : Int32 × zS} (hf : 9 ≤ f) (x2 : Int32) (t : zS) (hF : bX10_cut_101  x2 t = some ro) : zJ E shC C cX10_cut RX10 6 f none ro t 101 [(0, .ref (za E 50)), (2, .int x2)] [] := by
  unfold bX10_cut_101 at hF
  refine z_aload_n 0 dX10_cut_101 rfl rfl ?_
  refine z_bipush (v := 19) dX10_cut_102 (by decide) ?_
  refine z_iload_n 1 dX10_cut_104 rfl rfl ?_
  refine z_iconst (v := 0) dX10_cut_105 (by decide) ?_
  obtain ⟨r204, t205, hc206, hF⟩ := zbd_at hF
  refine z_callVv (ctX10_add (E := E) (f := f - 1) (by omega) hc206) yy_X10_add yv_X10_add ob_C_50 lk_RX10_54 (by omega) rfl rfl (Nat.le_of_ble_eq_true rfl) dX10_cut_106 ?_
  exact z_vret hF dX10_cut_109
set_option maxHeartbeats 4000000 in
set_option maxRecDepth 20000 in
theorem wbX10_cut_9 {E : zE} {C : zC} {f : Nat} {ro : Int32 × zS} (hf : 9 ≤ f) (k9 : Int32 → Int32 → Int32 → zS → zR) (hk9 : ∀ (x2 x3 x4 : Int32) (t : zS), k9 x2 x3 x4 t = some ro → zJ E shC C cX10_cut RX10 6 f none ro t 9 [(0, .ref (za E 50)), (1, .ref (za E 1)), (2, .int x2), (3, .int x3), (4, .int x4)] []) (x2 : Int32) (x3 : Int32) (x4 : Int32) (t : zS) (hF : bX10_cut_9 k9 x2 x3 x4 t = some ro) : zJ E shC C cX10_cut RX10 6 f none ro t 9 [(0, .ref (za E 50)), (1, .ref (za E 1)), (2, .int x2), (3, .int x3), (4, .int x4)] [] := by
  unfold bX10_cut_9 at hF
  refine z_iload 4 dX10_cut_9 rfl ?_
  refine z_sipush (v := 3000) dX10_cut_11 (by decide) ?_
  refine z_icmp_ge (tgt := 101) dX10_cut_14 (by decide) (fun hc => ?_) (fun hc => ?_)
  · have hF := zif_t hc hF
    refine z_sub [0, 2] rfl ?_
    exact wbX10_cut_101 hf  x2 _ hF
  · have hF := zif_f hc hF
    refine z_iload_n 3 dX10_cut_17 rfl rfl ?_
    refine z_iload_n 2 dX10_cut_18 rfl rfl ?_
    refine z_icmp_ge (tgt := 101) dX10_cut_19 (by decide) (fun hc => ?_) (fun hc => ?_)
    · have hF := zif_t hc hF
      refine z_sub [0, 2] rfl ?_
      exact wbX10_cut_101 hf  x2 _ hF
    · have hF := zif_f hc hF
      refine z_aload_n 1 dX10_cut_22 rfl rfl ?_
      refine z_iload_n 3 dX10_cut_23 rfl rfl ?_
      obtain ⟨r207, t208, hc209, hF⟩ := zbd_at hF
      refine z_callVi (ctX5_get (E := E) (sh := shC) (f := f - 1) (by omega) (k := 1) (n := 3000) rfl rfl hc209) yy_X5_get yv_X5_get ob_C_1 lk_RX10_33 (by omega) rfl rfl (Nat.le_of_ble_eq_true rfl) dX10_cut_24 ?_
      refine z_istore (lv' := [(5, .int r207), (0, .ref (za E 50)), (1, .ref (za E 1)), (2, .int x2), (3, .int x3), (4, .int x4)]) dX10_cut_27 (by decide) rfl ?_
      refine z_iload 0 dX10_cut_29 rfl ?_
      refine z_bipush (v := 32) dX10_cut_31 (by decide) ?_
      refine z_icmp_eq (tgt := 43) dX10_cut_33 (by decide) (fun hc => ?_) (fun hc => ?_)
      · have hF := zif_t hc hF
        refine z_sub [1, 2, 3, 4, 5] rfl ?_
        exact wbX10_cut_43 hf k9 hk9 x2 x3 x4 _ hF
      · have hF := zif_f hc hF
        refine z_iload 0 dX10_cut_36 rfl ?_
        refine z_bipush (v := 10) dX10_cut_38 (by decide) ?_
        refine z_icmp_ne (tgt := 49) dX10_cut_40 (by decide) (fun hc => ?_) (fun hc => ?_)
        · have hF := zif_f hc hF
          refine z_iload 0 dX10_cut_49 rfl ?_
          obtain ⟨r210, t211, hc212, hF⟩ := zbd_at hF
          refine z_callSi (ctX10_isLetter (E := E) (f := f - 1) (by omega) hc212) yy_X10_isLetter yv_X10_isLetter lk_RX10_37 (by omega) rfl rfl (Nat.le_of_ble_eq_true rfl) dX10_cut_51 ?_
          refine z_if_eq (tgt := 68) dX10_cut_54 (by decide) (fun hc => ?_) (fun hc => ?_)
          · have hF := zif_t hc hF
            refine z_iload 0 dX10_cut_68 rfl ?_
            obtain ⟨r213, t214, hc215, hF⟩ := zbd_at hF
            refine z_callSi (ctX10_isDigit (E := E) (f := f - 1) (by omega) hc215) yy_X10_isDigit yv_X10_isDigit lk_RX10_45 (by omega) rfl rfl (Nat.le_of_ble_eq_true rfl) dX10_cut_70 ?_
            refine z_if_eq (tgt := 87) dX10_cut_73 (by decide) (fun hc => ?_) (fun hc => ?_)
            · have hF := zif_t hc hF
              refine z_aload_n 1 dX10_cut_87 rfl rfl ?_
              refine z_aload_n 2 dX10_cut_88 rfl rfl ?_
              refine z_iload_n 4 dX10_cut_89 rfl rfl ?_
              refine z_iload_n 3 dX10_cut_90 rfl rfl ?_
              obtain ⟨r216, t217, hc218, hF⟩ := zbd_at hF
              refine z_callVi (ctX10_cutSign (E := E) (f := f - 1) (by omega) hc218) yy_X10_cutSign yv_X10_cutSign ob_C_50 lk_RX10_51 (by omega) rfl rfl (Nat.le_of_ble_eq_true rfl) dX10_cut_91 ?_
              refine z_istore_n (lv' := [(3, .int r216), (5, .int r207), (0, .ref (za E 50)), (1, .ref (za E 1)), (2, .int x2), (4, .int x4)]) dX10_cut_94 rfl (by decide) rfl ?_
              refine z_sub [2, 3, 4, 0, 5] rfl ?_
              exact wbX10_cut_95 hf k9 hk9 x2 r216 x4 _ hF
            · have hF := zif_f hc hF
              refine z_aload_n 1 dX10_cut_76 rfl rfl ?_
              refine z_aload_n 2 dX10_cut_77 rfl rfl ?_
              refine z_iload_n 4 dX10_cut_78 rfl rfl ?_
              refine z_iload_n 3 dX10_cut_79 rfl rfl ?_
              obtain ⟨r219, t220, hc221, hF⟩ := zbd_at hF
              refine z_callVi (ctX10_cutNumber (E := E) (f := f - 1) (by omega) hc221) yy_X10_cutNumber yv_X10_cutNumber ob_C_50 lk_RX10_48 (by omega) rfl rfl (Nat.le_of_ble_eq_true rfl) dX10_cut_80 ?_
              refine z_istore_n (lv' := [(3, .int r219), (5, .int r207), (0, .ref (za E 50)), (1, .ref (za E 1)), (2, .int x2), (4, .int x4)]) dX10_cut_83 rfl (by decide) rfl ?_
              refine z_goto (tgt := 95) dX10_cut_84 (by decide) ?_
              refine z_sub [2, 3, 4, 0, 5] rfl ?_
              exact wbX10_cut_95 hf k9 hk9 x2 r219 x4 _ hF
          · have hF := zif_f hc hF
            refine z_aload_n 1 dX10_cut_57 rfl rfl ?_
            refine z_aload_n 2 dX10_cut_58 rfl rfl ?_
            refine z_iload_n 4 dX10_cut_59 rfl rfl ?_
            refine z_iload_n 3 dX10_cut_60 rfl rfl ?_
            obtain ⟨r222, t223, hc224, hF⟩ := zbd_at hF
            refine z_callVi (ctX10_cutName (E := E) (f := f - 1) (by omega) hc224) yy_X10_cutName yv_X10_cutName ob_C_50 lk_RX10_41 (by omega) rfl rfl (Nat.le_of_ble_eq_true rfl) dX10_cut_61 ?_
            refine z_istore_n (lv' := [(3, .int r222), (5, .int r207), (0, .ref (za E 50)), (1, .ref (za E 1)), (2, .int x2), (4, .int x4)]) dX10_cut_64 rfl (by decide) rfl ?_
            refine z_goto (tgt := 95) dX10_cut_65 (by decide) ?_
            refine z_sub [2, 3, 4, 0, 5] rfl ?_
            exact wbX10_cut_95 hf k9 hk9 x2 r222 x4 _ hF
        · have hF := zif_t hc hF
          refine z_sub [1, 2, 3, 4, 5] rfl ?_
          exact wbX10_cut_43 hf k9 hk9 x2 x3 x4 _ hF
set_option maxHeartbeats 4000000 in
set_option maxRecDepth 20000 in
theorem wlX10_cut_9 {E : zE} {C : zC} {f : Nat} {ro : Int32 × zS} (hf : 9 ≤ f) (fu : Nat) : ∀ (x2 x3 x4 : Int32) (t : zS), lX10_cut_9  fu x2 x3 x4 t = some ro → zJ E shC C cX10_cut RX10 6 f none ro t 9 [(0, .ref (za E 50)), (1, .ref (za E 1)), (2, .int x2), (3, .int x3), (4, .int x4)] [] := by
  induction fu with
  | zero => intro x2 x3 x4 t hF; cases hF
  | succ fu ih => intro x2 x3 x4 t hF; exact wbX10_cut_9 hf (lX10_cut_9  fu) ih x2 x3 x4 t hF
set_option maxHeartbeats 4000000 in
set_option maxRecDepth 20000 in
theorem ctX10_cut {E : zE} {f : Nat} (hf : 9 ≤ f) {x2 : Int32} {t : zS} {ro : Int32 × zS} (hF : mX10_cut  x2 t = some ro) : zM E shC f yX10_cut cX10_cut 6 none [.ref (za E 50), .ref (za E 1), .int x2] t ro := by
  refine zM_of (by decide) (Nat.le_of_ble_eq_true rfl) (fun C => ?_)
  show zJ E shC C cX10_cut RX10 6 f none ro t 0 [(0, .ref (za E 50)), (1, .ref (za E 1)), (2, .int x2)] []
  unfold mX10_cut at hF
  refine z_aload_n 0 dX10_cut_0 rfl rfl ?_
  obtain ⟨r225, t226, hc227, hF⟩ := zbd_at hF
  refine z_callVv (ctX10_forget (E := E) (f := f - 1) (by omega) hc227) yy_X10_forget yv_X10_forget ob_C_50 lk_RX10_30 (by omega) rfl rfl (Nat.le_of_ble_eq_true rfl) dX10_cut_1 ?_
  refine z_iconst (v := 0) dX10_cut_4 (by decide) ?_
  refine z_istore_n (lv' := [(3, .int 0), (0, .ref (za E 50)), (1, .ref (za E 1)), (2, .int x2)]) dX10_cut_5 rfl (by decide) rfl ?_
  refine z_iconst (v := 0) dX10_cut_6 (by decide) ?_
  refine z_istore (lv' := [(4, .int 0), (3, .int 0), (0, .ref (za E 50)), (1, .ref (za E 1)), (2, .int x2)]) dX10_cut_7 (by decide) rfl ?_
  refine z_sub [2, 3, 4, 1, 0] rfl ?_
  exact wlX10_cut_9 hf  zFU x2 0 0 _ hF
-- SessionHouse$Reader.step()V
theorem dX7_step_0 : decode cX7_step 0 = .ok (.aload_n 0, 1) := by decide +kernel
theorem dX7_step_1 : decode cX7_step 1 = .ok (.dup, 1) := by decide +kernel
theorem dX7_step_2 : decode cX7_step 2 = .ok (.getfield 74, 3) := by decide +kernel
theorem dX7_step_5 : decode cX7_step 5 = .ok (.iconst 1, 1) := by decide +kernel
theorem dX7_step_6 : decode cX7_step 6 = .ok (.iadd, 1) := by decide +kernel
theorem dX7_step_7 : decode cX7_step 7 = .ok (.putfield 74, 3) := by decide +kernel
theorem dX7_step_10 : decode cX7_step 10 = .ok (.iconst 3, 1) := by decide +kernel
theorem dX7_step_11 : decode cX7_step 11 = .ok (.aload_n 0, 1) := by decide +kernel
theorem dX7_step_12 : decode cX7_step 12 = .ok (.getfield 74, 3) := by decide +kernel
theorem dX7_step_15 : decode cX7_step 15 = .ok (.imul, 1) := by decide +kernel
theorem dX7_step_16 : decode cX7_step 16 = .ok (.istore_n 1, 1) := by decide +kernel
theorem dX7_step_17 : decode cX7_step 17 = .ok (.aload_n 0, 1) := by decide +kernel
theorem dX7_step_18 : decode cX7_step 18 = .ok (.getfield 68, 3) := by decide +kernel
theorem dX7_step_21 : decode cX7_step 21 = .ok (.ifCond .ge 64, 3) := by decide +kernel
theorem dX7_step_24 : decode cX7_step 24 = .ok (.iload_n 1, 1) := by decide +kernel
theorem dX7_step_25 : decode cX7_step 25 = .ok (.ifCond .lt 60, 3) := by decide +kernel
theorem dX7_step_28 : decode cX7_step 28 = .ok (.iload_n 1, 1) := by decide +kernel
theorem dX7_step_29 : decode cX7_step 29 = .ok (.iconst 2, 1) := by decide +kernel
theorem dX7_step_30 : decode cX7_step 30 = .ok (.iadd, 1) := by decide +kernel
theorem dX7_step_31 : decode cX7_step 31 = .ok (.aload_n 0, 1) := by decide +kernel
theorem dX7_step_32 : decode cX7_step 32 = .ok (.getfield 12, 3) := by decide +kernel
theorem dX7_step_35 : decode cX7_step 35 = .ok (.getfield 114, 3) := by decide +kernel
theorem dX7_step_38 : decode cX7_step 38 = .ok (.arraylength, 1) := by decide +kernel
theorem dX7_step_39 : decode cX7_step 39 = .ok (.if_icmp .ge 46, 3) := by decide +kernel
theorem dX7_step_42 : decode cX7_step 42 = .ok (.aload_n 0, 1) := by decide +kernel
theorem dX7_step_43 : decode cX7_step 43 = .ok (.aload_n 0, 1) := by decide +kernel
theorem dX7_step_44 : decode cX7_step 44 = .ok (.getfield 12, 3) := by decide +kernel
theorem dX7_step_47 : decode cX7_step 47 = .ok (.getfield 114, 3) := by decide +kernel
theorem dX7_step_50 : decode cX7_step 50 = .ok (.iload_n 1, 1) := by decide +kernel
theorem dX7_step_51 : decode cX7_step 51 = .ok (.iaload, 1) := by decide +kernel
theorem dX7_step_52 : decode cX7_step 52 = .ok (.putfield 80, 3) := by decide +kernel
theorem dX7_step_55 : decode cX7_step 55 = .ok (.aload_n 0, 1) := by decide +kernel
theorem dX7_step_56 : decode cX7_step 56 = .ok (.aload_n 0, 1) := by decide +kernel
theorem dX7_step_57 : decode cX7_step 57 = .ok (.getfield 12, 3) := by decide +kernel
theorem dX7_step_60 : decode cX7_step 60 = .ok (.getfield 114, 3) := by decide +kernel
theorem dX7_step_63 : decode cX7_step 63 = .ok (.iload_n 1, 1) := by decide +kernel
theorem dX7_step_64 : decode cX7_step 64 = .ok (.iconst 1, 1) := by decide +kernel
theorem dX7_step_65 : decode cX7_step 65 = .ok (.iadd, 1) := by decide +kernel
theorem dX7_step_66 : decode cX7_step 66 = .ok (.iaload, 1) := by decide +kernel
theorem dX7_step_67 : decode cX7_step 67 = .ok (.putfield 118, 3) := by decide +kernel
theorem dX7_step_70 : decode cX7_step 70 = .ok (.aload_n 0, 1) := by decide +kernel
theorem dX7_step_71 : decode cX7_step 71 = .ok (.aload_n 0, 1) := by decide +kernel
theorem dX7_step_72 : decode cX7_step 72 = .ok (.getfield 12, 3) := by decide +kernel
theorem dX7_step_75 : decode cX7_step 75 = .ok (.getfield 114, 3) := by decide +kernel
theorem dX7_step_78 : decode cX7_step 78 = .ok (.iload_n 1, 1) := by decide +kernel
theorem dX7_step_79 : decode cX7_step 79 = .ok (.iconst 2, 1) := by decide +kernel
theorem dX7_step_80 : decode cX7_step 80 = .ok (.iadd, 1) := by decide +kernel
theorem dX7_step_81 : decode cX7_step 81 = .ok (.iaload, 1) := by decide +kernel
theorem dX7_step_82 : decode cX7_step 82 = .ok (.putfield 121, 3) := by decide +kernel
theorem dX7_step_85 : decode cX7_step 85 = .ok (.return_, 1) := by decide +kernel
def mX7_step (t : zS) : zR := zpt t 5 8 ((t 5 8) + 1) fun t228 => zlet (3 * (t228 5 8)) fun v229 => if 0 ≤ (t228 5 12) then some (0, t228) else if v229 < 0 then some (0, t228) else if 9003 ≤ (v229 + 2) then some (0, t228) else zrd t228 67 9003 v229 fun v230 => zpt t228 5 9 v230 fun t232 => zrd t232 67 9003 (v229 + 1) fun v233 => zpt t232 5 10 v233 fun t235 => zrd t235 67 9003 (v229 + 2) fun v236 => zpt t235 5 11 v236 fun t238 => some (0, t238)
set_option maxHeartbeats 4000000 in
set_option maxRecDepth 20000 in
theorem ctX7_step {E : zE} {f : Nat} (hf : 1 ≤ f) {t : zS} {ro : Int32 × zS} (hF : mX7_step   t = some ro) : zM E shC f yX7_step cX7_step 2 none [.ref (za E 5)] t ro := by
  refine zM_of (by decide) (Nat.le_of_ble_eq_true rfl) (fun C => ?_)
  show zJ E shC C cX7_step RX7 2 f none ro t 0 [(0, .ref (za E 5))] []
  unfold mX7_step at hF
  refine z_aload_n 0 dX7_step_0 rfl rfl ?_
  refine z_dup dX7_step_1 rfl ?_
  refine z_geti fi_RX7_74 dX7_step_2 ?_
  refine z_iconst (v := 1) dX7_step_5 (by decide) ?_
  refine z_iadd dX7_step_6 ?_
  refine z_puti fw_RX7_74 dX7_step_7 (fun t228 et228 => ?_)
  have hF := zpt_at hF t228 et228
  refine z_iconst (v := 3) dX7_step_10 (by decide) ?_
  refine z_aload_n 0 dX7_step_11 rfl rfl ?_
  refine z_geti fi_RX7_74 dX7_step_12 ?_
  refine z_imul dX7_step_15 ?_
  refine z_topi (fun v229 ev229 => ?_)
  have hF := zlet_at ev229 hF
  refine z_istore_n (lv' := [(1, .int v229), (0, .ref (za E 5))]) dX7_step_16 rfl (by decide) rfl ?_
  refine z_aload_n 1 dX7_step_17 rfl rfl ?_
  refine z_geti fi_RX7_68 dX7_step_18 ?_
  refine z_if_ge (tgt := 85) dX7_step_21 (by decide) (fun hc => ?_) (fun hc => ?_)
  · have hF := zif_t hc hF
    exact z_vret hF dX7_step_85
  · have hF := zif_f hc hF
    refine z_iload_n 0 dX7_step_24 rfl rfl ?_
    refine z_if_lt (tgt := 85) dX7_step_25 (by decide) (fun hc => ?_) (fun hc => ?_)
    · have hF := zif_t hc hF
      exact z_vret hF dX7_step_85
    · have hF := zif_f hc hF
      refine z_iload_n 0 dX7_step_28 rfl rfl ?_
      refine z_iconst (v := 2) dX7_step_29 (by decide) ?_
      refine z_iadd dX7_step_30 ?_
      refine z_aload_n 1 dX7_step_31 rfl rfl ?_
      refine z_getr fr_RX7_12 dX7_step_32 ?_
      refine z_getr fr_RX7_114 dX7_step_35 ?_
      refine z_alen (n := 9003) (v := 9003) rfl rfl (by decide) dX7_step_38 ?_
      refine z_icmp_ge (tgt := 85) dX7_step_39 (by decide) (fun hc => ?_) (fun hc => ?_)
      · have hF := zif_t hc hF
        exact z_vret hF dX7_step_85
      · have hF := zif_f hc hF
        refine z_aload_n 1 dX7_step_42 rfl rfl ?_
        refine z_aload_n 1 dX7_step_43 rfl rfl ?_
        refine z_getr fr_RX7_12 dX7_step_44 ?_
        refine z_getr fr_RX7_114 dX7_step_47 ?_
        refine z_iload_n 0 dX7_step_50 rfl rfl ?_
        obtain ⟨hi231, hF⟩ := zrd_at hF
        refine z_iald (n := 9003) rfl hi231 dX7_step_51 ?_
        generalize t228 67 (Int32.toNatClampNeg v229) = v230 at hF ⊢
        refine z_puti fw_RX7_80 dX7_step_52 (fun t232 et232 => ?_)
        have hF := zpt_at hF t232 et232
        refine z_aload_n 1 dX7_step_55 rfl rfl ?_
        refine z_aload_n 1 dX7_step_56 rfl rfl ?_
        refine z_getr fr_RX7_12 dX7_step_57 ?_
        refine z_getr fr_RX7_114 dX7_step_60 ?_
        refine z_iload_n 0 dX7_step_63 rfl rfl ?_
        refine z_iconst (v := 1) dX7_step_64 (by decide) ?_
        refine z_iadd dX7_step_65 ?_
        obtain ⟨hi234, hF⟩ := zrd_at hF
        refine z_iald (n := 9003) rfl hi234 dX7_step_66 ?_
        generalize t232 67 (Int32.toNatClampNeg (v229 + 1)) = v233 at hF ⊢
        refine z_puti fw_RX7_118 dX7_step_67 (fun t235 et235 => ?_)
        have hF := zpt_at hF t235 et235
        refine z_aload_n 1 dX7_step_70 rfl rfl ?_
        refine z_aload_n 1 dX7_step_71 rfl rfl ?_
        refine z_getr fr_RX7_12 dX7_step_72 ?_
        refine z_getr fr_RX7_114 dX7_step_75 ?_
        refine z_iload_n 0 dX7_step_78 rfl rfl ?_
        refine z_iconst (v := 2) dX7_step_79 (by decide) ?_
        refine z_iadd dX7_step_80 ?_
        obtain ⟨hi237, hF⟩ := zrd_at hF
        refine z_iald (n := 9003) rfl hi237 dX7_step_81 ?_
        generalize t235 67 (Int32.toNatClampNeg (v229 + 2)) = v236 at hF ⊢
        refine z_puti fw_RX7_121 dX7_step_82 (fun t238 et238 => ?_)
        have hF := zpt_at hF t238 et238
        exact z_vret hF dX7_step_85
-- SessionHouse$Forms.find(I)I
theorem dX2_find_0 : decode cX2_find 0 = .ok (.aload_n 0, 1) := by decide +kernel
theorem dX2_find_1 : decode cX2_find 1 = .ok (.getfield 41, 3) := by decide +kernel
theorem dX2_find_4 : decode cX2_find 4 = .ok (.iload_n 1, 1) := by decide +kernel
theorem dX2_find_5 : decode cX2_find 5 = .ok (.invokevirtual 74, 3) := by decide +kernel
theorem dX2_find_8 : decode cX2_find 8 = .ok (.ireturn, 1) := by decide +kernel
def mX2_find (x1 : Int32) (t : zS) : zR := zbd (mX5_get 24 1600 x1 t) fun r239 t240 => some (r239, t240)
set_option maxHeartbeats 4000000 in
set_option maxRecDepth 20000 in
theorem ctX2_find {E : zE} {f : Nat} (hf : 2 ≤ f) {x1 : Int32} {t : zS} {ro : Int32 × zS} (hF : mX2_find  x1 t = some ro) : zM E shC f yX2_find cX2_find 2 (some .int) [.ref (za E 3), .int x1] t ro := by
  refine zM_of (by decide) (Nat.le_of_ble_eq_true rfl) (fun C => ?_)
  show zJ E shC C cX2_find RX2 2 f (some .int) ro t 0 [(0, .ref (za E 3)), (1, .int x1)] []
  unfold mX2_find at hF
  refine z_aload_n 0 dX2_find_0 rfl rfl ?_
  refine z_getr fr_RX2_41 dX2_find_1 ?_
  refine z_iload_n 1 dX2_find_4 rfl rfl ?_
  obtain ⟨r239, t240, hc241, hF⟩ := zbd_at hF
  refine z_callVi (ctX5_get (E := E) (sh := shC) (f := f - 1) (by omega) (k := 24) (n := 1600) rfl rfl hc241) yy_X5_get yv_X5_get ob_C_24 lk_RX2_74 (by omega) rfl rfl (Nat.le_of_ble_eq_true rfl) dX2_find_5 ?_
  exact z_iret hF dX2_find_8
-- SessionHouse$Reader.refuse()V
theorem dX7_refuse_0 : decode cX7_refuse 0 = .ok (.aload_n 0, 1) := by decide +kernel
theorem dX7_refuse_1 : decode cX7_refuse 1 = .ok (.getfield 68, 3) := by decide +kernel
theorem dX7_refuse_4 : decode cX7_refuse 4 = .ok (.ifCond .ge 17, 3) := by decide +kernel
theorem dX7_refuse_7 : decode cX7_refuse 7 = .ok (.aload_n 0, 1) := by decide +kernel
theorem dX7_refuse_8 : decode cX7_refuse 8 = .ok (.aload_n 0, 1) := by decide +kernel
theorem dX7_refuse_9 : decode cX7_refuse 9 = .ok (.getfield 118, 3) := by decide +kernel
theorem dX7_refuse_12 : decode cX7_refuse 12 = .ok (.putfield 68, 3) := by decide +kernel
theorem dX7_refuse_15 : decode cX7_refuse 15 = .ok (.aload_n 0, 1) := by decide +kernel
theorem dX7_refuse_16 : decode cX7_refuse 16 = .ok (.bipush 21, 2) := by decide +kernel
theorem dX7_refuse_18 : decode cX7_refuse 18 = .ok (.putfield 80, 3) := by decide +kernel
theorem dX7_refuse_21 : decode cX7_refuse 21 = .ok (.return_, 1) := by decide +kernel
def mX7_refuse (t : zS) : zR := if 0 ≤ (t 5 12) then some (0, t) else zpt t 5 12 (t 5 10) fun t242 => zpt t242 5 9 21 fun t243 => some (0, t243)
set_option maxHeartbeats 4000000 in
set_option maxRecDepth 20000 in
theorem ctX7_refuse {E : zE} {f : Nat} (hf : 1 ≤ f) {t : zS} {ro : Int32 × zS} (hF : mX7_refuse   t = some ro) : zM E shC f yX7_refuse cX7_refuse 1 none [.ref (za E 5)] t ro := by
  refine zM_of (by decide) (Nat.le_of_ble_eq_true rfl) (fun C => ?_)
  show zJ E shC C cX7_refuse RX7 1 f none ro t 0 [(0, .ref (za E 5))] []
  unfold mX7_refuse at hF
  refine z_aload_n 0 dX7_refuse_0 rfl rfl ?_
  refine z_geti fi_RX7_68 dX7_refuse_1 ?_
  refine z_if_ge (tgt := 21) dX7_refuse_4 (by decide) (fun hc => ?_) (fun hc => ?_)
  · have hF := zif_t hc hF
    exact z_vret hF dX7_refuse_21
  · have hF := zif_f hc hF
    refine z_aload_n 0 dX7_refuse_7 rfl rfl ?_
    refine z_aload_n 0 dX7_refuse_8 rfl rfl ?_
    refine z_geti fi_RX7_118 dX7_refuse_9 ?_
    refine z_puti fw_RX7_68 dX7_refuse_12 (fun t242 et242 => ?_)
    have hF := zpt_at hF t242 et242
    refine z_aload_n 0 dX7_refuse_15 rfl rfl ?_
    refine z_bipush (v := 21) dX7_refuse_16 (by decide) ?_
    refine z_puti fw_RX7_80 dX7_refuse_18 (fun t243 et243 => ?_)
    have hF := zpt_at hF t243 et243
    exact z_vret hF dX7_refuse_21
-- SessionHouse$Forms.define(II)I
theorem dX2_define_0 : decode cX2_define 0 = .ok (.aload_n 0, 1) := by decide +kernel
theorem dX2_define_1 : decode cX2_define 1 = .ok (.getfield 41, 3) := by decide +kernel
theorem dX2_define_4 : decode cX2_define 4 = .ok (.iload_n 1, 1) := by decide +kernel
theorem dX2_define_5 : decode cX2_define 5 = .ok (.aload_n 0, 1) := by decide +kernel
theorem dX2_define_6 : decode cX2_define 6 = .ok (.getfield 60, 3) := by decide +kernel
theorem dX2_define_9 : decode cX2_define 9 = .ok (.invokevirtual 70, 3) := by decide +kernel
theorem dX2_define_12 : decode cX2_define 12 = .ok (.aload_n 0, 1) := by decide +kernel
theorem dX2_define_13 : decode cX2_define 13 = .ok (.getfield 38, 3) := by decide +kernel
theorem dX2_define_16 : decode cX2_define 16 = .ok (.aload_n 0, 1) := by decide +kernel
theorem dX2_define_17 : decode cX2_define 17 = .ok (.getfield 60, 3) := by decide +kernel
theorem dX2_define_20 : decode cX2_define 20 = .ok (.iload_n 2, 1) := by decide +kernel
theorem dX2_define_21 : decode cX2_define 21 = .ok (.invokevirtual 70, 3) := by decide +kernel
theorem dX2_define_24 : decode cX2_define 24 = .ok (.aload_n 0, 1) := by decide +kernel
theorem dX2_define_25 : decode cX2_define 25 = .ok (.dup, 1) := by decide +kernel
theorem dX2_define_26 : decode cX2_define 26 = .ok (.getfield 60, 3) := by decide +kernel
theorem dX2_define_29 : decode cX2_define 29 = .ok (.iconst 1, 1) := by decide +kernel
theorem dX2_define_30 : decode cX2_define 30 = .ok (.iadd, 1) := by decide +kernel
theorem dX2_define_31 : decode cX2_define 31 = .ok (.putfield 60, 3) := by decide +kernel
theorem dX2_define_34 : decode cX2_define 34 = .ok (.aload_n 0, 1) := by decide +kernel
theorem dX2_define_35 : decode cX2_define 35 = .ok (.getfield 60, 3) := by decide +kernel
theorem dX2_define_38 : decode cX2_define 38 = .ok (.iconst 1, 1) := by decide +kernel
theorem dX2_define_39 : decode cX2_define 39 = .ok (.isub, 1) := by decide +kernel
theorem dX2_define_40 : decode cX2_define 40 = .ok (.ireturn, 1) := by decide +kernel
def mX2_define (x1 : Int32) (x2 : Int32) (t : zS) : zR := zbd (mX5_set 24 1600 x1 (t 3 15) t) fun r244 t245 => zbd (mX5_set 22 400 (t245 3 15) x2 t245) fun r247 t248 => zpt t248 3 15 ((t248 3 15) + 1) fun t250 => some (((t250 3 15) - 1), t250)
set_option maxHeartbeats 4000000 in
set_option maxRecDepth 20000 in
theorem ctX2_define {E : zE} {f : Nat} (hf : 2 ≤ f) {x1 : Int32} {x2 : Int32} {t : zS} {ro : Int32 × zS} (hF : mX2_define  x1 x2 t = some ro) : zM E shC f yX2_define cX2_define 3 (some .int) [.ref (za E 3), .int x1, .int x2] t ro := by
  refine zM_of (by decide) (Nat.le_of_ble_eq_true rfl) (fun C => ?_)
  show zJ E shC C cX2_define RX2 3 f (some .int) ro t 0 [(0, .ref (za E 3)), (1, .int x1), (2, .int x2)] []
  unfold mX2_define at hF
  refine z_aload_n 0 dX2_define_0 rfl rfl ?_
  refine z_getr fr_RX2_41 dX2_define_1 ?_
  refine z_iload_n 1 dX2_define_4 rfl rfl ?_
  refine z_aload_n 0 dX2_define_5 rfl rfl ?_
  refine z_geti fi_RX2_60 dX2_define_6 ?_
  obtain ⟨r244, t245, hc246, hF⟩ := zbd_at hF
  refine z_callVv (ctX5_set (E := E) (sh := shC) (f := f - 1) (by omega) (k := 24) (n := 1600) rfl rfl hc246) yy_X5_set yv_X5_set ob_C_24 lk_RX2_70 (by omega) rfl rfl (Nat.le_of_ble_eq_true rfl) dX2_define_9 ?_
  refine z_aload_n 0 dX2_define_12 rfl rfl ?_
  refine z_getr fr_RX2_38 dX2_define_13 ?_
  refine z_aload_n 0 dX2_define_16 rfl rfl ?_
  refine z_geti fi_RX2_60 dX2_define_17 ?_
  refine z_iload_n 2 dX2_define_20 rfl rfl ?_
  obtain ⟨r247, t248, hc249, hF⟩ := zbd_at hF
  refine z_callVv (ctX5_set (E := E) (sh := shC) (f := f - 1) (by omega) (k := 22) (n := 400) rfl rfl hc249) yy_X5_set yv_X5_set ob_C_22 lk_RX2_70 (by omega) rfl rfl (Nat.le_of_ble_eq_true rfl) dX2_define_21 ?_
  refine z_aload_n 0 dX2_define_24 rfl rfl ?_
  refine z_dup dX2_define_25 rfl ?_
  refine z_geti fi_RX2_60 dX2_define_26 ?_
  refine z_iconst (v := 1) dX2_define_29 (by decide) ?_
  refine z_iadd dX2_define_30 ?_
  refine z_puti fw_RX2_60 dX2_define_31 (fun t250 et250 => ?_)
  have hF := zpt_at hF t250 et250
  refine z_aload_n 0 dX2_define_34 rfl rfl ?_
  refine z_geti fi_RX2_60 dX2_define_35 ?_
  refine z_iconst (v := 1) dX2_define_38 (by decide) ?_
  refine z_isub dX2_define_39 ?_
  exact z_iret hF dX2_define_40
-- SessionHouse$Reader.expect(I)V
theorem dX7_expect_0 : decode cX7_expect 0 = .ok (.aload_n 0, 1) := by decide +kernel
theorem dX7_expect_1 : decode cX7_expect 1 = .ok (.getfield 80, 3) := by decide +kernel
theorem dX7_expect_4 : decode cX7_expect 4 = .ok (.iload_n 1, 1) := by decide +kernel
theorem dX7_expect_5 : decode cX7_expect 5 = .ok (.if_icmp .ne 10, 3) := by decide +kernel
theorem dX7_expect_8 : decode cX7_expect 8 = .ok (.aload_n 0, 1) := by decide +kernel
theorem dX7_expect_9 : decode cX7_expect 9 = .ok (.invokevirtual 77, 3) := by decide +kernel
theorem dX7_expect_12 : decode cX7_expect 12 = .ok (.goto 7, 3) := by decide +kernel
theorem dX7_expect_15 : decode cX7_expect 15 = .ok (.aload_n 0, 1) := by decide +kernel
theorem dX7_expect_16 : decode cX7_expect 16 = .ok (.invokevirtual 89, 3) := by decide +kernel
theorem dX7_expect_19 : decode cX7_expect 19 = .ok (.return_, 1) := by decide +kernel
def mX7_expect (x1 : Int32) (t : zS) : zR := if (t 5 9) = x1 then zbd (mX7_step  t) fun r254 t255 => some (0, t255) else zbd (mX7_refuse  t) fun r251 t252 => some (0, t252)
set_option maxHeartbeats 4000000 in
set_option maxRecDepth 20000 in
theorem ctX7_expect {E : zE} {f : Nat} (hf : 2 ≤ f) {x1 : Int32} {t : zS} {ro : Int32 × zS} (hF : mX7_expect  x1 t = some ro) : zM E shC f yX7_expect cX7_expect 2 none [.ref (za E 5), .int x1] t ro := by
  refine zM_of (by decide) (Nat.le_of_ble_eq_true rfl) (fun C => ?_)
  show zJ E shC C cX7_expect RX7 2 f none ro t 0 [(0, .ref (za E 5)), (1, .int x1)] []
  unfold mX7_expect at hF
  refine z_aload_n 0 dX7_expect_0 rfl rfl ?_
  refine z_geti fi_RX7_80 dX7_expect_1 ?_
  refine z_iload_n 1 dX7_expect_4 rfl rfl ?_
  refine z_icmp_ne (tgt := 15) dX7_expect_5 (by decide) (fun hc => ?_) (fun hc => ?_)
  · have hF := zif_f hc hF
    refine z_aload_n 0 dX7_expect_15 rfl rfl ?_
    obtain ⟨r251, t252, hc253, hF⟩ := zbd_at hF
    refine z_callVv (ctX7_refuse (E := E) (f := f - 1) (by omega) hc253) yy_X7_refuse yv_X7_refuse ob_C_5 lk_RX7_89 (by omega) rfl rfl (Nat.le_of_ble_eq_true rfl) dX7_expect_16 ?_
    exact z_vret hF dX7_expect_19
  · have hF := zif_t hc hF
    refine z_aload_n 0 dX7_expect_8 rfl rfl ?_
    obtain ⟨r254, t255, hc256, hF⟩ := zbd_at hF
    refine z_callVv (ctX7_step (E := E) (f := f - 1) (by omega) hc256) yy_X7_step yv_X7_step ob_C_5 lk_RX7_77 (by omega) rfl rfl (Nat.le_of_ble_eq_true rfl) dX7_expect_9 ?_
    refine z_goto (tgt := 19) dX7_expect_12 (by decide) ?_
    exact z_vret hF dX7_expect_19
-- SessionHouse$Forms.node(II)I
theorem dX2_node_0 : decode cX2_node 0 = .ok (.aload_n 0, 1) := by decide +kernel
theorem dX2_node_1 : decode cX2_node 1 = .ok (.getfield 14, 3) := by decide +kernel
theorem dX2_node_4 : decode cX2_node 4 = .ok (.aload_n 0, 1) := by decide +kernel
theorem dX2_node_5 : decode cX2_node 5 = .ok (.getfield 53, 3) := by decide +kernel
theorem dX2_node_8 : decode cX2_node 8 = .ok (.iload_n 1, 1) := by decide +kernel
theorem dX2_node_9 : decode cX2_node 9 = .ok (.invokevirtual 70, 3) := by decide +kernel
theorem dX2_node_12 : decode cX2_node 12 = .ok (.aload_n 0, 1) := by decide +kernel
theorem dX2_node_13 : decode cX2_node 13 = .ok (.getfield 20, 3) := by decide +kernel
theorem dX2_node_16 : decode cX2_node 16 = .ok (.aload_n 0, 1) := by decide +kernel
theorem dX2_node_17 : decode cX2_node 17 = .ok (.getfield 53, 3) := by decide +kernel
theorem dX2_node_20 : decode cX2_node 20 = .ok (.iload_n 2, 1) := by decide +kernel
theorem dX2_node_21 : decode cX2_node 21 = .ok (.invokevirtual 70, 3) := by decide +kernel
theorem dX2_node_24 : decode cX2_node 24 = .ok (.aload_n 0, 1) := by decide +kernel
theorem dX2_node_25 : decode cX2_node 25 = .ok (.getfield 23, 3) := by decide +kernel
theorem dX2_node_28 : decode cX2_node 28 = .ok (.aload_n 0, 1) := by decide +kernel
theorem dX2_node_29 : decode cX2_node 29 = .ok (.getfield 53, 3) := by decide +kernel
theorem dX2_node_32 : decode cX2_node 32 = .ok (.iload_n 1, 1) := by decide +kernel
theorem dX2_node_33 : decode cX2_node 33 = .ok (.bipush 8, 2) := by decide +kernel
theorem dX2_node_35 : decode cX2_node 35 = .ok (.if_icmp .lt 7, 3) := by decide +kernel
theorem dX2_node_38 : decode cX2_node 38 = .ok (.iconst 0, 1) := by decide +kernel
theorem dX2_node_39 : decode cX2_node 39 = .ok (.goto 4, 3) := by decide +kernel
theorem dX2_node_42 : decode cX2_node 42 = .ok (.iconst (-1), 1) := by decide +kernel
theorem dX2_node_43 : decode cX2_node 43 = .ok (.invokevirtual 70, 3) := by decide +kernel
theorem dX2_node_46 : decode cX2_node 46 = .ok (.aload_n 0, 1) := by decide +kernel
theorem dX2_node_47 : decode cX2_node 47 = .ok (.dup, 1) := by decide +kernel
theorem dX2_node_48 : decode cX2_node 48 = .ok (.getfield 53, 3) := by decide +kernel
theorem dX2_node_51 : decode cX2_node 51 = .ok (.iconst 1, 1) := by decide +kernel
theorem dX2_node_52 : decode cX2_node 52 = .ok (.iadd, 1) := by decide +kernel
theorem dX2_node_53 : decode cX2_node 53 = .ok (.putfield 53, 3) := by decide +kernel
theorem dX2_node_56 : decode cX2_node 56 = .ok (.aload_n 0, 1) := by decide +kernel
theorem dX2_node_57 : decode cX2_node 57 = .ok (.getfield 53, 3) := by decide +kernel
theorem dX2_node_60 : decode cX2_node 60 = .ok (.iconst 1, 1) := by decide +kernel
theorem dX2_node_61 : decode cX2_node 61 = .ok (.isub, 1) := by decide +kernel
theorem dX2_node_62 : decode cX2_node 62 = .ok (.ireturn, 1) := by decide +kernel
def bX2_node_43 (y0 : Int32) (y1 : Int32) (t : zS) : zR := zbd (mX5_set 12 3000 y1 y0 t) fun r257 t258 => zpt t258 3 13 ((t258 3 13) + 1) fun t260 => some (((t260 3 13) - 1), t260)
def mX2_node (x1 : Int32) (x2 : Int32) (t : zS) : zR := zbd (mX5_set 8 3000 (t 3 13) x1 t) fun r261 t262 => zbd (mX5_set 10 3000 (t262 3 13) x2 t262) fun r264 t265 => if x1 < 8 then bX2_node_43  (-1) (t265 3 13) t265 else bX2_node_43  0 (t265 3 13) t265
set_option maxHeartbeats 4000000 in
set_option maxRecDepth 20000 in
theorem wbX2_node_43 {E : zE} {C : zC} {f : Nat} {ro : Int32 × zS} (hf : 2 ≤ f) (y0 : Int32) (y1 : Int32) (t : zS) (hF : bX2_node_43  y0 y1 t = some ro) : zJ E shC C cX2_node RX2 3 f (some .int) ro t 43 [(0, .ref (za E 3))] [.int y0, .int y1, .ref (za E 12)] := by
  unfold bX2_node_43 at hF
  obtain ⟨r257, t258, hc259, hF⟩ := zbd_at hF
  refine z_callVv (ctX5_set (E := E) (sh := shC) (f := f - 1) (by omega) (k := 12) (n := 3000) rfl rfl hc259) yy_X5_set yv_X5_set ob_C_12 lk_RX2_70 (by omega) rfl rfl (Nat.le_of_ble_eq_true rfl) dX2_node_43 ?_
  refine z_aload_n 0 dX2_node_46 rfl rfl ?_
  refine z_dup dX2_node_47 rfl ?_
  refine z_geti fi_RX2_53 dX2_node_48 ?_
  refine z_iconst (v := 1) dX2_node_51 (by decide) ?_
  refine z_iadd dX2_node_52 ?_
  refine z_puti fw_RX2_53 dX2_node_53 (fun t260 et260 => ?_)
  have hF := zpt_at hF t260 et260
  refine z_aload_n 0 dX2_node_56 rfl rfl ?_
  refine z_geti fi_RX2_53 dX2_node_57 ?_
  refine z_iconst (v := 1) dX2_node_60 (by decide) ?_
  refine z_isub dX2_node_61 ?_
  exact z_iret hF dX2_node_62
set_option maxHeartbeats 4000000 in
set_option maxRecDepth 20000 in
theorem ctX2_node {E : zE} {f : Nat} (hf : 2 ≤ f) {x1 : Int32} {x2 : Int32} {t : zS} {ro : Int32 × zS} (hF : mX2_node  x1 x2 t = some ro) : zM E shC f yX2_node cX2_node 3 (some .int) [.ref (za E 3), .int x1, .int x2] t ro := by
  refine zM_of (by decide) (Nat.le_of_ble_eq_true rfl) (fun C => ?_)
  show zJ E shC C cX2_node RX2 3 f (some .int) ro t 0 [(0, .ref (za E 3)), (1, .int x1), (2, .int x2)] []
  unfold mX2_node at hF
  refine z_aload_n 0 dX2_node_0 rfl rfl ?_
  refine z_getr fr_RX2_14 dX2_node_1 ?_
  refine z_aload_n 0 dX2_node_4 rfl rfl ?_
  refine z_geti fi_RX2_53 dX2_node_5 ?_
  refine z_iload_n 1 dX2_node_8 rfl rfl ?_
  obtain ⟨r261, t262, hc263, hF⟩ := zbd_at hF
  refine z_callVv (ctX5_set (E := E) (sh := shC) (f := f - 1) (by omega) (k := 8) (n := 3000) rfl rfl hc263) yy_X5_set yv_X5_set ob_C_8 lk_RX2_70 (by omega) rfl rfl (Nat.le_of_ble_eq_true rfl) dX2_node_9 ?_
  refine z_aload_n 0 dX2_node_12 rfl rfl ?_
  refine z_getr fr_RX2_20 dX2_node_13 ?_
  refine z_aload_n 0 dX2_node_16 rfl rfl ?_
  refine z_geti fi_RX2_53 dX2_node_17 ?_
  refine z_iload_n 2 dX2_node_20 rfl rfl ?_
  obtain ⟨r264, t265, hc266, hF⟩ := zbd_at hF
  refine z_callVv (ctX5_set (E := E) (sh := shC) (f := f - 1) (by omega) (k := 10) (n := 3000) rfl rfl hc266) yy_X5_set yv_X5_set ob_C_10 lk_RX2_70 (by omega) rfl rfl (Nat.le_of_ble_eq_true rfl) dX2_node_21 ?_
  refine z_aload_n 0 dX2_node_24 rfl rfl ?_
  refine z_getr fr_RX2_23 dX2_node_25 ?_
  refine z_aload_n 0 dX2_node_28 rfl rfl ?_
  refine z_geti fi_RX2_53 dX2_node_29 ?_
  refine z_iload_n 1 dX2_node_32 rfl rfl ?_
  refine z_bipush (v := 8) dX2_node_33 (by decide) ?_
  refine z_icmp_lt (tgt := 42) dX2_node_35 (by decide) (fun hc => ?_) (fun hc => ?_)
  · have hF := zif_t hc hF
    refine z_iconst (v := (-1)) dX2_node_42 (by decide) ?_
    refine z_sub [0] rfl ?_
    exact wbX2_node_43 hf  (-1) (t265 3 13) _ hF
  · have hF := zif_f hc hF
    refine z_iconst (v := 0) dX2_node_38 (by decide) ?_
    refine z_goto (tgt := 43) dX2_node_39 (by decide) ?_
    refine z_sub [0] rfl ?_
    exact wbX2_node_43 hf  0 (t265 3 13) _ hF
-- SessionHouse$Reader.mentionName(I)V
theorem dX7_mentionName_0 : decode cX7_mentionName 0 = .ok (.aload_n 0, 1) := by decide +kernel
theorem dX7_mentionName_1 : decode cX7_mentionName 1 = .ok (.getfield 23, 3) := by decide +kernel
theorem dX7_mentionName_4 : decode cX7_mentionName 4 = .ok (.aload_n 0, 1) := by decide +kernel
theorem dX7_mentionName_5 : decode cX7_mentionName 5 = .ok (.getfield 64, 3) := by decide +kernel
theorem dX7_mentionName_8 : decode cX7_mentionName 8 = .ok (.aload_n 0, 1) := by decide +kernel
theorem dX7_mentionName_9 : decode cX7_mentionName 9 = .ok (.getfield 118, 3) := by decide +kernel
theorem dX7_mentionName_12 : decode cX7_mentionName 12 = .ok (.invokevirtual 127, 3) := by decide +kernel
theorem dX7_mentionName_15 : decode cX7_mentionName 15 = .ok (.aload_n 0, 1) := by decide +kernel
theorem dX7_mentionName_16 : decode cX7_mentionName 16 = .ok (.getfield 27, 3) := by decide +kernel
theorem dX7_mentionName_19 : decode cX7_mentionName 19 = .ok (.aload_n 0, 1) := by decide +kernel
theorem dX7_mentionName_20 : decode cX7_mentionName 20 = .ok (.getfield 64, 3) := by decide +kernel
theorem dX7_mentionName_23 : decode cX7_mentionName 23 = .ok (.iconst 2, 1) := by decide +kernel
theorem dX7_mentionName_24 : decode cX7_mentionName 24 = .ok (.aload_n 0, 1) := by decide +kernel
theorem dX7_mentionName_25 : decode cX7_mentionName 25 = .ok (.getfield 121, 3) := by decide +kernel
theorem dX7_mentionName_28 : decode cX7_mentionName 28 = .ok (.imul, 1) := by decide +kernel
theorem dX7_mentionName_29 : decode cX7_mentionName 29 = .ok (.iload_n 1, 1) := by decide +kernel
theorem dX7_mentionName_30 : decode cX7_mentionName 30 = .ok (.iadd, 1) := by decide +kernel
theorem dX7_mentionName_31 : decode cX7_mentionName 31 = .ok (.invokevirtual 127, 3) := by decide +kernel
theorem dX7_mentionName_34 : decode cX7_mentionName 34 = .ok (.aload_n 0, 1) := by decide +kernel
theorem dX7_mentionName_35 : decode cX7_mentionName 35 = .ok (.dup, 1) := by decide +kernel
theorem dX7_mentionName_36 : decode cX7_mentionName 36 = .ok (.getfield 64, 3) := by decide +kernel
theorem dX7_mentionName_39 : decode cX7_mentionName 39 = .ok (.iconst 1, 1) := by decide +kernel
theorem dX7_mentionName_40 : decode cX7_mentionName 40 = .ok (.iadd, 1) := by decide +kernel
theorem dX7_mentionName_41 : decode cX7_mentionName 41 = .ok (.putfield 64, 3) := by decide +kernel
theorem dX7_mentionName_44 : decode cX7_mentionName 44 = .ok (.return_, 1) := by decide +kernel
def mX7_mentionName (x1 : Int32) (t : zS) : zR := zbd (mX5_set 53 1600 (t 5 7) (t 5 10) t) fun r267 t268 => zbd (mX5_set 55 1600 (t268 5 7) ((2 * (t268 5 11)) + x1) t268) fun r270 t271 => zpt t271 5 7 ((t271 5 7) + 1) fun t273 => some (0, t273)
set_option maxHeartbeats 4000000 in
set_option maxRecDepth 20000 in
theorem ctX7_mentionName {E : zE} {f : Nat} (hf : 2 ≤ f) {x1 : Int32} {t : zS} {ro : Int32 × zS} (hF : mX7_mentionName  x1 t = some ro) : zM E shC f yX7_mentionName cX7_mentionName 2 none [.ref (za E 5), .int x1] t ro := by
  refine zM_of (by decide) (Nat.le_of_ble_eq_true rfl) (fun C => ?_)
  show zJ E shC C cX7_mentionName RX7 2 f none ro t 0 [(0, .ref (za E 5)), (1, .int x1)] []
  unfold mX7_mentionName at hF
  refine z_aload_n 0 dX7_mentionName_0 rfl rfl ?_
  refine z_getr fr_RX7_23 dX7_mentionName_1 ?_
  refine z_aload_n 0 dX7_mentionName_4 rfl rfl ?_
  refine z_geti fi_RX7_64 dX7_mentionName_5 ?_
  refine z_aload_n 0 dX7_mentionName_8 rfl rfl ?_
  refine z_geti fi_RX7_118 dX7_mentionName_9 ?_
  obtain ⟨r267, t268, hc269, hF⟩ := zbd_at hF
  refine z_callVv (ctX5_set (E := E) (sh := shC) (f := f - 1) (by omega) (k := 53) (n := 1600) rfl rfl hc269) yy_X5_set yv_X5_set ob_C_53 lk_RX7_127 (by omega) rfl rfl (Nat.le_of_ble_eq_true rfl) dX7_mentionName_12 ?_
  refine z_aload_n 0 dX7_mentionName_15 rfl rfl ?_
  refine z_getr fr_RX7_27 dX7_mentionName_16 ?_
  refine z_aload_n 0 dX7_mentionName_19 rfl rfl ?_
  refine z_geti fi_RX7_64 dX7_mentionName_20 ?_
  refine z_iconst (v := 2) dX7_mentionName_23 (by decide) ?_
  refine z_aload_n 0 dX7_mentionName_24 rfl rfl ?_
  refine z_geti fi_RX7_121 dX7_mentionName_25 ?_
  refine z_imul dX7_mentionName_28 ?_
  refine z_iload_n 1 dX7_mentionName_29 rfl rfl ?_
  refine z_iadd dX7_mentionName_30 ?_
  obtain ⟨r270, t271, hc272, hF⟩ := zbd_at hF
  refine z_callVv (ctX5_set (E := E) (sh := shC) (f := f - 1) (by omega) (k := 55) (n := 1600) rfl rfl hc272) yy_X5_set yv_X5_set ob_C_55 lk_RX7_127 (by omega) rfl rfl (Nat.le_of_ble_eq_true rfl) dX7_mentionName_31 ?_
  refine z_aload_n 0 dX7_mentionName_34 rfl rfl ?_
  refine z_dup dX7_mentionName_35 rfl ?_
  refine z_geti fi_RX7_64 dX7_mentionName_36 ?_
  refine z_iconst (v := 1) dX7_mentionName_39 (by decide) ?_
  refine z_iadd dX7_mentionName_40 ?_
  refine z_puti fw_RX7_64 dX7_mentionName_41 (fun t273 et273 => ?_)
  have hF := zpt_at hF t273 et273
  exact z_vret hF dX7_mentionName_44
-- SessionHouse$Reader.readNamed(I)I
theorem dX7_readNamed_0 : decode cX7_readNamed 0 = .ok (.aload_n 0, 1) := by decide +kernel
theorem dX7_readNamed_1 : decode cX7_readNamed 1 = .ok (.getfield 80, 3) := by decide +kernel
theorem dX7_readNamed_4 : decode cX7_readNamed 4 = .ok (.bipush 17, 2) := by decide +kernel
theorem dX7_readNamed_6 : decode cX7_readNamed 6 = .ok (.if_icmp .eq 9, 3) := by decide +kernel
theorem dX7_readNamed_9 : decode cX7_readNamed 9 = .ok (.aload_n 0, 1) := by decide +kernel
theorem dX7_readNamed_10 : decode cX7_readNamed 10 = .ok (.invokevirtual 89, 3) := by decide +kernel
theorem dX7_readNamed_13 : decode cX7_readNamed 13 = .ok (.iconst (-1), 1) := by decide +kernel
theorem dX7_readNamed_14 : decode cX7_readNamed 14 = .ok (.ireturn, 1) := by decide +kernel
theorem dX7_readNamed_15 : decode cX7_readNamed 15 = .ok (.aload_n 0, 1) := by decide +kernel
theorem dX7_readNamed_16 : decode cX7_readNamed 16 = .ok (.iconst 0, 1) := by decide +kernel
theorem dX7_readNamed_17 : decode cX7_readNamed 17 = .ok (.invokevirtual 166, 3) := by decide +kernel
theorem dX7_readNamed_20 : decode cX7_readNamed 20 = .ok (.aload_n 0, 1) := by decide +kernel
theorem dX7_readNamed_21 : decode cX7_readNamed 21 = .ok (.getfield 30, 3) := by decide +kernel
theorem dX7_readNamed_24 : decode cX7_readNamed 24 = .ok (.iload_n 1, 1) := by decide +kernel
theorem dX7_readNamed_25 : decode cX7_readNamed 25 = .ok (.aload_n 0, 1) := by decide +kernel
theorem dX7_readNamed_26 : decode cX7_readNamed 26 = .ok (.getfield 121, 3) := by decide +kernel
theorem dX7_readNamed_29 : decode cX7_readNamed 29 = .ok (.invokevirtual 154, 3) := by decide +kernel
theorem dX7_readNamed_32 : decode cX7_readNamed 32 = .ok (.istore_n 2, 1) := by decide +kernel
theorem dX7_readNamed_33 : decode cX7_readNamed 33 = .ok (.aload_n 0, 1) := by decide +kernel
theorem dX7_readNamed_34 : decode cX7_readNamed 34 = .ok (.invokevirtual 77, 3) := by decide +kernel
theorem dX7_readNamed_37 : decode cX7_readNamed 37 = .ok (.iload_n 2, 1) := by decide +kernel
theorem dX7_readNamed_38 : decode cX7_readNamed 38 = .ok (.ireturn, 1) := by decide +kernel
def mX7_readNamed (x1 : Int32) (t : zS) : zR := if (t 5 9) = 17 then zbd (mX7_mentionName 0 t) fun r274 t275 => zbd (mX2_node x1 (t275 5 11) t275) fun r277 t278 => zbd (mX7_step  t278) fun r280 t281 => some (r277, t281) else zbd (mX7_refuse  t) fun r283 t284 => some ((-1), t284)
set_option maxHeartbeats 4000000 in
set_option maxRecDepth 20000 in
theorem ctX7_readNamed {E : zE} {f : Nat} (hf : 3 ≤ f) {x1 : Int32} {t : zS} {ro : Int32 × zS} (hF : mX7_readNamed  x1 t = some ro) : zM E shC f yX7_readNamed cX7_readNamed 3 (some .int) [.ref (za E 5), .int x1] t ro := by
  refine zM_of (by decide) (Nat.le_of_ble_eq_true rfl) (fun C => ?_)
  show zJ E shC C cX7_readNamed RX7 3 f (some .int) ro t 0 [(0, .ref (za E 5)), (1, .int x1)] []
  unfold mX7_readNamed at hF
  refine z_aload_n 0 dX7_readNamed_0 rfl rfl ?_
  refine z_geti fi_RX7_80 dX7_readNamed_1 ?_
  refine z_bipush (v := 17) dX7_readNamed_4 (by decide) ?_
  refine z_icmp_eq (tgt := 15) dX7_readNamed_6 (by decide) (fun hc => ?_) (fun hc => ?_)
  · have hF := zif_t hc hF
    refine z_aload_n 0 dX7_readNamed_15 rfl rfl ?_
    refine z_iconst (v := 0) dX7_readNamed_16 (by decide) ?_
    obtain ⟨r274, t275, hc276, hF⟩ := zbd_at hF
    refine z_callVv (ctX7_mentionName (E := E) (f := f - 1) (by omega) hc276) yy_X7_mentionName yv_X7_mentionName ob_C_5 lk_RX7_166 (by omega) rfl rfl (Nat.le_of_ble_eq_true rfl) dX7_readNamed_17 ?_
    refine z_aload_n 0 dX7_readNamed_20 rfl rfl ?_
    refine z_getr fr_RX7_30 dX7_readNamed_21 ?_
    refine z_iload_n 1 dX7_readNamed_24 rfl rfl ?_
    refine z_aload_n 0 dX7_readNamed_25 rfl rfl ?_
    refine z_geti fi_RX7_121 dX7_readNamed_26 ?_
    obtain ⟨r277, t278, hc279, hF⟩ := zbd_at hF
    refine z_callVi (ctX2_node (E := E) (f := f - 1) (by omega) hc279) yy_X2_node yv_X2_node ob_C_3 lk_RX7_154 (by omega) rfl rfl (Nat.le_of_ble_eq_true rfl) dX7_readNamed_29 ?_
    refine z_istore_n (lv' := [(2, .int r277), (0, .ref (za E 5)), (1, .int x1)]) dX7_readNamed_32 rfl (by decide) rfl ?_
    refine z_aload_n 1 dX7_readNamed_33 rfl rfl ?_
    obtain ⟨r280, t281, hc282, hF⟩ := zbd_at hF
    refine z_callVv (ctX7_step (E := E) (f := f - 1) (by omega) hc282) yy_X7_step yv_X7_step ob_C_5 lk_RX7_77 (by omega) rfl rfl (Nat.le_of_ble_eq_true rfl) dX7_readNamed_34 ?_
    refine z_iload_n 0 dX7_readNamed_37 rfl rfl ?_
    exact z_iret hF dX7_readNamed_38
  · have hF := zif_f hc hF
    refine z_aload_n 0 dX7_readNamed_9 rfl rfl ?_
    obtain ⟨r283, t284, hc285, hF⟩ := zbd_at hF
    refine z_callVv (ctX7_refuse (E := E) (f := f - 1) (by omega) hc285) yy_X7_refuse yv_X7_refuse ob_C_5 lk_RX7_89 (by omega) rfl rfl (Nat.le_of_ble_eq_true rfl) dX7_readNamed_10 ?_
    refine z_iconst (v := (-1)) dX7_readNamed_13 (by decide) ?_
    exact z_iret hF dX7_readNamed_14
-- SessionHouse$Reader.enter(I)Z
theorem dX7_enter_0 : decode cX7_enter 0 = .ok (.aload_n 0, 1) := by decide +kernel
theorem dX7_enter_1 : decode cX7_enter 1 = .ok (.getfield 80, 3) := by decide +kernel
theorem dX7_enter_4 : decode cX7_enter 4 = .ok (.iload_n 1, 1) := by decide +kernel
theorem dX7_enter_5 : decode cX7_enter 5 = .ok (.if_icmp .ne 12, 3) := by decide +kernel
theorem dX7_enter_8 : decode cX7_enter 8 = .ok (.aload_n 0, 1) := by decide +kernel
theorem dX7_enter_9 : decode cX7_enter 9 = .ok (.getfield 71, 3) := by decide +kernel
theorem dX7_enter_12 : decode cX7_enter 12 = .ok (.bipush 40, 2) := by decide +kernel
theorem dX7_enter_14 : decode cX7_enter 14 = .ok (.if_icmp .lt 9, 3) := by decide +kernel
theorem dX7_enter_17 : decode cX7_enter 17 = .ok (.aload_n 0, 1) := by decide +kernel
theorem dX7_enter_18 : decode cX7_enter 18 = .ok (.invokevirtual 89, 3) := by decide +kernel
theorem dX7_enter_21 : decode cX7_enter 21 = .ok (.iconst 0, 1) := by decide +kernel
theorem dX7_enter_22 : decode cX7_enter 22 = .ok (.ireturn, 1) := by decide +kernel
theorem dX7_enter_23 : decode cX7_enter 23 = .ok (.aload_n 0, 1) := by decide +kernel
theorem dX7_enter_24 : decode cX7_enter 24 = .ok (.dup, 1) := by decide +kernel
theorem dX7_enter_25 : decode cX7_enter 25 = .ok (.getfield 71, 3) := by decide +kernel
theorem dX7_enter_28 : decode cX7_enter 28 = .ok (.iconst 1, 1) := by decide +kernel
theorem dX7_enter_29 : decode cX7_enter 29 = .ok (.iadd, 1) := by decide +kernel
theorem dX7_enter_30 : decode cX7_enter 30 = .ok (.putfield 71, 3) := by decide +kernel
theorem dX7_enter_33 : decode cX7_enter 33 = .ok (.aload_n 0, 1) := by decide +kernel
theorem dX7_enter_34 : decode cX7_enter 34 = .ok (.invokevirtual 77, 3) := by decide +kernel
theorem dX7_enter_37 : decode cX7_enter 37 = .ok (.iconst 1, 1) := by decide +kernel
theorem dX7_enter_38 : decode cX7_enter 38 = .ok (.ireturn, 1) := by decide +kernel
def bX7_enter_17 (t : zS) : zR := zbd (mX7_refuse  t) fun r286 t287 => some (0, t287)
def mX7_enter (x1 : Int32) (t : zS) : zR := if (t 5 9) = x1 then if (t 5 13) < 40 then zpt t 5 13 ((t 5 13) + 1) fun t289 => zbd (mX7_step  t289) fun r290 t291 => some (1, t291) else bX7_enter_17   t else bX7_enter_17   t
set_option maxHeartbeats 4000000 in
set_option maxRecDepth 20000 in
theorem wbX7_enter_17 {E : zE} {C : zC} {f : Nat} {ro : Int32 × zS} (hf : 2 ≤ f) (t : zS) (hF : bX7_enter_17   t = some ro) : zJ E shC C cX7_enter RX7 2 f (some .boolean) ro t 17 [(0, .ref (za E 5))] [] := by
  unfold bX7_enter_17 at hF
  refine z_aload_n 0 dX7_enter_17 rfl rfl ?_
  obtain ⟨r286, t287, hc288, hF⟩ := zbd_at hF
  refine z_callVv (ctX7_refuse (E := E) (f := f - 1) (by omega) hc288) yy_X7_refuse yv_X7_refuse ob_C_5 lk_RX7_89 (by omega) rfl rfl (Nat.le_of_ble_eq_true rfl) dX7_enter_18 ?_
  refine z_iconst (v := 0) dX7_enter_21 (by decide) ?_
  exact z_zret hF (by decide) dX7_enter_22
set_option maxHeartbeats 4000000 in
set_option maxRecDepth 20000 in
theorem ctX7_enter {E : zE} {f : Nat} (hf : 2 ≤ f) {x1 : Int32} {t : zS} {ro : Int32 × zS} (hF : mX7_enter  x1 t = some ro) : zM E shC f yX7_enter cX7_enter 2 (some .boolean) [.ref (za E 5), .int x1] t ro := by
  refine zM_of (by decide) (Nat.le_of_ble_eq_true rfl) (fun C => ?_)
  show zJ E shC C cX7_enter RX7 2 f (some .boolean) ro t 0 [(0, .ref (za E 5)), (1, .int x1)] []
  unfold mX7_enter at hF
  refine z_aload_n 0 dX7_enter_0 rfl rfl ?_
  refine z_geti fi_RX7_80 dX7_enter_1 ?_
  refine z_iload_n 1 dX7_enter_4 rfl rfl ?_
  refine z_icmp_ne (tgt := 17) dX7_enter_5 (by decide) (fun hc => ?_) (fun hc => ?_)
  · have hF := zif_f hc hF
    refine z_sub [0] rfl ?_
    exact wbX7_enter_17 hf   _ hF
  · have hF := zif_t hc hF
    refine z_aload_n 0 dX7_enter_8 rfl rfl ?_
    refine z_geti fi_RX7_71 dX7_enter_9 ?_
    refine z_bipush (v := 40) dX7_enter_12 (by decide) ?_
    refine z_icmp_lt (tgt := 23) dX7_enter_14 (by decide) (fun hc => ?_) (fun hc => ?_)
    · have hF := zif_t hc hF
      refine z_aload_n 0 dX7_enter_23 rfl rfl ?_
      refine z_dup dX7_enter_24 rfl ?_
      refine z_geti fi_RX7_71 dX7_enter_25 ?_
      refine z_iconst (v := 1) dX7_enter_28 (by decide) ?_
      refine z_iadd dX7_enter_29 ?_
      refine z_puti fw_RX7_71 dX7_enter_30 (fun t289 et289 => ?_)
      have hF := zpt_at hF t289 et289
      refine z_aload_n 0 dX7_enter_33 rfl rfl ?_
      obtain ⟨r290, t291, hc292, hF⟩ := zbd_at hF
      refine z_callVv (ctX7_step (E := E) (f := f - 1) (by omega) hc292) yy_X7_step yv_X7_step ob_C_5 lk_RX7_77 (by omega) rfl rfl (Nat.le_of_ble_eq_true rfl) dX7_enter_34 ?_
      refine z_iconst (v := 1) dX7_enter_37 (by decide) ?_
      exact z_zret hF (by decide) dX7_enter_38
    · have hF := zif_f hc hF
      refine z_sub [0] rfl ?_
      exact wbX7_enter_17 hf   _ hF
-- SessionHouse$Reader.leave(I)V
theorem dX7_leave_0 : decode cX7_leave 0 = .ok (.aload_n 0, 1) := by decide +kernel
theorem dX7_leave_1 : decode cX7_leave 1 = .ok (.aload_n 0, 1) := by decide +kernel
theorem dX7_leave_2 : decode cX7_leave 2 = .ok (.getfield 118, 3) := by decide +kernel
theorem dX7_leave_5 : decode cX7_leave 5 = .ok (.putfield 124, 3) := by decide +kernel
theorem dX7_leave_8 : decode cX7_leave 8 = .ok (.aload_n 0, 1) := by decide +kernel
theorem dX7_leave_9 : decode cX7_leave 9 = .ok (.dup, 1) := by decide +kernel
theorem dX7_leave_10 : decode cX7_leave 10 = .ok (.getfield 71, 3) := by decide +kernel
theorem dX7_leave_13 : decode cX7_leave 13 = .ok (.iconst 1, 1) := by decide +kernel
theorem dX7_leave_14 : decode cX7_leave 14 = .ok (.isub, 1) := by decide +kernel
theorem dX7_leave_15 : decode cX7_leave 15 = .ok (.putfield 71, 3) := by decide +kernel
theorem dX7_leave_18 : decode cX7_leave 18 = .ok (.aload_n 0, 1) := by decide +kernel
theorem dX7_leave_19 : decode cX7_leave 19 = .ok (.getfield 80, 3) := by decide +kernel
theorem dX7_leave_22 : decode cX7_leave 22 = .ok (.iload_n 1, 1) := by decide +kernel
theorem dX7_leave_23 : decode cX7_leave 23 = .ok (.if_icmp .ne 10, 3) := by decide +kernel
theorem dX7_leave_26 : decode cX7_leave 26 = .ok (.aload_n 0, 1) := by decide +kernel
theorem dX7_leave_27 : decode cX7_leave 27 = .ok (.invokevirtual 77, 3) := by decide +kernel
theorem dX7_leave_30 : decode cX7_leave 30 = .ok (.goto 7, 3) := by decide +kernel
theorem dX7_leave_33 : decode cX7_leave 33 = .ok (.aload_n 0, 1) := by decide +kernel
theorem dX7_leave_34 : decode cX7_leave 34 = .ok (.invokevirtual 89, 3) := by decide +kernel
theorem dX7_leave_37 : decode cX7_leave 37 = .ok (.return_, 1) := by decide +kernel
def mX7_leave (x1 : Int32) (t : zS) : zR := zpt t 5 14 (t 5 10) fun t293 => zpt t293 5 13 ((t293 5 13) - 1) fun t294 => if (t294 5 9) = x1 then zbd (mX7_step  t294) fun r298 t299 => some (0, t299) else zbd (mX7_refuse  t294) fun r295 t296 => some (0, t296)
set_option maxHeartbeats 4000000 in
set_option maxRecDepth 20000 in
theorem ctX7_leave {E : zE} {f : Nat} (hf : 2 ≤ f) {x1 : Int32} {t : zS} {ro : Int32 × zS} (hF : mX7_leave  x1 t = some ro) : zM E shC f yX7_leave cX7_leave 2 none [.ref (za E 5), .int x1] t ro := by
  refine zM_of (by decide) (Nat.le_of_ble_eq_true rfl) (fun C => ?_)
  show zJ E shC C cX7_leave RX7 2 f none ro t 0 [(0, .ref (za E 5)), (1, .int x1)] []
  unfold mX7_leave at hF
  refine z_aload_n 0 dX7_leave_0 rfl rfl ?_
  refine z_aload_n 0 dX7_leave_1 rfl rfl ?_
  refine z_geti fi_RX7_118 dX7_leave_2 ?_
  refine z_puti fw_RX7_124 dX7_leave_5 (fun t293 et293 => ?_)
  have hF := zpt_at hF t293 et293
  refine z_aload_n 0 dX7_leave_8 rfl rfl ?_
  refine z_dup dX7_leave_9 rfl ?_
  refine z_geti fi_RX7_71 dX7_leave_10 ?_
  refine z_iconst (v := 1) dX7_leave_13 (by decide) ?_
  refine z_isub dX7_leave_14 ?_
  refine z_puti fw_RX7_71 dX7_leave_15 (fun t294 et294 => ?_)
  have hF := zpt_at hF t294 et294
  refine z_aload_n 0 dX7_leave_18 rfl rfl ?_
  refine z_geti fi_RX7_80 dX7_leave_19 ?_
  refine z_iload_n 1 dX7_leave_22 rfl rfl ?_
  refine z_icmp_ne (tgt := 33) dX7_leave_23 (by decide) (fun hc => ?_) (fun hc => ?_)
  · have hF := zif_f hc hF
    refine z_aload_n 0 dX7_leave_33 rfl rfl ?_
    obtain ⟨r295, t296, hc297, hF⟩ := zbd_at hF
    refine z_callVv (ctX7_refuse (E := E) (f := f - 1) (by omega) hc297) yy_X7_refuse yv_X7_refuse ob_C_5 lk_RX7_89 (by omega) rfl rfl (Nat.le_of_ble_eq_true rfl) dX7_leave_34 ?_
    exact z_vret hF dX7_leave_37
  · have hF := zif_t hc hF
    refine z_aload_n 0 dX7_leave_26 rfl rfl ?_
    obtain ⟨r298, t299, hc300, hF⟩ := zbd_at hF
    refine z_callVv (ctX7_step (E := E) (f := f - 1) (by omega) hc300) yy_X7_step yv_X7_step ob_C_5 lk_RX7_77 (by omega) rfl rfl (Nat.le_of_ble_eq_true rfl) dX7_leave_27 ?_
    refine z_goto (tgt := 37) dX7_leave_30 (by decide) ?_
    exact z_vret hF dX7_leave_37
-- SessionHouse$Forms.findPart(II)I
theorem dX2_findPart_0 : decode cX2_findPart 0 = .ok (.aload_n 0, 1) := by decide +kernel
theorem dX2_findPart_1 : decode cX2_findPart 1 = .ok (.getfield 20, 3) := by decide +kernel
theorem dX2_findPart_4 : decode cX2_findPart 4 = .ok (.iload_n 1, 1) := by decide +kernel
theorem dX2_findPart_5 : decode cX2_findPart 5 = .ok (.invokevirtual 74, 3) := by decide +kernel
theorem dX2_findPart_8 : decode cX2_findPart 8 = .ok (.istore_n 3, 1) := by decide +kernel
theorem dX2_findPart_9 : decode cX2_findPart 9 = .ok (.iconst 0, 1) := by decide +kernel
theorem dX2_findPart_10 : decode cX2_findPart 10 = .ok (.istore 4, 2) := by decide +kernel
theorem dX2_findPart_12 : decode cX2_findPart 12 = .ok (.iload 4, 2) := by decide +kernel
theorem dX2_findPart_14 : decode cX2_findPart 14 = .ok (.sipush 1600, 3) := by decide +kernel
theorem dX2_findPart_17 : decode cX2_findPart 17 = .ok (.if_icmp .ge 36, 3) := by decide +kernel
theorem dX2_findPart_20 : decode cX2_findPart 20 = .ok (.iload_n 3, 1) := by decide +kernel
theorem dX2_findPart_21 : decode cX2_findPart 21 = .ok (.ifCond .lt 32, 3) := by decide +kernel
theorem dX2_findPart_24 : decode cX2_findPart 24 = .ok (.aload_n 0, 1) := by decide +kernel
theorem dX2_findPart_25 : decode cX2_findPart 25 = .ok (.getfield 26, 3) := by decide +kernel
theorem dX2_findPart_28 : decode cX2_findPart 28 = .ok (.iload_n 3, 1) := by decide +kernel
theorem dX2_findPart_29 : decode cX2_findPart 29 = .ok (.invokevirtual 74, 3) := by decide +kernel
theorem dX2_findPart_32 : decode cX2_findPart 32 = .ok (.iload_n 2, 1) := by decide +kernel
theorem dX2_findPart_33 : decode cX2_findPart 33 = .ok (.if_icmp .ne 5, 3) := by decide +kernel
theorem dX2_findPart_36 : decode cX2_findPart 36 = .ok (.iload_n 3, 1) := by decide +kernel
theorem dX2_findPart_37 : decode cX2_findPart 37 = .ok (.ireturn, 1) := by decide +kernel
theorem dX2_findPart_38 : decode cX2_findPart 38 = .ok (.aload_n 0, 1) := by decide +kernel
theorem dX2_findPart_39 : decode cX2_findPart 39 = .ok (.getfield 32, 3) := by decide +kernel
theorem dX2_findPart_42 : decode cX2_findPart 42 = .ok (.iload_n 3, 1) := by decide +kernel
theorem dX2_findPart_43 : decode cX2_findPart 43 = .ok (.invokevirtual 74, 3) := by decide +kernel
theorem dX2_findPart_46 : decode cX2_findPart 46 = .ok (.istore_n 3, 1) := by decide +kernel
theorem dX2_findPart_47 : decode cX2_findPart 47 = .ok (.iinc 4 1, 3) := by decide +kernel
theorem dX2_findPart_50 : decode cX2_findPart 50 = .ok (.goto (-38), 3) := by decide +kernel
theorem dX2_findPart_53 : decode cX2_findPart 53 = .ok (.iconst (-1), 1) := by decide +kernel
theorem dX2_findPart_54 : decode cX2_findPart 54 = .ok (.ireturn, 1) := by decide +kernel
def bX2_findPart_12 (k12 : Int32 → Int32 → Int32 → zS → zR) (x2 : Int32) (x3 : Int32) (x4 : Int32) (t : zS) : zR := if 1600 ≤ x4 then some ((-1), t) else if x3 < 0 then some ((-1), t) else zbd (mX5_get 14 1600 x3 t) fun r301 t302 => if r301 = x2 then some (x3, t302) else zbd (mX5_get 18 1600 x3 t302) fun r304 t305 => zlet (x4 + 1) fun v307 => k12 x2 r304 v307 t305
def lX2_findPart_12 : Nat → Int32 → Int32 → Int32 → zS → zR
  | 0, _, _, _, _ => none
  | fu + 1, x2, x3, x4, t => bX2_findPart_12 (lX2_findPart_12  fu) x2 x3 x4 t
def mX2_findPart (x1 : Int32) (x2 : Int32) (t : zS) : zR := zbd (mX5_get 10 3000 x1 t) fun r308 t309 => lX2_findPart_12  zFU x2 r308 0 t309
set_option maxHeartbeats 4000000 in
set_option maxRecDepth 20000 in
theorem wbX2_findPart_12 {E : zE} {C : zC} {f : Nat} {ro : Int32 × zS} (hf : 2 ≤ f) (k12 : Int32 → Int32 → Int32 → zS → zR) (hk12 : ∀ (x2 x3 x4 : Int32) (t : zS), k12 x2 x3 x4 t = some ro → zJ E shC C cX2_findPart RX2 5 f (some .int) ro t 12 [(0, .ref (za E 3)), (2, .int x2), (3, .int x3), (4, .int x4)] []) (x2 : Int32) (x3 : Int32) (x4 : Int32) (t : zS) (hF : bX2_findPart_12 k12 x2 x3 x4 t = some ro) : zJ E shC C cX2_findPart RX2 5 f (some .int) ro t 12 [(0, .ref (za E 3)), (2, .int x2), (3, .int x3), (4, .int x4)] [] := by
  unfold bX2_findPart_12 at hF
  refine z_iload 3 dX2_findPart_12 rfl ?_
  refine z_sipush (v := 1600) dX2_findPart_14 (by decide) ?_
  refine z_icmp_ge (tgt := 53) dX2_findPart_17 (by decide) (fun hc => ?_) (fun hc => ?_)
  · have hF := zif_t hc hF
    refine z_iconst (v := (-1)) dX2_findPart_53 (by decide) ?_
    exact z_iret hF dX2_findPart_54
  · have hF := zif_f hc hF
    refine z_iload_n 2 dX2_findPart_20 rfl rfl ?_
    refine z_if_lt (tgt := 53) dX2_findPart_21 (by decide) (fun hc => ?_) (fun hc => ?_)
    · have hF := zif_t hc hF
      refine z_iconst (v := (-1)) dX2_findPart_53 (by decide) ?_
      exact z_iret hF dX2_findPart_54
    · have hF := zif_f hc hF
      refine z_aload_n 0 dX2_findPart_24 rfl rfl ?_
      refine z_getr fr_RX2_26 dX2_findPart_25 ?_
      refine z_iload_n 2 dX2_findPart_28 rfl rfl ?_
      obtain ⟨r301, t302, hc303, hF⟩ := zbd_at hF
      refine z_callVi (ctX5_get (E := E) (sh := shC) (f := f - 1) (by omega) (k := 14) (n := 1600) rfl rfl hc303) yy_X5_get yv_X5_get ob_C_14 lk_RX2_74 (by omega) rfl rfl (Nat.le_of_ble_eq_true rfl) dX2_findPart_29 ?_
      refine z_iload_n 1 dX2_findPart_32 rfl rfl ?_
      refine z_icmp_ne (tgt := 38) dX2_findPart_33 (by decide) (fun hc => ?_) (fun hc => ?_)
      · have hF := zif_f hc hF
        refine z_aload_n 0 dX2_findPart_38 rfl rfl ?_
        refine z_getr fr_RX2_32 dX2_findPart_39 ?_
        refine z_iload_n 2 dX2_findPart_42 rfl rfl ?_
        obtain ⟨r304, t305, hc306, hF⟩ := zbd_at hF
        refine z_callVi (ctX5_get (E := E) (sh := shC) (f := f - 1) (by omega) (k := 18) (n := 1600) rfl rfl hc306) yy_X5_get yv_X5_get ob_C_18 lk_RX2_74 (by omega) rfl rfl (Nat.le_of_ble_eq_true rfl) dX2_findPart_43 ?_
        refine z_istore_n (lv' := [(3, .int r304), (0, .ref (za E 3)), (2, .int x2), (4, .int x4)]) dX2_findPart_46 rfl (by decide) rfl ?_
        obtain ⟨v307, ev307⟩ : ∃ y : Int32, y = (x4 + 1) := ⟨_, rfl⟩
        have hF := zlet_at ev307 hF
        refine z_iinc (v := v307) (lv' := [(4, .int v307), (3, .int r304), (0, .ref (za E 3)), (2, .int x2)]) (k := 3) dX2_findPart_47 rfl (by rw [ev307]; rfl) (by decide) rfl ?_
        refine z_goto (tgt := 12) dX2_findPart_50 (by decide) ?_
        refine z_sub [2, 3, 1, 0] rfl ?_
        exact hk12 x2 r304 v307 _ hF
      · have hF := zif_t hc hF
        refine z_iload_n 2 dX2_findPart_36 rfl rfl ?_
        exact z_iret hF dX2_findPart_37
set_option maxHeartbeats 4000000 in
set_option maxRecDepth 20000 in
theorem wlX2_findPart_12 {E : zE} {C : zC} {f : Nat} {ro : Int32 × zS} (hf : 2 ≤ f) (fu : Nat) : ∀ (x2 x3 x4 : Int32) (t : zS), lX2_findPart_12  fu x2 x3 x4 t = some ro → zJ E shC C cX2_findPart RX2 5 f (some .int) ro t 12 [(0, .ref (za E 3)), (2, .int x2), (3, .int x3), (4, .int x4)] [] := by
  induction fu with
  | zero => intro x2 x3 x4 t hF; cases hF
  | succ fu ih => intro x2 x3 x4 t hF; exact wbX2_findPart_12 hf (lX2_findPart_12  fu) ih x2 x3 x4 t hF
set_option maxHeartbeats 4000000 in
set_option maxRecDepth 20000 in
theorem ctX2_findPart {E : zE} {f : Nat} (hf : 2 ≤ f) {x1 : Int32} {x2 : Int32} {t : zS} {ro : Int32 × zS} (hF : mX2_findPart  x1 x2 t = some ro) : zM E shC f yX2_findPart cX2_findPart 5 (some .int) [.ref (za E 3), .int x1, .int x2] t ro := by
  refine zM_of (by decide) (Nat.le_of_ble_eq_true rfl) (fun C => ?_)
  show zJ E shC C cX2_findPart RX2 5 f (some .int) ro t 0 [(0, .ref (za E 3)), (1, .int x1), (2, .int x2)] []
  unfold mX2_findPart at hF
  refine z_aload_n 0 dX2_findPart_0 rfl rfl ?_
  refine z_getr fr_RX2_20 dX2_findPart_1 ?_
  refine z_iload_n 1 dX2_findPart_4 rfl rfl ?_
  obtain ⟨r308, t309, hc310, hF⟩ := zbd_at hF
  refine z_callVi (ctX5_get (E := E) (sh := shC) (f := f - 1) (by omega) (k := 10) (n := 3000) rfl rfl hc310) yy_X5_get yv_X5_get ob_C_10 lk_RX2_74 (by omega) rfl rfl (Nat.le_of_ble_eq_true rfl) dX2_findPart_5 ?_
  refine z_istore_n (lv' := [(3, .int r308), (0, .ref (za E 3)), (1, .int x1), (2, .int x2)]) dX2_findPart_8 rfl (by decide) rfl ?_
  refine z_iconst (v := 0) dX2_findPart_9 (by decide) ?_
  refine z_istore (lv' := [(4, .int 0), (3, .int r308), (0, .ref (za E 3)), (1, .int x1), (2, .int x2)]) dX2_findPart_10 (by decide) rfl ?_
  refine z_sub [2, 4, 1, 0] rfl ?_
  exact wlX2_findPart_12 hf  zFU x2 r308 0 _ hF
-- SessionHouse$Forms.addPart(IIII)I
theorem dX2_addPart_0 : decode cX2_addPart 0 = .ok (.aload_n 0, 1) := by decide +kernel
theorem dX2_addPart_1 : decode cX2_addPart 1 = .ok (.getfield 26, 3) := by decide +kernel
theorem dX2_addPart_4 : decode cX2_addPart 4 = .ok (.aload_n 0, 1) := by decide +kernel
theorem dX2_addPart_5 : decode cX2_addPart 5 = .ok (.getfield 57, 3) := by decide +kernel
theorem dX2_addPart_8 : decode cX2_addPart 8 = .ok (.iload_n 3, 1) := by decide +kernel
theorem dX2_addPart_9 : decode cX2_addPart 9 = .ok (.invokevirtual 70, 3) := by decide +kernel
theorem dX2_addPart_12 : decode cX2_addPart 12 = .ok (.aload_n 0, 1) := by decide +kernel
theorem dX2_addPart_13 : decode cX2_addPart 13 = .ok (.getfield 29, 3) := by decide +kernel
theorem dX2_addPart_16 : decode cX2_addPart 16 = .ok (.aload_n 0, 1) := by decide +kernel
theorem dX2_addPart_17 : decode cX2_addPart 17 = .ok (.getfield 57, 3) := by decide +kernel
theorem dX2_addPart_20 : decode cX2_addPart 20 = .ok (.iload 4, 2) := by decide +kernel
theorem dX2_addPart_22 : decode cX2_addPart 22 = .ok (.invokevirtual 70, 3) := by decide +kernel
theorem dX2_addPart_25 : decode cX2_addPart 25 = .ok (.aload_n 0, 1) := by decide +kernel
theorem dX2_addPart_26 : decode cX2_addPart 26 = .ok (.getfield 32, 3) := by decide +kernel
theorem dX2_addPart_29 : decode cX2_addPart 29 = .ok (.aload_n 0, 1) := by decide +kernel
theorem dX2_addPart_30 : decode cX2_addPart 30 = .ok (.getfield 57, 3) := by decide +kernel
theorem dX2_addPart_33 : decode cX2_addPart 33 = .ok (.iconst (-1), 1) := by decide +kernel
theorem dX2_addPart_34 : decode cX2_addPart 34 = .ok (.invokevirtual 70, 3) := by decide +kernel
theorem dX2_addPart_37 : decode cX2_addPart 37 = .ok (.iload_n 2, 1) := by decide +kernel
theorem dX2_addPart_38 : decode cX2_addPart 38 = .ok (.ifCond .ge 18, 3) := by decide +kernel
theorem dX2_addPart_41 : decode cX2_addPart 41 = .ok (.aload_n 0, 1) := by decide +kernel
theorem dX2_addPart_42 : decode cX2_addPart 42 = .ok (.getfield 20, 3) := by decide +kernel
theorem dX2_addPart_45 : decode cX2_addPart 45 = .ok (.iload_n 1, 1) := by decide +kernel
theorem dX2_addPart_46 : decode cX2_addPart 46 = .ok (.aload_n 0, 1) := by decide +kernel
theorem dX2_addPart_47 : decode cX2_addPart 47 = .ok (.getfield 57, 3) := by decide +kernel
theorem dX2_addPart_50 : decode cX2_addPart 50 = .ok (.invokevirtual 70, 3) := by decide +kernel
theorem dX2_addPart_53 : decode cX2_addPart 53 = .ok (.goto 15, 3) := by decide +kernel
theorem dX2_addPart_56 : decode cX2_addPart 56 = .ok (.aload_n 0, 1) := by decide +kernel
theorem dX2_addPart_57 : decode cX2_addPart 57 = .ok (.getfield 32, 3) := by decide +kernel
theorem dX2_addPart_60 : decode cX2_addPart 60 = .ok (.iload_n 2, 1) := by decide +kernel
theorem dX2_addPart_61 : decode cX2_addPart 61 = .ok (.aload_n 0, 1) := by decide +kernel
theorem dX2_addPart_62 : decode cX2_addPart 62 = .ok (.getfield 57, 3) := by decide +kernel
theorem dX2_addPart_65 : decode cX2_addPart 65 = .ok (.invokevirtual 70, 3) := by decide +kernel
theorem dX2_addPart_68 : decode cX2_addPart 68 = .ok (.aload_n 0, 1) := by decide +kernel
theorem dX2_addPart_69 : decode cX2_addPart 69 = .ok (.getfield 23, 3) := by decide +kernel
theorem dX2_addPart_72 : decode cX2_addPart 72 = .ok (.iload_n 1, 1) := by decide +kernel
theorem dX2_addPart_73 : decode cX2_addPart 73 = .ok (.aload_n 0, 1) := by decide +kernel
theorem dX2_addPart_74 : decode cX2_addPart 74 = .ok (.getfield 23, 3) := by decide +kernel
theorem dX2_addPart_77 : decode cX2_addPart 77 = .ok (.iload_n 1, 1) := by decide +kernel
theorem dX2_addPart_78 : decode cX2_addPart 78 = .ok (.invokevirtual 74, 3) := by decide +kernel
theorem dX2_addPart_81 : decode cX2_addPart 81 = .ok (.iconst 1, 1) := by decide +kernel
theorem dX2_addPart_82 : decode cX2_addPart 82 = .ok (.iadd, 1) := by decide +kernel
theorem dX2_addPart_83 : decode cX2_addPart 83 = .ok (.invokevirtual 70, 3) := by decide +kernel
theorem dX2_addPart_86 : decode cX2_addPart 86 = .ok (.aload_n 0, 1) := by decide +kernel
theorem dX2_addPart_87 : decode cX2_addPart 87 = .ok (.dup, 1) := by decide +kernel
theorem dX2_addPart_88 : decode cX2_addPart 88 = .ok (.getfield 57, 3) := by decide +kernel
theorem dX2_addPart_91 : decode cX2_addPart 91 = .ok (.iconst 1, 1) := by decide +kernel
theorem dX2_addPart_92 : decode cX2_addPart 92 = .ok (.iadd, 1) := by decide +kernel
theorem dX2_addPart_93 : decode cX2_addPart 93 = .ok (.putfield 57, 3) := by decide +kernel
theorem dX2_addPart_96 : decode cX2_addPart 96 = .ok (.aload_n 0, 1) := by decide +kernel
theorem dX2_addPart_97 : decode cX2_addPart 97 = .ok (.getfield 57, 3) := by decide +kernel
theorem dX2_addPart_100 : decode cX2_addPart 100 = .ok (.iconst 1, 1) := by decide +kernel
theorem dX2_addPart_101 : decode cX2_addPart 101 = .ok (.isub, 1) := by decide +kernel
theorem dX2_addPart_102 : decode cX2_addPart 102 = .ok (.ireturn, 1) := by decide +kernel
def bX2_addPart_68 (x1 : Int32) (t : zS) : zR := zbd (mX5_get 12 3000 x1 t) fun r311 t312 => zbd (mX5_set 12 3000 x1 (r311 + 1) t312) fun r314 t315 => zpt t315 3 14 ((t315 3 14) + 1) fun t317 => some (((t317 3 14) - 1), t317)
def mX2_addPart (x1 : Int32) (x2 : Int32) (x3 : Int32) (x4 : Int32) (t : zS) : zR := zbd (mX5_set 14 1600 (t 3 14) x3 t) fun r318 t319 => zbd (mX5_set 16 1600 (t319 3 14) x4 t319) fun r321 t322 => zbd (mX5_set 18 1600 (t322 3 14) (-1) t322) fun r324 t325 => if 0 ≤ x2 then zbd (mX5_set 18 1600 x2 (t325 3 14) t325) fun r327 t328 => bX2_addPart_68  x1 t328 else zbd (mX5_set 10 3000 x1 (t325 3 14) t325) fun r330 t331 => bX2_addPart_68  x1 t331
set_option maxHeartbeats 4000000 in
set_option maxRecDepth 20000 in
theorem wbX2_addPart_68 {E : zE} {C : zC} {f : Nat} {ro : Int32 × zS} (hf : 2 ≤ f) (x1 : Int32) (t : zS) (hF : bX2_addPart_68  x1 t = some ro) : zJ E shC C cX2_addPart RX2 5 f (some .int) ro t 68 [(0, .ref (za E 3)), (1, .int x1)] [] := by
  unfold bX2_addPart_68 at hF
  refine z_aload_n 0 dX2_addPart_68 rfl rfl ?_
  refine z_getr fr_RX2_23 dX2_addPart_69 ?_
  refine z_iload_n 1 dX2_addPart_72 rfl rfl ?_
  refine z_aload_n 0 dX2_addPart_73 rfl rfl ?_
  refine z_getr fr_RX2_23 dX2_addPart_74 ?_
  refine z_iload_n 1 dX2_addPart_77 rfl rfl ?_
  obtain ⟨r311, t312, hc313, hF⟩ := zbd_at hF
  refine z_callVi (ctX5_get (E := E) (sh := shC) (f := f - 1) (by omega) (k := 12) (n := 3000) rfl rfl hc313) yy_X5_get yv_X5_get ob_C_12 lk_RX2_74 (by omega) rfl rfl (Nat.le_of_ble_eq_true rfl) dX2_addPart_78 ?_
  refine z_iconst (v := 1) dX2_addPart_81 (by decide) ?_
  refine z_iadd dX2_addPart_82 ?_
  obtain ⟨r314, t315, hc316, hF⟩ := zbd_at hF
  refine z_callVv (ctX5_set (E := E) (sh := shC) (f := f - 1) (by omega) (k := 12) (n := 3000) rfl rfl hc316) yy_X5_set yv_X5_set ob_C_12 lk_RX2_70 (by omega) rfl rfl (Nat.le_of_ble_eq_true rfl) dX2_addPart_83 ?_
  refine z_aload_n 0 dX2_addPart_86 rfl rfl ?_
  refine z_dup dX2_addPart_87 rfl ?_
  refine z_geti fi_RX2_57 dX2_addPart_88 ?_
  refine z_iconst (v := 1) dX2_addPart_91 (by decide) ?_
  refine z_iadd dX2_addPart_92 ?_
  refine z_puti fw_RX2_57 dX2_addPart_93 (fun t317 et317 => ?_)
  have hF := zpt_at hF t317 et317
  refine z_aload_n 0 dX2_addPart_96 rfl rfl ?_
  refine z_geti fi_RX2_57 dX2_addPart_97 ?_
  refine z_iconst (v := 1) dX2_addPart_100 (by decide) ?_
  refine z_isub dX2_addPart_101 ?_
  exact z_iret hF dX2_addPart_102
set_option maxHeartbeats 4000000 in
set_option maxRecDepth 20000 in
theorem ctX2_addPart {E : zE} {f : Nat} (hf : 2 ≤ f) {x1 : Int32} {x2 : Int32} {x3 : Int32} {x4 : Int32} {t : zS} {ro : Int32 × zS} (hF : mX2_addPart  x1 x2 x3 x4 t = some ro) : zM E shC f yX2_addPart cX2_addPart 5 (some .int) [.ref (za E 3), .int x1, .int x2, .int x3, .int x4] t ro := by
  refine zM_of (by decide) (Nat.le_of_ble_eq_true rfl) (fun C => ?_)
  show zJ E shC C cX2_addPart RX2 5 f (some .int) ro t 0 [(0, .ref (za E 3)), (1, .int x1), (2, .int x2), (3, .int x3), (4, .int x4)] []
  unfold mX2_addPart at hF
  refine z_aload_n 0 dX2_addPart_0 rfl rfl ?_
  refine z_getr fr_RX2_26 dX2_addPart_1 ?_
  refine z_aload_n 0 dX2_addPart_4 rfl rfl ?_
  refine z_geti fi_RX2_57 dX2_addPart_5 ?_
  refine z_iload_n 3 dX2_addPart_8 rfl rfl ?_
  obtain ⟨r318, t319, hc320, hF⟩ := zbd_at hF
  refine z_callVv (ctX5_set (E := E) (sh := shC) (f := f - 1) (by omega) (k := 14) (n := 1600) rfl rfl hc320) yy_X5_set yv_X5_set ob_C_14 lk_RX2_70 (by omega) rfl rfl (Nat.le_of_ble_eq_true rfl) dX2_addPart_9 ?_
  refine z_aload_n 0 dX2_addPart_12 rfl rfl ?_
  refine z_getr fr_RX2_29 dX2_addPart_13 ?_
  refine z_aload_n 0 dX2_addPart_16 rfl rfl ?_
  refine z_geti fi_RX2_57 dX2_addPart_17 ?_
  refine z_iload 4 dX2_addPart_20 rfl ?_
  obtain ⟨r321, t322, hc323, hF⟩ := zbd_at hF
  refine z_callVv (ctX5_set (E := E) (sh := shC) (f := f - 1) (by omega) (k := 16) (n := 1600) rfl rfl hc323) yy_X5_set yv_X5_set ob_C_16 lk_RX2_70 (by omega) rfl rfl (Nat.le_of_ble_eq_true rfl) dX2_addPart_22 ?_
  refine z_aload_n 0 dX2_addPart_25 rfl rfl ?_
  refine z_getr fr_RX2_32 dX2_addPart_26 ?_
  refine z_aload_n 0 dX2_addPart_29 rfl rfl ?_
  refine z_geti fi_RX2_57 dX2_addPart_30 ?_
  refine z_iconst (v := (-1)) dX2_addPart_33 (by decide) ?_
  obtain ⟨r324, t325, hc326, hF⟩ := zbd_at hF
  refine z_callVv (ctX5_set (E := E) (sh := shC) (f := f - 1) (by omega) (k := 18) (n := 1600) rfl rfl hc326) yy_X5_set yv_X5_set ob_C_18 lk_RX2_70 (by omega) rfl rfl (Nat.le_of_ble_eq_true rfl) dX2_addPart_34 ?_
  refine z_iload_n 2 dX2_addPart_37 rfl rfl ?_
  refine z_if_ge (tgt := 56) dX2_addPart_38 (by decide) (fun hc => ?_) (fun hc => ?_)
  · have hF := zif_t hc hF
    refine z_aload_n 0 dX2_addPart_56 rfl rfl ?_
    refine z_getr fr_RX2_32 dX2_addPart_57 ?_
    refine z_iload_n 2 dX2_addPart_60 rfl rfl ?_
    refine z_aload_n 0 dX2_addPart_61 rfl rfl ?_
    refine z_geti fi_RX2_57 dX2_addPart_62 ?_
    obtain ⟨r327, t328, hc329, hF⟩ := zbd_at hF
    refine z_callVv (ctX5_set (E := E) (sh := shC) (f := f - 1) (by omega) (k := 18) (n := 1600) rfl rfl hc329) yy_X5_set yv_X5_set ob_C_18 lk_RX2_70 (by omega) rfl rfl (Nat.le_of_ble_eq_true rfl) dX2_addPart_65 ?_
    refine z_sub [0, 1] rfl ?_
    exact wbX2_addPart_68 hf  x1 _ hF
  · have hF := zif_f hc hF
    refine z_aload_n 0 dX2_addPart_41 rfl rfl ?_
    refine z_getr fr_RX2_20 dX2_addPart_42 ?_
    refine z_iload_n 1 dX2_addPart_45 rfl rfl ?_
    refine z_aload_n 0 dX2_addPart_46 rfl rfl ?_
    refine z_geti fi_RX2_57 dX2_addPart_47 ?_
    obtain ⟨r330, t331, hc332, hF⟩ := zbd_at hF
    refine z_callVv (ctX5_set (E := E) (sh := shC) (f := f - 1) (by omega) (k := 10) (n := 3000) rfl rfl hc332) yy_X5_set yv_X5_set ob_C_10 lk_RX2_70 (by omega) rfl rfl (Nat.le_of_ble_eq_true rfl) dX2_addPart_50 ?_
    refine z_goto (tgt := 68) dX2_addPart_53 (by decide) ?_
    refine z_sub [0, 1] rfl ?_
    exact wbX2_addPart_68 hf  x1 _ hF
-- SessionHouse$Forms.follow(II)V
theorem dX2_follow_0 : decode cX2_follow 0 = .ok (.aload_n 0, 1) := by decide +kernel
theorem dX2_follow_1 : decode cX2_follow 1 = .ok (.getfield 23, 3) := by decide +kernel
theorem dX2_follow_4 : decode cX2_follow 4 = .ok (.iload_n 1, 1) := by decide +kernel
theorem dX2_follow_5 : decode cX2_follow 5 = .ok (.iload_n 2, 1) := by decide +kernel
theorem dX2_follow_6 : decode cX2_follow 6 = .ok (.invokevirtual 70, 3) := by decide +kernel
theorem dX2_follow_9 : decode cX2_follow 9 = .ok (.return_, 1) := by decide +kernel
def mX2_follow (x1 : Int32) (x2 : Int32) (t : zS) : zR := zbd (mX5_set 12 3000 x1 x2 t) fun r333 t334 => some (0, t334)
set_option maxHeartbeats 4000000 in
set_option maxRecDepth 20000 in
theorem ctX2_follow {E : zE} {f : Nat} (hf : 2 ≤ f) {x1 : Int32} {x2 : Int32} {t : zS} {ro : Int32 × zS} (hF : mX2_follow  x1 x2 t = some ro) : zM E shC f yX2_follow cX2_follow 3 none [.ref (za E 3), .int x1, .int x2] t ro := by
  refine zM_of (by decide) (Nat.le_of_ble_eq_true rfl) (fun C => ?_)
  show zJ E shC C cX2_follow RX2 3 f none ro t 0 [(0, .ref (za E 3)), (1, .int x1), (2, .int x2)] []
  unfold mX2_follow at hF
  refine z_aload_n 0 dX2_follow_0 rfl rfl ?_
  refine z_getr fr_RX2_23 dX2_follow_1 ?_
  refine z_iload_n 1 dX2_follow_4 rfl rfl ?_
  refine z_iload_n 2 dX2_follow_5 rfl rfl ?_
  obtain ⟨r333, t334, hc335, hF⟩ := zbd_at hF
  refine z_callVv (ctX5_set (E := E) (sh := shC) (f := f - 1) (by omega) (k := 12) (n := 3000) rfl rfl hc335) yy_X5_set yv_X5_set ob_C_12 lk_RX2_70 (by omega) rfl rfl (Nat.le_of_ble_eq_true rfl) dX2_follow_6 ?_
  exact z_vret hF dX2_follow_9
-- SessionHouse$Forms.goesOn(I)Z
theorem dX2_goesOn_0 : decode cX2_goesOn 0 = .ok (.aload_n 0, 1) := by decide +kernel
theorem dX2_goesOn_1 : decode cX2_goesOn 1 = .ok (.getfield 14, 3) := by decide +kernel
theorem dX2_goesOn_4 : decode cX2_goesOn 4 = .ok (.iload_n 1, 1) := by decide +kernel
theorem dX2_goesOn_5 : decode cX2_goesOn 5 = .ok (.invokevirtual 74, 3) := by decide +kernel
theorem dX2_goesOn_8 : decode cX2_goesOn 8 = .ok (.istore_n 2, 1) := by decide +kernel
theorem dX2_goesOn_9 : decode cX2_goesOn 9 = .ok (.iload_n 2, 1) := by decide +kernel
theorem dX2_goesOn_10 : decode cX2_goesOn 10 = .ok (.iconst 4, 1) := by decide +kernel
theorem dX2_goesOn_11 : decode cX2_goesOn 11 = .ok (.if_icmp .lt 13, 3) := by decide +kernel
theorem dX2_goesOn_14 : decode cX2_goesOn 14 = .ok (.iload_n 2, 1) := by decide +kernel
theorem dX2_goesOn_15 : decode cX2_goesOn 15 = .ok (.bipush 7, 2) := by decide +kernel
theorem dX2_goesOn_17 : decode cX2_goesOn 17 = .ok (.if_icmp .gt 7, 3) := by decide +kernel
theorem dX2_goesOn_20 : decode cX2_goesOn 20 = .ok (.iconst 1, 1) := by decide +kernel
theorem dX2_goesOn_21 : decode cX2_goesOn 21 = .ok (.goto 4, 3) := by decide +kernel
theorem dX2_goesOn_24 : decode cX2_goesOn 24 = .ok (.iconst 0, 1) := by decide +kernel
theorem dX2_goesOn_25 : decode cX2_goesOn 25 = .ok (.ireturn, 1) := by decide +kernel
def mX2_goesOn (x1 : Int32) (t : zS) : zR := zbd (mX5_get 8 3000 x1 t) fun r336 t337 => if r336 < 4 then some (0, t337) else if 7 < r336 then some (0, t337) else some (1, t337)
set_option maxHeartbeats 4000000 in
set_option maxRecDepth 20000 in
theorem ctX2_goesOn {E : zE} {f : Nat} (hf : 2 ≤ f) {x1 : Int32} {t : zS} {ro : Int32 × zS} (hF : mX2_goesOn  x1 t = some ro) : zM E shC f yX2_goesOn cX2_goesOn 3 (some .boolean) [.ref (za E 3), .int x1] t ro := by
  refine zM_of (by decide) (Nat.le_of_ble_eq_true rfl) (fun C => ?_)
  show zJ E shC C cX2_goesOn RX2 3 f (some .boolean) ro t 0 [(0, .ref (za E 3)), (1, .int x1)] []
  unfold mX2_goesOn at hF
  refine z_aload_n 0 dX2_goesOn_0 rfl rfl ?_
  refine z_getr fr_RX2_14 dX2_goesOn_1 ?_
  refine z_iload_n 1 dX2_goesOn_4 rfl rfl ?_
  obtain ⟨r336, t337, hc338, hF⟩ := zbd_at hF
  refine z_callVi (ctX5_get (E := E) (sh := shC) (f := f - 1) (by omega) (k := 8) (n := 3000) rfl rfl hc338) yy_X5_get yv_X5_get ob_C_8 lk_RX2_74 (by omega) rfl rfl (Nat.le_of_ble_eq_true rfl) dX2_goesOn_5 ?_
  refine z_istore_n (lv' := [(2, .int r336), (0, .ref (za E 3)), (1, .int x1)]) dX2_goesOn_8 rfl (by decide) rfl ?_
  refine z_iload_n 0 dX2_goesOn_9 rfl rfl ?_
  refine z_iconst (v := 4) dX2_goesOn_10 (by decide) ?_
  refine z_icmp_lt (tgt := 24) dX2_goesOn_11 (by decide) (fun hc => ?_) (fun hc => ?_)
  · have hF := zif_t hc hF
    refine z_iconst (v := 0) dX2_goesOn_24 (by decide) ?_
    exact z_zret hF (by decide) dX2_goesOn_25
  · have hF := zif_f hc hF
    refine z_iload_n 0 dX2_goesOn_14 rfl rfl ?_
    refine z_bipush (v := 7) dX2_goesOn_15 (by decide) ?_
    refine z_icmp_gt (tgt := 24) dX2_goesOn_17 (by decide) (fun hc => ?_) (fun hc => ?_)
    · have hF := zif_t hc hF
      refine z_iconst (v := 0) dX2_goesOn_24 (by decide) ?_
      exact z_zret hF (by decide) dX2_goesOn_25
    · have hF := zif_f hc hF
      refine z_iconst (v := 1) dX2_goesOn_20 (by decide) ?_
      refine z_goto (tgt := 25) dX2_goesOn_21 (by decide) ?_
      exact z_zret hF (by decide) dX2_goesOn_25
abbrev GgX7_readForm : Type := (zS → zR) × (zS → zR) × (Int32 → zS → zR) × (Int32 → zS → zR)
def HgX7_readForm (E : zE) (f : Nat) (g : GgX7_readForm) : Prop := (∀ (t : zS) (ro : Int32 × zS), g.1  t = some ro → zM E shC f yX7_readForm cX7_readForm 5 (some .int) [.ref (za E 5)] t ro) ∧ (∀ (t : zS) (ro : Int32 × zS), g.2.1  t = some ro → zM E shC f yX7_readHead cX7_readHead 1 (some .int) [.ref (za E 5)] t ro) ∧ (∀ (x1 : Int32) (t : zS) (ro : Int32 × zS), g.2.2.1 x1 t = some ro → zM E shC f yX7_readMessage cX7_readMessage 3 (some .int) [.ref (za E 5), .int x1] t ro) ∧ (∀ (x1 : Int32) (t : zS) (ro : Int32 × zS), g.2.2.2 x1 t = some ro → zM E shC f yX7_readChoice cX7_readChoice 6 (some .int) [.ref (za E 5), .int x1] t ro)
theorem z_hgX7_readForm {E : zE} {f : Nat} {g : GgX7_readForm} (hg : HgX7_readForm E f g) {t : zS} {ro : Int32 × zS} (h : g.1  t = some ro) : zM E shC f yX7_readForm cX7_readForm 5 (some .int) [.ref (za E 5)] t ro := hg.1  _ _ h
theorem z_hgX7_readHead {E : zE} {f : Nat} {g : GgX7_readForm} (hg : HgX7_readForm E f g) {t : zS} {ro : Int32 × zS} (h : g.2.1  t = some ro) : zM E shC f yX7_readHead cX7_readHead 1 (some .int) [.ref (za E 5)] t ro := hg.2.1  _ _ h
theorem z_hgX7_readMessage {E : zE} {f : Nat} {g : GgX7_readForm} (hg : HgX7_readForm E f g) {x1 : Int32} {t : zS} {ro : Int32 × zS} (h : g.2.2.1 x1 t = some ro) : zM E shC f yX7_readMessage cX7_readMessage 3 (some .int) [.ref (za E 5), .int x1] t ro := hg.2.2.1 _ _ _ h
theorem z_hgX7_readChoice {E : zE} {f : Nat} {g : GgX7_readForm} (hg : HgX7_readForm E f g) {x1 : Int32} {t : zS} {ro : Int32 × zS} (h : g.2.2.2 x1 t = some ro) : zM E shC f yX7_readChoice cX7_readChoice 6 (some .int) [.ref (za E 5), .int x1] t ro := hg.2.2.2 _ _ _ h
-- SessionHouse$Reader.readForm()I
theorem dX7_readForm_0 : decode cX7_readForm 0 = .ok (.iconst (-1), 1) := by decide +kernel
theorem dX7_readForm_1 : decode cX7_readForm 1 = .ok (.istore_n 1, 1) := by decide +kernel
theorem dX7_readForm_2 : decode cX7_readForm 2 = .ok (.iconst (-1), 1) := by decide +kernel
theorem dX7_readForm_3 : decode cX7_readForm 3 = .ok (.istore_n 2, 1) := by decide +kernel
theorem dX7_readForm_4 : decode cX7_readForm 4 = .ok (.iconst 0, 1) := by decide +kernel
theorem dX7_readForm_5 : decode cX7_readForm 5 = .ok (.istore_n 3, 1) := by decide +kernel
theorem dX7_readForm_6 : decode cX7_readForm 6 = .ok (.iload_n 3, 1) := by decide +kernel
theorem dX7_readForm_7 : decode cX7_readForm 7 = .ok (.sipush 3000, 3) := by decide +kernel
theorem dX7_readForm_10 : decode cX7_readForm 10 = .ok (.if_icmp .ge 60, 3) := by decide +kernel
theorem dX7_readForm_13 : decode cX7_readForm 13 = .ok (.aload_n 0, 1) := by decide +kernel
theorem dX7_readForm_14 : decode cX7_readForm 14 = .ok (.getfield 68, 3) := by decide +kernel
theorem dX7_readForm_17 : decode cX7_readForm 17 = .ok (.ifCond .ge 53, 3) := by decide +kernel
theorem dX7_readForm_20 : decode cX7_readForm 20 = .ok (.aload_n 0, 1) := by decide +kernel
theorem dX7_readForm_21 : decode cX7_readForm 21 = .ok (.invokevirtual 144, 3) := by decide +kernel
theorem dX7_readForm_24 : decode cX7_readForm 24 = .ok (.istore 4, 2) := by decide +kernel
theorem dX7_readForm_26 : decode cX7_readForm 26 = .ok (.iload_n 2, 1) := by decide +kernel
theorem dX7_readForm_27 : decode cX7_readForm 27 = .ok (.ifCond .ge 9, 3) := by decide +kernel
theorem dX7_readForm_30 : decode cX7_readForm 30 = .ok (.iload 4, 2) := by decide +kernel
theorem dX7_readForm_32 : decode cX7_readForm 32 = .ok (.istore_n 1, 1) := by decide +kernel
theorem dX7_readForm_33 : decode cX7_readForm 33 = .ok (.goto 13, 3) := by decide +kernel
theorem dX7_readForm_36 : decode cX7_readForm 36 = .ok (.aload_n 0, 1) := by decide +kernel
theorem dX7_readForm_37 : decode cX7_readForm 37 = .ok (.getfield 30, 3) := by decide +kernel
theorem dX7_readForm_40 : decode cX7_readForm 40 = .ok (.iload_n 2, 1) := by decide +kernel
theorem dX7_readForm_41 : decode cX7_readForm 41 = .ok (.iload 4, 2) := by decide +kernel
theorem dX7_readForm_43 : decode cX7_readForm 43 = .ok (.invokevirtual 147, 3) := by decide +kernel
theorem dX7_readForm_46 : decode cX7_readForm 46 = .ok (.iload 4, 2) := by decide +kernel
theorem dX7_readForm_48 : decode cX7_readForm 48 = .ok (.istore_n 2, 1) := by decide +kernel
theorem dX7_readForm_49 : decode cX7_readForm 49 = .ok (.aload_n 0, 1) := by decide +kernel
theorem dX7_readForm_50 : decode cX7_readForm 50 = .ok (.getfield 30, 3) := by decide +kernel
theorem dX7_readForm_53 : decode cX7_readForm 53 = .ok (.iload 4, 2) := by decide +kernel
theorem dX7_readForm_55 : decode cX7_readForm 55 = .ok (.invokevirtual 150, 3) := by decide +kernel
theorem dX7_readForm_58 : decode cX7_readForm 58 = .ok (.ifCond .ne 6, 3) := by decide +kernel
theorem dX7_readForm_61 : decode cX7_readForm 61 = .ok (.goto 9, 3) := by decide +kernel
theorem dX7_readForm_64 : decode cX7_readForm 64 = .ok (.iinc 3 1, 3) := by decide +kernel
theorem dX7_readForm_67 : decode cX7_readForm 67 = .ok (.goto (-61), 3) := by decide +kernel
theorem dX7_readForm_70 : decode cX7_readForm 70 = .ok (.iload_n 1, 1) := by decide +kernel
theorem dX7_readForm_71 : decode cX7_readForm 71 = .ok (.ireturn, 1) := by decide +kernel
def bX7_readForm_46 (g : GgX7_readForm) (k6 : Int32 → Int32 → Int32 → zS → zR) (x1 : Int32) (x3 : Int32) (x4 : Int32) (t : zS) : zR := zbd (mX2_goesOn x4 t) fun r339 t340 => if r339 = 0 then some (x1, t340) else zlet (x3 + 1) fun v342 => k6 x1 x4 v342 t340
def bX7_readForm_6 (g : GgX7_readForm) (k6 : Int32 → Int32 → Int32 → zS → zR) (x1 : Int32) (x2 : Int32) (x3 : Int32) (t : zS) : zR := if 3000 ≤ x3 then some (x1, t) else if 0 ≤ (t 5 12) then some (x1, t) else zbd (g.2.1  t) fun r343 t344 => if 0 ≤ x2 then zbd (mX2_follow x2 r343 t344) fun r346 t347 => bX7_readForm_46 g k6 x1 x3 r343 t347 else bX7_readForm_46 g k6 r343 x3 r343 t344
def lX7_readForm_6 (g : GgX7_readForm) : Nat → Int32 → Int32 → Int32 → zS → zR
  | 0, _, _, _, _ => none
  | fu + 1, x1, x2, x3, t => bX7_readForm_6 g (lX7_readForm_6 g fu) x1 x2 x3 t
def mX7_readForm (g : GgX7_readForm) (t : zS) : zR := lX7_readForm_6 g zFU (-1) (-1) 0 t
set_option maxHeartbeats 4000000 in
set_option maxRecDepth 20000 in
theorem wbX7_readForm_46 {E : zE} {C : zC} {f : Nat} {ro : Int32 × zS} (hf : 4 ≤ f) {g : GgX7_readForm} (hg : HgX7_readForm E (f - 1) g) (k6 : Int32 → Int32 → Int32 → zS → zR) (hk6 : ∀ (x1 x2 x3 : Int32) (t : zS), k6 x1 x2 x3 t = some ro → zJ E shC C cX7_readForm RX7 5 f (some .int) ro t 6 [(0, .ref (za E 5)), (1, .int x1), (2, .int x2), (3, .int x3)] []) (x1 : Int32) (x3 : Int32) (x4 : Int32) (t : zS) (hF : bX7_readForm_46 g k6 x1 x3 x4 t = some ro) : zJ E shC C cX7_readForm RX7 5 f (some .int) ro t 46 [(0, .ref (za E 5)), (1, .int x1), (3, .int x3), (4, .int x4)] [] := by
  unfold bX7_readForm_46 at hF
  refine z_iload 3 dX7_readForm_46 rfl ?_
  refine z_istore_n (lv' := [(2, .int x4), (0, .ref (za E 5)), (1, .int x1), (3, .int x3), (4, .int x4)]) dX7_readForm_48 rfl (by decide) rfl ?_
  refine z_aload_n 1 dX7_readForm_49 rfl rfl ?_
  refine z_getr fr_RX7_30 dX7_readForm_50 ?_
  refine z_iload 4 dX7_readForm_53 rfl ?_
  obtain ⟨r339, t340, hc341, hF⟩ := zbd_at hF
  refine z_callVi (ctX2_goesOn (E := E) (f := f - 1) (by omega) hc341) yy_X2_goesOn yv_X2_goesOn ob_C_3 lk_RX7_150 (by omega) rfl rfl (Nat.le_of_ble_eq_true rfl) dX7_readForm_55 ?_
  refine z_if_ne (tgt := 64) dX7_readForm_58 (by decide) (fun hc => ?_) (fun hc => ?_)
  · have hF := zif_f hc hF
    obtain ⟨v342, ev342⟩ : ∃ y : Int32, y = (x3 + 1) := ⟨_, rfl⟩
    have hF := zlet_at ev342 hF
    refine z_iinc (v := v342) (lv' := [(3, .int v342), (2, .int x4), (0, .ref (za E 5)), (1, .int x1), (4, .int x4)]) (k := 3) dX7_readForm_64 rfl (by rw [ev342]; rfl) (by decide) rfl ?_
    refine z_goto (tgt := 6) dX7_readForm_67 (by decide) ?_
    refine z_sub [2, 3, 1, 0] rfl ?_
    exact hk6 x1 x4 v342 _ hF
  · have hF := zif_t hc hF
    refine z_goto (tgt := 70) dX7_readForm_61 (by decide) ?_
    refine z_iload_n 2 dX7_readForm_70 rfl rfl ?_
    exact z_iret hF dX7_readForm_71
set_option maxHeartbeats 4000000 in
set_option maxRecDepth 20000 in
theorem wbX7_readForm_6 {E : zE} {C : zC} {f : Nat} {ro : Int32 × zS} (hf : 4 ≤ f) {g : GgX7_readForm} (hg : HgX7_readForm E (f - 1) g) (k6 : Int32 → Int32 → Int32 → zS → zR) (hk6 : ∀ (x1 x2 x3 : Int32) (t : zS), k6 x1 x2 x3 t = some ro → zJ E shC C cX7_readForm RX7 5 f (some .int) ro t 6 [(0, .ref (za E 5)), (1, .int x1), (2, .int x2), (3, .int x3)] []) (x1 : Int32) (x2 : Int32) (x3 : Int32) (t : zS) (hF : bX7_readForm_6 g k6 x1 x2 x3 t = some ro) : zJ E shC C cX7_readForm RX7 5 f (some .int) ro t 6 [(0, .ref (za E 5)), (1, .int x1), (2, .int x2), (3, .int x3)] [] := by
  unfold bX7_readForm_6 at hF
  refine z_iload_n 3 dX7_readForm_6 rfl rfl ?_
  refine z_sipush (v := 3000) dX7_readForm_7 (by decide) ?_
  refine z_icmp_ge (tgt := 70) dX7_readForm_10 (by decide) (fun hc => ?_) (fun hc => ?_)
  · have hF := zif_t hc hF
    refine z_iload_n 1 dX7_readForm_70 rfl rfl ?_
    exact z_iret hF dX7_readForm_71
  · have hF := zif_f hc hF
    refine z_aload_n 0 dX7_readForm_13 rfl rfl ?_
    refine z_geti fi_RX7_68 dX7_readForm_14 ?_
    refine z_if_ge (tgt := 70) dX7_readForm_17 (by decide) (fun hc => ?_) (fun hc => ?_)
    · have hF := zif_t hc hF
      refine z_iload_n 1 dX7_readForm_70 rfl rfl ?_
      exact z_iret hF dX7_readForm_71
    · have hF := zif_f hc hF
      refine z_aload_n 0 dX7_readForm_20 rfl rfl ?_
      obtain ⟨r343, t344, hc345, hF⟩ := zbd_at hF
      refine z_callVi (z_hgX7_readHead hg hc345) yy_X7_readHead yv_X7_readHead ob_C_5 lk_RX7_144 (by omega) rfl rfl (Nat.le_of_ble_eq_true rfl) dX7_readForm_21 ?_
      refine z_istore (lv' := [(4, .int r343), (0, .ref (za E 5)), (1, .int x1), (2, .int x2), (3, .int x3)]) dX7_readForm_24 (by decide) rfl ?_
      refine z_iload_n 3 dX7_readForm_26 rfl rfl ?_
      refine z_if_ge (tgt := 36) dX7_readForm_27 (by decide) (fun hc => ?_) (fun hc => ?_)
      · have hF := zif_t hc hF
        refine z_aload_n 1 dX7_readForm_36 rfl rfl ?_
        refine z_getr fr_RX7_30 dX7_readForm_37 ?_
        refine z_iload_n 3 dX7_readForm_40 rfl rfl ?_
        refine z_iload 0 dX7_readForm_41 rfl ?_
        obtain ⟨r346, t347, hc348, hF⟩ := zbd_at hF
        refine z_callVv (ctX2_follow (E := E) (f := f - 1) (by omega) hc348) yy_X2_follow yv_X2_follow ob_C_3 lk_RX7_147 (by omega) rfl rfl (Nat.le_of_ble_eq_true rfl) dX7_readForm_43 ?_
        refine z_sub [1, 2, 4, 0] rfl ?_
        exact wbX7_readForm_46 hf hg k6 hk6 x1 x3 r343 _ hF
      · have hF := zif_f hc hF
        refine z_iload 0 dX7_readForm_30 rfl ?_
        refine z_istore_n (lv' := [(1, .int r343), (4, .int r343), (0, .ref (za E 5)), (2, .int x2), (3, .int x3)]) dX7_readForm_32 rfl (by decide) rfl ?_
        refine z_goto (tgt := 46) dX7_readForm_33 (by decide) ?_
        refine z_sub [2, 0, 4, 1] rfl ?_
        exact wbX7_readForm_46 hf hg k6 hk6 r343 x3 r343 _ hF
set_option maxHeartbeats 4000000 in
set_option maxRecDepth 20000 in
theorem wlX7_readForm_6 {E : zE} {C : zC} {f : Nat} {ro : Int32 × zS} (hf : 4 ≤ f) {g : GgX7_readForm} (hg : HgX7_readForm E (f - 1) g) (fu : Nat) : ∀ (x1 x2 x3 : Int32) (t : zS), lX7_readForm_6 g fu x1 x2 x3 t = some ro → zJ E shC C cX7_readForm RX7 5 f (some .int) ro t 6 [(0, .ref (za E 5)), (1, .int x1), (2, .int x2), (3, .int x3)] [] := by
  induction fu with
  | zero => intro x1 x2 x3 t hF; cases hF
  | succ fu ih => intro x1 x2 x3 t hF; exact wbX7_readForm_6 hf hg (lX7_readForm_6 g fu) ih x1 x2 x3 t hF
set_option maxHeartbeats 4000000 in
set_option maxRecDepth 20000 in
theorem ctX7_readForm {E : zE} {f : Nat} (hf : 4 ≤ f) {g : GgX7_readForm} (hg : HgX7_readForm E (f - 1) g) {t : zS} {ro : Int32 × zS} (hF : mX7_readForm g  t = some ro) : zM E shC f yX7_readForm cX7_readForm 5 (some .int) [.ref (za E 5)] t ro := by
  refine zM_of (by decide) (Nat.le_of_ble_eq_true rfl) (fun C => ?_)
  show zJ E shC C cX7_readForm RX7 5 f (some .int) ro t 0 [(0, .ref (za E 5))] []
  unfold mX7_readForm at hF
  refine z_iconst (v := (-1)) dX7_readForm_0 (by decide) ?_
  refine z_istore_n (lv' := [(1, .int (-1)), (0, .ref (za E 5))]) dX7_readForm_1 rfl (by decide) rfl ?_
  refine z_iconst (v := (-1)) dX7_readForm_2 (by decide) ?_
  refine z_istore_n (lv' := [(2, .int (-1)), (1, .int (-1)), (0, .ref (za E 5))]) dX7_readForm_3 rfl (by decide) rfl ?_
  refine z_iconst (v := 0) dX7_readForm_4 (by decide) ?_
  refine z_istore_n (lv' := [(3, .int 0), (2, .int (-1)), (1, .int (-1)), (0, .ref (za E 5))]) dX7_readForm_5 rfl (by decide) rfl ?_
  refine z_sub [3, 2, 1, 0] rfl ?_
  exact wlX7_readForm_6 hf hg zFU (-1) (-1) 0 _ hF
-- SessionHouse$Reader.readHead()I
theorem dX7_readHead_0 : decode cX7_readHead 0 = .ok (.aload_n 0, 1) := by decide +kernel
theorem dX7_readHead_1 : decode cX7_readHead 1 = .ok (.getfield 80, 3) := by decide +kernel
theorem dX7_readHead_4 : decode cX7_readHead 4 = .ok (.lookupswitch 124 #[(16, 68), (17, 82), (33, 98), (38, 117), (43, 110), (63, 104), (126, 88)], 68) := by decide +kernel
theorem dX7_readHead_72 : decode cX7_readHead 72 = .ok (.aload_n 0, 1) := by decide +kernel
theorem dX7_readHead_73 : decode cX7_readHead 73 = .ok (.invokevirtual 77, 3) := by decide +kernel
theorem dX7_readHead_76 : decode cX7_readHead 76 = .ok (.aload_n 0, 1) := by decide +kernel
theorem dX7_readHead_77 : decode cX7_readHead 77 = .ok (.getfield 30, 3) := by decide +kernel
theorem dX7_readHead_80 : decode cX7_readHead 80 = .ok (.iconst 0, 1) := by decide +kernel
theorem dX7_readHead_81 : decode cX7_readHead 81 = .ok (.iconst (-1), 1) := by decide +kernel
theorem dX7_readHead_82 : decode cX7_readHead 82 = .ok (.invokevirtual 154, 3) := by decide +kernel
theorem dX7_readHead_85 : decode cX7_readHead 85 = .ok (.ireturn, 1) := by decide +kernel
theorem dX7_readHead_86 : decode cX7_readHead 86 = .ok (.aload_n 0, 1) := by decide +kernel
theorem dX7_readHead_87 : decode cX7_readHead 87 = .ok (.iconst 2, 1) := by decide +kernel
theorem dX7_readHead_88 : decode cX7_readHead 88 = .ok (.invokevirtual 157, 3) := by decide +kernel
theorem dX7_readHead_91 : decode cX7_readHead 91 = .ok (.ireturn, 1) := by decide +kernel
theorem dX7_readHead_92 : decode cX7_readHead 92 = .ok (.aload_n 0, 1) := by decide +kernel
theorem dX7_readHead_93 : decode cX7_readHead 93 = .ok (.invokevirtual 77, 3) := by decide +kernel
theorem dX7_readHead_96 : decode cX7_readHead 96 = .ok (.aload_n 0, 1) := by decide +kernel
theorem dX7_readHead_97 : decode cX7_readHead 97 = .ok (.iconst 3, 1) := by decide +kernel
theorem dX7_readHead_98 : decode cX7_readHead 98 = .ok (.invokevirtual 157, 3) := by decide +kernel
theorem dX7_readHead_101 : decode cX7_readHead 101 = .ok (.ireturn, 1) := by decide +kernel
theorem dX7_readHead_102 : decode cX7_readHead 102 = .ok (.aload_n 0, 1) := by decide +kernel
theorem dX7_readHead_103 : decode cX7_readHead 103 = .ok (.iconst 0, 1) := by decide +kernel
theorem dX7_readHead_104 : decode cX7_readHead 104 = .ok (.invokevirtual 160, 3) := by decide +kernel
theorem dX7_readHead_107 : decode cX7_readHead 107 = .ok (.ireturn, 1) := by decide +kernel
theorem dX7_readHead_108 : decode cX7_readHead 108 = .ok (.aload_n 0, 1) := by decide +kernel
theorem dX7_readHead_109 : decode cX7_readHead 109 = .ok (.iconst 1, 1) := by decide +kernel
theorem dX7_readHead_110 : decode cX7_readHead 110 = .ok (.invokevirtual 160, 3) := by decide +kernel
theorem dX7_readHead_113 : decode cX7_readHead 113 = .ok (.ireturn, 1) := by decide +kernel
theorem dX7_readHead_114 : decode cX7_readHead 114 = .ok (.aload_n 0, 1) := by decide +kernel
theorem dX7_readHead_115 : decode cX7_readHead 115 = .ok (.bipush 8, 2) := by decide +kernel
theorem dX7_readHead_117 : decode cX7_readHead 117 = .ok (.invokevirtual 163, 3) := by decide +kernel
theorem dX7_readHead_120 : decode cX7_readHead 120 = .ok (.ireturn, 1) := by decide +kernel
theorem dX7_readHead_121 : decode cX7_readHead 121 = .ok (.aload_n 0, 1) := by decide +kernel
theorem dX7_readHead_122 : decode cX7_readHead 122 = .ok (.bipush 9, 2) := by decide +kernel
theorem dX7_readHead_124 : decode cX7_readHead 124 = .ok (.invokevirtual 163, 3) := by decide +kernel
theorem dX7_readHead_127 : decode cX7_readHead 127 = .ok (.ireturn, 1) := by decide +kernel
theorem dX7_readHead_128 : decode cX7_readHead 128 = .ok (.aload_n 0, 1) := by decide +kernel
theorem dX7_readHead_129 : decode cX7_readHead 129 = .ok (.invokevirtual 89, 3) := by decide +kernel
theorem dX7_readHead_132 : decode cX7_readHead 132 = .ok (.iconst (-1), 1) := by decide +kernel
theorem dX7_readHead_133 : decode cX7_readHead 133 = .ok (.ireturn, 1) := by decide +kernel
def mX7_readHead (g : GgX7_readForm) (t : zS) : zR := zlet (t 5 9) fun v349 => if v349 = 16 then zbd (mX7_step  t) fun r350 t351 => zbd (mX2_node 0 (-1) t351) fun r353 t354 => some (r353, t354) else if v349 = 17 then zbd (mX7_readNamed 2 t) fun r357 t358 => some (r357, t358) else if v349 = 33 then zbd (g.2.2.1 0 t) fun r361 t362 => some (r361, t362) else if v349 = 38 then zbd (g.2.2.2 9 t) fun r365 t366 => some (r365, t366) else if v349 = 43 then zbd (g.2.2.2 8 t) fun r369 t370 => some (r369, t370) else if v349 = 63 then zbd (g.2.2.1 1 t) fun r373 t374 => some (r373, t374) else if v349 = 126 then zbd (mX7_step  t) fun r377 t378 => zbd (mX7_readNamed 3 t378) fun r380 t381 => some (r380, t381) else zbd (mX7_refuse  t) fun r384 t385 => some ((-1), t385)
set_option maxHeartbeats 4000000 in
set_option maxRecDepth 20000 in
theorem ctX7_readHead {E : zE} {f : Nat} (hf : 4 ≤ f) {g : GgX7_readForm} (hg : HgX7_readForm E (f - 1) g) {t : zS} {ro : Int32 × zS} (hF : mX7_readHead g  t = some ro) : zM E shC f yX7_readHead cX7_readHead 1 (some .int) [.ref (za E 5)] t ro := by
  refine zM_of (by decide) (Nat.le_of_ble_eq_true rfl) (fun C => ?_)
  show zJ E shC C cX7_readHead RX7 1 f (some .int) ro t 0 [(0, .ref (za E 5))] []
  unfold mX7_readHead at hF
  refine z_aload_n 0 dX7_readHead_0 rfl rfl ?_
  refine z_geti fi_RX7_80 dX7_readHead_1 ?_
  refine z_topi (fun v349 ev349 => ?_)
  have hF := zlet_at ev349 hF
  by_cases hc : v349 = 16
  · have hF := zif_t hc hF
    refine z_lookup (tgt := 72) (off := 68) dX7_readHead_4 (by decide) (by rw [hc] <;> rfl) (by decide) ?_
    refine z_aload_n 0 dX7_readHead_72 rfl rfl ?_
    obtain ⟨r350, t351, hc352, hF⟩ := zbd_at hF
    refine z_callVv (ctX7_step (E := E) (f := f - 1) (by omega) hc352) yy_X7_step yv_X7_step ob_C_5 lk_RX7_77 (by omega) rfl rfl (Nat.le_of_ble_eq_true rfl) dX7_readHead_73 ?_
    refine z_aload_n 0 dX7_readHead_76 rfl rfl ?_
    refine z_getr fr_RX7_30 dX7_readHead_77 ?_
    refine z_iconst (v := 0) dX7_readHead_80 (by decide) ?_
    refine z_iconst (v := (-1)) dX7_readHead_81 (by decide) ?_
    obtain ⟨r353, t354, hc355, hF⟩ := zbd_at hF
    refine z_callVi (ctX2_node (E := E) (f := f - 1) (by omega) hc355) yy_X2_node yv_X2_node ob_C_3 lk_RX7_154 (by omega) rfl rfl (Nat.le_of_ble_eq_true rfl) dX7_readHead_82 ?_
    exact z_iret hF dX7_readHead_85
  have hF := zif_f hc hF
  have hn356 := hc; clear hc
  by_cases hc : v349 = 17
  · have hF := zif_t hc hF
    refine z_lookup (tgt := 86) (off := 82) dX7_readHead_4 (by decide) (by rw [hc] <;> rfl) (by decide) ?_
    refine z_aload_n 0 dX7_readHead_86 rfl rfl ?_
    refine z_iconst (v := 2) dX7_readHead_87 (by decide) ?_
    obtain ⟨r357, t358, hc359, hF⟩ := zbd_at hF
    refine z_callVi (ctX7_readNamed (E := E) (f := f - 1) (by omega) hc359) yy_X7_readNamed yv_X7_readNamed ob_C_5 lk_RX7_157 (by omega) rfl rfl (Nat.le_of_ble_eq_true rfl) dX7_readHead_88 ?_
    exact z_iret hF dX7_readHead_91
  have hF := zif_f hc hF
  have hn360 := hc; clear hc
  by_cases hc : v349 = 33
  · have hF := zif_t hc hF
    refine z_lookup (tgt := 102) (off := 98) dX7_readHead_4 (by decide) (by rw [hc] <;> rfl) (by decide) ?_
    refine z_aload_n 0 dX7_readHead_102 rfl rfl ?_
    refine z_iconst (v := 0) dX7_readHead_103 (by decide) ?_
    obtain ⟨r361, t362, hc363, hF⟩ := zbd_at hF
    refine z_callVi (z_hgX7_readMessage hg hc363) yy_X7_readMessage yv_X7_readMessage ob_C_5 lk_RX7_160 (by omega) rfl rfl (Nat.le_of_ble_eq_true rfl) dX7_readHead_104 ?_
    exact z_iret hF dX7_readHead_107
  have hF := zif_f hc hF
  have hn364 := hc; clear hc
  by_cases hc : v349 = 38
  · have hF := zif_t hc hF
    refine z_lookup (tgt := 121) (off := 117) dX7_readHead_4 (by decide) (by rw [hc] <;> rfl) (by decide) ?_
    refine z_aload_n 0 dX7_readHead_121 rfl rfl ?_
    refine z_bipush (v := 9) dX7_readHead_122 (by decide) ?_
    obtain ⟨r365, t366, hc367, hF⟩ := zbd_at hF
    refine z_callVi (z_hgX7_readChoice hg hc367) yy_X7_readChoice yv_X7_readChoice ob_C_5 lk_RX7_163 (by omega) rfl rfl (Nat.le_of_ble_eq_true rfl) dX7_readHead_124 ?_
    exact z_iret hF dX7_readHead_127
  have hF := zif_f hc hF
  have hn368 := hc; clear hc
  by_cases hc : v349 = 43
  · have hF := zif_t hc hF
    refine z_lookup (tgt := 114) (off := 110) dX7_readHead_4 (by decide) (by rw [hc] <;> rfl) (by decide) ?_
    refine z_aload_n 0 dX7_readHead_114 rfl rfl ?_
    refine z_bipush (v := 8) dX7_readHead_115 (by decide) ?_
    obtain ⟨r369, t370, hc371, hF⟩ := zbd_at hF
    refine z_callVi (z_hgX7_readChoice hg hc371) yy_X7_readChoice yv_X7_readChoice ob_C_5 lk_RX7_163 (by omega) rfl rfl (Nat.le_of_ble_eq_true rfl) dX7_readHead_117 ?_
    exact z_iret hF dX7_readHead_120
  have hF := zif_f hc hF
  have hn372 := hc; clear hc
  by_cases hc : v349 = 63
  · have hF := zif_t hc hF
    refine z_lookup (tgt := 108) (off := 104) dX7_readHead_4 (by decide) (by rw [hc] <;> rfl) (by decide) ?_
    refine z_aload_n 0 dX7_readHead_108 rfl rfl ?_
    refine z_iconst (v := 1) dX7_readHead_109 (by decide) ?_
    obtain ⟨r373, t374, hc375, hF⟩ := zbd_at hF
    refine z_callVi (z_hgX7_readMessage hg hc375) yy_X7_readMessage yv_X7_readMessage ob_C_5 lk_RX7_160 (by omega) rfl rfl (Nat.le_of_ble_eq_true rfl) dX7_readHead_110 ?_
    exact z_iret hF dX7_readHead_113
  have hF := zif_f hc hF
  have hn376 := hc; clear hc
  by_cases hc : v349 = 126
  · have hF := zif_t hc hF
    refine z_lookup (tgt := 92) (off := 88) dX7_readHead_4 (by decide) (by rw [hc] <;> rfl) (by decide) ?_
    refine z_aload_n 0 dX7_readHead_92 rfl rfl ?_
    obtain ⟨r377, t378, hc379, hF⟩ := zbd_at hF
    refine z_callVv (ctX7_step (E := E) (f := f - 1) (by omega) hc379) yy_X7_step yv_X7_step ob_C_5 lk_RX7_77 (by omega) rfl rfl (Nat.le_of_ble_eq_true rfl) dX7_readHead_93 ?_
    refine z_aload_n 0 dX7_readHead_96 rfl rfl ?_
    refine z_iconst (v := 3) dX7_readHead_97 (by decide) ?_
    obtain ⟨r380, t381, hc382, hF⟩ := zbd_at hF
    refine z_callVi (ctX7_readNamed (E := E) (f := f - 1) (by omega) hc382) yy_X7_readNamed yv_X7_readNamed ob_C_5 lk_RX7_157 (by omega) rfl rfl (Nat.le_of_ble_eq_true rfl) dX7_readHead_98 ?_
    exact z_iret hF dX7_readHead_101
  have hF := zif_f hc hF
  have hn383 := hc; clear hc
  refine z_lookup (tgt := 128) (off := 124) dX7_readHead_4 (by decide) (by simp only [List.toList_toArray]; rw [lv_osw hn356 (by decide), lv_osw hn360 (by decide), lv_osw hn364 (by decide), lv_osw hn368 (by decide), lv_osw hn372 (by decide), lv_osw hn376 (by decide), lv_osw hn383 (by decide)] <;> rfl) (by decide) ?_
  refine z_aload_n 0 dX7_readHead_128 rfl rfl ?_
  obtain ⟨r384, t385, hc386, hF⟩ := zbd_at hF
  refine z_callVv (ctX7_refuse (E := E) (f := f - 1) (by omega) hc386) yy_X7_refuse yv_X7_refuse ob_C_5 lk_RX7_89 (by omega) rfl rfl (Nat.le_of_ble_eq_true rfl) dX7_readHead_129 ?_
  refine z_iconst (v := (-1)) dX7_readHead_132 (by decide) ?_
  exact z_iret hF dX7_readHead_133
-- SessionHouse$Reader.readMessage(I)I
theorem dX7_readMessage_0 : decode cX7_readMessage 0 = .ok (.aload_n 0, 1) := by decide +kernel
theorem dX7_readMessage_1 : decode cX7_readMessage 1 = .ok (.invokevirtual 77, 3) := by decide +kernel
theorem dX7_readMessage_4 : decode cX7_readMessage 4 = .ok (.aload_n 0, 1) := by decide +kernel
theorem dX7_readMessage_5 : decode cX7_readMessage 5 = .ok (.getfield 80, 3) := by decide +kernel
theorem dX7_readMessage_8 : decode cX7_readMessage 8 = .ok (.bipush 15, 2) := by decide +kernel
theorem dX7_readMessage_10 : decode cX7_readMessage 10 = .ok (.if_icmp .ne 19, 3) := by decide +kernel
theorem dX7_readMessage_13 : decode cX7_readMessage 13 = .ok (.aload_n 0, 1) := by decide +kernel
theorem dX7_readMessage_14 : decode cX7_readMessage 14 = .ok (.invokevirtual 77, 3) := by decide +kernel
theorem dX7_readMessage_17 : decode cX7_readMessage 17 = .ok (.aload_n 0, 1) := by decide +kernel
theorem dX7_readMessage_18 : decode cX7_readMessage 18 = .ok (.getfield 30, 3) := by decide +kernel
theorem dX7_readMessage_21 : decode cX7_readMessage 21 = .ok (.iconst 4, 1) := by decide +kernel
theorem dX7_readMessage_22 : decode cX7_readMessage 22 = .ok (.iload_n 1, 1) := by decide +kernel
theorem dX7_readMessage_23 : decode cX7_readMessage 23 = .ok (.iadd, 1) := by decide +kernel
theorem dX7_readMessage_24 : decode cX7_readMessage 24 = .ok (.iconst (-1), 1) := by decide +kernel
theorem dX7_readMessage_25 : decode cX7_readMessage 25 = .ok (.invokevirtual 154, 3) := by decide +kernel
theorem dX7_readMessage_28 : decode cX7_readMessage 28 = .ok (.ireturn, 1) := by decide +kernel
theorem dX7_readMessage_29 : decode cX7_readMessage 29 = .ok (.aload_n 0, 1) := by decide +kernel
theorem dX7_readMessage_30 : decode cX7_readMessage 30 = .ok (.bipush 40, 2) := by decide +kernel
theorem dX7_readMessage_32 : decode cX7_readMessage 32 = .ok (.invokevirtual 169, 3) := by decide +kernel
theorem dX7_readMessage_35 : decode cX7_readMessage 35 = .ok (.ifCond .ne 5, 3) := by decide +kernel
theorem dX7_readMessage_38 : decode cX7_readMessage 38 = .ok (.iconst (-1), 1) := by decide +kernel
theorem dX7_readMessage_39 : decode cX7_readMessage 39 = .ok (.ireturn, 1) := by decide +kernel
theorem dX7_readMessage_40 : decode cX7_readMessage 40 = .ok (.aload_n 0, 1) := by decide +kernel
theorem dX7_readMessage_41 : decode cX7_readMessage 41 = .ok (.invokevirtual 138, 3) := by decide +kernel
theorem dX7_readMessage_44 : decode cX7_readMessage 44 = .ok (.istore_n 2, 1) := by decide +kernel
theorem dX7_readMessage_45 : decode cX7_readMessage 45 = .ok (.aload_n 0, 1) := by decide +kernel
theorem dX7_readMessage_46 : decode cX7_readMessage 46 = .ok (.bipush 41, 2) := by decide +kernel
theorem dX7_readMessage_48 : decode cX7_readMessage 48 = .ok (.invokevirtual 172, 3) := by decide +kernel
theorem dX7_readMessage_51 : decode cX7_readMessage 51 = .ok (.aload_n 0, 1) := by decide +kernel
theorem dX7_readMessage_52 : decode cX7_readMessage 52 = .ok (.getfield 30, 3) := by decide +kernel
theorem dX7_readMessage_55 : decode cX7_readMessage 55 = .ok (.bipush 6, 2) := by decide +kernel
theorem dX7_readMessage_57 : decode cX7_readMessage 57 = .ok (.iload_n 1, 1) := by decide +kernel
theorem dX7_readMessage_58 : decode cX7_readMessage 58 = .ok (.iadd, 1) := by decide +kernel
theorem dX7_readMessage_59 : decode cX7_readMessage 59 = .ok (.iload_n 2, 1) := by decide +kernel
theorem dX7_readMessage_60 : decode cX7_readMessage 60 = .ok (.invokevirtual 154, 3) := by decide +kernel
theorem dX7_readMessage_63 : decode cX7_readMessage 63 = .ok (.ireturn, 1) := by decide +kernel
def mX7_readMessage (g : GgX7_readForm) (x1 : Int32) (t : zS) : zR := zbd (mX7_step  t) fun r387 t388 => if (t388 5 9) = 15 then zbd (mX7_step  t388) fun r402 t403 => zbd (mX2_node (4 + x1) (-1) t403) fun r405 t406 => some (r405, t406) else zbd (mX7_enter 40 t388) fun r390 t391 => if r390 = 0 then some ((-1), t391) else zbd (g.1  t391) fun r393 t394 => zbd (mX7_leave 41 t394) fun r396 t397 => zbd (mX2_node (6 + x1) r393 t397) fun r399 t400 => some (r399, t400)
set_option maxHeartbeats 4000000 in
set_option maxRecDepth 20000 in
theorem ctX7_readMessage {E : zE} {f : Nat} (hf : 4 ≤ f) {g : GgX7_readForm} (hg : HgX7_readForm E (f - 1) g) {x1 : Int32} {t : zS} {ro : Int32 × zS} (hF : mX7_readMessage g x1 t = some ro) : zM E shC f yX7_readMessage cX7_readMessage 3 (some .int) [.ref (za E 5), .int x1] t ro := by
  refine zM_of (by decide) (Nat.le_of_ble_eq_true rfl) (fun C => ?_)
  show zJ E shC C cX7_readMessage RX7 3 f (some .int) ro t 0 [(0, .ref (za E 5)), (1, .int x1)] []
  unfold mX7_readMessage at hF
  refine z_aload_n 0 dX7_readMessage_0 rfl rfl ?_
  obtain ⟨r387, t388, hc389, hF⟩ := zbd_at hF
  refine z_callVv (ctX7_step (E := E) (f := f - 1) (by omega) hc389) yy_X7_step yv_X7_step ob_C_5 lk_RX7_77 (by omega) rfl rfl (Nat.le_of_ble_eq_true rfl) dX7_readMessage_1 ?_
  refine z_aload_n 0 dX7_readMessage_4 rfl rfl ?_
  refine z_geti fi_RX7_80 dX7_readMessage_5 ?_
  refine z_bipush (v := 15) dX7_readMessage_8 (by decide) ?_
  refine z_icmp_ne (tgt := 29) dX7_readMessage_10 (by decide) (fun hc => ?_) (fun hc => ?_)
  · have hF := zif_f hc hF
    refine z_aload_n 0 dX7_readMessage_29 rfl rfl ?_
    refine z_bipush (v := 40) dX7_readMessage_30 (by decide) ?_
    obtain ⟨r390, t391, hc392, hF⟩ := zbd_at hF
    refine z_callVi (ctX7_enter (E := E) (f := f - 1) (by omega) hc392) yy_X7_enter yv_X7_enter ob_C_5 lk_RX7_169 (by omega) rfl rfl (Nat.le_of_ble_eq_true rfl) dX7_readMessage_32 ?_
    refine z_if_ne (tgt := 40) dX7_readMessage_35 (by decide) (fun hc => ?_) (fun hc => ?_)
    · have hF := zif_f hc hF
      refine z_aload_n 0 dX7_readMessage_40 rfl rfl ?_
      obtain ⟨r393, t394, hc395, hF⟩ := zbd_at hF
      refine z_callVi (z_hgX7_readForm hg hc395) yy_X7_readForm yv_X7_readForm ob_C_5 lk_RX7_138 (by omega) rfl rfl (Nat.le_of_ble_eq_true rfl) dX7_readMessage_41 ?_
      refine z_istore_n (lv' := [(2, .int r393), (0, .ref (za E 5)), (1, .int x1)]) dX7_readMessage_44 rfl (by decide) rfl ?_
      refine z_aload_n 1 dX7_readMessage_45 rfl rfl ?_
      refine z_bipush (v := 41) dX7_readMessage_46 (by decide) ?_
      obtain ⟨r396, t397, hc398, hF⟩ := zbd_at hF
      refine z_callVv (ctX7_leave (E := E) (f := f - 1) (by omega) hc398) yy_X7_leave yv_X7_leave ob_C_5 lk_RX7_172 (by omega) rfl rfl (Nat.le_of_ble_eq_true rfl) dX7_readMessage_48 ?_
      refine z_aload_n 1 dX7_readMessage_51 rfl rfl ?_
      refine z_getr fr_RX7_30 dX7_readMessage_52 ?_
      refine z_bipush (v := 6) dX7_readMessage_55 (by decide) ?_
      refine z_iload_n 2 dX7_readMessage_57 rfl rfl ?_
      refine z_iadd dX7_readMessage_58 ?_
      refine z_iload_n 0 dX7_readMessage_59 rfl rfl ?_
      obtain ⟨r399, t400, hc401, hF⟩ := zbd_at hF
      refine z_callVi (ctX2_node (E := E) (f := f - 1) (by omega) hc401) yy_X2_node yv_X2_node ob_C_3 lk_RX7_154 (by omega) rfl rfl (Nat.le_of_ble_eq_true rfl) dX7_readMessage_60 ?_
      exact z_iret hF dX7_readMessage_63
    · have hF := zif_t hc hF
      refine z_iconst (v := (-1)) dX7_readMessage_38 (by decide) ?_
      exact z_iret hF dX7_readMessage_39
  · have hF := zif_t hc hF
    refine z_aload_n 0 dX7_readMessage_13 rfl rfl ?_
    obtain ⟨r402, t403, hc404, hF⟩ := zbd_at hF
    refine z_callVv (ctX7_step (E := E) (f := f - 1) (by omega) hc404) yy_X7_step yv_X7_step ob_C_5 lk_RX7_77 (by omega) rfl rfl (Nat.le_of_ble_eq_true rfl) dX7_readMessage_14 ?_
    refine z_aload_n 0 dX7_readMessage_17 rfl rfl ?_
    refine z_getr fr_RX7_30 dX7_readMessage_18 ?_
    refine z_iconst (v := 4) dX7_readMessage_21 (by decide) ?_
    refine z_iload_n 1 dX7_readMessage_22 rfl rfl ?_
    refine z_iadd dX7_readMessage_23 ?_
    refine z_iconst (v := (-1)) dX7_readMessage_24 (by decide) ?_
    obtain ⟨r405, t406, hc407, hF⟩ := zbd_at hF
    refine z_callVi (ctX2_node (E := E) (f := f - 1) (by omega) hc407) yy_X2_node yv_X2_node ob_C_3 lk_RX7_154 (by omega) rfl rfl (Nat.le_of_ble_eq_true rfl) dX7_readMessage_25 ?_
    exact z_iret hF dX7_readMessage_28
-- SessionHouse$Reader.readChoice(I)I
theorem dX7_readChoice_0 : decode cX7_readChoice 0 = .ok (.aload_n 0, 1) := by decide +kernel
theorem dX7_readChoice_1 : decode cX7_readChoice 1 = .ok (.invokevirtual 77, 3) := by decide +kernel
theorem dX7_readChoice_4 : decode cX7_readChoice 4 = .ok (.aload_n 0, 1) := by decide +kernel
theorem dX7_readChoice_5 : decode cX7_readChoice 5 = .ok (.bipush 123, 2) := by decide +kernel
theorem dX7_readChoice_7 : decode cX7_readChoice 7 = .ok (.invokevirtual 169, 3) := by decide +kernel
theorem dX7_readChoice_10 : decode cX7_readChoice 10 = .ok (.ifCond .ne 5, 3) := by decide +kernel
theorem dX7_readChoice_13 : decode cX7_readChoice 13 = .ok (.iconst (-1), 1) := by decide +kernel
theorem dX7_readChoice_14 : decode cX7_readChoice 14 = .ok (.ireturn, 1) := by decide +kernel
theorem dX7_readChoice_15 : decode cX7_readChoice 15 = .ok (.aload_n 0, 1) := by decide +kernel
theorem dX7_readChoice_16 : decode cX7_readChoice 16 = .ok (.getfield 30, 3) := by decide +kernel
theorem dX7_readChoice_19 : decode cX7_readChoice 19 = .ok (.iload_n 1, 1) := by decide +kernel
theorem dX7_readChoice_20 : decode cX7_readChoice 20 = .ok (.iconst (-1), 1) := by decide +kernel
theorem dX7_readChoice_21 : decode cX7_readChoice 21 = .ok (.invokevirtual 154, 3) := by decide +kernel
theorem dX7_readChoice_24 : decode cX7_readChoice 24 = .ok (.istore_n 2, 1) := by decide +kernel
theorem dX7_readChoice_25 : decode cX7_readChoice 25 = .ok (.iconst (-1), 1) := by decide +kernel
theorem dX7_readChoice_26 : decode cX7_readChoice 26 = .ok (.istore_n 3, 1) := by decide +kernel
theorem dX7_readChoice_27 : decode cX7_readChoice 27 = .ok (.iconst 0, 1) := by decide +kernel
theorem dX7_readChoice_28 : decode cX7_readChoice 28 = .ok (.istore 4, 2) := by decide +kernel
theorem dX7_readChoice_30 : decode cX7_readChoice 30 = .ok (.iload 4, 2) := by decide +kernel
theorem dX7_readChoice_32 : decode cX7_readChoice 32 = .ok (.sipush 3000, 3) := by decide +kernel
theorem dX7_readChoice_35 : decode cX7_readChoice 35 = .ok (.if_icmp .ge 89, 3) := by decide +kernel
theorem dX7_readChoice_38 : decode cX7_readChoice 38 = .ok (.aload_n 0, 1) := by decide +kernel
theorem dX7_readChoice_39 : decode cX7_readChoice 39 = .ok (.getfield 68, 3) := by decide +kernel
theorem dX7_readChoice_42 : decode cX7_readChoice 42 = .ok (.ifCond .ge 82, 3) := by decide +kernel
theorem dX7_readChoice_45 : decode cX7_readChoice 45 = .ok (.aload_n 0, 1) := by decide +kernel
theorem dX7_readChoice_46 : decode cX7_readChoice 46 = .ok (.getfield 80, 3) := by decide +kernel
theorem dX7_readChoice_49 : decode cX7_readChoice 49 = .ok (.bipush 17, 2) := by decide +kernel
theorem dX7_readChoice_51 : decode cX7_readChoice 51 = .ok (.if_icmp .ne 18, 3) := by decide +kernel
theorem dX7_readChoice_54 : decode cX7_readChoice 54 = .ok (.aload_n 0, 1) := by decide +kernel
theorem dX7_readChoice_55 : decode cX7_readChoice 55 = .ok (.getfield 30, 3) := by decide +kernel
theorem dX7_readChoice_58 : decode cX7_readChoice 58 = .ok (.iload_n 2, 1) := by decide +kernel
theorem dX7_readChoice_59 : decode cX7_readChoice 59 = .ok (.aload_n 0, 1) := by decide +kernel
theorem dX7_readChoice_60 : decode cX7_readChoice 60 = .ok (.getfield 121, 3) := by decide +kernel
theorem dX7_readChoice_63 : decode cX7_readChoice 63 = .ok (.invokevirtual 175, 3) := by decide +kernel
theorem dX7_readChoice_66 : decode cX7_readChoice 66 = .ok (.ifCond .lt 10, 3) := by decide +kernel
theorem dX7_readChoice_69 : decode cX7_readChoice 69 = .ok (.aload_n 0, 1) := by decide +kernel
theorem dX7_readChoice_70 : decode cX7_readChoice 70 = .ok (.invokevirtual 89, 3) := by decide +kernel
theorem dX7_readChoice_73 : decode cX7_readChoice 73 = .ok (.goto 51, 3) := by decide +kernel
theorem dX7_readChoice_76 : decode cX7_readChoice 76 = .ok (.aload_n 0, 1) := by decide +kernel
theorem dX7_readChoice_77 : decode cX7_readChoice 77 = .ok (.getfield 121, 3) := by decide +kernel
theorem dX7_readChoice_80 : decode cX7_readChoice 80 = .ok (.istore 5, 2) := by decide +kernel
theorem dX7_readChoice_82 : decode cX7_readChoice 82 = .ok (.aload_n 0, 1) := by decide +kernel
theorem dX7_readChoice_83 : decode cX7_readChoice 83 = .ok (.invokevirtual 77, 3) := by decide +kernel
theorem dX7_readChoice_86 : decode cX7_readChoice 86 = .ok (.aload_n 0, 1) := by decide +kernel
theorem dX7_readChoice_87 : decode cX7_readChoice 87 = .ok (.getfield 30, 3) := by decide +kernel
theorem dX7_readChoice_90 : decode cX7_readChoice 90 = .ok (.iload_n 2, 1) := by decide +kernel
theorem dX7_readChoice_91 : decode cX7_readChoice 91 = .ok (.iload_n 3, 1) := by decide +kernel
theorem dX7_readChoice_92 : decode cX7_readChoice 92 = .ok (.iload 5, 2) := by decide +kernel
theorem dX7_readChoice_94 : decode cX7_readChoice 94 = .ok (.aload_n 0, 1) := by decide +kernel
theorem dX7_readChoice_95 : decode cX7_readChoice 95 = .ok (.invokevirtual 138, 3) := by decide +kernel
theorem dX7_readChoice_98 : decode cX7_readChoice 98 = .ok (.invokevirtual 178, 3) := by decide +kernel
theorem dX7_readChoice_101 : decode cX7_readChoice 101 = .ok (.istore_n 3, 1) := by decide +kernel
theorem dX7_readChoice_102 : decode cX7_readChoice 102 = .ok (.aload_n 0, 1) := by decide +kernel
theorem dX7_readChoice_103 : decode cX7_readChoice 103 = .ok (.getfield 80, 3) := by decide +kernel
theorem dX7_readChoice_106 : decode cX7_readChoice 106 = .ok (.bipush 59, 2) := by decide +kernel
theorem dX7_readChoice_108 : decode cX7_readChoice 108 = .ok (.if_icmp .eq 6, 3) := by decide +kernel
theorem dX7_readChoice_111 : decode cX7_readChoice 111 = .ok (.goto 13, 3) := by decide +kernel
theorem dX7_readChoice_114 : decode cX7_readChoice 114 = .ok (.aload_n 0, 1) := by decide +kernel
theorem dX7_readChoice_115 : decode cX7_readChoice 115 = .ok (.invokevirtual 77, 3) := by decide +kernel
theorem dX7_readChoice_118 : decode cX7_readChoice 118 = .ok (.iinc 4 1, 3) := by decide +kernel
theorem dX7_readChoice_121 : decode cX7_readChoice 121 = .ok (.goto (-91), 3) := by decide +kernel
theorem dX7_readChoice_124 : decode cX7_readChoice 124 = .ok (.aload_n 0, 1) := by decide +kernel
theorem dX7_readChoice_125 : decode cX7_readChoice 125 = .ok (.bipush 125, 2) := by decide +kernel
theorem dX7_readChoice_127 : decode cX7_readChoice 127 = .ok (.invokevirtual 172, 3) := by decide +kernel
theorem dX7_readChoice_130 : decode cX7_readChoice 130 = .ok (.iload_n 2, 1) := by decide +kernel
theorem dX7_readChoice_131 : decode cX7_readChoice 131 = .ok (.ireturn, 1) := by decide +kernel
def bX7_readChoice_124 (g : GgX7_readForm) (x2 : Int32) (t : zS) : zR := zbd (mX7_leave 125 t) fun r408 t409 => some (x2, t409)
def bX7_readChoice_69 (g : GgX7_readForm) (x2 : Int32) (t : zS) : zR := zbd (mX7_refuse  t) fun r411 t412 => bX7_readChoice_124 g x2 t412
def bX7_readChoice_30 (g : GgX7_readForm) (k30 : Int32 → Int32 → Int32 → zS → zR) (x2 : Int32) (x3 : Int32) (x4 : Int32) (t : zS) : zR := if 3000 ≤ x4 then bX7_readChoice_124 g x2 t else if 0 ≤ (t 5 12) then bX7_readChoice_124 g x2 t else if (t 5 9) = 17 then zbd (mX2_findPart x2 (t 5 11) t) fun r414 t415 => if r414 < 0 then zlet (t415 5 11) fun v417 => zbd (mX7_step  t415) fun r418 t419 => zbd (g.1  t419) fun r421 t422 => zbd (mX2_addPart x2 x3 v417 r421 t422) fun r424 t425 => if (t425 5 9) = 59 then zbd (mX7_step  t425) fun r427 t428 => zlet (x4 + 1) fun v430 => k30 x2 r424 v430 t428 else bX7_readChoice_124 g x2 t425 else bX7_readChoice_69 g x2 t415 else bX7_readChoice_69 g x2 t
def lX7_readChoice_30 (g : GgX7_readForm) : Nat → Int32 → Int32 → Int32 → zS → zR
  | 0, _, _, _, _ => none
  | fu + 1, x2, x3, x4, t => bX7_readChoice_30 g (lX7_readChoice_30 g fu) x2 x3 x4 t
def mX7_readChoice (g : GgX7_readForm) (x1 : Int32) (t : zS) : zR := zbd (mX7_step  t) fun r431 t432 => zbd (mX7_enter 123 t432) fun r434 t435 => if r434 = 0 then some ((-1), t435) else zbd (mX2_node x1 (-1) t435) fun r437 t438 => lX7_readChoice_30 g zFU r437 (-1) 0 t438
set_option maxHeartbeats 4000000 in
set_option maxRecDepth 20000 in
theorem wbX7_readChoice_124 {E : zE} {C : zC} {f : Nat} {ro : Int32 × zS} (hf : 4 ≤ f) {g : GgX7_readForm} (hg : HgX7_readForm E (f - 1) g) (x2 : Int32) (t : zS) (hF : bX7_readChoice_124 g x2 t = some ro) : zJ E shC C cX7_readChoice RX7 6 f (some .int) ro t 124 [(0, .ref (za E 5)), (2, .int x2)] [] := by
  unfold bX7_readChoice_124 at hF
  refine z_aload_n 0 dX7_readChoice_124 rfl rfl ?_
  refine z_bipush (v := 125) dX7_readChoice_125 (by decide) ?_
  obtain ⟨r408, t409, hc410, hF⟩ := zbd_at hF
  refine z_callVv (ctX7_leave (E := E) (f := f - 1) (by omega) hc410) yy_X7_leave yv_X7_leave ob_C_5 lk_RX7_172 (by omega) rfl rfl (Nat.le_of_ble_eq_true rfl) dX7_readChoice_127 ?_
  refine z_iload_n 1 dX7_readChoice_130 rfl rfl ?_
  exact z_iret hF dX7_readChoice_131
set_option maxHeartbeats 4000000 in
set_option maxRecDepth 20000 in
theorem wbX7_readChoice_69 {E : zE} {C : zC} {f : Nat} {ro : Int32 × zS} (hf : 4 ≤ f) {g : GgX7_readForm} (hg : HgX7_readForm E (f - 1) g) (x2 : Int32) (t : zS) (hF : bX7_readChoice_69 g x2 t = some ro) : zJ E shC C cX7_readChoice RX7 6 f (some .int) ro t 69 [(0, .ref (za E 5)), (2, .int x2)] [] := by
  unfold bX7_readChoice_69 at hF
  refine z_aload_n 0 dX7_readChoice_69 rfl rfl ?_
  obtain ⟨r411, t412, hc413, hF⟩ := zbd_at hF
  refine z_callVv (ctX7_refuse (E := E) (f := f - 1) (by omega) hc413) yy_X7_refuse yv_X7_refuse ob_C_5 lk_RX7_89 (by omega) rfl rfl (Nat.le_of_ble_eq_true rfl) dX7_readChoice_70 ?_
  refine z_goto (tgt := 124) dX7_readChoice_73 (by decide) ?_
  exact wbX7_readChoice_124 hf hg x2 _ hF
set_option maxHeartbeats 4000000 in
set_option maxRecDepth 20000 in
theorem wbX7_readChoice_30 {E : zE} {C : zC} {f : Nat} {ro : Int32 × zS} (hf : 4 ≤ f) {g : GgX7_readForm} (hg : HgX7_readForm E (f - 1) g) (k30 : Int32 → Int32 → Int32 → zS → zR) (hk30 : ∀ (x2 x3 x4 : Int32) (t : zS), k30 x2 x3 x4 t = some ro → zJ E shC C cX7_readChoice RX7 6 f (some .int) ro t 30 [(0, .ref (za E 5)), (2, .int x2), (3, .int x3), (4, .int x4)] []) (x2 : Int32) (x3 : Int32) (x4 : Int32) (t : zS) (hF : bX7_readChoice_30 g k30 x2 x3 x4 t = some ro) : zJ E shC C cX7_readChoice RX7 6 f (some .int) ro t 30 [(0, .ref (za E 5)), (2, .int x2), (3, .int x3), (4, .int x4)] [] := by
  unfold bX7_readChoice_30 at hF
  refine z_iload 3 dX7_readChoice_30 rfl ?_
  refine z_sipush (v := 3000) dX7_readChoice_32 (by decide) ?_
  refine z_icmp_ge (tgt := 124) dX7_readChoice_35 (by decide) (fun hc => ?_) (fun hc => ?_)
  · have hF := zif_t hc hF
    refine z_sub [0, 1] rfl ?_
    exact wbX7_readChoice_124 hf hg x2 _ hF
  · have hF := zif_f hc hF
    refine z_aload_n 0 dX7_readChoice_38 rfl rfl ?_
    refine z_geti fi_RX7_68 dX7_readChoice_39 ?_
    refine z_if_ge (tgt := 124) dX7_readChoice_42 (by decide) (fun hc => ?_) (fun hc => ?_)
    · have hF := zif_t hc hF
      refine z_sub [0, 1] rfl ?_
      exact wbX7_readChoice_124 hf hg x2 _ hF
    · have hF := zif_f hc hF
      refine z_aload_n 0 dX7_readChoice_45 rfl rfl ?_
      refine z_geti fi_RX7_80 dX7_readChoice_46 ?_
      refine z_bipush (v := 17) dX7_readChoice_49 (by decide) ?_
      refine z_icmp_ne (tgt := 69) dX7_readChoice_51 (by decide) (fun hc => ?_) (fun hc => ?_)
      · have hF := zif_f hc hF
        refine z_sub [0, 1] rfl ?_
        exact wbX7_readChoice_69 hf hg x2 _ hF
      · have hF := zif_t hc hF
        refine z_aload_n 0 dX7_readChoice_54 rfl rfl ?_
        refine z_getr fr_RX7_30 dX7_readChoice_55 ?_
        refine z_iload_n 1 dX7_readChoice_58 rfl rfl ?_
        refine z_aload_n 0 dX7_readChoice_59 rfl rfl ?_
        refine z_geti fi_RX7_121 dX7_readChoice_60 ?_
        obtain ⟨r414, t415, hc416, hF⟩ := zbd_at hF
        refine z_callVi (ctX2_findPart (E := E) (f := f - 1) (by omega) hc416) yy_X2_findPart yv_X2_findPart ob_C_3 lk_RX7_175 (by omega) rfl rfl (Nat.le_of_ble_eq_true rfl) dX7_readChoice_63 ?_
        refine z_if_lt (tgt := 76) dX7_readChoice_66 (by decide) (fun hc => ?_) (fun hc => ?_)
        · have hF := zif_t hc hF
          refine z_aload_n 0 dX7_readChoice_76 rfl rfl ?_
          refine z_geti fi_RX7_121 dX7_readChoice_77 ?_
          refine z_topi (fun v417 ev417 => ?_)
          have hF := zlet_at ev417 hF
          refine z_istore (lv' := [(5, .int v417), (0, .ref (za E 5)), (2, .int x2), (3, .int x3), (4, .int x4)]) dX7_readChoice_80 (by decide) rfl ?_
          refine z_aload_n 1 dX7_readChoice_82 rfl rfl ?_
          obtain ⟨r418, t419, hc420, hF⟩ := zbd_at hF
          refine z_callVv (ctX7_step (E := E) (f := f - 1) (by omega) hc420) yy_X7_step yv_X7_step ob_C_5 lk_RX7_77 (by omega) rfl rfl (Nat.le_of_ble_eq_true rfl) dX7_readChoice_83 ?_
          refine z_aload_n 1 dX7_readChoice_86 rfl rfl ?_
          refine z_getr fr_RX7_30 dX7_readChoice_87 ?_
          refine z_iload_n 2 dX7_readChoice_90 rfl rfl ?_
          refine z_iload_n 3 dX7_readChoice_91 rfl rfl ?_
          refine z_iload 0 dX7_readChoice_92 rfl ?_
          refine z_aload_n 1 dX7_readChoice_94 rfl rfl ?_
          obtain ⟨r421, t422, hc423, hF⟩ := zbd_at hF
          refine z_callVi (z_hgX7_readForm hg hc423) yy_X7_readForm yv_X7_readForm ob_C_5 lk_RX7_138 (by omega) rfl rfl (Nat.le_of_ble_eq_true rfl) dX7_readChoice_95 ?_
          obtain ⟨r424, t425, hc426, hF⟩ := zbd_at hF
          refine z_callVi (ctX2_addPart (E := E) (f := f - 1) (by omega) hc426) yy_X2_addPart yv_X2_addPart ob_C_3 lk_RX7_178 (by omega) rfl rfl (Nat.le_of_ble_eq_true rfl) dX7_readChoice_98 ?_
          refine z_istore_n (lv' := [(3, .int r424), (5, .int v417), (0, .ref (za E 5)), (2, .int x2), (4, .int x4)]) dX7_readChoice_101 rfl (by decide) rfl ?_
          refine z_aload_n 2 dX7_readChoice_102 rfl rfl ?_
          refine z_geti fi_RX7_80 dX7_readChoice_103 ?_
          refine z_bipush (v := 59) dX7_readChoice_106 (by decide) ?_
          refine z_icmp_eq (tgt := 114) dX7_readChoice_108 (by decide) (fun hc => ?_) (fun hc => ?_)
          · have hF := zif_t hc hF
            refine z_aload_n 2 dX7_readChoice_114 rfl rfl ?_
            obtain ⟨r427, t428, hc429, hF⟩ := zbd_at hF
            refine z_callVv (ctX7_step (E := E) (f := f - 1) (by omega) hc429) yy_X7_step yv_X7_step ob_C_5 lk_RX7_77 (by omega) rfl rfl (Nat.le_of_ble_eq_true rfl) dX7_readChoice_115 ?_
            obtain ⟨v430, ev430⟩ : ∃ y : Int32, y = (x4 + 1) := ⟨_, rfl⟩
            have hF := zlet_at ev430 hF
            refine z_iinc (v := v430) (lv' := [(4, .int v430), (3, .int r424), (5, .int v417), (0, .ref (za E 5)), (2, .int x2)]) (k := 4) dX7_readChoice_118 rfl (by rw [ev430]; rfl) (by decide) rfl ?_
            refine z_goto (tgt := 30) dX7_readChoice_121 (by decide) ?_
            refine z_sub [3, 4, 1, 0] rfl ?_
            exact hk30 x2 r424 v430 _ hF
          · have hF := zif_f hc hF
            refine z_goto (tgt := 124) dX7_readChoice_111 (by decide) ?_
            refine z_sub [2, 3] rfl ?_
            exact wbX7_readChoice_124 hf hg x2 _ hF
        · have hF := zif_f hc hF
          refine z_sub [0, 1] rfl ?_
          exact wbX7_readChoice_69 hf hg x2 _ hF
set_option maxHeartbeats 4000000 in
set_option maxRecDepth 20000 in
theorem wlX7_readChoice_30 {E : zE} {C : zC} {f : Nat} {ro : Int32 × zS} (hf : 4 ≤ f) {g : GgX7_readForm} (hg : HgX7_readForm E (f - 1) g) (fu : Nat) : ∀ (x2 x3 x4 : Int32) (t : zS), lX7_readChoice_30 g fu x2 x3 x4 t = some ro → zJ E shC C cX7_readChoice RX7 6 f (some .int) ro t 30 [(0, .ref (za E 5)), (2, .int x2), (3, .int x3), (4, .int x4)] [] := by
  induction fu with
  | zero => intro x2 x3 x4 t hF; cases hF
  | succ fu ih => intro x2 x3 x4 t hF; exact wbX7_readChoice_30 hf hg (lX7_readChoice_30 g fu) ih x2 x3 x4 t hF
set_option maxHeartbeats 4000000 in
set_option maxRecDepth 20000 in
theorem ctX7_readChoice {E : zE} {f : Nat} (hf : 4 ≤ f) {g : GgX7_readForm} (hg : HgX7_readForm E (f - 1) g) {x1 : Int32} {t : zS} {ro : Int32 × zS} (hF : mX7_readChoice g x1 t = some ro) : zM E shC f yX7_readChoice cX7_readChoice 6 (some .int) [.ref (za E 5), .int x1] t ro := by
  refine zM_of (by decide) (Nat.le_of_ble_eq_true rfl) (fun C => ?_)
  show zJ E shC C cX7_readChoice RX7 6 f (some .int) ro t 0 [(0, .ref (za E 5)), (1, .int x1)] []
  unfold mX7_readChoice at hF
  refine z_aload_n 0 dX7_readChoice_0 rfl rfl ?_
  obtain ⟨r431, t432, hc433, hF⟩ := zbd_at hF
  refine z_callVv (ctX7_step (E := E) (f := f - 1) (by omega) hc433) yy_X7_step yv_X7_step ob_C_5 lk_RX7_77 (by omega) rfl rfl (Nat.le_of_ble_eq_true rfl) dX7_readChoice_1 ?_
  refine z_aload_n 0 dX7_readChoice_4 rfl rfl ?_
  refine z_bipush (v := 123) dX7_readChoice_5 (by decide) ?_
  obtain ⟨r434, t435, hc436, hF⟩ := zbd_at hF
  refine z_callVi (ctX7_enter (E := E) (f := f - 1) (by omega) hc436) yy_X7_enter yv_X7_enter ob_C_5 lk_RX7_169 (by omega) rfl rfl (Nat.le_of_ble_eq_true rfl) dX7_readChoice_7 ?_
  refine z_if_ne (tgt := 15) dX7_readChoice_10 (by decide) (fun hc => ?_) (fun hc => ?_)
  · have hF := zif_f hc hF
    refine z_aload_n 0 dX7_readChoice_15 rfl rfl ?_
    refine z_getr fr_RX7_30 dX7_readChoice_16 ?_
    refine z_iload_n 1 dX7_readChoice_19 rfl rfl ?_
    refine z_iconst (v := (-1)) dX7_readChoice_20 (by decide) ?_
    obtain ⟨r437, t438, hc439, hF⟩ := zbd_at hF
    refine z_callVi (ctX2_node (E := E) (f := f - 1) (by omega) hc439) yy_X2_node yv_X2_node ob_C_3 lk_RX7_154 (by omega) rfl rfl (Nat.le_of_ble_eq_true rfl) dX7_readChoice_21 ?_
    refine z_istore_n (lv' := [(2, .int r437), (0, .ref (za E 5)), (1, .int x1)]) dX7_readChoice_24 rfl (by decide) rfl ?_
    refine z_iconst (v := (-1)) dX7_readChoice_25 (by decide) ?_
    refine z_istore_n (lv' := [(3, .int (-1)), (2, .int r437), (0, .ref (za E 5)), (1, .int x1)]) dX7_readChoice_26 rfl (by decide) rfl ?_
    refine z_iconst (v := 0) dX7_readChoice_27 (by decide) ?_
    refine z_istore (lv' := [(4, .int 0), (3, .int (-1)), (2, .int r437), (0, .ref (za E 5)), (1, .int x1)]) dX7_readChoice_28 (by decide) rfl ?_
    refine z_sub [3, 2, 1, 0] rfl ?_
    exact wlX7_readChoice_30 hf hg zFU r437 (-1) 0 _ hF
  · have hF := zif_t hc hF
    refine z_iconst (v := (-1)) dX7_readChoice_13 (by decide) ?_
    exact z_iret hF dX7_readChoice_14
def grgX7_readForm : Nat → GgX7_readForm
  | 0 => (fun _ => none, fun _ => none, fun _ _ => none, fun _ _ => none)
  | d + 1 => (mX7_readForm (grgX7_readForm d), mX7_readHead (grgX7_readForm d), mX7_readMessage (grgX7_readForm d), mX7_readChoice (grgX7_readForm d))
theorem hrgX7_readForm {E : zE} : ∀ (d f : Nat), 4 + d ≤ f → HgX7_readForm E f (grgX7_readForm d) := by
  intro d
  induction d with
  | zero => intro f hf; exact ⟨fun _ _ h => (by cases h), fun _ _ h => (by cases h), fun _ _ _ h => (by cases h), fun _ _ _ h => (by cases h)⟩
  | succ d ih => intro f hf; exact ⟨fun _ _ h => ctX7_readForm (by omega) (ih (f - 1) (by omega)) h, fun _ _ h => ctX7_readHead (by omega) (ih (f - 1) (by omega)) h, fun _ _ _ h => ctX7_readMessage (by omega) (ih (f - 1) (by omega)) h, fun _ _ _ h => ctX7_readChoice (by omega) (ih (f - 1) (by omega)) h⟩
def mX7_readFormr (t : zS) : zR := (grgX7_readForm 300).1  t
theorem ctX7_readFormr {E : zE} {f : Nat} (hf : 304 ≤ f) {t : zS} {ro : Int32 × zS} (h : mX7_readFormr  t = some ro) : zM E shC f yX7_readForm cX7_readForm 5 (some .int) [.ref (za E 5)] t ro := z_hgX7_readForm (hrgX7_readForm 300 f (by omega)) h
def mX7_readHeadr (t : zS) : zR := (grgX7_readForm 300).2.1  t
theorem ctX7_readHeadr {E : zE} {f : Nat} (hf : 304 ≤ f) {t : zS} {ro : Int32 × zS} (h : mX7_readHeadr  t = some ro) : zM E shC f yX7_readHead cX7_readHead 1 (some .int) [.ref (za E 5)] t ro := z_hgX7_readHead (hrgX7_readForm 300 f (by omega)) h
def mX7_readMessager (x1 : Int32) (t : zS) : zR := (grgX7_readForm 300).2.2.1 x1 t
theorem ctX7_readMessager {E : zE} {f : Nat} (hf : 304 ≤ f) {x1 : Int32} {t : zS} {ro : Int32 × zS} (h : mX7_readMessager x1 t = some ro) : zM E shC f yX7_readMessage cX7_readMessage 3 (some .int) [.ref (za E 5), .int x1] t ro := z_hgX7_readMessage (hrgX7_readForm 300 f (by omega)) h
def mX7_readChoicer (x1 : Int32) (t : zS) : zR := (grgX7_readForm 300).2.2.2 x1 t
theorem ctX7_readChoicer {E : zE} {f : Nat} (hf : 304 ≤ f) {x1 : Int32} {t : zS} {ro : Int32 × zS} (h : mX7_readChoicer x1 t = some ro) : zM E shC f yX7_readChoice cX7_readChoice 6 (some .int) [.ref (za E 5), .int x1] t ro := z_hgX7_readChoice (hrgX7_readForm 300 f (by omega)) h
-- SessionHouse$Forms.lay(II)V
theorem dX2_lay_0 : decode cX2_lay 0 = .ok (.aload_n 0, 1) := by decide +kernel
theorem dX2_lay_1 : decode cX2_lay 1 = .ok (.getfield 35, 3) := by decide +kernel
theorem dX2_lay_4 : decode cX2_lay 4 = .ok (.iload_n 1, 1) := by decide +kernel
theorem dX2_lay_5 : decode cX2_lay 5 = .ok (.iload_n 2, 1) := by decide +kernel
theorem dX2_lay_6 : decode cX2_lay 6 = .ok (.invokevirtual 70, 3) := by decide +kernel
theorem dX2_lay_9 : decode cX2_lay 9 = .ok (.return_, 1) := by decide +kernel
def mX2_lay (x1 : Int32) (x2 : Int32) (t : zS) : zR := zbd (mX5_set 20 400 x1 x2 t) fun r440 t441 => some (0, t441)
set_option maxHeartbeats 4000000 in
set_option maxRecDepth 20000 in
theorem ctX2_lay {E : zE} {f : Nat} (hf : 2 ≤ f) {x1 : Int32} {x2 : Int32} {t : zS} {ro : Int32 × zS} (hF : mX2_lay  x1 x2 t = some ro) : zM E shC f yX2_lay cX2_lay 3 none [.ref (za E 3), .int x1, .int x2] t ro := by
  refine zM_of (by decide) (Nat.le_of_ble_eq_true rfl) (fun C => ?_)
  show zJ E shC C cX2_lay RX2 3 f none ro t 0 [(0, .ref (za E 3)), (1, .int x1), (2, .int x2)] []
  unfold mX2_lay at hF
  refine z_aload_n 0 dX2_lay_0 rfl rfl ?_
  refine z_getr fr_RX2_35 dX2_lay_1 ?_
  refine z_iload_n 1 dX2_lay_4 rfl rfl ?_
  refine z_iload_n 2 dX2_lay_5 rfl rfl ?_
  obtain ⟨r440, t441, hc442, hF⟩ := zbd_at hF
  refine z_callVv (ctX5_set (E := E) (sh := shC) (f := f - 1) (by omega) (k := 20) (n := 400) rfl rfl hc442) yy_X5_set yv_X5_set ob_C_20 lk_RX2_70 (by omega) rfl rfl (Nat.le_of_ble_eq_true rfl) dX2_lay_6 ?_
  exact z_vret hF dX2_lay_9
-- SessionHouse$Reader.readDefinition()V
theorem dX7_readDefinition_0 : decode cX7_readDefinition 0 = .ok (.aload_n 0, 1) := by decide +kernel
theorem dX7_readDefinition_1 : decode cX7_readDefinition 1 = .ok (.invokevirtual 77, 3) := by decide +kernel
theorem dX7_readDefinition_4 : decode cX7_readDefinition 4 = .ok (.aload_n 0, 1) := by decide +kernel
theorem dX7_readDefinition_5 : decode cX7_readDefinition 5 = .ok (.getfield 80, 3) := by decide +kernel
theorem dX7_readDefinition_8 : decode cX7_readDefinition 8 = .ok (.bipush 17, 2) := by decide +kernel
theorem dX7_readDefinition_10 : decode cX7_readDefinition 10 = .ok (.if_icmp .ne 17, 3) := by decide +kernel
theorem dX7_readDefinition_13 : decode cX7_readDefinition 13 = .ok (.aload_n 0, 1) := by decide +kernel
theorem dX7_readDefinition_14 : decode cX7_readDefinition 14 = .ok (.getfield 30, 3) := by decide +kernel
theorem dX7_readDefinition_17 : decode cX7_readDefinition 17 = .ok (.aload_n 0, 1) := by decide +kernel
theorem dX7_readDefinition_18 : decode cX7_readDefinition 18 = .ok (.getfield 121, 3) := by decide +kernel
theorem dX7_readDefinition_21 : decode cX7_readDefinition 21 = .ok (.invokevirtual 106, 3) := by decide +kernel
theorem dX7_readDefinition_24 : decode cX7_readDefinition 24 = .ok (.ifCond .lt 8, 3) := by decide +kernel
theorem dX7_readDefinition_27 : decode cX7_readDefinition 27 = .ok (.aload_n 0, 1) := by decide +kernel
theorem dX7_readDefinition_28 : decode cX7_readDefinition 28 = .ok (.invokevirtual 89, 3) := by decide +kernel
theorem dX7_readDefinition_31 : decode cX7_readDefinition 31 = .ok (.return_, 1) := by decide +kernel
theorem dX7_readDefinition_32 : decode cX7_readDefinition 32 = .ok (.aload_n 0, 1) := by decide +kernel
theorem dX7_readDefinition_33 : decode cX7_readDefinition 33 = .ok (.getfield 30, 3) := by decide +kernel
theorem dX7_readDefinition_36 : decode cX7_readDefinition 36 = .ok (.aload_n 0, 1) := by decide +kernel
theorem dX7_readDefinition_37 : decode cX7_readDefinition 37 = .ok (.getfield 121, 3) := by decide +kernel
theorem dX7_readDefinition_40 : decode cX7_readDefinition 40 = .ok (.aload_n 0, 1) := by decide +kernel
theorem dX7_readDefinition_41 : decode cX7_readDefinition 41 = .ok (.getfield 118, 3) := by decide +kernel
theorem dX7_readDefinition_44 : decode cX7_readDefinition 44 = .ok (.invokevirtual 131, 3) := by decide +kernel
theorem dX7_readDefinition_47 : decode cX7_readDefinition 47 = .ok (.istore_n 1, 1) := by decide +kernel
theorem dX7_readDefinition_48 : decode cX7_readDefinition 48 = .ok (.aload_n 0, 1) := by decide +kernel
theorem dX7_readDefinition_49 : decode cX7_readDefinition 49 = .ok (.invokevirtual 77, 3) := by decide +kernel
theorem dX7_readDefinition_52 : decode cX7_readDefinition 52 = .ok (.aload_n 0, 1) := by decide +kernel
theorem dX7_readDefinition_53 : decode cX7_readDefinition 53 = .ok (.bipush 61, 2) := by decide +kernel
theorem dX7_readDefinition_55 : decode cX7_readDefinition 55 = .ok (.invokevirtual 135, 3) := by decide +kernel
theorem dX7_readDefinition_58 : decode cX7_readDefinition 58 = .ok (.aload_n 0, 1) := by decide +kernel
theorem dX7_readDefinition_59 : decode cX7_readDefinition 59 = .ok (.getfield 30, 3) := by decide +kernel
theorem dX7_readDefinition_62 : decode cX7_readDefinition 62 = .ok (.iload_n 1, 1) := by decide +kernel
theorem dX7_readDefinition_63 : decode cX7_readDefinition 63 = .ok (.aload_n 0, 1) := by decide +kernel
theorem dX7_readDefinition_64 : decode cX7_readDefinition 64 = .ok (.invokevirtual 138, 3) := by decide +kernel
theorem dX7_readDefinition_67 : decode cX7_readDefinition 67 = .ok (.invokevirtual 141, 3) := by decide +kernel
theorem dX7_readDefinition_70 : decode cX7_readDefinition 70 = .ok (.aload_n 0, 1) := by decide +kernel
theorem dX7_readDefinition_71 : decode cX7_readDefinition 71 = .ok (.bipush 59, 2) := by decide +kernel
theorem dX7_readDefinition_73 : decode cX7_readDefinition 73 = .ok (.invokevirtual 135, 3) := by decide +kernel
theorem dX7_readDefinition_76 : decode cX7_readDefinition 76 = .ok (.return_, 1) := by decide +kernel
def bX7_readDefinition_27 (t : zS) : zR := zbd (mX7_refuse  t) fun r443 t444 => some (0, t444)
def mX7_readDefinition (t : zS) : zR := zbd (mX7_step  t) fun r446 t447 => if (t447 5 9) = 17 then zbd (mX2_find (t447 5 11) t447) fun r449 t450 => if r449 < 0 then zbd (mX2_define (t450 5 11) (t450 5 10) t450) fun r452 t453 => zbd (mX7_step  t453) fun r455 t456 => zbd (mX7_expect 61 t456) fun r458 t459 => zbd (mX7_readFormr  t459) fun r461 t462 => zbd (mX2_lay r452 r461 t462) fun r464 t465 => zbd (mX7_expect 59 t465) fun r467 t468 => some (0, t468) else bX7_readDefinition_27   t450 else bX7_readDefinition_27   t447
set_option maxHeartbeats 4000000 in
set_option maxRecDepth 20000 in
theorem wbX7_readDefinition_27 {E : zE} {C : zC} {f : Nat} {ro : Int32 × zS} (hf : 305 ≤ f) (t : zS) (hF : bX7_readDefinition_27   t = some ro) : zJ E shC C cX7_readDefinition RX7 2 f none ro t 27 [(0, .ref (za E 5))] [] := by
  unfold bX7_readDefinition_27 at hF
  refine z_aload_n 0 dX7_readDefinition_27 rfl rfl ?_
  obtain ⟨r443, t444, hc445, hF⟩ := zbd_at hF
  refine z_callVv (ctX7_refuse (E := E) (f := f - 1) (by omega) hc445) yy_X7_refuse yv_X7_refuse ob_C_5 lk_RX7_89 (by omega) rfl rfl (Nat.le_of_ble_eq_true rfl) dX7_readDefinition_28 ?_
  exact z_vret hF dX7_readDefinition_31
set_option maxHeartbeats 4000000 in
set_option maxRecDepth 20000 in
theorem ctX7_readDefinition {E : zE} {f : Nat} (hf : 305 ≤ f) {t : zS} {ro : Int32 × zS} (hF : mX7_readDefinition   t = some ro) : zM E shC f yX7_readDefinition cX7_readDefinition 2 none [.ref (za E 5)] t ro := by
  refine zM_of (by decide) (Nat.le_of_ble_eq_true rfl) (fun C => ?_)
  show zJ E shC C cX7_readDefinition RX7 2 f none ro t 0 [(0, .ref (za E 5))] []
  unfold mX7_readDefinition at hF
  refine z_aload_n 0 dX7_readDefinition_0 rfl rfl ?_
  obtain ⟨r446, t447, hc448, hF⟩ := zbd_at hF
  refine z_callVv (ctX7_step (E := E) (f := f - 1) (by omega) hc448) yy_X7_step yv_X7_step ob_C_5 lk_RX7_77 (by omega) rfl rfl (Nat.le_of_ble_eq_true rfl) dX7_readDefinition_1 ?_
  refine z_aload_n 0 dX7_readDefinition_4 rfl rfl ?_
  refine z_geti fi_RX7_80 dX7_readDefinition_5 ?_
  refine z_bipush (v := 17) dX7_readDefinition_8 (by decide) ?_
  refine z_icmp_ne (tgt := 27) dX7_readDefinition_10 (by decide) (fun hc => ?_) (fun hc => ?_)
  · have hF := zif_f hc hF
    exact wbX7_readDefinition_27 hf   _ hF
  · have hF := zif_t hc hF
    refine z_aload_n 0 dX7_readDefinition_13 rfl rfl ?_
    refine z_getr fr_RX7_30 dX7_readDefinition_14 ?_
    refine z_aload_n 0 dX7_readDefinition_17 rfl rfl ?_
    refine z_geti fi_RX7_121 dX7_readDefinition_18 ?_
    obtain ⟨r449, t450, hc451, hF⟩ := zbd_at hF
    refine z_callVi (ctX2_find (E := E) (f := f - 1) (by omega) hc451) yy_X2_find yv_X2_find ob_C_3 lk_RX7_106 (by omega) rfl rfl (Nat.le_of_ble_eq_true rfl) dX7_readDefinition_21 ?_
    refine z_if_lt (tgt := 32) dX7_readDefinition_24 (by decide) (fun hc => ?_) (fun hc => ?_)
    · have hF := zif_t hc hF
      refine z_aload_n 0 dX7_readDefinition_32 rfl rfl ?_
      refine z_getr fr_RX7_30 dX7_readDefinition_33 ?_
      refine z_aload_n 0 dX7_readDefinition_36 rfl rfl ?_
      refine z_geti fi_RX7_121 dX7_readDefinition_37 ?_
      refine z_aload_n 0 dX7_readDefinition_40 rfl rfl ?_
      refine z_geti fi_RX7_118 dX7_readDefinition_41 ?_
      obtain ⟨r452, t453, hc454, hF⟩ := zbd_at hF
      refine z_callVi (ctX2_define (E := E) (f := f - 1) (by omega) hc454) yy_X2_define yv_X2_define ob_C_3 lk_RX7_131 (by omega) rfl rfl (Nat.le_of_ble_eq_true rfl) dX7_readDefinition_44 ?_
      refine z_istore_n (lv' := [(1, .int r452), (0, .ref (za E 5))]) dX7_readDefinition_47 rfl (by decide) rfl ?_
      refine z_aload_n 1 dX7_readDefinition_48 rfl rfl ?_
      obtain ⟨r455, t456, hc457, hF⟩ := zbd_at hF
      refine z_callVv (ctX7_step (E := E) (f := f - 1) (by omega) hc457) yy_X7_step yv_X7_step ob_C_5 lk_RX7_77 (by omega) rfl rfl (Nat.le_of_ble_eq_true rfl) dX7_readDefinition_49 ?_
      refine z_aload_n 1 dX7_readDefinition_52 rfl rfl ?_
      refine z_bipush (v := 61) dX7_readDefinition_53 (by decide) ?_
      obtain ⟨r458, t459, hc460, hF⟩ := zbd_at hF
      refine z_callVv (ctX7_expect (E := E) (f := f - 1) (by omega) hc460) yy_X7_expect yv_X7_expect ob_C_5 lk_RX7_135 (by omega) rfl rfl (Nat.le_of_ble_eq_true rfl) dX7_readDefinition_55 ?_
      refine z_aload_n 1 dX7_readDefinition_58 rfl rfl ?_
      refine z_getr fr_RX7_30 dX7_readDefinition_59 ?_
      refine z_iload_n 0 dX7_readDefinition_62 rfl rfl ?_
      refine z_aload_n 1 dX7_readDefinition_63 rfl rfl ?_
      obtain ⟨r461, t462, hc463, hF⟩ := zbd_at hF
      refine z_callVi (ctX7_readFormr (E := E) (f := f - 1) (by omega) hc463) yy_X7_readForm yv_X7_readForm ob_C_5 lk_RX7_138 (by omega) rfl rfl (Nat.le_of_ble_eq_true rfl) dX7_readDefinition_64 ?_
      obtain ⟨r464, t465, hc466, hF⟩ := zbd_at hF
      refine z_callVv (ctX2_lay (E := E) (f := f - 1) (by omega) hc466) yy_X2_lay yv_X2_lay ob_C_3 lk_RX7_141 (by omega) rfl rfl (Nat.le_of_ble_eq_true rfl) dX7_readDefinition_67 ?_
      refine z_aload_n 1 dX7_readDefinition_70 rfl rfl ?_
      refine z_bipush (v := 59) dX7_readDefinition_71 (by decide) ?_
      obtain ⟨r467, t468, hc469, hF⟩ := zbd_at hF
      refine z_callVv (ctX7_expect (E := E) (f := f - 1) (by omega) hc469) yy_X7_expect yv_X7_expect ob_C_5 lk_RX7_135 (by omega) rfl rfl (Nat.le_of_ble_eq_true rfl) dX7_readDefinition_73 ?_
      exact z_vret hF dX7_readDefinition_76
    · have hF := zif_f hc hF
      exact wbX7_readDefinition_27 hf   _ hF
-- SessionHouse$Procs.find(I)I
theorem dX6_find_0 : decode cX6_find 0 = .ok (.aload_n 0, 1) := by decide +kernel
theorem dX6_find_1 : decode cX6_find 1 = .ok (.getfield 14, 3) := by decide +kernel
theorem dX6_find_4 : decode cX6_find 4 = .ok (.iload_n 1, 1) := by decide +kernel
theorem dX6_find_5 : decode cX6_find 5 = .ok (.invokevirtual 55, 3) := by decide +kernel
theorem dX6_find_8 : decode cX6_find 8 = .ok (.ireturn, 1) := by decide +kernel
def mX6_find (x1 : Int32) (t : zS) : zR := zbd (mX5_get 32 1600 x1 t) fun r470 t471 => some (r470, t471)
set_option maxHeartbeats 4000000 in
set_option maxRecDepth 20000 in
theorem ctX6_find {E : zE} {f : Nat} (hf : 2 ≤ f) {x1 : Int32} {t : zS} {ro : Int32 × zS} (hF : mX6_find  x1 t = some ro) : zM E shC f yX6_find cX6_find 2 (some .int) [.ref (za E 4), .int x1] t ro := by
  refine zM_of (by decide) (Nat.le_of_ble_eq_true rfl) (fun C => ?_)
  show zJ E shC C cX6_find RX6 2 f (some .int) ro t 0 [(0, .ref (za E 4)), (1, .int x1)] []
  unfold mX6_find at hF
  refine z_aload_n 0 dX6_find_0 rfl rfl ?_
  refine z_getr fr_RX6_14 dX6_find_1 ?_
  refine z_iload_n 1 dX6_find_4 rfl rfl ?_
  obtain ⟨r470, t471, hc472, hF⟩ := zbd_at hF
  refine z_callVi (ctX5_get (E := E) (sh := shC) (f := f - 1) (by omega) (k := 32) (n := 1600) rfl rfl hc472) yy_X5_get yv_X5_get ob_C_32 lk_RX6_55 (by omega) rfl rfl (Nat.le_of_ble_eq_true rfl) dX6_find_5 ?_
  exact z_iret hF dX6_find_8
-- SessionHouse$Procs.begin(I)V
theorem dX6_begin_0 : decode cX6_begin 0 = .ok (.aload_n 0, 1) := by decide +kernel
theorem dX6_begin_1 : decode cX6_begin 1 = .ok (.getfield 14, 3) := by decide +kernel
theorem dX6_begin_4 : decode cX6_begin 4 = .ok (.iload_n 1, 1) := by decide +kernel
theorem dX6_begin_5 : decode cX6_begin 5 = .ok (.aload_n 0, 1) := by decide +kernel
theorem dX6_begin_6 : decode cX6_begin 6 = .ok (.getfield 44, 3) := by decide +kernel
theorem dX6_begin_9 : decode cX6_begin 9 = .ok (.invokevirtual 59, 3) := by decide +kernel
theorem dX6_begin_12 : decode cX6_begin 12 = .ok (.aload_n 0, 1) := by decide +kernel
theorem dX6_begin_13 : decode cX6_begin 13 = .ok (.getfield 20, 3) := by decide +kernel
theorem dX6_begin_16 : decode cX6_begin 16 = .ok (.aload_n 0, 1) := by decide +kernel
theorem dX6_begin_17 : decode cX6_begin 17 = .ok (.getfield 44, 3) := by decide +kernel
theorem dX6_begin_20 : decode cX6_begin 20 = .ok (.aload_n 0, 1) := by decide +kernel
theorem dX6_begin_21 : decode cX6_begin 21 = .ok (.getfield 48, 3) := by decide +kernel
theorem dX6_begin_24 : decode cX6_begin 24 = .ok (.invokevirtual 59, 3) := by decide +kernel
theorem dX6_begin_27 : decode cX6_begin 27 = .ok (.aload_n 0, 1) := by decide +kernel
theorem dX6_begin_28 : decode cX6_begin 28 = .ok (.getfield 23, 3) := by decide +kernel
theorem dX6_begin_31 : decode cX6_begin 31 = .ok (.aload_n 0, 1) := by decide +kernel
theorem dX6_begin_32 : decode cX6_begin 32 = .ok (.getfield 44, 3) := by decide +kernel
theorem dX6_begin_35 : decode cX6_begin 35 = .ok (.iconst 0, 1) := by decide +kernel
theorem dX6_begin_36 : decode cX6_begin 36 = .ok (.invokevirtual 59, 3) := by decide +kernel
theorem dX6_begin_39 : decode cX6_begin 39 = .ok (.aload_n 0, 1) := by decide +kernel
theorem dX6_begin_40 : decode cX6_begin 40 = .ok (.getfield 26, 3) := by decide +kernel
theorem dX6_begin_43 : decode cX6_begin 43 = .ok (.aload_n 0, 1) := by decide +kernel
theorem dX6_begin_44 : decode cX6_begin 44 = .ok (.getfield 44, 3) := by decide +kernel
theorem dX6_begin_47 : decode cX6_begin 47 = .ok (.iconst 0, 1) := by decide +kernel
theorem dX6_begin_48 : decode cX6_begin 48 = .ok (.invokevirtual 59, 3) := by decide +kernel
theorem dX6_begin_51 : decode cX6_begin 51 = .ok (.aload_n 0, 1) := by decide +kernel
theorem dX6_begin_52 : decode cX6_begin 52 = .ok (.dup, 1) := by decide +kernel
theorem dX6_begin_53 : decode cX6_begin 53 = .ok (.getfield 44, 3) := by decide +kernel
theorem dX6_begin_56 : decode cX6_begin 56 = .ok (.iconst 1, 1) := by decide +kernel
theorem dX6_begin_57 : decode cX6_begin 57 = .ok (.iadd, 1) := by decide +kernel
theorem dX6_begin_58 : decode cX6_begin 58 = .ok (.putfield 44, 3) := by decide +kernel
theorem dX6_begin_61 : decode cX6_begin 61 = .ok (.return_, 1) := by decide +kernel
def mX6_begin (x1 : Int32) (t : zS) : zR := zbd (mX5_set 32 1600 x1 (t 4 10) t) fun r473 t474 => zbd (mX5_set 34 400 (t474 4 10) (t474 4 9) t474) fun r476 t477 => zbd (mX5_set 36 400 (t477 4 10) 0 t477) fun r479 t480 => zbd (mX5_set 38 400 (t480 4 10) 0 t480) fun r482 t483 => zpt t483 4 10 ((t483 4 10) + 1) fun t485 => some (0, t485)
set_option maxHeartbeats 4000000 in
set_option maxRecDepth 20000 in
theorem ctX6_begin {E : zE} {f : Nat} (hf : 2 ≤ f) {x1 : Int32} {t : zS} {ro : Int32 × zS} (hF : mX6_begin  x1 t = some ro) : zM E shC f yX6_begin cX6_begin 2 none [.ref (za E 4), .int x1] t ro := by
  refine zM_of (by decide) (Nat.le_of_ble_eq_true rfl) (fun C => ?_)
  show zJ E shC C cX6_begin RX6 2 f none ro t 0 [(0, .ref (za E 4)), (1, .int x1)] []
  unfold mX6_begin at hF
  refine z_aload_n 0 dX6_begin_0 rfl rfl ?_
  refine z_getr fr_RX6_14 dX6_begin_1 ?_
  refine z_iload_n 1 dX6_begin_4 rfl rfl ?_
  refine z_aload_n 0 dX6_begin_5 rfl rfl ?_
  refine z_geti fi_RX6_44 dX6_begin_6 ?_
  obtain ⟨r473, t474, hc475, hF⟩ := zbd_at hF
  refine z_callVv (ctX5_set (E := E) (sh := shC) (f := f - 1) (by omega) (k := 32) (n := 1600) rfl rfl hc475) yy_X5_set yv_X5_set ob_C_32 lk_RX6_59 (by omega) rfl rfl (Nat.le_of_ble_eq_true rfl) dX6_begin_9 ?_
  refine z_aload_n 0 dX6_begin_12 rfl rfl ?_
  refine z_getr fr_RX6_20 dX6_begin_13 ?_
  refine z_aload_n 0 dX6_begin_16 rfl rfl ?_
  refine z_geti fi_RX6_44 dX6_begin_17 ?_
  refine z_aload_n 0 dX6_begin_20 rfl rfl ?_
  refine z_geti fi_RX6_48 dX6_begin_21 ?_
  obtain ⟨r476, t477, hc478, hF⟩ := zbd_at hF
  refine z_callVv (ctX5_set (E := E) (sh := shC) (f := f - 1) (by omega) (k := 34) (n := 400) rfl rfl hc478) yy_X5_set yv_X5_set ob_C_34 lk_RX6_59 (by omega) rfl rfl (Nat.le_of_ble_eq_true rfl) dX6_begin_24 ?_
  refine z_aload_n 0 dX6_begin_27 rfl rfl ?_
  refine z_getr fr_RX6_23 dX6_begin_28 ?_
  refine z_aload_n 0 dX6_begin_31 rfl rfl ?_
  refine z_geti fi_RX6_44 dX6_begin_32 ?_
  refine z_iconst (v := 0) dX6_begin_35 (by decide) ?_
  obtain ⟨r479, t480, hc481, hF⟩ := zbd_at hF
  refine z_callVv (ctX5_set (E := E) (sh := shC) (f := f - 1) (by omega) (k := 36) (n := 400) rfl rfl hc481) yy_X5_set yv_X5_set ob_C_36 lk_RX6_59 (by omega) rfl rfl (Nat.le_of_ble_eq_true rfl) dX6_begin_36 ?_
  refine z_aload_n 0 dX6_begin_39 rfl rfl ?_
  refine z_getr fr_RX6_26 dX6_begin_40 ?_
  refine z_aload_n 0 dX6_begin_43 rfl rfl ?_
  refine z_geti fi_RX6_44 dX6_begin_44 ?_
  refine z_iconst (v := 0) dX6_begin_47 (by decide) ?_
  obtain ⟨r482, t483, hc484, hF⟩ := zbd_at hF
  refine z_callVv (ctX5_set (E := E) (sh := shC) (f := f - 1) (by omega) (k := 38) (n := 400) rfl rfl hc484) yy_X5_set yv_X5_set ob_C_38 lk_RX6_59 (by omega) rfl rfl (Nat.le_of_ble_eq_true rfl) dX6_begin_48 ?_
  refine z_aload_n 0 dX6_begin_51 rfl rfl ?_
  refine z_dup dX6_begin_52 rfl ?_
  refine z_geti fi_RX6_44 dX6_begin_53 ?_
  refine z_iconst (v := 1) dX6_begin_56 (by decide) ?_
  refine z_iadd dX6_begin_57 ?_
  refine z_puti fw_RX6_44 dX6_begin_58 (fun t485 et485 => ?_)
  have hF := zpt_at hF t485 et485
  exact z_vret hF dX6_begin_61
-- SessionHouse$Procs.hasSlot(I)Z
theorem dX6_hasSlot_0 : decode cX6_hasSlot 0 = .ok (.aload_n 0, 1) := by decide +kernel
theorem dX6_hasSlot_1 : decode cX6_hasSlot 1 = .ok (.getfield 41, 3) := by decide +kernel
theorem dX6_hasSlot_4 : decode cX6_hasSlot 4 = .ok (.iload_n 1, 1) := by decide +kernel
theorem dX6_hasSlot_5 : decode cX6_hasSlot 5 = .ok (.invokevirtual 55, 3) := by decide +kernel
theorem dX6_hasSlot_8 : decode cX6_hasSlot 8 = .ok (.aload_n 0, 1) := by decide +kernel
theorem dX6_hasSlot_9 : decode cX6_hasSlot 9 = .ok (.getfield 44, 3) := by decide +kernel
theorem dX6_hasSlot_12 : decode cX6_hasSlot 12 = .ok (.iconst 1, 1) := by decide +kernel
theorem dX6_hasSlot_13 : decode cX6_hasSlot 13 = .ok (.isub, 1) := by decide +kernel
theorem dX6_hasSlot_14 : decode cX6_hasSlot 14 = .ok (.if_icmp .ne 7, 3) := by decide +kernel
theorem dX6_hasSlot_17 : decode cX6_hasSlot 17 = .ok (.iconst 1, 1) := by decide +kernel
theorem dX6_hasSlot_18 : decode cX6_hasSlot 18 = .ok (.goto 4, 3) := by decide +kernel
theorem dX6_hasSlot_21 : decode cX6_hasSlot 21 = .ok (.iconst 0, 1) := by decide +kernel
theorem dX6_hasSlot_22 : decode cX6_hasSlot 22 = .ok (.ireturn, 1) := by decide +kernel
def mX6_hasSlot (x1 : Int32) (t : zS) : zR := zbd (mX5_get 48 1600 x1 t) fun r486 t487 => if r486 = ((t487 4 10) - 1) then some (1, t487) else some (0, t487)
set_option maxHeartbeats 4000000 in
set_option maxRecDepth 20000 in
theorem ctX6_hasSlot {E : zE} {f : Nat} (hf : 2 ≤ f) {x1 : Int32} {t : zS} {ro : Int32 × zS} (hF : mX6_hasSlot  x1 t = some ro) : zM E shC f yX6_hasSlot cX6_hasSlot 2 (some .boolean) [.ref (za E 4), .int x1] t ro := by
  refine zM_of (by decide) (Nat.le_of_ble_eq_true rfl) (fun C => ?_)
  show zJ E shC C cX6_hasSlot RX6 2 f (some .boolean) ro t 0 [(0, .ref (za E 4)), (1, .int x1)] []
  unfold mX6_hasSlot at hF
  refine z_aload_n 0 dX6_hasSlot_0 rfl rfl ?_
  refine z_getr fr_RX6_41 dX6_hasSlot_1 ?_
  refine z_iload_n 1 dX6_hasSlot_4 rfl rfl ?_
  obtain ⟨r486, t487, hc488, hF⟩ := zbd_at hF
  refine z_callVi (ctX5_get (E := E) (sh := shC) (f := f - 1) (by omega) (k := 48) (n := 1600) rfl rfl hc488) yy_X5_get yv_X5_get ob_C_48 lk_RX6_55 (by omega) rfl rfl (Nat.le_of_ble_eq_true rfl) dX6_hasSlot_5 ?_
  refine z_aload_n 0 dX6_hasSlot_8 rfl rfl ?_
  refine z_geti fi_RX6_44 dX6_hasSlot_9 ?_
  refine z_iconst (v := 1) dX6_hasSlot_12 (by decide) ?_
  refine z_isub dX6_hasSlot_13 ?_
  refine z_icmp_ne (tgt := 21) dX6_hasSlot_14 (by decide) (fun hc => ?_) (fun hc => ?_)
  · have hF := zif_f hc hF
    refine z_iconst (v := 0) dX6_hasSlot_21 (by decide) ?_
    exact z_zret hF (by decide) dX6_hasSlot_22
  · have hF := zif_t hc hF
    refine z_iconst (v := 1) dX6_hasSlot_17 (by decide) ?_
    refine z_goto (tgt := 22) dX6_hasSlot_18 (by decide) ?_
    exact z_zret hF (by decide) dX6_hasSlot_22
